theorem dX0_init_0 : decode cX0_init 0 = .ok (.aload_n 0, 1) := by decide +kernel
theorem dX0_init_1 : decode cX0_init 1 = .ok (.invokespecial 3, 3) := by decide +kernel
theorem dX0_init_4 : decode cX0_init 4 = .ok (.aload_n 0, 1) := by decide +kernel
theorem dX0_init_5 : decode cX0_init 5 = .ok (.bipush 40, 2) := by decide +kernel
theorem dX0_init_7 : decode cX0_init 7 = .ok (.newarray .int, 2) := by decide +kernel
theorem dX0_init_9 : decode cX0_init 9 = .ok (.putfield 9, 3) := by decide +kernel
theorem dX0_init_12 : decode cX0_init 12 = .ok (.aload_n 0, 1) := by decide +kernel
theorem dX0_init_13 : decode cX0_init 13 = .ok (.bipush 40, 2) := by decide +kernel
theorem dX0_init_15 : decode cX0_init 15 = .ok (.newarray .int, 2) := by decide +kernel
theorem dX0_init_17 : decode cX0_init 17 = .ok (.putfield 15, 3) := by decide +kernel
theorem dX0_init_20 : decode cX0_init 20 = .ok (.aload_n 0, 1) := by decide +kernel
theorem dX0_init_21 : decode cX0_init 21 = .ok (.bipush 40, 2) := by decide +kernel
theorem dX0_init_23 : decode cX0_init 23 = .ok (.newarray .int, 2) := by decide +kernel
theorem dX0_init_25 : decode cX0_init 25 = .ok (.putfield 18, 3) := by decide +kernel
theorem dX0_init_28 : decode cX0_init 28 = .ok (.aload_n 0, 1) := by decide +kernel
theorem dX0_init_29 : decode cX0_init 29 = .ok (.bipush 40, 2) := by decide +kernel
theorem dX0_init_31 : decode cX0_init 31 = .ok (.newarray .int, 2) := by decide +kernel
theorem dX0_init_33 : decode cX0_init 33 = .ok (.putfield 21, 3) := by decide +kernel
theorem dX0_init_36 : decode cX0_init 36 = .ok (.aload_n 0, 1) := by decide +kernel
theorem dX0_init_37 : decode cX0_init 37 = .ok (.bipush 40, 2) := by decide +kernel
theorem dX0_init_39 : decode cX0_init 39 = .ok (.newarray .int, 2) := by decide +kernel
theorem dX0_init_41 : decode cX0_init 41 = .ok (.putfield 24, 3) := by decide +kernel
theorem dX0_init_44 : decode cX0_init 44 = .ok (.return_, 1) := by decide +kernel
theorem dX0_copyFrom_0 : decode cX0_copyFrom 0 = .ok (.aload_n 1, 1) := by decide +kernel
theorem dX0_copyFrom_1 : decode cX0_copyFrom 1 = .ok (.getfield 9, 3) := by decide +kernel
theorem dX0_copyFrom_4 : decode cX0_copyFrom 4 = .ok (.iconst 0, 1) := by decide +kernel
theorem dX0_copyFrom_5 : decode cX0_copyFrom 5 = .ok (.aload_n 0, 1) := by decide +kernel
theorem dX0_copyFrom_6 : decode cX0_copyFrom 6 = .ok (.getfield 9, 3) := by decide +kernel
theorem dX0_copyFrom_9 : decode cX0_copyFrom 9 = .ok (.iconst 0, 1) := by decide +kernel
theorem dX0_copyFrom_10 : decode cX0_copyFrom 10 = .ok (.bipush 40, 2) := by decide +kernel
theorem dX0_copyFrom_12 : decode cX0_copyFrom 12 = .ok (.invokestatic 27, 3) := by decide +kernel
theorem dX0_copyFrom_15 : decode cX0_copyFrom 15 = .ok (.aload_n 1, 1) := by decide +kernel
theorem dX0_copyFrom_16 : decode cX0_copyFrom 16 = .ok (.getfield 15, 3) := by decide +kernel
theorem dX0_copyFrom_19 : decode cX0_copyFrom 19 = .ok (.iconst 0, 1) := by decide +kernel
theorem dX0_copyFrom_20 : decode cX0_copyFrom 20 = .ok (.aload_n 0, 1) := by decide +kernel
theorem dX0_copyFrom_21 : decode cX0_copyFrom 21 = .ok (.getfield 15, 3) := by decide +kernel
theorem dX0_copyFrom_24 : decode cX0_copyFrom 24 = .ok (.iconst 0, 1) := by decide +kernel
theorem dX0_copyFrom_25 : decode cX0_copyFrom 25 = .ok (.bipush 40, 2) := by decide +kernel
theorem dX0_copyFrom_27 : decode cX0_copyFrom 27 = .ok (.invokestatic 27, 3) := by decide +kernel
theorem dX0_copyFrom_30 : decode cX0_copyFrom 30 = .ok (.aload_n 1, 1) := by decide +kernel
theorem dX0_copyFrom_31 : decode cX0_copyFrom 31 = .ok (.getfield 18, 3) := by decide +kernel
theorem dX0_copyFrom_34 : decode cX0_copyFrom 34 = .ok (.iconst 0, 1) := by decide +kernel
theorem dX0_copyFrom_35 : decode cX0_copyFrom 35 = .ok (.aload_n 0, 1) := by decide +kernel
theorem dX0_copyFrom_36 : decode cX0_copyFrom 36 = .ok (.getfield 18, 3) := by decide +kernel
theorem dX0_copyFrom_39 : decode cX0_copyFrom 39 = .ok (.iconst 0, 1) := by decide +kernel
theorem dX0_copyFrom_40 : decode cX0_copyFrom 40 = .ok (.bipush 40, 2) := by decide +kernel
theorem dX0_copyFrom_42 : decode cX0_copyFrom 42 = .ok (.invokestatic 27, 3) := by decide +kernel
theorem dX0_copyFrom_45 : decode cX0_copyFrom 45 = .ok (.aload_n 1, 1) := by decide +kernel
theorem dX0_copyFrom_46 : decode cX0_copyFrom 46 = .ok (.getfield 21, 3) := by decide +kernel
theorem dX0_copyFrom_49 : decode cX0_copyFrom 49 = .ok (.iconst 0, 1) := by decide +kernel
theorem dX0_copyFrom_50 : decode cX0_copyFrom 50 = .ok (.aload_n 0, 1) := by decide +kernel
theorem dX0_copyFrom_51 : decode cX0_copyFrom 51 = .ok (.getfield 21, 3) := by decide +kernel
theorem dX0_copyFrom_54 : decode cX0_copyFrom 54 = .ok (.iconst 0, 1) := by decide +kernel
theorem dX0_copyFrom_55 : decode cX0_copyFrom 55 = .ok (.bipush 40, 2) := by decide +kernel
theorem dX0_copyFrom_57 : decode cX0_copyFrom 57 = .ok (.invokestatic 27, 3) := by decide +kernel
theorem dX0_copyFrom_60 : decode cX0_copyFrom 60 = .ok (.aload_n 1, 1) := by decide +kernel
theorem dX0_copyFrom_61 : decode cX0_copyFrom 61 = .ok (.getfield 24, 3) := by decide +kernel
theorem dX0_copyFrom_64 : decode cX0_copyFrom 64 = .ok (.iconst 0, 1) := by decide +kernel
theorem dX0_copyFrom_65 : decode cX0_copyFrom 65 = .ok (.aload_n 0, 1) := by decide +kernel
theorem dX0_copyFrom_66 : decode cX0_copyFrom 66 = .ok (.getfield 24, 3) := by decide +kernel
theorem dX0_copyFrom_69 : decode cX0_copyFrom 69 = .ok (.iconst 0, 1) := by decide +kernel
theorem dX0_copyFrom_70 : decode cX0_copyFrom 70 = .ok (.bipush 40, 2) := by decide +kernel
theorem dX0_copyFrom_72 : decode cX0_copyFrom 72 = .ok (.invokestatic 27, 3) := by decide +kernel
theorem dX0_copyFrom_75 : decode cX0_copyFrom 75 = .ok (.aload_n 0, 1) := by decide +kernel
theorem dX0_copyFrom_76 : decode cX0_copyFrom 76 = .ok (.aload_n 1, 1) := by decide +kernel
theorem dX0_copyFrom_77 : decode cX0_copyFrom 77 = .ok (.getfield 33, 3) := by decide +kernel
theorem dX0_copyFrom_80 : decode cX0_copyFrom 80 = .ok (.putfield 33, 3) := by decide +kernel
theorem dX0_copyFrom_83 : decode cX0_copyFrom 83 = .ok (.return_, 1) := by decide +kernel
theorem dX0_readFrom_0 : decode cX0_readFrom 0 = .ok (.aload_n 0, 1) := by decide +kernel
theorem dX0_readFrom_1 : decode cX0_readFrom 1 = .ok (.iconst 0, 1) := by decide +kernel
theorem dX0_readFrom_2 : decode cX0_readFrom 2 = .ok (.putfield 33, 3) := by decide +kernel
theorem dX0_readFrom_5 : decode cX0_readFrom 5 = .ok (.aload_n 1, 1) := by decide +kernel
theorem dX0_readFrom_6 : decode cX0_readFrom 6 = .ok (.invokevirtual 37, 3) := by decide +kernel
theorem dX0_readFrom_9 : decode cX0_readFrom 9 = .ok (.iconst 0, 1) := by decide +kernel
theorem dX0_readFrom_10 : decode cX0_readFrom 10 = .ok (.istore_n 3, 1) := by decide +kernel
theorem dX0_readFrom_11 : decode cX0_readFrom 11 = .ok (.iload_n 3, 1) := by decide +kernel
theorem dX0_readFrom_12 : decode cX0_readFrom 12 = .ok (.sipush 600, 3) := by decide +kernel
theorem dX0_readFrom_15 : decode cX0_readFrom 15 = .ok (.if_icmp .gt 99, 3) := by decide +kernel
theorem dX0_readFrom_18 : decode cX0_readFrom 18 = .ok (.aload_n 1, 1) := by decide +kernel
theorem dX0_readFrom_19 : decode cX0_readFrom 19 = .ok (.invokevirtual 42, 3) := by decide +kernel
theorem dX0_readFrom_22 : decode cX0_readFrom 22 = .ok (.aload_n 1, 1) := by decide +kernel
theorem dX0_readFrom_23 : decode cX0_readFrom 23 = .ok (.invokevirtual 45, 3) := by decide +kernel
theorem dX0_readFrom_26 : decode cX0_readFrom 26 = .ok (.ifCond .eq 8, 3) := by decide +kernel
theorem dX0_readFrom_29 : decode cX0_readFrom 29 = .ok (.aload_n 1, 1) := by decide +kernel
theorem dX0_readFrom_30 : decode cX0_readFrom 30 = .ok (.invokevirtual 49, 3) := by decide +kernel
theorem dX0_readFrom_33 : decode cX0_readFrom 33 = .ok (.ireturn, 1) := by decide +kernel
theorem dX0_readFrom_34 : decode cX0_readFrom 34 = .ok (.aload_n 1, 1) := by decide +kernel
theorem dX0_readFrom_35 : decode cX0_readFrom 35 = .ok (.invokestatic 52, 3) := by decide +kernel
theorem dX0_readFrom_38 : decode cX0_readFrom 38 = .ok (.istore 4, 2) := by decide +kernel
theorem dX0_readFrom_40 : decode cX0_readFrom 40 = .ok (.iload 4, 2) := by decide +kernel
theorem dX0_readFrom_42 : decode cX0_readFrom 42 = .ok (.iconst (-1), 1) := by decide +kernel
theorem dX0_readFrom_43 : decode cX0_readFrom 43 = .ok (.if_icmp .ne 9, 3) := by decide +kernel
theorem dX0_readFrom_46 : decode cX0_readFrom 46 = .ok (.aload_n 1, 1) := by decide +kernel
theorem dX0_readFrom_47 : decode cX0_readFrom 47 = .ok (.iconst 1, 1) := by decide +kernel
theorem dX0_readFrom_48 : decode cX0_readFrom 48 = .ok (.invokevirtual 56, 3) := by decide +kernel
theorem dX0_readFrom_51 : decode cX0_readFrom 51 = .ok (.ireturn, 1) := by decide +kernel
theorem dX0_readFrom_52 : decode cX0_readFrom 52 = .ok (.aload_n 0, 1) := by decide +kernel
theorem dX0_readFrom_53 : decode cX0_readFrom 53 = .ok (.getfield 33, 3) := by decide +kernel
theorem dX0_readFrom_56 : decode cX0_readFrom 56 = .ok (.bipush 40, 2) := by decide +kernel
theorem dX0_readFrom_58 : decode cX0_readFrom 58 = .ok (.if_icmp .lt 9, 3) := by decide +kernel
theorem dX0_readFrom_61 : decode cX0_readFrom 61 = .ok (.aload_n 1, 1) := by decide +kernel
theorem dX0_readFrom_62 : decode cX0_readFrom 62 = .ok (.iconst 4, 1) := by decide +kernel
theorem dX0_readFrom_63 : decode cX0_readFrom 63 = .ok (.invokevirtual 56, 3) := by decide +kernel
theorem dX0_readFrom_66 : decode cX0_readFrom 66 = .ok (.ireturn, 1) := by decide +kernel
theorem dX0_readFrom_67 : decode cX0_readFrom 67 = .ok (.aload_n 0, 1) := by decide +kernel
theorem dX0_readFrom_68 : decode cX0_readFrom 68 = .ok (.getfield 9, 3) := by decide +kernel
theorem dX0_readFrom_71 : decode cX0_readFrom 71 = .ok (.aload_n 0, 1) := by decide +kernel
theorem dX0_readFrom_72 : decode cX0_readFrom 72 = .ok (.getfield 33, 3) := by decide +kernel
theorem dX0_readFrom_75 : decode cX0_readFrom 75 = .ok (.iload 4, 2) := by decide +kernel
theorem dX0_readFrom_77 : decode cX0_readFrom 77 = .ok (.iastore, 1) := by decide +kernel
theorem dX0_readFrom_78 : decode cX0_readFrom 78 = .ok (.aload_n 0, 1) := by decide +kernel
theorem dX0_readFrom_79 : decode cX0_readFrom 79 = .ok (.aload_n 1, 1) := by decide +kernel
theorem dX0_readFrom_80 : decode cX0_readFrom 80 = .ok (.aload_n 2, 1) := by decide +kernel
theorem dX0_readFrom_81 : decode cX0_readFrom 81 = .ok (.iload 4, 2) := by decide +kernel
theorem dX0_readFrom_83 : decode cX0_readFrom 83 = .ok (.invokevirtual 60, 3) := by decide +kernel
theorem dX0_readFrom_86 : decode cX0_readFrom 86 = .ok (.ifCond .eq 10, 3) := by decide +kernel
theorem dX0_readFrom_89 : decode cX0_readFrom 89 = .ok (.aload_n 1, 1) := by decide +kernel
theorem dX0_readFrom_90 : decode cX0_readFrom 90 = .ok (.invokevirtual 64, 3) := by decide +kernel
theorem dX0_readFrom_93 : decode cX0_readFrom 93 = .ok (.ifCond .ne 5, 3) := by decide +kernel
theorem dX0_readFrom_96 : decode cX0_readFrom 96 = .ok (.iconst 0, 1) := by decide +kernel
theorem dX0_readFrom_97 : decode cX0_readFrom 97 = .ok (.ireturn, 1) := by decide +kernel
theorem dX0_readFrom_98 : decode cX0_readFrom 98 = .ok (.aload_n 0, 1) := by decide +kernel
theorem dX0_readFrom_99 : decode cX0_readFrom 99 = .ok (.dup, 1) := by decide +kernel
theorem dX0_readFrom_100 : decode cX0_readFrom 100 = .ok (.getfield 33, 3) := by decide +kernel
theorem dX0_readFrom_103 : decode cX0_readFrom 103 = .ok (.iconst 1, 1) := by decide +kernel
theorem dX0_readFrom_104 : decode cX0_readFrom 104 = .ok (.iadd, 1) := by decide +kernel
theorem dX0_readFrom_105 : decode cX0_readFrom 105 = .ok (.putfield 33, 3) := by decide +kernel
theorem dX0_readFrom_108 : decode cX0_readFrom 108 = .ok (.iinc 3 1, 3) := by decide +kernel
theorem dX0_readFrom_111 : decode cX0_readFrom 111 = .ok (.goto (-100), 3) := by decide +kernel
theorem dX0_readFrom_114 : decode cX0_readFrom 114 = .ok (.iconst 0, 1) := by decide +kernel
theorem dX0_readFrom_115 : decode cX0_readFrom 115 = .ok (.ireturn, 1) := by decide +kernel
theorem dX0_actTold_0 : decode cX0_actTold 0 = .ok (.aload_n 0, 1) := by decide +kernel
theorem dX0_actTold_1 : decode cX0_actTold 1 = .ok (.ldc2_w 67, 3) := by decide +kernel
theorem dX0_actTold_4 : decode cX0_actTold 4 = .ok (.invokevirtual 69, 3) := by decide +kernel
theorem dX0_actTold_7 : decode cX0_actTold 7 = .ok (.ifCond .eq 5, 3) := by decide +kernel
theorem dX0_actTold_10 : decode cX0_actTold 10 = .ok (.iconst 0, 1) := by decide +kernel
theorem dX0_actTold_11 : decode cX0_actTold 11 = .ok (.ireturn, 1) := by decide +kernel
theorem dX0_actTold_12 : decode cX0_actTold 12 = .ok (.aload_n 0, 1) := by decide +kernel
theorem dX0_actTold_13 : decode cX0_actTold 13 = .ok (.ldc2_w 73, 3) := by decide +kernel
theorem dX0_actTold_16 : decode cX0_actTold 16 = .ok (.invokevirtual 69, 3) := by decide +kernel
theorem dX0_actTold_19 : decode cX0_actTold 19 = .ok (.ifCond .eq 5, 3) := by decide +kernel
theorem dX0_actTold_22 : decode cX0_actTold 22 = .ok (.iconst 1, 1) := by decide +kernel
theorem dX0_actTold_23 : decode cX0_actTold 23 = .ok (.ireturn, 1) := by decide +kernel
theorem dX0_actTold_24 : decode cX0_actTold 24 = .ok (.aload_n 0, 1) := by decide +kernel
theorem dX0_actTold_25 : decode cX0_actTold 25 = .ok (.ldc2_w 75, 3) := by decide +kernel
theorem dX0_actTold_28 : decode cX0_actTold 28 = .ok (.invokevirtual 69, 3) := by decide +kernel
theorem dX0_actTold_31 : decode cX0_actTold 31 = .ok (.ifCond .eq 5, 3) := by decide +kernel
theorem dX0_actTold_34 : decode cX0_actTold 34 = .ok (.iconst 2, 1) := by decide +kernel
theorem dX0_actTold_35 : decode cX0_actTold 35 = .ok (.ireturn, 1) := by decide +kernel
theorem dX0_actTold_36 : decode cX0_actTold 36 = .ok (.aload_n 0, 1) := by decide +kernel
theorem dX0_actTold_37 : decode cX0_actTold 37 = .ok (.ldc2_w 77, 3) := by decide +kernel
theorem dX0_actTold_40 : decode cX0_actTold 40 = .ok (.invokevirtual 69, 3) := by decide +kernel
theorem dX0_actTold_43 : decode cX0_actTold 43 = .ok (.ifCond .eq 5, 3) := by decide +kernel
theorem dX0_actTold_46 : decode cX0_actTold 46 = .ok (.iconst 3, 1) := by decide +kernel
theorem dX0_actTold_47 : decode cX0_actTold 47 = .ok (.ireturn, 1) := by decide +kernel
theorem dX0_actTold_48 : decode cX0_actTold 48 = .ok (.aload_n 0, 1) := by decide +kernel
theorem dX0_actTold_49 : decode cX0_actTold 49 = .ok (.ldc2_w 79, 3) := by decide +kernel
theorem dX0_actTold_52 : decode cX0_actTold 52 = .ok (.invokevirtual 69, 3) := by decide +kernel
theorem dX0_actTold_55 : decode cX0_actTold 55 = .ok (.ifCond .eq 5, 3) := by decide +kernel
theorem dX0_actTold_58 : decode cX0_actTold 58 = .ok (.iconst 4, 1) := by decide +kernel
theorem dX0_actTold_59 : decode cX0_actTold 59 = .ok (.ireturn, 1) := by decide +kernel
theorem dX0_actTold_60 : decode cX0_actTold 60 = .ok (.aload_n 0, 1) := by decide +kernel
theorem dX0_actTold_61 : decode cX0_actTold 61 = .ok (.ldc2_w 81, 3) := by decide +kernel
theorem dX0_actTold_64 : decode cX0_actTold 64 = .ok (.invokevirtual 69, 3) := by decide +kernel
theorem dX0_actTold_67 : decode cX0_actTold 67 = .ok (.ifCond .eq 7, 3) := by decide +kernel
theorem dX0_actTold_70 : decode cX0_actTold 70 = .ok (.iconst 5, 1) := by decide +kernel
theorem dX0_actTold_71 : decode cX0_actTold 71 = .ok (.goto 4, 3) := by decide +kernel
theorem dX0_actTold_74 : decode cX0_actTold 74 = .ok (.iconst (-1), 1) := by decide +kernel
theorem dX0_actTold_75 : decode cX0_actTold 75 = .ok (.ireturn, 1) := by decide +kernel
theorem dX0_readRest_0 : decode cX0_readRest 0 = .ok (.iload_n 3, 1) := by decide +kernel
theorem dX0_readRest_1 : decode cX0_readRest 1 = .ok (.tableswitch 94 0 4 #[35, 59, 65, 94, 87], 35) := by decide +kernel
theorem dX0_readRest_36 : decode cX0_readRest 36 = .ok (.aload_n 0, 1) := by decide +kernel
theorem dX0_readRest_37 : decode cX0_readRest 37 = .ok (.aload_n 1, 1) := by decide +kernel
theorem dX0_readRest_38 : decode cX0_readRest 38 = .ok (.aload_n 2, 1) := by decide +kernel
theorem dX0_readRest_39 : decode cX0_readRest 39 = .ok (.invokevirtual 83, 3) := by decide +kernel
theorem dX0_readRest_42 : decode cX0_readRest 42 = .ok (.ifCond .eq 16, 3) := by decide +kernel
theorem dX0_readRest_45 : decode cX0_readRest 45 = .ok (.aload_n 0, 1) := by decide +kernel
theorem dX0_readRest_46 : decode cX0_readRest 46 = .ok (.aload_n 1, 1) := by decide +kernel
theorem dX0_readRest_47 : decode cX0_readRest 47 = .ok (.aload_n 2, 1) := by decide +kernel
theorem dX0_readRest_48 : decode cX0_readRest 48 = .ok (.invokevirtual 87, 3) := by decide +kernel
theorem dX0_readRest_51 : decode cX0_readRest 51 = .ok (.ifCond .eq 7, 3) := by decide +kernel
theorem dX0_readRest_54 : decode cX0_readRest 54 = .ok (.iconst 1, 1) := by decide +kernel
theorem dX0_readRest_55 : decode cX0_readRest 55 = .ok (.goto 4, 3) := by decide +kernel
theorem dX0_readRest_58 : decode cX0_readRest 58 = .ok (.iconst 0, 1) := by decide +kernel
theorem dX0_readRest_59 : decode cX0_readRest 59 = .ok (.ireturn, 1) := by decide +kernel
theorem dX0_readRest_60 : decode cX0_readRest 60 = .ok (.aload_n 0, 1) := by decide +kernel
theorem dX0_readRest_61 : decode cX0_readRest 61 = .ok (.aload_n 1, 1) := by decide +kernel
theorem dX0_readRest_62 : decode cX0_readRest 62 = .ok (.invokevirtual 90, 3) := by decide +kernel
theorem dX0_readRest_65 : decode cX0_readRest 65 = .ok (.ireturn, 1) := by decide +kernel
theorem dX0_readRest_66 : decode cX0_readRest 66 = .ok (.aload_n 0, 1) := by decide +kernel
theorem dX0_readRest_67 : decode cX0_readRest 67 = .ok (.aload_n 1, 1) := by decide +kernel
theorem dX0_readRest_68 : decode cX0_readRest 68 = .ok (.invokevirtual 90, 3) := by decide +kernel
theorem dX0_readRest_71 : decode cX0_readRest 71 = .ok (.ifCond .eq 15, 3) := by decide +kernel
theorem dX0_readRest_74 : decode cX0_readRest 74 = .ok (.aload_n 0, 1) := by decide +kernel
theorem dX0_readRest_75 : decode cX0_readRest 75 = .ok (.aload_n 1, 1) := by decide +kernel
theorem dX0_readRest_76 : decode cX0_readRest 76 = .ok (.invokevirtual 94, 3) := by decide +kernel
theorem dX0_readRest_79 : decode cX0_readRest 79 = .ok (.ifCond .eq 7, 3) := by decide +kernel
theorem dX0_readRest_82 : decode cX0_readRest 82 = .ok (.iconst 1, 1) := by decide +kernel
theorem dX0_readRest_83 : decode cX0_readRest 83 = .ok (.goto 4, 3) := by decide +kernel
theorem dX0_readRest_86 : decode cX0_readRest 86 = .ok (.iconst 0, 1) := by decide +kernel
theorem dX0_readRest_87 : decode cX0_readRest 87 = .ok (.ireturn, 1) := by decide +kernel
theorem dX0_readRest_88 : decode cX0_readRest 88 = .ok (.aload_n 0, 1) := by decide +kernel
theorem dX0_readRest_89 : decode cX0_readRest 89 = .ok (.aload_n 1, 1) := by decide +kernel
theorem dX0_readRest_90 : decode cX0_readRest 90 = .ok (.aload_n 2, 1) := by decide +kernel
theorem dX0_readRest_91 : decode cX0_readRest 91 = .ok (.invokevirtual 83, 3) := by decide +kernel
theorem dX0_readRest_94 : decode cX0_readRest 94 = .ok (.ireturn, 1) := by decide +kernel
theorem dX0_readRest_95 : decode cX0_readRest 95 = .ok (.iconst 1, 1) := by decide +kernel
theorem dX0_readRest_96 : decode cX0_readRest 96 = .ok (.ireturn, 1) := by decide +kernel
theorem dX0_readTwoBodies_0 : decode cX0_readTwoBodies 0 = .ok (.aload_n 1, 1) := by decide +kernel
theorem dX0_readTwoBodies_1 : decode cX0_readTwoBodies 1 = .ok (.aload_n 2, 1) := by decide +kernel
theorem dX0_readTwoBodies_2 : decode cX0_readTwoBodies 2 = .ok (.invokevirtual 97, 3) := by decide +kernel
theorem dX0_readTwoBodies_5 : decode cX0_readTwoBodies 5 = .ok (.ifCond .ne 5, 3) := by decide +kernel
theorem dX0_readTwoBodies_8 : decode cX0_readTwoBodies 8 = .ok (.iconst 0, 1) := by decide +kernel
theorem dX0_readTwoBodies_9 : decode cX0_readTwoBodies 9 = .ok (.ireturn, 1) := by decide +kernel
theorem dX0_readTwoBodies_10 : decode cX0_readTwoBodies 10 = .ok (.aload_n 0, 1) := by decide +kernel
theorem dX0_readTwoBodies_11 : decode cX0_readTwoBodies 11 = .ok (.getfield 15, 3) := by decide +kernel
theorem dX0_readTwoBodies_14 : decode cX0_readTwoBodies 14 = .ok (.aload_n 0, 1) := by decide +kernel
theorem dX0_readTwoBodies_15 : decode cX0_readTwoBodies 15 = .ok (.getfield 33, 3) := by decide +kernel
theorem dX0_readTwoBodies_18 : decode cX0_readTwoBodies 18 = .ok (.aload_n 1, 1) := by decide +kernel
theorem dX0_readTwoBodies_19 : decode cX0_readTwoBodies 19 = .ok (.getfield 101, 3) := by decide +kernel
theorem dX0_readTwoBodies_22 : decode cX0_readTwoBodies 22 = .ok (.iastore, 1) := by decide +kernel
theorem dX0_readTwoBodies_23 : decode cX0_readTwoBodies 23 = .ok (.aload_n 1, 1) := by decide +kernel
theorem dX0_readTwoBodies_24 : decode cX0_readTwoBodies 24 = .ok (.aload_n 2, 1) := by decide +kernel
theorem dX0_readTwoBodies_25 : decode cX0_readTwoBodies 25 = .ok (.invokevirtual 97, 3) := by decide +kernel
theorem dX0_readTwoBodies_28 : decode cX0_readTwoBodies 28 = .ok (.ifCond .ne 5, 3) := by decide +kernel
theorem dX0_readTwoBodies_31 : decode cX0_readTwoBodies 31 = .ok (.iconst 0, 1) := by decide +kernel
theorem dX0_readTwoBodies_32 : decode cX0_readTwoBodies 32 = .ok (.ireturn, 1) := by decide +kernel
theorem dX0_readTwoBodies_33 : decode cX0_readTwoBodies 33 = .ok (.aload_n 0, 1) := by decide +kernel
theorem dX0_readTwoBodies_34 : decode cX0_readTwoBodies 34 = .ok (.getfield 18, 3) := by decide +kernel
theorem dX0_readTwoBodies_37 : decode cX0_readTwoBodies 37 = .ok (.aload_n 0, 1) := by decide +kernel
theorem dX0_readTwoBodies_38 : decode cX0_readTwoBodies 38 = .ok (.getfield 33, 3) := by decide +kernel
theorem dX0_readTwoBodies_41 : decode cX0_readTwoBodies 41 = .ok (.aload_n 1, 1) := by decide +kernel
theorem dX0_readTwoBodies_42 : decode cX0_readTwoBodies 42 = .ok (.getfield 101, 3) := by decide +kernel
theorem dX0_readTwoBodies_45 : decode cX0_readTwoBodies 45 = .ok (.iastore, 1) := by decide +kernel
theorem dX0_readTwoBodies_46 : decode cX0_readTwoBodies 46 = .ok (.iconst 1, 1) := by decide +kernel
theorem dX0_readTwoBodies_47 : decode cX0_readTwoBodies 47 = .ok (.ireturn, 1) := by decide +kernel
theorem dX0_readSumAndKind_0 : decode cX0_readSumAndKind 0 = .ok (.aload_n 1, 1) := by decide +kernel
theorem dX0_readSumAndKind_1 : decode cX0_readSumAndKind 1 = .ok (.iconst 1, 1) := by decide +kernel
theorem dX0_readSumAndKind_2 : decode cX0_readSumAndKind 2 = .ok (.bipush 99, 2) := by decide +kernel
theorem dX0_readSumAndKind_4 : decode cX0_readSumAndKind 4 = .ok (.invokevirtual 104, 3) := by decide +kernel
theorem dX0_readSumAndKind_7 : decode cX0_readSumAndKind 7 = .ok (.ifCond .ne 5, 3) := by decide +kernel
theorem dX0_readSumAndKind_10 : decode cX0_readSumAndKind 10 = .ok (.iconst 0, 1) := by decide +kernel
theorem dX0_readSumAndKind_11 : decode cX0_readSumAndKind 11 = .ok (.ireturn, 1) := by decide +kernel
theorem dX0_readSumAndKind_12 : decode cX0_readSumAndKind 12 = .ok (.aload_n 0, 1) := by decide +kernel
theorem dX0_readSumAndKind_13 : decode cX0_readSumAndKind 13 = .ok (.getfield 21, 3) := by decide +kernel
theorem dX0_readSumAndKind_16 : decode cX0_readSumAndKind 16 = .ok (.aload_n 0, 1) := by decide +kernel
theorem dX0_readSumAndKind_17 : decode cX0_readSumAndKind 17 = .ok (.getfield 33, 3) := by decide +kernel
theorem dX0_readSumAndKind_20 : decode cX0_readSumAndKind 20 = .ok (.aload_n 1, 1) := by decide +kernel
theorem dX0_readSumAndKind_21 : decode cX0_readSumAndKind 21 = .ok (.getfield 108, 3) := by decide +kernel
theorem dX0_readSumAndKind_24 : decode cX0_readSumAndKind 24 = .ok (.iastore, 1) := by decide +kernel
theorem dX0_readSumAndKind_25 : decode cX0_readSumAndKind 25 = .ok (.aload_n 1, 1) := by decide +kernel
theorem dX0_readSumAndKind_26 : decode cX0_readSumAndKind 26 = .ok (.aload_n 2, 1) := by decide +kernel
theorem dX0_readSumAndKind_27 : decode cX0_readSumAndKind 27 = .ok (.invokevirtual 111, 3) := by decide +kernel
theorem dX0_readSumAndKind_30 : decode cX0_readSumAndKind 30 = .ok (.ifCond .ne 5, 3) := by decide +kernel
theorem dX0_readSumAndKind_33 : decode cX0_readSumAndKind 33 = .ok (.iconst 0, 1) := by decide +kernel
theorem dX0_readSumAndKind_34 : decode cX0_readSumAndKind 34 = .ok (.ireturn, 1) := by decide +kernel
theorem dX0_readSumAndKind_35 : decode cX0_readSumAndKind 35 = .ok (.aload_n 0, 1) := by decide +kernel
theorem dX0_readSumAndKind_36 : decode cX0_readSumAndKind 36 = .ok (.getfield 24, 3) := by decide +kernel
theorem dX0_readSumAndKind_39 : decode cX0_readSumAndKind 39 = .ok (.aload_n 0, 1) := by decide +kernel
theorem dX0_readSumAndKind_40 : decode cX0_readSumAndKind 40 = .ok (.getfield 33, 3) := by decide +kernel
theorem dX0_readSumAndKind_43 : decode cX0_readSumAndKind 43 = .ok (.aload_n 1, 1) := by decide +kernel
theorem dX0_readSumAndKind_44 : decode cX0_readSumAndKind 44 = .ok (.getfield 101, 3) := by decide +kernel
theorem dX0_readSumAndKind_47 : decode cX0_readSumAndKind 47 = .ok (.iastore, 1) := by decide +kernel
theorem dX0_readSumAndKind_48 : decode cX0_readSumAndKind 48 = .ok (.iconst 1, 1) := by decide +kernel
theorem dX0_readSumAndKind_49 : decode cX0_readSumAndKind 49 = .ok (.ireturn, 1) := by decide +kernel
theorem dX0_readDeal_0 : decode cX0_readDeal 0 = .ok (.aload_n 1, 1) := by decide +kernel
theorem dX0_readDeal_1 : decode cX0_readDeal 1 = .ok (.iconst 0, 1) := by decide +kernel
theorem dX0_readDeal_2 : decode cX0_readDeal 2 = .ok (.bipush 59, 2) := by decide +kernel
theorem dX0_readDeal_4 : decode cX0_readDeal 4 = .ok (.invokevirtual 104, 3) := by decide +kernel
theorem dX0_readDeal_7 : decode cX0_readDeal 7 = .ok (.ifCond .ne 5, 3) := by decide +kernel
theorem dX0_readDeal_10 : decode cX0_readDeal 10 = .ok (.iconst 0, 1) := by decide +kernel
theorem dX0_readDeal_11 : decode cX0_readDeal 11 = .ok (.ireturn, 1) := by decide +kernel
theorem dX0_readDeal_12 : decode cX0_readDeal 12 = .ok (.aload_n 0, 1) := by decide +kernel
theorem dX0_readDeal_13 : decode cX0_readDeal 13 = .ok (.getfield 15, 3) := by decide +kernel
theorem dX0_readDeal_16 : decode cX0_readDeal 16 = .ok (.aload_n 0, 1) := by decide +kernel
theorem dX0_readDeal_17 : decode cX0_readDeal 17 = .ok (.getfield 33, 3) := by decide +kernel
theorem dX0_readDeal_20 : decode cX0_readDeal 20 = .ok (.aload_n 1, 1) := by decide +kernel
theorem dX0_readDeal_21 : decode cX0_readDeal 21 = .ok (.getfield 108, 3) := by decide +kernel
theorem dX0_readDeal_24 : decode cX0_readDeal 24 = .ok (.iastore, 1) := by decide +kernel
theorem dX0_readDeal_25 : decode cX0_readDeal 25 = .ok (.iconst 1, 1) := by decide +kernel
theorem dX0_readDeal_26 : decode cX0_readDeal 26 = .ok (.ireturn, 1) := by decide +kernel
theorem dX0_readSide_0 : decode cX0_readSide 0 = .ok (.aload_n 1, 1) := by decide +kernel
theorem dX0_readSide_1 : decode cX0_readSide 1 = .ok (.invokevirtual 42, 3) := by decide +kernel
theorem dX0_readSide_4 : decode cX0_readSide 4 = .ok (.aload_n 1, 1) := by decide +kernel
theorem dX0_readSide_5 : decode cX0_readSide 5 = .ok (.ldc2_w 114, 3) := by decide +kernel
theorem dX0_readSide_8 : decode cX0_readSide 8 = .ok (.invokevirtual 69, 3) := by decide +kernel
theorem dX0_readSide_11 : decode cX0_readSide 11 = .ok (.ifCond .ne 19, 3) := by decide +kernel
theorem dX0_readSide_14 : decode cX0_readSide 14 = .ok (.aload_n 1, 1) := by decide +kernel
theorem dX0_readSide_15 : decode cX0_readSide 15 = .ok (.ldc2_w 116, 3) := by decide +kernel
theorem dX0_readSide_18 : decode cX0_readSide 18 = .ok (.invokevirtual 69, 3) := by decide +kernel
theorem dX0_readSide_21 : decode cX0_readSide 21 = .ok (.ifCond .ne 9, 3) := by decide +kernel
theorem dX0_readSide_24 : decode cX0_readSide 24 = .ok (.aload_n 1, 1) := by decide +kernel
theorem dX0_readSide_25 : decode cX0_readSide 25 = .ok (.iconst 1, 1) := by decide +kernel
theorem dX0_readSide_26 : decode cX0_readSide 26 = .ok (.invokevirtual 56, 3) := by decide +kernel
theorem dX0_readSide_29 : decode cX0_readSide 29 = .ok (.ireturn, 1) := by decide +kernel
theorem dX0_readSide_30 : decode cX0_readSide 30 = .ok (.aload_n 0, 1) := by decide +kernel
theorem dX0_readSide_31 : decode cX0_readSide 31 = .ok (.getfield 18, 3) := by decide +kernel
theorem dX0_readSide_34 : decode cX0_readSide 34 = .ok (.aload_n 0, 1) := by decide +kernel
theorem dX0_readSide_35 : decode cX0_readSide 35 = .ok (.getfield 33, 3) := by decide +kernel
theorem dX0_readSide_38 : decode cX0_readSide 38 = .ok (.aload_n 1, 1) := by decide +kernel
theorem dX0_readSide_39 : decode cX0_readSide 39 = .ok (.ldc2_w 114, 3) := by decide +kernel
theorem dX0_readSide_42 : decode cX0_readSide 42 = .ok (.invokevirtual 69, 3) := by decide +kernel
theorem dX0_readSide_45 : decode cX0_readSide 45 = .ok (.ifCond .eq 7, 3) := by decide +kernel
theorem dX0_readSide_48 : decode cX0_readSide 48 = .ok (.iconst 0, 1) := by decide +kernel
theorem dX0_readSide_49 : decode cX0_readSide 49 = .ok (.goto 4, 3) := by decide +kernel
theorem dX0_readSide_52 : decode cX0_readSide 52 = .ok (.iconst 1, 1) := by decide +kernel
theorem dX0_readSide_53 : decode cX0_readSide 53 = .ok (.iastore, 1) := by decide +kernel
theorem dX0_readSide_54 : decode cX0_readSide 54 = .ok (.iconst 1, 1) := by decide +kernel
theorem dX0_readSide_55 : decode cX0_readSide 55 = .ok (.ireturn, 1) := by decide +kernel
theorem dX0_tryLine_0 : decode cX0_tryLine 0 = .ok (.iload_n 1, 1) := by decide +kernel
theorem dX0_tryLine_1 : decode cX0_tryLine 1 = .ok (.ifCond .lt 9, 3) := by decide +kernel
theorem dX0_tryLine_4 : decode cX0_tryLine 4 = .ok (.iload_n 1, 1) := by decide +kernel
theorem dX0_tryLine_5 : decode cX0_tryLine 5 = .ok (.bipush 40, 2) := by decide +kernel
theorem dX0_tryLine_7 : decode cX0_tryLine 7 = .ok (.if_icmp .lt 5, 3) := by decide +kernel
theorem dX0_tryLine_10 : decode cX0_tryLine 10 = .ok (.iconst 0, 1) := by decide +kernel
theorem dX0_tryLine_11 : decode cX0_tryLine 11 = .ok (.ireturn, 1) := by decide +kernel
theorem dX0_tryLine_12 : decode cX0_tryLine 12 = .ok (.aload_n 0, 1) := by decide +kernel
theorem dX0_tryLine_13 : decode cX0_tryLine 13 = .ok (.getfield 9, 3) := by decide +kernel
theorem dX0_tryLine_16 : decode cX0_tryLine 16 = .ok (.iload_n 1, 1) := by decide +kernel
theorem dX0_tryLine_17 : decode cX0_tryLine 17 = .ok (.iaload, 1) := by decide +kernel
theorem dX0_tryLine_18 : decode cX0_tryLine 18 = .ok (.tableswitch 114 0 4 #[34, 63, 74, 91, 97], 34) := by decide +kernel
theorem dX0_tryLine_52 : decode cX0_tryLine 52 = .ok (.aload_n 2, 1) := by decide +kernel
theorem dX0_tryLine_53 : decode cX0_tryLine 53 = .ok (.aload_n 0, 1) := by decide +kernel
theorem dX0_tryLine_54 : decode cX0_tryLine 54 = .ok (.getfield 15, 3) := by decide +kernel
theorem dX0_tryLine_57 : decode cX0_tryLine 57 = .ok (.iload_n 1, 1) := by decide +kernel
theorem dX0_tryLine_58 : decode cX0_tryLine 58 = .ok (.iaload, 1) := by decide +kernel
theorem dX0_tryLine_59 : decode cX0_tryLine 59 = .ok (.aload_n 0, 1) := by decide +kernel
theorem dX0_tryLine_60 : decode cX0_tryLine 60 = .ok (.getfield 18, 3) := by decide +kernel
theorem dX0_tryLine_63 : decode cX0_tryLine 63 = .ok (.iload_n 1, 1) := by decide +kernel
theorem dX0_tryLine_64 : decode cX0_tryLine 64 = .ok (.iaload, 1) := by decide +kernel
theorem dX0_tryLine_65 : decode cX0_tryLine 65 = .ok (.aload_n 0, 1) := by decide +kernel
theorem dX0_tryLine_66 : decode cX0_tryLine 66 = .ok (.getfield 21, 3) := by decide +kernel
theorem dX0_tryLine_69 : decode cX0_tryLine 69 = .ok (.iload_n 1, 1) := by decide +kernel
theorem dX0_tryLine_70 : decode cX0_tryLine 70 = .ok (.iaload, 1) := by decide +kernel
theorem dX0_tryLine_71 : decode cX0_tryLine 71 = .ok (.aload_n 0, 1) := by decide +kernel
theorem dX0_tryLine_72 : decode cX0_tryLine 72 = .ok (.getfield 24, 3) := by decide +kernel
theorem dX0_tryLine_75 : decode cX0_tryLine 75 = .ok (.iload_n 1, 1) := by decide +kernel
theorem dX0_tryLine_76 : decode cX0_tryLine 76 = .ok (.iaload, 1) := by decide +kernel
theorem dX0_tryLine_77 : decode cX0_tryLine 77 = .ok (.invokevirtual 118, 3) := by decide +kernel
theorem dX0_tryLine_80 : decode cX0_tryLine 80 = .ok (.ireturn, 1) := by decide +kernel
theorem dX0_tryLine_81 : decode cX0_tryLine 81 = .ok (.aload_n 2, 1) := by decide +kernel
theorem dX0_tryLine_82 : decode cX0_tryLine 82 = .ok (.aload_n 0, 1) := by decide +kernel
theorem dX0_tryLine_83 : decode cX0_tryLine 83 = .ok (.getfield 15, 3) := by decide +kernel
theorem dX0_tryLine_86 : decode cX0_tryLine 86 = .ok (.iload_n 1, 1) := by decide +kernel
theorem dX0_tryLine_87 : decode cX0_tryLine 87 = .ok (.iaload, 1) := by decide +kernel
theorem dX0_tryLine_88 : decode cX0_tryLine 88 = .ok (.invokevirtual 124, 3) := by decide +kernel
theorem dX0_tryLine_91 : decode cX0_tryLine 91 = .ok (.ireturn, 1) := by decide +kernel
theorem dX0_tryLine_92 : decode cX0_tryLine 92 = .ok (.aload_n 2, 1) := by decide +kernel
theorem dX0_tryLine_93 : decode cX0_tryLine 93 = .ok (.aload_n 0, 1) := by decide +kernel
theorem dX0_tryLine_94 : decode cX0_tryLine 94 = .ok (.getfield 15, 3) := by decide +kernel
theorem dX0_tryLine_97 : decode cX0_tryLine 97 = .ok (.iload_n 1, 1) := by decide +kernel
theorem dX0_tryLine_98 : decode cX0_tryLine 98 = .ok (.iaload, 1) := by decide +kernel
theorem dX0_tryLine_99 : decode cX0_tryLine 99 = .ok (.aload_n 0, 1) := by decide +kernel
theorem dX0_tryLine_100 : decode cX0_tryLine 100 = .ok (.getfield 18, 3) := by decide +kernel
theorem dX0_tryLine_103 : decode cX0_tryLine 103 = .ok (.iload_n 1, 1) := by decide +kernel
theorem dX0_tryLine_104 : decode cX0_tryLine 104 = .ok (.iaload, 1) := by decide +kernel
theorem dX0_tryLine_105 : decode cX0_tryLine 105 = .ok (.invokevirtual 128, 3) := by decide +kernel
theorem dX0_tryLine_108 : decode cX0_tryLine 108 = .ok (.ireturn, 1) := by decide +kernel
theorem dX0_tryLine_109 : decode cX0_tryLine 109 = .ok (.aload_n 2, 1) := by decide +kernel
theorem dX0_tryLine_110 : decode cX0_tryLine 110 = .ok (.aload_n 3, 1) := by decide +kernel
theorem dX0_tryLine_111 : decode cX0_tryLine 111 = .ok (.invokevirtual 132, 3) := by decide +kernel
theorem dX0_tryLine_114 : decode cX0_tryLine 114 = .ok (.ireturn, 1) := by decide +kernel
theorem dX0_tryLine_115 : decode cX0_tryLine 115 = .ok (.aload_n 2, 1) := by decide +kernel
theorem dX0_tryLine_116 : decode cX0_tryLine 116 = .ok (.aload_n 0, 1) := by decide +kernel
theorem dX0_tryLine_117 : decode cX0_tryLine 117 = .ok (.getfield 15, 3) := by decide +kernel
theorem dX0_tryLine_120 : decode cX0_tryLine 120 = .ok (.iload_n 1, 1) := by decide +kernel
theorem dX0_tryLine_121 : decode cX0_tryLine 121 = .ok (.iaload, 1) := by decide +kernel
theorem dX0_tryLine_122 : decode cX0_tryLine 122 = .ok (.aload_n 0, 1) := by decide +kernel
theorem dX0_tryLine_123 : decode cX0_tryLine 123 = .ok (.getfield 18, 3) := by decide +kernel
theorem dX0_tryLine_126 : decode cX0_tryLine 126 = .ok (.iload_n 1, 1) := by decide +kernel
theorem dX0_tryLine_127 : decode cX0_tryLine 127 = .ok (.iaload, 1) := by decide +kernel
theorem dX0_tryLine_128 : decode cX0_tryLine 128 = .ok (.invokevirtual 136, 3) := by decide +kernel
theorem dX0_tryLine_131 : decode cX0_tryLine 131 = .ok (.ireturn, 1) := by decide +kernel
theorem dX0_tryLine_132 : decode cX0_tryLine 132 = .ok (.aload_n 2, 1) := by decide +kernel
theorem dX0_tryLine_133 : decode cX0_tryLine 133 = .ok (.invokevirtual 139, 3) := by decide +kernel
theorem dX0_tryLine_136 : decode cX0_tryLine 136 = .ok (.ireturn, 1) := by decide +kernel
theorem dX1_init_0 : decode cX1_init 0 = .ok (.aload_n 0, 1) := by decide +kernel
theorem dX1_init_1 : decode cX1_init 1 = .ok (.invokespecial 3, 3) := by decide +kernel
theorem dX1_init_4 : decode cX1_init 4 = .ok (.aload_n 0, 1) := by decide +kernel
theorem dX1_init_5 : decode cX1_init 5 = .ok (.iconst 4, 1) := by decide +kernel
theorem dX1_init_6 : decode cX1_init 6 = .ok (.newarray .int, 2) := by decide +kernel
theorem dX1_init_8 : decode cX1_init 8 = .ok (.putfield 9, 3) := by decide +kernel
theorem dX1_init_11 : decode cX1_init 11 = .ok (.aload_n 0, 1) := by decide +kernel
theorem dX1_init_12 : decode cX1_init 12 = .ok (.iconst 4, 1) := by decide +kernel
theorem dX1_init_13 : decode cX1_init 13 = .ok (.newarray .int, 2) := by decide +kernel
theorem dX1_init_15 : decode cX1_init 15 = .ok (.putfield 15, 3) := by decide +kernel
theorem dX1_init_18 : decode cX1_init 18 = .ok (.aload_n 0, 1) := by decide +kernel
theorem dX1_init_19 : decode cX1_init 19 = .ok (.iconst 4, 1) := by decide +kernel
theorem dX1_init_20 : decode cX1_init 20 = .ok (.newarray .int, 2) := by decide +kernel
theorem dX1_init_22 : decode cX1_init 22 = .ok (.putfield 18, 3) := by decide +kernel
theorem dX1_init_25 : decode cX1_init 25 = .ok (.aload_n 0, 1) := by decide +kernel
theorem dX1_init_26 : decode cX1_init 26 = .ok (.iconst 4, 1) := by decide +kernel
theorem dX1_init_27 : decode cX1_init 27 = .ok (.newarray .int, 2) := by decide +kernel
theorem dX1_init_29 : decode cX1_init 29 = .ok (.putfield 21, 3) := by decide +kernel
theorem dX1_init_32 : decode cX1_init 32 = .ok (.aload_n 0, 1) := by decide +kernel
theorem dX1_init_33 : decode cX1_init 33 = .ok (.bipush 9, 2) := by decide +kernel
theorem dX1_init_35 : decode cX1_init 35 = .ok (.newarray .int, 2) := by decide +kernel
theorem dX1_init_37 : decode cX1_init 37 = .ok (.putfield 24, 3) := by decide +kernel
theorem dX1_init_40 : decode cX1_init 40 = .ok (.aload_n 0, 1) := by decide +kernel
theorem dX1_init_41 : decode cX1_init 41 = .ok (.bipush 9, 2) := by decide +kernel
theorem dX1_init_43 : decode cX1_init 43 = .ok (.newarray .int, 2) := by decide +kernel
theorem dX1_init_45 : decode cX1_init 45 = .ok (.putfield 27, 3) := by decide +kernel
theorem dX1_init_48 : decode cX1_init 48 = .ok (.return_, 1) := by decide +kernel
theorem dX1_take_0 : decode cX1_take 0 = .ok (.aload_n 0, 1) := by decide +kernel
theorem dX1_take_1 : decode cX1_take 1 = .ok (.aload_n 2, 1) := by decide +kernel
theorem dX1_take_2 : decode cX1_take 2 = .ok (.putfield 30, 3) := by decide +kernel
theorem dX1_take_5 : decode cX1_take 5 = .ok (.aload_n 0, 1) := by decide +kernel
theorem dX1_take_6 : decode cX1_take 6 = .ok (.getfield 30, 3) := by decide +kernel
theorem dX1_take_9 : decode cX1_take 9 = .ok (.getfield 34, 3) := by decide +kernel
theorem dX1_take_12 : decode cX1_take 12 = .ok (.getfield 40, 3) := by decide +kernel
theorem dX1_take_15 : decode cX1_take 15 = .ok (.istore_n 3, 1) := by decide +kernel
theorem dX1_take_16 : decode cX1_take 16 = .ok (.aload_n 1, 1) := by decide +kernel
theorem dX1_take_17 : decode cX1_take 17 = .ok (.getfield 46, 3) := by decide +kernel
theorem dX1_take_20 : decode cX1_take 20 = .ok (.iconst 2, 1) := by decide +kernel
theorem dX1_take_21 : decode cX1_take 21 = .ok (.iload_n 3, 1) := by decide +kernel
theorem dX1_take_22 : decode cX1_take 22 = .ok (.imul, 1) := by decide +kernel
theorem dX1_take_23 : decode cX1_take 23 = .ok (.if_icmp .ne 10, 3) := by decide +kernel
theorem dX1_take_26 : decode cX1_take 26 = .ok (.aload_n 0, 1) := by decide +kernel
theorem dX1_take_27 : decode cX1_take 27 = .ok (.invokevirtual 51, 3) := by decide +kernel
theorem dX1_take_30 : decode cX1_take 30 = .ok (.ifCond .ne 5, 3) := by decide +kernel
theorem dX1_take_33 : decode cX1_take 33 = .ok (.iconst 0, 1) := by decide +kernel
theorem dX1_take_34 : decode cX1_take 34 = .ok (.ireturn, 1) := by decide +kernel
theorem dX1_take_35 : decode cX1_take 35 = .ok (.aload_n 0, 1) := by decide +kernel
theorem dX1_take_36 : decode cX1_take 36 = .ok (.iconst 1, 1) := by decide +kernel
theorem dX1_take_37 : decode cX1_take 37 = .ok (.putfield 55, 3) := by decide +kernel
theorem dX1_take_40 : decode cX1_take 40 = .ok (.iconst 0, 1) := by decide +kernel
theorem dX1_take_41 : decode cX1_take 41 = .ok (.istore 4, 2) := by decide +kernel
theorem dX1_take_43 : decode cX1_take 43 = .ok (.iload 4, 2) := by decide +kernel
theorem dX1_take_45 : decode cX1_take 45 = .ok (.iload_n 3, 1) := by decide +kernel
theorem dX1_take_46 : decode cX1_take 46 = .ok (.if_icmp .ge 48, 3) := by decide +kernel
theorem dX1_take_49 : decode cX1_take 49 = .ok (.aload_n 1, 1) := by decide +kernel
theorem dX1_take_50 : decode cX1_take 50 = .ok (.iconst 2, 1) := by decide +kernel
theorem dX1_take_51 : decode cX1_take 51 = .ok (.iload 4, 2) := by decide +kernel
theorem dX1_take_53 : decode cX1_take 53 = .ok (.imul, 1) := by decide +kernel
theorem dX1_take_54 : decode cX1_take 54 = .ok (.iconst 0, 1) := by decide +kernel
theorem dX1_take_55 : decode cX1_take 55 = .ok (.invokevirtual 59, 3) := by decide +kernel
theorem dX1_take_58 : decode cX1_take 58 = .ok (.sipush 256, 3) := by decide +kernel
theorem dX1_take_61 : decode cX1_take 61 = .ok (.imul, 1) := by decide +kernel
theorem dX1_take_62 : decode cX1_take 62 = .ok (.aload_n 1, 1) := by decide +kernel
theorem dX1_take_63 : decode cX1_take 63 = .ok (.iconst 2, 1) := by decide +kernel
theorem dX1_take_64 : decode cX1_take 64 = .ok (.iload 4, 2) := by decide +kernel
theorem dX1_take_66 : decode cX1_take 66 = .ok (.imul, 1) := by decide +kernel
theorem dX1_take_67 : decode cX1_take 67 = .ok (.iconst 1, 1) := by decide +kernel
theorem dX1_take_68 : decode cX1_take 68 = .ok (.iadd, 1) := by decide +kernel
theorem dX1_take_69 : decode cX1_take 69 = .ok (.iconst 0, 1) := by decide +kernel
theorem dX1_take_70 : decode cX1_take 70 = .ok (.invokevirtual 59, 3) := by decide +kernel
theorem dX1_take_73 : decode cX1_take 73 = .ok (.iadd, 1) := by decide +kernel
theorem dX1_take_74 : decode cX1_take 74 = .ok (.sipush 10000, 3) := by decide +kernel
theorem dX1_take_77 : decode cX1_take 77 = .ok (.isub, 1) := by decide +kernel
theorem dX1_take_78 : decode cX1_take 78 = .ok (.istore 5, 2) := by decide +kernel
theorem dX1_take_80 : decode cX1_take 80 = .ok (.aload_n 0, 1) := by decide +kernel
theorem dX1_take_81 : decode cX1_take 81 = .ok (.iload 4, 2) := by decide +kernel
theorem dX1_take_83 : decode cX1_take 83 = .ok (.iload 5, 2) := by decide +kernel
theorem dX1_take_85 : decode cX1_take 85 = .ok (.invokevirtual 63, 3) := by decide +kernel
theorem dX1_take_88 : decode cX1_take 88 = .ok (.iinc 4 1, 3) := by decide +kernel
theorem dX1_take_91 : decode cX1_take 91 = .ok (.goto (-48), 3) := by decide +kernel
theorem dX1_take_94 : decode cX1_take 94 = .ok (.iconst 1, 1) := by decide +kernel
theorem dX1_take_95 : decode cX1_take 95 = .ok (.ireturn, 1) := by decide +kernel
theorem dX1_findLost_0 : decode cX1_findLost 0 = .ok (.aload_n 0, 1) := by decide +kernel
theorem dX1_findLost_1 : decode cX1_findLost 1 = .ok (.iconst 0, 1) := by decide +kernel
theorem dX1_findLost_2 : decode cX1_findLost 2 = .ok (.putfield 67, 3) := by decide +kernel
theorem dX1_findLost_5 : decode cX1_findLost 5 = .ok (.iconst 0, 1) := by decide +kernel
theorem dX1_findLost_6 : decode cX1_findLost 6 = .ok (.istore_n 1, 1) := by decide +kernel
theorem dX1_findLost_7 : decode cX1_findLost 7 = .ok (.iload_n 1, 1) := by decide +kernel
theorem dX1_findLost_8 : decode cX1_findLost 8 = .ok (.aload_n 0, 1) := by decide +kernel
theorem dX1_findLost_9 : decode cX1_findLost 9 = .ok (.getfield 30, 3) := by decide +kernel
theorem dX1_findLost_12 : decode cX1_findLost 12 = .ok (.getfield 70, 3) := by decide +kernel
theorem dX1_findLost_15 : decode cX1_findLost 15 = .ok (.if_icmp .ge 50, 3) := by decide +kernel
theorem dX1_findLost_18 : decode cX1_findLost 18 = .ok (.aload_n 0, 1) := by decide +kernel
theorem dX1_findLost_19 : decode cX1_findLost 19 = .ok (.getfield 30, 3) := by decide +kernel
theorem dX1_findLost_22 : decode cX1_findLost 22 = .ok (.iload_n 1, 1) := by decide +kernel
theorem dX1_findLost_23 : decode cX1_findLost 23 = .ok (.invokevirtual 73, 3) := by decide +kernel
theorem dX1_findLost_26 : decode cX1_findLost 26 = .ok (.ifCond .eq 33, 3) := by decide +kernel
theorem dX1_findLost_29 : decode cX1_findLost 29 = .ok (.aload_n 0, 1) := by decide +kernel
theorem dX1_findLost_30 : decode cX1_findLost 30 = .ok (.getfield 67, 3) := by decide +kernel
theorem dX1_findLost_33 : decode cX1_findLost 33 = .ok (.iconst 4, 1) := by decide +kernel
theorem dX1_findLost_34 : decode cX1_findLost 34 = .ok (.if_icmp .lt 5, 3) := by decide +kernel
theorem dX1_findLost_37 : decode cX1_findLost 37 = .ok (.iconst 0, 1) := by decide +kernel
theorem dX1_findLost_38 : decode cX1_findLost 38 = .ok (.ireturn, 1) := by decide +kernel
theorem dX1_findLost_39 : decode cX1_findLost 39 = .ok (.aload_n 0, 1) := by decide +kernel
theorem dX1_findLost_40 : decode cX1_findLost 40 = .ok (.getfield 9, 3) := by decide +kernel
theorem dX1_findLost_43 : decode cX1_findLost 43 = .ok (.aload_n 0, 1) := by decide +kernel
theorem dX1_findLost_44 : decode cX1_findLost 44 = .ok (.getfield 67, 3) := by decide +kernel
theorem dX1_findLost_47 : decode cX1_findLost 47 = .ok (.iload_n 1, 1) := by decide +kernel
theorem dX1_findLost_48 : decode cX1_findLost 48 = .ok (.iastore, 1) := by decide +kernel
theorem dX1_findLost_49 : decode cX1_findLost 49 = .ok (.aload_n 0, 1) := by decide +kernel
theorem dX1_findLost_50 : decode cX1_findLost 50 = .ok (.dup, 1) := by decide +kernel
theorem dX1_findLost_51 : decode cX1_findLost 51 = .ok (.getfield 67, 3) := by decide +kernel
theorem dX1_findLost_54 : decode cX1_findLost 54 = .ok (.iconst 1, 1) := by decide +kernel
theorem dX1_findLost_55 : decode cX1_findLost 55 = .ok (.iadd, 1) := by decide +kernel
theorem dX1_findLost_56 : decode cX1_findLost 56 = .ok (.putfield 67, 3) := by decide +kernel
theorem dX1_findLost_59 : decode cX1_findLost 59 = .ok (.iinc 1 1, 3) := by decide +kernel
theorem dX1_findLost_62 : decode cX1_findLost 62 = .ok (.goto (-55), 3) := by decide +kernel
theorem dX1_findLost_65 : decode cX1_findLost 65 = .ok (.iconst 1, 1) := by decide +kernel
theorem dX1_findLost_66 : decode cX1_findLost 66 = .ok (.ireturn, 1) := by decide +kernel
theorem dX1_findNeeded_0 : decode cX1_findNeeded 0 = .ok (.aload_n 0, 1) := by decide +kernel
theorem dX1_findNeeded_1 : decode cX1_findNeeded 1 = .ok (.getfield 24, 3) := by decide +kernel
theorem dX1_findNeeded_4 : decode cX1_findNeeded 4 = .ok (.iload_n 1, 1) := by decide +kernel
theorem dX1_findNeeded_5 : decode cX1_findNeeded 5 = .ok (.iload_n 2, 1) := by decide +kernel
theorem dX1_findNeeded_6 : decode cX1_findNeeded 6 = .ok (.aload_n 0, 1) := by decide +kernel
theorem dX1_findNeeded_7 : decode cX1_findNeeded 7 = .ok (.getfield 30, 3) := by decide +kernel
theorem dX1_findNeeded_10 : decode cX1_findNeeded 10 = .ok (.iload_n 1, 1) := by decide +kernel
theorem dX1_findNeeded_11 : decode cX1_findNeeded 11 = .ok (.invokevirtual 77, 3) := by decide +kernel
theorem dX1_findNeeded_14 : decode cX1_findNeeded 14 = .ok (.isub, 1) := by decide +kernel
theorem dX1_findNeeded_15 : decode cX1_findNeeded 15 = .ok (.iastore, 1) := by decide +kernel
theorem dX1_findNeeded_16 : decode cX1_findNeeded 16 = .ok (.aload_n 0, 1) := by decide +kernel
theorem dX1_findNeeded_17 : decode cX1_findNeeded 17 = .ok (.getfield 27, 3) := by decide +kernel
theorem dX1_findNeeded_20 : decode cX1_findNeeded 20 = .ok (.iload_n 1, 1) := by decide +kernel
theorem dX1_findNeeded_21 : decode cX1_findNeeded 21 = .ok (.iconst (-1), 1) := by decide +kernel
theorem dX1_findNeeded_22 : decode cX1_findNeeded 22 = .ok (.iastore, 1) := by decide +kernel
theorem dX1_findNeeded_23 : decode cX1_findNeeded 23 = .ok (.iconst 0, 1) := by decide +kernel
theorem dX1_findNeeded_24 : decode cX1_findNeeded 24 = .ok (.istore_n 3, 1) := by decide +kernel
theorem dX1_findNeeded_25 : decode cX1_findNeeded 25 = .ok (.iload_n 3, 1) := by decide +kernel
theorem dX1_findNeeded_26 : decode cX1_findNeeded 26 = .ok (.aload_n 0, 1) := by decide +kernel
theorem dX1_findNeeded_27 : decode cX1_findNeeded 27 = .ok (.getfield 67, 3) := by decide +kernel
theorem dX1_findNeeded_30 : decode cX1_findNeeded 30 = .ok (.if_icmp .ge 97, 3) := by decide +kernel
theorem dX1_findNeeded_33 : decode cX1_findNeeded 33 = .ok (.aload_n 0, 1) := by decide +kernel
theorem dX1_findNeeded_34 : decode cX1_findNeeded 34 = .ok (.getfield 9, 3) := by decide +kernel
theorem dX1_findNeeded_37 : decode cX1_findNeeded 37 = .ok (.iload_n 3, 1) := by decide +kernel
theorem dX1_findNeeded_38 : decode cX1_findNeeded 38 = .ok (.iaload, 1) := by decide +kernel
theorem dX1_findNeeded_39 : decode cX1_findNeeded 39 = .ok (.istore 4, 2) := by decide +kernel
theorem dX1_findNeeded_41 : decode cX1_findNeeded 41 = .ok (.aload_n 0, 1) := by decide +kernel
theorem dX1_findNeeded_42 : decode cX1_findNeeded 42 = .ok (.getfield 30, 3) := by decide +kernel
theorem dX1_findNeeded_45 : decode cX1_findNeeded 45 = .ok (.getfield 81, 3) := by decide +kernel
theorem dX1_findNeeded_48 : decode cX1_findNeeded 48 = .ok (.iload 4, 2) := by decide +kernel
theorem dX1_findNeeded_50 : decode cX1_findNeeded 50 = .ok (.iaload, 1) := by decide +kernel
theorem dX1_findNeeded_51 : decode cX1_findNeeded 51 = .ok (.iload_n 1, 1) := by decide +kernel
theorem dX1_findNeeded_52 : decode cX1_findNeeded 52 = .ok (.if_icmp .eq 17, 3) := by decide +kernel
theorem dX1_findNeeded_55 : decode cX1_findNeeded 55 = .ok (.aload_n 0, 1) := by decide +kernel
theorem dX1_findNeeded_56 : decode cX1_findNeeded 56 = .ok (.getfield 30, 3) := by decide +kernel
theorem dX1_findNeeded_59 : decode cX1_findNeeded 59 = .ok (.getfield 84, 3) := by decide +kernel
theorem dX1_findNeeded_62 : decode cX1_findNeeded 62 = .ok (.iload 4, 2) := by decide +kernel
theorem dX1_findNeeded_64 : decode cX1_findNeeded 64 = .ok (.iaload, 1) := by decide +kernel
theorem dX1_findNeeded_65 : decode cX1_findNeeded 65 = .ok (.iload_n 1, 1) := by decide +kernel
theorem dX1_findNeeded_66 : decode cX1_findNeeded 66 = .ok (.if_icmp .ne 55, 3) := by decide +kernel
theorem dX1_findNeeded_69 : decode cX1_findNeeded 69 = .ok (.aload_n 0, 1) := by decide +kernel
theorem dX1_findNeeded_70 : decode cX1_findNeeded 70 = .ok (.getfield 27, 3) := by decide +kernel
theorem dX1_findNeeded_73 : decode cX1_findNeeded 73 = .ok (.iload_n 1, 1) := by decide +kernel
theorem dX1_findNeeded_74 : decode cX1_findNeeded 74 = .ok (.iload_n 3, 1) := by decide +kernel
theorem dX1_findNeeded_75 : decode cX1_findNeeded 75 = .ok (.iastore, 1) := by decide +kernel
theorem dX1_findNeeded_76 : decode cX1_findNeeded 76 = .ok (.aload_n 0, 1) := by decide +kernel
theorem dX1_findNeeded_77 : decode cX1_findNeeded 77 = .ok (.getfield 24, 3) := by decide +kernel
theorem dX1_findNeeded_80 : decode cX1_findNeeded 80 = .ok (.iload_n 1, 1) := by decide +kernel
theorem dX1_findNeeded_81 : decode cX1_findNeeded 81 = .ok (.dup2, 1) := by decide +kernel
theorem dX1_findNeeded_82 : decode cX1_findNeeded 82 = .ok (.iaload, 1) := by decide +kernel
theorem dX1_findNeeded_83 : decode cX1_findNeeded 83 = .ok (.aload_n 0, 1) := by decide +kernel
theorem dX1_findNeeded_84 : decode cX1_findNeeded 84 = .ok (.getfield 30, 3) := by decide +kernel
theorem dX1_findNeeded_87 : decode cX1_findNeeded 87 = .ok (.getfield 81, 3) := by decide +kernel
theorem dX1_findNeeded_90 : decode cX1_findNeeded 90 = .ok (.iload 4, 2) := by decide +kernel
theorem dX1_findNeeded_92 : decode cX1_findNeeded 92 = .ok (.iaload, 1) := by decide +kernel
theorem dX1_findNeeded_93 : decode cX1_findNeeded 93 = .ok (.iload_n 1, 1) := by decide +kernel
theorem dX1_findNeeded_94 : decode cX1_findNeeded 94 = .ok (.if_icmp .ne 15, 3) := by decide +kernel
theorem dX1_findNeeded_97 : decode cX1_findNeeded 97 = .ok (.aload_n 0, 1) := by decide +kernel
theorem dX1_findNeeded_98 : decode cX1_findNeeded 98 = .ok (.getfield 30, 3) := by decide +kernel
theorem dX1_findNeeded_101 : decode cX1_findNeeded 101 = .ok (.iload 4, 2) := by decide +kernel
theorem dX1_findNeeded_103 : decode cX1_findNeeded 103 = .ok (.invokevirtual 87, 3) := by decide +kernel
theorem dX1_findNeeded_106 : decode cX1_findNeeded 106 = .ok (.goto 13, 3) := by decide +kernel
theorem dX1_findNeeded_109 : decode cX1_findNeeded 109 = .ok (.aload_n 0, 1) := by decide +kernel
theorem dX1_findNeeded_110 : decode cX1_findNeeded 110 = .ok (.getfield 30, 3) := by decide +kernel
theorem dX1_findNeeded_113 : decode cX1_findNeeded 113 = .ok (.iload 4, 2) := by decide +kernel
theorem dX1_findNeeded_115 : decode cX1_findNeeded 115 = .ok (.invokevirtual 87, 3) := by decide +kernel
theorem dX1_findNeeded_118 : decode cX1_findNeeded 118 = .ok (.ineg, 1) := by decide +kernel
theorem dX1_findNeeded_119 : decode cX1_findNeeded 119 = .ok (.iadd, 1) := by decide +kernel
theorem dX1_findNeeded_120 : decode cX1_findNeeded 120 = .ok (.iastore, 1) := by decide +kernel
theorem dX1_findNeeded_121 : decode cX1_findNeeded 121 = .ok (.iinc 3 1, 3) := by decide +kernel
theorem dX1_findNeeded_124 : decode cX1_findNeeded 124 = .ok (.goto (-99), 3) := by decide +kernel
theorem dX1_findNeeded_127 : decode cX1_findNeeded 127 = .ok (.aload_n 0, 1) := by decide +kernel
theorem dX1_findNeeded_128 : decode cX1_findNeeded 128 = .ok (.getfield 27, 3) := by decide +kernel
theorem dX1_findNeeded_131 : decode cX1_findNeeded 131 = .ok (.iload_n 1, 1) := by decide +kernel
theorem dX1_findNeeded_132 : decode cX1_findNeeded 132 = .ok (.iaload, 1) := by decide +kernel
theorem dX1_findNeeded_133 : decode cX1_findNeeded 133 = .ok (.iconst (-1), 1) := by decide +kernel
theorem dX1_findNeeded_134 : decode cX1_findNeeded 134 = .ok (.if_icmp .ne 28, 3) := by decide +kernel
theorem dX1_findNeeded_137 : decode cX1_findNeeded 137 = .ok (.aload_n 0, 1) := by decide +kernel
theorem dX1_findNeeded_138 : decode cX1_findNeeded 138 = .ok (.getfield 30, 3) := by decide +kernel
theorem dX1_findNeeded_141 : decode cX1_findNeeded 141 = .ok (.iload_n 1, 1) := by decide +kernel
theorem dX1_findNeeded_142 : decode cX1_findNeeded 142 = .ok (.invokevirtual 90, 3) := by decide +kernel
theorem dX1_findNeeded_145 : decode cX1_findNeeded 145 = .ok (.ifCond .eq 17, 3) := by decide +kernel
theorem dX1_findNeeded_148 : decode cX1_findNeeded 148 = .ok (.aload_n 0, 1) := by decide +kernel
theorem dX1_findNeeded_149 : decode cX1_findNeeded 149 = .ok (.getfield 24, 3) := by decide +kernel
theorem dX1_findNeeded_152 : decode cX1_findNeeded 152 = .ok (.iload_n 1, 1) := by decide +kernel
theorem dX1_findNeeded_153 : decode cX1_findNeeded 153 = .ok (.iaload, 1) := by decide +kernel
theorem dX1_findNeeded_154 : decode cX1_findNeeded 154 = .ok (.ifCond .eq 8, 3) := by decide +kernel
theorem dX1_findNeeded_157 : decode cX1_findNeeded 157 = .ok (.aload_n 0, 1) := by decide +kernel
theorem dX1_findNeeded_158 : decode cX1_findNeeded 158 = .ok (.iconst 0, 1) := by decide +kernel
theorem dX1_findNeeded_159 : decode cX1_findNeeded 159 = .ok (.putfield 55, 3) := by decide +kernel
theorem dX1_findNeeded_162 : decode cX1_findNeeded 162 = .ok (.return_, 1) := by decide +kernel
theorem dX1_search_0 : decode cX1_search 0 = .ok (.aload_n 0, 1) := by decide +kernel
theorem dX1_search_1 : decode cX1_search 1 = .ok (.iload_n 1, 1) := by decide +kernel
theorem dX1_search_2 : decode cX1_search 2 = .ok (.putfield 93, 3) := by decide +kernel
theorem dX1_search_5 : decode cX1_search 5 = .ok (.aload_n 0, 1) := by decide +kernel
theorem dX1_search_6 : decode cX1_search 6 = .ok (.iconst 0, 1) := by decide +kernel
theorem dX1_search_7 : decode cX1_search 7 = .ok (.putfield 96, 3) := by decide +kernel
theorem dX1_search_10 : decode cX1_search 10 = .ok (.aload_n 0, 1) := by decide +kernel
theorem dX1_search_11 : decode cX1_search 11 = .ok (.aload_n 0, 1) := by decide +kernel
theorem dX1_search_12 : decode cX1_search 12 = .ok (.getfield 67, 3) := by decide +kernel
theorem dX1_search_15 : decode cX1_search 15 = .ok (.putfield 99, 3) := by decide +kernel
theorem dX1_search_18 : decode cX1_search 18 = .ok (.aload_n 0, 1) := by decide +kernel
theorem dX1_search_19 : decode cX1_search 19 = .ok (.getfield 55, 3) := by decide +kernel
theorem dX1_search_22 : decode cX1_search 22 = .ok (.ifCond .eq 8, 3) := by decide +kernel
theorem dX1_search_25 : decode cX1_search 25 = .ok (.aload_n 0, 1) := by decide +kernel
theorem dX1_search_26 : decode cX1_search 26 = .ok (.iconst 0, 1) := by decide +kernel
theorem dX1_search_27 : decode cX1_search 27 = .ok (.invokevirtual 102, 3) := by decide +kernel
theorem dX1_search_30 : decode cX1_search 30 = .ok (.aload_n 0, 1) := by decide +kernel
theorem dX1_search_31 : decode cX1_search 31 = .ok (.getfield 96, 3) := by decide +kernel
theorem dX1_search_34 : decode cX1_search 34 = .ok (.ireturn, 1) := by decide +kernel
theorem dX1_tryFrom_0 : decode cX1_tryFrom 0 = .ok (.iload_n 1, 1) := by decide +kernel
theorem dX1_tryFrom_1 : decode cX1_tryFrom 1 = .ok (.aload_n 0, 1) := by decide +kernel
theorem dX1_tryFrom_2 : decode cX1_tryFrom 2 = .ok (.getfield 67, 3) := by decide +kernel
theorem dX1_tryFrom_5 : decode cX1_tryFrom 5 = .ok (.if_icmp .ge 8, 3) := by decide +kernel
theorem dX1_tryFrom_8 : decode cX1_tryFrom 8 = .ok (.iload_n 1, 1) := by decide +kernel
theorem dX1_tryFrom_9 : decode cX1_tryFrom 9 = .ok (.iconst 4, 1) := by decide +kernel
theorem dX1_tryFrom_10 : decode cX1_tryFrom 10 = .ok (.if_icmp .lt 8, 3) := by decide +kernel
theorem dX1_tryFrom_13 : decode cX1_tryFrom 13 = .ok (.aload_n 0, 1) := by decide +kernel
theorem dX1_tryFrom_14 : decode cX1_tryFrom 14 = .ok (.invokevirtual 106, 3) := by decide +kernel
theorem dX1_tryFrom_17 : decode cX1_tryFrom 17 = .ok (.return_, 1) := by decide +kernel
theorem dX1_tryFrom_18 : decode cX1_tryFrom 18 = .ok (.aload_n 0, 1) := by decide +kernel
theorem dX1_tryFrom_19 : decode cX1_tryFrom 19 = .ok (.getfield 30, 3) := by decide +kernel
theorem dX1_tryFrom_22 : decode cX1_tryFrom 22 = .ok (.getfield 81, 3) := by decide +kernel
theorem dX1_tryFrom_25 : decode cX1_tryFrom 25 = .ok (.aload_n 0, 1) := by decide +kernel
theorem dX1_tryFrom_26 : decode cX1_tryFrom 26 = .ok (.getfield 9, 3) := by decide +kernel
theorem dX1_tryFrom_29 : decode cX1_tryFrom 29 = .ok (.iload_n 1, 1) := by decide +kernel
theorem dX1_tryFrom_30 : decode cX1_tryFrom 30 = .ok (.iaload, 1) := by decide +kernel
theorem dX1_tryFrom_31 : decode cX1_tryFrom 31 = .ok (.iaload, 1) := by decide +kernel
theorem dX1_tryFrom_32 : decode cX1_tryFrom 32 = .ok (.istore_n 2, 1) := by decide +kernel
theorem dX1_tryFrom_33 : decode cX1_tryFrom 33 = .ok (.aload_n 0, 1) := by decide +kernel
theorem dX1_tryFrom_34 : decode cX1_tryFrom 34 = .ok (.getfield 30, 3) := by decide +kernel
theorem dX1_tryFrom_37 : decode cX1_tryFrom 37 = .ok (.getfield 84, 3) := by decide +kernel
theorem dX1_tryFrom_40 : decode cX1_tryFrom 40 = .ok (.aload_n 0, 1) := by decide +kernel
theorem dX1_tryFrom_41 : decode cX1_tryFrom 41 = .ok (.getfield 9, 3) := by decide +kernel
theorem dX1_tryFrom_44 : decode cX1_tryFrom 44 = .ok (.iload_n 1, 1) := by decide +kernel
theorem dX1_tryFrom_45 : decode cX1_tryFrom 45 = .ok (.iaload, 1) := by decide +kernel
theorem dX1_tryFrom_46 : decode cX1_tryFrom 46 = .ok (.iaload, 1) := by decide +kernel
theorem dX1_tryFrom_47 : decode cX1_tryFrom 47 = .ok (.istore_n 3, 1) := by decide +kernel
theorem dX1_tryFrom_48 : decode cX1_tryFrom 48 = .ok (.aload_n 0, 1) := by decide +kernel
theorem dX1_tryFrom_49 : decode cX1_tryFrom 49 = .ok (.getfield 30, 3) := by decide +kernel
theorem dX1_tryFrom_52 : decode cX1_tryFrom 52 = .ok (.getfield 109, 3) := by decide +kernel
theorem dX1_tryFrom_55 : decode cX1_tryFrom 55 = .ok (.aload_n 0, 1) := by decide +kernel
theorem dX1_tryFrom_56 : decode cX1_tryFrom 56 = .ok (.getfield 9, 3) := by decide +kernel
theorem dX1_tryFrom_59 : decode cX1_tryFrom 59 = .ok (.iload_n 1, 1) := by decide +kernel
theorem dX1_tryFrom_60 : decode cX1_tryFrom 60 = .ok (.iaload, 1) := by decide +kernel
theorem dX1_tryFrom_61 : decode cX1_tryFrom 61 = .ok (.iaload, 1) := by decide +kernel
theorem dX1_tryFrom_62 : decode cX1_tryFrom 62 = .ok (.istore 4, 2) := by decide +kernel
theorem dX1_tryFrom_64 : decode cX1_tryFrom 64 = .ok (.iconst 1, 1) := by decide +kernel
theorem dX1_tryFrom_65 : decode cX1_tryFrom 65 = .ok (.istore 5, 2) := by decide +kernel
theorem dX1_tryFrom_67 : decode cX1_tryFrom 67 = .ok (.aload_n 0, 1) := by decide +kernel
theorem dX1_tryFrom_68 : decode cX1_tryFrom 68 = .ok (.getfield 93, 3) := by decide +kernel
theorem dX1_tryFrom_71 : decode cX1_tryFrom 71 = .ok (.istore 6, 2) := by decide +kernel
theorem dX1_tryFrom_73 : decode cX1_tryFrom 73 = .ok (.aload_n 0, 1) := by decide +kernel
theorem dX1_tryFrom_74 : decode cX1_tryFrom 74 = .ok (.getfield 27, 3) := by decide +kernel
theorem dX1_tryFrom_77 : decode cX1_tryFrom 77 = .ok (.iload_n 2, 1) := by decide +kernel
theorem dX1_tryFrom_78 : decode cX1_tryFrom 78 = .ok (.iaload, 1) := by decide +kernel
theorem dX1_tryFrom_79 : decode cX1_tryFrom 79 = .ok (.iload_n 1, 1) := by decide +kernel
theorem dX1_tryFrom_80 : decode cX1_tryFrom 80 = .ok (.if_icmp .eq 13, 3) := by decide +kernel
theorem dX1_tryFrom_83 : decode cX1_tryFrom 83 = .ok (.aload_n 0, 1) := by decide +kernel
theorem dX1_tryFrom_84 : decode cX1_tryFrom 84 = .ok (.getfield 27, 3) := by decide +kernel
theorem dX1_tryFrom_87 : decode cX1_tryFrom 87 = .ok (.iload_n 3, 1) := by decide +kernel
theorem dX1_tryFrom_88 : decode cX1_tryFrom 88 = .ok (.iaload, 1) := by decide +kernel
theorem dX1_tryFrom_89 : decode cX1_tryFrom 89 = .ok (.iload_n 1, 1) := by decide +kernel
theorem dX1_tryFrom_90 : decode cX1_tryFrom 90 = .ok (.if_icmp .ne 50, 3) := by decide +kernel
theorem dX1_tryFrom_93 : decode cX1_tryFrom 93 = .ok (.aload_n 0, 1) := by decide +kernel
theorem dX1_tryFrom_94 : decode cX1_tryFrom 94 = .ok (.iload 4, 2) := by decide +kernel
theorem dX1_tryFrom_96 : decode cX1_tryFrom 96 = .ok (.aload_n 0, 1) := by decide +kernel
theorem dX1_tryFrom_97 : decode cX1_tryFrom 97 = .ok (.getfield 27, 3) := by decide +kernel
theorem dX1_tryFrom_100 : decode cX1_tryFrom 100 = .ok (.iload_n 2, 1) := by decide +kernel
theorem dX1_tryFrom_101 : decode cX1_tryFrom 101 = .ok (.iaload, 1) := by decide +kernel
theorem dX1_tryFrom_102 : decode cX1_tryFrom 102 = .ok (.iload_n 1, 1) := by decide +kernel
theorem dX1_tryFrom_103 : decode cX1_tryFrom 103 = .ok (.if_icmp .ne 12, 3) := by decide +kernel
theorem dX1_tryFrom_106 : decode cX1_tryFrom 106 = .ok (.aload_n 0, 1) := by decide +kernel
theorem dX1_tryFrom_107 : decode cX1_tryFrom 107 = .ok (.getfield 24, 3) := by decide +kernel
theorem dX1_tryFrom_110 : decode cX1_tryFrom 110 = .ok (.iload_n 2, 1) := by decide +kernel
theorem dX1_tryFrom_111 : decode cX1_tryFrom 111 = .ok (.iaload, 1) := by decide +kernel
theorem dX1_tryFrom_112 : decode cX1_tryFrom 112 = .ok (.goto 10, 3) := by decide +kernel
theorem dX1_tryFrom_115 : decode cX1_tryFrom 115 = .ok (.aload_n 0, 1) := by decide +kernel
theorem dX1_tryFrom_116 : decode cX1_tryFrom 116 = .ok (.getfield 24, 3) := by decide +kernel
theorem dX1_tryFrom_119 : decode cX1_tryFrom 119 = .ok (.iload_n 3, 1) := by decide +kernel
theorem dX1_tryFrom_120 : decode cX1_tryFrom 120 = .ok (.iaload, 1) := by decide +kernel
theorem dX1_tryFrom_121 : decode cX1_tryFrom 121 = .ok (.ineg, 1) := by decide +kernel
theorem dX1_tryFrom_122 : decode cX1_tryFrom 122 = .ok (.invokevirtual 112, 3) := by decide +kernel
theorem dX1_tryFrom_125 : decode cX1_tryFrom 125 = .ok (.istore 5, 2) := by decide +kernel
theorem dX1_tryFrom_127 : decode cX1_tryFrom 127 = .ok (.aload_n 0, 1) := by decide +kernel
theorem dX1_tryFrom_128 : decode cX1_tryFrom 128 = .ok (.getfield 93, 3) := by decide +kernel
theorem dX1_tryFrom_131 : decode cX1_tryFrom 131 = .ok (.iload 5, 2) := by decide +kernel
theorem dX1_tryFrom_133 : decode cX1_tryFrom 133 = .ok (.iconst 1, 1) := by decide +kernel
theorem dX1_tryFrom_134 : decode cX1_tryFrom 134 = .ok (.iadd, 1) := by decide +kernel
theorem dX1_tryFrom_135 : decode cX1_tryFrom 135 = .ok (.invokestatic 115, 3) := by decide +kernel
theorem dX1_tryFrom_138 : decode cX1_tryFrom 138 = .ok (.istore 6, 2) := by decide +kernel
theorem dX1_tryFrom_140 : decode cX1_tryFrom 140 = .ok (.iconst 1, 1) := by decide +kernel
theorem dX1_tryFrom_141 : decode cX1_tryFrom 141 = .ok (.iload 5, 2) := by decide +kernel
theorem dX1_tryFrom_143 : decode cX1_tryFrom 143 = .ok (.invokestatic 120, 3) := by decide +kernel
theorem dX1_tryFrom_146 : decode cX1_tryFrom 146 = .ok (.istore 7, 2) := by decide +kernel
theorem dX1_tryFrom_148 : decode cX1_tryFrom 148 = .ok (.iload 7, 2) := by decide +kernel
theorem dX1_tryFrom_150 : decode cX1_tryFrom 150 = .ok (.iload 6, 2) := by decide +kernel
theorem dX1_tryFrom_152 : decode cX1_tryFrom 152 = .ok (.if_icmp .gt 122, 3) := by decide +kernel
theorem dX1_tryFrom_155 : decode cX1_tryFrom 155 = .ok (.aload_n 0, 1) := by decide +kernel
theorem dX1_tryFrom_156 : decode cX1_tryFrom 156 = .ok (.getfield 30, 3) := by decide +kernel
theorem dX1_tryFrom_159 : decode cX1_tryFrom 159 = .ok (.getfield 34, 3) := by decide +kernel
theorem dX1_tryFrom_162 : decode cX1_tryFrom 162 = .ok (.iload 4, 2) := by decide +kernel
theorem dX1_tryFrom_164 : decode cX1_tryFrom 164 = .ok (.iload 7, 2) := by decide +kernel
theorem dX1_tryFrom_166 : decode cX1_tryFrom 166 = .ok (.invokevirtual 123, 3) := by decide +kernel
theorem dX1_tryFrom_169 : decode cX1_tryFrom 169 = .ok (.istore 8, 2) := by decide +kernel
theorem dX1_tryFrom_171 : decode cX1_tryFrom 171 = .ok (.aload_n 0, 1) := by decide +kernel
theorem dX1_tryFrom_172 : decode cX1_tryFrom 172 = .ok (.getfield 24, 3) := by decide +kernel
theorem dX1_tryFrom_175 : decode cX1_tryFrom 175 = .ok (.iload_n 2, 1) := by decide +kernel
theorem dX1_tryFrom_176 : decode cX1_tryFrom 176 = .ok (.dup2, 1) := by decide +kernel
theorem dX1_tryFrom_177 : decode cX1_tryFrom 177 = .ok (.iaload, 1) := by decide +kernel
theorem dX1_tryFrom_178 : decode cX1_tryFrom 178 = .ok (.iload 8, 2) := by decide +kernel
theorem dX1_tryFrom_180 : decode cX1_tryFrom 180 = .ok (.isub, 1) := by decide +kernel
theorem dX1_tryFrom_181 : decode cX1_tryFrom 181 = .ok (.iastore, 1) := by decide +kernel
theorem dX1_tryFrom_182 : decode cX1_tryFrom 182 = .ok (.aload_n 0, 1) := by decide +kernel
theorem dX1_tryFrom_183 : decode cX1_tryFrom 183 = .ok (.getfield 24, 3) := by decide +kernel
theorem dX1_tryFrom_186 : decode cX1_tryFrom 186 = .ok (.iload_n 3, 1) := by decide +kernel
theorem dX1_tryFrom_187 : decode cX1_tryFrom 187 = .ok (.dup2, 1) := by decide +kernel
theorem dX1_tryFrom_188 : decode cX1_tryFrom 188 = .ok (.iaload, 1) := by decide +kernel
theorem dX1_tryFrom_189 : decode cX1_tryFrom 189 = .ok (.iload 8, 2) := by decide +kernel
theorem dX1_tryFrom_191 : decode cX1_tryFrom 191 = .ok (.iadd, 1) := by decide +kernel
theorem dX1_tryFrom_192 : decode cX1_tryFrom 192 = .ok (.iastore, 1) := by decide +kernel
theorem dX1_tryFrom_193 : decode cX1_tryFrom 193 = .ok (.aload_n 0, 1) := by decide +kernel
theorem dX1_tryFrom_194 : decode cX1_tryFrom 194 = .ok (.getfield 27, 3) := by decide +kernel
theorem dX1_tryFrom_197 : decode cX1_tryFrom 197 = .ok (.iload_n 2, 1) := by decide +kernel
theorem dX1_tryFrom_198 : decode cX1_tryFrom 198 = .ok (.iaload, 1) := by decide +kernel
theorem dX1_tryFrom_199 : decode cX1_tryFrom 199 = .ok (.iload_n 1, 1) := by decide +kernel
theorem dX1_tryFrom_200 : decode cX1_tryFrom 200 = .ok (.if_icmp .ne 12, 3) := by decide +kernel
theorem dX1_tryFrom_203 : decode cX1_tryFrom 203 = .ok (.aload_n 0, 1) := by decide +kernel
theorem dX1_tryFrom_204 : decode cX1_tryFrom 204 = .ok (.getfield 24, 3) := by decide +kernel
theorem dX1_tryFrom_207 : decode cX1_tryFrom 207 = .ok (.iload_n 2, 1) := by decide +kernel
theorem dX1_tryFrom_208 : decode cX1_tryFrom 208 = .ok (.iaload, 1) := by decide +kernel
theorem dX1_tryFrom_209 : decode cX1_tryFrom 209 = .ok (.ifCond .ne 37, 3) := by decide +kernel
theorem dX1_tryFrom_212 : decode cX1_tryFrom 212 = .ok (.aload_n 0, 1) := by decide +kernel
theorem dX1_tryFrom_213 : decode cX1_tryFrom 213 = .ok (.getfield 27, 3) := by decide +kernel
theorem dX1_tryFrom_216 : decode cX1_tryFrom 216 = .ok (.iload_n 3, 1) := by decide +kernel
theorem dX1_tryFrom_217 : decode cX1_tryFrom 217 = .ok (.iaload, 1) := by decide +kernel
theorem dX1_tryFrom_218 : decode cX1_tryFrom 218 = .ok (.iload_n 1, 1) := by decide +kernel
theorem dX1_tryFrom_219 : decode cX1_tryFrom 219 = .ok (.if_icmp .ne 12, 3) := by decide +kernel
theorem dX1_tryFrom_222 : decode cX1_tryFrom 222 = .ok (.aload_n 0, 1) := by decide +kernel
theorem dX1_tryFrom_223 : decode cX1_tryFrom 223 = .ok (.getfield 24, 3) := by decide +kernel
theorem dX1_tryFrom_226 : decode cX1_tryFrom 226 = .ok (.iload_n 3, 1) := by decide +kernel
theorem dX1_tryFrom_227 : decode cX1_tryFrom 227 = .ok (.iaload, 1) := by decide +kernel
theorem dX1_tryFrom_228 : decode cX1_tryFrom 228 = .ok (.ifCond .ne 18, 3) := by decide +kernel
theorem dX1_tryFrom_231 : decode cX1_tryFrom 231 = .ok (.aload_n 0, 1) := by decide +kernel
theorem dX1_tryFrom_232 : decode cX1_tryFrom 232 = .ok (.getfield 15, 3) := by decide +kernel
theorem dX1_tryFrom_235 : decode cX1_tryFrom 235 = .ok (.iload_n 1, 1) := by decide +kernel
theorem dX1_tryFrom_236 : decode cX1_tryFrom 236 = .ok (.iload 7, 2) := by decide +kernel
theorem dX1_tryFrom_238 : decode cX1_tryFrom 238 = .ok (.iastore, 1) := by decide +kernel
theorem dX1_tryFrom_239 : decode cX1_tryFrom 239 = .ok (.aload_n 0, 1) := by decide +kernel
theorem dX1_tryFrom_240 : decode cX1_tryFrom 240 = .ok (.iload_n 1, 1) := by decide +kernel
theorem dX1_tryFrom_241 : decode cX1_tryFrom 241 = .ok (.iconst 1, 1) := by decide +kernel
theorem dX1_tryFrom_242 : decode cX1_tryFrom 242 = .ok (.iadd, 1) := by decide +kernel
theorem dX1_tryFrom_243 : decode cX1_tryFrom 243 = .ok (.invokevirtual 102, 3) := by decide +kernel
theorem dX1_tryFrom_246 : decode cX1_tryFrom 246 = .ok (.aload_n 0, 1) := by decide +kernel
theorem dX1_tryFrom_247 : decode cX1_tryFrom 247 = .ok (.getfield 24, 3) := by decide +kernel
theorem dX1_tryFrom_250 : decode cX1_tryFrom 250 = .ok (.iload_n 2, 1) := by decide +kernel
theorem dX1_tryFrom_251 : decode cX1_tryFrom 251 = .ok (.dup2, 1) := by decide +kernel
theorem dX1_tryFrom_252 : decode cX1_tryFrom 252 = .ok (.iaload, 1) := by decide +kernel
theorem dX1_tryFrom_253 : decode cX1_tryFrom 253 = .ok (.iload 8, 2) := by decide +kernel
theorem dX1_tryFrom_255 : decode cX1_tryFrom 255 = .ok (.iadd, 1) := by decide +kernel
theorem dX1_tryFrom_256 : decode cX1_tryFrom 256 = .ok (.iastore, 1) := by decide +kernel
theorem dX1_tryFrom_257 : decode cX1_tryFrom 257 = .ok (.aload_n 0, 1) := by decide +kernel
theorem dX1_tryFrom_258 : decode cX1_tryFrom 258 = .ok (.getfield 24, 3) := by decide +kernel
theorem dX1_tryFrom_261 : decode cX1_tryFrom 261 = .ok (.iload_n 3, 1) := by decide +kernel
theorem dX1_tryFrom_262 : decode cX1_tryFrom 262 = .ok (.dup2, 1) := by decide +kernel
theorem dX1_tryFrom_263 : decode cX1_tryFrom 263 = .ok (.iaload, 1) := by decide +kernel
theorem dX1_tryFrom_264 : decode cX1_tryFrom 264 = .ok (.iload 8, 2) := by decide +kernel
theorem dX1_tryFrom_266 : decode cX1_tryFrom 266 = .ok (.isub, 1) := by decide +kernel
theorem dX1_tryFrom_267 : decode cX1_tryFrom 267 = .ok (.iastore, 1) := by decide +kernel
theorem dX1_tryFrom_268 : decode cX1_tryFrom 268 = .ok (.iinc 7 1, 3) := by decide +kernel
theorem dX1_tryFrom_271 : decode cX1_tryFrom 271 = .ok (.goto (-123), 3) := by decide +kernel
theorem dX1_tryFrom_274 : decode cX1_tryFrom 274 = .ok (.return_, 1) := by decide +kernel
theorem dX1_aboutSum_0 : decode cX1_aboutSum 0 = .ok (.aload_n 0, 1) := by decide +kernel
theorem dX1_aboutSum_1 : decode cX1_aboutSum 1 = .ok (.getfield 30, 3) := by decide +kernel
theorem dX1_aboutSum_4 : decode cX1_aboutSum 4 = .ok (.getfield 34, 3) := by decide +kernel
theorem dX1_aboutSum_7 : decode cX1_aboutSum 7 = .ok (.getfield 125, 3) := by decide +kernel
theorem dX1_aboutSum_10 : decode cX1_aboutSum 10 = .ok (.iload_n 1, 1) := by decide +kernel
theorem dX1_aboutSum_11 : decode cX1_aboutSum 11 = .ok (.iaload, 1) := by decide +kernel
theorem dX1_aboutSum_12 : decode cX1_aboutSum 12 = .ok (.lookupswitch 36 #[(1, 28), (2, 32)], 28) := by decide +kernel
theorem dX1_aboutSum_40 : decode cX1_aboutSum 40 = .ok (.iload_n 2, 1) := by decide +kernel
theorem dX1_aboutSum_41 : decode cX1_aboutSum 41 = .ok (.iconst 2, 1) := by decide +kernel
theorem dX1_aboutSum_42 : decode cX1_aboutSum 42 = .ok (.idiv, 1) := by decide +kernel
theorem dX1_aboutSum_43 : decode cX1_aboutSum 43 = .ok (.ireturn, 1) := by decide +kernel
theorem dX1_aboutSum_44 : decode cX1_aboutSum 44 = .ok (.iconst 2, 1) := by decide +kernel
theorem dX1_aboutSum_45 : decode cX1_aboutSum 45 = .ok (.iload_n 2, 1) := by decide +kernel
theorem dX1_aboutSum_46 : decode cX1_aboutSum 46 = .ok (.imul, 1) := by decide +kernel
theorem dX1_aboutSum_47 : decode cX1_aboutSum 47 = .ok (.ireturn, 1) := by decide +kernel
theorem dX1_aboutSum_48 : decode cX1_aboutSum 48 = .ok (.iload_n 2, 1) := by decide +kernel
theorem dX1_aboutSum_49 : decode cX1_aboutSum 49 = .ok (.ireturn, 1) := by decide +kernel
theorem dX1_noteWay_0 : decode cX1_noteWay 0 = .ok (.iconst 0, 1) := by decide +kernel
theorem dX1_noteWay_1 : decode cX1_noteWay 1 = .ok (.istore_n 1, 1) := by decide +kernel
theorem dX1_noteWay_2 : decode cX1_noteWay 2 = .ok (.iload_n 1, 1) := by decide +kernel
theorem dX1_noteWay_3 : decode cX1_noteWay 3 = .ok (.aload_n 0, 1) := by decide +kernel
theorem dX1_noteWay_4 : decode cX1_noteWay 4 = .ok (.getfield 67, 3) := by decide +kernel
theorem dX1_noteWay_7 : decode cX1_noteWay 7 = .ok (.if_icmp .ge 83, 3) := by decide +kernel
theorem dX1_noteWay_10 : decode cX1_noteWay 10 = .ok (.aload_n 0, 1) := by decide +kernel
theorem dX1_noteWay_11 : decode cX1_noteWay 11 = .ok (.getfield 18, 3) := by decide +kernel
theorem dX1_noteWay_14 : decode cX1_noteWay 14 = .ok (.iload_n 1, 1) := by decide +kernel
theorem dX1_noteWay_15 : decode cX1_noteWay 15 = .ok (.aload_n 0, 1) := by decide +kernel
theorem dX1_noteWay_16 : decode cX1_noteWay 16 = .ok (.getfield 96, 3) := by decide +kernel
theorem dX1_noteWay_19 : decode cX1_noteWay 19 = .ok (.ifCond .ne 12, 3) := by decide +kernel
theorem dX1_noteWay_22 : decode cX1_noteWay 22 = .ok (.aload_n 0, 1) := by decide +kernel
theorem dX1_noteWay_23 : decode cX1_noteWay 23 = .ok (.getfield 15, 3) := by decide +kernel
theorem dX1_noteWay_26 : decode cX1_noteWay 26 = .ok (.iload_n 1, 1) := by decide +kernel
theorem dX1_noteWay_27 : decode cX1_noteWay 27 = .ok (.iaload, 1) := by decide +kernel
theorem dX1_noteWay_28 : decode cX1_noteWay 28 = .ok (.goto 18, 3) := by decide +kernel
theorem dX1_noteWay_31 : decode cX1_noteWay 31 = .ok (.aload_n 0, 1) := by decide +kernel
theorem dX1_noteWay_32 : decode cX1_noteWay 32 = .ok (.getfield 18, 3) := by decide +kernel
theorem dX1_noteWay_35 : decode cX1_noteWay 35 = .ok (.iload_n 1, 1) := by decide +kernel
theorem dX1_noteWay_36 : decode cX1_noteWay 36 = .ok (.iaload, 1) := by decide +kernel
theorem dX1_noteWay_37 : decode cX1_noteWay 37 = .ok (.aload_n 0, 1) := by decide +kernel
theorem dX1_noteWay_38 : decode cX1_noteWay 38 = .ok (.getfield 15, 3) := by decide +kernel
theorem dX1_noteWay_41 : decode cX1_noteWay 41 = .ok (.iload_n 1, 1) := by decide +kernel
theorem dX1_noteWay_42 : decode cX1_noteWay 42 = .ok (.iaload, 1) := by decide +kernel
theorem dX1_noteWay_43 : decode cX1_noteWay 43 = .ok (.invokestatic 115, 3) := by decide +kernel
theorem dX1_noteWay_46 : decode cX1_noteWay 46 = .ok (.iastore, 1) := by decide +kernel
theorem dX1_noteWay_47 : decode cX1_noteWay 47 = .ok (.aload_n 0, 1) := by decide +kernel
theorem dX1_noteWay_48 : decode cX1_noteWay 48 = .ok (.getfield 21, 3) := by decide +kernel
theorem dX1_noteWay_51 : decode cX1_noteWay 51 = .ok (.iload_n 1, 1) := by decide +kernel
theorem dX1_noteWay_52 : decode cX1_noteWay 52 = .ok (.aload_n 0, 1) := by decide +kernel
theorem dX1_noteWay_53 : decode cX1_noteWay 53 = .ok (.getfield 96, 3) := by decide +kernel
theorem dX1_noteWay_56 : decode cX1_noteWay 56 = .ok (.ifCond .ne 12, 3) := by decide +kernel
theorem dX1_noteWay_59 : decode cX1_noteWay 59 = .ok (.aload_n 0, 1) := by decide +kernel
theorem dX1_noteWay_60 : decode cX1_noteWay 60 = .ok (.getfield 15, 3) := by decide +kernel
theorem dX1_noteWay_63 : decode cX1_noteWay 63 = .ok (.iload_n 1, 1) := by decide +kernel
theorem dX1_noteWay_64 : decode cX1_noteWay 64 = .ok (.iaload, 1) := by decide +kernel
theorem dX1_noteWay_65 : decode cX1_noteWay 65 = .ok (.goto 18, 3) := by decide +kernel
theorem dX1_noteWay_68 : decode cX1_noteWay 68 = .ok (.aload_n 0, 1) := by decide +kernel
theorem dX1_noteWay_69 : decode cX1_noteWay 69 = .ok (.getfield 21, 3) := by decide +kernel
theorem dX1_noteWay_72 : decode cX1_noteWay 72 = .ok (.iload_n 1, 1) := by decide +kernel
theorem dX1_noteWay_73 : decode cX1_noteWay 73 = .ok (.iaload, 1) := by decide +kernel
theorem dX1_noteWay_74 : decode cX1_noteWay 74 = .ok (.aload_n 0, 1) := by decide +kernel
theorem dX1_noteWay_75 : decode cX1_noteWay 75 = .ok (.getfield 15, 3) := by decide +kernel
theorem dX1_noteWay_78 : decode cX1_noteWay 78 = .ok (.iload_n 1, 1) := by decide +kernel
theorem dX1_noteWay_79 : decode cX1_noteWay 79 = .ok (.iaload, 1) := by decide +kernel
theorem dX1_noteWay_80 : decode cX1_noteWay 80 = .ok (.invokestatic 120, 3) := by decide +kernel
theorem dX1_noteWay_83 : decode cX1_noteWay 83 = .ok (.iastore, 1) := by decide +kernel
theorem dX1_noteWay_84 : decode cX1_noteWay 84 = .ok (.iinc 1 1, 3) := by decide +kernel
theorem dX1_noteWay_87 : decode cX1_noteWay 87 = .ok (.goto (-85), 3) := by decide +kernel
theorem dX1_noteWay_90 : decode cX1_noteWay 90 = .ok (.aload_n 0, 1) := by decide +kernel
theorem dX1_noteWay_91 : decode cX1_noteWay 91 = .ok (.dup, 1) := by decide +kernel
theorem dX1_noteWay_92 : decode cX1_noteWay 92 = .ok (.getfield 96, 3) := by decide +kernel
theorem dX1_noteWay_95 : decode cX1_noteWay 95 = .ok (.iconst 1, 1) := by decide +kernel
theorem dX1_noteWay_96 : decode cX1_noteWay 96 = .ok (.iadd, 1) := by decide +kernel
theorem dX1_noteWay_97 : decode cX1_noteWay 97 = .ok (.putfield 96, 3) := by decide +kernel
theorem dX1_noteWay_100 : decode cX1_noteWay 100 = .ok (.return_, 1) := by decide +kernel
theorem dX1_told_0 : decode cX1_told 0 = .ok (.iload_n 1, 1) := by decide +kernel
theorem dX1_told_1 : decode cX1_told 1 = .ok (.ifCond .lt 32, 3) := by decide +kernel
theorem dX1_told_4 : decode cX1_told 4 = .ok (.iload_n 1, 1) := by decide +kernel
theorem dX1_told_5 : decode cX1_told 5 = .ok (.aload_n 0, 1) := by decide +kernel
theorem dX1_told_6 : decode cX1_told 6 = .ok (.getfield 99, 3) := by decide +kernel
theorem dX1_told_9 : decode cX1_told 9 = .ok (.if_icmp .ge 24, 3) := by decide +kernel
theorem dX1_told_12 : decode cX1_told 12 = .ok (.iload_n 1, 1) := by decide +kernel
theorem dX1_told_13 : decode cX1_told 13 = .ok (.iconst 4, 1) := by decide +kernel
theorem dX1_told_14 : decode cX1_told 14 = .ok (.if_icmp .ge 19, 3) := by decide +kernel
theorem dX1_told_17 : decode cX1_told 17 = .ok (.aload_n 0, 1) := by decide +kernel
theorem dX1_told_18 : decode cX1_told 18 = .ok (.getfield 96, 3) := by decide +kernel
theorem dX1_told_21 : decode cX1_told 21 = .ok (.ifCond .eq 12, 3) := by decide +kernel
theorem dX1_told_24 : decode cX1_told 24 = .ok (.iload_n 2, 1) := by decide +kernel
theorem dX1_told_25 : decode cX1_told 25 = .ok (.ifCond .lt 8, 3) := by decide +kernel
theorem dX1_told_28 : decode cX1_told 28 = .ok (.iload_n 2, 1) := by decide +kernel
theorem dX1_told_29 : decode cX1_told 29 = .ok (.iconst 1, 1) := by decide +kernel
theorem dX1_told_30 : decode cX1_told 30 = .ok (.if_icmp .le 5, 3) := by decide +kernel
theorem dX1_told_33 : decode cX1_told 33 = .ok (.iconst (-1), 1) := by decide +kernel
theorem dX1_told_34 : decode cX1_told 34 = .ok (.ireturn, 1) := by decide +kernel
theorem dX1_told_35 : decode cX1_told 35 = .ok (.iload_n 2, 1) := by decide +kernel
theorem dX1_told_36 : decode cX1_told 36 = .ok (.ifCond .ne 12, 3) := by decide +kernel
theorem dX1_told_39 : decode cX1_told 39 = .ok (.aload_n 0, 1) := by decide +kernel
theorem dX1_told_40 : decode cX1_told 40 = .ok (.getfield 18, 3) := by decide +kernel
theorem dX1_told_43 : decode cX1_told 43 = .ok (.iload_n 1, 1) := by decide +kernel
theorem dX1_told_44 : decode cX1_told 44 = .ok (.iaload, 1) := by decide +kernel
theorem dX1_told_45 : decode cX1_told 45 = .ok (.goto 9, 3) := by decide +kernel
theorem dX1_told_48 : decode cX1_told 48 = .ok (.aload_n 0, 1) := by decide +kernel
theorem dX1_told_49 : decode cX1_told 49 = .ok (.getfield 21, 3) := by decide +kernel
theorem dX1_told_52 : decode cX1_told 52 = .ok (.iload_n 1, 1) := by decide +kernel
theorem dX1_told_53 : decode cX1_told 53 = .ok (.iaload, 1) := by decide +kernel
theorem dX1_told_54 : decode cX1_told 54 = .ok (.ireturn, 1) := by decide +kernel
theorem dX2_init_0 : decode cX2_init 0 = .ok (.aload_n 0, 1) := by decide +kernel
theorem dX2_init_1 : decode cX2_init 1 = .ok (.invokespecial 3, 3) := by decide +kernel
theorem dX2_init_4 : decode cX2_init 4 = .ok (.aload_n 0, 1) := by decide +kernel
theorem dX2_init_5 : decode cX2_init 5 = .ok (.bipush 9, 2) := by decide +kernel
theorem dX2_init_7 : decode cX2_init 7 = .ok (.anewarray 11, 3) := by decide +kernel
theorem dX2_init_10 : decode cX2_init 10 = .ok (.putfield 13, 3) := by decide +kernel
theorem dX2_init_13 : decode cX2_init 13 = .ok (.iconst 0, 1) := by decide +kernel
theorem dX2_init_14 : decode cX2_init 14 = .ok (.istore_n 2, 1) := by decide +kernel
theorem dX2_init_15 : decode cX2_init 15 = .ok (.iload_n 2, 1) := by decide +kernel
theorem dX2_init_16 : decode cX2_init 16 = .ok (.bipush 9, 2) := by decide +kernel
theorem dX2_init_18 : decode cX2_init 18 = .ok (.if_icmp .ge 23, 3) := by decide +kernel
theorem dX2_init_21 : decode cX2_init 21 = .ok (.aload_n 0, 1) := by decide +kernel
theorem dX2_init_22 : decode cX2_init 22 = .ok (.getfield 13, 3) := by decide +kernel
theorem dX2_init_25 : decode cX2_init 25 = .ok (.iload_n 2, 1) := by decide +kernel
theorem dX2_init_26 : decode cX2_init 26 = .ok (.new 11, 3) := by decide +kernel
theorem dX2_init_29 : decode cX2_init 29 = .ok (.dup, 1) := by decide +kernel
theorem dX2_init_30 : decode cX2_init 30 = .ok (.aload_n 1, 1) := by decide +kernel
theorem dX2_init_31 : decode cX2_init 31 = .ok (.invokespecial 17, 3) := by decide +kernel
theorem dX2_init_34 : decode cX2_init 34 = .ok (.aastore, 1) := by decide +kernel
theorem dX2_init_35 : decode cX2_init 35 = .ok (.iinc 2 1, 3) := by decide +kernel
theorem dX2_init_38 : decode cX2_init 38 = .ok (.goto (-23), 3) := by decide +kernel
theorem dX2_init_41 : decode cX2_init 41 = .ok (.return_, 1) := by decide +kernel
theorem dX2_forget_0 : decode cX2_forget 0 = .ok (.aload_n 0, 1) := by decide +kernel
theorem dX2_forget_1 : decode cX2_forget 1 = .ok (.iconst 0, 1) := by decide +kernel
theorem dX2_forget_2 : decode cX2_forget 2 = .ok (.putfield 20, 3) := by decide +kernel
theorem dX2_forget_5 : decode cX2_forget 5 = .ok (.return_, 1) := by decide +kernel
theorem dX2_note_0 : decode cX2_note 0 = .ok (.aload_n 0, 1) := by decide +kernel
theorem dX2_note_1 : decode cX2_note 1 = .ok (.getfield 13, 3) := by decide +kernel
theorem dX2_note_4 : decode cX2_note 4 = .ok (.aload_n 0, 1) := by decide +kernel
theorem dX2_note_5 : decode cX2_note 5 = .ok (.getfield 24, 3) := by decide +kernel
theorem dX2_note_8 : decode cX2_note 8 = .ok (.aaload, 1) := by decide +kernel
theorem dX2_note_9 : decode cX2_note 9 = .ok (.aload_n 1, 1) := by decide +kernel
theorem dX2_note_10 : decode cX2_note 10 = .ok (.invokevirtual 27, 3) := by decide +kernel
theorem dX2_note_13 : decode cX2_note 13 = .ok (.return_, 1) := by decide +kernel
theorem dX2_keepNoted_0 : decode cX2_keepNoted 0 = .ok (.aload_n 0, 1) := by decide +kernel
theorem dX2_keepNoted_1 : decode cX2_keepNoted 1 = .ok (.aload_n 0, 1) := by decide +kernel
theorem dX2_keepNoted_2 : decode cX2_keepNoted 2 = .ok (.getfield 24, 3) := by decide +kernel
theorem dX2_keepNoted_5 : decode cX2_keepNoted 5 = .ok (.iconst 1, 1) := by decide +kernel
theorem dX2_keepNoted_6 : decode cX2_keepNoted 6 = .ok (.iadd, 1) := by decide +kernel
theorem dX2_keepNoted_7 : decode cX2_keepNoted 7 = .ok (.bipush 9, 2) := by decide +kernel
theorem dX2_keepNoted_9 : decode cX2_keepNoted 9 = .ok (.irem, 1) := by decide +kernel
theorem dX2_keepNoted_10 : decode cX2_keepNoted 10 = .ok (.putfield 24, 3) := by decide +kernel
theorem dX2_keepNoted_13 : decode cX2_keepNoted 13 = .ok (.aload_n 0, 1) := by decide +kernel
theorem dX2_keepNoted_14 : decode cX2_keepNoted 14 = .ok (.aload_n 0, 1) := by decide +kernel
theorem dX2_keepNoted_15 : decode cX2_keepNoted 15 = .ok (.getfield 20, 3) := by decide +kernel
theorem dX2_keepNoted_18 : decode cX2_keepNoted 18 = .ok (.iconst 1, 1) := by decide +kernel
theorem dX2_keepNoted_19 : decode cX2_keepNoted 19 = .ok (.iadd, 1) := by decide +kernel
theorem dX2_keepNoted_20 : decode cX2_keepNoted 20 = .ok (.bipush 8, 2) := by decide +kernel
theorem dX2_keepNoted_22 : decode cX2_keepNoted 22 = .ok (.invokestatic 31, 3) := by decide +kernel
theorem dX2_keepNoted_25 : decode cX2_keepNoted 25 = .ok (.putfield 20, 3) := by decide +kernel
theorem dX2_keepNoted_28 : decode cX2_keepNoted 28 = .ok (.return_, 1) := by decide +kernel
theorem dX2_takeBack_0 : decode cX2_takeBack 0 = .ok (.aload_n 0, 1) := by decide +kernel
theorem dX2_takeBack_1 : decode cX2_takeBack 1 = .ok (.getfield 20, 3) := by decide +kernel
theorem dX2_takeBack_4 : decode cX2_takeBack 4 = .ok (.ifCond .ne 5, 3) := by decide +kernel
theorem dX2_takeBack_7 : decode cX2_takeBack 7 = .ok (.iconst (-1), 1) := by decide +kernel
theorem dX2_takeBack_8 : decode cX2_takeBack 8 = .ok (.ireturn, 1) := by decide +kernel
theorem dX2_takeBack_9 : decode cX2_takeBack 9 = .ok (.aload_n 0, 1) := by decide +kernel
theorem dX2_takeBack_10 : decode cX2_takeBack 10 = .ok (.aload_n 0, 1) := by decide +kernel
theorem dX2_takeBack_11 : decode cX2_takeBack 11 = .ok (.getfield 24, 3) := by decide +kernel
theorem dX2_takeBack_14 : decode cX2_takeBack 14 = .ok (.bipush 9, 2) := by decide +kernel
theorem dX2_takeBack_16 : decode cX2_takeBack 16 = .ok (.iadd, 1) := by decide +kernel
theorem dX2_takeBack_17 : decode cX2_takeBack 17 = .ok (.iconst 1, 1) := by decide +kernel
theorem dX2_takeBack_18 : decode cX2_takeBack 18 = .ok (.isub, 1) := by decide +kernel
theorem dX2_takeBack_19 : decode cX2_takeBack 19 = .ok (.bipush 9, 2) := by decide +kernel
theorem dX2_takeBack_21 : decode cX2_takeBack 21 = .ok (.irem, 1) := by decide +kernel
theorem dX2_takeBack_22 : decode cX2_takeBack 22 = .ok (.putfield 24, 3) := by decide +kernel
theorem dX2_takeBack_25 : decode cX2_takeBack 25 = .ok (.aload_n 0, 1) := by decide +kernel
theorem dX2_takeBack_26 : decode cX2_takeBack 26 = .ok (.dup, 1) := by decide +kernel
theorem dX2_takeBack_27 : decode cX2_takeBack 27 = .ok (.getfield 20, 3) := by decide +kernel
theorem dX2_takeBack_30 : decode cX2_takeBack 30 = .ok (.iconst 1, 1) := by decide +kernel
theorem dX2_takeBack_31 : decode cX2_takeBack 31 = .ok (.isub, 1) := by decide +kernel
theorem dX2_takeBack_32 : decode cX2_takeBack 32 = .ok (.putfield 20, 3) := by decide +kernel
theorem dX2_takeBack_35 : decode cX2_takeBack 35 = .ok (.aload_n 1, 1) := by decide +kernel
theorem dX2_takeBack_36 : decode cX2_takeBack 36 = .ok (.aload_n 0, 1) := by decide +kernel
theorem dX2_takeBack_37 : decode cX2_takeBack 37 = .ok (.getfield 13, 3) := by decide +kernel
theorem dX2_takeBack_40 : decode cX2_takeBack 40 = .ok (.aload_n 0, 1) := by decide +kernel
theorem dX2_takeBack_41 : decode cX2_takeBack 41 = .ok (.getfield 24, 3) := by decide +kernel
theorem dX2_takeBack_44 : decode cX2_takeBack 44 = .ok (.aaload, 1) := by decide +kernel
theorem dX2_takeBack_45 : decode cX2_takeBack 45 = .ok (.invokevirtual 27, 3) := by decide +kernel
theorem dX2_takeBack_48 : decode cX2_takeBack 48 = .ok (.aload_n 0, 1) := by decide +kernel
theorem dX2_takeBack_49 : decode cX2_takeBack 49 = .ok (.getfield 20, 3) := by decide +kernel
theorem dX2_takeBack_52 : decode cX2_takeBack 52 = .ok (.ireturn, 1) := by decide +kernel
theorem dX3_init_0 : decode cX3_init 0 = .ok (.aload_n 0, 1) := by decide +kernel
theorem dX3_init_1 : decode cX3_init 1 = .ok (.invokespecial 1, 3) := by decide +kernel
theorem dX3_init_4 : decode cX3_init 4 = .ok (.aload_n 0, 1) := by decide +kernel
theorem dX3_init_5 : decode cX3_init 5 = .ok (.new 7, 3) := by decide +kernel
theorem dX3_init_8 : decode cX3_init 8 = .ok (.dup, 1) := by decide +kernel
theorem dX3_init_9 : decode cX3_init 9 = .ok (.invokespecial 9, 3) := by decide +kernel
theorem dX3_init_12 : decode cX3_init 12 = .ok (.putfield 10, 3) := by decide +kernel
theorem dX3_init_15 : decode cX3_init 15 = .ok (.aload_n 0, 1) := by decide +kernel
theorem dX3_init_16 : decode cX3_init 16 = .ok (.new 16, 3) := by decide +kernel
theorem dX3_init_19 : decode cX3_init 19 = .ok (.dup, 1) := by decide +kernel
theorem dX3_init_20 : decode cX3_init 20 = .ok (.aload_n 0, 1) := by decide +kernel
theorem dX3_init_21 : decode cX3_init 21 = .ok (.getfield 10, 3) := by decide +kernel
theorem dX3_init_24 : decode cX3_init 24 = .ok (.invokespecial 18, 3) := by decide +kernel
theorem dX3_init_27 : decode cX3_init 27 = .ok (.putfield 21, 3) := by decide +kernel
theorem dX3_init_30 : decode cX3_init 30 = .ok (.aload_n 0, 1) := by decide +kernel
theorem dX3_init_31 : decode cX3_init 31 = .ok (.new 25, 3) := by decide +kernel
theorem dX3_init_34 : decode cX3_init 34 = .ok (.dup, 1) := by decide +kernel
theorem dX3_init_35 : decode cX3_init 35 = .ok (.invokespecial 27, 3) := by decide +kernel
theorem dX3_init_38 : decode cX3_init 38 = .ok (.putfield 28, 3) := by decide +kernel
theorem dX3_init_41 : decode cX3_init 41 = .ok (.return_, 1) := by decide +kernel
theorem dX3_keep_0 : decode cX3_keep 0 = .ok (.aload_n 0, 1) := by decide +kernel
theorem dX3_keep_1 : decode cX3_keep 1 = .ok (.getfield 10, 3) := by decide +kernel
theorem dX3_keep_4 : decode cX3_keep 4 = .ok (.aload_n 1, 1) := by decide +kernel
theorem dX3_keep_5 : decode cX3_keep 5 = .ok (.invokevirtual 32, 3) := by decide +kernel
theorem dX3_keep_8 : decode cX3_keep 8 = .ok (.aload_n 0, 1) := by decide +kernel
theorem dX3_keep_9 : decode cX3_keep 9 = .ok (.getfield 21, 3) := by decide +kernel
theorem dX3_keep_12 : decode cX3_keep 12 = .ok (.aload_n 2, 1) := by decide +kernel
theorem dX3_keep_13 : decode cX3_keep 13 = .ok (.invokevirtual 35, 3) := by decide +kernel
theorem dX3_keep_16 : decode cX3_keep 16 = .ok (.aload_n 0, 1) := by decide +kernel
theorem dX3_keep_17 : decode cX3_keep 17 = .ok (.getfield 28, 3) := by decide +kernel
theorem dX3_keep_20 : decode cX3_keep 20 = .ok (.aload_n 3, 1) := by decide +kernel
theorem dX3_keep_21 : decode cX3_keep 21 = .ok (.invokevirtual 38, 3) := by decide +kernel
theorem dX3_keep_24 : decode cX3_keep 24 = .ok (.aload_n 0, 1) := by decide +kernel
theorem dX3_keep_25 : decode cX3_keep 25 = .ok (.iconst 1, 1) := by decide +kernel
theorem dX3_keep_26 : decode cX3_keep 26 = .ok (.putfield 41, 3) := by decide +kernel
theorem dX3_keep_29 : decode cX3_keep 29 = .ok (.return_, 1) := by decide +kernel
theorem dX3_bringBack_0 : decode cX3_bringBack 0 = .ok (.aload_n 1, 1) := by decide +kernel
theorem dX3_bringBack_1 : decode cX3_bringBack 1 = .ok (.aload_n 0, 1) := by decide +kernel
theorem dX3_bringBack_2 : decode cX3_bringBack 2 = .ok (.getfield 10, 3) := by decide +kernel
theorem dX3_bringBack_5 : decode cX3_bringBack 5 = .ok (.invokevirtual 32, 3) := by decide +kernel
theorem dX3_bringBack_8 : decode cX3_bringBack 8 = .ok (.aload_n 2, 1) := by decide +kernel
theorem dX3_bringBack_9 : decode cX3_bringBack 9 = .ok (.aload_n 0, 1) := by decide +kernel
theorem dX3_bringBack_10 : decode cX3_bringBack 10 = .ok (.getfield 21, 3) := by decide +kernel
theorem dX3_bringBack_13 : decode cX3_bringBack 13 = .ok (.invokevirtual 35, 3) := by decide +kernel
theorem dX3_bringBack_16 : decode cX3_bringBack 16 = .ok (.aload_n 3, 1) := by decide +kernel
theorem dX3_bringBack_17 : decode cX3_bringBack 17 = .ok (.aload_n 0, 1) := by decide +kernel
theorem dX3_bringBack_18 : decode cX3_bringBack 18 = .ok (.getfield 28, 3) := by decide +kernel
theorem dX3_bringBack_21 : decode cX3_bringBack 21 = .ok (.invokevirtual 38, 3) := by decide +kernel
theorem dX3_bringBack_24 : decode cX3_bringBack 24 = .ok (.return_, 1) := by decide +kernel
theorem dX4_init_0 : decode cX4_init 0 = .ok (.aload_n 0, 1) := by decide +kernel
theorem dX4_init_1 : decode cX4_init 1 = .ok (.invokespecial 3, 3) := by decide +kernel
theorem dX4_init_4 : decode cX4_init 4 = .ok (.aload_n 0, 1) := by decide +kernel
theorem dX4_init_5 : decode cX4_init 5 = .ok (.bipush 60, 2) := by decide +kernel
theorem dX4_init_7 : decode cX4_init 7 = .ok (.newarray .int, 2) := by decide +kernel
theorem dX4_init_9 : decode cX4_init 9 = .ok (.putfield 9, 3) := by decide +kernel
theorem dX4_init_12 : decode cX4_init 12 = .ok (.aload_n 0, 1) := by decide +kernel
theorem dX4_init_13 : decode cX4_init 13 = .ok (.bipush 60, 2) := by decide +kernel
theorem dX4_init_15 : decode cX4_init 15 = .ok (.newarray .int, 2) := by decide +kernel
theorem dX4_init_17 : decode cX4_init 17 = .ok (.putfield 15, 3) := by decide +kernel
theorem dX4_init_20 : decode cX4_init 20 = .ok (.aload_n 0, 1) := by decide +kernel
theorem dX4_init_21 : decode cX4_init 21 = .ok (.bipush 60, 2) := by decide +kernel
theorem dX4_init_23 : decode cX4_init 23 = .ok (.newarray .int, 2) := by decide +kernel
theorem dX4_init_25 : decode cX4_init 25 = .ok (.putfield 18, 3) := by decide +kernel
theorem dX4_init_28 : decode cX4_init 28 = .ok (.aload_n 0, 1) := by decide +kernel
theorem dX4_init_29 : decode cX4_init 29 = .ok (.bipush 60, 2) := by decide +kernel
theorem dX4_init_31 : decode cX4_init 31 = .ok (.newarray .int, 2) := by decide +kernel
theorem dX4_init_33 : decode cX4_init 33 = .ok (.putfield 21, 3) := by decide +kernel
theorem dX4_init_36 : decode cX4_init 36 = .ok (.aload_n 0, 1) := by decide +kernel
theorem dX4_init_37 : decode cX4_init 37 = .ok (.bipush 60, 2) := by decide +kernel
theorem dX4_init_39 : decode cX4_init 39 = .ok (.newarray .int, 2) := by decide +kernel
theorem dX4_init_41 : decode cX4_init 41 = .ok (.putfield 24, 3) := by decide +kernel
theorem dX4_init_44 : decode cX4_init 44 = .ok (.aload_n 0, 1) := by decide +kernel
theorem dX4_init_45 : decode cX4_init 45 = .ok (.bipush 60, 2) := by decide +kernel
theorem dX4_init_47 : decode cX4_init 47 = .ok (.newarray .int, 2) := by decide +kernel
theorem dX4_init_49 : decode cX4_init 49 = .ok (.putfield 27, 3) := by decide +kernel
theorem dX4_init_52 : decode cX4_init 52 = .ok (.aload_n 0, 1) := by decide +kernel
theorem dX4_init_53 : decode cX4_init 53 = .ok (.bipush 9, 2) := by decide +kernel
theorem dX4_init_55 : decode cX4_init 55 = .ok (.newarray .int, 2) := by decide +kernel
theorem dX4_init_57 : decode cX4_init 57 = .ok (.putfield 30, 3) := by decide +kernel
theorem dX4_init_60 : decode cX4_init 60 = .ok (.aload_n 0, 1) := by decide +kernel
theorem dX4_init_61 : decode cX4_init 61 = .ok (.bipush 9, 2) := by decide +kernel
theorem dX4_init_63 : decode cX4_init 63 = .ok (.newarray .int, 2) := by decide +kernel
theorem dX4_init_65 : decode cX4_init 65 = .ok (.putfield 33, 3) := by decide +kernel
theorem dX4_init_68 : decode cX4_init 68 = .ok (.aload_n 0, 1) := by decide +kernel
theorem dX4_init_69 : decode cX4_init 69 = .ok (.bipush 60, 2) := by decide +kernel
theorem dX4_init_71 : decode cX4_init 71 = .ok (.newarray .int, 2) := by decide +kernel
theorem dX4_init_73 : decode cX4_init 73 = .ok (.putfield 36, 3) := by decide +kernel
theorem dX4_init_76 : decode cX4_init 76 = .ok (.aload_n 0, 1) := by decide +kernel
theorem dX4_init_77 : decode cX4_init 77 = .ok (.bipush 60, 2) := by decide +kernel
theorem dX4_init_79 : decode cX4_init 79 = .ok (.newarray .int, 2) := by decide +kernel
theorem dX4_init_81 : decode cX4_init 81 = .ok (.putfield 39, 3) := by decide +kernel
theorem dX4_init_84 : decode cX4_init 84 = .ok (.aload_n 0, 1) := by decide +kernel
theorem dX4_init_85 : decode cX4_init 85 = .ok (.bipush 60, 2) := by decide +kernel
theorem dX4_init_87 : decode cX4_init 87 = .ok (.newarray .int, 2) := by decide +kernel
theorem dX4_init_89 : decode cX4_init 89 = .ok (.putfield 42, 3) := by decide +kernel
theorem dX4_init_92 : decode cX4_init 92 = .ok (.aload_n 0, 1) := by decide +kernel
theorem dX4_init_93 : decode cX4_init 93 = .ok (.aload_n 1, 1) := by decide +kernel
theorem dX4_init_94 : decode cX4_init 94 = .ok (.putfield 45, 3) := by decide +kernel
theorem dX4_init_97 : decode cX4_init 97 = .ok (.return_, 1) := by decide +kernel
theorem dX4_begin_0 : decode cX4_begin 0 = .ok (.aload_n 0, 1) := by decide +kernel
theorem dX4_begin_1 : decode cX4_begin 1 = .ok (.iconst 0, 1) := by decide +kernel
theorem dX4_begin_2 : decode cX4_begin 2 = .ok (.putfield 49, 3) := by decide +kernel
theorem dX4_begin_5 : decode cX4_begin 5 = .ok (.aload_n 0, 1) := by decide +kernel
theorem dX4_begin_6 : decode cX4_begin 6 = .ok (.iconst 0, 1) := by decide +kernel
theorem dX4_begin_7 : decode cX4_begin 7 = .ok (.putfield 53, 3) := by decide +kernel
theorem dX4_begin_10 : decode cX4_begin 10 = .ok (.aload_n 0, 1) := by decide +kernel
theorem dX4_begin_11 : decode cX4_begin 11 = .ok (.iconst 0, 1) := by decide +kernel
theorem dX4_begin_12 : decode cX4_begin 12 = .ok (.putfield 56, 3) := by decide +kernel
theorem dX4_begin_15 : decode cX4_begin 15 = .ok (.iconst 0, 1) := by decide +kernel
theorem dX4_begin_16 : decode cX4_begin 16 = .ok (.istore_n 1, 1) := by decide +kernel
theorem dX4_begin_17 : decode cX4_begin 17 = .ok (.iload_n 1, 1) := by decide +kernel
theorem dX4_begin_18 : decode cX4_begin 18 = .ok (.bipush 9, 2) := by decide +kernel
theorem dX4_begin_20 : decode cX4_begin 20 = .ok (.if_icmp .ge 31, 3) := by decide +kernel
theorem dX4_begin_23 : decode cX4_begin 23 = .ok (.aload_n 0, 1) := by decide +kernel
theorem dX4_begin_24 : decode cX4_begin 24 = .ok (.getfield 30, 3) := by decide +kernel
theorem dX4_begin_27 : decode cX4_begin 27 = .ok (.iload_n 1, 1) := by decide +kernel
theorem dX4_begin_28 : decode cX4_begin 28 = .ok (.aload_n 0, 1) := by decide +kernel
theorem dX4_begin_29 : decode cX4_begin 29 = .ok (.getfield 45, 3) := by decide +kernel
theorem dX4_begin_32 : decode cX4_begin 32 = .ok (.getfield 59, 3) := by decide +kernel
theorem dX4_begin_35 : decode cX4_begin 35 = .ok (.iload_n 1, 1) := by decide +kernel
theorem dX4_begin_36 : decode cX4_begin 36 = .ok (.iaload, 1) := by decide +kernel
theorem dX4_begin_37 : decode cX4_begin 37 = .ok (.iastore, 1) := by decide +kernel
theorem dX4_begin_38 : decode cX4_begin 38 = .ok (.aload_n 0, 1) := by decide +kernel
theorem dX4_begin_39 : decode cX4_begin 39 = .ok (.getfield 33, 3) := by decide +kernel
theorem dX4_begin_42 : decode cX4_begin 42 = .ok (.iload_n 1, 1) := by decide +kernel
theorem dX4_begin_43 : decode cX4_begin 43 = .ok (.iconst 0, 1) := by decide +kernel
theorem dX4_begin_44 : decode cX4_begin 44 = .ok (.iastore, 1) := by decide +kernel
theorem dX4_begin_45 : decode cX4_begin 45 = .ok (.iinc 1 1, 3) := by decide +kernel
theorem dX4_begin_48 : decode cX4_begin 48 = .ok (.goto (-31), 3) := by decide +kernel
theorem dX4_begin_51 : decode cX4_begin 51 = .ok (.return_, 1) := by decide +kernel
theorem dX4_copyFrom_0 : decode cX4_copyFrom 0 = .ok (.aload_n 1, 1) := by decide +kernel
theorem dX4_copyFrom_1 : decode cX4_copyFrom 1 = .ok (.getfield 49, 3) := by decide +kernel
theorem dX4_copyFrom_4 : decode cX4_copyFrom 4 = .ok (.istore_n 2, 1) := by decide +kernel
theorem dX4_copyFrom_5 : decode cX4_copyFrom 5 = .ok (.iload_n 2, 1) := by decide +kernel
theorem dX4_copyFrom_6 : decode cX4_copyFrom 6 = .ok (.ifCond .lt 9, 3) := by decide +kernel
theorem dX4_copyFrom_9 : decode cX4_copyFrom 9 = .ok (.iload_n 2, 1) := by decide +kernel
theorem dX4_copyFrom_10 : decode cX4_copyFrom 10 = .ok (.bipush 60, 2) := by decide +kernel
theorem dX4_copyFrom_12 : decode cX4_copyFrom 12 = .ok (.if_icmp .le 4, 3) := by decide +kernel
theorem dX4_copyFrom_15 : decode cX4_copyFrom 15 = .ok (.return_, 1) := by decide +kernel
theorem dX4_copyFrom_16 : decode cX4_copyFrom 16 = .ok (.aload_n 1, 1) := by decide +kernel
theorem dX4_copyFrom_17 : decode cX4_copyFrom 17 = .ok (.getfield 9, 3) := by decide +kernel
theorem dX4_copyFrom_20 : decode cX4_copyFrom 20 = .ok (.iconst 0, 1) := by decide +kernel
theorem dX4_copyFrom_21 : decode cX4_copyFrom 21 = .ok (.aload_n 0, 1) := by decide +kernel
theorem dX4_copyFrom_22 : decode cX4_copyFrom 22 = .ok (.getfield 9, 3) := by decide +kernel
theorem dX4_copyFrom_25 : decode cX4_copyFrom 25 = .ok (.iconst 0, 1) := by decide +kernel
theorem dX4_copyFrom_26 : decode cX4_copyFrom 26 = .ok (.iload_n 2, 1) := by decide +kernel
theorem dX4_copyFrom_27 : decode cX4_copyFrom 27 = .ok (.invokestatic 64, 3) := by decide +kernel
theorem dX4_copyFrom_30 : decode cX4_copyFrom 30 = .ok (.aload_n 1, 1) := by decide +kernel
theorem dX4_copyFrom_31 : decode cX4_copyFrom 31 = .ok (.getfield 15, 3) := by decide +kernel
theorem dX4_copyFrom_34 : decode cX4_copyFrom 34 = .ok (.iconst 0, 1) := by decide +kernel
theorem dX4_copyFrom_35 : decode cX4_copyFrom 35 = .ok (.aload_n 0, 1) := by decide +kernel
theorem dX4_copyFrom_36 : decode cX4_copyFrom 36 = .ok (.getfield 15, 3) := by decide +kernel
theorem dX4_copyFrom_39 : decode cX4_copyFrom 39 = .ok (.iconst 0, 1) := by decide +kernel
theorem dX4_copyFrom_40 : decode cX4_copyFrom 40 = .ok (.iload_n 2, 1) := by decide +kernel
theorem dX4_copyFrom_41 : decode cX4_copyFrom 41 = .ok (.invokestatic 64, 3) := by decide +kernel
theorem dX4_copyFrom_44 : decode cX4_copyFrom 44 = .ok (.aload_n 1, 1) := by decide +kernel
theorem dX4_copyFrom_45 : decode cX4_copyFrom 45 = .ok (.getfield 18, 3) := by decide +kernel
theorem dX4_copyFrom_48 : decode cX4_copyFrom 48 = .ok (.iconst 0, 1) := by decide +kernel
theorem dX4_copyFrom_49 : decode cX4_copyFrom 49 = .ok (.aload_n 0, 1) := by decide +kernel
theorem dX4_copyFrom_50 : decode cX4_copyFrom 50 = .ok (.getfield 18, 3) := by decide +kernel
theorem dX4_copyFrom_53 : decode cX4_copyFrom 53 = .ok (.iconst 0, 1) := by decide +kernel
theorem dX4_copyFrom_54 : decode cX4_copyFrom 54 = .ok (.iload_n 2, 1) := by decide +kernel
theorem dX4_copyFrom_55 : decode cX4_copyFrom 55 = .ok (.invokestatic 64, 3) := by decide +kernel
theorem dX4_copyFrom_58 : decode cX4_copyFrom 58 = .ok (.aload_n 1, 1) := by decide +kernel
theorem dX4_copyFrom_59 : decode cX4_copyFrom 59 = .ok (.getfield 21, 3) := by decide +kernel
theorem dX4_copyFrom_62 : decode cX4_copyFrom 62 = .ok (.iconst 0, 1) := by decide +kernel
theorem dX4_copyFrom_63 : decode cX4_copyFrom 63 = .ok (.aload_n 0, 1) := by decide +kernel
theorem dX4_copyFrom_64 : decode cX4_copyFrom 64 = .ok (.getfield 21, 3) := by decide +kernel
theorem dX4_copyFrom_67 : decode cX4_copyFrom 67 = .ok (.iconst 0, 1) := by decide +kernel
theorem dX4_copyFrom_68 : decode cX4_copyFrom 68 = .ok (.iload_n 2, 1) := by decide +kernel
theorem dX4_copyFrom_69 : decode cX4_copyFrom 69 = .ok (.invokestatic 64, 3) := by decide +kernel
theorem dX4_copyFrom_72 : decode cX4_copyFrom 72 = .ok (.aload_n 1, 1) := by decide +kernel
theorem dX4_copyFrom_73 : decode cX4_copyFrom 73 = .ok (.getfield 24, 3) := by decide +kernel
theorem dX4_copyFrom_76 : decode cX4_copyFrom 76 = .ok (.iconst 0, 1) := by decide +kernel
theorem dX4_copyFrom_77 : decode cX4_copyFrom 77 = .ok (.aload_n 0, 1) := by decide +kernel
theorem dX4_copyFrom_78 : decode cX4_copyFrom 78 = .ok (.getfield 24, 3) := by decide +kernel
theorem dX4_copyFrom_81 : decode cX4_copyFrom 81 = .ok (.iconst 0, 1) := by decide +kernel
theorem dX4_copyFrom_82 : decode cX4_copyFrom 82 = .ok (.iload_n 2, 1) := by decide +kernel
theorem dX4_copyFrom_83 : decode cX4_copyFrom 83 = .ok (.invokestatic 64, 3) := by decide +kernel
theorem dX4_copyFrom_86 : decode cX4_copyFrom 86 = .ok (.aload_n 1, 1) := by decide +kernel
theorem dX4_copyFrom_87 : decode cX4_copyFrom 87 = .ok (.getfield 27, 3) := by decide +kernel
theorem dX4_copyFrom_90 : decode cX4_copyFrom 90 = .ok (.iconst 0, 1) := by decide +kernel
theorem dX4_copyFrom_91 : decode cX4_copyFrom 91 = .ok (.aload_n 0, 1) := by decide +kernel
theorem dX4_copyFrom_92 : decode cX4_copyFrom 92 = .ok (.getfield 27, 3) := by decide +kernel
theorem dX4_copyFrom_95 : decode cX4_copyFrom 95 = .ok (.iconst 0, 1) := by decide +kernel
theorem dX4_copyFrom_96 : decode cX4_copyFrom 96 = .ok (.iload_n 2, 1) := by decide +kernel
theorem dX4_copyFrom_97 : decode cX4_copyFrom 97 = .ok (.invokestatic 64, 3) := by decide +kernel
theorem dX4_copyFrom_100 : decode cX4_copyFrom 100 = .ok (.aload_n 1, 1) := by decide +kernel
theorem dX4_copyFrom_101 : decode cX4_copyFrom 101 = .ok (.getfield 36, 3) := by decide +kernel
theorem dX4_copyFrom_104 : decode cX4_copyFrom 104 = .ok (.iconst 0, 1) := by decide +kernel
theorem dX4_copyFrom_105 : decode cX4_copyFrom 105 = .ok (.aload_n 0, 1) := by decide +kernel
theorem dX4_copyFrom_106 : decode cX4_copyFrom 106 = .ok (.getfield 36, 3) := by decide +kernel
theorem dX4_copyFrom_109 : decode cX4_copyFrom 109 = .ok (.iconst 0, 1) := by decide +kernel
theorem dX4_copyFrom_110 : decode cX4_copyFrom 110 = .ok (.iload_n 2, 1) := by decide +kernel
theorem dX4_copyFrom_111 : decode cX4_copyFrom 111 = .ok (.invokestatic 64, 3) := by decide +kernel
theorem dX4_copyFrom_114 : decode cX4_copyFrom 114 = .ok (.aload_n 1, 1) := by decide +kernel
theorem dX4_copyFrom_115 : decode cX4_copyFrom 115 = .ok (.getfield 39, 3) := by decide +kernel
theorem dX4_copyFrom_118 : decode cX4_copyFrom 118 = .ok (.iconst 0, 1) := by decide +kernel
theorem dX4_copyFrom_119 : decode cX4_copyFrom 119 = .ok (.aload_n 0, 1) := by decide +kernel
theorem dX4_copyFrom_120 : decode cX4_copyFrom 120 = .ok (.getfield 39, 3) := by decide +kernel
theorem dX4_copyFrom_123 : decode cX4_copyFrom 123 = .ok (.iconst 0, 1) := by decide +kernel
theorem dX4_copyFrom_124 : decode cX4_copyFrom 124 = .ok (.iload_n 2, 1) := by decide +kernel
theorem dX4_copyFrom_125 : decode cX4_copyFrom 125 = .ok (.invokestatic 64, 3) := by decide +kernel
theorem dX4_copyFrom_128 : decode cX4_copyFrom 128 = .ok (.aload_n 1, 1) := by decide +kernel
theorem dX4_copyFrom_129 : decode cX4_copyFrom 129 = .ok (.getfield 42, 3) := by decide +kernel
theorem dX4_copyFrom_132 : decode cX4_copyFrom 132 = .ok (.iconst 0, 1) := by decide +kernel
theorem dX4_copyFrom_133 : decode cX4_copyFrom 133 = .ok (.aload_n 0, 1) := by decide +kernel
theorem dX4_copyFrom_134 : decode cX4_copyFrom 134 = .ok (.getfield 42, 3) := by decide +kernel
theorem dX4_copyFrom_137 : decode cX4_copyFrom 137 = .ok (.iconst 0, 1) := by decide +kernel
theorem dX4_copyFrom_138 : decode cX4_copyFrom 138 = .ok (.iload_n 2, 1) := by decide +kernel
theorem dX4_copyFrom_139 : decode cX4_copyFrom 139 = .ok (.invokestatic 64, 3) := by decide +kernel
theorem dX4_copyFrom_142 : decode cX4_copyFrom 142 = .ok (.aload_n 1, 1) := by decide +kernel
theorem dX4_copyFrom_143 : decode cX4_copyFrom 143 = .ok (.getfield 30, 3) := by decide +kernel
theorem dX4_copyFrom_146 : decode cX4_copyFrom 146 = .ok (.iconst 0, 1) := by decide +kernel
theorem dX4_copyFrom_147 : decode cX4_copyFrom 147 = .ok (.aload_n 0, 1) := by decide +kernel
theorem dX4_copyFrom_148 : decode cX4_copyFrom 148 = .ok (.getfield 30, 3) := by decide +kernel
theorem dX4_copyFrom_151 : decode cX4_copyFrom 151 = .ok (.iconst 0, 1) := by decide +kernel
theorem dX4_copyFrom_152 : decode cX4_copyFrom 152 = .ok (.bipush 9, 2) := by decide +kernel
theorem dX4_copyFrom_154 : decode cX4_copyFrom 154 = .ok (.invokestatic 64, 3) := by decide +kernel
theorem dX4_copyFrom_157 : decode cX4_copyFrom 157 = .ok (.aload_n 1, 1) := by decide +kernel
theorem dX4_copyFrom_158 : decode cX4_copyFrom 158 = .ok (.getfield 33, 3) := by decide +kernel
theorem dX4_copyFrom_161 : decode cX4_copyFrom 161 = .ok (.iconst 0, 1) := by decide +kernel
theorem dX4_copyFrom_162 : decode cX4_copyFrom 162 = .ok (.aload_n 0, 1) := by decide +kernel
theorem dX4_copyFrom_163 : decode cX4_copyFrom 163 = .ok (.getfield 33, 3) := by decide +kernel
theorem dX4_copyFrom_166 : decode cX4_copyFrom 166 = .ok (.iconst 0, 1) := by decide +kernel
theorem dX4_copyFrom_167 : decode cX4_copyFrom 167 = .ok (.bipush 9, 2) := by decide +kernel
theorem dX4_copyFrom_169 : decode cX4_copyFrom 169 = .ok (.invokestatic 64, 3) := by decide +kernel
theorem dX4_copyFrom_172 : decode cX4_copyFrom 172 = .ok (.aload_n 0, 1) := by decide +kernel
theorem dX4_copyFrom_173 : decode cX4_copyFrom 173 = .ok (.iload_n 2, 1) := by decide +kernel
theorem dX4_copyFrom_174 : decode cX4_copyFrom 174 = .ok (.putfield 49, 3) := by decide +kernel
theorem dX4_copyFrom_177 : decode cX4_copyFrom 177 = .ok (.aload_n 0, 1) := by decide +kernel
theorem dX4_copyFrom_178 : decode cX4_copyFrom 178 = .ok (.aload_n 1, 1) := by decide +kernel
theorem dX4_copyFrom_179 : decode cX4_copyFrom 179 = .ok (.getfield 53, 3) := by decide +kernel
theorem dX4_copyFrom_182 : decode cX4_copyFrom 182 = .ok (.putfield 53, 3) := by decide +kernel
theorem dX4_copyFrom_185 : decode cX4_copyFrom 185 = .ok (.aload_n 0, 1) := by decide +kernel
theorem dX4_copyFrom_186 : decode cX4_copyFrom 186 = .ok (.aload_n 1, 1) := by decide +kernel
theorem dX4_copyFrom_187 : decode cX4_copyFrom 187 = .ok (.getfield 56, 3) := by decide +kernel
theorem dX4_copyFrom_190 : decode cX4_copyFrom 190 = .ok (.putfield 56, 3) := by decide +kernel
theorem dX4_copyFrom_193 : decode cX4_copyFrom 193 = .ok (.return_, 1) := by decide +kernel
theorem dX4_hasDeal_0 : decode cX4_hasDeal 0 = .ok (.iload_n 1, 1) := by decide +kernel
theorem dX4_hasDeal_1 : decode cX4_hasDeal 1 = .ok (.ifCond .lt 21, 3) := by decide +kernel
theorem dX4_hasDeal_4 : decode cX4_hasDeal 4 = .ok (.iload_n 1, 1) := by decide +kernel
theorem dX4_hasDeal_5 : decode cX4_hasDeal 5 = .ok (.aload_n 0, 1) := by decide +kernel
theorem dX4_hasDeal_6 : decode cX4_hasDeal 6 = .ok (.getfield 49, 3) := by decide +kernel
theorem dX4_hasDeal_9 : decode cX4_hasDeal 9 = .ok (.if_icmp .ge 13, 3) := by decide +kernel
theorem dX4_hasDeal_12 : decode cX4_hasDeal 12 = .ok (.iload_n 1, 1) := by decide +kernel
theorem dX4_hasDeal_13 : decode cX4_hasDeal 13 = .ok (.bipush 60, 2) := by decide +kernel
theorem dX4_hasDeal_15 : decode cX4_hasDeal 15 = .ok (.if_icmp .ge 7, 3) := by decide +kernel
theorem dX4_hasDeal_18 : decode cX4_hasDeal 18 = .ok (.iconst 1, 1) := by decide +kernel
theorem dX4_hasDeal_19 : decode cX4_hasDeal 19 = .ok (.goto 4, 3) := by decide +kernel
theorem dX4_hasDeal_22 : decode cX4_hasDeal 22 = .ok (.iconst 0, 1) := by decide +kernel
theorem dX4_hasDeal_23 : decode cX4_hasDeal 23 = .ok (.ireturn, 1) := by decide +kernel
theorem dX4_isOpen_0 : decode cX4_isOpen 0 = .ok (.aload_n 0, 1) := by decide +kernel
theorem dX4_isOpen_1 : decode cX4_isOpen 1 = .ok (.iload_n 1, 1) := by decide +kernel
theorem dX4_isOpen_2 : decode cX4_isOpen 2 = .ok (.invokevirtual 70, 3) := by decide +kernel
theorem dX4_isOpen_5 : decode cX4_isOpen 5 = .ok (.ifCond .eq 16, 3) := by decide +kernel
theorem dX4_isOpen_8 : decode cX4_isOpen 8 = .ok (.aload_n 0, 1) := by decide +kernel
theorem dX4_isOpen_9 : decode cX4_isOpen 9 = .ok (.getfield 27, 3) := by decide +kernel
theorem dX4_isOpen_12 : decode cX4_isOpen 12 = .ok (.iload_n 1, 1) := by decide +kernel
theorem dX4_isOpen_13 : decode cX4_isOpen 13 = .ok (.iaload, 1) := by decide +kernel
theorem dX4_isOpen_14 : decode cX4_isOpen 14 = .ok (.ifCond .ne 7, 3) := by decide +kernel
theorem dX4_isOpen_17 : decode cX4_isOpen 17 = .ok (.iconst 1, 1) := by decide +kernel
theorem dX4_isOpen_18 : decode cX4_isOpen 18 = .ok (.goto 4, 3) := by decide +kernel
theorem dX4_isOpen_21 : decode cX4_isOpen 21 = .ok (.iconst 0, 1) := by decide +kernel
theorem dX4_isOpen_22 : decode cX4_isOpen 22 = .ok (.ireturn, 1) := by decide +kernel
theorem dX4_lives_0 : decode cX4_lives 0 = .ok (.aload_n 0, 1) := by decide +kernel
theorem dX4_lives_1 : decode cX4_lives 1 = .ok (.getfield 56, 3) := by decide +kernel
theorem dX4_lives_4 : decode cX4_lives 4 = .ok (.iload_n 1, 1) := by decide +kernel
theorem dX4_lives_5 : decode cX4_lives 5 = .ok (.ishr, 1) := by decide +kernel
theorem dX4_lives_6 : decode cX4_lives 6 = .ok (.iconst 1, 1) := by decide +kernel
theorem dX4_lives_7 : decode cX4_lives 7 = .ok (.iand, 1) := by decide +kernel
theorem dX4_lives_8 : decode cX4_lives 8 = .ok (.ifCond .ne 7, 3) := by decide +kernel
theorem dX4_lives_11 : decode cX4_lives 11 = .ok (.iconst 1, 1) := by decide +kernel
theorem dX4_lives_12 : decode cX4_lives 12 = .ok (.goto 4, 3) := by decide +kernel
theorem dX4_lives_15 : decode cX4_lives 15 = .ok (.iconst 0, 1) := by decide +kernel
theorem dX4_lives_16 : decode cX4_lives 16 = .ok (.ireturn, 1) := by decide +kernel
theorem dX4_bearer_0 : decode cX4_bearer 0 = .ok (.iload_n 2, 1) := by decide +kernel
theorem dX4_bearer_1 : decode cX4_bearer 1 = .ok (.ifCond .ne 12, 3) := by decide +kernel
theorem dX4_bearer_4 : decode cX4_bearer 4 = .ok (.aload_n 0, 1) := by decide +kernel
theorem dX4_bearer_5 : decode cX4_bearer 5 = .ok (.getfield 36, 3) := by decide +kernel
theorem dX4_bearer_8 : decode cX4_bearer 8 = .ok (.iload_n 1, 1) := by decide +kernel
theorem dX4_bearer_9 : decode cX4_bearer 9 = .ok (.iaload, 1) := by decide +kernel
theorem dX4_bearer_10 : decode cX4_bearer 10 = .ok (.goto 9, 3) := by decide +kernel
theorem dX4_bearer_13 : decode cX4_bearer 13 = .ok (.aload_n 0, 1) := by decide +kernel
theorem dX4_bearer_14 : decode cX4_bearer 14 = .ok (.getfield 39, 3) := by decide +kernel
theorem dX4_bearer_17 : decode cX4_bearer 17 = .ok (.iload_n 1, 1) := by decide +kernel
theorem dX4_bearer_18 : decode cX4_bearer 18 = .ok (.iaload, 1) := by decide +kernel
theorem dX4_bearer_19 : decode cX4_bearer 19 = .ok (.ireturn, 1) := by decide +kernel
theorem dX4_isScarred_0 : decode cX4_isScarred 0 = .ok (.iload_n 2, 1) := by decide +kernel
theorem dX4_isScarred_1 : decode cX4_isScarred 1 = .ok (.aload_n 0, 1) := by decide +kernel
theorem dX4_isScarred_2 : decode cX4_isScarred 2 = .ok (.getfield 42, 3) := by decide +kernel
theorem dX4_isScarred_5 : decode cX4_isScarred 5 = .ok (.iload_n 1, 1) := by decide +kernel
theorem dX4_isScarred_6 : decode cX4_isScarred 6 = .ok (.iaload, 1) := by decide +kernel
theorem dX4_isScarred_7 : decode cX4_isScarred 7 = .ok (.invokestatic 74, 3) := by decide +kernel
theorem dX4_isScarred_10 : decode cX4_isScarred 10 = .ok (.ireturn, 1) := by decide +kernel
theorem dX4_unscarredBearer_0 : decode cX4_unscarredBearer 0 = .ok (.aload_n 0, 1) := by decide +kernel
theorem dX4_unscarredBearer_1 : decode cX4_unscarredBearer 1 = .ok (.getfield 42, 3) := by decide +kernel
theorem dX4_unscarredBearer_4 : decode cX4_unscarredBearer 4 = .ok (.iload_n 1, 1) := by decide +kernel
theorem dX4_unscarredBearer_5 : decode cX4_unscarredBearer 5 = .ok (.iaload, 1) := by decide +kernel
theorem dX4_unscarredBearer_6 : decode cX4_unscarredBearer 6 = .ok (.iload_n 2, 1) := by decide +kernel
theorem dX4_unscarredBearer_7 : decode cX4_unscarredBearer 7 = .ok (.ishr, 1) := by decide +kernel
theorem dX4_unscarredBearer_8 : decode cX4_unscarredBearer 8 = .ok (.iconst 1, 1) := by decide +kernel
theorem dX4_unscarredBearer_9 : decode cX4_unscarredBearer 9 = .ok (.iand, 1) := by decide +kernel
theorem dX4_unscarredBearer_10 : decode cX4_unscarredBearer 10 = .ok (.iconst 1, 1) := by decide +kernel
theorem dX4_unscarredBearer_11 : decode cX4_unscarredBearer 11 = .ok (.if_icmp .ne 7, 3) := by decide +kernel
theorem dX4_unscarredBearer_14 : decode cX4_unscarredBearer 14 = .ok (.iconst (-1), 1) := by decide +kernel
theorem dX4_unscarredBearer_15 : decode cX4_unscarredBearer 15 = .ok (.goto 9, 3) := by decide +kernel
theorem dX4_unscarredBearer_18 : decode cX4_unscarredBearer 18 = .ok (.aload_n 0, 1) := by decide +kernel
theorem dX4_unscarredBearer_19 : decode cX4_unscarredBearer 19 = .ok (.iload_n 1, 1) := by decide +kernel
theorem dX4_unscarredBearer_20 : decode cX4_unscarredBearer 20 = .ok (.iload_n 2, 1) := by decide +kernel
theorem dX4_unscarredBearer_21 : decode cX4_unscarredBearer 21 = .ok (.invokevirtual 78, 3) := by decide +kernel
theorem dX4_unscarredBearer_24 : decode cX4_unscarredBearer 24 = .ok (.ireturn, 1) := by decide +kernel
theorem dX4_isReadable_0 : decode cX4_isReadable 0 = .ok (.aload_n 0, 1) := by decide +kernel
theorem dX4_isReadable_1 : decode cX4_isReadable 1 = .ok (.iload_n 1, 1) := by decide +kernel
theorem dX4_isReadable_2 : decode cX4_isReadable 2 = .ok (.iload_n 2, 1) := by decide +kernel
theorem dX4_isReadable_3 : decode cX4_isReadable 3 = .ok (.invokevirtual 82, 3) := by decide +kernel
theorem dX4_isReadable_6 : decode cX4_isReadable 6 = .ok (.istore_n 3, 1) := by decide +kernel
theorem dX4_isReadable_7 : decode cX4_isReadable 7 = .ok (.iload_n 3, 1) := by decide +kernel
theorem dX4_isReadable_8 : decode cX4_isReadable 8 = .ok (.iconst (-1), 1) := by decide +kernel
theorem dX4_isReadable_9 : decode cX4_isReadable 9 = .ok (.if_icmp .eq 15, 3) := by decide +kernel
theorem dX4_isReadable_12 : decode cX4_isReadable 12 = .ok (.aload_n 0, 1) := by decide +kernel
theorem dX4_isReadable_13 : decode cX4_isReadable 13 = .ok (.iload_n 3, 1) := by decide +kernel
theorem dX4_isReadable_14 : decode cX4_isReadable 14 = .ok (.invokevirtual 85, 3) := by decide +kernel
theorem dX4_isReadable_17 : decode cX4_isReadable 17 = .ok (.ifCond .eq 7, 3) := by decide +kernel
theorem dX4_isReadable_20 : decode cX4_isReadable 20 = .ok (.iconst 1, 1) := by decide +kernel
theorem dX4_isReadable_21 : decode cX4_isReadable 21 = .ok (.goto 4, 3) := by decide +kernel
theorem dX4_isReadable_24 : decode cX4_isReadable 24 = .ok (.iconst 0, 1) := by decide +kernel
theorem dX4_isReadable_25 : decode cX4_isReadable 25 = .ok (.ireturn, 1) := by decide +kernel
theorem dX4_isKnown_0 : decode cX4_isKnown 0 = .ok (.aload_n 0, 1) := by decide +kernel
theorem dX4_isKnown_1 : decode cX4_isKnown 1 = .ok (.iload_n 1, 1) := by decide +kernel
theorem dX4_isKnown_2 : decode cX4_isKnown 2 = .ok (.iconst 0, 1) := by decide +kernel
theorem dX4_isKnown_3 : decode cX4_isKnown 3 = .ok (.invokevirtual 88, 3) := by decide +kernel
theorem dX4_isKnown_6 : decode cX4_isKnown 6 = .ok (.istore_n 2, 1) := by decide +kernel
theorem dX4_isKnown_7 : decode cX4_isKnown 7 = .ok (.aload_n 0, 1) := by decide +kernel
theorem dX4_isKnown_8 : decode cX4_isKnown 8 = .ok (.iload_n 1, 1) := by decide +kernel
theorem dX4_isKnown_9 : decode cX4_isKnown 9 = .ok (.iconst 1, 1) := by decide +kernel
theorem dX4_isKnown_10 : decode cX4_isKnown 10 = .ok (.invokevirtual 88, 3) := by decide +kernel
theorem dX4_isKnown_13 : decode cX4_isKnown 13 = .ok (.istore_n 3, 1) := by decide +kernel
theorem dX4_isKnown_14 : decode cX4_isKnown 14 = .ok (.aload_n 0, 1) := by decide +kernel
theorem dX4_isKnown_15 : decode cX4_isKnown 15 = .ok (.getfield 45, 3) := by decide +kernel
theorem dX4_isKnown_18 : decode cX4_isKnown 18 = .ok (.getfield 91, 3) := by decide +kernel
theorem dX4_isKnown_21 : decode cX4_isKnown 21 = .ok (.aload_n 0, 1) := by decide +kernel
theorem dX4_isKnown_22 : decode cX4_isKnown 22 = .ok (.getfield 21, 3) := by decide +kernel
theorem dX4_isKnown_25 : decode cX4_isKnown 25 = .ok (.iload_n 1, 1) := by decide +kernel
theorem dX4_isKnown_26 : decode cX4_isKnown 26 = .ok (.iaload, 1) := by decide +kernel
theorem dX4_isKnown_27 : decode cX4_isKnown 27 = .ok (.iaload, 1) := by decide +kernel
theorem dX4_isKnown_28 : decode cX4_isKnown 28 = .ok (.iconst 4, 1) := by decide +kernel
theorem dX4_isKnown_29 : decode cX4_isKnown 29 = .ok (.if_icmp .ne 19, 3) := by decide +kernel
theorem dX4_isKnown_32 : decode cX4_isKnown 32 = .ok (.iload_n 2, 1) := by decide +kernel
theorem dX4_isKnown_33 : decode cX4_isKnown 33 = .ok (.ifCond .eq 11, 3) := by decide +kernel
theorem dX4_isKnown_36 : decode cX4_isKnown 36 = .ok (.iload_n 3, 1) := by decide +kernel
theorem dX4_isKnown_37 : decode cX4_isKnown 37 = .ok (.ifCond .eq 7, 3) := by decide +kernel
theorem dX4_isKnown_40 : decode cX4_isKnown 40 = .ok (.iconst 1, 1) := by decide +kernel
theorem dX4_isKnown_41 : decode cX4_isKnown 41 = .ok (.goto 20, 3) := by decide +kernel
theorem dX4_isKnown_44 : decode cX4_isKnown 44 = .ok (.iconst 0, 1) := by decide +kernel
theorem dX4_isKnown_45 : decode cX4_isKnown 45 = .ok (.goto 16, 3) := by decide +kernel
theorem dX4_isKnown_48 : decode cX4_isKnown 48 = .ok (.iload_n 2, 1) := by decide +kernel
theorem dX4_isKnown_49 : decode cX4_isKnown 49 = .ok (.ifCond .ne 7, 3) := by decide +kernel
theorem dX4_isKnown_52 : decode cX4_isKnown 52 = .ok (.iload_n 3, 1) := by decide +kernel
theorem dX4_isKnown_53 : decode cX4_isKnown 53 = .ok (.ifCond .eq 7, 3) := by decide +kernel
theorem dX4_isKnown_56 : decode cX4_isKnown 56 = .ok (.iconst 1, 1) := by decide +kernel
theorem dX4_isKnown_57 : decode cX4_isKnown 57 = .ok (.goto 4, 3) := by decide +kernel
theorem dX4_isKnown_60 : decode cX4_isKnown 60 = .ok (.iconst 0, 1) := by decide +kernel
theorem dX4_isKnown_61 : decode cX4_isKnown 61 = .ok (.ireturn, 1) := by decide +kernel
theorem dX4_isLost_0 : decode cX4_isLost 0 = .ok (.aload_n 0, 1) := by decide +kernel
theorem dX4_isLost_1 : decode cX4_isLost 1 = .ok (.iload_n 1, 1) := by decide +kernel
theorem dX4_isLost_2 : decode cX4_isLost 2 = .ok (.invokevirtual 94, 3) := by decide +kernel
theorem dX4_isLost_5 : decode cX4_isLost 5 = .ok (.ifCond .eq 33, 3) := by decide +kernel
theorem dX4_isLost_8 : decode cX4_isLost 8 = .ok (.aload_n 0, 1) := by decide +kernel
theorem dX4_isLost_9 : decode cX4_isLost 9 = .ok (.getfield 45, 3) := by decide +kernel
theorem dX4_isLost_12 : decode cX4_isLost 12 = .ok (.getfield 91, 3) := by decide +kernel
theorem dX4_isLost_15 : decode cX4_isLost 15 = .ok (.aload_n 0, 1) := by decide +kernel
theorem dX4_isLost_16 : decode cX4_isLost 16 = .ok (.getfield 21, 3) := by decide +kernel
theorem dX4_isLost_19 : decode cX4_isLost 19 = .ok (.iload_n 1, 1) := by decide +kernel
theorem dX4_isLost_20 : decode cX4_isLost 20 = .ok (.iaload, 1) := by decide +kernel
theorem dX4_isLost_21 : decode cX4_isLost 21 = .ok (.iaload, 1) := by decide +kernel
theorem dX4_isLost_22 : decode cX4_isLost 22 = .ok (.iconst 3, 1) := by decide +kernel
theorem dX4_isLost_23 : decode cX4_isLost 23 = .ok (.if_icmp .eq 15, 3) := by decide +kernel
theorem dX4_isLost_26 : decode cX4_isLost 26 = .ok (.aload_n 0, 1) := by decide +kernel
theorem dX4_isLost_27 : decode cX4_isLost 27 = .ok (.iload_n 1, 1) := by decide +kernel
theorem dX4_isLost_28 : decode cX4_isLost 28 = .ok (.invokevirtual 97, 3) := by decide +kernel
theorem dX4_isLost_31 : decode cX4_isLost 31 = .ok (.ifCond .ne 7, 3) := by decide +kernel
theorem dX4_isLost_34 : decode cX4_isLost 34 = .ok (.iconst 1, 1) := by decide +kernel
theorem dX4_isLost_35 : decode cX4_isLost 35 = .ok (.goto 4, 3) := by decide +kernel
theorem dX4_isLost_38 : decode cX4_isLost 38 = .ok (.iconst 0, 1) := by decide +kernel
theorem dX4_isLost_39 : decode cX4_isLost 39 = .ok (.ireturn, 1) := by decide +kernel
theorem dX4_valueOf_0 : decode cX4_valueOf 0 = .ok (.aload_n 0, 1) := by decide +kernel
theorem dX4_valueOf_1 : decode cX4_valueOf 1 = .ok (.getfield 45, 3) := by decide +kernel
theorem dX4_valueOf_4 : decode cX4_valueOf 4 = .ok (.aload_n 0, 1) := by decide +kernel
theorem dX4_valueOf_5 : decode cX4_valueOf 5 = .ok (.getfield 21, 3) := by decide +kernel
theorem dX4_valueOf_8 : decode cX4_valueOf 8 = .ok (.iload_n 1, 1) := by decide +kernel
theorem dX4_valueOf_9 : decode cX4_valueOf 9 = .ok (.iaload, 1) := by decide +kernel
theorem dX4_valueOf_10 : decode cX4_valueOf 10 = .ok (.aload_n 0, 1) := by decide +kernel
theorem dX4_valueOf_11 : decode cX4_valueOf 11 = .ok (.getfield 18, 3) := by decide +kernel
theorem dX4_valueOf_14 : decode cX4_valueOf 14 = .ok (.iload_n 1, 1) := by decide +kernel
theorem dX4_valueOf_15 : decode cX4_valueOf 15 = .ok (.iaload, 1) := by decide +kernel
theorem dX4_valueOf_16 : decode cX4_valueOf 16 = .ok (.invokevirtual 100, 3) := by decide +kernel
theorem dX4_valueOf_19 : decode cX4_valueOf 19 = .ok (.ireturn, 1) := by decide +kernel
theorem dX4_netOf_0 : decode cX4_netOf 0 = .ok (.iconst 0, 1) := by decide +kernel
theorem dX4_netOf_1 : decode cX4_netOf 1 = .ok (.istore_n 2, 1) := by decide +kernel
theorem dX4_netOf_2 : decode cX4_netOf 2 = .ok (.iconst 0, 1) := by decide +kernel
theorem dX4_netOf_3 : decode cX4_netOf 3 = .ok (.istore_n 3, 1) := by decide +kernel
theorem dX4_netOf_4 : decode cX4_netOf 4 = .ok (.iload_n 3, 1) := by decide +kernel
theorem dX4_netOf_5 : decode cX4_netOf 5 = .ok (.aload_n 0, 1) := by decide +kernel
theorem dX4_netOf_6 : decode cX4_netOf 6 = .ok (.getfield 49, 3) := by decide +kernel
theorem dX4_netOf_9 : decode cX4_netOf 9 = .ok (.if_icmp .ge 61, 3) := by decide +kernel
theorem dX4_netOf_12 : decode cX4_netOf 12 = .ok (.aload_n 0, 1) := by decide +kernel
theorem dX4_netOf_13 : decode cX4_netOf 13 = .ok (.iload_n 3, 1) := by decide +kernel
theorem dX4_netOf_14 : decode cX4_netOf 14 = .ok (.invokevirtual 94, 3) := by decide +kernel
theorem dX4_netOf_17 : decode cX4_netOf 17 = .ok (.ifCond .eq 47, 3) := by decide +kernel
theorem dX4_netOf_20 : decode cX4_netOf 20 = .ok (.iload_n 2, 1) := by decide +kernel
theorem dX4_netOf_21 : decode cX4_netOf 21 = .ok (.aload_n 0, 1) := by decide +kernel
theorem dX4_netOf_22 : decode cX4_netOf 22 = .ok (.getfield 9, 3) := by decide +kernel
theorem dX4_netOf_25 : decode cX4_netOf 25 = .ok (.iload_n 3, 1) := by decide +kernel
theorem dX4_netOf_26 : decode cX4_netOf 26 = .ok (.iaload, 1) := by decide +kernel
theorem dX4_netOf_27 : decode cX4_netOf 27 = .ok (.iload_n 1, 1) := by decide +kernel
theorem dX4_netOf_28 : decode cX4_netOf 28 = .ok (.if_icmp .ne 11, 3) := by decide +kernel
theorem dX4_netOf_31 : decode cX4_netOf 31 = .ok (.aload_n 0, 1) := by decide +kernel
theorem dX4_netOf_32 : decode cX4_netOf 32 = .ok (.iload_n 3, 1) := by decide +kernel
theorem dX4_netOf_33 : decode cX4_netOf 33 = .ok (.invokevirtual 103, 3) := by decide +kernel
theorem dX4_netOf_36 : decode cX4_netOf 36 = .ok (.goto 4, 3) := by decide +kernel
theorem dX4_netOf_39 : decode cX4_netOf 39 = .ok (.iconst 0, 1) := by decide +kernel
theorem dX4_netOf_40 : decode cX4_netOf 40 = .ok (.iadd, 1) := by decide +kernel
theorem dX4_netOf_41 : decode cX4_netOf 41 = .ok (.istore_n 2, 1) := by decide +kernel
theorem dX4_netOf_42 : decode cX4_netOf 42 = .ok (.iload_n 2, 1) := by decide +kernel
theorem dX4_netOf_43 : decode cX4_netOf 43 = .ok (.aload_n 0, 1) := by decide +kernel
theorem dX4_netOf_44 : decode cX4_netOf 44 = .ok (.getfield 15, 3) := by decide +kernel
theorem dX4_netOf_47 : decode cX4_netOf 47 = .ok (.iload_n 3, 1) := by decide +kernel
theorem dX4_netOf_48 : decode cX4_netOf 48 = .ok (.iaload, 1) := by decide +kernel
theorem dX4_netOf_49 : decode cX4_netOf 49 = .ok (.iload_n 1, 1) := by decide +kernel
theorem dX4_netOf_50 : decode cX4_netOf 50 = .ok (.if_icmp .ne 11, 3) := by decide +kernel
theorem dX4_netOf_53 : decode cX4_netOf 53 = .ok (.aload_n 0, 1) := by decide +kernel
theorem dX4_netOf_54 : decode cX4_netOf 54 = .ok (.iload_n 3, 1) := by decide +kernel
theorem dX4_netOf_55 : decode cX4_netOf 55 = .ok (.invokevirtual 103, 3) := by decide +kernel
theorem dX4_netOf_58 : decode cX4_netOf 58 = .ok (.goto 4, 3) := by decide +kernel
theorem dX4_netOf_61 : decode cX4_netOf 61 = .ok (.iconst 0, 1) := by decide +kernel
theorem dX4_netOf_62 : decode cX4_netOf 62 = .ok (.isub, 1) := by decide +kernel
theorem dX4_netOf_63 : decode cX4_netOf 63 = .ok (.istore_n 2, 1) := by decide +kernel
theorem dX4_netOf_64 : decode cX4_netOf 64 = .ok (.iinc 3 1, 3) := by decide +kernel
theorem dX4_netOf_67 : decode cX4_netOf 67 = .ok (.goto (-63), 3) := by decide +kernel
theorem dX4_netOf_70 : decode cX4_netOf 70 = .ok (.iload_n 2, 1) := by decide +kernel
theorem dX4_netOf_71 : decode cX4_netOf 71 = .ok (.ireturn, 1) := by decide +kernel
theorem dX4_marksOn_0 : decode cX4_marksOn 0 = .ok (.iconst 0, 1) := by decide +kernel
theorem dX4_marksOn_1 : decode cX4_marksOn 1 = .ok (.istore_n 3, 1) := by decide +kernel
theorem dX4_marksOn_2 : decode cX4_marksOn 2 = .ok (.iconst 0, 1) := by decide +kernel
theorem dX4_marksOn_3 : decode cX4_marksOn 3 = .ok (.istore 4, 2) := by decide +kernel
theorem dX4_marksOn_5 : decode cX4_marksOn 5 = .ok (.iload 4, 2) := by decide +kernel
theorem dX4_marksOn_7 : decode cX4_marksOn 7 = .ok (.aload_n 0, 1) := by decide +kernel
theorem dX4_marksOn_8 : decode cX4_marksOn 8 = .ok (.getfield 49, 3) := by decide +kernel
theorem dX4_marksOn_11 : decode cX4_marksOn 11 = .ok (.if_icmp .ge 58, 3) := by decide +kernel
theorem dX4_marksOn_14 : decode cX4_marksOn 14 = .ok (.aload_n 0, 1) := by decide +kernel
theorem dX4_marksOn_15 : decode cX4_marksOn 15 = .ok (.getfield 24, 3) := by decide +kernel
theorem dX4_marksOn_18 : decode cX4_marksOn 18 = .ok (.iload 4, 2) := by decide +kernel
theorem dX4_marksOn_20 : decode cX4_marksOn 20 = .ok (.iaload, 1) := by decide +kernel
theorem dX4_marksOn_21 : decode cX4_marksOn 21 = .ok (.iload_n 2, 1) := by decide +kernel
theorem dX4_marksOn_22 : decode cX4_marksOn 22 = .ok (.if_icmp .gt 41, 3) := by decide +kernel
theorem dX4_marksOn_25 : decode cX4_marksOn 25 = .ok (.iload_n 3, 1) := by decide +kernel
theorem dX4_marksOn_26 : decode cX4_marksOn 26 = .ok (.aload_n 0, 1) := by decide +kernel
theorem dX4_marksOn_27 : decode cX4_marksOn 27 = .ok (.getfield 36, 3) := by decide +kernel
theorem dX4_marksOn_30 : decode cX4_marksOn 30 = .ok (.iload 4, 2) := by decide +kernel
theorem dX4_marksOn_32 : decode cX4_marksOn 32 = .ok (.iaload, 1) := by decide +kernel
theorem dX4_marksOn_33 : decode cX4_marksOn 33 = .ok (.iload_n 1, 1) := by decide +kernel
theorem dX4_marksOn_34 : decode cX4_marksOn 34 = .ok (.if_icmp .ne 7, 3) := by decide +kernel
theorem dX4_marksOn_37 : decode cX4_marksOn 37 = .ok (.iconst 1, 1) := by decide +kernel
theorem dX4_marksOn_38 : decode cX4_marksOn 38 = .ok (.goto 4, 3) := by decide +kernel
theorem dX4_marksOn_41 : decode cX4_marksOn 41 = .ok (.iconst 0, 1) := by decide +kernel
theorem dX4_marksOn_42 : decode cX4_marksOn 42 = .ok (.iadd, 1) := by decide +kernel
theorem dX4_marksOn_43 : decode cX4_marksOn 43 = .ok (.istore_n 3, 1) := by decide +kernel
theorem dX4_marksOn_44 : decode cX4_marksOn 44 = .ok (.iload_n 3, 1) := by decide +kernel
theorem dX4_marksOn_45 : decode cX4_marksOn 45 = .ok (.aload_n 0, 1) := by decide +kernel
theorem dX4_marksOn_46 : decode cX4_marksOn 46 = .ok (.getfield 39, 3) := by decide +kernel
theorem dX4_marksOn_49 : decode cX4_marksOn 49 = .ok (.iload 4, 2) := by decide +kernel
theorem dX4_marksOn_51 : decode cX4_marksOn 51 = .ok (.iaload, 1) := by decide +kernel
theorem dX4_marksOn_52 : decode cX4_marksOn 52 = .ok (.iload_n 1, 1) := by decide +kernel
theorem dX4_marksOn_53 : decode cX4_marksOn 53 = .ok (.if_icmp .ne 7, 3) := by decide +kernel
theorem dX4_marksOn_56 : decode cX4_marksOn 56 = .ok (.iconst 1, 1) := by decide +kernel
theorem dX4_marksOn_57 : decode cX4_marksOn 57 = .ok (.goto 4, 3) := by decide +kernel
theorem dX4_marksOn_60 : decode cX4_marksOn 60 = .ok (.iconst 0, 1) := by decide +kernel
theorem dX4_marksOn_61 : decode cX4_marksOn 61 = .ok (.iadd, 1) := by decide +kernel
theorem dX4_marksOn_62 : decode cX4_marksOn 62 = .ok (.istore_n 3, 1) := by decide +kernel
theorem dX4_marksOn_63 : decode cX4_marksOn 63 = .ok (.iinc 4 1, 3) := by decide +kernel
theorem dX4_marksOn_66 : decode cX4_marksOn 66 = .ok (.goto (-61), 3) := by decide +kernel
theorem dX4_marksOn_69 : decode cX4_marksOn 69 = .ok (.iload_n 3, 1) := by decide +kernel
theorem dX4_marksOn_70 : decode cX4_marksOn 70 = .ok (.ireturn, 1) := by decide +kernel
theorem dX4_openDeals_0 : decode cX4_openDeals 0 = .ok (.iconst 0, 1) := by decide +kernel
theorem dX4_openDeals_1 : decode cX4_openDeals 1 = .ok (.istore_n 1, 1) := by decide +kernel
theorem dX4_openDeals_2 : decode cX4_openDeals 2 = .ok (.iconst 0, 1) := by decide +kernel
theorem dX4_openDeals_3 : decode cX4_openDeals 3 = .ok (.istore_n 2, 1) := by decide +kernel
theorem dX4_openDeals_4 : decode cX4_openDeals 4 = .ok (.iload_n 2, 1) := by decide +kernel
theorem dX4_openDeals_5 : decode cX4_openDeals 5 = .ok (.aload_n 0, 1) := by decide +kernel
theorem dX4_openDeals_6 : decode cX4_openDeals 6 = .ok (.getfield 49, 3) := by decide +kernel
theorem dX4_openDeals_9 : decode cX4_openDeals 9 = .ok (.if_icmp .ge 25, 3) := by decide +kernel
theorem dX4_openDeals_12 : decode cX4_openDeals 12 = .ok (.iload_n 1, 1) := by decide +kernel
theorem dX4_openDeals_13 : decode cX4_openDeals 13 = .ok (.aload_n 0, 1) := by decide +kernel
theorem dX4_openDeals_14 : decode cX4_openDeals 14 = .ok (.iload_n 2, 1) := by decide +kernel
theorem dX4_openDeals_15 : decode cX4_openDeals 15 = .ok (.invokevirtual 94, 3) := by decide +kernel
theorem dX4_openDeals_18 : decode cX4_openDeals 18 = .ok (.ifCond .eq 7, 3) := by decide +kernel
theorem dX4_openDeals_21 : decode cX4_openDeals 21 = .ok (.iconst 1, 1) := by decide +kernel
theorem dX4_openDeals_22 : decode cX4_openDeals 22 = .ok (.goto 4, 3) := by decide +kernel
theorem dX4_openDeals_25 : decode cX4_openDeals 25 = .ok (.iconst 0, 1) := by decide +kernel
theorem dX4_openDeals_26 : decode cX4_openDeals 26 = .ok (.iadd, 1) := by decide +kernel
theorem dX4_openDeals_27 : decode cX4_openDeals 27 = .ok (.istore_n 1, 1) := by decide +kernel
theorem dX4_openDeals_28 : decode cX4_openDeals 28 = .ok (.iinc 2 1, 3) := by decide +kernel
theorem dX4_openDeals_31 : decode cX4_openDeals 31 = .ok (.goto (-27), 3) := by decide +kernel
theorem dX4_openDeals_34 : decode cX4_openDeals 34 = .ok (.iload_n 1, 1) := by decide +kernel
theorem dX4_openDeals_35 : decode cX4_openDeals 35 = .ok (.ireturn, 1) := by decide +kernel
theorem dX4_leftOfLiving_0 : decode cX4_leftOfLiving 0 = .ok (.iconst 0, 1) := by decide +kernel
theorem dX4_leftOfLiving_1 : decode cX4_leftOfLiving 1 = .ok (.istore_n 1, 1) := by decide +kernel
theorem dX4_leftOfLiving_2 : decode cX4_leftOfLiving 2 = .ok (.iconst 0, 1) := by decide +kernel
theorem dX4_leftOfLiving_3 : decode cX4_leftOfLiving 3 = .ok (.istore_n 2, 1) := by decide +kernel
theorem dX4_leftOfLiving_4 : decode cX4_leftOfLiving 4 = .ok (.iload_n 2, 1) := by decide +kernel
theorem dX4_leftOfLiving_5 : decode cX4_leftOfLiving 5 = .ok (.aload_n 0, 1) := by decide +kernel
theorem dX4_leftOfLiving_6 : decode cX4_leftOfLiving 6 = .ok (.getfield 45, 3) := by decide +kernel
theorem dX4_leftOfLiving_9 : decode cX4_leftOfLiving 9 = .ok (.getfield 106, 3) := by decide +kernel
theorem dX4_leftOfLiving_12 : decode cX4_leftOfLiving 12 = .ok (.if_icmp .ge 30, 3) := by decide +kernel
theorem dX4_leftOfLiving_15 : decode cX4_leftOfLiving 15 = .ok (.iload_n 1, 1) := by decide +kernel
theorem dX4_leftOfLiving_16 : decode cX4_leftOfLiving 16 = .ok (.aload_n 0, 1) := by decide +kernel
theorem dX4_leftOfLiving_17 : decode cX4_leftOfLiving 17 = .ok (.iload_n 2, 1) := by decide +kernel
theorem dX4_leftOfLiving_18 : decode cX4_leftOfLiving 18 = .ok (.invokevirtual 85, 3) := by decide +kernel
theorem dX4_leftOfLiving_21 : decode cX4_leftOfLiving 21 = .ok (.ifCond .eq 12, 3) := by decide +kernel
theorem dX4_leftOfLiving_24 : decode cX4_leftOfLiving 24 = .ok (.aload_n 0, 1) := by decide +kernel
theorem dX4_leftOfLiving_25 : decode cX4_leftOfLiving 25 = .ok (.getfield 30, 3) := by decide +kernel
theorem dX4_leftOfLiving_28 : decode cX4_leftOfLiving 28 = .ok (.iload_n 2, 1) := by decide +kernel
theorem dX4_leftOfLiving_29 : decode cX4_leftOfLiving 29 = .ok (.iaload, 1) := by decide +kernel
theorem dX4_leftOfLiving_30 : decode cX4_leftOfLiving 30 = .ok (.goto 4, 3) := by decide +kernel
theorem dX4_leftOfLiving_33 : decode cX4_leftOfLiving 33 = .ok (.iconst 0, 1) := by decide +kernel
theorem dX4_leftOfLiving_34 : decode cX4_leftOfLiving 34 = .ok (.iadd, 1) := by decide +kernel
theorem dX4_leftOfLiving_35 : decode cX4_leftOfLiving 35 = .ok (.istore_n 1, 1) := by decide +kernel
theorem dX4_leftOfLiving_36 : decode cX4_leftOfLiving 36 = .ok (.iinc 2 1, 3) := by decide +kernel
theorem dX4_leftOfLiving_39 : decode cX4_leftOfLiving 39 = .ok (.goto (-35), 3) := by decide +kernel
theorem dX4_leftOfLiving_42 : decode cX4_leftOfLiving 42 = .ok (.iload_n 1, 1) := by decide +kernel
theorem dX4_leftOfLiving_43 : decode cX4_leftOfLiving 43 = .ok (.ireturn, 1) := by decide +kernel
theorem dX4_leastLeft_0 : decode cX4_leastLeft 0 = .ok (.iconst (-1), 1) := by decide +kernel
theorem dX4_leastLeft_1 : decode cX4_leastLeft 1 = .ok (.istore_n 2, 1) := by decide +kernel
theorem dX4_leastLeft_2 : decode cX4_leastLeft 2 = .ok (.iconst 0, 1) := by decide +kernel
theorem dX4_leastLeft_3 : decode cX4_leastLeft 3 = .ok (.istore_n 3, 1) := by decide +kernel
theorem dX4_leastLeft_4 : decode cX4_leastLeft 4 = .ok (.iload_n 3, 1) := by decide +kernel
theorem dX4_leastLeft_5 : decode cX4_leastLeft 5 = .ok (.aload_n 0, 1) := by decide +kernel
theorem dX4_leastLeft_6 : decode cX4_leastLeft 6 = .ok (.getfield 45, 3) := by decide +kernel
theorem dX4_leastLeft_9 : decode cX4_leastLeft 9 = .ok (.getfield 106, 3) := by decide +kernel
theorem dX4_leastLeft_12 : decode cX4_leastLeft 12 = .ok (.if_icmp .ge 47, 3) := by decide +kernel
theorem dX4_leastLeft_15 : decode cX4_leastLeft 15 = .ok (.aload_n 0, 1) := by decide +kernel
theorem dX4_leastLeft_16 : decode cX4_leastLeft 16 = .ok (.iload_n 3, 1) := by decide +kernel
theorem dX4_leastLeft_17 : decode cX4_leastLeft 17 = .ok (.invokevirtual 85, 3) := by decide +kernel
theorem dX4_leastLeft_20 : decode cX4_leastLeft 20 = .ok (.ifCond .eq 33, 3) := by decide +kernel
theorem dX4_leastLeft_23 : decode cX4_leastLeft 23 = .ok (.iload_n 3, 1) := by decide +kernel
theorem dX4_leastLeft_24 : decode cX4_leastLeft 24 = .ok (.iload_n 1, 1) := by decide +kernel
theorem dX4_leastLeft_25 : decode cX4_leastLeft 25 = .ok (.invokestatic 74, 3) := by decide +kernel
theorem dX4_leastLeft_28 : decode cX4_leastLeft 28 = .ok (.ifCond .ne 25, 3) := by decide +kernel
theorem dX4_leastLeft_31 : decode cX4_leastLeft 31 = .ok (.iload_n 2, 1) := by decide +kernel
theorem dX4_leastLeft_32 : decode cX4_leastLeft 32 = .ok (.iconst (-1), 1) := by decide +kernel
theorem dX4_leastLeft_33 : decode cX4_leastLeft 33 = .ok (.if_icmp .eq 18, 3) := by decide +kernel
theorem dX4_leastLeft_36 : decode cX4_leastLeft 36 = .ok (.aload_n 0, 1) := by decide +kernel
theorem dX4_leastLeft_37 : decode cX4_leastLeft 37 = .ok (.getfield 30, 3) := by decide +kernel
theorem dX4_leastLeft_40 : decode cX4_leastLeft 40 = .ok (.iload_n 3, 1) := by decide +kernel
theorem dX4_leastLeft_41 : decode cX4_leastLeft 41 = .ok (.iaload, 1) := by decide +kernel
theorem dX4_leastLeft_42 : decode cX4_leastLeft 42 = .ok (.aload_n 0, 1) := by decide +kernel
theorem dX4_leastLeft_43 : decode cX4_leastLeft 43 = .ok (.getfield 30, 3) := by decide +kernel
theorem dX4_leastLeft_46 : decode cX4_leastLeft 46 = .ok (.iload_n 2, 1) := by decide +kernel
theorem dX4_leastLeft_47 : decode cX4_leastLeft 47 = .ok (.iaload, 1) := by decide +kernel
theorem dX4_leastLeft_48 : decode cX4_leastLeft 48 = .ok (.if_icmp .ge 5, 3) := by decide +kernel
theorem dX4_leastLeft_51 : decode cX4_leastLeft 51 = .ok (.iload_n 3, 1) := by decide +kernel
theorem dX4_leastLeft_52 : decode cX4_leastLeft 52 = .ok (.istore_n 2, 1) := by decide +kernel
theorem dX4_leastLeft_53 : decode cX4_leastLeft 53 = .ok (.iinc 3 1, 3) := by decide +kernel
theorem dX4_leastLeft_56 : decode cX4_leastLeft 56 = .ok (.goto (-52), 3) := by decide +kernel
theorem dX4_leastLeft_59 : decode cX4_leastLeft 59 = .ok (.iload_n 2, 1) := by decide +kernel
theorem dX4_leastLeft_60 : decode cX4_leastLeft 60 = .ok (.ireturn, 1) := by decide +kernel
theorem dX4_lendersTo_0 : decode cX4_lendersTo 0 = .ok (.iconst 0, 1) := by decide +kernel
theorem dX4_lendersTo_1 : decode cX4_lendersTo 1 = .ok (.istore_n 2, 1) := by decide +kernel
theorem dX4_lendersTo_2 : decode cX4_lendersTo 2 = .ok (.iconst 0, 1) := by decide +kernel
theorem dX4_lendersTo_3 : decode cX4_lendersTo 3 = .ok (.istore_n 3, 1) := by decide +kernel
theorem dX4_lendersTo_4 : decode cX4_lendersTo 4 = .ok (.iload_n 3, 1) := by decide +kernel
theorem dX4_lendersTo_5 : decode cX4_lendersTo 5 = .ok (.aload_n 0, 1) := by decide +kernel
theorem dX4_lendersTo_6 : decode cX4_lendersTo 6 = .ok (.getfield 49, 3) := by decide +kernel
theorem dX4_lendersTo_9 : decode cX4_lendersTo 9 = .ok (.if_icmp .ge 41, 3) := by decide +kernel
theorem dX4_lendersTo_12 : decode cX4_lendersTo 12 = .ok (.aload_n 0, 1) := by decide +kernel
theorem dX4_lendersTo_13 : decode cX4_lendersTo 13 = .ok (.iload_n 3, 1) := by decide +kernel
theorem dX4_lendersTo_14 : decode cX4_lendersTo 14 = .ok (.invokevirtual 94, 3) := by decide +kernel
theorem dX4_lendersTo_17 : decode cX4_lendersTo 17 = .ok (.ifCond .eq 27, 3) := by decide +kernel
theorem dX4_lendersTo_20 : decode cX4_lendersTo 20 = .ok (.aload_n 0, 1) := by decide +kernel
theorem dX4_lendersTo_21 : decode cX4_lendersTo 21 = .ok (.getfield 15, 3) := by decide +kernel
theorem dX4_lendersTo_24 : decode cX4_lendersTo 24 = .ok (.iload_n 3, 1) := by decide +kernel
theorem dX4_lendersTo_25 : decode cX4_lendersTo 25 = .ok (.iaload, 1) := by decide +kernel
theorem dX4_lendersTo_26 : decode cX4_lendersTo 26 = .ok (.iload_n 1, 1) := by decide +kernel
theorem dX4_lendersTo_27 : decode cX4_lendersTo 27 = .ok (.invokestatic 74, 3) := by decide +kernel
theorem dX4_lendersTo_30 : decode cX4_lendersTo 30 = .ok (.ifCond .eq 14, 3) := by decide +kernel
theorem dX4_lendersTo_33 : decode cX4_lendersTo 33 = .ok (.iload_n 2, 1) := by decide +kernel
theorem dX4_lendersTo_34 : decode cX4_lendersTo 34 = .ok (.iconst 1, 1) := by decide +kernel
theorem dX4_lendersTo_35 : decode cX4_lendersTo 35 = .ok (.aload_n 0, 1) := by decide +kernel
theorem dX4_lendersTo_36 : decode cX4_lendersTo 36 = .ok (.getfield 9, 3) := by decide +kernel
theorem dX4_lendersTo_39 : decode cX4_lendersTo 39 = .ok (.iload_n 3, 1) := by decide +kernel
theorem dX4_lendersTo_40 : decode cX4_lendersTo 40 = .ok (.iaload, 1) := by decide +kernel
theorem dX4_lendersTo_41 : decode cX4_lendersTo 41 = .ok (.ishl, 1) := by decide +kernel
theorem dX4_lendersTo_42 : decode cX4_lendersTo 42 = .ok (.ior, 1) := by decide +kernel
theorem dX4_lendersTo_43 : decode cX4_lendersTo 43 = .ok (.istore_n 2, 1) := by decide +kernel
theorem dX4_lendersTo_44 : decode cX4_lendersTo 44 = .ok (.iinc 3 1, 3) := by decide +kernel
theorem dX4_lendersTo_47 : decode cX4_lendersTo 47 = .ok (.goto (-43), 3) := by decide +kernel
theorem dX4_lendersTo_50 : decode cX4_lendersTo 50 = .ok (.iload_n 2, 1) := by decide +kernel
theorem dX4_lendersTo_51 : decode cX4_lendersTo 51 = .ok (.ireturn, 1) := by decide +kernel
theorem dX4_openAhead_0 : decode cX4_openAhead 0 = .ok (.iconst 0, 1) := by decide +kernel
theorem dX4_openAhead_1 : decode cX4_openAhead 1 = .ok (.istore_n 2, 1) := by decide +kernel
theorem dX4_openAhead_2 : decode cX4_openAhead 2 = .ok (.iconst 0, 1) := by decide +kernel
theorem dX4_openAhead_3 : decode cX4_openAhead 3 = .ok (.istore_n 3, 1) := by decide +kernel
theorem dX4_openAhead_4 : decode cX4_openAhead 4 = .ok (.iload_n 3, 1) := by decide +kernel
theorem dX4_openAhead_5 : decode cX4_openAhead 5 = .ok (.aload_n 0, 1) := by decide +kernel
theorem dX4_openAhead_6 : decode cX4_openAhead 6 = .ok (.getfield 49, 3) := by decide +kernel
theorem dX4_openAhead_9 : decode cX4_openAhead 9 = .ok (.if_icmp .ge 56, 3) := by decide +kernel
theorem dX4_openAhead_12 : decode cX4_openAhead 12 = .ok (.aload_n 0, 1) := by decide +kernel
theorem dX4_openAhead_13 : decode cX4_openAhead 13 = .ok (.iload_n 3, 1) := by decide +kernel
theorem dX4_openAhead_14 : decode cX4_openAhead 14 = .ok (.invokevirtual 94, 3) := by decide +kernel
theorem dX4_openAhead_17 : decode cX4_openAhead 17 = .ok (.ifCond .eq 42, 3) := by decide +kernel
theorem dX4_openAhead_20 : decode cX4_openAhead 20 = .ok (.iload_n 2, 1) := by decide +kernel
theorem dX4_openAhead_21 : decode cX4_openAhead 21 = .ok (.aload_n 0, 1) := by decide +kernel
theorem dX4_openAhead_22 : decode cX4_openAhead 22 = .ok (.iload_n 3, 1) := by decide +kernel
theorem dX4_openAhead_23 : decode cX4_openAhead 23 = .ok (.invokevirtual 103, 3) := by decide +kernel
theorem dX4_openAhead_26 : decode cX4_openAhead 26 = .ok (.aload_n 0, 1) := by decide +kernel
theorem dX4_openAhead_27 : decode cX4_openAhead 27 = .ok (.iload_n 1, 1) := by decide +kernel
theorem dX4_openAhead_28 : decode cX4_openAhead 28 = .ok (.invokevirtual 103, 3) := by decide +kernel
theorem dX4_openAhead_31 : decode cX4_openAhead 31 = .ok (.if_icmp .gt 21, 3) := by decide +kernel
theorem dX4_openAhead_34 : decode cX4_openAhead 34 = .ok (.aload_n 0, 1) := by decide +kernel
theorem dX4_openAhead_35 : decode cX4_openAhead 35 = .ok (.iload_n 3, 1) := by decide +kernel
theorem dX4_openAhead_36 : decode cX4_openAhead 36 = .ok (.invokevirtual 103, 3) := by decide +kernel
theorem dX4_openAhead_39 : decode cX4_openAhead 39 = .ok (.aload_n 0, 1) := by decide +kernel
theorem dX4_openAhead_40 : decode cX4_openAhead 40 = .ok (.iload_n 1, 1) := by decide +kernel
theorem dX4_openAhead_41 : decode cX4_openAhead 41 = .ok (.invokevirtual 103, 3) := by decide +kernel
theorem dX4_openAhead_44 : decode cX4_openAhead 44 = .ok (.if_icmp .ne 12, 3) := by decide +kernel
theorem dX4_openAhead_47 : decode cX4_openAhead 47 = .ok (.iload_n 3, 1) := by decide +kernel
theorem dX4_openAhead_48 : decode cX4_openAhead 48 = .ok (.iload_n 1, 1) := by decide +kernel
theorem dX4_openAhead_49 : decode cX4_openAhead 49 = .ok (.if_icmp .ge 7, 3) := by decide +kernel
theorem dX4_openAhead_52 : decode cX4_openAhead 52 = .ok (.iconst 1, 1) := by decide +kernel
theorem dX4_openAhead_53 : decode cX4_openAhead 53 = .ok (.goto 4, 3) := by decide +kernel
theorem dX4_openAhead_56 : decode cX4_openAhead 56 = .ok (.iconst 0, 1) := by decide +kernel
theorem dX4_openAhead_57 : decode cX4_openAhead 57 = .ok (.iadd, 1) := by decide +kernel
theorem dX4_openAhead_58 : decode cX4_openAhead 58 = .ok (.istore_n 2, 1) := by decide +kernel
theorem dX4_openAhead_59 : decode cX4_openAhead 59 = .ok (.iinc 3 1, 3) := by decide +kernel
theorem dX4_openAhead_62 : decode cX4_openAhead 62 = .ok (.goto (-58), 3) := by decide +kernel
theorem dX4_openAhead_65 : decode cX4_openAhead 65 = .ok (.iload_n 2, 1) := by decide +kernel
theorem dX4_openAhead_66 : decode cX4_openAhead 66 = .ok (.ireturn, 1) := by decide +kernel
theorem dX4_latestOpen_0 : decode cX4_latestOpen 0 = .ok (.aload_n 0, 1) := by decide +kernel
theorem dX4_latestOpen_1 : decode cX4_latestOpen 1 = .ok (.getfield 49, 3) := by decide +kernel
theorem dX4_latestOpen_4 : decode cX4_latestOpen 4 = .ok (.iconst 1, 1) := by decide +kernel
theorem dX4_latestOpen_5 : decode cX4_latestOpen 5 = .ok (.isub, 1) := by decide +kernel
theorem dX4_latestOpen_6 : decode cX4_latestOpen 6 = .ok (.istore_n 2, 1) := by decide +kernel
theorem dX4_latestOpen_7 : decode cX4_latestOpen 7 = .ok (.iload_n 2, 1) := by decide +kernel
theorem dX4_latestOpen_8 : decode cX4_latestOpen 8 = .ok (.iload_n 1, 1) := by decide +kernel
theorem dX4_latestOpen_9 : decode cX4_latestOpen 9 = .ok (.if_icmp .lt 19, 3) := by decide +kernel
theorem dX4_latestOpen_12 : decode cX4_latestOpen 12 = .ok (.aload_n 0, 1) := by decide +kernel
theorem dX4_latestOpen_13 : decode cX4_latestOpen 13 = .ok (.iload_n 2, 1) := by decide +kernel
theorem dX4_latestOpen_14 : decode cX4_latestOpen 14 = .ok (.invokevirtual 94, 3) := by decide +kernel
theorem dX4_latestOpen_17 : decode cX4_latestOpen 17 = .ok (.ifCond .eq 5, 3) := by decide +kernel
theorem dX4_latestOpen_20 : decode cX4_latestOpen 20 = .ok (.iload_n 2, 1) := by decide +kernel
theorem dX4_latestOpen_21 : decode cX4_latestOpen 21 = .ok (.ireturn, 1) := by decide +kernel
theorem dX4_latestOpen_22 : decode cX4_latestOpen 22 = .ok (.iinc 2 (-1), 3) := by decide +kernel
theorem dX4_latestOpen_25 : decode cX4_latestOpen 25 = .ok (.goto (-18), 3) := by decide +kernel
theorem dX4_latestOpen_28 : decode cX4_latestOpen 28 = .ok (.iconst (-1), 1) := by decide +kernel
theorem dX4_latestOpen_29 : decode cX4_latestOpen 29 = .ok (.ireturn, 1) := by decide +kernel
theorem dX4_openFor_0 : decode cX4_openFor 0 = .ok (.iconst 0, 1) := by decide +kernel
theorem dX4_openFor_1 : decode cX4_openFor 1 = .ok (.istore_n 3, 1) := by decide +kernel
theorem dX4_openFor_2 : decode cX4_openFor 2 = .ok (.iconst 0, 1) := by decide +kernel
theorem dX4_openFor_3 : decode cX4_openFor 3 = .ok (.istore 4, 2) := by decide +kernel
theorem dX4_openFor_5 : decode cX4_openFor 5 = .ok (.iload 4, 2) := by decide +kernel
theorem dX4_openFor_7 : decode cX4_openFor 7 = .ok (.aload_n 0, 1) := by decide +kernel
theorem dX4_openFor_8 : decode cX4_openFor 8 = .ok (.getfield 49, 3) := by decide +kernel
theorem dX4_openFor_11 : decode cX4_openFor 11 = .ok (.if_icmp .ge 94, 3) := by decide +kernel
theorem dX4_openFor_14 : decode cX4_openFor 14 = .ok (.aload_n 0, 1) := by decide +kernel
theorem dX4_openFor_15 : decode cX4_openFor 15 = .ok (.getfield 9, 3) := by decide +kernel
theorem dX4_openFor_18 : decode cX4_openFor 18 = .ok (.iload 4, 2) := by decide +kernel
theorem dX4_openFor_20 : decode cX4_openFor 20 = .ok (.iaload, 1) := by decide +kernel
theorem dX4_openFor_21 : decode cX4_openFor 21 = .ok (.iload_n 1, 1) := by decide +kernel
theorem dX4_openFor_22 : decode cX4_openFor 22 = .ok (.if_icmp .ne 18, 3) := by decide +kernel
theorem dX4_openFor_25 : decode cX4_openFor 25 = .ok (.aload_n 0, 1) := by decide +kernel
theorem dX4_openFor_26 : decode cX4_openFor 26 = .ok (.getfield 15, 3) := by decide +kernel
theorem dX4_openFor_29 : decode cX4_openFor 29 = .ok (.iload 4, 2) := by decide +kernel
theorem dX4_openFor_31 : decode cX4_openFor 31 = .ok (.iaload, 1) := by decide +kernel
theorem dX4_openFor_32 : decode cX4_openFor 32 = .ok (.iload_n 2, 1) := by decide +kernel
theorem dX4_openFor_33 : decode cX4_openFor 33 = .ok (.if_icmp .eq 7, 3) := by decide +kernel
theorem dX4_openFor_36 : decode cX4_openFor 36 = .ok (.iconst 1, 1) := by decide +kernel
theorem dX4_openFor_37 : decode cX4_openFor 37 = .ok (.goto 4, 3) := by decide +kernel
theorem dX4_openFor_40 : decode cX4_openFor 40 = .ok (.iconst 0, 1) := by decide +kernel
theorem dX4_openFor_41 : decode cX4_openFor 41 = .ok (.istore 5, 2) := by decide +kernel
theorem dX4_openFor_43 : decode cX4_openFor 43 = .ok (.aload_n 0, 1) := by decide +kernel
theorem dX4_openFor_44 : decode cX4_openFor 44 = .ok (.getfield 15, 3) := by decide +kernel
theorem dX4_openFor_47 : decode cX4_openFor 47 = .ok (.iload 4, 2) := by decide +kernel
theorem dX4_openFor_49 : decode cX4_openFor 49 = .ok (.iaload, 1) := by decide +kernel
theorem dX4_openFor_50 : decode cX4_openFor 50 = .ok (.iload_n 1, 1) := by decide +kernel
theorem dX4_openFor_51 : decode cX4_openFor 51 = .ok (.if_icmp .ne 18, 3) := by decide +kernel
theorem dX4_openFor_54 : decode cX4_openFor 54 = .ok (.aload_n 0, 1) := by decide +kernel
theorem dX4_openFor_55 : decode cX4_openFor 55 = .ok (.getfield 9, 3) := by decide +kernel
theorem dX4_openFor_58 : decode cX4_openFor 58 = .ok (.iload 4, 2) := by decide +kernel
theorem dX4_openFor_60 : decode cX4_openFor 60 = .ok (.iaload, 1) := by decide +kernel
theorem dX4_openFor_61 : decode cX4_openFor 61 = .ok (.iload_n 2, 1) := by decide +kernel
theorem dX4_openFor_62 : decode cX4_openFor 62 = .ok (.if_icmp .eq 7, 3) := by decide +kernel
theorem dX4_openFor_65 : decode cX4_openFor 65 = .ok (.iconst 1, 1) := by decide +kernel
theorem dX4_openFor_66 : decode cX4_openFor 66 = .ok (.goto 4, 3) := by decide +kernel
theorem dX4_openFor_69 : decode cX4_openFor 69 = .ok (.iconst 0, 1) := by decide +kernel
theorem dX4_openFor_70 : decode cX4_openFor 70 = .ok (.istore 6, 2) := by decide +kernel
theorem dX4_openFor_72 : decode cX4_openFor 72 = .ok (.iload_n 3, 1) := by decide +kernel
theorem dX4_openFor_73 : decode cX4_openFor 73 = .ok (.aload_n 0, 1) := by decide +kernel
theorem dX4_openFor_74 : decode cX4_openFor 74 = .ok (.iload 4, 2) := by decide +kernel
theorem dX4_openFor_76 : decode cX4_openFor 76 = .ok (.invokevirtual 94, 3) := by decide +kernel
theorem dX4_openFor_79 : decode cX4_openFor 79 = .ok (.ifCond .eq 17, 3) := by decide +kernel
theorem dX4_openFor_82 : decode cX4_openFor 82 = .ok (.iload 5, 2) := by decide +kernel
theorem dX4_openFor_84 : decode cX4_openFor 84 = .ok (.ifCond .ne 8, 3) := by decide +kernel
theorem dX4_openFor_87 : decode cX4_openFor 87 = .ok (.iload 6, 2) := by decide +kernel
theorem dX4_openFor_89 : decode cX4_openFor 89 = .ok (.ifCond .eq 7, 3) := by decide +kernel
theorem dX4_openFor_92 : decode cX4_openFor 92 = .ok (.iconst 1, 1) := by decide +kernel
theorem dX4_openFor_93 : decode cX4_openFor 93 = .ok (.goto 4, 3) := by decide +kernel
theorem dX4_openFor_96 : decode cX4_openFor 96 = .ok (.iconst 0, 1) := by decide +kernel
theorem dX4_openFor_97 : decode cX4_openFor 97 = .ok (.iadd, 1) := by decide +kernel
theorem dX4_openFor_98 : decode cX4_openFor 98 = .ok (.istore_n 3, 1) := by decide +kernel
theorem dX4_openFor_99 : decode cX4_openFor 99 = .ok (.iinc 4 1, 3) := by decide +kernel
theorem dX4_openFor_102 : decode cX4_openFor 102 = .ok (.goto (-97), 3) := by decide +kernel
theorem dX4_openFor_105 : decode cX4_openFor 105 = .ok (.iload_n 3, 1) := by decide +kernel
theorem dX4_openFor_106 : decode cX4_openFor 106 = .ok (.ireturn, 1) := by decide +kernel
theorem dX4_isToldBy_0 : decode cX4_isToldBy 0 = .ok (.aload_n 0, 1) := by decide +kernel
theorem dX4_isToldBy_1 : decode cX4_isToldBy 1 = .ok (.iload_n 1, 1) := by decide +kernel
theorem dX4_isToldBy_2 : decode cX4_isToldBy 2 = .ok (.iload_n 2, 1) := by decide +kernel
theorem dX4_isToldBy_3 : decode cX4_isToldBy 3 = .ok (.invokevirtual 82, 3) := by decide +kernel
theorem dX4_isToldBy_6 : decode cX4_isToldBy 6 = .ok (.istore 4, 2) := by decide +kernel
theorem dX4_isToldBy_8 : decode cX4_isToldBy 8 = .ok (.iload 4, 2) := by decide +kernel
theorem dX4_isToldBy_10 : decode cX4_isToldBy 10 = .ok (.iconst (-1), 1) := by decide +kernel
theorem dX4_isToldBy_11 : decode cX4_isToldBy 11 = .ok (.if_icmp .eq 16, 3) := by decide +kernel
theorem dX4_isToldBy_14 : decode cX4_isToldBy 14 = .ok (.iload 4, 2) := by decide +kernel
theorem dX4_isToldBy_16 : decode cX4_isToldBy 16 = .ok (.iload_n 3, 1) := by decide +kernel
theorem dX4_isToldBy_17 : decode cX4_isToldBy 17 = .ok (.invokestatic 74, 3) := by decide +kernel
theorem dX4_isToldBy_20 : decode cX4_isToldBy 20 = .ok (.ifCond .eq 7, 3) := by decide +kernel
theorem dX4_isToldBy_23 : decode cX4_isToldBy 23 = .ok (.iconst 1, 1) := by decide +kernel
theorem dX4_isToldBy_24 : decode cX4_isToldBy 24 = .ok (.goto 4, 3) := by decide +kernel
theorem dX4_isToldBy_27 : decode cX4_isToldBy 27 = .ok (.iconst 0, 1) := by decide +kernel
theorem dX4_isToldBy_28 : decode cX4_isToldBy 28 = .ok (.ireturn, 1) := by decide +kernel
theorem dX4_isKnownBy_0 : decode cX4_isKnownBy 0 = .ok (.aload_n 0, 1) := by decide +kernel
theorem dX4_isKnownBy_1 : decode cX4_isKnownBy 1 = .ok (.iload_n 1, 1) := by decide +kernel
theorem dX4_isKnownBy_2 : decode cX4_isKnownBy 2 = .ok (.iconst 0, 1) := by decide +kernel
theorem dX4_isKnownBy_3 : decode cX4_isKnownBy 3 = .ok (.iload_n 2, 1) := by decide +kernel
theorem dX4_isKnownBy_4 : decode cX4_isKnownBy 4 = .ok (.invokevirtual 109, 3) := by decide +kernel
theorem dX4_isKnownBy_7 : decode cX4_isKnownBy 7 = .ok (.istore_n 3, 1) := by decide +kernel
theorem dX4_isKnownBy_8 : decode cX4_isKnownBy 8 = .ok (.aload_n 0, 1) := by decide +kernel
theorem dX4_isKnownBy_9 : decode cX4_isKnownBy 9 = .ok (.iload_n 1, 1) := by decide +kernel
theorem dX4_isKnownBy_10 : decode cX4_isKnownBy 10 = .ok (.iconst 1, 1) := by decide +kernel
theorem dX4_isKnownBy_11 : decode cX4_isKnownBy 11 = .ok (.iload_n 2, 1) := by decide +kernel
theorem dX4_isKnownBy_12 : decode cX4_isKnownBy 12 = .ok (.invokevirtual 109, 3) := by decide +kernel
theorem dX4_isKnownBy_15 : decode cX4_isKnownBy 15 = .ok (.istore 4, 2) := by decide +kernel
theorem dX4_isKnownBy_17 : decode cX4_isKnownBy 17 = .ok (.aload_n 0, 1) := by decide +kernel
theorem dX4_isKnownBy_18 : decode cX4_isKnownBy 18 = .ok (.getfield 45, 3) := by decide +kernel
theorem dX4_isKnownBy_21 : decode cX4_isKnownBy 21 = .ok (.getfield 91, 3) := by decide +kernel
theorem dX4_isKnownBy_24 : decode cX4_isKnownBy 24 = .ok (.aload_n 0, 1) := by decide +kernel
theorem dX4_isKnownBy_25 : decode cX4_isKnownBy 25 = .ok (.getfield 21, 3) := by decide +kernel
theorem dX4_isKnownBy_28 : decode cX4_isKnownBy 28 = .ok (.iload_n 1, 1) := by decide +kernel
theorem dX4_isKnownBy_29 : decode cX4_isKnownBy 29 = .ok (.iaload, 1) := by decide +kernel
theorem dX4_isKnownBy_30 : decode cX4_isKnownBy 30 = .ok (.iaload, 1) := by decide +kernel
theorem dX4_isKnownBy_31 : decode cX4_isKnownBy 31 = .ok (.iconst 4, 1) := by decide +kernel
theorem dX4_isKnownBy_32 : decode cX4_isKnownBy 32 = .ok (.if_icmp .ne 20, 3) := by decide +kernel
theorem dX4_isKnownBy_35 : decode cX4_isKnownBy 35 = .ok (.iload_n 3, 1) := by decide +kernel
theorem dX4_isKnownBy_36 : decode cX4_isKnownBy 36 = .ok (.ifCond .eq 12, 3) := by decide +kernel
theorem dX4_isKnownBy_39 : decode cX4_isKnownBy 39 = .ok (.iload 4, 2) := by decide +kernel
theorem dX4_isKnownBy_41 : decode cX4_isKnownBy 41 = .ok (.ifCond .eq 7, 3) := by decide +kernel
theorem dX4_isKnownBy_44 : decode cX4_isKnownBy 44 = .ok (.iconst 1, 1) := by decide +kernel
theorem dX4_isKnownBy_45 : decode cX4_isKnownBy 45 = .ok (.goto 21, 3) := by decide +kernel
theorem dX4_isKnownBy_48 : decode cX4_isKnownBy 48 = .ok (.iconst 0, 1) := by decide +kernel
theorem dX4_isKnownBy_49 : decode cX4_isKnownBy 49 = .ok (.goto 17, 3) := by decide +kernel
theorem dX4_isKnownBy_52 : decode cX4_isKnownBy 52 = .ok (.iload_n 3, 1) := by decide +kernel
theorem dX4_isKnownBy_53 : decode cX4_isKnownBy 53 = .ok (.ifCond .ne 8, 3) := by decide +kernel
theorem dX4_isKnownBy_56 : decode cX4_isKnownBy 56 = .ok (.iload 4, 2) := by decide +kernel
theorem dX4_isKnownBy_58 : decode cX4_isKnownBy 58 = .ok (.ifCond .eq 7, 3) := by decide +kernel
theorem dX4_isKnownBy_61 : decode cX4_isKnownBy 61 = .ok (.iconst 1, 1) := by decide +kernel
theorem dX4_isKnownBy_62 : decode cX4_isKnownBy 62 = .ok (.goto 4, 3) := by decide +kernel
theorem dX4_isKnownBy_65 : decode cX4_isKnownBy 65 = .ok (.iconst 0, 1) := by decide +kernel
theorem dX4_isKnownBy_66 : decode cX4_isKnownBy 66 = .ok (.ireturn, 1) := by decide +kernel
theorem dX4_isOnAny_0 : decode cX4_isOnAny 0 = .ok (.aload_n 0, 1) := by decide +kernel
theorem dX4_isOnAny_1 : decode cX4_isOnAny 1 = .ok (.getfield 36, 3) := by decide +kernel
theorem dX4_isOnAny_4 : decode cX4_isOnAny 4 = .ok (.iload_n 1, 1) := by decide +kernel
theorem dX4_isOnAny_5 : decode cX4_isOnAny 5 = .ok (.iaload, 1) := by decide +kernel
theorem dX4_isOnAny_6 : decode cX4_isOnAny 6 = .ok (.iconst (-1), 1) := by decide +kernel
theorem dX4_isOnAny_7 : decode cX4_isOnAny 7 = .ok (.if_icmp .eq 20, 3) := by decide +kernel
theorem dX4_isOnAny_10 : decode cX4_isOnAny 10 = .ok (.aload_n 0, 1) := by decide +kernel
theorem dX4_isOnAny_11 : decode cX4_isOnAny 11 = .ok (.getfield 36, 3) := by decide +kernel
theorem dX4_isOnAny_14 : decode cX4_isOnAny 14 = .ok (.iload_n 1, 1) := by decide +kernel
theorem dX4_isOnAny_15 : decode cX4_isOnAny 15 = .ok (.iaload, 1) := by decide +kernel
theorem dX4_isOnAny_16 : decode cX4_isOnAny 16 = .ok (.iload_n 2, 1) := by decide +kernel
theorem dX4_isOnAny_17 : decode cX4_isOnAny 17 = .ok (.invokestatic 74, 3) := by decide +kernel
theorem dX4_isOnAny_20 : decode cX4_isOnAny 20 = .ok (.ifCond .eq 7, 3) := by decide +kernel
theorem dX4_isOnAny_23 : decode cX4_isOnAny 23 = .ok (.iconst 1, 1) := by decide +kernel
theorem dX4_isOnAny_24 : decode cX4_isOnAny 24 = .ok (.goto 4, 3) := by decide +kernel
theorem dX4_isOnAny_27 : decode cX4_isOnAny 27 = .ok (.iconst 0, 1) := by decide +kernel
theorem dX4_isOnAny_28 : decode cX4_isOnAny 28 = .ok (.istore_n 3, 1) := by decide +kernel
theorem dX4_isOnAny_29 : decode cX4_isOnAny 29 = .ok (.aload_n 0, 1) := by decide +kernel
theorem dX4_isOnAny_30 : decode cX4_isOnAny 30 = .ok (.getfield 39, 3) := by decide +kernel
theorem dX4_isOnAny_33 : decode cX4_isOnAny 33 = .ok (.iload_n 1, 1) := by decide +kernel
theorem dX4_isOnAny_34 : decode cX4_isOnAny 34 = .ok (.iaload, 1) := by decide +kernel
theorem dX4_isOnAny_35 : decode cX4_isOnAny 35 = .ok (.iconst (-1), 1) := by decide +kernel
theorem dX4_isOnAny_36 : decode cX4_isOnAny 36 = .ok (.if_icmp .eq 20, 3) := by decide +kernel
theorem dX4_isOnAny_39 : decode cX4_isOnAny 39 = .ok (.aload_n 0, 1) := by decide +kernel
theorem dX4_isOnAny_40 : decode cX4_isOnAny 40 = .ok (.getfield 39, 3) := by decide +kernel
theorem dX4_isOnAny_43 : decode cX4_isOnAny 43 = .ok (.iload_n 1, 1) := by decide +kernel
theorem dX4_isOnAny_44 : decode cX4_isOnAny 44 = .ok (.iaload, 1) := by decide +kernel
theorem dX4_isOnAny_45 : decode cX4_isOnAny 45 = .ok (.iload_n 2, 1) := by decide +kernel
theorem dX4_isOnAny_46 : decode cX4_isOnAny 46 = .ok (.invokestatic 74, 3) := by decide +kernel
theorem dX4_isOnAny_49 : decode cX4_isOnAny 49 = .ok (.ifCond .eq 7, 3) := by decide +kernel
theorem dX4_isOnAny_52 : decode cX4_isOnAny 52 = .ok (.iconst 1, 1) := by decide +kernel
theorem dX4_isOnAny_53 : decode cX4_isOnAny 53 = .ok (.goto 4, 3) := by decide +kernel
theorem dX4_isOnAny_56 : decode cX4_isOnAny 56 = .ok (.iconst 0, 1) := by decide +kernel
theorem dX4_isOnAny_57 : decode cX4_isOnAny 57 = .ok (.istore 4, 2) := by decide +kernel
theorem dX4_isOnAny_59 : decode cX4_isOnAny 59 = .ok (.iload_n 3, 1) := by decide +kernel
theorem dX4_isOnAny_60 : decode cX4_isOnAny 60 = .ok (.ifCond .ne 8, 3) := by decide +kernel
theorem dX4_isOnAny_63 : decode cX4_isOnAny 63 = .ok (.iload 4, 2) := by decide +kernel
theorem dX4_isOnAny_65 : decode cX4_isOnAny 65 = .ok (.ifCond .eq 7, 3) := by decide +kernel
theorem dX4_isOnAny_68 : decode cX4_isOnAny 68 = .ok (.iconst 1, 1) := by decide +kernel
theorem dX4_isOnAny_69 : decode cX4_isOnAny 69 = .ok (.goto 4, 3) := by decide +kernel
theorem dX4_isOnAny_72 : decode cX4_isOnAny 72 = .ok (.iconst 0, 1) := by decide +kernel
theorem dX4_isOnAny_73 : decode cX4_isOnAny 73 = .ok (.ireturn, 1) := by decide +kernel
theorem dX4_owedSurely_0 : decode cX4_owedSurely 0 = .ok (.iconst 0, 1) := by decide +kernel
theorem dX4_owedSurely_1 : decode cX4_owedSurely 1 = .ok (.istore_n 3, 1) := by decide +kernel
theorem dX4_owedSurely_2 : decode cX4_owedSurely 2 = .ok (.iconst 0, 1) := by decide +kernel
theorem dX4_owedSurely_3 : decode cX4_owedSurely 3 = .ok (.istore 4, 2) := by decide +kernel
theorem dX4_owedSurely_5 : decode cX4_owedSurely 5 = .ok (.iload 4, 2) := by decide +kernel
theorem dX4_owedSurely_7 : decode cX4_owedSurely 7 = .ok (.aload_n 0, 1) := by decide +kernel
theorem dX4_owedSurely_8 : decode cX4_owedSurely 8 = .ok (.getfield 49, 3) := by decide +kernel
theorem dX4_owedSurely_11 : decode cX4_owedSurely 11 = .ok (.if_icmp .ge 48, 3) := by decide +kernel
theorem dX4_owedSurely_14 : decode cX4_owedSurely 14 = .ok (.aload_n 0, 1) := by decide +kernel
theorem dX4_owedSurely_15 : decode cX4_owedSurely 15 = .ok (.iload 4, 2) := by decide +kernel
theorem dX4_owedSurely_17 : decode cX4_owedSurely 17 = .ok (.invokevirtual 94, 3) := by decide +kernel
theorem dX4_owedSurely_20 : decode cX4_owedSurely 20 = .ok (.ifCond .eq 33, 3) := by decide +kernel
theorem dX4_owedSurely_23 : decode cX4_owedSurely 23 = .ok (.aload_n 0, 1) := by decide +kernel
theorem dX4_owedSurely_24 : decode cX4_owedSurely 24 = .ok (.getfield 9, 3) := by decide +kernel
theorem dX4_owedSurely_27 : decode cX4_owedSurely 27 = .ok (.iload 4, 2) := by decide +kernel
theorem dX4_owedSurely_29 : decode cX4_owedSurely 29 = .ok (.iaload, 1) := by decide +kernel
theorem dX4_owedSurely_30 : decode cX4_owedSurely 30 = .ok (.iload_n 1, 1) := by decide +kernel
theorem dX4_owedSurely_31 : decode cX4_owedSurely 31 = .ok (.if_icmp .ne 22, 3) := by decide +kernel
theorem dX4_owedSurely_34 : decode cX4_owedSurely 34 = .ok (.aload_n 0, 1) := by decide +kernel
theorem dX4_owedSurely_35 : decode cX4_owedSurely 35 = .ok (.iload 4, 2) := by decide +kernel
theorem dX4_owedSurely_37 : decode cX4_owedSurely 37 = .ok (.iload_n 2, 1) := by decide +kernel
theorem dX4_owedSurely_38 : decode cX4_owedSurely 38 = .ok (.invokevirtual 113, 3) := by decide +kernel
theorem dX4_owedSurely_41 : decode cX4_owedSurely 41 = .ok (.ifCond .eq 12, 3) := by decide +kernel
theorem dX4_owedSurely_44 : decode cX4_owedSurely 44 = .ok (.iload_n 3, 1) := by decide +kernel
theorem dX4_owedSurely_45 : decode cX4_owedSurely 45 = .ok (.aload_n 0, 1) := by decide +kernel
theorem dX4_owedSurely_46 : decode cX4_owedSurely 46 = .ok (.iload 4, 2) := by decide +kernel
theorem dX4_owedSurely_48 : decode cX4_owedSurely 48 = .ok (.invokevirtual 103, 3) := by decide +kernel
theorem dX4_owedSurely_51 : decode cX4_owedSurely 51 = .ok (.iadd, 1) := by decide +kernel
theorem dX4_owedSurely_52 : decode cX4_owedSurely 52 = .ok (.istore_n 3, 1) := by decide +kernel
theorem dX4_owedSurely_53 : decode cX4_owedSurely 53 = .ok (.iinc 4 1, 3) := by decide +kernel
theorem dX4_owedSurely_56 : decode cX4_owedSurely 56 = .ok (.goto (-51), 3) := by decide +kernel
theorem dX4_owedSurely_59 : decode cX4_owedSurely 59 = .ok (.iload_n 3, 1) := by decide +kernel
theorem dX4_owedSurely_60 : decode cX4_owedSurely 60 = .ok (.ireturn, 1) := by decide +kernel
theorem dX4_owedAtMost_0 : decode cX4_owedAtMost 0 = .ok (.aload_n 0, 1) := by decide +kernel
theorem dX4_owedAtMost_1 : decode cX4_owedAtMost 1 = .ok (.iload_n 1, 1) := by decide +kernel
theorem dX4_owedAtMost_2 : decode cX4_owedAtMost 2 = .ok (.iload_n 2, 1) := by decide +kernel
theorem dX4_owedAtMost_3 : decode cX4_owedAtMost 3 = .ok (.invokevirtual 116, 3) := by decide +kernel
theorem dX4_owedAtMost_6 : decode cX4_owedAtMost 6 = .ok (.istore_n 3, 1) := by decide +kernel
theorem dX4_owedAtMost_7 : decode cX4_owedAtMost 7 = .ok (.iconst 0, 1) := by decide +kernel
theorem dX4_owedAtMost_8 : decode cX4_owedAtMost 8 = .ok (.istore 4, 2) := by decide +kernel
theorem dX4_owedAtMost_10 : decode cX4_owedAtMost 10 = .ok (.iload 4, 2) := by decide +kernel
theorem dX4_owedAtMost_12 : decode cX4_owedAtMost 12 = .ok (.aload_n 0, 1) := by decide +kernel
theorem dX4_owedAtMost_13 : decode cX4_owedAtMost 13 = .ok (.getfield 49, 3) := by decide +kernel
theorem dX4_owedAtMost_16 : decode cX4_owedAtMost 16 = .ok (.if_icmp .ge 68, 3) := by decide +kernel
theorem dX4_owedAtMost_19 : decode cX4_owedAtMost 19 = .ok (.aload_n 0, 1) := by decide +kernel
theorem dX4_owedAtMost_20 : decode cX4_owedAtMost 20 = .ok (.iload 4, 2) := by decide +kernel
theorem dX4_owedAtMost_22 : decode cX4_owedAtMost 22 = .ok (.invokevirtual 94, 3) := by decide +kernel
theorem dX4_owedAtMost_25 : decode cX4_owedAtMost 25 = .ok (.ifCond .eq 53, 3) := by decide +kernel
theorem dX4_owedAtMost_28 : decode cX4_owedAtMost 28 = .ok (.aload_n 0, 1) := by decide +kernel
theorem dX4_owedAtMost_29 : decode cX4_owedAtMost 29 = .ok (.getfield 9, 3) := by decide +kernel
theorem dX4_owedAtMost_32 : decode cX4_owedAtMost 32 = .ok (.iload 4, 2) := by decide +kernel
theorem dX4_owedAtMost_34 : decode cX4_owedAtMost 34 = .ok (.iaload, 1) := by decide +kernel
theorem dX4_owedAtMost_35 : decode cX4_owedAtMost 35 = .ok (.iload_n 1, 1) := by decide +kernel
theorem dX4_owedAtMost_36 : decode cX4_owedAtMost 36 = .ok (.if_icmp .ne 42, 3) := by decide +kernel
theorem dX4_owedAtMost_39 : decode cX4_owedAtMost 39 = .ok (.aload_n 0, 1) := by decide +kernel
theorem dX4_owedAtMost_40 : decode cX4_owedAtMost 40 = .ok (.iload 4, 2) := by decide +kernel
theorem dX4_owedAtMost_42 : decode cX4_owedAtMost 42 = .ok (.iload_n 2, 1) := by decide +kernel
theorem dX4_owedAtMost_43 : decode cX4_owedAtMost 43 = .ok (.invokevirtual 113, 3) := by decide +kernel
theorem dX4_owedAtMost_46 : decode cX4_owedAtMost 46 = .ok (.ifCond .ne 32, 3) := by decide +kernel
theorem dX4_owedAtMost_49 : decode cX4_owedAtMost 49 = .ok (.aload_n 0, 1) := by decide +kernel
theorem dX4_owedAtMost_50 : decode cX4_owedAtMost 50 = .ok (.iload 4, 2) := by decide +kernel
theorem dX4_owedAtMost_52 : decode cX4_owedAtMost 52 = .ok (.iload_n 2, 1) := by decide +kernel
theorem dX4_owedAtMost_53 : decode cX4_owedAtMost 53 = .ok (.invokevirtual 119, 3) := by decide +kernel
theorem dX4_owedAtMost_56 : decode cX4_owedAtMost 56 = .ok (.ifCond .eq 22, 3) := by decide +kernel
theorem dX4_owedAtMost_59 : decode cX4_owedAtMost 59 = .ok (.iload_n 3, 1) := by decide +kernel
theorem dX4_owedAtMost_60 : decode cX4_owedAtMost 60 = .ok (.aload_n 0, 1) := by decide +kernel
theorem dX4_owedAtMost_61 : decode cX4_owedAtMost 61 = .ok (.getfield 45, 3) := by decide +kernel
theorem dX4_owedAtMost_64 : decode cX4_owedAtMost 64 = .ok (.aload_n 0, 1) := by decide +kernel
theorem dX4_owedAtMost_65 : decode cX4_owedAtMost 65 = .ok (.getfield 21, 3) := by decide +kernel
theorem dX4_owedAtMost_68 : decode cX4_owedAtMost 68 = .ok (.iload 4, 2) := by decide +kernel
theorem dX4_owedAtMost_70 : decode cX4_owedAtMost 70 = .ok (.iaload, 1) := by decide +kernel
theorem dX4_owedAtMost_71 : decode cX4_owedAtMost 71 = .ok (.bipush 99, 2) := by decide +kernel
theorem dX4_owedAtMost_73 : decode cX4_owedAtMost 73 = .ok (.invokevirtual 100, 3) := by decide +kernel
theorem dX4_owedAtMost_76 : decode cX4_owedAtMost 76 = .ok (.iadd, 1) := by decide +kernel
theorem dX4_owedAtMost_77 : decode cX4_owedAtMost 77 = .ok (.istore_n 3, 1) := by decide +kernel
theorem dX4_owedAtMost_78 : decode cX4_owedAtMost 78 = .ok (.iinc 4 1, 3) := by decide +kernel
theorem dX4_owedAtMost_81 : decode cX4_owedAtMost 81 = .ok (.goto (-71), 3) := by decide +kernel
theorem dX4_owedAtMost_84 : decode cX4_owedAtMost 84 = .ok (.iload_n 3, 1) := by decide +kernel
theorem dX4_owedAtMost_85 : decode cX4_owedAtMost 85 = .ok (.ireturn, 1) := by decide +kernel
theorem dX4_bearerFor_0 : decode cX4_bearerFor 0 = .ok (.aload_n 0, 1) := by decide +kernel
theorem dX4_bearerFor_1 : decode cX4_bearerFor 1 = .ok (.getfield 30, 3) := by decide +kernel
theorem dX4_bearerFor_4 : decode cX4_bearerFor 4 = .ok (.iload_n 1, 1) := by decide +kernel
theorem dX4_bearerFor_5 : decode cX4_bearerFor 5 = .ok (.iaload, 1) := by decide +kernel
theorem dX4_bearerFor_6 : decode cX4_bearerFor 6 = .ok (.iload_n 2, 1) := by decide +kernel
theorem dX4_bearerFor_7 : decode cX4_bearerFor 7 = .ok (.if_icmp .lt 5, 3) := by decide +kernel
theorem dX4_bearerFor_10 : decode cX4_bearerFor 10 = .ok (.iload_n 1, 1) := by decide +kernel
theorem dX4_bearerFor_11 : decode cX4_bearerFor 11 = .ok (.ireturn, 1) := by decide +kernel
theorem dX4_bearerFor_12 : decode cX4_bearerFor 12 = .ok (.aload_n 0, 1) := by decide +kernel
theorem dX4_bearerFor_13 : decode cX4_bearerFor 13 = .ok (.getfield 45, 3) := by decide +kernel
theorem dX4_bearerFor_16 : decode cX4_bearerFor 16 = .ok (.getfield 122, 3) := by decide +kernel
theorem dX4_bearerFor_19 : decode cX4_bearerFor 19 = .ok (.iload_n 1, 1) := by decide +kernel
theorem dX4_bearerFor_20 : decode cX4_bearerFor 20 = .ok (.iaload, 1) := by decide +kernel
theorem dX4_bearerFor_21 : decode cX4_bearerFor 21 = .ok (.istore_n 3, 1) := by decide +kernel
theorem dX4_bearerFor_22 : decode cX4_bearerFor 22 = .ok (.iload_n 3, 1) := by decide +kernel
theorem dX4_bearerFor_23 : decode cX4_bearerFor 23 = .ok (.iconst (-1), 1) := by decide +kernel
theorem dX4_bearerFor_24 : decode cX4_bearerFor 24 = .ok (.if_icmp .eq 25, 3) := by decide +kernel
theorem dX4_bearerFor_27 : decode cX4_bearerFor 27 = .ok (.aload_n 0, 1) := by decide +kernel
theorem dX4_bearerFor_28 : decode cX4_bearerFor 28 = .ok (.iload_n 3, 1) := by decide +kernel
theorem dX4_bearerFor_29 : decode cX4_bearerFor 29 = .ok (.invokevirtual 85, 3) := by decide +kernel
theorem dX4_bearerFor_32 : decode cX4_bearerFor 32 = .ok (.ifCond .eq 17, 3) := by decide +kernel
theorem dX4_bearerFor_35 : decode cX4_bearerFor 35 = .ok (.aload_n 0, 1) := by decide +kernel
theorem dX4_bearerFor_36 : decode cX4_bearerFor 36 = .ok (.getfield 30, 3) := by decide +kernel
theorem dX4_bearerFor_39 : decode cX4_bearerFor 39 = .ok (.iload_n 3, 1) := by decide +kernel
theorem dX4_bearerFor_40 : decode cX4_bearerFor 40 = .ok (.iaload, 1) := by decide +kernel
theorem dX4_bearerFor_41 : decode cX4_bearerFor 41 = .ok (.iload_n 2, 1) := by decide +kernel
theorem dX4_bearerFor_42 : decode cX4_bearerFor 42 = .ok (.if_icmp .lt 7, 3) := by decide +kernel
theorem dX4_bearerFor_45 : decode cX4_bearerFor 45 = .ok (.iload_n 3, 1) := by decide +kernel
theorem dX4_bearerFor_46 : decode cX4_bearerFor 46 = .ok (.goto 4, 3) := by decide +kernel
theorem dX4_bearerFor_49 : decode cX4_bearerFor 49 = .ok (.iconst (-1), 1) := by decide +kernel
theorem dX4_bearerFor_50 : decode cX4_bearerFor 50 = .ok (.ireturn, 1) := by decide +kernel
theorem dX4_debtBearerFor_0 : decode cX4_debtBearerFor 0 = .ok (.aload_n 0, 1) := by decide +kernel
theorem dX4_debtBearerFor_1 : decode cX4_debtBearerFor 1 = .ok (.getfield 30, 3) := by decide +kernel
theorem dX4_debtBearerFor_4 : decode cX4_debtBearerFor 4 = .ok (.iload_n 3, 1) := by decide +kernel
theorem dX4_debtBearerFor_5 : decode cX4_debtBearerFor 5 = .ok (.dup2, 1) := by decide +kernel
theorem dX4_debtBearerFor_6 : decode cX4_debtBearerFor 6 = .ok (.iaload, 1) := by decide +kernel
theorem dX4_debtBearerFor_7 : decode cX4_debtBearerFor 7 = .ok (.iload_n 2, 1) := by decide +kernel
theorem dX4_debtBearerFor_8 : decode cX4_debtBearerFor 8 = .ok (.isub, 1) := by decide +kernel
theorem dX4_debtBearerFor_9 : decode cX4_debtBearerFor 9 = .ok (.iastore, 1) := by decide +kernel
theorem dX4_debtBearerFor_10 : decode cX4_debtBearerFor 10 = .ok (.aload_n 0, 1) := by decide +kernel
theorem dX4_debtBearerFor_11 : decode cX4_debtBearerFor 11 = .ok (.iload_n 1, 1) := by decide +kernel
theorem dX4_debtBearerFor_12 : decode cX4_debtBearerFor 12 = .ok (.iload_n 2, 1) := by decide +kernel
theorem dX4_debtBearerFor_13 : decode cX4_debtBearerFor 13 = .ok (.invokevirtual 125, 3) := by decide +kernel
theorem dX4_debtBearerFor_16 : decode cX4_debtBearerFor 16 = .ok (.istore 4, 2) := by decide +kernel
theorem dX4_debtBearerFor_18 : decode cX4_debtBearerFor 18 = .ok (.aload_n 0, 1) := by decide +kernel
theorem dX4_debtBearerFor_19 : decode cX4_debtBearerFor 19 = .ok (.getfield 30, 3) := by decide +kernel
theorem dX4_debtBearerFor_22 : decode cX4_debtBearerFor 22 = .ok (.iload_n 3, 1) := by decide +kernel
theorem dX4_debtBearerFor_23 : decode cX4_debtBearerFor 23 = .ok (.dup2, 1) := by decide +kernel
theorem dX4_debtBearerFor_24 : decode cX4_debtBearerFor 24 = .ok (.iaload, 1) := by decide +kernel
theorem dX4_debtBearerFor_25 : decode cX4_debtBearerFor 25 = .ok (.iload_n 2, 1) := by decide +kernel
theorem dX4_debtBearerFor_26 : decode cX4_debtBearerFor 26 = .ok (.iadd, 1) := by decide +kernel
theorem dX4_debtBearerFor_27 : decode cX4_debtBearerFor 27 = .ok (.iastore, 1) := by decide +kernel
theorem dX4_debtBearerFor_28 : decode cX4_debtBearerFor 28 = .ok (.iload 4, 2) := by decide +kernel
theorem dX4_debtBearerFor_30 : decode cX4_debtBearerFor 30 = .ok (.ireturn, 1) := by decide +kernel
theorem dX4_wrongToWrite_0 : decode cX4_wrongToWrite 0 = .ok (.iload_n 1, 1) := by decide +kernel
theorem dX4_wrongToWrite_1 : decode cX4_wrongToWrite 1 = .ok (.iload_n 2, 1) := by decide +kernel
theorem dX4_wrongToWrite_2 : decode cX4_wrongToWrite 2 = .ok (.if_icmp .eq 19, 3) := by decide +kernel
theorem dX4_wrongToWrite_5 : decode cX4_wrongToWrite 5 = .ok (.aload_n 0, 1) := by decide +kernel
theorem dX4_wrongToWrite_6 : decode cX4_wrongToWrite 6 = .ok (.iload_n 1, 1) := by decide +kernel
theorem dX4_wrongToWrite_7 : decode cX4_wrongToWrite 7 = .ok (.invokevirtual 85, 3) := by decide +kernel
theorem dX4_wrongToWrite_10 : decode cX4_wrongToWrite 10 = .ok (.ifCond .eq 11, 3) := by decide +kernel
theorem dX4_wrongToWrite_13 : decode cX4_wrongToWrite 13 = .ok (.aload_n 0, 1) := by decide +kernel
theorem dX4_wrongToWrite_14 : decode cX4_wrongToWrite 14 = .ok (.iload_n 2, 1) := by decide +kernel
theorem dX4_wrongToWrite_15 : decode cX4_wrongToWrite 15 = .ok (.invokevirtual 85, 3) := by decide +kernel
theorem dX4_wrongToWrite_18 : decode cX4_wrongToWrite 18 = .ok (.ifCond .ne 5, 3) := by decide +kernel
theorem dX4_wrongToWrite_21 : decode cX4_wrongToWrite 21 = .ok (.iconst 1, 1) := by decide +kernel
theorem dX4_wrongToWrite_22 : decode cX4_wrongToWrite 22 = .ok (.ireturn, 1) := by decide +kernel
theorem dX4_wrongToWrite_23 : decode cX4_wrongToWrite 23 = .ok (.aload_n 0, 1) := by decide +kernel
theorem dX4_wrongToWrite_24 : decode cX4_wrongToWrite 24 = .ok (.iload_n 1, 1) := by decide +kernel
theorem dX4_wrongToWrite_25 : decode cX4_wrongToWrite 25 = .ok (.aload_n 0, 1) := by decide +kernel
theorem dX4_wrongToWrite_26 : decode cX4_wrongToWrite 26 = .ok (.getfield 45, 3) := by decide +kernel
theorem dX4_wrongToWrite_29 : decode cX4_wrongToWrite 29 = .ok (.getfield 128, 3) := by decide +kernel
theorem dX4_wrongToWrite_32 : decode cX4_wrongToWrite 32 = .ok (.iload_n 3, 1) := by decide +kernel
theorem dX4_wrongToWrite_33 : decode cX4_wrongToWrite 33 = .ok (.iaload, 1) := by decide +kernel
theorem dX4_wrongToWrite_34 : decode cX4_wrongToWrite 34 = .ok (.invokevirtual 125, 3) := by decide +kernel
theorem dX4_wrongToWrite_37 : decode cX4_wrongToWrite 37 = .ok (.istore 4, 2) := by decide +kernel
theorem dX4_wrongToWrite_39 : decode cX4_wrongToWrite 39 = .ok (.iload 4, 2) := by decide +kernel
theorem dX4_wrongToWrite_41 : decode cX4_wrongToWrite 41 = .ok (.iconst (-1), 1) := by decide +kernel
theorem dX4_wrongToWrite_42 : decode cX4_wrongToWrite 42 = .ok (.if_icmp .ne 5, 3) := by decide +kernel
theorem dX4_wrongToWrite_45 : decode cX4_wrongToWrite 45 = .ok (.iconst 2, 1) := by decide +kernel
theorem dX4_wrongToWrite_46 : decode cX4_wrongToWrite 46 = .ok (.ireturn, 1) := by decide +kernel
theorem dX4_wrongToWrite_47 : decode cX4_wrongToWrite 47 = .ok (.aload_n 0, 1) := by decide +kernel
theorem dX4_wrongToWrite_48 : decode cX4_wrongToWrite 48 = .ok (.iload_n 2, 1) := by decide +kernel
theorem dX4_wrongToWrite_49 : decode cX4_wrongToWrite 49 = .ok (.aload_n 0, 1) := by decide +kernel
theorem dX4_wrongToWrite_50 : decode cX4_wrongToWrite 50 = .ok (.getfield 45, 3) := by decide +kernel
theorem dX4_wrongToWrite_53 : decode cX4_wrongToWrite 53 = .ok (.getfield 128, 3) := by decide +kernel
theorem dX4_wrongToWrite_56 : decode cX4_wrongToWrite 56 = .ok (.iload_n 3, 1) := by decide +kernel
theorem dX4_wrongToWrite_57 : decode cX4_wrongToWrite 57 = .ok (.iaload, 1) := by decide +kernel
theorem dX4_wrongToWrite_58 : decode cX4_wrongToWrite 58 = .ok (.iload 4, 2) := by decide +kernel
theorem dX4_wrongToWrite_60 : decode cX4_wrongToWrite 60 = .ok (.invokevirtual 131, 3) := by decide +kernel
theorem dX4_wrongToWrite_63 : decode cX4_wrongToWrite 63 = .ok (.iconst (-1), 1) := by decide +kernel
theorem dX4_wrongToWrite_64 : decode cX4_wrongToWrite 64 = .ok (.if_icmp .ne 5, 3) := by decide +kernel
theorem dX4_wrongToWrite_67 : decode cX4_wrongToWrite 67 = .ok (.iconst 3, 1) := by decide +kernel
theorem dX4_wrongToWrite_68 : decode cX4_wrongToWrite 68 = .ok (.ireturn, 1) := by decide +kernel
theorem dX4_wrongToWrite_69 : decode cX4_wrongToWrite 69 = .ok (.aload_n 0, 1) := by decide +kernel
theorem dX4_wrongToWrite_70 : decode cX4_wrongToWrite 70 = .ok (.getfield 49, 3) := by decide +kernel
theorem dX4_wrongToWrite_73 : decode cX4_wrongToWrite 73 = .ok (.bipush 60, 2) := by decide +kernel
theorem dX4_wrongToWrite_75 : decode cX4_wrongToWrite 75 = .ok (.if_icmp .lt 8, 3) := by decide +kernel
theorem dX4_wrongToWrite_78 : decode cX4_wrongToWrite 78 = .ok (.bipush 7, 2) := by decide +kernel
theorem dX4_wrongToWrite_80 : decode cX4_wrongToWrite 80 = .ok (.goto 4, 3) := by decide +kernel
theorem dX4_wrongToWrite_83 : decode cX4_wrongToWrite 83 = .ok (.iconst 0, 1) := by decide +kernel
theorem dX4_wrongToWrite_84 : decode cX4_wrongToWrite 84 = .ok (.ireturn, 1) := by decide +kernel
theorem dX4_tryWrite_0 : decode cX4_tryWrite 0 = .ok (.aload_n 0, 1) := by decide +kernel
theorem dX4_tryWrite_1 : decode cX4_tryWrite 1 = .ok (.iload_n 1, 1) := by decide +kernel
theorem dX4_tryWrite_2 : decode cX4_tryWrite 2 = .ok (.iload_n 2, 1) := by decide +kernel
theorem dX4_tryWrite_3 : decode cX4_tryWrite 3 = .ok (.iload 4, 2) := by decide +kernel
theorem dX4_tryWrite_5 : decode cX4_tryWrite 5 = .ok (.invokevirtual 135, 3) := by decide +kernel
theorem dX4_tryWrite_8 : decode cX4_tryWrite 8 = .ok (.istore 5, 2) := by decide +kernel
theorem dX4_tryWrite_10 : decode cX4_tryWrite 10 = .ok (.iload 5, 2) := by decide +kernel
theorem dX4_tryWrite_12 : decode cX4_tryWrite 12 = .ok (.ifCond .eq 6, 3) := by decide +kernel
theorem dX4_tryWrite_15 : decode cX4_tryWrite 15 = .ok (.iload 5, 2) := by decide +kernel
theorem dX4_tryWrite_17 : decode cX4_tryWrite 17 = .ok (.ireturn, 1) := by decide +kernel
theorem dX4_tryWrite_18 : decode cX4_tryWrite 18 = .ok (.aload_n 0, 1) := by decide +kernel
theorem dX4_tryWrite_19 : decode cX4_tryWrite 19 = .ok (.iload_n 1, 1) := by decide +kernel
theorem dX4_tryWrite_20 : decode cX4_tryWrite 20 = .ok (.aload_n 0, 1) := by decide +kernel
theorem dX4_tryWrite_21 : decode cX4_tryWrite 21 = .ok (.getfield 45, 3) := by decide +kernel
theorem dX4_tryWrite_24 : decode cX4_tryWrite 24 = .ok (.getfield 128, 3) := by decide +kernel
theorem dX4_tryWrite_27 : decode cX4_tryWrite 27 = .ok (.iload 4, 2) := by decide +kernel
theorem dX4_tryWrite_29 : decode cX4_tryWrite 29 = .ok (.iaload, 1) := by decide +kernel
theorem dX4_tryWrite_30 : decode cX4_tryWrite 30 = .ok (.invokevirtual 125, 3) := by decide +kernel
theorem dX4_tryWrite_33 : decode cX4_tryWrite 33 = .ok (.istore 6, 2) := by decide +kernel
theorem dX4_tryWrite_35 : decode cX4_tryWrite 35 = .ok (.aload_n 0, 1) := by decide +kernel
theorem dX4_tryWrite_36 : decode cX4_tryWrite 36 = .ok (.iload_n 2, 1) := by decide +kernel
theorem dX4_tryWrite_37 : decode cX4_tryWrite 37 = .ok (.aload_n 0, 1) := by decide +kernel
theorem dX4_tryWrite_38 : decode cX4_tryWrite 38 = .ok (.getfield 45, 3) := by decide +kernel
theorem dX4_tryWrite_41 : decode cX4_tryWrite 41 = .ok (.getfield 128, 3) := by decide +kernel
theorem dX4_tryWrite_44 : decode cX4_tryWrite 44 = .ok (.iload 4, 2) := by decide +kernel
theorem dX4_tryWrite_46 : decode cX4_tryWrite 46 = .ok (.iaload, 1) := by decide +kernel
theorem dX4_tryWrite_47 : decode cX4_tryWrite 47 = .ok (.iload 6, 2) := by decide +kernel
theorem dX4_tryWrite_49 : decode cX4_tryWrite 49 = .ok (.invokevirtual 131, 3) := by decide +kernel
theorem dX4_tryWrite_52 : decode cX4_tryWrite 52 = .ok (.istore 7, 2) := by decide +kernel
theorem dX4_tryWrite_54 : decode cX4_tryWrite 54 = .ok (.aload_n 0, 1) := by decide +kernel
theorem dX4_tryWrite_55 : decode cX4_tryWrite 55 = .ok (.getfield 30, 3) := by decide +kernel
theorem dX4_tryWrite_58 : decode cX4_tryWrite 58 = .ok (.iload 6, 2) := by decide +kernel
theorem dX4_tryWrite_60 : decode cX4_tryWrite 60 = .ok (.dup2, 1) := by decide +kernel
theorem dX4_tryWrite_61 : decode cX4_tryWrite 61 = .ok (.iaload, 1) := by decide +kernel
theorem dX4_tryWrite_62 : decode cX4_tryWrite 62 = .ok (.aload_n 0, 1) := by decide +kernel
theorem dX4_tryWrite_63 : decode cX4_tryWrite 63 = .ok (.getfield 45, 3) := by decide +kernel
theorem dX4_tryWrite_66 : decode cX4_tryWrite 66 = .ok (.getfield 128, 3) := by decide +kernel
theorem dX4_tryWrite_69 : decode cX4_tryWrite 69 = .ok (.iload 4, 2) := by decide +kernel
theorem dX4_tryWrite_71 : decode cX4_tryWrite 71 = .ok (.iaload, 1) := by decide +kernel
theorem dX4_tryWrite_72 : decode cX4_tryWrite 72 = .ok (.isub, 1) := by decide +kernel
theorem dX4_tryWrite_73 : decode cX4_tryWrite 73 = .ok (.iastore, 1) := by decide +kernel
theorem dX4_tryWrite_74 : decode cX4_tryWrite 74 = .ok (.aload_n 0, 1) := by decide +kernel
theorem dX4_tryWrite_75 : decode cX4_tryWrite 75 = .ok (.getfield 30, 3) := by decide +kernel
theorem dX4_tryWrite_78 : decode cX4_tryWrite 78 = .ok (.iload 7, 2) := by decide +kernel
theorem dX4_tryWrite_80 : decode cX4_tryWrite 80 = .ok (.dup2, 1) := by decide +kernel
theorem dX4_tryWrite_81 : decode cX4_tryWrite 81 = .ok (.iaload, 1) := by decide +kernel
theorem dX4_tryWrite_82 : decode cX4_tryWrite 82 = .ok (.aload_n 0, 1) := by decide +kernel
theorem dX4_tryWrite_83 : decode cX4_tryWrite 83 = .ok (.getfield 45, 3) := by decide +kernel
theorem dX4_tryWrite_86 : decode cX4_tryWrite 86 = .ok (.getfield 128, 3) := by decide +kernel
theorem dX4_tryWrite_89 : decode cX4_tryWrite 89 = .ok (.iload 4, 2) := by decide +kernel
theorem dX4_tryWrite_91 : decode cX4_tryWrite 91 = .ok (.iaload, 1) := by decide +kernel
theorem dX4_tryWrite_92 : decode cX4_tryWrite 92 = .ok (.isub, 1) := by decide +kernel
theorem dX4_tryWrite_93 : decode cX4_tryWrite 93 = .ok (.iastore, 1) := by decide +kernel
theorem dX4_tryWrite_94 : decode cX4_tryWrite 94 = .ok (.aload_n 0, 1) := by decide +kernel
theorem dX4_tryWrite_95 : decode cX4_tryWrite 95 = .ok (.getfield 9, 3) := by decide +kernel
theorem dX4_tryWrite_98 : decode cX4_tryWrite 98 = .ok (.aload_n 0, 1) := by decide +kernel
theorem dX4_tryWrite_99 : decode cX4_tryWrite 99 = .ok (.getfield 49, 3) := by decide +kernel
theorem dX4_tryWrite_102 : decode cX4_tryWrite 102 = .ok (.iload_n 1, 1) := by decide +kernel
theorem dX4_tryWrite_103 : decode cX4_tryWrite 103 = .ok (.iastore, 1) := by decide +kernel
theorem dX4_tryWrite_104 : decode cX4_tryWrite 104 = .ok (.aload_n 0, 1) := by decide +kernel
theorem dX4_tryWrite_105 : decode cX4_tryWrite 105 = .ok (.getfield 15, 3) := by decide +kernel
theorem dX4_tryWrite_108 : decode cX4_tryWrite 108 = .ok (.aload_n 0, 1) := by decide +kernel
theorem dX4_tryWrite_109 : decode cX4_tryWrite 109 = .ok (.getfield 49, 3) := by decide +kernel
theorem dX4_tryWrite_112 : decode cX4_tryWrite 112 = .ok (.iload_n 2, 1) := by decide +kernel
theorem dX4_tryWrite_113 : decode cX4_tryWrite 113 = .ok (.iastore, 1) := by decide +kernel
theorem dX4_tryWrite_114 : decode cX4_tryWrite 114 = .ok (.aload_n 0, 1) := by decide +kernel
theorem dX4_tryWrite_115 : decode cX4_tryWrite 115 = .ok (.getfield 18, 3) := by decide +kernel
theorem dX4_tryWrite_118 : decode cX4_tryWrite 118 = .ok (.aload_n 0, 1) := by decide +kernel
theorem dX4_tryWrite_119 : decode cX4_tryWrite 119 = .ok (.getfield 49, 3) := by decide +kernel
theorem dX4_tryWrite_122 : decode cX4_tryWrite 122 = .ok (.iload_n 3, 1) := by decide +kernel
theorem dX4_tryWrite_123 : decode cX4_tryWrite 123 = .ok (.iastore, 1) := by decide +kernel
theorem dX4_tryWrite_124 : decode cX4_tryWrite 124 = .ok (.aload_n 0, 1) := by decide +kernel
theorem dX4_tryWrite_125 : decode cX4_tryWrite 125 = .ok (.getfield 21, 3) := by decide +kernel
theorem dX4_tryWrite_128 : decode cX4_tryWrite 128 = .ok (.aload_n 0, 1) := by decide +kernel
theorem dX4_tryWrite_129 : decode cX4_tryWrite 129 = .ok (.getfield 49, 3) := by decide +kernel
theorem dX4_tryWrite_132 : decode cX4_tryWrite 132 = .ok (.iload 4, 2) := by decide +kernel
theorem dX4_tryWrite_134 : decode cX4_tryWrite 134 = .ok (.iastore, 1) := by decide +kernel
theorem dX4_tryWrite_135 : decode cX4_tryWrite 135 = .ok (.aload_n 0, 1) := by decide +kernel
theorem dX4_tryWrite_136 : decode cX4_tryWrite 136 = .ok (.getfield 24, 3) := by decide +kernel
theorem dX4_tryWrite_139 : decode cX4_tryWrite 139 = .ok (.aload_n 0, 1) := by decide +kernel
theorem dX4_tryWrite_140 : decode cX4_tryWrite 140 = .ok (.getfield 49, 3) := by decide +kernel
theorem dX4_tryWrite_143 : decode cX4_tryWrite 143 = .ok (.aload_n 0, 1) := by decide +kernel
theorem dX4_tryWrite_144 : decode cX4_tryWrite 144 = .ok (.getfield 53, 3) := by decide +kernel
theorem dX4_tryWrite_147 : decode cX4_tryWrite 147 = .ok (.iastore, 1) := by decide +kernel
theorem dX4_tryWrite_148 : decode cX4_tryWrite 148 = .ok (.aload_n 0, 1) := by decide +kernel
theorem dX4_tryWrite_149 : decode cX4_tryWrite 149 = .ok (.getfield 27, 3) := by decide +kernel
theorem dX4_tryWrite_152 : decode cX4_tryWrite 152 = .ok (.aload_n 0, 1) := by decide +kernel
theorem dX4_tryWrite_153 : decode cX4_tryWrite 153 = .ok (.getfield 49, 3) := by decide +kernel
theorem dX4_tryWrite_156 : decode cX4_tryWrite 156 = .ok (.iconst 0, 1) := by decide +kernel
theorem dX4_tryWrite_157 : decode cX4_tryWrite 157 = .ok (.iastore, 1) := by decide +kernel
theorem dX4_tryWrite_158 : decode cX4_tryWrite 158 = .ok (.aload_n 0, 1) := by decide +kernel
theorem dX4_tryWrite_159 : decode cX4_tryWrite 159 = .ok (.getfield 36, 3) := by decide +kernel
theorem dX4_tryWrite_162 : decode cX4_tryWrite 162 = .ok (.aload_n 0, 1) := by decide +kernel
theorem dX4_tryWrite_163 : decode cX4_tryWrite 163 = .ok (.getfield 49, 3) := by decide +kernel
theorem dX4_tryWrite_166 : decode cX4_tryWrite 166 = .ok (.iload 6, 2) := by decide +kernel
theorem dX4_tryWrite_168 : decode cX4_tryWrite 168 = .ok (.iastore, 1) := by decide +kernel
theorem dX4_tryWrite_169 : decode cX4_tryWrite 169 = .ok (.aload_n 0, 1) := by decide +kernel
theorem dX4_tryWrite_170 : decode cX4_tryWrite 170 = .ok (.getfield 39, 3) := by decide +kernel
theorem dX4_tryWrite_173 : decode cX4_tryWrite 173 = .ok (.aload_n 0, 1) := by decide +kernel
theorem dX4_tryWrite_174 : decode cX4_tryWrite 174 = .ok (.getfield 49, 3) := by decide +kernel
theorem dX4_tryWrite_177 : decode cX4_tryWrite 177 = .ok (.iload 7, 2) := by decide +kernel
theorem dX4_tryWrite_179 : decode cX4_tryWrite 179 = .ok (.iastore, 1) := by decide +kernel
theorem dX4_tryWrite_180 : decode cX4_tryWrite 180 = .ok (.aload_n 0, 1) := by decide +kernel
theorem dX4_tryWrite_181 : decode cX4_tryWrite 181 = .ok (.getfield 42, 3) := by decide +kernel
theorem dX4_tryWrite_184 : decode cX4_tryWrite 184 = .ok (.aload_n 0, 1) := by decide +kernel
theorem dX4_tryWrite_185 : decode cX4_tryWrite 185 = .ok (.getfield 49, 3) := by decide +kernel
theorem dX4_tryWrite_188 : decode cX4_tryWrite 188 = .ok (.iconst 0, 1) := by decide +kernel
theorem dX4_tryWrite_189 : decode cX4_tryWrite 189 = .ok (.iastore, 1) := by decide +kernel
theorem dX4_tryWrite_190 : decode cX4_tryWrite 190 = .ok (.aload_n 0, 1) := by decide +kernel
theorem dX4_tryWrite_191 : decode cX4_tryWrite 191 = .ok (.dup, 1) := by decide +kernel
theorem dX4_tryWrite_192 : decode cX4_tryWrite 192 = .ok (.getfield 49, 3) := by decide +kernel
theorem dX4_tryWrite_195 : decode cX4_tryWrite 195 = .ok (.iconst 1, 1) := by decide +kernel
theorem dX4_tryWrite_196 : decode cX4_tryWrite 196 = .ok (.iadd, 1) := by decide +kernel
theorem dX4_tryWrite_197 : decode cX4_tryWrite 197 = .ok (.putfield 49, 3) := by decide +kernel
theorem dX4_tryWrite_200 : decode cX4_tryWrite 200 = .ok (.iconst 0, 1) := by decide +kernel
theorem dX4_tryWrite_201 : decode cX4_tryWrite 201 = .ok (.ireturn, 1) := by decide +kernel
theorem dX4_isBuried_0 : decode cX4_isBuried 0 = .ok (.iload_n 1, 1) := by decide +kernel
theorem dX4_isBuried_1 : decode cX4_isBuried 1 = .ok (.iconst (-1), 1) := by decide +kernel
theorem dX4_isBuried_2 : decode cX4_isBuried 2 = .ok (.if_icmp .eq 11, 3) := by decide +kernel
theorem dX4_isBuried_5 : decode cX4_isBuried 5 = .ok (.aload_n 0, 1) := by decide +kernel
theorem dX4_isBuried_6 : decode cX4_isBuried 6 = .ok (.iload_n 1, 1) := by decide +kernel
theorem dX4_isBuried_7 : decode cX4_isBuried 7 = .ok (.invokevirtual 85, 3) := by decide +kernel
theorem dX4_isBuried_10 : decode cX4_isBuried 10 = .ok (.ifCond .ne 7, 3) := by decide +kernel
theorem dX4_isBuried_13 : decode cX4_isBuried 13 = .ok (.iconst 1, 1) := by decide +kernel
theorem dX4_isBuried_14 : decode cX4_isBuried 14 = .ok (.goto 4, 3) := by decide +kernel
theorem dX4_isBuried_17 : decode cX4_isBuried 17 = .ok (.iconst 0, 1) := by decide +kernel
theorem dX4_isBuried_18 : decode cX4_isBuried 18 = .ok (.ireturn, 1) := by decide +kernel
theorem dX4_hasRoomForLines_0 : decode cX4_hasRoomForLines 0 = .ok (.iload_n 1, 1) := by decide +kernel
theorem dX4_hasRoomForLines_1 : decode cX4_hasRoomForLines 1 = .ok (.iload_n 2, 1) := by decide +kernel
theorem dX4_hasRoomForLines_2 : decode cX4_hasRoomForLines 2 = .ok (.if_icmp .ne 15, 3) := by decide +kernel
theorem dX4_hasRoomForLines_5 : decode cX4_hasRoomForLines 5 = .ok (.iconst 2, 1) := by decide +kernel
theorem dX4_hasRoomForLines_6 : decode cX4_hasRoomForLines 6 = .ok (.aload_n 0, 1) := by decide +kernel
theorem dX4_hasRoomForLines_7 : decode cX4_hasRoomForLines 7 = .ok (.getfield 45, 3) := by decide +kernel
theorem dX4_hasRoomForLines_10 : decode cX4_hasRoomForLines 10 = .ok (.getfield 138, 3) := by decide +kernel
theorem dX4_hasRoomForLines_13 : decode cX4_hasRoomForLines 13 = .ok (.imul, 1) := by decide +kernel
theorem dX4_hasRoomForLines_14 : decode cX4_hasRoomForLines 14 = .ok (.goto 10, 3) := by decide +kernel
theorem dX4_hasRoomForLines_17 : decode cX4_hasRoomForLines 17 = .ok (.aload_n 0, 1) := by decide +kernel
theorem dX4_hasRoomForLines_18 : decode cX4_hasRoomForLines 18 = .ok (.getfield 45, 3) := by decide +kernel
theorem dX4_hasRoomForLines_21 : decode cX4_hasRoomForLines 21 = .ok (.getfield 138, 3) := by decide +kernel
theorem dX4_hasRoomForLines_24 : decode cX4_hasRoomForLines 24 = .ok (.istore_n 3, 1) := by decide +kernel
theorem dX4_hasRoomForLines_25 : decode cX4_hasRoomForLines 25 = .ok (.aload_n 0, 1) := by decide +kernel
theorem dX4_hasRoomForLines_26 : decode cX4_hasRoomForLines 26 = .ok (.iload_n 1, 1) := by decide +kernel
theorem dX4_hasRoomForLines_27 : decode cX4_hasRoomForLines 27 = .ok (.invokevirtual 141, 3) := by decide +kernel
theorem dX4_hasRoomForLines_30 : decode cX4_hasRoomForLines 30 = .ok (.ifCond .ne 13, 3) := by decide +kernel
theorem dX4_hasRoomForLines_33 : decode cX4_hasRoomForLines 33 = .ok (.aload_n 0, 1) := by decide +kernel
theorem dX4_hasRoomForLines_34 : decode cX4_hasRoomForLines 34 = .ok (.getfield 30, 3) := by decide +kernel
theorem dX4_hasRoomForLines_37 : decode cX4_hasRoomForLines 37 = .ok (.iload_n 1, 1) := by decide +kernel
theorem dX4_hasRoomForLines_38 : decode cX4_hasRoomForLines 38 = .ok (.iaload, 1) := by decide +kernel
theorem dX4_hasRoomForLines_39 : decode cX4_hasRoomForLines 39 = .ok (.iload_n 3, 1) := by decide +kernel
theorem dX4_hasRoomForLines_40 : decode cX4_hasRoomForLines 40 = .ok (.if_icmp .lt 25, 3) := by decide +kernel
theorem dX4_hasRoomForLines_43 : decode cX4_hasRoomForLines 43 = .ok (.aload_n 0, 1) := by decide +kernel
theorem dX4_hasRoomForLines_44 : decode cX4_hasRoomForLines 44 = .ok (.iload_n 2, 1) := by decide +kernel
theorem dX4_hasRoomForLines_45 : decode cX4_hasRoomForLines 45 = .ok (.invokevirtual 141, 3) := by decide +kernel
theorem dX4_hasRoomForLines_48 : decode cX4_hasRoomForLines 48 = .ok (.ifCond .ne 13, 3) := by decide +kernel
theorem dX4_hasRoomForLines_51 : decode cX4_hasRoomForLines 51 = .ok (.aload_n 0, 1) := by decide +kernel
theorem dX4_hasRoomForLines_52 : decode cX4_hasRoomForLines 52 = .ok (.getfield 30, 3) := by decide +kernel
theorem dX4_hasRoomForLines_55 : decode cX4_hasRoomForLines 55 = .ok (.iload_n 2, 1) := by decide +kernel
theorem dX4_hasRoomForLines_56 : decode cX4_hasRoomForLines 56 = .ok (.iaload, 1) := by decide +kernel
theorem dX4_hasRoomForLines_57 : decode cX4_hasRoomForLines 57 = .ok (.iload_n 3, 1) := by decide +kernel
theorem dX4_hasRoomForLines_58 : decode cX4_hasRoomForLines 58 = .ok (.if_icmp .lt 7, 3) := by decide +kernel
theorem dX4_hasRoomForLines_61 : decode cX4_hasRoomForLines 61 = .ok (.iconst 1, 1) := by decide +kernel
theorem dX4_hasRoomForLines_62 : decode cX4_hasRoomForLines 62 = .ok (.goto 4, 3) := by decide +kernel
theorem dX4_hasRoomForLines_65 : decode cX4_hasRoomForLines 65 = .ok (.iconst 0, 1) := by decide +kernel
theorem dX4_hasRoomForLines_66 : decode cX4_hasRoomForLines 66 = .ok (.ireturn, 1) := by decide +kernel
theorem dX4_scratch_0 : decode cX4_scratch 0 = .ok (.aload_n 0, 1) := by decide +kernel
theorem dX4_scratch_1 : decode cX4_scratch 1 = .ok (.getfield 30, 3) := by decide +kernel
theorem dX4_scratch_4 : decode cX4_scratch 4 = .ok (.iload_n 1, 1) := by decide +kernel
theorem dX4_scratch_5 : decode cX4_scratch 5 = .ok (.dup2, 1) := by decide +kernel
theorem dX4_scratch_6 : decode cX4_scratch 6 = .ok (.iaload, 1) := by decide +kernel
theorem dX4_scratch_7 : decode cX4_scratch 7 = .ok (.iload_n 2, 1) := by decide +kernel
theorem dX4_scratch_8 : decode cX4_scratch 8 = .ok (.isub, 1) := by decide +kernel
theorem dX4_scratch_9 : decode cX4_scratch 9 = .ok (.iastore, 1) := by decide +kernel
theorem dX4_scratch_10 : decode cX4_scratch 10 = .ok (.aload_n 0, 1) := by decide +kernel
theorem dX4_scratch_11 : decode cX4_scratch 11 = .ok (.getfield 33, 3) := by decide +kernel
theorem dX4_scratch_14 : decode cX4_scratch 14 = .ok (.iload_n 1, 1) := by decide +kernel
theorem dX4_scratch_15 : decode cX4_scratch 15 = .ok (.dup2, 1) := by decide +kernel
theorem dX4_scratch_16 : decode cX4_scratch 16 = .ok (.iaload, 1) := by decide +kernel
theorem dX4_scratch_17 : decode cX4_scratch 17 = .ok (.iload_n 2, 1) := by decide +kernel
theorem dX4_scratch_18 : decode cX4_scratch 18 = .ok (.iadd, 1) := by decide +kernel
theorem dX4_scratch_19 : decode cX4_scratch 19 = .ok (.iastore, 1) := by decide +kernel
theorem dX4_scratch_20 : decode cX4_scratch 20 = .ok (.return_, 1) := by decide +kernel
theorem dX4_tryStrike_0 : decode cX4_tryStrike 0 = .ok (.aload_n 0, 1) := by decide +kernel
theorem dX4_tryStrike_1 : decode cX4_tryStrike 1 = .ok (.iload_n 1, 1) := by decide +kernel
theorem dX4_tryStrike_2 : decode cX4_tryStrike 2 = .ok (.invokevirtual 94, 3) := by decide +kernel
theorem dX4_tryStrike_5 : decode cX4_tryStrike 5 = .ok (.ifCond .ne 5, 3) := by decide +kernel
theorem dX4_tryStrike_8 : decode cX4_tryStrike 8 = .ok (.iconst 4, 1) := by decide +kernel
theorem dX4_tryStrike_9 : decode cX4_tryStrike 9 = .ok (.ireturn, 1) := by decide +kernel
theorem dX4_tryStrike_10 : decode cX4_tryStrike 10 = .ok (.aload_n 0, 1) := by decide +kernel
theorem dX4_tryStrike_11 : decode cX4_tryStrike 11 = .ok (.aload_n 0, 1) := by decide +kernel
theorem dX4_tryStrike_12 : decode cX4_tryStrike 12 = .ok (.getfield 36, 3) := by decide +kernel
theorem dX4_tryStrike_15 : decode cX4_tryStrike 15 = .ok (.iload_n 1, 1) := by decide +kernel
theorem dX4_tryStrike_16 : decode cX4_tryStrike 16 = .ok (.iaload, 1) := by decide +kernel
theorem dX4_tryStrike_17 : decode cX4_tryStrike 17 = .ok (.aload_n 0, 1) := by decide +kernel
theorem dX4_tryStrike_18 : decode cX4_tryStrike 18 = .ok (.getfield 39, 3) := by decide +kernel
theorem dX4_tryStrike_21 : decode cX4_tryStrike 21 = .ok (.iload_n 1, 1) := by decide +kernel
theorem dX4_tryStrike_22 : decode cX4_tryStrike 22 = .ok (.iaload, 1) := by decide +kernel
theorem dX4_tryStrike_23 : decode cX4_tryStrike 23 = .ok (.invokevirtual 144, 3) := by decide +kernel
theorem dX4_tryStrike_26 : decode cX4_tryStrike 26 = .ok (.ifCond .ne 5, 3) := by decide +kernel
theorem dX4_tryStrike_29 : decode cX4_tryStrike 29 = .ok (.iconst 5, 1) := by decide +kernel
theorem dX4_tryStrike_30 : decode cX4_tryStrike 30 = .ok (.ireturn, 1) := by decide +kernel
theorem dX4_tryStrike_31 : decode cX4_tryStrike 31 = .ok (.aload_n 0, 1) := by decide +kernel
theorem dX4_tryStrike_32 : decode cX4_tryStrike 32 = .ok (.getfield 27, 3) := by decide +kernel
theorem dX4_tryStrike_35 : decode cX4_tryStrike 35 = .ok (.iload_n 1, 1) := by decide +kernel
theorem dX4_tryStrike_36 : decode cX4_tryStrike 36 = .ok (.iconst 1, 1) := by decide +kernel
theorem dX4_tryStrike_37 : decode cX4_tryStrike 37 = .ok (.iastore, 1) := by decide +kernel
theorem dX4_tryStrike_38 : decode cX4_tryStrike 38 = .ok (.iconst 0, 1) := by decide +kernel
theorem dX4_tryStrike_39 : decode cX4_tryStrike 39 = .ok (.istore_n 2, 1) := by decide +kernel
theorem dX4_tryStrike_40 : decode cX4_tryStrike 40 = .ok (.iload_n 2, 1) := by decide +kernel
theorem dX4_tryStrike_41 : decode cX4_tryStrike 41 = .ok (.iconst 1, 1) := by decide +kernel
theorem dX4_tryStrike_42 : decode cX4_tryStrike 42 = .ok (.if_icmp .gt 39, 3) := by decide +kernel
theorem dX4_tryStrike_45 : decode cX4_tryStrike 45 = .ok (.aload_n 0, 1) := by decide +kernel
theorem dX4_tryStrike_46 : decode cX4_tryStrike 46 = .ok (.aload_n 0, 1) := by decide +kernel
theorem dX4_tryStrike_47 : decode cX4_tryStrike 47 = .ok (.iload_n 1, 1) := by decide +kernel
theorem dX4_tryStrike_48 : decode cX4_tryStrike 48 = .ok (.iload_n 2, 1) := by decide +kernel
theorem dX4_tryStrike_49 : decode cX4_tryStrike 49 = .ok (.invokevirtual 78, 3) := by decide +kernel
theorem dX4_tryStrike_52 : decode cX4_tryStrike 52 = .ok (.invokevirtual 141, 3) := by decide +kernel
theorem dX4_tryStrike_55 : decode cX4_tryStrike 55 = .ok (.ifCond .ne 20, 3) := by decide +kernel
theorem dX4_tryStrike_58 : decode cX4_tryStrike 58 = .ok (.aload_n 0, 1) := by decide +kernel
theorem dX4_tryStrike_59 : decode cX4_tryStrike 59 = .ok (.aload_n 0, 1) := by decide +kernel
theorem dX4_tryStrike_60 : decode cX4_tryStrike 60 = .ok (.iload_n 1, 1) := by decide +kernel
theorem dX4_tryStrike_61 : decode cX4_tryStrike 61 = .ok (.iload_n 2, 1) := by decide +kernel
theorem dX4_tryStrike_62 : decode cX4_tryStrike 62 = .ok (.invokevirtual 78, 3) := by decide +kernel
theorem dX4_tryStrike_65 : decode cX4_tryStrike 65 = .ok (.aload_n 0, 1) := by decide +kernel
theorem dX4_tryStrike_66 : decode cX4_tryStrike 66 = .ok (.getfield 45, 3) := by decide +kernel
theorem dX4_tryStrike_69 : decode cX4_tryStrike 69 = .ok (.getfield 138, 3) := by decide +kernel
theorem dX4_tryStrike_72 : decode cX4_tryStrike 72 = .ok (.invokevirtual 147, 3) := by decide +kernel
theorem dX4_tryStrike_75 : decode cX4_tryStrike 75 = .ok (.iinc 2 1, 3) := by decide +kernel
theorem dX4_tryStrike_78 : decode cX4_tryStrike 78 = .ok (.goto (-38), 3) := by decide +kernel
theorem dX4_tryStrike_81 : decode cX4_tryStrike 81 = .ok (.iconst 0, 1) := by decide +kernel
theorem dX4_tryStrike_82 : decode cX4_tryStrike 82 = .ok (.ireturn, 1) := by decide +kernel
theorem dX4_tryScar_0 : decode cX4_tryScar 0 = .ok (.aload_n 0, 1) := by decide +kernel
theorem dX4_tryScar_1 : decode cX4_tryScar 1 = .ok (.iload_n 1, 1) := by decide +kernel
theorem dX4_tryScar_2 : decode cX4_tryScar 2 = .ok (.invokevirtual 94, 3) := by decide +kernel
theorem dX4_tryScar_5 : decode cX4_tryScar 5 = .ok (.ifCond .ne 5, 3) := by decide +kernel
theorem dX4_tryScar_8 : decode cX4_tryScar 8 = .ok (.iconst 4, 1) := by decide +kernel
theorem dX4_tryScar_9 : decode cX4_tryScar 9 = .ok (.ireturn, 1) := by decide +kernel
theorem dX4_tryScar_10 : decode cX4_tryScar 10 = .ok (.aload_n 0, 1) := by decide +kernel
theorem dX4_tryScar_11 : decode cX4_tryScar 11 = .ok (.iload_n 1, 1) := by decide +kernel
theorem dX4_tryScar_12 : decode cX4_tryScar 12 = .ok (.iload_n 2, 1) := by decide +kernel
theorem dX4_tryScar_13 : decode cX4_tryScar 13 = .ok (.invokevirtual 88, 3) := by decide +kernel
theorem dX4_tryScar_16 : decode cX4_tryScar 16 = .ok (.ifCond .ne 6, 3) := by decide +kernel
theorem dX4_tryScar_19 : decode cX4_tryScar 19 = .ok (.bipush 6, 2) := by decide +kernel
theorem dX4_tryScar_21 : decode cX4_tryScar 21 = .ok (.ireturn, 1) := by decide +kernel
theorem dX4_tryScar_22 : decode cX4_tryScar 22 = .ok (.aload_n 0, 1) := by decide +kernel
theorem dX4_tryScar_23 : decode cX4_tryScar 23 = .ok (.getfield 42, 3) := by decide +kernel
theorem dX4_tryScar_26 : decode cX4_tryScar 26 = .ok (.iload_n 1, 1) := by decide +kernel
theorem dX4_tryScar_27 : decode cX4_tryScar 27 = .ok (.dup2, 1) := by decide +kernel
theorem dX4_tryScar_28 : decode cX4_tryScar 28 = .ok (.iaload, 1) := by decide +kernel
theorem dX4_tryScar_29 : decode cX4_tryScar 29 = .ok (.iconst 1, 1) := by decide +kernel
theorem dX4_tryScar_30 : decode cX4_tryScar 30 = .ok (.iload_n 2, 1) := by decide +kernel
theorem dX4_tryScar_31 : decode cX4_tryScar 31 = .ok (.ishl, 1) := by decide +kernel
theorem dX4_tryScar_32 : decode cX4_tryScar 32 = .ok (.ior, 1) := by decide +kernel
theorem dX4_tryScar_33 : decode cX4_tryScar 33 = .ok (.iastore, 1) := by decide +kernel
theorem dX4_tryScar_34 : decode cX4_tryScar 34 = .ok (.iconst 0, 1) := by decide +kernel
theorem dX4_tryScar_35 : decode cX4_tryScar 35 = .ok (.ireturn, 1) := by decide +kernel
theorem dX4_freedBy_0 : decode cX4_freedBy 0 = .ok (.iconst 0, 1) := by decide +kernel
theorem dX4_freedBy_1 : decode cX4_freedBy 1 = .ok (.istore_n 2, 1) := by decide +kernel
theorem dX4_freedBy_2 : decode cX4_freedBy 2 = .ok (.iconst 0, 1) := by decide +kernel
theorem dX4_freedBy_3 : decode cX4_freedBy 3 = .ok (.istore_n 3, 1) := by decide +kernel
theorem dX4_freedBy_4 : decode cX4_freedBy 4 = .ok (.iload_n 3, 1) := by decide +kernel
theorem dX4_freedBy_5 : decode cX4_freedBy 5 = .ok (.iconst 1, 1) := by decide +kernel
theorem dX4_freedBy_6 : decode cX4_freedBy 6 = .ok (.if_icmp .gt 53, 3) := by decide +kernel
theorem dX4_freedBy_9 : decode cX4_freedBy 9 = .ok (.aload_n 0, 1) := by decide +kernel
theorem dX4_freedBy_10 : decode cX4_freedBy 10 = .ok (.aload_n 0, 1) := by decide +kernel
theorem dX4_freedBy_11 : decode cX4_freedBy 11 = .ok (.iload_n 1, 1) := by decide +kernel
theorem dX4_freedBy_12 : decode cX4_freedBy 12 = .ok (.iload_n 3, 1) := by decide +kernel
theorem dX4_freedBy_13 : decode cX4_freedBy 13 = .ok (.invokevirtual 78, 3) := by decide +kernel
theorem dX4_freedBy_16 : decode cX4_freedBy 16 = .ok (.invokevirtual 141, 3) := by decide +kernel
theorem dX4_freedBy_19 : decode cX4_freedBy 19 = .ok (.ifCond .ne 34, 3) := by decide +kernel
theorem dX4_freedBy_22 : decode cX4_freedBy 22 = .ok (.iload_n 2, 1) := by decide +kernel
theorem dX4_freedBy_23 : decode cX4_freedBy 23 = .ok (.aload_n 0, 1) := by decide +kernel
theorem dX4_freedBy_24 : decode cX4_freedBy 24 = .ok (.getfield 45, 3) := by decide +kernel
theorem dX4_freedBy_27 : decode cX4_freedBy 27 = .ok (.getfield 128, 3) := by decide +kernel
theorem dX4_freedBy_30 : decode cX4_freedBy 30 = .ok (.aload_n 0, 1) := by decide +kernel
theorem dX4_freedBy_31 : decode cX4_freedBy 31 = .ok (.getfield 21, 3) := by decide +kernel
theorem dX4_freedBy_34 : decode cX4_freedBy 34 = .ok (.iload_n 1, 1) := by decide +kernel
theorem dX4_freedBy_35 : decode cX4_freedBy 35 = .ok (.iaload, 1) := by decide +kernel
theorem dX4_freedBy_36 : decode cX4_freedBy 36 = .ok (.iaload, 1) := by decide +kernel
theorem dX4_freedBy_37 : decode cX4_freedBy 37 = .ok (.aload_n 0, 1) := by decide +kernel
theorem dX4_freedBy_38 : decode cX4_freedBy 38 = .ok (.getfield 45, 3) := by decide +kernel
theorem dX4_freedBy_41 : decode cX4_freedBy 41 = .ok (.aload_n 0, 1) := by decide +kernel
theorem dX4_freedBy_42 : decode cX4_freedBy 42 = .ok (.getfield 21, 3) := by decide +kernel
theorem dX4_freedBy_45 : decode cX4_freedBy 45 = .ok (.iload_n 1, 1) := by decide +kernel
theorem dX4_freedBy_46 : decode cX4_freedBy 46 = .ok (.iaload, 1) := by decide +kernel
theorem dX4_freedBy_47 : decode cX4_freedBy 47 = .ok (.invokevirtual 151, 3) := by decide +kernel
theorem dX4_freedBy_50 : decode cX4_freedBy 50 = .ok (.isub, 1) := by decide +kernel
theorem dX4_freedBy_51 : decode cX4_freedBy 51 = .ok (.iadd, 1) := by decide +kernel
theorem dX4_freedBy_52 : decode cX4_freedBy 52 = .ok (.istore_n 2, 1) := by decide +kernel
theorem dX4_freedBy_53 : decode cX4_freedBy 53 = .ok (.iinc 3 1, 3) := by decide +kernel
theorem dX4_freedBy_56 : decode cX4_freedBy 56 = .ok (.goto (-52), 3) := by decide +kernel
theorem dX4_freedBy_59 : decode cX4_freedBy 59 = .ok (.iload_n 2, 1) := by decide +kernel
theorem dX4_freedBy_60 : decode cX4_freedBy 60 = .ok (.ireturn, 1) := by decide +kernel
theorem dX4_tryCut_0 : decode cX4_tryCut 0 = .ok (.aload_n 1, 1) := by decide +kernel
theorem dX4_tryCut_1 : decode cX4_tryCut 1 = .ok (.aload_n 0, 1) := by decide +kernel
theorem dX4_tryCut_2 : decode cX4_tryCut 2 = .ok (.invokevirtual 154, 3) := by decide +kernel
theorem dX4_tryCut_5 : decode cX4_tryCut 5 = .ok (.ifCond .ne 6, 3) := by decide +kernel
theorem dX4_tryCut_8 : decode cX4_tryCut 8 = .ok (.bipush 8, 2) := by decide +kernel
theorem dX4_tryCut_10 : decode cX4_tryCut 10 = .ok (.ireturn, 1) := by decide +kernel
theorem dX4_tryCut_11 : decode cX4_tryCut 11 = .ok (.iconst 0, 1) := by decide +kernel
theorem dX4_tryCut_12 : decode cX4_tryCut 12 = .ok (.istore_n 2, 1) := by decide +kernel
theorem dX4_tryCut_13 : decode cX4_tryCut 13 = .ok (.iload_n 2, 1) := by decide +kernel
theorem dX4_tryCut_14 : decode cX4_tryCut 14 = .ok (.aload_n 1, 1) := by decide +kernel
theorem dX4_tryCut_15 : decode cX4_tryCut 15 = .ok (.getfield 160, 3) := by decide +kernel
theorem dX4_tryCut_18 : decode cX4_tryCut 18 = .ok (.if_icmp .ge 28, 3) := by decide +kernel
theorem dX4_tryCut_21 : decode cX4_tryCut 21 = .ok (.iload_n 2, 1) := by decide +kernel
theorem dX4_tryCut_22 : decode cX4_tryCut 22 = .ok (.iconst 5, 1) := by decide +kernel
theorem dX4_tryCut_23 : decode cX4_tryCut 23 = .ok (.if_icmp .ge 23, 3) := by decide +kernel
theorem dX4_tryCut_26 : decode cX4_tryCut 26 = .ok (.aload_n 0, 1) := by decide +kernel
theorem dX4_tryCut_27 : decode cX4_tryCut 27 = .ok (.aload_n 1, 1) := by decide +kernel
theorem dX4_tryCut_28 : decode cX4_tryCut 28 = .ok (.getfield 163, 3) := by decide +kernel
theorem dX4_tryCut_31 : decode cX4_tryCut 31 = .ok (.iload_n 2, 1) := by decide +kernel
theorem dX4_tryCut_32 : decode cX4_tryCut 32 = .ok (.iaload, 1) := by decide +kernel
theorem dX4_tryCut_33 : decode cX4_tryCut 33 = .ok (.aload_n 1, 1) := by decide +kernel
theorem dX4_tryCut_34 : decode cX4_tryCut 34 = .ok (.getfield 166, 3) := by decide +kernel
theorem dX4_tryCut_37 : decode cX4_tryCut 37 = .ok (.invokevirtual 169, 3) := by decide +kernel
theorem dX4_tryCut_40 : decode cX4_tryCut 40 = .ok (.iinc 2 1, 3) := by decide +kernel
theorem dX4_tryCut_43 : decode cX4_tryCut 43 = .ok (.goto (-30), 3) := by decide +kernel
theorem dX4_tryCut_46 : decode cX4_tryCut 46 = .ok (.iconst 0, 1) := by decide +kernel
theorem dX4_tryCut_47 : decode cX4_tryCut 47 = .ok (.ireturn, 1) := by decide +kernel
theorem dX4_lessen_0 : decode cX4_lessen 0 = .ok (.aload_n 0, 1) := by decide +kernel
theorem dX4_lessen_1 : decode cX4_lessen 1 = .ok (.getfield 18, 3) := by decide +kernel
theorem dX4_lessen_4 : decode cX4_lessen 4 = .ok (.iload_n 1, 1) := by decide +kernel
theorem dX4_lessen_5 : decode cX4_lessen 5 = .ok (.dup2, 1) := by decide +kernel
theorem dX4_lessen_6 : decode cX4_lessen 6 = .ok (.iaload, 1) := by decide +kernel
theorem dX4_lessen_7 : decode cX4_lessen 7 = .ok (.iload_n 2, 1) := by decide +kernel
theorem dX4_lessen_8 : decode cX4_lessen 8 = .ok (.isub, 1) := by decide +kernel
theorem dX4_lessen_9 : decode cX4_lessen 9 = .ok (.iastore, 1) := by decide +kernel
theorem dX4_lessen_10 : decode cX4_lessen 10 = .ok (.aload_n 0, 1) := by decide +kernel
theorem dX4_lessen_11 : decode cX4_lessen 11 = .ok (.getfield 18, 3) := by decide +kernel
theorem dX4_lessen_14 : decode cX4_lessen 14 = .ok (.iload_n 1, 1) := by decide +kernel
theorem dX4_lessen_15 : decode cX4_lessen 15 = .ok (.iaload, 1) := by decide +kernel
theorem dX4_lessen_16 : decode cX4_lessen 16 = .ok (.ifCond .ne 46, 3) := by decide +kernel
theorem dX4_lessen_19 : decode cX4_lessen 19 = .ok (.aload_n 0, 1) := by decide +kernel
theorem dX4_lessen_20 : decode cX4_lessen 20 = .ok (.getfield 27, 3) := by decide +kernel
theorem dX4_lessen_23 : decode cX4_lessen 23 = .ok (.iload_n 1, 1) := by decide +kernel
theorem dX4_lessen_24 : decode cX4_lessen 24 = .ok (.iconst 2, 1) := by decide +kernel
theorem dX4_lessen_25 : decode cX4_lessen 25 = .ok (.iastore, 1) := by decide +kernel
theorem dX4_lessen_26 : decode cX4_lessen 26 = .ok (.aload_n 0, 1) := by decide +kernel
theorem dX4_lessen_27 : decode cX4_lessen 27 = .ok (.iload_n 1, 1) := by decide +kernel
theorem dX4_lessen_28 : decode cX4_lessen 28 = .ok (.aload_n 0, 1) := by decide +kernel
theorem dX4_lessen_29 : decode cX4_lessen 29 = .ok (.getfield 36, 3) := by decide +kernel
theorem dX4_lessen_32 : decode cX4_lessen 32 = .ok (.iload_n 1, 1) := by decide +kernel
theorem dX4_lessen_33 : decode cX4_lessen 33 = .ok (.iaload, 1) := by decide +kernel
theorem dX4_lessen_34 : decode cX4_lessen 34 = .ok (.invokevirtual 172, 3) := by decide +kernel
theorem dX4_lessen_37 : decode cX4_lessen 37 = .ok (.aload_n 0, 1) := by decide +kernel
theorem dX4_lessen_38 : decode cX4_lessen 38 = .ok (.iload_n 1, 1) := by decide +kernel
theorem dX4_lessen_39 : decode cX4_lessen 39 = .ok (.aload_n 0, 1) := by decide +kernel
theorem dX4_lessen_40 : decode cX4_lessen 40 = .ok (.getfield 39, 3) := by decide +kernel
theorem dX4_lessen_43 : decode cX4_lessen 43 = .ok (.iload_n 1, 1) := by decide +kernel
theorem dX4_lessen_44 : decode cX4_lessen 44 = .ok (.iaload, 1) := by decide +kernel
theorem dX4_lessen_45 : decode cX4_lessen 45 = .ok (.invokevirtual 172, 3) := by decide +kernel
theorem dX4_lessen_48 : decode cX4_lessen 48 = .ok (.aload_n 0, 1) := by decide +kernel
theorem dX4_lessen_49 : decode cX4_lessen 49 = .ok (.getfield 36, 3) := by decide +kernel
theorem dX4_lessen_52 : decode cX4_lessen 52 = .ok (.iload_n 1, 1) := by decide +kernel
theorem dX4_lessen_53 : decode cX4_lessen 53 = .ok (.iconst (-1), 1) := by decide +kernel
theorem dX4_lessen_54 : decode cX4_lessen 54 = .ok (.iastore, 1) := by decide +kernel
theorem dX4_lessen_55 : decode cX4_lessen 55 = .ok (.aload_n 0, 1) := by decide +kernel
theorem dX4_lessen_56 : decode cX4_lessen 56 = .ok (.getfield 39, 3) := by decide +kernel
theorem dX4_lessen_59 : decode cX4_lessen 59 = .ok (.iload_n 1, 1) := by decide +kernel
theorem dX4_lessen_60 : decode cX4_lessen 60 = .ok (.iconst (-1), 1) := by decide +kernel
theorem dX4_lessen_61 : decode cX4_lessen 61 = .ok (.iastore, 1) := by decide +kernel
theorem dX4_lessen_62 : decode cX4_lessen 62 = .ok (.return_, 1) := by decide +kernel
theorem dX4_takeOff_0 : decode cX4_takeOff 0 = .ok (.iload_n 2, 1) := by decide +kernel
theorem dX4_takeOff_1 : decode cX4_takeOff 1 = .ok (.iconst (-1), 1) := by decide +kernel
theorem dX4_takeOff_2 : decode cX4_takeOff 2 = .ok (.if_icmp .eq 52, 3) := by decide +kernel
theorem dX4_takeOff_5 : decode cX4_takeOff 5 = .ok (.aload_n 0, 1) := by decide +kernel
theorem dX4_takeOff_6 : decode cX4_takeOff 6 = .ok (.getfield 30, 3) := by decide +kernel
theorem dX4_takeOff_9 : decode cX4_takeOff 9 = .ok (.iload_n 2, 1) := by decide +kernel
theorem dX4_takeOff_10 : decode cX4_takeOff 10 = .ok (.dup2, 1) := by decide +kernel
theorem dX4_takeOff_11 : decode cX4_takeOff 11 = .ok (.iaload, 1) := by decide +kernel
theorem dX4_takeOff_12 : decode cX4_takeOff 12 = .ok (.aload_n 0, 1) := by decide +kernel
theorem dX4_takeOff_13 : decode cX4_takeOff 13 = .ok (.getfield 45, 3) := by decide +kernel
theorem dX4_takeOff_16 : decode cX4_takeOff 16 = .ok (.getfield 128, 3) := by decide +kernel
theorem dX4_takeOff_19 : decode cX4_takeOff 19 = .ok (.aload_n 0, 1) := by decide +kernel
theorem dX4_takeOff_20 : decode cX4_takeOff 20 = .ok (.getfield 21, 3) := by decide +kernel
theorem dX4_takeOff_23 : decode cX4_takeOff 23 = .ok (.iload_n 1, 1) := by decide +kernel
theorem dX4_takeOff_24 : decode cX4_takeOff 24 = .ok (.iaload, 1) := by decide +kernel
theorem dX4_takeOff_25 : decode cX4_takeOff 25 = .ok (.iaload, 1) := by decide +kernel
theorem dX4_takeOff_26 : decode cX4_takeOff 26 = .ok (.iadd, 1) := by decide +kernel
theorem dX4_takeOff_27 : decode cX4_takeOff 27 = .ok (.iastore, 1) := by decide +kernel
theorem dX4_takeOff_28 : decode cX4_takeOff 28 = .ok (.aload_n 0, 1) := by decide +kernel
theorem dX4_takeOff_29 : decode cX4_takeOff 29 = .ok (.iload_n 2, 1) := by decide +kernel
theorem dX4_takeOff_30 : decode cX4_takeOff 30 = .ok (.invokevirtual 85, 3) := by decide +kernel
theorem dX4_takeOff_33 : decode cX4_takeOff 33 = .ok (.ifCond .eq 21, 3) := by decide +kernel
theorem dX4_takeOff_36 : decode cX4_takeOff 36 = .ok (.aload_n 0, 1) := by decide +kernel
theorem dX4_takeOff_37 : decode cX4_takeOff 37 = .ok (.iload_n 2, 1) := by decide +kernel
theorem dX4_takeOff_38 : decode cX4_takeOff 38 = .ok (.aload_n 0, 1) := by decide +kernel
theorem dX4_takeOff_39 : decode cX4_takeOff 39 = .ok (.getfield 45, 3) := by decide +kernel
theorem dX4_takeOff_42 : decode cX4_takeOff 42 = .ok (.aload_n 0, 1) := by decide +kernel
theorem dX4_takeOff_43 : decode cX4_takeOff 43 = .ok (.getfield 21, 3) := by decide +kernel
theorem dX4_takeOff_46 : decode cX4_takeOff 46 = .ok (.iload_n 1, 1) := by decide +kernel
theorem dX4_takeOff_47 : decode cX4_takeOff 47 = .ok (.iaload, 1) := by decide +kernel
theorem dX4_takeOff_48 : decode cX4_takeOff 48 = .ok (.invokevirtual 151, 3) := by decide +kernel
theorem dX4_takeOff_51 : decode cX4_takeOff 51 = .ok (.invokevirtual 147, 3) := by decide +kernel
theorem dX4_takeOff_54 : decode cX4_takeOff 54 = .ok (.return_, 1) := by decide +kernel
theorem dX4_tryBury_0 : decode cX4_tryBury 0 = .ok (.iload_n 1, 1) := by decide +kernel
theorem dX4_tryBury_1 : decode cX4_tryBury 1 = .ok (.iload_n 2, 1) := by decide +kernel
theorem dX4_tryBury_2 : decode cX4_tryBury 2 = .ok (.if_icmp .eq 19, 3) := by decide +kernel
theorem dX4_tryBury_5 : decode cX4_tryBury 5 = .ok (.aload_n 0, 1) := by decide +kernel
theorem dX4_tryBury_6 : decode cX4_tryBury 6 = .ok (.iload_n 1, 1) := by decide +kernel
theorem dX4_tryBury_7 : decode cX4_tryBury 7 = .ok (.invokevirtual 85, 3) := by decide +kernel
theorem dX4_tryBury_10 : decode cX4_tryBury 10 = .ok (.ifCond .eq 11, 3) := by decide +kernel
theorem dX4_tryBury_13 : decode cX4_tryBury 13 = .ok (.aload_n 0, 1) := by decide +kernel
theorem dX4_tryBury_14 : decode cX4_tryBury 14 = .ok (.iload_n 2, 1) := by decide +kernel
theorem dX4_tryBury_15 : decode cX4_tryBury 15 = .ok (.invokevirtual 85, 3) := by decide +kernel
theorem dX4_tryBury_18 : decode cX4_tryBury 18 = .ok (.ifCond .ne 5, 3) := by decide +kernel
theorem dX4_tryBury_21 : decode cX4_tryBury 21 = .ok (.iconst 1, 1) := by decide +kernel
theorem dX4_tryBury_22 : decode cX4_tryBury 22 = .ok (.ireturn, 1) := by decide +kernel
theorem dX4_tryBury_23 : decode cX4_tryBury 23 = .ok (.aload_n 0, 1) := by decide +kernel
theorem dX4_tryBury_24 : decode cX4_tryBury 24 = .ok (.dup, 1) := by decide +kernel
theorem dX4_tryBury_25 : decode cX4_tryBury 25 = .ok (.getfield 56, 3) := by decide +kernel
theorem dX4_tryBury_28 : decode cX4_tryBury 28 = .ok (.iconst 1, 1) := by decide +kernel
theorem dX4_tryBury_29 : decode cX4_tryBury 29 = .ok (.iload_n 1, 1) := by decide +kernel
theorem dX4_tryBury_30 : decode cX4_tryBury 30 = .ok (.ishl, 1) := by decide +kernel
theorem dX4_tryBury_31 : decode cX4_tryBury 31 = .ok (.ior, 1) := by decide +kernel
theorem dX4_tryBury_32 : decode cX4_tryBury 32 = .ok (.putfield 56, 3) := by decide +kernel
theorem dX4_tryBury_35 : decode cX4_tryBury 35 = .ok (.iconst 0, 1) := by decide +kernel
theorem dX4_tryBury_36 : decode cX4_tryBury 36 = .ok (.istore_n 3, 1) := by decide +kernel
theorem dX4_tryBury_37 : decode cX4_tryBury 37 = .ok (.iload_n 3, 1) := by decide +kernel
theorem dX4_tryBury_38 : decode cX4_tryBury 38 = .ok (.aload_n 0, 1) := by decide +kernel
theorem dX4_tryBury_39 : decode cX4_tryBury 39 = .ok (.getfield 49, 3) := by decide +kernel
theorem dX4_tryBury_42 : decode cX4_tryBury 42 = .ok (.if_icmp .ge 95, 3) := by decide +kernel
theorem dX4_tryBury_45 : decode cX4_tryBury 45 = .ok (.aload_n 0, 1) := by decide +kernel
theorem dX4_tryBury_46 : decode cX4_tryBury 46 = .ok (.iload_n 3, 1) := by decide +kernel
theorem dX4_tryBury_47 : decode cX4_tryBury 47 = .ok (.invokevirtual 94, 3) := by decide +kernel
theorem dX4_tryBury_50 : decode cX4_tryBury 50 = .ok (.ifCond .eq 81, 3) := by decide +kernel
theorem dX4_tryBury_53 : decode cX4_tryBury 53 = .ok (.aload_n 0, 1) := by decide +kernel
theorem dX4_tryBury_54 : decode cX4_tryBury 54 = .ok (.getfield 9, 3) := by decide +kernel
theorem dX4_tryBury_57 : decode cX4_tryBury 57 = .ok (.iload_n 3, 1) := by decide +kernel
theorem dX4_tryBury_58 : decode cX4_tryBury 58 = .ok (.aload_n 0, 1) := by decide +kernel
theorem dX4_tryBury_59 : decode cX4_tryBury 59 = .ok (.getfield 9, 3) := by decide +kernel
theorem dX4_tryBury_62 : decode cX4_tryBury 62 = .ok (.iload_n 3, 1) := by decide +kernel
theorem dX4_tryBury_63 : decode cX4_tryBury 63 = .ok (.iaload, 1) := by decide +kernel
theorem dX4_tryBury_64 : decode cX4_tryBury 64 = .ok (.iload_n 1, 1) := by decide +kernel
theorem dX4_tryBury_65 : decode cX4_tryBury 65 = .ok (.if_icmp .ne 7, 3) := by decide +kernel
theorem dX4_tryBury_68 : decode cX4_tryBury 68 = .ok (.iload_n 2, 1) := by decide +kernel
theorem dX4_tryBury_69 : decode cX4_tryBury 69 = .ok (.goto 9, 3) := by decide +kernel
theorem dX4_tryBury_72 : decode cX4_tryBury 72 = .ok (.aload_n 0, 1) := by decide +kernel
theorem dX4_tryBury_73 : decode cX4_tryBury 73 = .ok (.getfield 9, 3) := by decide +kernel
theorem dX4_tryBury_76 : decode cX4_tryBury 76 = .ok (.iload_n 3, 1) := by decide +kernel
theorem dX4_tryBury_77 : decode cX4_tryBury 77 = .ok (.iaload, 1) := by decide +kernel
theorem dX4_tryBury_78 : decode cX4_tryBury 78 = .ok (.iastore, 1) := by decide +kernel
theorem dX4_tryBury_79 : decode cX4_tryBury 79 = .ok (.aload_n 0, 1) := by decide +kernel
theorem dX4_tryBury_80 : decode cX4_tryBury 80 = .ok (.getfield 15, 3) := by decide +kernel
theorem dX4_tryBury_83 : decode cX4_tryBury 83 = .ok (.iload_n 3, 1) := by decide +kernel
theorem dX4_tryBury_84 : decode cX4_tryBury 84 = .ok (.aload_n 0, 1) := by decide +kernel
theorem dX4_tryBury_85 : decode cX4_tryBury 85 = .ok (.getfield 15, 3) := by decide +kernel
theorem dX4_tryBury_88 : decode cX4_tryBury 88 = .ok (.iload_n 3, 1) := by decide +kernel
theorem dX4_tryBury_89 : decode cX4_tryBury 89 = .ok (.iaload, 1) := by decide +kernel
theorem dX4_tryBury_90 : decode cX4_tryBury 90 = .ok (.iload_n 1, 1) := by decide +kernel
theorem dX4_tryBury_91 : decode cX4_tryBury 91 = .ok (.if_icmp .ne 7, 3) := by decide +kernel
theorem dX4_tryBury_94 : decode cX4_tryBury 94 = .ok (.iload_n 2, 1) := by decide +kernel
theorem dX4_tryBury_95 : decode cX4_tryBury 95 = .ok (.goto 9, 3) := by decide +kernel
theorem dX4_tryBury_98 : decode cX4_tryBury 98 = .ok (.aload_n 0, 1) := by decide +kernel
theorem dX4_tryBury_99 : decode cX4_tryBury 99 = .ok (.getfield 15, 3) := by decide +kernel
theorem dX4_tryBury_102 : decode cX4_tryBury 102 = .ok (.iload_n 3, 1) := by decide +kernel
theorem dX4_tryBury_103 : decode cX4_tryBury 103 = .ok (.iaload, 1) := by decide +kernel
theorem dX4_tryBury_104 : decode cX4_tryBury 104 = .ok (.iastore, 1) := by decide +kernel
theorem dX4_tryBury_105 : decode cX4_tryBury 105 = .ok (.aload_n 0, 1) := by decide +kernel
theorem dX4_tryBury_106 : decode cX4_tryBury 106 = .ok (.getfield 27, 3) := by decide +kernel
theorem dX4_tryBury_109 : decode cX4_tryBury 109 = .ok (.iload_n 3, 1) := by decide +kernel
theorem dX4_tryBury_110 : decode cX4_tryBury 110 = .ok (.aload_n 0, 1) := by decide +kernel
theorem dX4_tryBury_111 : decode cX4_tryBury 111 = .ok (.getfield 9, 3) := by decide +kernel
theorem dX4_tryBury_114 : decode cX4_tryBury 114 = .ok (.iload_n 3, 1) := by decide +kernel
theorem dX4_tryBury_115 : decode cX4_tryBury 115 = .ok (.iaload, 1) := by decide +kernel
theorem dX4_tryBury_116 : decode cX4_tryBury 116 = .ok (.aload_n 0, 1) := by decide +kernel
theorem dX4_tryBury_117 : decode cX4_tryBury 117 = .ok (.getfield 15, 3) := by decide +kernel
theorem dX4_tryBury_120 : decode cX4_tryBury 120 = .ok (.iload_n 3, 1) := by decide +kernel
theorem dX4_tryBury_121 : decode cX4_tryBury 121 = .ok (.iaload, 1) := by decide +kernel
theorem dX4_tryBury_122 : decode cX4_tryBury 122 = .ok (.if_icmp .ne 7, 3) := by decide +kernel
theorem dX4_tryBury_125 : decode cX4_tryBury 125 = .ok (.iconst 2, 1) := by decide +kernel
theorem dX4_tryBury_126 : decode cX4_tryBury 126 = .ok (.goto 4, 3) := by decide +kernel
theorem dX4_tryBury_129 : decode cX4_tryBury 129 = .ok (.iconst 0, 1) := by decide +kernel
theorem dX4_tryBury_130 : decode cX4_tryBury 130 = .ok (.iastore, 1) := by decide +kernel
theorem dX4_tryBury_131 : decode cX4_tryBury 131 = .ok (.iinc 3 1, 3) := by decide +kernel
theorem dX4_tryBury_134 : decode cX4_tryBury 134 = .ok (.goto (-97), 3) := by decide +kernel
theorem dX4_tryBury_137 : decode cX4_tryBury 137 = .ok (.iconst 0, 1) := by decide +kernel
theorem dX4_tryBury_138 : decode cX4_tryBury 138 = .ok (.ireturn, 1) := by decide +kernel
theorem dX4_tryYear_0 : decode cX4_tryYear 0 = .ok (.aload_n 0, 1) := by decide +kernel
theorem dX4_tryYear_1 : decode cX4_tryYear 1 = .ok (.getfield 53, 3) := by decide +kernel
theorem dX4_tryYear_4 : decode cX4_tryYear 4 = .ok (.bipush 99, 2) := by decide +kernel
theorem dX4_tryYear_6 : decode cX4_tryYear 6 = .ok (.if_icmp .lt 6, 3) := by decide +kernel
theorem dX4_tryYear_9 : decode cX4_tryYear 9 = .ok (.bipush 9, 2) := by decide +kernel
theorem dX4_tryYear_11 : decode cX4_tryYear 11 = .ok (.ireturn, 1) := by decide +kernel
theorem dX4_tryYear_12 : decode cX4_tryYear 12 = .ok (.aload_n 0, 1) := by decide +kernel
theorem dX4_tryYear_13 : decode cX4_tryYear 13 = .ok (.dup, 1) := by decide +kernel
theorem dX4_tryYear_14 : decode cX4_tryYear 14 = .ok (.getfield 53, 3) := by decide +kernel
theorem dX4_tryYear_17 : decode cX4_tryYear 17 = .ok (.iconst 1, 1) := by decide +kernel
theorem dX4_tryYear_18 : decode cX4_tryYear 18 = .ok (.iadd, 1) := by decide +kernel
theorem dX4_tryYear_19 : decode cX4_tryYear 19 = .ok (.putfield 53, 3) := by decide +kernel
theorem dX4_tryYear_22 : decode cX4_tryYear 22 = .ok (.iconst 0, 1) := by decide +kernel
theorem dX4_tryYear_23 : decode cX4_tryYear 23 = .ok (.ireturn, 1) := by decide +kernel
theorem dX5_init_0 : decode cX5_init 0 = .ok (.aload_n 0, 1) := by decide +kernel
theorem dX5_init_1 : decode cX5_init 1 = .ok (.invokespecial 3, 3) := by decide +kernel
theorem dX5_init_4 : decode cX5_init 4 = .ok (.aload_n 0, 1) := by decide +kernel
theorem dX5_init_5 : decode cX5_init 5 = .ok (.bipush 6, 2) := by decide +kernel
theorem dX5_init_7 : decode cX5_init 7 = .ok (.newarray .int, 2) := by decide +kernel
theorem dX5_init_9 : decode cX5_init 9 = .ok (.putfield 9, 3) := by decide +kernel
theorem dX5_init_12 : decode cX5_init 12 = .ok (.aload_n 0, 1) := by decide +kernel
theorem dX5_init_13 : decode cX5_init 13 = .ok (.bipush 6, 2) := by decide +kernel
theorem dX5_init_15 : decode cX5_init 15 = .ok (.newarray .int, 2) := by decide +kernel
theorem dX5_init_17 : decode cX5_init 17 = .ok (.putfield 15, 3) := by decide +kernel
theorem dX5_init_20 : decode cX5_init 20 = .ok (.aload_n 0, 1) := by decide +kernel
theorem dX5_init_21 : decode cX5_init 21 = .ok (.bipush 6, 2) := by decide +kernel
theorem dX5_init_23 : decode cX5_init 23 = .ok (.newarray .int, 2) := by decide +kernel
theorem dX5_init_25 : decode cX5_init 25 = .ok (.putfield 18, 3) := by decide +kernel
theorem dX5_init_28 : decode cX5_init 28 = .ok (.aload_n 0, 1) := by decide +kernel
theorem dX5_init_29 : decode cX5_init 29 = .ok (.bipush 6, 2) := by decide +kernel
theorem dX5_init_31 : decode cX5_init 31 = .ok (.newarray .int, 2) := by decide +kernel
theorem dX5_init_33 : decode cX5_init 33 = .ok (.putfield 21, 3) := by decide +kernel
theorem dX5_init_36 : decode cX5_init 36 = .ok (.aload_n 0, 1) := by decide +kernel
theorem dX5_init_37 : decode cX5_init 37 = .ok (.bipush 6, 2) := by decide +kernel
theorem dX5_init_39 : decode cX5_init 39 = .ok (.newarray .int, 2) := by decide +kernel
theorem dX5_init_41 : decode cX5_init 41 = .ok (.putfield 24, 3) := by decide +kernel
theorem dX5_init_44 : decode cX5_init 44 = .ok (.aload_n 0, 1) := by decide +kernel
theorem dX5_init_45 : decode cX5_init 45 = .ok (.bipush 6, 2) := by decide +kernel
theorem dX5_init_47 : decode cX5_init 47 = .ok (.newarray .int, 2) := by decide +kernel
theorem dX5_init_49 : decode cX5_init 49 = .ok (.putfield 27, 3) := by decide +kernel
theorem dX5_init_52 : decode cX5_init 52 = .ok (.aload_n 0, 1) := by decide +kernel
theorem dX5_init_53 : decode cX5_init 53 = .ok (.bipush 9, 2) := by decide +kernel
theorem dX5_init_55 : decode cX5_init 55 = .ok (.newarray .int, 2) := by decide +kernel
theorem dX5_init_57 : decode cX5_init 57 = .ok (.putfield 30, 3) := by decide +kernel
theorem dX5_init_60 : decode cX5_init 60 = .ok (.return_, 1) := by decide +kernel
theorem dX5_isTold_0 : decode cX5_isTold 0 = .ok (.aload_n 0, 1) := by decide +kernel
theorem dX5_isTold_1 : decode cX5_isTold 1 = .ok (.getfield 33, 3) := by decide +kernel
theorem dX5_isTold_4 : decode cX5_isTold 4 = .ok (.iconst 3, 1) := by decide +kernel
theorem dX5_isTold_5 : decode cX5_isTold 5 = .ok (.idiv, 1) := by decide +kernel
theorem dX5_isTold_6 : decode cX5_isTold 6 = .ok (.istore_n 2, 1) := by decide +kernel
theorem dX5_isTold_7 : decode cX5_isTold 7 = .ok (.aload_n 0, 1) := by decide +kernel
theorem dX5_isTold_8 : decode cX5_isTold 8 = .ok (.getfield 33, 3) := by decide +kernel
theorem dX5_isTold_11 : decode cX5_isTold 11 = .ok (.iconst 3, 1) := by decide +kernel
theorem dX5_isTold_12 : decode cX5_isTold 12 = .ok (.irem, 1) := by decide +kernel
theorem dX5_isTold_13 : decode cX5_isTold 13 = .ok (.ifCond .ne 14, 3) := by decide +kernel
theorem dX5_isTold_16 : decode cX5_isTold 16 = .ok (.iload_n 2, 1) := by decide +kernel
theorem dX5_isTold_17 : decode cX5_isTold 17 = .ok (.iconst 1, 1) := by decide +kernel
theorem dX5_isTold_18 : decode cX5_isTold 18 = .ok (.if_icmp .lt 9, 3) := by decide +kernel
theorem dX5_isTold_21 : decode cX5_isTold 21 = .ok (.iload_n 2, 1) := by decide +kernel
theorem dX5_isTold_22 : decode cX5_isTold 22 = .ok (.bipush 6, 2) := by decide +kernel
theorem dX5_isTold_24 : decode cX5_isTold 24 = .ok (.if_icmp .le 5, 3) := by decide +kernel
theorem dX5_isTold_27 : decode cX5_isTold 27 = .ok (.iconst 0, 1) := by decide +kernel
theorem dX5_isTold_28 : decode cX5_isTold 28 = .ok (.ireturn, 1) := by decide +kernel
theorem dX5_isTold_29 : decode cX5_isTold 29 = .ok (.iconst 0, 1) := by decide +kernel
theorem dX5_isTold_30 : decode cX5_isTold 30 = .ok (.istore_n 3, 1) := by decide +kernel
theorem dX5_isTold_31 : decode cX5_isTold 31 = .ok (.iload_n 3, 1) := by decide +kernel
theorem dX5_isTold_32 : decode cX5_isTold 32 = .ok (.iconst 3, 1) := by decide +kernel
theorem dX5_isTold_33 : decode cX5_isTold 33 = .ok (.iload_n 2, 1) := by decide +kernel
theorem dX5_isTold_34 : decode cX5_isTold 34 = .ok (.imul, 1) := by decide +kernel
theorem dX5_isTold_35 : decode cX5_isTold 35 = .ok (.if_icmp .ge 40, 3) := by decide +kernel
theorem dX5_isTold_38 : decode cX5_isTold 38 = .ok (.aload_n 1, 1) := by decide +kernel
theorem dX5_isTold_39 : decode cX5_isTold 39 = .ok (.aload_n 0, 1) := by decide +kernel
theorem dX5_isTold_40 : decode cX5_isTold 40 = .ok (.iload_n 3, 1) := by decide +kernel
theorem dX5_isTold_41 : decode cX5_isTold 41 = .ok (.iconst (-1), 1) := by decide +kernel
theorem dX5_isTold_42 : decode cX5_isTold 42 = .ok (.invokevirtual 39, 3) := by decide +kernel
theorem dX5_isTold_45 : decode cX5_isTold 45 = .ok (.aload_n 0, 1) := by decide +kernel
theorem dX5_isTold_46 : decode cX5_isTold 46 = .ok (.iload_n 3, 1) := by decide +kernel
theorem dX5_isTold_47 : decode cX5_isTold 47 = .ok (.iconst 1, 1) := by decide +kernel
theorem dX5_isTold_48 : decode cX5_isTold 48 = .ok (.iadd, 1) := by decide +kernel
theorem dX5_isTold_49 : decode cX5_isTold 49 = .ok (.iconst (-1), 1) := by decide +kernel
theorem dX5_isTold_50 : decode cX5_isTold 50 = .ok (.invokevirtual 39, 3) := by decide +kernel
theorem dX5_isTold_53 : decode cX5_isTold 53 = .ok (.aload_n 0, 1) := by decide +kernel
theorem dX5_isTold_54 : decode cX5_isTold 54 = .ok (.iload_n 3, 1) := by decide +kernel
theorem dX5_isTold_55 : decode cX5_isTold 55 = .ok (.iconst 2, 1) := by decide +kernel
theorem dX5_isTold_56 : decode cX5_isTold 56 = .ok (.iadd, 1) := by decide +kernel
theorem dX5_isTold_57 : decode cX5_isTold 57 = .ok (.iconst (-1), 1) := by decide +kernel
theorem dX5_isTold_58 : decode cX5_isTold 58 = .ok (.invokevirtual 39, 3) := by decide +kernel
theorem dX5_isTold_61 : decode cX5_isTold 61 = .ok (.invokevirtual 43, 3) := by decide +kernel
theorem dX5_isTold_64 : decode cX5_isTold 64 = .ok (.ifCond .ne 5, 3) := by decide +kernel
theorem dX5_isTold_67 : decode cX5_isTold 67 = .ok (.iconst 0, 1) := by decide +kernel
theorem dX5_isTold_68 : decode cX5_isTold 68 = .ok (.ireturn, 1) := by decide +kernel
theorem dX5_isTold_69 : decode cX5_isTold 69 = .ok (.iinc 3 3, 3) := by decide +kernel
theorem dX5_isTold_72 : decode cX5_isTold 72 = .ok (.goto (-41), 3) := by decide +kernel
theorem dX5_isTold_75 : decode cX5_isTold 75 = .ok (.iconst 1, 1) := by decide +kernel
theorem dX5_isTold_76 : decode cX5_isTold 76 = .ok (.ireturn, 1) := by decide +kernel
theorem dX5_take_0 : decode cX5_take 0 = .ok (.aload_n 1, 1) := by decide +kernel
theorem dX5_take_1 : decode cX5_take 1 = .ok (.aload_n 2, 1) := by decide +kernel
theorem dX5_take_2 : decode cX5_take 2 = .ok (.invokestatic 49, 3) := by decide +kernel
theorem dX5_take_5 : decode cX5_take 5 = .ok (.ifCond .ne 5, 3) := by decide +kernel
theorem dX5_take_8 : decode cX5_take 8 = .ok (.iconst 0, 1) := by decide +kernel
theorem dX5_take_9 : decode cX5_take 9 = .ok (.ireturn, 1) := by decide +kernel
theorem dX5_take_10 : decode cX5_take 10 = .ok (.aload_n 0, 1) := by decide +kernel
theorem dX5_take_11 : decode cX5_take 11 = .ok (.aload_n 1, 1) := by decide +kernel
theorem dX5_take_12 : decode cX5_take 12 = .ok (.getfield 33, 3) := by decide +kernel
theorem dX5_take_15 : decode cX5_take 15 = .ok (.iconst 3, 1) := by decide +kernel
theorem dX5_take_16 : decode cX5_take 16 = .ok (.idiv, 1) := by decide +kernel
theorem dX5_take_17 : decode cX5_take 17 = .ok (.bipush 6, 2) := by decide +kernel
theorem dX5_take_19 : decode cX5_take 19 = .ok (.invokestatic 53, 3) := by decide +kernel
theorem dX5_take_22 : decode cX5_take 22 = .ok (.putfield 58, 3) := by decide +kernel
theorem dX5_take_25 : decode cX5_take 25 = .ok (.aload_n 0, 1) := by decide +kernel
theorem dX5_take_26 : decode cX5_take 26 = .ok (.aload_n 2, 1) := by decide +kernel
theorem dX5_take_27 : decode cX5_take 27 = .ok (.getfield 61, 3) := by decide +kernel
theorem dX5_take_30 : decode cX5_take 30 = .ok (.putfield 64, 3) := by decide +kernel
theorem dX5_take_33 : decode cX5_take 33 = .ok (.iconst 0, 1) := by decide +kernel
theorem dX5_take_34 : decode cX5_take 34 = .ok (.istore_n 3, 1) := by decide +kernel
theorem dX5_take_35 : decode cX5_take 35 = .ok (.iload_n 3, 1) := by decide +kernel
theorem dX5_take_36 : decode cX5_take 36 = .ok (.aload_n 0, 1) := by decide +kernel
theorem dX5_take_37 : decode cX5_take 37 = .ok (.getfield 58, 3) := by decide +kernel
theorem dX5_take_40 : decode cX5_take 40 = .ok (.if_icmp .ge 55, 3) := by decide +kernel
theorem dX5_take_43 : decode cX5_take 43 = .ok (.aload_n 0, 1) := by decide +kernel
theorem dX5_take_44 : decode cX5_take 44 = .ok (.getfield 9, 3) := by decide +kernel
theorem dX5_take_47 : decode cX5_take 47 = .ok (.iload_n 3, 1) := by decide +kernel
theorem dX5_take_48 : decode cX5_take 48 = .ok (.aload_n 1, 1) := by decide +kernel
theorem dX5_take_49 : decode cX5_take 49 = .ok (.iconst 3, 1) := by decide +kernel
theorem dX5_take_50 : decode cX5_take 50 = .ok (.iload_n 3, 1) := by decide +kernel
theorem dX5_take_51 : decode cX5_take 51 = .ok (.imul, 1) := by decide +kernel
theorem dX5_take_52 : decode cX5_take 52 = .ok (.iconst 0, 1) := by decide +kernel
theorem dX5_take_53 : decode cX5_take 53 = .ok (.invokevirtual 39, 3) := by decide +kernel
theorem dX5_take_56 : decode cX5_take 56 = .ok (.iastore, 1) := by decide +kernel
theorem dX5_take_57 : decode cX5_take 57 = .ok (.aload_n 0, 1) := by decide +kernel
theorem dX5_take_58 : decode cX5_take 58 = .ok (.getfield 15, 3) := by decide +kernel
theorem dX5_take_61 : decode cX5_take 61 = .ok (.iload_n 3, 1) := by decide +kernel
theorem dX5_take_62 : decode cX5_take 62 = .ok (.aload_n 1, 1) := by decide +kernel
theorem dX5_take_63 : decode cX5_take 63 = .ok (.iconst 3, 1) := by decide +kernel
theorem dX5_take_64 : decode cX5_take 64 = .ok (.iload_n 3, 1) := by decide +kernel
theorem dX5_take_65 : decode cX5_take 65 = .ok (.imul, 1) := by decide +kernel
theorem dX5_take_66 : decode cX5_take 66 = .ok (.iconst 1, 1) := by decide +kernel
theorem dX5_take_67 : decode cX5_take 67 = .ok (.iadd, 1) := by decide +kernel
theorem dX5_take_68 : decode cX5_take 68 = .ok (.iconst 0, 1) := by decide +kernel
theorem dX5_take_69 : decode cX5_take 69 = .ok (.invokevirtual 39, 3) := by decide +kernel
theorem dX5_take_72 : decode cX5_take 72 = .ok (.iastore, 1) := by decide +kernel
theorem dX5_take_73 : decode cX5_take 73 = .ok (.aload_n 0, 1) := by decide +kernel
theorem dX5_take_74 : decode cX5_take 74 = .ok (.getfield 18, 3) := by decide +kernel
theorem dX5_take_77 : decode cX5_take 77 = .ok (.iload_n 3, 1) := by decide +kernel
theorem dX5_take_78 : decode cX5_take 78 = .ok (.aload_n 1, 1) := by decide +kernel
theorem dX5_take_79 : decode cX5_take 79 = .ok (.iconst 3, 1) := by decide +kernel
theorem dX5_take_80 : decode cX5_take 80 = .ok (.iload_n 3, 1) := by decide +kernel
theorem dX5_take_81 : decode cX5_take 81 = .ok (.imul, 1) := by decide +kernel
theorem dX5_take_82 : decode cX5_take 82 = .ok (.iconst 2, 1) := by decide +kernel
theorem dX5_take_83 : decode cX5_take 83 = .ok (.iadd, 1) := by decide +kernel
theorem dX5_take_84 : decode cX5_take 84 = .ok (.iconst 0, 1) := by decide +kernel
theorem dX5_take_85 : decode cX5_take 85 = .ok (.invokevirtual 39, 3) := by decide +kernel
theorem dX5_take_88 : decode cX5_take 88 = .ok (.iastore, 1) := by decide +kernel
theorem dX5_take_89 : decode cX5_take 89 = .ok (.iinc 3 1, 3) := by decide +kernel
theorem dX5_take_92 : decode cX5_take 92 = .ok (.goto (-57), 3) := by decide +kernel
theorem dX5_take_95 : decode cX5_take 95 = .ok (.iconst 1, 1) := by decide +kernel
theorem dX5_take_96 : decode cX5_take 96 = .ok (.ireturn, 1) := by decide +kernel
theorem dX5_isPackedIn_0 : decode cX5_isPackedIn 0 = .ok (.aload_n 0, 1) := by decide +kernel
theorem dX5_isPackedIn_1 : decode cX5_isPackedIn 1 = .ok (.getfield 58, 3) := by decide +kernel
theorem dX5_isPackedIn_4 : decode cX5_isPackedIn 4 = .ok (.ifCond .le 18, 3) := by decide +kernel
theorem dX5_isPackedIn_7 : decode cX5_isPackedIn 7 = .ok (.aload_n 0, 1) := by decide +kernel
theorem dX5_isPackedIn_8 : decode cX5_isPackedIn 8 = .ok (.getfield 64, 3) := by decide +kernel
theorem dX5_isPackedIn_11 : decode cX5_isPackedIn 11 = .ok (.aload_n 1, 1) := by decide +kernel
theorem dX5_isPackedIn_12 : decode cX5_isPackedIn 12 = .ok (.getfield 61, 3) := by decide +kernel
theorem dX5_isPackedIn_15 : decode cX5_isPackedIn 15 = .ok (.if_icmp .ne 7, 3) := by decide +kernel
theorem dX5_isPackedIn_18 : decode cX5_isPackedIn 18 = .ok (.iconst 1, 1) := by decide +kernel
theorem dX5_isPackedIn_19 : decode cX5_isPackedIn 19 = .ok (.goto 4, 3) := by decide +kernel
theorem dX5_isPackedIn_22 : decode cX5_isPackedIn 22 = .ok (.iconst 0, 1) := by decide +kernel
theorem dX5_isPackedIn_23 : decode cX5_isPackedIn 23 = .ok (.ireturn, 1) := by decide +kernel
theorem dX5_keepTold_0 : decode cX5_keepTold 0 = .ok (.aload_n 0, 1) := by decide +kernel
theorem dX5_keepTold_1 : decode cX5_keepTold 1 = .ok (.getfield 24, 3) := by decide +kernel
theorem dX5_keepTold_4 : decode cX5_keepTold 4 = .ok (.iconst 0, 1) := by decide +kernel
theorem dX5_keepTold_5 : decode cX5_keepTold 5 = .ok (.aload_n 0, 1) := by decide +kernel
theorem dX5_keepTold_6 : decode cX5_keepTold 6 = .ok (.getfield 27, 3) := by decide +kernel
theorem dX5_keepTold_9 : decode cX5_keepTold 9 = .ok (.iconst 0, 1) := by decide +kernel
theorem dX5_keepTold_10 : decode cX5_keepTold 10 = .ok (.bipush 6, 2) := by decide +kernel
theorem dX5_keepTold_12 : decode cX5_keepTold 12 = .ok (.invokestatic 65, 3) := by decide +kernel
theorem dX5_keepTold_15 : decode cX5_keepTold 15 = .ok (.return_, 1) := by decide +kernel
theorem dX5_told_0 : decode cX5_told 0 = .ok (.iload_n 1, 1) := by decide +kernel
theorem dX5_told_1 : decode cX5_told 1 = .ok (.ifCond .lt 36, 3) := by decide +kernel
theorem dX5_told_4 : decode cX5_told 4 = .ok (.iload_n 1, 1) := by decide +kernel
theorem dX5_told_5 : decode cX5_told 5 = .ok (.aload_n 0, 1) := by decide +kernel
theorem dX5_told_6 : decode cX5_told 6 = .ok (.getfield 58, 3) := by decide +kernel
theorem dX5_told_9 : decode cX5_told 9 = .ok (.if_icmp .ge 28, 3) := by decide +kernel
theorem dX5_told_12 : decode cX5_told 12 = .ok (.iload_n 1, 1) := by decide +kernel
theorem dX5_told_13 : decode cX5_told 13 = .ok (.bipush 6, 2) := by decide +kernel
theorem dX5_told_15 : decode cX5_told 15 = .ok (.if_icmp .ge 22, 3) := by decide +kernel
theorem dX5_told_18 : decode cX5_told 18 = .ok (.aload_n 0, 1) := by decide +kernel
theorem dX5_told_19 : decode cX5_told 19 = .ok (.getfield 27, 3) := by decide +kernel
theorem dX5_told_22 : decode cX5_told 22 = .ok (.iload_n 1, 1) := by decide +kernel
theorem dX5_told_23 : decode cX5_told 23 = .ok (.iaload, 1) := by decide +kernel
theorem dX5_told_24 : decode cX5_told 24 = .ok (.iconst 4, 1) := by decide +kernel
theorem dX5_told_25 : decode cX5_told 25 = .ok (.if_icmp .eq 12, 3) := by decide +kernel
theorem dX5_told_28 : decode cX5_told 28 = .ok (.aload_n 0, 1) := by decide +kernel
theorem dX5_told_29 : decode cX5_told 29 = .ok (.getfield 27, 3) := by decide +kernel
theorem dX5_told_32 : decode cX5_told 32 = .ok (.iload_n 1, 1) := by decide +kernel
theorem dX5_told_33 : decode cX5_told 33 = .ok (.iaload, 1) := by decide +kernel
theorem dX5_told_34 : decode cX5_told 34 = .ok (.goto 4, 3) := by decide +kernel
theorem dX5_told_37 : decode cX5_told 37 = .ok (.iconst (-1), 1) := by decide +kernel
theorem dX5_told_38 : decode cX5_told 38 = .ok (.ireturn, 1) := by decide +kernel
theorem dX5_search_0 : decode cX5_search 0 = .ok (.aload_n 0, 1) := by decide +kernel
theorem dX5_search_1 : decode cX5_search 1 = .ok (.aload_n 1, 1) := by decide +kernel
theorem dX5_search_2 : decode cX5_search 2 = .ok (.putfield 71, 3) := by decide +kernel
theorem dX5_search_5 : decode cX5_search 5 = .ok (.aload_n 0, 1) := by decide +kernel
theorem dX5_search_6 : decode cX5_search 6 = .ok (.iconst (-1), 1) := by decide +kernel
theorem dX5_search_7 : decode cX5_search 7 = .ok (.putfield 75, 3) := by decide +kernel
theorem dX5_search_10 : decode cX5_search 10 = .ok (.aload_n 0, 1) := by decide +kernel
theorem dX5_search_11 : decode cX5_search 11 = .ok (.getfield 71, 3) := by decide +kernel
theorem dX5_search_14 : decode cX5_search 14 = .ok (.getfield 78, 3) := by decide +kernel
theorem dX5_search_17 : decode cX5_search 17 = .ok (.iconst 0, 1) := by decide +kernel
theorem dX5_search_18 : decode cX5_search 18 = .ok (.aload_n 0, 1) := by decide +kernel
theorem dX5_search_19 : decode cX5_search 19 = .ok (.getfield 30, 3) := by decide +kernel
theorem dX5_search_22 : decode cX5_search 22 = .ok (.iconst 0, 1) := by decide +kernel
theorem dX5_search_23 : decode cX5_search 23 = .ok (.bipush 9, 2) := by decide +kernel
theorem dX5_search_25 : decode cX5_search 25 = .ok (.invokestatic 65, 3) := by decide +kernel
theorem dX5_search_28 : decode cX5_search 28 = .ok (.iload_n 2, 1) := by decide +kernel
theorem dX5_search_29 : decode cX5_search 29 = .ok (.ifCond .lt 19, 3) := by decide +kernel
theorem dX5_search_32 : decode cX5_search 32 = .ok (.iload_n 2, 1) := by decide +kernel
theorem dX5_search_33 : decode cX5_search 33 = .ok (.bipush 9, 2) := by decide +kernel
theorem dX5_search_35 : decode cX5_search 35 = .ok (.if_icmp .ge 13, 3) := by decide +kernel
theorem dX5_search_38 : decode cX5_search 38 = .ok (.aload_n 0, 1) := by decide +kernel
theorem dX5_search_39 : decode cX5_search 39 = .ok (.getfield 30, 3) := by decide +kernel
theorem dX5_search_42 : decode cX5_search 42 = .ok (.iload_n 2, 1) := by decide +kernel
theorem dX5_search_43 : decode cX5_search 43 = .ok (.dup2, 1) := by decide +kernel
theorem dX5_search_44 : decode cX5_search 44 = .ok (.iaload, 1) := by decide +kernel
theorem dX5_search_45 : decode cX5_search 45 = .ok (.iload_n 3, 1) := by decide +kernel
theorem dX5_search_46 : decode cX5_search 46 = .ok (.iadd, 1) := by decide +kernel
theorem dX5_search_47 : decode cX5_search 47 = .ok (.iastore, 1) := by decide +kernel
theorem dX5_search_48 : decode cX5_search 48 = .ok (.aload_n 0, 1) := by decide +kernel
theorem dX5_search_49 : decode cX5_search 49 = .ok (.iconst 0, 1) := by decide +kernel
theorem dX5_search_50 : decode cX5_search 50 = .ok (.iconst 0, 1) := by decide +kernel
theorem dX5_search_51 : decode cX5_search 51 = .ok (.invokevirtual 83, 3) := by decide +kernel
theorem dX5_search_54 : decode cX5_search 54 = .ok (.aload_n 0, 1) := by decide +kernel
theorem dX5_search_55 : decode cX5_search 55 = .ok (.getfield 75, 3) := by decide +kernel
theorem dX5_search_58 : decode cX5_search 58 = .ok (.ireturn, 1) := by decide +kernel
theorem dX5_place_0 : decode cX5_place 0 = .ok (.iload_n 2, 1) := by decide +kernel
theorem dX5_place_1 : decode cX5_place 1 = .ok (.aload_n 0, 1) := by decide +kernel
theorem dX5_place_2 : decode cX5_place 2 = .ok (.getfield 58, 3) := by decide +kernel
theorem dX5_place_5 : decode cX5_place 5 = .ok (.iadd, 1) := by decide +kernel
theorem dX5_place_6 : decode cX5_place 6 = .ok (.iload_n 1, 1) := by decide +kernel
theorem dX5_place_7 : decode cX5_place 7 = .ok (.isub, 1) := by decide +kernel
theorem dX5_place_8 : decode cX5_place 8 = .ok (.aload_n 0, 1) := by decide +kernel
theorem dX5_place_9 : decode cX5_place 9 = .ok (.getfield 75, 3) := by decide +kernel
theorem dX5_place_12 : decode cX5_place 12 = .ok (.if_icmp .gt 4, 3) := by decide +kernel
theorem dX5_place_15 : decode cX5_place 15 = .ok (.return_, 1) := by decide +kernel
theorem dX5_place_16 : decode cX5_place 16 = .ok (.iload_n 1, 1) := by decide +kernel
theorem dX5_place_17 : decode cX5_place 17 = .ok (.aload_n 0, 1) := by decide +kernel
theorem dX5_place_18 : decode cX5_place 18 = .ok (.getfield 58, 3) := by decide +kernel
theorem dX5_place_21 : decode cX5_place 21 = .ok (.if_icmp .ge 9, 3) := by decide +kernel
theorem dX5_place_24 : decode cX5_place 24 = .ok (.iload_n 1, 1) := by decide +kernel
theorem dX5_place_25 : decode cX5_place 25 = .ok (.bipush 6, 2) := by decide +kernel
theorem dX5_place_27 : decode cX5_place 27 = .ok (.if_icmp .lt 24, 3) := by decide +kernel
theorem dX5_place_30 : decode cX5_place 30 = .ok (.aload_n 0, 1) := by decide +kernel
theorem dX5_place_31 : decode cX5_place 31 = .ok (.iload_n 2, 1) := by decide +kernel
theorem dX5_place_32 : decode cX5_place 32 = .ok (.putfield 75, 3) := by decide +kernel
theorem dX5_place_35 : decode cX5_place 35 = .ok (.aload_n 0, 1) := by decide +kernel
theorem dX5_place_36 : decode cX5_place 36 = .ok (.getfield 21, 3) := by decide +kernel
theorem dX5_place_39 : decode cX5_place 39 = .ok (.iconst 0, 1) := by decide +kernel
theorem dX5_place_40 : decode cX5_place 40 = .ok (.aload_n 0, 1) := by decide +kernel
theorem dX5_place_41 : decode cX5_place 41 = .ok (.getfield 24, 3) := by decide +kernel
theorem dX5_place_44 : decode cX5_place 44 = .ok (.iconst 0, 1) := by decide +kernel
theorem dX5_place_45 : decode cX5_place 45 = .ok (.bipush 6, 2) := by decide +kernel
theorem dX5_place_47 : decode cX5_place 47 = .ok (.invokestatic 65, 3) := by decide +kernel
theorem dX5_place_50 : decode cX5_place 50 = .ok (.return_, 1) := by decide +kernel
theorem dX5_place_51 : decode cX5_place 51 = .ok (.aload_n 0, 1) := by decide +kernel
theorem dX5_place_52 : decode cX5_place 52 = .ok (.getfield 9, 3) := by decide +kernel
theorem dX5_place_55 : decode cX5_place 55 = .ok (.iload_n 1, 1) := by decide +kernel
theorem dX5_place_56 : decode cX5_place 56 = .ok (.iaload, 1) := by decide +kernel
theorem dX5_place_57 : decode cX5_place 57 = .ok (.aload_n 0, 1) := by decide +kernel
theorem dX5_place_58 : decode cX5_place 58 = .ok (.getfield 15, 3) := by decide +kernel
theorem dX5_place_61 : decode cX5_place 61 = .ok (.iload_n 1, 1) := by decide +kernel
theorem dX5_place_62 : decode cX5_place 62 = .ok (.iaload, 1) := by decide +kernel
theorem dX5_place_63 : decode cX5_place 63 = .ok (.if_icmp .eq 55, 3) := by decide +kernel
theorem dX5_place_66 : decode cX5_place 66 = .ok (.aload_n 0, 1) := by decide +kernel
theorem dX5_place_67 : decode cX5_place 67 = .ok (.getfield 71, 3) := by decide +kernel
theorem dX5_place_70 : decode cX5_place 70 = .ok (.aload_n 0, 1) := by decide +kernel
theorem dX5_place_71 : decode cX5_place 71 = .ok (.getfield 9, 3) := by decide +kernel
theorem dX5_place_74 : decode cX5_place 74 = .ok (.iload_n 1, 1) := by decide +kernel
theorem dX5_place_75 : decode cX5_place 75 = .ok (.iaload, 1) := by decide +kernel
theorem dX5_place_76 : decode cX5_place 76 = .ok (.invokevirtual 87, 3) := by decide +kernel
theorem dX5_place_79 : decode cX5_place 79 = .ok (.ifCond .eq 39, 3) := by decide +kernel
theorem dX5_place_82 : decode cX5_place 82 = .ok (.aload_n 0, 1) := by decide +kernel
theorem dX5_place_83 : decode cX5_place 83 = .ok (.getfield 71, 3) := by decide +kernel
theorem dX5_place_86 : decode cX5_place 86 = .ok (.aload_n 0, 1) := by decide +kernel
theorem dX5_place_87 : decode cX5_place 87 = .ok (.getfield 15, 3) := by decide +kernel
theorem dX5_place_90 : decode cX5_place 90 = .ok (.iload_n 1, 1) := by decide +kernel
theorem dX5_place_91 : decode cX5_place 91 = .ok (.iaload, 1) := by decide +kernel
theorem dX5_place_92 : decode cX5_place 92 = .ok (.invokevirtual 87, 3) := by decide +kernel
theorem dX5_place_95 : decode cX5_place 95 = .ok (.ifCond .eq 23, 3) := by decide +kernel
theorem dX5_place_98 : decode cX5_place 98 = .ok (.iconst 0, 1) := by decide +kernel
theorem dX5_place_99 : decode cX5_place 99 = .ok (.istore_n 3, 1) := by decide +kernel
theorem dX5_place_100 : decode cX5_place 100 = .ok (.iload_n 3, 1) := by decide +kernel
theorem dX5_place_101 : decode cX5_place 101 = .ok (.iconst 4, 1) := by decide +kernel
theorem dX5_place_102 : decode cX5_place 102 = .ok (.if_icmp .ge 16, 3) := by decide +kernel
theorem dX5_place_105 : decode cX5_place 105 = .ok (.aload_n 0, 1) := by decide +kernel
theorem dX5_place_106 : decode cX5_place 106 = .ok (.iload_n 1, 1) := by decide +kernel
theorem dX5_place_107 : decode cX5_place 107 = .ok (.iload_n 3, 1) := by decide +kernel
theorem dX5_place_108 : decode cX5_place 108 = .ok (.iload_n 2, 1) := by decide +kernel
theorem dX5_place_109 : decode cX5_place 109 = .ok (.invokevirtual 91, 3) := by decide +kernel
theorem dX5_place_112 : decode cX5_place 112 = .ok (.iinc 3 1, 3) := by decide +kernel
theorem dX5_place_115 : decode cX5_place 115 = .ok (.goto (-15), 3) := by decide +kernel
theorem dX5_place_118 : decode cX5_place 118 = .ok (.aload_n 0, 1) := by decide +kernel
theorem dX5_place_119 : decode cX5_place 119 = .ok (.getfield 21, 3) := by decide +kernel
theorem dX5_place_122 : decode cX5_place 122 = .ok (.iload_n 1, 1) := by decide +kernel
theorem dX5_place_123 : decode cX5_place 123 = .ok (.iconst 4, 1) := by decide +kernel
theorem dX5_place_124 : decode cX5_place 124 = .ok (.iastore, 1) := by decide +kernel
theorem dX5_place_125 : decode cX5_place 125 = .ok (.aload_n 0, 1) := by decide +kernel
theorem dX5_place_126 : decode cX5_place 126 = .ok (.iload_n 1, 1) := by decide +kernel
theorem dX5_place_127 : decode cX5_place 127 = .ok (.iconst 1, 1) := by decide +kernel
theorem dX5_place_128 : decode cX5_place 128 = .ok (.iadd, 1) := by decide +kernel
theorem dX5_place_129 : decode cX5_place 129 = .ok (.iload_n 2, 1) := by decide +kernel
theorem dX5_place_130 : decode cX5_place 130 = .ok (.invokevirtual 83, 3) := by decide +kernel
theorem dX5_place_133 : decode cX5_place 133 = .ok (.return_, 1) := by decide +kernel
theorem dX5_placeBy_0 : decode cX5_placeBy 0 = .ok (.iload_n 2, 1) := by decide +kernel
theorem dX5_placeBy_1 : decode cX5_placeBy 1 = .ok (.iconst 1, 1) := by decide +kernel
theorem dX5_placeBy_2 : decode cX5_placeBy 2 = .ok (.iand, 1) := by decide +kernel
theorem dX5_placeBy_3 : decode cX5_placeBy 3 = .ok (.ifCond .ne 12, 3) := by decide +kernel
theorem dX5_placeBy_6 : decode cX5_placeBy 6 = .ok (.aload_n 0, 1) := by decide +kernel
theorem dX5_placeBy_7 : decode cX5_placeBy 7 = .ok (.getfield 9, 3) := by decide +kernel
theorem dX5_placeBy_10 : decode cX5_placeBy 10 = .ok (.iload_n 1, 1) := by decide +kernel
theorem dX5_placeBy_11 : decode cX5_placeBy 11 = .ok (.iaload, 1) := by decide +kernel
theorem dX5_placeBy_12 : decode cX5_placeBy 12 = .ok (.goto 20, 3) := by decide +kernel
theorem dX5_placeBy_15 : decode cX5_placeBy 15 = .ok (.aload_n 0, 1) := by decide +kernel
theorem dX5_placeBy_16 : decode cX5_placeBy 16 = .ok (.getfield 71, 3) := by decide +kernel
theorem dX5_placeBy_19 : decode cX5_placeBy 19 = .ok (.getfield 95, 3) := by decide +kernel
theorem dX5_placeBy_22 : decode cX5_placeBy 22 = .ok (.getfield 99, 3) := by decide +kernel
theorem dX5_placeBy_25 : decode cX5_placeBy 25 = .ok (.aload_n 0, 1) := by decide +kernel
theorem dX5_placeBy_26 : decode cX5_placeBy 26 = .ok (.getfield 9, 3) := by decide +kernel
theorem dX5_placeBy_29 : decode cX5_placeBy 29 = .ok (.iload_n 1, 1) := by decide +kernel
theorem dX5_placeBy_30 : decode cX5_placeBy 30 = .ok (.iaload, 1) := by decide +kernel
theorem dX5_placeBy_31 : decode cX5_placeBy 31 = .ok (.iaload, 1) := by decide +kernel
theorem dX5_placeBy_32 : decode cX5_placeBy 32 = .ok (.istore 4, 2) := by decide +kernel
theorem dX5_placeBy_34 : decode cX5_placeBy 34 = .ok (.iload_n 2, 1) := by decide +kernel
theorem dX5_placeBy_35 : decode cX5_placeBy 35 = .ok (.iconst 2, 1) := by decide +kernel
theorem dX5_placeBy_36 : decode cX5_placeBy 36 = .ok (.iand, 1) := by decide +kernel
theorem dX5_placeBy_37 : decode cX5_placeBy 37 = .ok (.ifCond .ne 12, 3) := by decide +kernel
theorem dX5_placeBy_40 : decode cX5_placeBy 40 = .ok (.aload_n 0, 1) := by decide +kernel
theorem dX5_placeBy_41 : decode cX5_placeBy 41 = .ok (.getfield 15, 3) := by decide +kernel
theorem dX5_placeBy_44 : decode cX5_placeBy 44 = .ok (.iload_n 1, 1) := by decide +kernel
theorem dX5_placeBy_45 : decode cX5_placeBy 45 = .ok (.iaload, 1) := by decide +kernel
theorem dX5_placeBy_46 : decode cX5_placeBy 46 = .ok (.goto 20, 3) := by decide +kernel
theorem dX5_placeBy_49 : decode cX5_placeBy 49 = .ok (.aload_n 0, 1) := by decide +kernel
theorem dX5_placeBy_50 : decode cX5_placeBy 50 = .ok (.getfield 71, 3) := by decide +kernel
theorem dX5_placeBy_53 : decode cX5_placeBy 53 = .ok (.getfield 95, 3) := by decide +kernel
theorem dX5_placeBy_56 : decode cX5_placeBy 56 = .ok (.getfield 99, 3) := by decide +kernel
theorem dX5_placeBy_59 : decode cX5_placeBy 59 = .ok (.aload_n 0, 1) := by decide +kernel
theorem dX5_placeBy_60 : decode cX5_placeBy 60 = .ok (.getfield 15, 3) := by decide +kernel
theorem dX5_placeBy_63 : decode cX5_placeBy 63 = .ok (.iload_n 1, 1) := by decide +kernel
theorem dX5_placeBy_64 : decode cX5_placeBy 64 = .ok (.iaload, 1) := by decide +kernel
theorem dX5_placeBy_65 : decode cX5_placeBy 65 = .ok (.iaload, 1) := by decide +kernel
theorem dX5_placeBy_66 : decode cX5_placeBy 66 = .ok (.istore 5, 2) := by decide +kernel
theorem dX5_placeBy_68 : decode cX5_placeBy 68 = .ok (.iload 4, 2) := by decide +kernel
theorem dX5_placeBy_70 : decode cX5_placeBy 70 = .ok (.iconst (-1), 1) := by decide +kernel
theorem dX5_placeBy_71 : decode cX5_placeBy 71 = .ok (.if_icmp .eq 33, 3) := by decide +kernel
theorem dX5_placeBy_74 : decode cX5_placeBy 74 = .ok (.iload 5, 2) := by decide +kernel
theorem dX5_placeBy_76 : decode cX5_placeBy 76 = .ok (.iconst (-1), 1) := by decide +kernel
theorem dX5_placeBy_77 : decode cX5_placeBy 77 = .ok (.if_icmp .eq 27, 3) := by decide +kernel
theorem dX5_placeBy_80 : decode cX5_placeBy 80 = .ok (.aload_n 0, 1) := by decide +kernel
theorem dX5_placeBy_81 : decode cX5_placeBy 81 = .ok (.getfield 71, 3) := by decide +kernel
theorem dX5_placeBy_84 : decode cX5_placeBy 84 = .ok (.iload 4, 2) := by decide +kernel
theorem dX5_placeBy_86 : decode cX5_placeBy 86 = .ok (.invokevirtual 87, 3) := by decide +kernel
theorem dX5_placeBy_89 : decode cX5_placeBy 89 = .ok (.ifCond .eq 15, 3) := by decide +kernel
theorem dX5_placeBy_92 : decode cX5_placeBy 92 = .ok (.aload_n 0, 1) := by decide +kernel
theorem dX5_placeBy_93 : decode cX5_placeBy 93 = .ok (.getfield 71, 3) := by decide +kernel
theorem dX5_placeBy_96 : decode cX5_placeBy 96 = .ok (.iload 5, 2) := by decide +kernel
theorem dX5_placeBy_98 : decode cX5_placeBy 98 = .ok (.invokevirtual 87, 3) := by decide +kernel
theorem dX5_placeBy_101 : decode cX5_placeBy 101 = .ok (.ifCond .ne 4, 3) := by decide +kernel
theorem dX5_placeBy_104 : decode cX5_placeBy 104 = .ok (.return_, 1) := by decide +kernel
theorem dX5_placeBy_105 : decode cX5_placeBy 105 = .ok (.aload_n 0, 1) := by decide +kernel
theorem dX5_placeBy_106 : decode cX5_placeBy 106 = .ok (.getfield 71, 3) := by decide +kernel
theorem dX5_placeBy_109 : decode cX5_placeBy 109 = .ok (.getfield 95, 3) := by decide +kernel
theorem dX5_placeBy_112 : decode cX5_placeBy 112 = .ok (.getfield 102, 3) := by decide +kernel
theorem dX5_placeBy_115 : decode cX5_placeBy 115 = .ok (.aload_n 0, 1) := by decide +kernel
theorem dX5_placeBy_116 : decode cX5_placeBy 116 = .ok (.getfield 18, 3) := by decide +kernel
theorem dX5_placeBy_119 : decode cX5_placeBy 119 = .ok (.iload_n 1, 1) := by decide +kernel
theorem dX5_placeBy_120 : decode cX5_placeBy 120 = .ok (.iaload, 1) := by decide +kernel
theorem dX5_placeBy_121 : decode cX5_placeBy 121 = .ok (.iaload, 1) := by decide +kernel
theorem dX5_placeBy_122 : decode cX5_placeBy 122 = .ok (.istore 6, 2) := by decide +kernel
theorem dX5_placeBy_124 : decode cX5_placeBy 124 = .ok (.aload_n 0, 1) := by decide +kernel
theorem dX5_placeBy_125 : decode cX5_placeBy 125 = .ok (.getfield 30, 3) := by decide +kernel
theorem dX5_placeBy_128 : decode cX5_placeBy 128 = .ok (.iload 4, 2) := by decide +kernel
theorem dX5_placeBy_130 : decode cX5_placeBy 130 = .ok (.dup2, 1) := by decide +kernel
theorem dX5_placeBy_131 : decode cX5_placeBy 131 = .ok (.iaload, 1) := by decide +kernel
theorem dX5_placeBy_132 : decode cX5_placeBy 132 = .ok (.iload 6, 2) := by decide +kernel
theorem dX5_placeBy_134 : decode cX5_placeBy 134 = .ok (.isub, 1) := by decide +kernel
theorem dX5_placeBy_135 : decode cX5_placeBy 135 = .ok (.iastore, 1) := by decide +kernel
theorem dX5_placeBy_136 : decode cX5_placeBy 136 = .ok (.aload_n 0, 1) := by decide +kernel
theorem dX5_placeBy_137 : decode cX5_placeBy 137 = .ok (.getfield 30, 3) := by decide +kernel
theorem dX5_placeBy_140 : decode cX5_placeBy 140 = .ok (.iload 5, 2) := by decide +kernel
theorem dX5_placeBy_142 : decode cX5_placeBy 142 = .ok (.dup2, 1) := by decide +kernel
theorem dX5_placeBy_143 : decode cX5_placeBy 143 = .ok (.iaload, 1) := by decide +kernel
theorem dX5_placeBy_144 : decode cX5_placeBy 144 = .ok (.iload 6, 2) := by decide +kernel
theorem dX5_placeBy_146 : decode cX5_placeBy 146 = .ok (.isub, 1) := by decide +kernel
theorem dX5_placeBy_147 : decode cX5_placeBy 147 = .ok (.iastore, 1) := by decide +kernel
theorem dX5_placeBy_148 : decode cX5_placeBy 148 = .ok (.aload_n 0, 1) := by decide +kernel
theorem dX5_placeBy_149 : decode cX5_placeBy 149 = .ok (.getfield 30, 3) := by decide +kernel
theorem dX5_placeBy_152 : decode cX5_placeBy 152 = .ok (.iload 4, 2) := by decide +kernel
theorem dX5_placeBy_154 : decode cX5_placeBy 154 = .ok (.iaload, 1) := by decide +kernel
theorem dX5_placeBy_155 : decode cX5_placeBy 155 = .ok (.ifCond .lt 30, 3) := by decide +kernel
theorem dX5_placeBy_158 : decode cX5_placeBy 158 = .ok (.aload_n 0, 1) := by decide +kernel
theorem dX5_placeBy_159 : decode cX5_placeBy 159 = .ok (.getfield 30, 3) := by decide +kernel
theorem dX5_placeBy_162 : decode cX5_placeBy 162 = .ok (.iload 5, 2) := by decide +kernel
theorem dX5_placeBy_164 : decode cX5_placeBy 164 = .ok (.iaload, 1) := by decide +kernel
theorem dX5_placeBy_165 : decode cX5_placeBy 165 = .ok (.ifCond .lt 20, 3) := by decide +kernel
theorem dX5_placeBy_168 : decode cX5_placeBy 168 = .ok (.aload_n 0, 1) := by decide +kernel
theorem dX5_placeBy_169 : decode cX5_placeBy 169 = .ok (.getfield 21, 3) := by decide +kernel
theorem dX5_placeBy_172 : decode cX5_placeBy 172 = .ok (.iload_n 1, 1) := by decide +kernel
theorem dX5_placeBy_173 : decode cX5_placeBy 173 = .ok (.iload_n 2, 1) := by decide +kernel
theorem dX5_placeBy_174 : decode cX5_placeBy 174 = .ok (.iastore, 1) := by decide +kernel
theorem dX5_placeBy_175 : decode cX5_placeBy 175 = .ok (.aload_n 0, 1) := by decide +kernel
theorem dX5_placeBy_176 : decode cX5_placeBy 176 = .ok (.iload_n 1, 1) := by decide +kernel
theorem dX5_placeBy_177 : decode cX5_placeBy 177 = .ok (.iconst 1, 1) := by decide +kernel
theorem dX5_placeBy_178 : decode cX5_placeBy 178 = .ok (.iadd, 1) := by decide +kernel
theorem dX5_placeBy_179 : decode cX5_placeBy 179 = .ok (.iload_n 3, 1) := by decide +kernel
theorem dX5_placeBy_180 : decode cX5_placeBy 180 = .ok (.iconst 1, 1) := by decide +kernel
theorem dX5_placeBy_181 : decode cX5_placeBy 181 = .ok (.iadd, 1) := by decide +kernel
theorem dX5_placeBy_182 : decode cX5_placeBy 182 = .ok (.invokevirtual 83, 3) := by decide +kernel
theorem dX5_placeBy_185 : decode cX5_placeBy 185 = .ok (.aload_n 0, 1) := by decide +kernel
theorem dX5_placeBy_186 : decode cX5_placeBy 186 = .ok (.getfield 30, 3) := by decide +kernel
theorem dX5_placeBy_189 : decode cX5_placeBy 189 = .ok (.iload 4, 2) := by decide +kernel
theorem dX5_placeBy_191 : decode cX5_placeBy 191 = .ok (.dup2, 1) := by decide +kernel
theorem dX5_placeBy_192 : decode cX5_placeBy 192 = .ok (.iaload, 1) := by decide +kernel
theorem dX5_placeBy_193 : decode cX5_placeBy 193 = .ok (.iload 6, 2) := by decide +kernel
theorem dX5_placeBy_195 : decode cX5_placeBy 195 = .ok (.iadd, 1) := by decide +kernel
theorem dX5_placeBy_196 : decode cX5_placeBy 196 = .ok (.iastore, 1) := by decide +kernel
theorem dX5_placeBy_197 : decode cX5_placeBy 197 = .ok (.aload_n 0, 1) := by decide +kernel
theorem dX5_placeBy_198 : decode cX5_placeBy 198 = .ok (.getfield 30, 3) := by decide +kernel
theorem dX5_placeBy_201 : decode cX5_placeBy 201 = .ok (.iload 5, 2) := by decide +kernel
theorem dX5_placeBy_203 : decode cX5_placeBy 203 = .ok (.dup2, 1) := by decide +kernel
theorem dX5_placeBy_204 : decode cX5_placeBy 204 = .ok (.iaload, 1) := by decide +kernel
theorem dX5_placeBy_205 : decode cX5_placeBy 205 = .ok (.iload 6, 2) := by decide +kernel
theorem dX5_placeBy_207 : decode cX5_placeBy 207 = .ok (.iadd, 1) := by decide +kernel
theorem dX5_placeBy_208 : decode cX5_placeBy 208 = .ok (.iastore, 1) := by decide +kernel
theorem dX5_placeBy_209 : decode cX5_placeBy 209 = .ok (.return_, 1) := by decide +kernel
theorem dX6_init_0 : decode cX6_init 0 = .ok (.aload_n 0, 1) := by decide +kernel
theorem dX6_init_1 : decode cX6_init 1 = .ok (.invokespecial 3, 3) := by decide +kernel
theorem dX6_init_4 : decode cX6_init 4 = .ok (.aload_n 0, 1) := by decide +kernel
theorem dX6_init_5 : decode cX6_init 5 = .ok (.bipush 9, 2) := by decide +kernel
theorem dX6_init_7 : decode cX6_init 7 = .ok (.newarray .long, 2) := by decide +kernel
theorem dX6_init_9 : decode cX6_init 9 = .ok (.putfield 9, 3) := by decide +kernel
theorem dX6_init_12 : decode cX6_init 12 = .ok (.aload_n 0, 1) := by decide +kernel
theorem dX6_init_13 : decode cX6_init 13 = .ok (.bipush 9, 2) := by decide +kernel
theorem dX6_init_15 : decode cX6_init 15 = .ok (.newarray .int, 2) := by decide +kernel
theorem dX6_init_17 : decode cX6_init 17 = .ok (.putfield 15, 3) := by decide +kernel
theorem dX6_init_20 : decode cX6_init 20 = .ok (.aload_n 0, 1) := by decide +kernel
theorem dX6_init_21 : decode cX6_init 21 = .ok (.bipush 9, 2) := by decide +kernel
theorem dX6_init_23 : decode cX6_init 23 = .ok (.newarray .int, 2) := by decide +kernel
theorem dX6_init_25 : decode cX6_init 25 = .ok (.putfield 19, 3) := by decide +kernel
theorem dX6_init_28 : decode cX6_init 28 = .ok (.aload_n 0, 1) := by decide +kernel
theorem dX6_init_29 : decode cX6_init 29 = .ok (.bipush 6, 2) := by decide +kernel
theorem dX6_init_31 : decode cX6_init 31 = .ok (.newarray .long, 2) := by decide +kernel
theorem dX6_init_33 : decode cX6_init 33 = .ok (.putfield 22, 3) := by decide +kernel
theorem dX6_init_36 : decode cX6_init 36 = .ok (.aload_n 0, 1) := by decide +kernel
theorem dX6_init_37 : decode cX6_init 37 = .ok (.bipush 6, 2) := by decide +kernel
theorem dX6_init_39 : decode cX6_init 39 = .ok (.newarray .int, 2) := by decide +kernel
theorem dX6_init_41 : decode cX6_init 41 = .ok (.putfield 25, 3) := by decide +kernel
theorem dX6_init_44 : decode cX6_init 44 = .ok (.aload_n 0, 1) := by decide +kernel
theorem dX6_init_45 : decode cX6_init 45 = .ok (.bipush 6, 2) := by decide +kernel
theorem dX6_init_47 : decode cX6_init 47 = .ok (.newarray .int, 2) := by decide +kernel
theorem dX6_init_49 : decode cX6_init 49 = .ok (.putfield 28, 3) := by decide +kernel
theorem dX6_init_52 : decode cX6_init 52 = .ok (.aload_n 0, 1) := by decide +kernel
theorem dX6_init_53 : decode cX6_init 53 = .ok (.iconst 1, 1) := by decide +kernel
theorem dX6_init_54 : decode cX6_init 54 = .ok (.putfield 31, 3) := by decide +kernel
theorem dX6_init_57 : decode cX6_init 57 = .ok (.return_, 1) := by decide +kernel
theorem dX6_forget_0 : decode cX6_forget 0 = .ok (.aload_n 0, 1) := by decide +kernel
theorem dX6_forget_1 : decode cX6_forget 1 = .ok (.iconst 0, 1) := by decide +kernel
theorem dX6_forget_2 : decode cX6_forget 2 = .ok (.putfield 35, 3) := by decide +kernel
theorem dX6_forget_5 : decode cX6_forget 5 = .ok (.aload_n 0, 1) := by decide +kernel
theorem dX6_forget_6 : decode cX6_forget 6 = .ok (.iconst 0, 1) := by decide +kernel
theorem dX6_forget_7 : decode cX6_forget 7 = .ok (.putfield 38, 3) := by decide +kernel
theorem dX6_forget_10 : decode cX6_forget 10 = .ok (.aload_n 0, 1) := by decide +kernel
theorem dX6_forget_11 : decode cX6_forget 11 = .ok (.iconst 1, 1) := by decide +kernel
theorem dX6_forget_12 : decode cX6_forget 12 = .ok (.putfield 31, 3) := by decide +kernel
theorem dX6_forget_15 : decode cX6_forget 15 = .ok (.aload_n 0, 1) := by decide +kernel
theorem dX6_forget_16 : decode cX6_forget 16 = .ok (.iconst 0, 1) := by decide +kernel
theorem dX6_forget_17 : decode cX6_forget 17 = .ok (.putfield 41, 3) := by decide +kernel
theorem dX6_forget_20 : decode cX6_forget 20 = .ok (.aload_n 0, 1) := by decide +kernel
theorem dX6_forget_21 : decode cX6_forget 21 = .ok (.iconst 0, 1) := by decide +kernel
theorem dX6_forget_22 : decode cX6_forget 22 = .ok (.putfield 44, 3) := by decide +kernel
theorem dX6_forget_25 : decode cX6_forget 25 = .ok (.aload_n 0, 1) := by decide +kernel
theorem dX6_forget_26 : decode cX6_forget 26 = .ok (.iconst 0, 1) := by decide +kernel
theorem dX6_forget_27 : decode cX6_forget 27 = .ok (.putfield 47, 3) := by decide +kernel
theorem dX6_forget_30 : decode cX6_forget 30 = .ok (.aload_n 0, 1) := by decide +kernel
theorem dX6_forget_31 : decode cX6_forget 31 = .ok (.iconst 0, 1) := by decide +kernel
theorem dX6_forget_32 : decode cX6_forget 32 = .ok (.putfield 51, 3) := by decide +kernel
theorem dX6_forget_35 : decode cX6_forget 35 = .ok (.return_, 1) := by decide +kernel
theorem dX6_copyFrom_0 : decode cX6_copyFrom 0 = .ok (.aload_n 1, 1) := by decide +kernel
theorem dX6_copyFrom_1 : decode cX6_copyFrom 1 = .ok (.getfield 9, 3) := by decide +kernel
theorem dX6_copyFrom_4 : decode cX6_copyFrom 4 = .ok (.iconst 0, 1) := by decide +kernel
theorem dX6_copyFrom_5 : decode cX6_copyFrom 5 = .ok (.aload_n 0, 1) := by decide +kernel
theorem dX6_copyFrom_6 : decode cX6_copyFrom 6 = .ok (.getfield 9, 3) := by decide +kernel
theorem dX6_copyFrom_9 : decode cX6_copyFrom 9 = .ok (.iconst 0, 1) := by decide +kernel
theorem dX6_copyFrom_10 : decode cX6_copyFrom 10 = .ok (.bipush 9, 2) := by decide +kernel
theorem dX6_copyFrom_12 : decode cX6_copyFrom 12 = .ok (.invokestatic 54, 3) := by decide +kernel
theorem dX6_copyFrom_15 : decode cX6_copyFrom 15 = .ok (.aload_n 1, 1) := by decide +kernel
theorem dX6_copyFrom_16 : decode cX6_copyFrom 16 = .ok (.getfield 15, 3) := by decide +kernel
theorem dX6_copyFrom_19 : decode cX6_copyFrom 19 = .ok (.iconst 0, 1) := by decide +kernel
theorem dX6_copyFrom_20 : decode cX6_copyFrom 20 = .ok (.aload_n 0, 1) := by decide +kernel
theorem dX6_copyFrom_21 : decode cX6_copyFrom 21 = .ok (.getfield 15, 3) := by decide +kernel
theorem dX6_copyFrom_24 : decode cX6_copyFrom 24 = .ok (.iconst 0, 1) := by decide +kernel
theorem dX6_copyFrom_25 : decode cX6_copyFrom 25 = .ok (.bipush 9, 2) := by decide +kernel
theorem dX6_copyFrom_27 : decode cX6_copyFrom 27 = .ok (.invokestatic 54, 3) := by decide +kernel
theorem dX6_copyFrom_30 : decode cX6_copyFrom 30 = .ok (.aload_n 1, 1) := by decide +kernel
theorem dX6_copyFrom_31 : decode cX6_copyFrom 31 = .ok (.getfield 19, 3) := by decide +kernel
theorem dX6_copyFrom_34 : decode cX6_copyFrom 34 = .ok (.iconst 0, 1) := by decide +kernel
theorem dX6_copyFrom_35 : decode cX6_copyFrom 35 = .ok (.aload_n 0, 1) := by decide +kernel
theorem dX6_copyFrom_36 : decode cX6_copyFrom 36 = .ok (.getfield 19, 3) := by decide +kernel
theorem dX6_copyFrom_39 : decode cX6_copyFrom 39 = .ok (.iconst 0, 1) := by decide +kernel
theorem dX6_copyFrom_40 : decode cX6_copyFrom 40 = .ok (.bipush 9, 2) := by decide +kernel
theorem dX6_copyFrom_42 : decode cX6_copyFrom 42 = .ok (.invokestatic 54, 3) := by decide +kernel
theorem dX6_copyFrom_45 : decode cX6_copyFrom 45 = .ok (.aload_n 1, 1) := by decide +kernel
theorem dX6_copyFrom_46 : decode cX6_copyFrom 46 = .ok (.getfield 22, 3) := by decide +kernel
theorem dX6_copyFrom_49 : decode cX6_copyFrom 49 = .ok (.iconst 0, 1) := by decide +kernel
theorem dX6_copyFrom_50 : decode cX6_copyFrom 50 = .ok (.aload_n 0, 1) := by decide +kernel
theorem dX6_copyFrom_51 : decode cX6_copyFrom 51 = .ok (.getfield 22, 3) := by decide +kernel
theorem dX6_copyFrom_54 : decode cX6_copyFrom 54 = .ok (.iconst 0, 1) := by decide +kernel
theorem dX6_copyFrom_55 : decode cX6_copyFrom 55 = .ok (.bipush 6, 2) := by decide +kernel
theorem dX6_copyFrom_57 : decode cX6_copyFrom 57 = .ok (.invokestatic 54, 3) := by decide +kernel
theorem dX6_copyFrom_60 : decode cX6_copyFrom 60 = .ok (.aload_n 1, 1) := by decide +kernel
theorem dX6_copyFrom_61 : decode cX6_copyFrom 61 = .ok (.getfield 25, 3) := by decide +kernel
theorem dX6_copyFrom_64 : decode cX6_copyFrom 64 = .ok (.iconst 0, 1) := by decide +kernel
theorem dX6_copyFrom_65 : decode cX6_copyFrom 65 = .ok (.aload_n 0, 1) := by decide +kernel
theorem dX6_copyFrom_66 : decode cX6_copyFrom 66 = .ok (.getfield 25, 3) := by decide +kernel
theorem dX6_copyFrom_69 : decode cX6_copyFrom 69 = .ok (.iconst 0, 1) := by decide +kernel
theorem dX6_copyFrom_70 : decode cX6_copyFrom 70 = .ok (.bipush 6, 2) := by decide +kernel
theorem dX6_copyFrom_72 : decode cX6_copyFrom 72 = .ok (.invokestatic 54, 3) := by decide +kernel
theorem dX6_copyFrom_75 : decode cX6_copyFrom 75 = .ok (.aload_n 1, 1) := by decide +kernel
theorem dX6_copyFrom_76 : decode cX6_copyFrom 76 = .ok (.getfield 28, 3) := by decide +kernel
theorem dX6_copyFrom_79 : decode cX6_copyFrom 79 = .ok (.iconst 0, 1) := by decide +kernel
theorem dX6_copyFrom_80 : decode cX6_copyFrom 80 = .ok (.aload_n 0, 1) := by decide +kernel
theorem dX6_copyFrom_81 : decode cX6_copyFrom 81 = .ok (.getfield 28, 3) := by decide +kernel
theorem dX6_copyFrom_84 : decode cX6_copyFrom 84 = .ok (.iconst 0, 1) := by decide +kernel
theorem dX6_copyFrom_85 : decode cX6_copyFrom 85 = .ok (.bipush 6, 2) := by decide +kernel
theorem dX6_copyFrom_87 : decode cX6_copyFrom 87 = .ok (.invokestatic 54, 3) := by decide +kernel
theorem dX6_copyFrom_90 : decode cX6_copyFrom 90 = .ok (.aload_n 0, 1) := by decide +kernel
theorem dX6_copyFrom_91 : decode cX6_copyFrom 91 = .ok (.aload_n 1, 1) := by decide +kernel
theorem dX6_copyFrom_92 : decode cX6_copyFrom 92 = .ok (.getfield 35, 3) := by decide +kernel
theorem dX6_copyFrom_95 : decode cX6_copyFrom 95 = .ok (.putfield 35, 3) := by decide +kernel
theorem dX6_copyFrom_98 : decode cX6_copyFrom 98 = .ok (.aload_n 0, 1) := by decide +kernel
theorem dX6_copyFrom_99 : decode cX6_copyFrom 99 = .ok (.aload_n 1, 1) := by decide +kernel
theorem dX6_copyFrom_100 : decode cX6_copyFrom 100 = .ok (.getfield 38, 3) := by decide +kernel
theorem dX6_copyFrom_103 : decode cX6_copyFrom 103 = .ok (.putfield 38, 3) := by decide +kernel
theorem dX6_copyFrom_106 : decode cX6_copyFrom 106 = .ok (.aload_n 0, 1) := by decide +kernel
theorem dX6_copyFrom_107 : decode cX6_copyFrom 107 = .ok (.aload_n 1, 1) := by decide +kernel
theorem dX6_copyFrom_108 : decode cX6_copyFrom 108 = .ok (.getfield 31, 3) := by decide +kernel
theorem dX6_copyFrom_111 : decode cX6_copyFrom 111 = .ok (.putfield 31, 3) := by decide +kernel
theorem dX6_copyFrom_114 : decode cX6_copyFrom 114 = .ok (.aload_n 0, 1) := by decide +kernel
theorem dX6_copyFrom_115 : decode cX6_copyFrom 115 = .ok (.aload_n 1, 1) := by decide +kernel
theorem dX6_copyFrom_116 : decode cX6_copyFrom 116 = .ok (.getfield 41, 3) := by decide +kernel
theorem dX6_copyFrom_119 : decode cX6_copyFrom 119 = .ok (.putfield 41, 3) := by decide +kernel
theorem dX6_copyFrom_122 : decode cX6_copyFrom 122 = .ok (.aload_n 0, 1) := by decide +kernel
theorem dX6_copyFrom_123 : decode cX6_copyFrom 123 = .ok (.aload_n 1, 1) := by decide +kernel
theorem dX6_copyFrom_124 : decode cX6_copyFrom 124 = .ok (.getfield 44, 3) := by decide +kernel
theorem dX6_copyFrom_127 : decode cX6_copyFrom 127 = .ok (.putfield 44, 3) := by decide +kernel
theorem dX6_copyFrom_130 : decode cX6_copyFrom 130 = .ok (.aload_n 0, 1) := by decide +kernel
theorem dX6_copyFrom_131 : decode cX6_copyFrom 131 = .ok (.aload_n 1, 1) := by decide +kernel
theorem dX6_copyFrom_132 : decode cX6_copyFrom 132 = .ok (.getfield 60, 3) := by decide +kernel
theorem dX6_copyFrom_135 : decode cX6_copyFrom 135 = .ok (.putfield 60, 3) := by decide +kernel
theorem dX6_copyFrom_138 : decode cX6_copyFrom 138 = .ok (.return_, 1) := by decide +kernel
theorem dX6_hasBody_0 : decode cX6_hasBody 0 = .ok (.iload_n 1, 1) := by decide +kernel
theorem dX6_hasBody_1 : decode cX6_hasBody 1 = .ok (.ifCond .lt 21, 3) := by decide +kernel
theorem dX6_hasBody_4 : decode cX6_hasBody 4 = .ok (.iload_n 1, 1) := by decide +kernel
theorem dX6_hasBody_5 : decode cX6_hasBody 5 = .ok (.aload_n 0, 1) := by decide +kernel
theorem dX6_hasBody_6 : decode cX6_hasBody 6 = .ok (.getfield 35, 3) := by decide +kernel
theorem dX6_hasBody_9 : decode cX6_hasBody 9 = .ok (.if_icmp .ge 13, 3) := by decide +kernel
theorem dX6_hasBody_12 : decode cX6_hasBody 12 = .ok (.iload_n 1, 1) := by decide +kernel
theorem dX6_hasBody_13 : decode cX6_hasBody 13 = .ok (.bipush 9, 2) := by decide +kernel
theorem dX6_hasBody_15 : decode cX6_hasBody 15 = .ok (.if_icmp .ge 7, 3) := by decide +kernel
theorem dX6_hasBody_18 : decode cX6_hasBody 18 = .ok (.iconst 1, 1) := by decide +kernel
theorem dX6_hasBody_19 : decode cX6_hasBody 19 = .ok (.goto 4, 3) := by decide +kernel
theorem dX6_hasBody_22 : decode cX6_hasBody 22 = .ok (.iconst 0, 1) := by decide +kernel
theorem dX6_hasBody_23 : decode cX6_hasBody 23 = .ok (.ireturn, 1) := by decide +kernel
theorem dX6_hasKind_0 : decode cX6_hasKind 0 = .ok (.iload_n 1, 1) := by decide +kernel
theorem dX6_hasKind_1 : decode cX6_hasKind 1 = .ok (.ifCond .lt 21, 3) := by decide +kernel
theorem dX6_hasKind_4 : decode cX6_hasKind 4 = .ok (.iload_n 1, 1) := by decide +kernel
theorem dX6_hasKind_5 : decode cX6_hasKind 5 = .ok (.aload_n 0, 1) := by decide +kernel
theorem dX6_hasKind_6 : decode cX6_hasKind 6 = .ok (.getfield 38, 3) := by decide +kernel
theorem dX6_hasKind_9 : decode cX6_hasKind 9 = .ok (.if_icmp .ge 13, 3) := by decide +kernel
theorem dX6_hasKind_12 : decode cX6_hasKind 12 = .ok (.iload_n 1, 1) := by decide +kernel
theorem dX6_hasKind_13 : decode cX6_hasKind 13 = .ok (.bipush 6, 2) := by decide +kernel
theorem dX6_hasKind_15 : decode cX6_hasKind 15 = .ok (.if_icmp .ge 7, 3) := by decide +kernel
theorem dX6_hasKind_18 : decode cX6_hasKind 18 = .ok (.iconst 1, 1) := by decide +kernel
theorem dX6_hasKind_19 : decode cX6_hasKind 19 = .ok (.goto 4, 3) := by decide +kernel
theorem dX6_hasKind_22 : decode cX6_hasKind 22 = .ok (.iconst 0, 1) := by decide +kernel
theorem dX6_hasKind_23 : decode cX6_hasKind 23 = .ok (.ireturn, 1) := by decide +kernel
theorem dX6_hasDealers_0 : decode cX6_hasDealers 0 = .ok (.aload_n 0, 1) := by decide +kernel
theorem dX6_hasDealers_1 : decode cX6_hasDealers 1 = .ok (.iload_n 1, 1) := by decide +kernel
theorem dX6_hasDealers_2 : decode cX6_hasDealers 2 = .ok (.invokevirtual 63, 3) := by decide +kernel
theorem dX6_hasDealers_5 : decode cX6_hasDealers 5 = .ok (.ifCond .eq 23, 3) := by decide +kernel
theorem dX6_hasDealers_8 : decode cX6_hasDealers 8 = .ok (.aload_n 0, 1) := by decide +kernel
theorem dX6_hasDealers_9 : decode cX6_hasDealers 9 = .ok (.iload_n 2, 1) := by decide +kernel
theorem dX6_hasDealers_10 : decode cX6_hasDealers 10 = .ok (.invokevirtual 63, 3) := by decide +kernel
theorem dX6_hasDealers_13 : decode cX6_hasDealers 13 = .ok (.ifCond .eq 15, 3) := by decide +kernel
theorem dX6_hasDealers_16 : decode cX6_hasDealers 16 = .ok (.aload_n 0, 1) := by decide +kernel
theorem dX6_hasDealers_17 : decode cX6_hasDealers 17 = .ok (.iload_n 3, 1) := by decide +kernel
theorem dX6_hasDealers_18 : decode cX6_hasDealers 18 = .ok (.invokevirtual 67, 3) := by decide +kernel
theorem dX6_hasDealers_21 : decode cX6_hasDealers 21 = .ok (.ifCond .eq 7, 3) := by decide +kernel
theorem dX6_hasDealers_24 : decode cX6_hasDealers 24 = .ok (.iconst 1, 1) := by decide +kernel
theorem dX6_hasDealers_25 : decode cX6_hasDealers 25 = .ok (.goto 4, 3) := by decide +kernel
theorem dX6_hasDealers_28 : decode cX6_hasDealers 28 = .ok (.iconst 0, 1) := by decide +kernel
theorem dX6_hasDealers_29 : decode cX6_hasDealers 29 = .ok (.ireturn, 1) := by decide +kernel
theorem dX6_bodyNamed_0 : decode cX6_bodyNamed 0 = .ok (.iconst 0, 1) := by decide +kernel
theorem dX6_bodyNamed_1 : decode cX6_bodyNamed 1 = .ok (.istore_n 3, 1) := by decide +kernel
theorem dX6_bodyNamed_2 : decode cX6_bodyNamed 2 = .ok (.iload_n 3, 1) := by decide +kernel
theorem dX6_bodyNamed_3 : decode cX6_bodyNamed 3 = .ok (.aload_n 0, 1) := by decide +kernel
theorem dX6_bodyNamed_4 : decode cX6_bodyNamed 4 = .ok (.getfield 35, 3) := by decide +kernel
theorem dX6_bodyNamed_7 : decode cX6_bodyNamed 7 = .ok (.if_icmp .ge 22, 3) := by decide +kernel
theorem dX6_bodyNamed_10 : decode cX6_bodyNamed 10 = .ok (.aload_n 0, 1) := by decide +kernel
theorem dX6_bodyNamed_11 : decode cX6_bodyNamed 11 = .ok (.getfield 9, 3) := by decide +kernel
theorem dX6_bodyNamed_14 : decode cX6_bodyNamed 14 = .ok (.iload_n 3, 1) := by decide +kernel
theorem dX6_bodyNamed_15 : decode cX6_bodyNamed 15 = .ok (.laload, 1) := by decide +kernel
theorem dX6_bodyNamed_16 : decode cX6_bodyNamed 16 = .ok (.lload_n 1, 1) := by decide +kernel
theorem dX6_bodyNamed_17 : decode cX6_bodyNamed 17 = .ok (.lcmp, 1) := by decide +kernel
theorem dX6_bodyNamed_18 : decode cX6_bodyNamed 18 = .ok (.ifCond .ne 5, 3) := by decide +kernel
theorem dX6_bodyNamed_21 : decode cX6_bodyNamed 21 = .ok (.iload_n 3, 1) := by decide +kernel
theorem dX6_bodyNamed_22 : decode cX6_bodyNamed 22 = .ok (.ireturn, 1) := by decide +kernel
theorem dX6_bodyNamed_23 : decode cX6_bodyNamed 23 = .ok (.iinc 3 1, 3) := by decide +kernel
theorem dX6_bodyNamed_26 : decode cX6_bodyNamed 26 = .ok (.goto (-24), 3) := by decide +kernel
theorem dX6_bodyNamed_29 : decode cX6_bodyNamed 29 = .ok (.iconst (-1), 1) := by decide +kernel
theorem dX6_bodyNamed_30 : decode cX6_bodyNamed 30 = .ok (.ireturn, 1) := by decide +kernel
theorem dX6_kindNamed_0 : decode cX6_kindNamed 0 = .ok (.iconst 0, 1) := by decide +kernel
theorem dX6_kindNamed_1 : decode cX6_kindNamed 1 = .ok (.istore_n 3, 1) := by decide +kernel
theorem dX6_kindNamed_2 : decode cX6_kindNamed 2 = .ok (.iload_n 3, 1) := by decide +kernel
theorem dX6_kindNamed_3 : decode cX6_kindNamed 3 = .ok (.aload_n 0, 1) := by decide +kernel
theorem dX6_kindNamed_4 : decode cX6_kindNamed 4 = .ok (.getfield 38, 3) := by decide +kernel
theorem dX6_kindNamed_7 : decode cX6_kindNamed 7 = .ok (.if_icmp .ge 22, 3) := by decide +kernel
theorem dX6_kindNamed_10 : decode cX6_kindNamed 10 = .ok (.aload_n 0, 1) := by decide +kernel
theorem dX6_kindNamed_11 : decode cX6_kindNamed 11 = .ok (.getfield 22, 3) := by decide +kernel
theorem dX6_kindNamed_14 : decode cX6_kindNamed 14 = .ok (.iload_n 3, 1) := by decide +kernel
theorem dX6_kindNamed_15 : decode cX6_kindNamed 15 = .ok (.laload, 1) := by decide +kernel
theorem dX6_kindNamed_16 : decode cX6_kindNamed 16 = .ok (.lload_n 1, 1) := by decide +kernel
theorem dX6_kindNamed_17 : decode cX6_kindNamed 17 = .ok (.lcmp, 1) := by decide +kernel
theorem dX6_kindNamed_18 : decode cX6_kindNamed 18 = .ok (.ifCond .ne 5, 3) := by decide +kernel
theorem dX6_kindNamed_21 : decode cX6_kindNamed 21 = .ok (.iload_n 3, 1) := by decide +kernel
theorem dX6_kindNamed_22 : decode cX6_kindNamed 22 = .ok (.ireturn, 1) := by decide +kernel
theorem dX6_kindNamed_23 : decode cX6_kindNamed 23 = .ok (.iinc 3 1, 3) := by decide +kernel
theorem dX6_kindNamed_26 : decode cX6_kindNamed 26 = .ok (.goto (-24), 3) := by decide +kernel
theorem dX6_kindNamed_29 : decode cX6_kindNamed 29 = .ok (.iconst (-1), 1) := by decide +kernel
theorem dX6_kindNamed_30 : decode cX6_kindNamed 30 = .ok (.ireturn, 1) := by decide +kernel
theorem dX6_valueOf_0 : decode cX6_valueOf 0 = .ok (.aload_n 0, 1) := by decide +kernel
theorem dX6_valueOf_1 : decode cX6_valueOf 1 = .ok (.getfield 28, 3) := by decide +kernel
theorem dX6_valueOf_4 : decode cX6_valueOf 4 = .ok (.iload_n 1, 1) := by decide +kernel
theorem dX6_valueOf_5 : decode cX6_valueOf 5 = .ok (.iaload, 1) := by decide +kernel
theorem dX6_valueOf_6 : decode cX6_valueOf 6 = .ok (.tableswitch 36 1 3 #[26, 30, 34], 26) := by decide +kernel
theorem dX6_valueOf_32 : decode cX6_valueOf 32 = .ok (.iconst 2, 1) := by decide +kernel
theorem dX6_valueOf_33 : decode cX6_valueOf 33 = .ok (.iload_n 2, 1) := by decide +kernel
theorem dX6_valueOf_34 : decode cX6_valueOf 34 = .ok (.imul, 1) := by decide +kernel
theorem dX6_valueOf_35 : decode cX6_valueOf 35 = .ok (.ireturn, 1) := by decide +kernel
theorem dX6_valueOf_36 : decode cX6_valueOf 36 = .ok (.iload_n 2, 1) := by decide +kernel
theorem dX6_valueOf_37 : decode cX6_valueOf 37 = .ok (.iconst 2, 1) := by decide +kernel
theorem dX6_valueOf_38 : decode cX6_valueOf 38 = .ok (.idiv, 1) := by decide +kernel
theorem dX6_valueOf_39 : decode cX6_valueOf 39 = .ok (.ireturn, 1) := by decide +kernel
theorem dX6_valueOf_40 : decode cX6_valueOf 40 = .ok (.iconst 0, 1) := by decide +kernel
theorem dX6_valueOf_41 : decode cX6_valueOf 41 = .ok (.ireturn, 1) := by decide +kernel
theorem dX6_valueOf_42 : decode cX6_valueOf 42 = .ok (.iload_n 2, 1) := by decide +kernel
theorem dX6_valueOf_43 : decode cX6_valueOf 43 = .ok (.ireturn, 1) := by decide +kernel
theorem dX6_dotOn_0 : decode cX6_dotOn 0 = .ok (.aload_n 0, 1) := by decide +kernel
theorem dX6_dotOn_1 : decode cX6_dotOn 1 = .ok (.getfield 41, 3) := by decide +kernel
theorem dX6_dotOn_4 : decode cX6_dotOn 4 = .ok (.aload_n 0, 1) := by decide +kernel
theorem dX6_dotOn_5 : decode cX6_dotOn 5 = .ok (.getfield 25, 3) := by decide +kernel
theorem dX6_dotOn_8 : decode cX6_dotOn 8 = .ok (.iload_n 1, 1) := by decide +kernel
theorem dX6_dotOn_9 : decode cX6_dotOn 9 = .ok (.iaload, 1) := by decide +kernel
theorem dX6_dotOn_10 : decode cX6_dotOn 10 = .ok (.invokestatic 70, 3) := by decide +kernel
theorem dX6_dotOn_13 : decode cX6_dotOn 13 = .ok (.ireturn, 1) := by decide +kernel
theorem dX6_isForRings_0 : decode cX6_isForRings 0 = .ok (.aload_n 0, 1) := by decide +kernel
theorem dX6_isForRings_1 : decode cX6_isForRings 1 = .ok (.getfield 28, 3) := by decide +kernel
theorem dX6_isForRings_4 : decode cX6_isForRings 4 = .ok (.iload_n 1, 1) := by decide +kernel
theorem dX6_isForRings_5 : decode cX6_isForRings 5 = .ok (.iaload, 1) := by decide +kernel
theorem dX6_isForRings_6 : decode cX6_isForRings 6 = .ok (.ifCond .eq 13, 3) := by decide +kernel
theorem dX6_isForRings_9 : decode cX6_isForRings 9 = .ok (.aload_n 0, 1) := by decide +kernel
theorem dX6_isForRings_10 : decode cX6_isForRings 10 = .ok (.getfield 28, 3) := by decide +kernel
theorem dX6_isForRings_13 : decode cX6_isForRings 13 = .ok (.iload_n 1, 1) := by decide +kernel
theorem dX6_isForRings_14 : decode cX6_isForRings 14 = .ok (.iaload, 1) := by decide +kernel
theorem dX6_isForRings_15 : decode cX6_isForRings 15 = .ok (.iconst 4, 1) := by decide +kernel
theorem dX6_isForRings_16 : decode cX6_isForRings 16 = .ok (.if_icmp .ne 7, 3) := by decide +kernel
theorem dX6_isForRings_19 : decode cX6_isForRings 19 = .ok (.iconst 1, 1) := by decide +kernel
theorem dX6_isForRings_20 : decode cX6_isForRings 20 = .ok (.goto 4, 3) := by decide +kernel
theorem dX6_isForRings_23 : decode cX6_isForRings 23 = .ok (.iconst 0, 1) := by decide +kernel
theorem dX6_isForRings_24 : decode cX6_isForRings 24 = .ok (.ireturn, 1) := by decide +kernel
theorem dX6_readFrom_0 : decode cX6_readFrom 0 = .ok (.aload_n 0, 1) := by decide +kernel
theorem dX6_readFrom_1 : decode cX6_readFrom 1 = .ok (.invokevirtual 76, 3) := by decide +kernel
theorem dX6_readFrom_4 : decode cX6_readFrom 4 = .ok (.aload_n 1, 1) := by decide +kernel
theorem dX6_readFrom_5 : decode cX6_readFrom 5 = .ok (.invokevirtual 79, 3) := by decide +kernel
theorem dX6_readFrom_8 : decode cX6_readFrom 8 = .ok (.iconst 0, 1) := by decide +kernel
theorem dX6_readFrom_9 : decode cX6_readFrom 9 = .ok (.istore_n 2, 1) := by decide +kernel
theorem dX6_readFrom_10 : decode cX6_readFrom 10 = .ok (.iload_n 2, 1) := by decide +kernel
theorem dX6_readFrom_11 : decode cX6_readFrom 11 = .ok (.sipush 600, 3) := by decide +kernel
theorem dX6_readFrom_14 : decode cX6_readFrom 14 = .ok (.if_icmp .gt 45, 3) := by decide +kernel
theorem dX6_readFrom_17 : decode cX6_readFrom 17 = .ok (.aload_n 1, 1) := by decide +kernel
theorem dX6_readFrom_18 : decode cX6_readFrom 18 = .ok (.invokevirtual 84, 3) := by decide +kernel
theorem dX6_readFrom_21 : decode cX6_readFrom 21 = .ok (.aload_n 1, 1) := by decide +kernel
theorem dX6_readFrom_22 : decode cX6_readFrom 22 = .ok (.invokevirtual 87, 3) := by decide +kernel
theorem dX6_readFrom_25 : decode cX6_readFrom 25 = .ok (.ifCond .eq 8, 3) := by decide +kernel
theorem dX6_readFrom_28 : decode cX6_readFrom 28 = .ok (.aload_n 1, 1) := by decide +kernel
theorem dX6_readFrom_29 : decode cX6_readFrom 29 = .ok (.invokevirtual 91, 3) := by decide +kernel
theorem dX6_readFrom_32 : decode cX6_readFrom 32 = .ok (.ireturn, 1) := by decide +kernel
theorem dX6_readFrom_33 : decode cX6_readFrom 33 = .ok (.aload_n 0, 1) := by decide +kernel
theorem dX6_readFrom_34 : decode cX6_readFrom 34 = .ok (.aload_n 1, 1) := by decide +kernel
theorem dX6_readFrom_35 : decode cX6_readFrom 35 = .ok (.invokevirtual 94, 3) := by decide +kernel
theorem dX6_readFrom_38 : decode cX6_readFrom 38 = .ok (.ifCond .ne 5, 3) := by decide +kernel
theorem dX6_readFrom_41 : decode cX6_readFrom 41 = .ok (.iconst 0, 1) := by decide +kernel
theorem dX6_readFrom_42 : decode cX6_readFrom 42 = .ok (.ireturn, 1) := by decide +kernel
theorem dX6_readFrom_43 : decode cX6_readFrom 43 = .ok (.aload_n 0, 1) := by decide +kernel
theorem dX6_readFrom_44 : decode cX6_readFrom 44 = .ok (.dup, 1) := by decide +kernel
theorem dX6_readFrom_45 : decode cX6_readFrom 45 = .ok (.getfield 44, 3) := by decide +kernel
theorem dX6_readFrom_48 : decode cX6_readFrom 48 = .ok (.iconst 1, 1) := by decide +kernel
theorem dX6_readFrom_49 : decode cX6_readFrom 49 = .ok (.iadd, 1) := by decide +kernel
theorem dX6_readFrom_50 : decode cX6_readFrom 50 = .ok (.putfield 44, 3) := by decide +kernel
theorem dX6_readFrom_53 : decode cX6_readFrom 53 = .ok (.iinc 2 1, 3) := by decide +kernel
theorem dX6_readFrom_56 : decode cX6_readFrom 56 = .ok (.goto (-46), 3) := by decide +kernel
theorem dX6_readFrom_59 : decode cX6_readFrom 59 = .ok (.iconst 0, 1) := by decide +kernel
theorem dX6_readFrom_60 : decode cX6_readFrom 60 = .ok (.ireturn, 1) := by decide +kernel
theorem dX6_readLine_0 : decode cX6_readLine 0 = .ok (.aload_n 1, 1) := by decide +kernel
theorem dX6_readLine_1 : decode cX6_readLine 1 = .ok (.ldc2_w 98, 3) := by decide +kernel
theorem dX6_readLine_4 : decode cX6_readLine 4 = .ok (.invokevirtual 100, 3) := by decide +kernel
theorem dX6_readLine_7 : decode cX6_readLine 7 = .ok (.ifCond .eq 9, 3) := by decide +kernel
theorem dX6_readLine_10 : decode cX6_readLine 10 = .ok (.aload_n 0, 1) := by decide +kernel
theorem dX6_readLine_11 : decode cX6_readLine 11 = .ok (.aload_n 1, 1) := by decide +kernel
theorem dX6_readLine_12 : decode cX6_readLine 12 = .ok (.invokevirtual 104, 3) := by decide +kernel
theorem dX6_readLine_15 : decode cX6_readLine 15 = .ok (.ireturn, 1) := by decide +kernel
theorem dX6_readLine_16 : decode cX6_readLine 16 = .ok (.aload_n 1, 1) := by decide +kernel
theorem dX6_readLine_17 : decode cX6_readLine 17 = .ok (.ldc2_w 107, 3) := by decide +kernel
theorem dX6_readLine_20 : decode cX6_readLine 20 = .ok (.invokevirtual 100, 3) := by decide +kernel
theorem dX6_readLine_23 : decode cX6_readLine 23 = .ok (.ifCond .eq 9, 3) := by decide +kernel
theorem dX6_readLine_26 : decode cX6_readLine 26 = .ok (.aload_n 0, 1) := by decide +kernel
theorem dX6_readLine_27 : decode cX6_readLine 27 = .ok (.aload_n 1, 1) := by decide +kernel
theorem dX6_readLine_28 : decode cX6_readLine 28 = .ok (.invokevirtual 109, 3) := by decide +kernel
theorem dX6_readLine_31 : decode cX6_readLine 31 = .ok (.ireturn, 1) := by decide +kernel
theorem dX6_readLine_32 : decode cX6_readLine 32 = .ok (.aload_n 1, 1) := by decide +kernel
theorem dX6_readLine_33 : decode cX6_readLine 33 = .ok (.ldc2_w 112, 3) := by decide +kernel
theorem dX6_readLine_36 : decode cX6_readLine 36 = .ok (.invokevirtual 100, 3) := by decide +kernel
theorem dX6_readLine_39 : decode cX6_readLine 39 = .ok (.ifCond .eq 9, 3) := by decide +kernel
theorem dX6_readLine_42 : decode cX6_readLine 42 = .ok (.aload_n 0, 1) := by decide +kernel
theorem dX6_readLine_43 : decode cX6_readLine 43 = .ok (.aload_n 1, 1) := by decide +kernel
theorem dX6_readLine_44 : decode cX6_readLine 44 = .ok (.invokevirtual 114, 3) := by decide +kernel
theorem dX6_readLine_47 : decode cX6_readLine 47 = .ok (.ireturn, 1) := by decide +kernel
theorem dX6_readLine_48 : decode cX6_readLine 48 = .ok (.aload_n 1, 1) := by decide +kernel
theorem dX6_readLine_49 : decode cX6_readLine 49 = .ok (.ldc2_w 117, 3) := by decide +kernel
theorem dX6_readLine_52 : decode cX6_readLine 52 = .ok (.invokevirtual 100, 3) := by decide +kernel
theorem dX6_readLine_55 : decode cX6_readLine 55 = .ok (.ifCond .eq 11, 3) := by decide +kernel
theorem dX6_readLine_58 : decode cX6_readLine 58 = .ok (.aload_n 0, 1) := by decide +kernel
theorem dX6_readLine_59 : decode cX6_readLine 59 = .ok (.aload_n 1, 1) := by decide +kernel
theorem dX6_readLine_60 : decode cX6_readLine 60 = .ok (.invokevirtual 119, 3) := by decide +kernel
theorem dX6_readLine_63 : decode cX6_readLine 63 = .ok (.goto 8, 3) := by decide +kernel
theorem dX6_readLine_66 : decode cX6_readLine 66 = .ok (.aload_n 1, 1) := by decide +kernel
theorem dX6_readLine_67 : decode cX6_readLine 67 = .ok (.iconst 1, 1) := by decide +kernel
theorem dX6_readLine_68 : decode cX6_readLine 68 = .ok (.invokevirtual 122, 3) := by decide +kernel
theorem dX6_readLine_71 : decode cX6_readLine 71 = .ok (.ireturn, 1) := by decide +kernel
theorem dX6_readBody_0 : decode cX6_readBody 0 = .ok (.aload_n 0, 1) := by decide +kernel
theorem dX6_readBody_1 : decode cX6_readBody 1 = .ok (.getfield 35, 3) := by decide +kernel
theorem dX6_readBody_4 : decode cX6_readBody 4 = .ok (.bipush 9, 2) := by decide +kernel
theorem dX6_readBody_6 : decode cX6_readBody 6 = .ok (.if_icmp .lt 9, 3) := by decide +kernel
theorem dX6_readBody_9 : decode cX6_readBody 9 = .ok (.aload_n 1, 1) := by decide +kernel
theorem dX6_readBody_10 : decode cX6_readBody 10 = .ok (.iconst 4, 1) := by decide +kernel
theorem dX6_readBody_11 : decode cX6_readBody 11 = .ok (.invokevirtual 122, 3) := by decide +kernel
theorem dX6_readBody_14 : decode cX6_readBody 14 = .ok (.ireturn, 1) := by decide +kernel
theorem dX6_readBody_15 : decode cX6_readBody 15 = .ok (.aload_n 1, 1) := by decide +kernel
theorem dX6_readBody_16 : decode cX6_readBody 16 = .ok (.aload_n 0, 1) := by decide +kernel
theorem dX6_readBody_17 : decode cX6_readBody 17 = .ok (.invokevirtual 125, 3) := by decide +kernel
theorem dX6_readBody_20 : decode cX6_readBody 20 = .ok (.ifCond .ne 5, 3) := by decide +kernel
theorem dX6_readBody_23 : decode cX6_readBody 23 = .ok (.iconst 0, 1) := by decide +kernel
theorem dX6_readBody_24 : decode cX6_readBody 24 = .ok (.ireturn, 1) := by decide +kernel
theorem dX6_readBody_25 : decode cX6_readBody 25 = .ok (.aload_n 0, 1) := by decide +kernel
theorem dX6_readBody_26 : decode cX6_readBody 26 = .ok (.getfield 9, 3) := by decide +kernel
theorem dX6_readBody_29 : decode cX6_readBody 29 = .ok (.aload_n 0, 1) := by decide +kernel
theorem dX6_readBody_30 : decode cX6_readBody 30 = .ok (.getfield 35, 3) := by decide +kernel
theorem dX6_readBody_33 : decode cX6_readBody 33 = .ok (.aload_n 1, 1) := by decide +kernel
theorem dX6_readBody_34 : decode cX6_readBody 34 = .ok (.getfield 129, 3) := by decide +kernel
theorem dX6_readBody_37 : decode cX6_readBody 37 = .ok (.lastore, 1) := by decide +kernel
theorem dX6_readBody_38 : decode cX6_readBody 38 = .ok (.aload_n 1, 1) := by decide +kernel
theorem dX6_readBody_39 : decode cX6_readBody 39 = .ok (.iconst 1, 1) := by decide +kernel
theorem dX6_readBody_40 : decode cX6_readBody 40 = .ok (.bipush 99, 2) := by decide +kernel
theorem dX6_readBody_42 : decode cX6_readBody 42 = .ok (.invokevirtual 133, 3) := by decide +kernel
theorem dX6_readBody_45 : decode cX6_readBody 45 = .ok (.ifCond .ne 5, 3) := by decide +kernel
theorem dX6_readBody_48 : decode cX6_readBody 48 = .ok (.iconst 0, 1) := by decide +kernel
theorem dX6_readBody_49 : decode cX6_readBody 49 = .ok (.ireturn, 1) := by decide +kernel
theorem dX6_readBody_50 : decode cX6_readBody 50 = .ok (.aload_n 0, 1) := by decide +kernel
theorem dX6_readBody_51 : decode cX6_readBody 51 = .ok (.getfield 15, 3) := by decide +kernel
theorem dX6_readBody_54 : decode cX6_readBody 54 = .ok (.aload_n 0, 1) := by decide +kernel
theorem dX6_readBody_55 : decode cX6_readBody 55 = .ok (.getfield 35, 3) := by decide +kernel
theorem dX6_readBody_58 : decode cX6_readBody 58 = .ok (.aload_n 1, 1) := by decide +kernel
theorem dX6_readBody_59 : decode cX6_readBody 59 = .ok (.getfield 137, 3) := by decide +kernel
theorem dX6_readBody_62 : decode cX6_readBody 62 = .ok (.iastore, 1) := by decide +kernel
theorem dX6_readBody_63 : decode cX6_readBody 63 = .ok (.aload_n 0, 1) := by decide +kernel
theorem dX6_readBody_64 : decode cX6_readBody 64 = .ok (.getfield 19, 3) := by decide +kernel
theorem dX6_readBody_67 : decode cX6_readBody 67 = .ok (.aload_n 0, 1) := by decide +kernel
theorem dX6_readBody_68 : decode cX6_readBody 68 = .ok (.getfield 35, 3) := by decide +kernel
theorem dX6_readBody_71 : decode cX6_readBody 71 = .ok (.iconst (-1), 1) := by decide +kernel
theorem dX6_readBody_72 : decode cX6_readBody 72 = .ok (.iastore, 1) := by decide +kernel
theorem dX6_readBody_73 : decode cX6_readBody 73 = .ok (.aload_n 1, 1) := by decide +kernel
theorem dX6_readBody_74 : decode cX6_readBody 74 = .ok (.invokevirtual 84, 3) := by decide +kernel
theorem dX6_readBody_77 : decode cX6_readBody 77 = .ok (.aload_n 1, 1) := by decide +kernel
theorem dX6_readBody_78 : decode cX6_readBody 78 = .ok (.ldc2_w 140, 3) := by decide +kernel
theorem dX6_readBody_81 : decode cX6_readBody 81 = .ok (.invokevirtual 100, 3) := by decide +kernel
theorem dX6_readBody_84 : decode cX6_readBody 84 = .ok (.ifCond .eq 30, 3) := by decide +kernel
theorem dX6_readBody_87 : decode cX6_readBody 87 = .ok (.aload_n 1, 1) := by decide +kernel
theorem dX6_readBody_88 : decode cX6_readBody 88 = .ok (.aload_n 0, 1) := by decide +kernel
theorem dX6_readBody_89 : decode cX6_readBody 89 = .ok (.invokevirtual 142, 3) := by decide +kernel
theorem dX6_readBody_92 : decode cX6_readBody 92 = .ok (.ifCond .ne 5, 3) := by decide +kernel
theorem dX6_readBody_95 : decode cX6_readBody 95 = .ok (.iconst 0, 1) := by decide +kernel
theorem dX6_readBody_96 : decode cX6_readBody 96 = .ok (.ireturn, 1) := by decide +kernel
theorem dX6_readBody_97 : decode cX6_readBody 97 = .ok (.aload_n 0, 1) := by decide +kernel
theorem dX6_readBody_98 : decode cX6_readBody 98 = .ok (.getfield 19, 3) := by decide +kernel
theorem dX6_readBody_101 : decode cX6_readBody 101 = .ok (.aload_n 0, 1) := by decide +kernel
theorem dX6_readBody_102 : decode cX6_readBody 102 = .ok (.getfield 35, 3) := by decide +kernel
theorem dX6_readBody_105 : decode cX6_readBody 105 = .ok (.aload_n 1, 1) := by decide +kernel
theorem dX6_readBody_106 : decode cX6_readBody 106 = .ok (.getfield 145, 3) := by decide +kernel
theorem dX6_readBody_109 : decode cX6_readBody 109 = .ok (.iastore, 1) := by decide +kernel
theorem dX6_readBody_110 : decode cX6_readBody 110 = .ok (.aload_n 1, 1) := by decide +kernel
theorem dX6_readBody_111 : decode cX6_readBody 111 = .ok (.invokevirtual 84, 3) := by decide +kernel
theorem dX6_readBody_114 : decode cX6_readBody 114 = .ok (.aload_n 0, 1) := by decide +kernel
theorem dX6_readBody_115 : decode cX6_readBody 115 = .ok (.dup, 1) := by decide +kernel
theorem dX6_readBody_116 : decode cX6_readBody 116 = .ok (.getfield 35, 3) := by decide +kernel
theorem dX6_readBody_119 : decode cX6_readBody 119 = .ok (.iconst 1, 1) := by decide +kernel
theorem dX6_readBody_120 : decode cX6_readBody 120 = .ok (.iadd, 1) := by decide +kernel
theorem dX6_readBody_121 : decode cX6_readBody 121 = .ok (.putfield 35, 3) := by decide +kernel
theorem dX6_readBody_124 : decode cX6_readBody 124 = .ok (.aload_n 1, 1) := by decide +kernel
theorem dX6_readBody_125 : decode cX6_readBody 125 = .ok (.invokevirtual 148, 3) := by decide +kernel
theorem dX6_readBody_128 : decode cX6_readBody 128 = .ok (.ireturn, 1) := by decide +kernel
theorem dX6_readKind_0 : decode cX6_readKind 0 = .ok (.aload_n 0, 1) := by decide +kernel
theorem dX6_readKind_1 : decode cX6_readKind 1 = .ok (.getfield 38, 3) := by decide +kernel
theorem dX6_readKind_4 : decode cX6_readKind 4 = .ok (.bipush 6, 2) := by decide +kernel
theorem dX6_readKind_6 : decode cX6_readKind 6 = .ok (.if_icmp .lt 9, 3) := by decide +kernel
theorem dX6_readKind_9 : decode cX6_readKind 9 = .ok (.aload_n 1, 1) := by decide +kernel
theorem dX6_readKind_10 : decode cX6_readKind 10 = .ok (.iconst 4, 1) := by decide +kernel
theorem dX6_readKind_11 : decode cX6_readKind 11 = .ok (.invokevirtual 122, 3) := by decide +kernel
theorem dX6_readKind_14 : decode cX6_readKind 14 = .ok (.ireturn, 1) := by decide +kernel
theorem dX6_readKind_15 : decode cX6_readKind 15 = .ok (.aload_n 1, 1) := by decide +kernel
theorem dX6_readKind_16 : decode cX6_readKind 16 = .ok (.aload_n 0, 1) := by decide +kernel
theorem dX6_readKind_17 : decode cX6_readKind 17 = .ok (.invokevirtual 125, 3) := by decide +kernel
theorem dX6_readKind_20 : decode cX6_readKind 20 = .ok (.ifCond .ne 5, 3) := by decide +kernel
theorem dX6_readKind_23 : decode cX6_readKind 23 = .ok (.iconst 0, 1) := by decide +kernel
theorem dX6_readKind_24 : decode cX6_readKind 24 = .ok (.ireturn, 1) := by decide +kernel
theorem dX6_readKind_25 : decode cX6_readKind 25 = .ok (.aload_n 0, 1) := by decide +kernel
theorem dX6_readKind_26 : decode cX6_readKind 26 = .ok (.getfield 22, 3) := by decide +kernel
theorem dX6_readKind_29 : decode cX6_readKind 29 = .ok (.aload_n 0, 1) := by decide +kernel
theorem dX6_readKind_30 : decode cX6_readKind 30 = .ok (.getfield 38, 3) := by decide +kernel
theorem dX6_readKind_33 : decode cX6_readKind 33 = .ok (.aload_n 1, 1) := by decide +kernel
theorem dX6_readKind_34 : decode cX6_readKind 34 = .ok (.getfield 129, 3) := by decide +kernel
theorem dX6_readKind_37 : decode cX6_readKind 37 = .ok (.lastore, 1) := by decide +kernel
theorem dX6_readKind_38 : decode cX6_readKind 38 = .ok (.aload_n 1, 1) := by decide +kernel
theorem dX6_readKind_39 : decode cX6_readKind 39 = .ok (.iconst 1, 1) := by decide +kernel
theorem dX6_readKind_40 : decode cX6_readKind 40 = .ok (.bipush 9, 2) := by decide +kernel
theorem dX6_readKind_42 : decode cX6_readKind 42 = .ok (.invokevirtual 133, 3) := by decide +kernel
theorem dX6_readKind_45 : decode cX6_readKind 45 = .ok (.ifCond .ne 5, 3) := by decide +kernel
theorem dX6_readKind_48 : decode cX6_readKind 48 = .ok (.iconst 0, 1) := by decide +kernel
theorem dX6_readKind_49 : decode cX6_readKind 49 = .ok (.ireturn, 1) := by decide +kernel
theorem dX6_readKind_50 : decode cX6_readKind 50 = .ok (.aload_n 0, 1) := by decide +kernel
theorem dX6_readKind_51 : decode cX6_readKind 51 = .ok (.getfield 25, 3) := by decide +kernel
theorem dX6_readKind_54 : decode cX6_readKind 54 = .ok (.aload_n 0, 1) := by decide +kernel
theorem dX6_readKind_55 : decode cX6_readKind 55 = .ok (.getfield 38, 3) := by decide +kernel
theorem dX6_readKind_58 : decode cX6_readKind 58 = .ok (.aload_n 1, 1) := by decide +kernel
theorem dX6_readKind_59 : decode cX6_readKind 59 = .ok (.getfield 137, 3) := by decide +kernel
theorem dX6_readKind_62 : decode cX6_readKind 62 = .ok (.iastore, 1) := by decide +kernel
theorem dX6_readKind_63 : decode cX6_readKind 63 = .ok (.aload_n 1, 1) := by decide +kernel
theorem dX6_readKind_64 : decode cX6_readKind 64 = .ok (.invokevirtual 84, 3) := by decide +kernel
theorem dX6_readKind_67 : decode cX6_readKind 67 = .ok (.aload_n 0, 1) := by decide +kernel
theorem dX6_readKind_68 : decode cX6_readKind 68 = .ok (.getfield 28, 3) := by decide +kernel
theorem dX6_readKind_71 : decode cX6_readKind 71 = .ok (.aload_n 0, 1) := by decide +kernel
theorem dX6_readKind_72 : decode cX6_readKind 72 = .ok (.getfield 38, 3) := by decide +kernel
theorem dX6_readKind_75 : decode cX6_readKind 75 = .ok (.aload_n 1, 1) := by decide +kernel
theorem dX6_readKind_76 : decode cX6_readKind 76 = .ok (.invokestatic 151, 3) := by decide +kernel
theorem dX6_readKind_79 : decode cX6_readKind 79 = .ok (.iastore, 1) := by decide +kernel
theorem dX6_readKind_80 : decode cX6_readKind 80 = .ok (.aload_n 0, 1) := by decide +kernel
theorem dX6_readKind_81 : decode cX6_readKind 81 = .ok (.getfield 28, 3) := by decide +kernel
theorem dX6_readKind_84 : decode cX6_readKind 84 = .ok (.aload_n 0, 1) := by decide +kernel
theorem dX6_readKind_85 : decode cX6_readKind 85 = .ok (.getfield 38, 3) := by decide +kernel
theorem dX6_readKind_88 : decode cX6_readKind 88 = .ok (.iaload, 1) := by decide +kernel
theorem dX6_readKind_89 : decode cX6_readKind 89 = .ok (.ifCond .eq 7, 3) := by decide +kernel
theorem dX6_readKind_92 : decode cX6_readKind 92 = .ok (.aload_n 1, 1) := by decide +kernel
theorem dX6_readKind_93 : decode cX6_readKind 93 = .ok (.invokevirtual 84, 3) := by decide +kernel
theorem dX6_readKind_96 : decode cX6_readKind 96 = .ok (.aload_n 0, 1) := by decide +kernel
theorem dX6_readKind_97 : decode cX6_readKind 97 = .ok (.dup, 1) := by decide +kernel
theorem dX6_readKind_98 : decode cX6_readKind 98 = .ok (.getfield 38, 3) := by decide +kernel
theorem dX6_readKind_101 : decode cX6_readKind 101 = .ok (.iconst 1, 1) := by decide +kernel
theorem dX6_readKind_102 : decode cX6_readKind 102 = .ok (.iadd, 1) := by decide +kernel
theorem dX6_readKind_103 : decode cX6_readKind 103 = .ok (.putfield 38, 3) := by decide +kernel
theorem dX6_readKind_106 : decode cX6_readKind 106 = .ok (.aload_n 1, 1) := by decide +kernel
theorem dX6_readKind_107 : decode cX6_readKind 107 = .ok (.invokevirtual 148, 3) := by decide +kernel
theorem dX6_readKind_110 : decode cX6_readKind 110 = .ok (.ireturn, 1) := by decide +kernel
