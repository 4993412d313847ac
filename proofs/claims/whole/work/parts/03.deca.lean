/-! what each instruction of the class is -/
theorem dX0_init_0 : decode cX0_init 0 = .ok (.aload_n 0, 1) := by decide +kernel
theorem dX0_init_1 : decode cX0_init 1 = .ok (.invokespecial 1, 3) := by decide +kernel
theorem dX0_init_4 : decode cX0_init 4 = .ok (.aload_n 0, 1) := by decide +kernel
theorem dX0_init_5 : decode cX0_init 5 = .ok (.bipush 40, 2) := by decide +kernel
theorem dX0_init_7 : decode cX0_init 7 = .ok (.newarray .int, 2) := by decide +kernel
theorem dX0_init_9 : decode cX0_init 9 = .ok (.putfield 9, 3) := by decide +kernel
theorem dX0_init_12 : decode cX0_init 12 = .ok (.aload_n 0, 1) := by decide +kernel
theorem dX0_init_13 : decode cX0_init 13 = .ok (.bipush 40, 2) := by decide +kernel
theorem dX0_init_15 : decode cX0_init 15 = .ok (.newarray .int, 2) := by decide +kernel
theorem dX0_init_17 : decode cX0_init 17 = .ok (.putfield 13, 3) := by decide +kernel
theorem dX0_init_20 : decode cX0_init 20 = .ok (.aload_n 0, 1) := by decide +kernel
theorem dX0_init_21 : decode cX0_init 21 = .ok (.bipush 40, 2) := by decide +kernel
theorem dX0_init_23 : decode cX0_init 23 = .ok (.newarray .int, 2) := by decide +kernel
theorem dX0_init_25 : decode cX0_init 25 = .ok (.putfield 16, 3) := by decide +kernel
theorem dX0_init_28 : decode cX0_init 28 = .ok (.aload_n 0, 1) := by decide +kernel
theorem dX0_init_29 : decode cX0_init 29 = .ok (.bipush 40, 2) := by decide +kernel
theorem dX0_init_31 : decode cX0_init 31 = .ok (.newarray .int, 2) := by decide +kernel
theorem dX0_init_33 : decode cX0_init 33 = .ok (.putfield 19, 3) := by decide +kernel
theorem dX0_init_36 : decode cX0_init 36 = .ok (.aload_n 0, 1) := by decide +kernel
theorem dX0_init_37 : decode cX0_init 37 = .ok (.aload_n 1, 1) := by decide +kernel
theorem dX0_init_38 : decode cX0_init 38 = .ok (.putfield 22, 3) := by decide +kernel
theorem dX0_init_41 : decode cX0_init 41 = .ok (.return_, 1) := by decide +kernel
theorem dX0_done_0 : decode cX0_done 0 = .ok (.aload_n 0, 1) := by decide +kernel
theorem dX0_done_1 : decode cX0_done 1 = .ok (.getfield 26, 3) := by decide +kernel
theorem dX0_done_4 : decode cX0_done 4 = .ok (.ireturn, 1) := by decide +kernel
theorem dX0_undone_0 : decode cX0_undone 0 = .ok (.aload_n 0, 1) := by decide +kernel
theorem dX0_undone_1 : decode cX0_undone 1 = .ok (.getfield 30, 3) := by decide +kernel
theorem dX0_undone_4 : decode cX0_undone 4 = .ok (.aload_n 0, 1) := by decide +kernel
theorem dX0_undone_5 : decode cX0_undone 5 = .ok (.getfield 26, 3) := by decide +kernel
theorem dX0_undone_8 : decode cX0_undone 8 = .ok (.isub, 1) := by decide +kernel
theorem dX0_undone_9 : decode cX0_undone 9 = .ok (.ireturn, 1) := by decide +kernel
theorem dX0_tell_0 : decode cX0_tell 0 = .ok (.aload_n 0, 1) := by decide +kernel
theorem dX0_tell_1 : decode cX0_tell 1 = .ok (.getfield 22, 3) := by decide +kernel
theorem dX0_tell_4 : decode cX0_tell 4 = .ok (.iload_n 1, 1) := by decide +kernel
theorem dX0_tell_5 : decode cX0_tell 5 = .ok (.iload_n 2, 1) := by decide +kernel
theorem dX0_tell_6 : decode cX0_tell 6 = .ok (.invokevirtual 33, 3) := by decide +kernel
theorem dX0_tell_9 : decode cX0_tell 9 = .ok (.istore 4, 2) := by decide +kernel
theorem dX0_tell_11 : decode cX0_tell 11 = .ok (.iload 4, 2) := by decide +kernel
theorem dX0_tell_13 : decode cX0_tell 13 = .ok (.iload_n 3, 1) := by decide +kernel
theorem dX0_tell_14 : decode cX0_tell 14 = .ok (.if_icmp .ne 4, 3) := by decide +kernel
theorem dX0_tell_17 : decode cX0_tell 17 = .ok (.return_, 1) := by decide +kernel
theorem dX0_tell_18 : decode cX0_tell 18 = .ok (.aload_n 0, 1) := by decide +kernel
theorem dX0_tell_19 : decode cX0_tell 19 = .ok (.getfield 26, 3) := by decide +kernel
theorem dX0_tell_22 : decode cX0_tell 22 = .ok (.bipush 40, 2) := by decide +kernel
theorem dX0_tell_24 : decode cX0_tell 24 = .ok (.if_icmp .ne 7, 3) := by decide +kernel
theorem dX0_tell_27 : decode cX0_tell 27 = .ok (.aload_n 0, 1) := by decide +kernel
theorem dX0_tell_28 : decode cX0_tell 28 = .ok (.invokevirtual 39, 3) := by decide +kernel
theorem dX0_tell_31 : decode cX0_tell 31 = .ok (.aload_n 0, 1) := by decide +kernel
theorem dX0_tell_32 : decode cX0_tell 32 = .ok (.getfield 9, 3) := by decide +kernel
theorem dX0_tell_35 : decode cX0_tell 35 = .ok (.aload_n 0, 1) := by decide +kernel
theorem dX0_tell_36 : decode cX0_tell 36 = .ok (.getfield 26, 3) := by decide +kernel
theorem dX0_tell_39 : decode cX0_tell 39 = .ok (.iload_n 1, 1) := by decide +kernel
theorem dX0_tell_40 : decode cX0_tell 40 = .ok (.iastore, 1) := by decide +kernel
theorem dX0_tell_41 : decode cX0_tell 41 = .ok (.aload_n 0, 1) := by decide +kernel
theorem dX0_tell_42 : decode cX0_tell 42 = .ok (.getfield 13, 3) := by decide +kernel
theorem dX0_tell_45 : decode cX0_tell 45 = .ok (.aload_n 0, 1) := by decide +kernel
theorem dX0_tell_46 : decode cX0_tell 46 = .ok (.getfield 26, 3) := by decide +kernel
theorem dX0_tell_49 : decode cX0_tell 49 = .ok (.iload_n 2, 1) := by decide +kernel
theorem dX0_tell_50 : decode cX0_tell 50 = .ok (.iastore, 1) := by decide +kernel
theorem dX0_tell_51 : decode cX0_tell 51 = .ok (.aload_n 0, 1) := by decide +kernel
theorem dX0_tell_52 : decode cX0_tell 52 = .ok (.getfield 16, 3) := by decide +kernel
theorem dX0_tell_55 : decode cX0_tell 55 = .ok (.aload_n 0, 1) := by decide +kernel
theorem dX0_tell_56 : decode cX0_tell 56 = .ok (.getfield 26, 3) := by decide +kernel
theorem dX0_tell_59 : decode cX0_tell 59 = .ok (.iload 4, 2) := by decide +kernel
theorem dX0_tell_61 : decode cX0_tell 61 = .ok (.iastore, 1) := by decide +kernel
theorem dX0_tell_62 : decode cX0_tell 62 = .ok (.aload_n 0, 1) := by decide +kernel
theorem dX0_tell_63 : decode cX0_tell 63 = .ok (.getfield 19, 3) := by decide +kernel
theorem dX0_tell_66 : decode cX0_tell 66 = .ok (.aload_n 0, 1) := by decide +kernel
theorem dX0_tell_67 : decode cX0_tell 67 = .ok (.getfield 26, 3) := by decide +kernel
theorem dX0_tell_70 : decode cX0_tell 70 = .ok (.iload_n 3, 1) := by decide +kernel
theorem dX0_tell_71 : decode cX0_tell 71 = .ok (.iastore, 1) := by decide +kernel
theorem dX0_tell_72 : decode cX0_tell 72 = .ok (.aload_n 0, 1) := by decide +kernel
theorem dX0_tell_73 : decode cX0_tell 73 = .ok (.dup, 1) := by decide +kernel
theorem dX0_tell_74 : decode cX0_tell 74 = .ok (.getfield 26, 3) := by decide +kernel
theorem dX0_tell_77 : decode cX0_tell 77 = .ok (.iconst 1, 1) := by decide +kernel
theorem dX0_tell_78 : decode cX0_tell 78 = .ok (.iadd, 1) := by decide +kernel
theorem dX0_tell_79 : decode cX0_tell 79 = .ok (.putfield 26, 3) := by decide +kernel
theorem dX0_tell_82 : decode cX0_tell 82 = .ok (.aload_n 0, 1) := by decide +kernel
theorem dX0_tell_83 : decode cX0_tell 83 = .ok (.aload_n 0, 1) := by decide +kernel
theorem dX0_tell_84 : decode cX0_tell 84 = .ok (.getfield 26, 3) := by decide +kernel
theorem dX0_tell_87 : decode cX0_tell 87 = .ok (.putfield 30, 3) := by decide +kernel
theorem dX0_tell_90 : decode cX0_tell 90 = .ok (.aload_n 0, 1) := by decide +kernel
theorem dX0_tell_91 : decode cX0_tell 91 = .ok (.getfield 22, 3) := by decide +kernel
theorem dX0_tell_94 : decode cX0_tell 94 = .ok (.iload_n 1, 1) := by decide +kernel
theorem dX0_tell_95 : decode cX0_tell 95 = .ok (.iload_n 2, 1) := by decide +kernel
theorem dX0_tell_96 : decode cX0_tell 96 = .ok (.iload_n 3, 1) := by decide +kernel
theorem dX0_tell_97 : decode cX0_tell 97 = .ok (.invokevirtual 42, 3) := by decide +kernel
theorem dX0_tell_100 : decode cX0_tell 100 = .ok (.return_, 1) := by decide +kernel
theorem dX0_forgetOldest_0 : decode cX0_forgetOldest 0 = .ok (.iconst 1, 1) := by decide +kernel
theorem dX0_forgetOldest_1 : decode cX0_forgetOldest 1 = .ok (.istore_n 1, 1) := by decide +kernel
theorem dX0_forgetOldest_2 : decode cX0_forgetOldest 2 = .ok (.iload_n 1, 1) := by decide +kernel
theorem dX0_forgetOldest_3 : decode cX0_forgetOldest 3 = .ok (.bipush 40, 2) := by decide +kernel
theorem dX0_forgetOldest_5 : decode cX0_forgetOldest 5 = .ok (.if_icmp .ge 65, 3) := by decide +kernel
theorem dX0_forgetOldest_8 : decode cX0_forgetOldest 8 = .ok (.aload_n 0, 1) := by decide +kernel
theorem dX0_forgetOldest_9 : decode cX0_forgetOldest 9 = .ok (.getfield 9, 3) := by decide +kernel
theorem dX0_forgetOldest_12 : decode cX0_forgetOldest 12 = .ok (.iload_n 1, 1) := by decide +kernel
theorem dX0_forgetOldest_13 : decode cX0_forgetOldest 13 = .ok (.iconst 1, 1) := by decide +kernel
theorem dX0_forgetOldest_14 : decode cX0_forgetOldest 14 = .ok (.isub, 1) := by decide +kernel
theorem dX0_forgetOldest_15 : decode cX0_forgetOldest 15 = .ok (.aload_n 0, 1) := by decide +kernel
theorem dX0_forgetOldest_16 : decode cX0_forgetOldest 16 = .ok (.getfield 9, 3) := by decide +kernel
theorem dX0_forgetOldest_19 : decode cX0_forgetOldest 19 = .ok (.iload_n 1, 1) := by decide +kernel
theorem dX0_forgetOldest_20 : decode cX0_forgetOldest 20 = .ok (.iaload, 1) := by decide +kernel
theorem dX0_forgetOldest_21 : decode cX0_forgetOldest 21 = .ok (.iastore, 1) := by decide +kernel
theorem dX0_forgetOldest_22 : decode cX0_forgetOldest 22 = .ok (.aload_n 0, 1) := by decide +kernel
theorem dX0_forgetOldest_23 : decode cX0_forgetOldest 23 = .ok (.getfield 13, 3) := by decide +kernel
theorem dX0_forgetOldest_26 : decode cX0_forgetOldest 26 = .ok (.iload_n 1, 1) := by decide +kernel
theorem dX0_forgetOldest_27 : decode cX0_forgetOldest 27 = .ok (.iconst 1, 1) := by decide +kernel
theorem dX0_forgetOldest_28 : decode cX0_forgetOldest 28 = .ok (.isub, 1) := by decide +kernel
theorem dX0_forgetOldest_29 : decode cX0_forgetOldest 29 = .ok (.aload_n 0, 1) := by decide +kernel
theorem dX0_forgetOldest_30 : decode cX0_forgetOldest 30 = .ok (.getfield 13, 3) := by decide +kernel
theorem dX0_forgetOldest_33 : decode cX0_forgetOldest 33 = .ok (.iload_n 1, 1) := by decide +kernel
theorem dX0_forgetOldest_34 : decode cX0_forgetOldest 34 = .ok (.iaload, 1) := by decide +kernel
theorem dX0_forgetOldest_35 : decode cX0_forgetOldest 35 = .ok (.iastore, 1) := by decide +kernel
theorem dX0_forgetOldest_36 : decode cX0_forgetOldest 36 = .ok (.aload_n 0, 1) := by decide +kernel
theorem dX0_forgetOldest_37 : decode cX0_forgetOldest 37 = .ok (.getfield 16, 3) := by decide +kernel
theorem dX0_forgetOldest_40 : decode cX0_forgetOldest 40 = .ok (.iload_n 1, 1) := by decide +kernel
theorem dX0_forgetOldest_41 : decode cX0_forgetOldest 41 = .ok (.iconst 1, 1) := by decide +kernel
theorem dX0_forgetOldest_42 : decode cX0_forgetOldest 42 = .ok (.isub, 1) := by decide +kernel
theorem dX0_forgetOldest_43 : decode cX0_forgetOldest 43 = .ok (.aload_n 0, 1) := by decide +kernel
theorem dX0_forgetOldest_44 : decode cX0_forgetOldest 44 = .ok (.getfield 16, 3) := by decide +kernel
theorem dX0_forgetOldest_47 : decode cX0_forgetOldest 47 = .ok (.iload_n 1, 1) := by decide +kernel
theorem dX0_forgetOldest_48 : decode cX0_forgetOldest 48 = .ok (.iaload, 1) := by decide +kernel
theorem dX0_forgetOldest_49 : decode cX0_forgetOldest 49 = .ok (.iastore, 1) := by decide +kernel
theorem dX0_forgetOldest_50 : decode cX0_forgetOldest 50 = .ok (.aload_n 0, 1) := by decide +kernel
theorem dX0_forgetOldest_51 : decode cX0_forgetOldest 51 = .ok (.getfield 19, 3) := by decide +kernel
theorem dX0_forgetOldest_54 : decode cX0_forgetOldest 54 = .ok (.iload_n 1, 1) := by decide +kernel
theorem dX0_forgetOldest_55 : decode cX0_forgetOldest 55 = .ok (.iconst 1, 1) := by decide +kernel
theorem dX0_forgetOldest_56 : decode cX0_forgetOldest 56 = .ok (.isub, 1) := by decide +kernel
theorem dX0_forgetOldest_57 : decode cX0_forgetOldest 57 = .ok (.aload_n 0, 1) := by decide +kernel
theorem dX0_forgetOldest_58 : decode cX0_forgetOldest 58 = .ok (.getfield 19, 3) := by decide +kernel
theorem dX0_forgetOldest_61 : decode cX0_forgetOldest 61 = .ok (.iload_n 1, 1) := by decide +kernel
theorem dX0_forgetOldest_62 : decode cX0_forgetOldest 62 = .ok (.iaload, 1) := by decide +kernel
theorem dX0_forgetOldest_63 : decode cX0_forgetOldest 63 = .ok (.iastore, 1) := by decide +kernel
theorem dX0_forgetOldest_64 : decode cX0_forgetOldest 64 = .ok (.iinc 1 1, 3) := by decide +kernel
theorem dX0_forgetOldest_67 : decode cX0_forgetOldest 67 = .ok (.goto (-65), 3) := by decide +kernel
theorem dX0_forgetOldest_70 : decode cX0_forgetOldest 70 = .ok (.aload_n 0, 1) := by decide +kernel
theorem dX0_forgetOldest_71 : decode cX0_forgetOldest 71 = .ok (.dup, 1) := by decide +kernel
theorem dX0_forgetOldest_72 : decode cX0_forgetOldest 72 = .ok (.getfield 26, 3) := by decide +kernel
theorem dX0_forgetOldest_75 : decode cX0_forgetOldest 75 = .ok (.iconst 1, 1) := by decide +kernel
theorem dX0_forgetOldest_76 : decode cX0_forgetOldest 76 = .ok (.isub, 1) := by decide +kernel
theorem dX0_forgetOldest_77 : decode cX0_forgetOldest 77 = .ok (.putfield 26, 3) := by decide +kernel
theorem dX0_forgetOldest_80 : decode cX0_forgetOldest 80 = .ok (.return_, 1) := by decide +kernel
theorem dX0_takeBack_0 : decode cX0_takeBack 0 = .ok (.aload_n 0, 1) := by decide +kernel
theorem dX0_takeBack_1 : decode cX0_takeBack 1 = .ok (.getfield 26, 3) := by decide +kernel
theorem dX0_takeBack_4 : decode cX0_takeBack 4 = .ok (.ifCond .gt 5, 3) := by decide +kernel
theorem dX0_takeBack_7 : decode cX0_takeBack 7 = .ok (.iconst 0, 1) := by decide +kernel
theorem dX0_takeBack_8 : decode cX0_takeBack 8 = .ok (.ireturn, 1) := by decide +kernel
theorem dX0_takeBack_9 : decode cX0_takeBack 9 = .ok (.aload_n 0, 1) := by decide +kernel
theorem dX0_takeBack_10 : decode cX0_takeBack 10 = .ok (.dup, 1) := by decide +kernel
theorem dX0_takeBack_11 : decode cX0_takeBack 11 = .ok (.getfield 26, 3) := by decide +kernel
theorem dX0_takeBack_14 : decode cX0_takeBack 14 = .ok (.iconst 1, 1) := by decide +kernel
theorem dX0_takeBack_15 : decode cX0_takeBack 15 = .ok (.isub, 1) := by decide +kernel
theorem dX0_takeBack_16 : decode cX0_takeBack 16 = .ok (.putfield 26, 3) := by decide +kernel
theorem dX0_takeBack_19 : decode cX0_takeBack 19 = .ok (.aload_n 0, 1) := by decide +kernel
theorem dX0_takeBack_20 : decode cX0_takeBack 20 = .ok (.getfield 22, 3) := by decide +kernel
theorem dX0_takeBack_23 : decode cX0_takeBack 23 = .ok (.aload_n 0, 1) := by decide +kernel
theorem dX0_takeBack_24 : decode cX0_takeBack 24 = .ok (.getfield 9, 3) := by decide +kernel
theorem dX0_takeBack_27 : decode cX0_takeBack 27 = .ok (.aload_n 0, 1) := by decide +kernel
theorem dX0_takeBack_28 : decode cX0_takeBack 28 = .ok (.getfield 26, 3) := by decide +kernel
theorem dX0_takeBack_31 : decode cX0_takeBack 31 = .ok (.iaload, 1) := by decide +kernel
theorem dX0_takeBack_32 : decode cX0_takeBack 32 = .ok (.aload_n 0, 1) := by decide +kernel
theorem dX0_takeBack_33 : decode cX0_takeBack 33 = .ok (.getfield 13, 3) := by decide +kernel
theorem dX0_takeBack_36 : decode cX0_takeBack 36 = .ok (.aload_n 0, 1) := by decide +kernel
theorem dX0_takeBack_37 : decode cX0_takeBack 37 = .ok (.getfield 26, 3) := by decide +kernel
theorem dX0_takeBack_40 : decode cX0_takeBack 40 = .ok (.iaload, 1) := by decide +kernel
theorem dX0_takeBack_41 : decode cX0_takeBack 41 = .ok (.aload_n 0, 1) := by decide +kernel
theorem dX0_takeBack_42 : decode cX0_takeBack 42 = .ok (.getfield 16, 3) := by decide +kernel
theorem dX0_takeBack_45 : decode cX0_takeBack 45 = .ok (.aload_n 0, 1) := by decide +kernel
theorem dX0_takeBack_46 : decode cX0_takeBack 46 = .ok (.getfield 26, 3) := by decide +kernel
theorem dX0_takeBack_49 : decode cX0_takeBack 49 = .ok (.iaload, 1) := by decide +kernel
theorem dX0_takeBack_50 : decode cX0_takeBack 50 = .ok (.invokevirtual 42, 3) := by decide +kernel
theorem dX0_takeBack_53 : decode cX0_takeBack 53 = .ok (.iconst 1, 1) := by decide +kernel
theorem dX0_takeBack_54 : decode cX0_takeBack 54 = .ok (.ireturn, 1) := by decide +kernel
theorem dX0_doAgain_0 : decode cX0_doAgain 0 = .ok (.aload_n 0, 1) := by decide +kernel
theorem dX0_doAgain_1 : decode cX0_doAgain 1 = .ok (.getfield 26, 3) := by decide +kernel
theorem dX0_doAgain_4 : decode cX0_doAgain 4 = .ok (.aload_n 0, 1) := by decide +kernel
theorem dX0_doAgain_5 : decode cX0_doAgain 5 = .ok (.getfield 30, 3) := by decide +kernel
theorem dX0_doAgain_8 : decode cX0_doAgain 8 = .ok (.if_icmp .lt 5, 3) := by decide +kernel
theorem dX0_doAgain_11 : decode cX0_doAgain 11 = .ok (.iconst 0, 1) := by decide +kernel
theorem dX0_doAgain_12 : decode cX0_doAgain 12 = .ok (.ireturn, 1) := by decide +kernel
theorem dX0_doAgain_13 : decode cX0_doAgain 13 = .ok (.aload_n 0, 1) := by decide +kernel
theorem dX0_doAgain_14 : decode cX0_doAgain 14 = .ok (.getfield 22, 3) := by decide +kernel
theorem dX0_doAgain_17 : decode cX0_doAgain 17 = .ok (.aload_n 0, 1) := by decide +kernel
theorem dX0_doAgain_18 : decode cX0_doAgain 18 = .ok (.getfield 9, 3) := by decide +kernel
theorem dX0_doAgain_21 : decode cX0_doAgain 21 = .ok (.aload_n 0, 1) := by decide +kernel
theorem dX0_doAgain_22 : decode cX0_doAgain 22 = .ok (.getfield 26, 3) := by decide +kernel
theorem dX0_doAgain_25 : decode cX0_doAgain 25 = .ok (.iaload, 1) := by decide +kernel
theorem dX0_doAgain_26 : decode cX0_doAgain 26 = .ok (.aload_n 0, 1) := by decide +kernel
theorem dX0_doAgain_27 : decode cX0_doAgain 27 = .ok (.getfield 13, 3) := by decide +kernel
theorem dX0_doAgain_30 : decode cX0_doAgain 30 = .ok (.aload_n 0, 1) := by decide +kernel
theorem dX0_doAgain_31 : decode cX0_doAgain 31 = .ok (.getfield 26, 3) := by decide +kernel
theorem dX0_doAgain_34 : decode cX0_doAgain 34 = .ok (.iaload, 1) := by decide +kernel
theorem dX0_doAgain_35 : decode cX0_doAgain 35 = .ok (.aload_n 0, 1) := by decide +kernel
theorem dX0_doAgain_36 : decode cX0_doAgain 36 = .ok (.getfield 19, 3) := by decide +kernel
theorem dX0_doAgain_39 : decode cX0_doAgain 39 = .ok (.aload_n 0, 1) := by decide +kernel
theorem dX0_doAgain_40 : decode cX0_doAgain 40 = .ok (.getfield 26, 3) := by decide +kernel
theorem dX0_doAgain_43 : decode cX0_doAgain 43 = .ok (.iaload, 1) := by decide +kernel
theorem dX0_doAgain_44 : decode cX0_doAgain 44 = .ok (.invokevirtual 42, 3) := by decide +kernel
theorem dX0_doAgain_47 : decode cX0_doAgain 47 = .ok (.aload_n 0, 1) := by decide +kernel
theorem dX0_doAgain_48 : decode cX0_doAgain 48 = .ok (.dup, 1) := by decide +kernel
theorem dX0_doAgain_49 : decode cX0_doAgain 49 = .ok (.getfield 26, 3) := by decide +kernel
theorem dX0_doAgain_52 : decode cX0_doAgain 52 = .ok (.iconst 1, 1) := by decide +kernel
theorem dX0_doAgain_53 : decode cX0_doAgain 53 = .ok (.iadd, 1) := by decide +kernel
theorem dX0_doAgain_54 : decode cX0_doAgain 54 = .ok (.putfield 26, 3) := by decide +kernel
theorem dX0_doAgain_57 : decode cX0_doAgain 57 = .ok (.iconst 1, 1) := by decide +kernel
theorem dX0_doAgain_58 : decode cX0_doAgain 58 = .ok (.ireturn, 1) := by decide +kernel
theorem dX1_init_0 : decode cX1_init 0 = .ok (.aload_n 0, 1) := by decide +kernel
theorem dX1_init_1 : decode cX1_init 1 = .ok (.invokespecial 3, 3) := by decide +kernel
theorem dX1_init_4 : decode cX1_init 4 = .ok (.aload_n 0, 1) := by decide +kernel
theorem dX1_init_5 : decode cX1_init 5 = .ok (.bipush 8, 2) := by decide +kernel
theorem dX1_init_7 : decode cX1_init 7 = .ok (.newarray .int, 2) := by decide +kernel
theorem dX1_init_9 : decode cX1_init 9 = .ok (.putfield 9, 3) := by decide +kernel
theorem dX1_init_12 : decode cX1_init 12 = .ok (.aload_n 0, 1) := by decide +kernel
theorem dX1_init_13 : decode cX1_init 13 = .ok (.bipush 8, 2) := by decide +kernel
theorem dX1_init_15 : decode cX1_init 15 = .ok (.newarray .int, 2) := by decide +kernel
theorem dX1_init_17 : decode cX1_init 17 = .ok (.putfield 15, 3) := by decide +kernel
theorem dX1_init_20 : decode cX1_init 20 = .ok (.aload_n 0, 1) := by decide +kernel
theorem dX1_init_21 : decode cX1_init 21 = .ok (.iconst 5, 1) := by decide +kernel
theorem dX1_init_22 : decode cX1_init 22 = .ok (.newarray .int, 2) := by decide +kernel
theorem dX1_init_24 : decode cX1_init 24 = .ok (.putfield 18, 3) := by decide +kernel
theorem dX1_init_27 : decode cX1_init 27 = .ok (.aload_n 0, 1) := by decide +kernel
theorem dX1_init_28 : decode cX1_init 28 = .ok (.bipush 8, 2) := by decide +kernel
theorem dX1_init_30 : decode cX1_init 30 = .ok (.newarray .int, 2) := by decide +kernel
theorem dX1_init_32 : decode cX1_init 32 = .ok (.putfield 21, 3) := by decide +kernel
theorem dX1_init_35 : decode cX1_init 35 = .ok (.aload_n 0, 1) := by decide +kernel
theorem dX1_init_36 : decode cX1_init 36 = .ok (.bipush 8, 2) := by decide +kernel
theorem dX1_init_38 : decode cX1_init 38 = .ok (.newarray .int, 2) := by decide +kernel
theorem dX1_init_40 : decode cX1_init 40 = .ok (.putfield 24, 3) := by decide +kernel
theorem dX1_init_43 : decode cX1_init 43 = .ok (.aload_n 0, 1) := by decide +kernel
theorem dX1_init_44 : decode cX1_init 44 = .ok (.iconst 5, 1) := by decide +kernel
theorem dX1_init_45 : decode cX1_init 45 = .ok (.newarray .int, 2) := by decide +kernel
theorem dX1_init_47 : decode cX1_init 47 = .ok (.putfield 27, 3) := by decide +kernel
theorem dX1_init_50 : decode cX1_init 50 = .ok (.return_, 1) := by decide +kernel
theorem dX1_told_0 : decode cX1_told 0 = .ok (.iload_n 1, 1) := by decide +kernel
theorem dX1_told_1 : decode cX1_told 1 = .ok (.ifCond .lt 9, 3) := by decide +kernel
theorem dX1_told_4 : decode cX1_told 4 = .ok (.iload_n 1, 1) := by decide +kernel
theorem dX1_told_5 : decode cX1_told 5 = .ok (.bipush 8, 2) := by decide +kernel
theorem dX1_told_7 : decode cX1_told 7 = .ok (.if_icmp .lt 6, 3) := by decide +kernel
theorem dX1_told_10 : decode cX1_told 10 = .ok (.ldc 30, 2) := by decide +kernel
theorem dX1_told_12 : decode cX1_told 12 = .ok (.ireturn, 1) := by decide +kernel
theorem dX1_told_13 : decode cX1_told 13 = .ok (.iload_n 2, 1) := by decide +kernel
theorem dX1_told_14 : decode cX1_told 14 = .ok (.ifCond .eq 12, 3) := by decide +kernel
theorem dX1_told_17 : decode cX1_told 17 = .ok (.aload_n 0, 1) := by decide +kernel
theorem dX1_told_18 : decode cX1_told 18 = .ok (.getfield 9, 3) := by decide +kernel
theorem dX1_told_21 : decode cX1_told 21 = .ok (.iload_n 1, 1) := by decide +kernel
theorem dX1_told_22 : decode cX1_told 22 = .ok (.iaload, 1) := by decide +kernel
theorem dX1_told_23 : decode cX1_told 23 = .ok (.goto 9, 3) := by decide +kernel
theorem dX1_told_26 : decode cX1_told 26 = .ok (.aload_n 0, 1) := by decide +kernel
theorem dX1_told_27 : decode cX1_told 27 = .ok (.getfield 15, 3) := by decide +kernel
theorem dX1_told_30 : decode cX1_told 30 = .ok (.iload_n 1, 1) := by decide +kernel
theorem dX1_told_31 : decode cX1_told 31 = .ok (.iaload, 1) := by decide +kernel
theorem dX1_told_32 : decode cX1_told 32 = .ok (.ireturn, 1) := by decide +kernel
theorem dX1_inAll_0 : decode cX1_inAll 0 = .ok (.iload_n 1, 1) := by decide +kernel
theorem dX1_inAll_1 : decode cX1_inAll 1 = .ok (.ifCond .lt 17, 3) := by decide +kernel
theorem dX1_inAll_4 : decode cX1_inAll 4 = .ok (.iload_n 1, 1) := by decide +kernel
theorem dX1_inAll_5 : decode cX1_inAll 5 = .ok (.iconst 5, 1) := by decide +kernel
theorem dX1_inAll_6 : decode cX1_inAll 6 = .ok (.if_icmp .ge 12, 3) := by decide +kernel
theorem dX1_inAll_9 : decode cX1_inAll 9 = .ok (.aload_n 0, 1) := by decide +kernel
theorem dX1_inAll_10 : decode cX1_inAll 10 = .ok (.getfield 18, 3) := by decide +kernel
theorem dX1_inAll_13 : decode cX1_inAll 13 = .ok (.iload_n 1, 1) := by decide +kernel
theorem dX1_inAll_14 : decode cX1_inAll 14 = .ok (.iaload, 1) := by decide +kernel
theorem dX1_inAll_15 : decode cX1_inAll 15 = .ok (.goto 4, 3) := by decide +kernel
theorem dX1_inAll_18 : decode cX1_inAll 18 = .ok (.iconst (-1), 1) := by decide +kernel
theorem dX1_inAll_19 : decode cX1_inAll 19 = .ok (.ireturn, 1) := by decide +kernel
theorem dX1_swum_0 : decode cX1_swum 0 = .ok (.aload_n 2, 1) := by decide +kernel
theorem dX1_swum_1 : decode cX1_swum 1 = .ok (.invokevirtual 31, 3) := by decide +kernel
theorem dX1_swum_4 : decode cX1_swum 4 = .ok (.istore 5, 2) := by decide +kernel
theorem dX1_swum_6 : decode cX1_swum 6 = .ok (.iconst 0, 1) := by decide +kernel
theorem dX1_swum_7 : decode cX1_swum 7 = .ok (.istore 6, 2) := by decide +kernel
theorem dX1_swum_9 : decode cX1_swum 9 = .ok (.iload 6, 2) := by decide +kernel
theorem dX1_swum_11 : decode cX1_swum 11 = .ok (.iload_n 1, 1) := by decide +kernel
theorem dX1_swum_12 : decode cX1_swum 12 = .ok (.bipush 8, 2) := by decide +kernel
theorem dX1_swum_14 : decode cX1_swum 14 = .ok (.invokestatic 37, 3) := by decide +kernel
theorem dX1_swum_17 : decode cX1_swum 17 = .ok (.if_icmp .ge 48, 3) := by decide +kernel
theorem dX1_swum_20 : decode cX1_swum 20 = .ok (.aload_n 0, 1) := by decide +kernel
theorem dX1_swum_21 : decode cX1_swum 21 = .ok (.iload 6, 2) := by decide +kernel
theorem dX1_swum_23 : decode cX1_swum 23 = .ok (.iload 5, 2) := by decide +kernel
theorem dX1_swum_25 : decode cX1_swum 25 = .ok (.invokevirtual 43, 3) := by decide +kernel
theorem dX1_swum_28 : decode cX1_swum 28 = .ok (.iload 4, 2) := by decide +kernel
theorem dX1_swum_30 : decode cX1_swum 30 = .ok (.iconst 1, 1) := by decide +kernel
theorem dX1_swum_31 : decode cX1_swum 31 = .ok (.iload 6, 2) := by decide +kernel
theorem dX1_swum_33 : decode cX1_swum 33 = .ok (.ishl, 1) := by decide +kernel
theorem dX1_swum_34 : decode cX1_swum 34 = .ok (.iand, 1) := by decide +kernel
theorem dX1_swum_35 : decode cX1_swum 35 = .ok (.ifCond .eq 24, 3) := by decide +kernel
theorem dX1_swum_38 : decode cX1_swum 38 = .ok (.aload_n 0, 1) := by decide +kernel
theorem dX1_swum_39 : decode cX1_swum 39 = .ok (.getfield 15, 3) := by decide +kernel
theorem dX1_swum_42 : decode cX1_swum 42 = .ok (.iload 6, 2) := by decide +kernel
theorem dX1_swum_44 : decode cX1_swum 44 = .ok (.dup2, 1) := by decide +kernel
theorem dX1_swum_45 : decode cX1_swum 45 = .ok (.iaload, 1) := by decide +kernel
theorem dX1_swum_46 : decode cX1_swum 46 = .ok (.iconst 1, 1) := by decide +kernel
theorem dX1_swum_47 : decode cX1_swum 47 = .ok (.iadd, 1) := by decide +kernel
theorem dX1_swum_48 : decode cX1_swum 48 = .ok (.iastore, 1) := by decide +kernel
theorem dX1_swum_49 : decode cX1_swum 49 = .ok (.aload_n 0, 1) := by decide +kernel
theorem dX1_swum_50 : decode cX1_swum 50 = .ok (.getfield 18, 3) := by decide +kernel
theorem dX1_swum_53 : decode cX1_swum 53 = .ok (.iconst 3, 1) := by decide +kernel
theorem dX1_swum_54 : decode cX1_swum 54 = .ok (.dup2, 1) := by decide +kernel
theorem dX1_swum_55 : decode cX1_swum 55 = .ok (.iaload, 1) := by decide +kernel
theorem dX1_swum_56 : decode cX1_swum 56 = .ok (.iconst 1, 1) := by decide +kernel
theorem dX1_swum_57 : decode cX1_swum 57 = .ok (.iadd, 1) := by decide +kernel
theorem dX1_swum_58 : decode cX1_swum 58 = .ok (.iastore, 1) := by decide +kernel
theorem dX1_swum_59 : decode cX1_swum 59 = .ok (.iinc 6 1, 3) := by decide +kernel
theorem dX1_swum_62 : decode cX1_swum 62 = .ok (.goto (-53), 3) := by decide +kernel
theorem dX1_swum_65 : decode cX1_swum 65 = .ok (.aload_n 0, 1) := by decide +kernel
theorem dX1_swum_66 : decode cX1_swum 66 = .ok (.getfield 18, 3) := by decide +kernel
theorem dX1_swum_69 : decode cX1_swum 69 = .ok (.iconst 0, 1) := by decide +kernel
theorem dX1_swum_70 : decode cX1_swum 70 = .ok (.dup2, 1) := by decide +kernel
theorem dX1_swum_71 : decode cX1_swum 71 = .ok (.iaload, 1) := by decide +kernel
theorem dX1_swum_72 : decode cX1_swum 72 = .ok (.iconst 1, 1) := by decide +kernel
theorem dX1_swum_73 : decode cX1_swum 73 = .ok (.iadd, 1) := by decide +kernel
theorem dX1_swum_74 : decode cX1_swum 74 = .ok (.iastore, 1) := by decide +kernel
theorem dX1_swum_75 : decode cX1_swum 75 = .ok (.aload_n 0, 1) := by decide +kernel
theorem dX1_swum_76 : decode cX1_swum 76 = .ok (.getfield 18, 3) := by decide +kernel
theorem dX1_swum_79 : decode cX1_swum 79 = .ok (.iconst 1, 1) := by decide +kernel
theorem dX1_swum_80 : decode cX1_swum 80 = .ok (.dup2, 1) := by decide +kernel
theorem dX1_swum_81 : decode cX1_swum 81 = .ok (.iaload, 1) := by decide +kernel
theorem dX1_swum_82 : decode cX1_swum 82 = .ok (.aload_n 2, 1) := by decide +kernel
theorem dX1_swum_83 : decode cX1_swum 83 = .ok (.invokevirtual 47, 3) := by decide +kernel
theorem dX1_swum_86 : decode cX1_swum 86 = .ok (.iadd, 1) := by decide +kernel
theorem dX1_swum_87 : decode cX1_swum 87 = .ok (.iastore, 1) := by decide +kernel
theorem dX1_swum_88 : decode cX1_swum 88 = .ok (.aload_n 0, 1) := by decide +kernel
theorem dX1_swum_89 : decode cX1_swum 89 = .ok (.getfield 18, 3) := by decide +kernel
theorem dX1_swum_92 : decode cX1_swum 92 = .ok (.iconst 2, 1) := by decide +kernel
theorem dX1_swum_93 : decode cX1_swum 93 = .ok (.dup2, 1) := by decide +kernel
theorem dX1_swum_94 : decode cX1_swum 94 = .ok (.iaload, 1) := by decide +kernel
theorem dX1_swum_95 : decode cX1_swum 95 = .ok (.iload_n 3, 1) := by decide +kernel
theorem dX1_swum_96 : decode cX1_swum 96 = .ok (.iadd, 1) := by decide +kernel
theorem dX1_swum_97 : decode cX1_swum 97 = .ok (.iastore, 1) := by decide +kernel
theorem dX1_swum_98 : decode cX1_swum 98 = .ok (.return_, 1) := by decide +kernel
theorem dX1_tire_0 : decode cX1_tire 0 = .ok (.aload_n 0, 1) := by decide +kernel
theorem dX1_tire_1 : decode cX1_tire 1 = .ok (.getfield 9, 3) := by decide +kernel
theorem dX1_tire_4 : decode cX1_tire 4 = .ok (.iload_n 1, 1) := by decide +kernel
theorem dX1_tire_5 : decode cX1_tire 5 = .ok (.dup2, 1) := by decide +kernel
theorem dX1_tire_6 : decode cX1_tire 6 = .ok (.iaload, 1) := by decide +kernel
theorem dX1_tire_7 : decode cX1_tire 7 = .ok (.iload_n 2, 1) := by decide +kernel
theorem dX1_tire_8 : decode cX1_tire 8 = .ok (.iadd, 1) := by decide +kernel
theorem dX1_tire_9 : decode cX1_tire 9 = .ok (.iastore, 1) := by decide +kernel
theorem dX1_tire_10 : decode cX1_tire 10 = .ok (.aload_n 0, 1) := by decide +kernel
theorem dX1_tire_11 : decode cX1_tire 11 = .ok (.getfield 9, 3) := by decide +kernel
theorem dX1_tire_14 : decode cX1_tire 14 = .ok (.iload_n 1, 1) := by decide +kernel
theorem dX1_tire_15 : decode cX1_tire 15 = .ok (.iaload, 1) := by decide +kernel
theorem dX1_tire_16 : decode cX1_tire 16 = .ok (.bipush 100, 2) := by decide +kernel
theorem dX1_tire_18 : decode cX1_tire 18 = .ok (.if_icmp .lt 20, 3) := by decide +kernel
theorem dX1_tire_21 : decode cX1_tire 21 = .ok (.aload_n 0, 1) := by decide +kernel
theorem dX1_tire_22 : decode cX1_tire 22 = .ok (.getfield 9, 3) := by decide +kernel
theorem dX1_tire_25 : decode cX1_tire 25 = .ok (.iload_n 1, 1) := by decide +kernel
theorem dX1_tire_26 : decode cX1_tire 26 = .ok (.iconst 0, 1) := by decide +kernel
theorem dX1_tire_27 : decode cX1_tire 27 = .ok (.iastore, 1) := by decide +kernel
theorem dX1_tire_28 : decode cX1_tire 28 = .ok (.aload_n 0, 1) := by decide +kernel
theorem dX1_tire_29 : decode cX1_tire 29 = .ok (.getfield 18, 3) := by decide +kernel
theorem dX1_tire_32 : decode cX1_tire 32 = .ok (.iconst 4, 1) := by decide +kernel
theorem dX1_tire_33 : decode cX1_tire 33 = .ok (.dup2, 1) := by decide +kernel
theorem dX1_tire_34 : decode cX1_tire 34 = .ok (.iaload, 1) := by decide +kernel
theorem dX1_tire_35 : decode cX1_tire 35 = .ok (.iconst 1, 1) := by decide +kernel
theorem dX1_tire_36 : decode cX1_tire 36 = .ok (.iadd, 1) := by decide +kernel
theorem dX1_tire_37 : decode cX1_tire 37 = .ok (.iastore, 1) := by decide +kernel
theorem dX1_tire_38 : decode cX1_tire 38 = .ok (.return_, 1) := by decide +kernel
theorem dX1_hasImage_0 : decode cX1_hasImage 0 = .ok (.aload_n 0, 1) := by decide +kernel
theorem dX1_hasImage_1 : decode cX1_hasImage 1 = .ok (.getfield 50, 3) := by decide +kernel
theorem dX1_hasImage_4 : decode cX1_hasImage 4 = .ok (.ireturn, 1) := by decide +kernel
theorem dX1_keepImage_0 : decode cX1_keepImage 0 = .ok (.aload_n 0, 1) := by decide +kernel
theorem dX1_keepImage_1 : decode cX1_keepImage 1 = .ok (.getfield 9, 3) := by decide +kernel
theorem dX1_keepImage_4 : decode cX1_keepImage 4 = .ok (.iconst 0, 1) := by decide +kernel
theorem dX1_keepImage_5 : decode cX1_keepImage 5 = .ok (.aload_n 0, 1) := by decide +kernel
theorem dX1_keepImage_6 : decode cX1_keepImage 6 = .ok (.getfield 21, 3) := by decide +kernel
theorem dX1_keepImage_9 : decode cX1_keepImage 9 = .ok (.iconst 0, 1) := by decide +kernel
theorem dX1_keepImage_10 : decode cX1_keepImage 10 = .ok (.bipush 8, 2) := by decide +kernel
theorem dX1_keepImage_12 : decode cX1_keepImage 12 = .ok (.invokestatic 54, 3) := by decide +kernel
theorem dX1_keepImage_15 : decode cX1_keepImage 15 = .ok (.aload_n 0, 1) := by decide +kernel
theorem dX1_keepImage_16 : decode cX1_keepImage 16 = .ok (.getfield 15, 3) := by decide +kernel
theorem dX1_keepImage_19 : decode cX1_keepImage 19 = .ok (.iconst 0, 1) := by decide +kernel
theorem dX1_keepImage_20 : decode cX1_keepImage 20 = .ok (.aload_n 0, 1) := by decide +kernel
theorem dX1_keepImage_21 : decode cX1_keepImage 21 = .ok (.getfield 24, 3) := by decide +kernel
theorem dX1_keepImage_24 : decode cX1_keepImage 24 = .ok (.iconst 0, 1) := by decide +kernel
theorem dX1_keepImage_25 : decode cX1_keepImage 25 = .ok (.bipush 8, 2) := by decide +kernel
theorem dX1_keepImage_27 : decode cX1_keepImage 27 = .ok (.invokestatic 54, 3) := by decide +kernel
theorem dX1_keepImage_30 : decode cX1_keepImage 30 = .ok (.aload_n 0, 1) := by decide +kernel
theorem dX1_keepImage_31 : decode cX1_keepImage 31 = .ok (.getfield 18, 3) := by decide +kernel
theorem dX1_keepImage_34 : decode cX1_keepImage 34 = .ok (.iconst 0, 1) := by decide +kernel
theorem dX1_keepImage_35 : decode cX1_keepImage 35 = .ok (.aload_n 0, 1) := by decide +kernel
theorem dX1_keepImage_36 : decode cX1_keepImage 36 = .ok (.getfield 27, 3) := by decide +kernel
theorem dX1_keepImage_39 : decode cX1_keepImage 39 = .ok (.iconst 0, 1) := by decide +kernel
theorem dX1_keepImage_40 : decode cX1_keepImage 40 = .ok (.iconst 5, 1) := by decide +kernel
theorem dX1_keepImage_41 : decode cX1_keepImage 41 = .ok (.invokestatic 54, 3) := by decide +kernel
theorem dX1_keepImage_44 : decode cX1_keepImage 44 = .ok (.aload_n 0, 1) := by decide +kernel
theorem dX1_keepImage_45 : decode cX1_keepImage 45 = .ok (.iconst 1, 1) := by decide +kernel
theorem dX1_keepImage_46 : decode cX1_keepImage 46 = .ok (.putfield 50, 3) := by decide +kernel
theorem dX1_keepImage_49 : decode cX1_keepImage 49 = .ok (.return_, 1) := by decide +kernel
theorem dX1_layBack_0 : decode cX1_layBack 0 = .ok (.aload_n 0, 1) := by decide +kernel
theorem dX1_layBack_1 : decode cX1_layBack 1 = .ok (.getfield 21, 3) := by decide +kernel
theorem dX1_layBack_4 : decode cX1_layBack 4 = .ok (.iconst 0, 1) := by decide +kernel
theorem dX1_layBack_5 : decode cX1_layBack 5 = .ok (.aload_n 0, 1) := by decide +kernel
theorem dX1_layBack_6 : decode cX1_layBack 6 = .ok (.getfield 9, 3) := by decide +kernel
theorem dX1_layBack_9 : decode cX1_layBack 9 = .ok (.iconst 0, 1) := by decide +kernel
theorem dX1_layBack_10 : decode cX1_layBack 10 = .ok (.bipush 8, 2) := by decide +kernel
theorem dX1_layBack_12 : decode cX1_layBack 12 = .ok (.invokestatic 54, 3) := by decide +kernel
theorem dX1_layBack_15 : decode cX1_layBack 15 = .ok (.aload_n 0, 1) := by decide +kernel
theorem dX1_layBack_16 : decode cX1_layBack 16 = .ok (.getfield 24, 3) := by decide +kernel
theorem dX1_layBack_19 : decode cX1_layBack 19 = .ok (.iconst 0, 1) := by decide +kernel
theorem dX1_layBack_20 : decode cX1_layBack 20 = .ok (.aload_n 0, 1) := by decide +kernel
theorem dX1_layBack_21 : decode cX1_layBack 21 = .ok (.getfield 15, 3) := by decide +kernel
theorem dX1_layBack_24 : decode cX1_layBack 24 = .ok (.iconst 0, 1) := by decide +kernel
theorem dX1_layBack_25 : decode cX1_layBack 25 = .ok (.bipush 8, 2) := by decide +kernel
theorem dX1_layBack_27 : decode cX1_layBack 27 = .ok (.invokestatic 54, 3) := by decide +kernel
theorem dX1_layBack_30 : decode cX1_layBack 30 = .ok (.aload_n 0, 1) := by decide +kernel
theorem dX1_layBack_31 : decode cX1_layBack 31 = .ok (.getfield 27, 3) := by decide +kernel
theorem dX1_layBack_34 : decode cX1_layBack 34 = .ok (.iconst 0, 1) := by decide +kernel
theorem dX1_layBack_35 : decode cX1_layBack 35 = .ok (.aload_n 0, 1) := by decide +kernel
theorem dX1_layBack_36 : decode cX1_layBack 36 = .ok (.getfield 18, 3) := by decide +kernel
theorem dX1_layBack_39 : decode cX1_layBack 39 = .ok (.iconst 0, 1) := by decide +kernel
theorem dX1_layBack_40 : decode cX1_layBack 40 = .ok (.iconst 5, 1) := by decide +kernel
theorem dX1_layBack_41 : decode cX1_layBack 41 = .ok (.invokestatic 54, 3) := by decide +kernel
theorem dX1_layBack_44 : decode cX1_layBack 44 = .ok (.return_, 1) := by decide +kernel
theorem dX2_init_0 : decode cX2_init 0 = .ok (.aload_n 0, 1) := by decide +kernel
theorem dX2_init_1 : decode cX2_init 1 = .ok (.invokespecial 3, 3) := by decide +kernel
theorem dX2_init_4 : decode cX2_init 4 = .ok (.aload_n 0, 1) := by decide +kernel
theorem dX2_init_5 : decode cX2_init 5 = .ok (.bipush 17, 2) := by decide +kernel
theorem dX2_init_7 : decode cX2_init 7 = .ok (.sipush 170, 3) := by decide +kernel
theorem dX2_init_10 : decode cX2_init 10 = .ok (.multianewarray 11 2, 4) := by decide +kernel
theorem dX2_init_14 : decode cX2_init 14 = .ok (.putfield 13, 3) := by decide +kernel
theorem dX2_init_17 : decode cX2_init 17 = .ok (.aload_n 0, 1) := by decide +kernel
theorem dX2_init_18 : decode cX2_init 18 = .ok (.bipush 16, 2) := by decide +kernel
theorem dX2_init_20 : decode cX2_init 20 = .ok (.newarray .int, 2) := by decide +kernel
theorem dX2_init_22 : decode cX2_init 22 = .ok (.putfield 16, 3) := by decide +kernel
theorem dX2_init_25 : decode cX2_init 25 = .ok (.aload_n 0, 1) := by decide +kernel
theorem dX2_init_26 : decode cX2_init 26 = .ok (.bipush 17, 2) := by decide +kernel
theorem dX2_init_28 : decode cX2_init 28 = .ok (.newarray .boolean, 2) := by decide +kernel
theorem dX2_init_30 : decode cX2_init 30 = .ok (.putfield 20, 3) := by decide +kernel
theorem dX2_init_33 : decode cX2_init 33 = .ok (.return_, 1) := by decide +kernel
theorem dX2_chooseGasps_0 : decode cX2_chooseGasps 0 = .ok (.aload_n 0, 1) := by decide +kernel
theorem dX2_chooseGasps_1 : decode cX2_chooseGasps 1 = .ok (.iconst 0, 1) := by decide +kernel
theorem dX2_chooseGasps_2 : decode cX2_chooseGasps 2 = .ok (.putfield 24, 3) := by decide +kernel
theorem dX2_chooseGasps_5 : decode cX2_chooseGasps 5 = .ok (.aload_n 0, 1) := by decide +kernel
theorem dX2_chooseGasps_6 : decode cX2_chooseGasps 6 = .ok (.iload_n 2, 1) := by decide +kernel
theorem dX2_chooseGasps_7 : decode cX2_chooseGasps 7 = .ok (.putfield 28, 3) := by decide +kernel
theorem dX2_chooseGasps_10 : decode cX2_chooseGasps 10 = .ok (.aload_n 0, 1) := by decide +kernel
theorem dX2_chooseGasps_11 : decode cX2_chooseGasps 11 = .ok (.iload_n 3, 1) := by decide +kernel
theorem dX2_chooseGasps_12 : decode cX2_chooseGasps 12 = .ok (.putfield 32, 3) := by decide +kernel
theorem dX2_chooseGasps_15 : decode cX2_chooseGasps 15 = .ok (.aload_n 0, 1) := by decide +kernel
theorem dX2_chooseGasps_16 : decode cX2_chooseGasps 16 = .ok (.aload_n 1, 1) := by decide +kernel
theorem dX2_chooseGasps_17 : decode cX2_chooseGasps 17 = .ok (.iconst 1, 1) := by decide +kernel
theorem dX2_chooseGasps_18 : decode cX2_chooseGasps 18 = .ok (.iconst 0, 1) := by decide +kernel
theorem dX2_chooseGasps_19 : decode cX2_chooseGasps 19 = .ok (.invokevirtual 37, 3) := by decide +kernel
theorem dX2_chooseGasps_22 : decode cX2_chooseGasps 22 = .ok (.return_, 1) := by decide +kernel
theorem dX2_chooseLooks_0 : decode cX2_chooseLooks 0 = .ok (.aload_n 0, 1) := by decide +kernel
theorem dX2_chooseLooks_1 : decode cX2_chooseLooks 1 = .ok (.iconst 1, 1) := by decide +kernel
theorem dX2_chooseLooks_2 : decode cX2_chooseLooks 2 = .ok (.putfield 24, 3) := by decide +kernel
theorem dX2_chooseLooks_5 : decode cX2_chooseLooks 5 = .ok (.aload_n 0, 1) := by decide +kernel
theorem dX2_chooseLooks_6 : decode cX2_chooseLooks 6 = .ok (.aload_n 2, 1) := by decide +kernel
theorem dX2_chooseLooks_7 : decode cX2_chooseLooks 7 = .ok (.invokevirtual 41, 3) := by decide +kernel
theorem dX2_chooseLooks_10 : decode cX2_chooseLooks 10 = .ok (.putfield 47, 3) := by decide +kernel
theorem dX2_chooseLooks_13 : decode cX2_chooseLooks 13 = .ok (.iconst 0, 1) := by decide +kernel
theorem dX2_chooseLooks_14 : decode cX2_chooseLooks 14 = .ok (.istore_n 3, 1) := by decide +kernel
theorem dX2_chooseLooks_15 : decode cX2_chooseLooks 15 = .ok (.iload_n 3, 1) := by decide +kernel
theorem dX2_chooseLooks_16 : decode cX2_chooseLooks 16 = .ok (.bipush 16, 2) := by decide +kernel
theorem dX2_chooseLooks_18 : decode cX2_chooseLooks 18 = .ok (.if_icmp .gt 20, 3) := by decide +kernel
theorem dX2_chooseLooks_21 : decode cX2_chooseLooks 21 = .ok (.aload_n 0, 1) := by decide +kernel
theorem dX2_chooseLooks_22 : decode cX2_chooseLooks 22 = .ok (.getfield 20, 3) := by decide +kernel
theorem dX2_chooseLooks_25 : decode cX2_chooseLooks 25 = .ok (.iload_n 3, 1) := by decide +kernel
theorem dX2_chooseLooks_26 : decode cX2_chooseLooks 26 = .ok (.aload_n 2, 1) := by decide +kernel
theorem dX2_chooseLooks_27 : decode cX2_chooseLooks 27 = .ok (.iload_n 3, 1) := by decide +kernel
theorem dX2_chooseLooks_28 : decode cX2_chooseLooks 28 = .ok (.invokevirtual 50, 3) := by decide +kernel
theorem dX2_chooseLooks_31 : decode cX2_chooseLooks 31 = .ok (.bastore, 1) := by decide +kernel
theorem dX2_chooseLooks_32 : decode cX2_chooseLooks 32 = .ok (.iinc 3 1, 3) := by decide +kernel
theorem dX2_chooseLooks_35 : decode cX2_chooseLooks 35 = .ok (.goto (-20), 3) := by decide +kernel
theorem dX2_chooseLooks_38 : decode cX2_chooseLooks 38 = .ok (.aload_n 0, 1) := by decide +kernel
theorem dX2_chooseLooks_39 : decode cX2_chooseLooks 39 = .ok (.aload_n 1, 1) := by decide +kernel
theorem dX2_chooseLooks_40 : decode cX2_chooseLooks 40 = .ok (.iconst 0, 1) := by decide +kernel
theorem dX2_chooseLooks_41 : decode cX2_chooseLooks 41 = .ok (.iconst 4, 1) := by decide +kernel
theorem dX2_chooseLooks_42 : decode cX2_chooseLooks 42 = .ok (.invokevirtual 37, 3) := by decide +kernel
theorem dX2_chooseLooks_45 : decode cX2_chooseLooks 45 = .ok (.return_, 1) := by decide +kernel
theorem dX2_answer_0 : decode cX2_answer 0 = .ok (.aload_n 0, 1) := by decide +kernel
theorem dX2_answer_1 : decode cX2_answer 1 = .ok (.getfield 54, 3) := by decide +kernel
theorem dX2_answer_4 : decode cX2_answer 4 = .ok (.bipush 10, 2) := by decide +kernel
theorem dX2_answer_6 : decode cX2_answer 6 = .ok (.if_icmp .le 6, 3) := by decide +kernel
theorem dX2_answer_9 : decode cX2_answer 9 = .ok (.bipush (-2), 2) := by decide +kernel
theorem dX2_answer_11 : decode cX2_answer 11 = .ok (.ireturn, 1) := by decide +kernel
theorem dX2_answer_12 : decode cX2_answer 12 = .ok (.iload_n 1, 1) := by decide +kernel
theorem dX2_answer_13 : decode cX2_answer 13 = .ok (.iconst (-1), 1) := by decide +kernel
theorem dX2_answer_14 : decode cX2_answer 14 = .ok (.if_icmp .ne 8, 3) := by decide +kernel
theorem dX2_answer_17 : decode cX2_answer 17 = .ok (.aload_n 0, 1) := by decide +kernel
theorem dX2_answer_18 : decode cX2_answer 18 = .ok (.getfield 54, 3) := by decide +kernel
theorem dX2_answer_21 : decode cX2_answer 21 = .ok (.ireturn, 1) := by decide +kernel
theorem dX2_answer_22 : decode cX2_answer 22 = .ok (.iload_n 1, 1) := by decide +kernel
theorem dX2_answer_23 : decode cX2_answer 23 = .ok (.ifCond .lt 20, 3) := by decide +kernel
theorem dX2_answer_26 : decode cX2_answer 26 = .ok (.iload_n 1, 1) := by decide +kernel
theorem dX2_answer_27 : decode cX2_answer 27 = .ok (.aload_n 0, 1) := by decide +kernel
theorem dX2_answer_28 : decode cX2_answer 28 = .ok (.getfield 54, 3) := by decide +kernel
theorem dX2_answer_31 : decode cX2_answer 31 = .ok (.if_icmp .ge 12, 3) := by decide +kernel
theorem dX2_answer_34 : decode cX2_answer 34 = .ok (.aload_n 0, 1) := by decide +kernel
theorem dX2_answer_35 : decode cX2_answer 35 = .ok (.getfield 16, 3) := by decide +kernel
theorem dX2_answer_38 : decode cX2_answer 38 = .ok (.iload_n 1, 1) := by decide +kernel
theorem dX2_answer_39 : decode cX2_answer 39 = .ok (.iaload, 1) := by decide +kernel
theorem dX2_answer_40 : decode cX2_answer 40 = .ok (.goto 5, 3) := by decide +kernel
theorem dX2_answer_43 : decode cX2_answer 43 = .ok (.bipush (-2), 2) := by decide +kernel
theorem dX2_answer_45 : decode cX2_answer 45 = .ok (.ireturn, 1) := by decide +kernel
theorem dX2_choose_0 : decode cX2_choose 0 = .ok (.aload_n 1, 1) := by decide +kernel
theorem dX2_choose_1 : decode cX2_choose 1 = .ok (.invokevirtual 57, 3) := by decide +kernel
theorem dX2_choose_4 : decode cX2_choose 4 = .ok (.bipush 16, 2) := by decide +kernel
theorem dX2_choose_6 : decode cX2_choose 6 = .ok (.invokestatic 61, 3) := by decide +kernel
theorem dX2_choose_9 : decode cX2_choose 9 = .ok (.istore 4, 2) := by decide +kernel
theorem dX2_choose_11 : decode cX2_choose 11 = .ok (.iconst 0, 1) := by decide +kernel
theorem dX2_choose_12 : decode cX2_choose 12 = .ok (.istore 5, 2) := by decide +kernel
theorem dX2_choose_14 : decode cX2_choose 14 = .ok (.iload 5, 2) := by decide +kernel
theorem dX2_choose_16 : decode cX2_choose 16 = .ok (.sipush 170, 3) := by decide +kernel
theorem dX2_choose_19 : decode cX2_choose 19 = .ok (.if_icmp .ge 20, 3) := by decide +kernel
theorem dX2_choose_22 : decode cX2_choose 22 = .ok (.aload_n 0, 1) := by decide +kernel
theorem dX2_choose_23 : decode cX2_choose 23 = .ok (.getfield 13, 3) := by decide +kernel
theorem dX2_choose_26 : decode cX2_choose 26 = .ok (.iload 4, 2) := by decide +kernel
theorem dX2_choose_28 : decode cX2_choose 28 = .ok (.aaload, 1) := by decide +kernel
theorem dX2_choose_29 : decode cX2_choose 29 = .ok (.iload 5, 2) := by decide +kernel
theorem dX2_choose_31 : decode cX2_choose 31 = .ok (.iconst 0, 1) := by decide +kernel
theorem dX2_choose_32 : decode cX2_choose 32 = .ok (.iastore, 1) := by decide +kernel
theorem dX2_choose_33 : decode cX2_choose 33 = .ok (.iinc 5 1, 3) := by decide +kernel
theorem dX2_choose_36 : decode cX2_choose 36 = .ok (.goto (-22), 3) := by decide +kernel
theorem dX2_choose_39 : decode cX2_choose 39 = .ok (.iload 4, 2) := by decide +kernel
theorem dX2_choose_41 : decode cX2_choose 41 = .ok (.iconst 1, 1) := by decide +kernel
theorem dX2_choose_42 : decode cX2_choose 42 = .ok (.isub, 1) := by decide +kernel
theorem dX2_choose_43 : decode cX2_choose 43 = .ok (.istore 5, 2) := by decide +kernel
theorem dX2_choose_45 : decode cX2_choose 45 = .ok (.iload 5, 2) := by decide +kernel
theorem dX2_choose_47 : decode cX2_choose 47 = .ok (.ifCond .lt 106, 3) := by decide +kernel
theorem dX2_choose_50 : decode cX2_choose 50 = .ok (.iconst 0, 1) := by decide +kernel
theorem dX2_choose_51 : decode cX2_choose 51 = .ok (.istore 6, 2) := by decide +kernel
theorem dX2_choose_53 : decode cX2_choose 53 = .ok (.iload 6, 2) := by decide +kernel
theorem dX2_choose_55 : decode cX2_choose 55 = .ok (.sipush 170, 3) := by decide +kernel
theorem dX2_choose_58 : decode cX2_choose 58 = .ok (.if_icmp .ge 89, 3) := by decide +kernel
theorem dX2_choose_61 : decode cX2_choose 61 = .ok (.aload_n 0, 1) := by decide +kernel
theorem dX2_choose_62 : decode cX2_choose 62 = .ok (.iload 5, 2) := by decide +kernel
theorem dX2_choose_64 : decode cX2_choose 64 = .ok (.iconst 1, 1) := by decide +kernel
theorem dX2_choose_65 : decode cX2_choose 65 = .ok (.iadd, 1) := by decide +kernel
theorem dX2_choose_66 : decode cX2_choose 66 = .ok (.aload_n 0, 1) := by decide +kernel
theorem dX2_choose_67 : decode cX2_choose 67 = .ok (.iload 6, 2) := by decide +kernel
theorem dX2_choose_69 : decode cX2_choose 69 = .ok (.aload_n 1, 1) := by decide +kernel
theorem dX2_choose_70 : decode cX2_choose 70 = .ok (.iload 5, 2) := by decide +kernel
theorem dX2_choose_72 : decode cX2_choose 72 = .ok (.invokevirtual 67, 3) := by decide +kernel
theorem dX2_choose_75 : decode cX2_choose 75 = .ok (.invokevirtual 71, 3) := by decide +kernel
theorem dX2_choose_78 : decode cX2_choose 78 = .ok (.invokevirtual 74, 3) := by decide +kernel
theorem dX2_choose_81 : decode cX2_choose 81 = .ok (.istore 7, 2) := by decide +kernel
theorem dX2_choose_83 : decode cX2_choose 83 = .ok (.aload_n 1, 1) := by decide +kernel
theorem dX2_choose_84 : decode cX2_choose 84 = .ok (.iload 5, 2) := by decide +kernel
theorem dX2_choose_86 : decode cX2_choose 86 = .ok (.invokevirtual 67, 3) := by decide +kernel
theorem dX2_choose_89 : decode cX2_choose 89 = .ok (.iload_n 2, 1) := by decide +kernel
theorem dX2_choose_90 : decode cX2_choose 90 = .ok (.if_icmp .ne 23, 3) := by decide +kernel
theorem dX2_choose_93 : decode cX2_choose 93 = .ok (.iconst 1, 1) := by decide +kernel
theorem dX2_choose_94 : decode cX2_choose 94 = .ok (.aload_n 0, 1) := by decide +kernel
theorem dX2_choose_95 : decode cX2_choose 95 = .ok (.iload 5, 2) := by decide +kernel
theorem dX2_choose_97 : decode cX2_choose 97 = .ok (.iconst 1, 1) := by decide +kernel
theorem dX2_choose_98 : decode cX2_choose 98 = .ok (.iadd, 1) := by decide +kernel
theorem dX2_choose_99 : decode cX2_choose 99 = .ok (.aload_n 0, 1) := by decide +kernel
theorem dX2_choose_100 : decode cX2_choose 100 = .ok (.iload 6, 2) := by decide +kernel
theorem dX2_choose_102 : decode cX2_choose 102 = .ok (.iload_n 3, 1) := by decide +kernel
theorem dX2_choose_103 : decode cX2_choose 103 = .ok (.invokevirtual 71, 3) := by decide +kernel
theorem dX2_choose_106 : decode cX2_choose 106 = .ok (.invokevirtual 74, 3) := by decide +kernel
theorem dX2_choose_109 : decode cX2_choose 109 = .ok (.iadd, 1) := by decide +kernel
theorem dX2_choose_110 : decode cX2_choose 110 = .ok (.goto 6, 3) := by decide +kernel
theorem dX2_choose_113 : decode cX2_choose 113 = .ok (.sipush 1000, 3) := by decide +kernel
theorem dX2_choose_116 : decode cX2_choose 116 = .ok (.istore 8, 2) := by decide +kernel
theorem dX2_choose_118 : decode cX2_choose 118 = .ok (.aload_n 0, 1) := by decide +kernel
theorem dX2_choose_119 : decode cX2_choose 119 = .ok (.getfield 13, 3) := by decide +kernel
theorem dX2_choose_122 : decode cX2_choose 122 = .ok (.iload 5, 2) := by decide +kernel
theorem dX2_choose_124 : decode cX2_choose 124 = .ok (.aaload, 1) := by decide +kernel
theorem dX2_choose_125 : decode cX2_choose 125 = .ok (.iload 6, 2) := by decide +kernel
theorem dX2_choose_127 : decode cX2_choose 127 = .ok (.sipush 1000, 3) := by decide +kernel
theorem dX2_choose_130 : decode cX2_choose 130 = .ok (.iload 7, 2) := by decide +kernel
theorem dX2_choose_132 : decode cX2_choose 132 = .ok (.iload 8, 2) := by decide +kernel
theorem dX2_choose_134 : decode cX2_choose 134 = .ok (.invokestatic 61, 3) := by decide +kernel
theorem dX2_choose_137 : decode cX2_choose 137 = .ok (.invokestatic 61, 3) := by decide +kernel
theorem dX2_choose_140 : decode cX2_choose 140 = .ok (.iastore, 1) := by decide +kernel
theorem dX2_choose_141 : decode cX2_choose 141 = .ok (.iinc 6 1, 3) := by decide +kernel
theorem dX2_choose_144 : decode cX2_choose 144 = .ok (.goto (-91), 3) := by decide +kernel
theorem dX2_choose_147 : decode cX2_choose 147 = .ok (.iinc 5 (-1), 3) := by decide +kernel
theorem dX2_choose_150 : decode cX2_choose 150 = .ok (.goto (-105), 3) := by decide +kernel
theorem dX2_choose_153 : decode cX2_choose 153 = .ok (.aload_n 0, 1) := by decide +kernel
theorem dX2_choose_154 : decode cX2_choose 154 = .ok (.aload_n 0, 1) := by decide +kernel
theorem dX2_choose_155 : decode cX2_choose 155 = .ok (.getfield 13, 3) := by decide +kernel
theorem dX2_choose_158 : decode cX2_choose 158 = .ok (.iconst 0, 1) := by decide +kernel
theorem dX2_choose_159 : decode cX2_choose 159 = .ok (.aaload, 1) := by decide +kernel
theorem dX2_choose_160 : decode cX2_choose 160 = .ok (.iconst 0, 1) := by decide +kernel
theorem dX2_choose_161 : decode cX2_choose 161 = .ok (.iaload, 1) := by decide +kernel
theorem dX2_choose_162 : decode cX2_choose 162 = .ok (.putfield 54, 3) := by decide +kernel
theorem dX2_choose_165 : decode cX2_choose 165 = .ok (.aload_n 0, 1) := by decide +kernel
theorem dX2_choose_166 : decode cX2_choose 166 = .ok (.getfield 54, 3) := by decide +kernel
theorem dX2_choose_169 : decode cX2_choose 169 = .ok (.bipush 10, 2) := by decide +kernel
theorem dX2_choose_171 : decode cX2_choose 171 = .ok (.if_icmp .gt 12, 3) := by decide +kernel
theorem dX2_choose_174 : decode cX2_choose 174 = .ok (.aload_n 0, 1) := by decide +kernel
theorem dX2_choose_175 : decode cX2_choose 175 = .ok (.aload_n 1, 1) := by decide +kernel
theorem dX2_choose_176 : decode cX2_choose 176 = .ok (.iload 4, 2) := by decide +kernel
theorem dX2_choose_178 : decode cX2_choose 178 = .ok (.iload_n 2, 1) := by decide +kernel
theorem dX2_choose_179 : decode cX2_choose 179 = .ok (.iload_n 3, 1) := by decide +kernel
theorem dX2_choose_180 : decode cX2_choose 180 = .ok (.invokevirtual 77, 3) := by decide +kernel
theorem dX2_choose_183 : decode cX2_choose 183 = .ok (.return_, 1) := by decide +kernel
theorem dX2_walk_0 : decode cX2_walk 0 = .ok (.iconst 0, 1) := by decide +kernel
theorem dX2_walk_1 : decode cX2_walk 1 = .ok (.istore 5, 2) := by decide +kernel
theorem dX2_walk_3 : decode cX2_walk 3 = .ok (.iconst 0, 1) := by decide +kernel
theorem dX2_walk_4 : decode cX2_walk 4 = .ok (.istore 6, 2) := by decide +kernel
theorem dX2_walk_6 : decode cX2_walk 6 = .ok (.iconst 0, 1) := by decide +kernel
theorem dX2_walk_7 : decode cX2_walk 7 = .ok (.istore 7, 2) := by decide +kernel
theorem dX2_walk_9 : decode cX2_walk 9 = .ok (.iload 7, 2) := by decide +kernel
theorem dX2_walk_11 : decode cX2_walk 11 = .ok (.iload_n 2, 1) := by decide +kernel
theorem dX2_walk_12 : decode cX2_walk 12 = .ok (.if_icmp .ge 94, 3) := by decide +kernel
theorem dX2_walk_15 : decode cX2_walk 15 = .ok (.iload 6, 2) := by decide +kernel
theorem dX2_walk_17 : decode cX2_walk 17 = .ok (.aload_n 0, 1) := by decide +kernel
theorem dX2_walk_18 : decode cX2_walk 18 = .ok (.getfield 54, 3) := by decide +kernel
theorem dX2_walk_21 : decode cX2_walk 21 = .ok (.if_icmp .ge 85, 3) := by decide +kernel
theorem dX2_walk_24 : decode cX2_walk 24 = .ok (.aload_n 0, 1) := by decide +kernel
theorem dX2_walk_25 : decode cX2_walk 25 = .ok (.iload 5, 2) := by decide +kernel
theorem dX2_walk_27 : decode cX2_walk 27 = .ok (.iload 4, 2) := by decide +kernel
theorem dX2_walk_29 : decode cX2_walk 29 = .ok (.invokevirtual 71, 3) := by decide +kernel
theorem dX2_walk_32 : decode cX2_walk 32 = .ok (.istore 8, 2) := by decide +kernel
theorem dX2_walk_34 : decode cX2_walk 34 = .ok (.aload_n 1, 1) := by decide +kernel
theorem dX2_walk_35 : decode cX2_walk 35 = .ok (.iload 7, 2) := by decide +kernel
theorem dX2_walk_37 : decode cX2_walk 37 = .ok (.invokevirtual 67, 3) := by decide +kernel
theorem dX2_walk_40 : decode cX2_walk 40 = .ok (.iload_n 3, 1) := by decide +kernel
theorem dX2_walk_41 : decode cX2_walk 41 = .ok (.if_icmp .ne 45, 3) := by decide +kernel
theorem dX2_walk_44 : decode cX2_walk 44 = .ok (.iconst 1, 1) := by decide +kernel
theorem dX2_walk_45 : decode cX2_walk 45 = .ok (.aload_n 0, 1) := by decide +kernel
theorem dX2_walk_46 : decode cX2_walk 46 = .ok (.iload 7, 2) := by decide +kernel
theorem dX2_walk_48 : decode cX2_walk 48 = .ok (.iconst 1, 1) := by decide +kernel
theorem dX2_walk_49 : decode cX2_walk 49 = .ok (.iadd, 1) := by decide +kernel
theorem dX2_walk_50 : decode cX2_walk 50 = .ok (.iload 8, 2) := by decide +kernel
theorem dX2_walk_52 : decode cX2_walk 52 = .ok (.invokevirtual 74, 3) := by decide +kernel
theorem dX2_walk_55 : decode cX2_walk 55 = .ok (.iadd, 1) := by decide +kernel
theorem dX2_walk_56 : decode cX2_walk 56 = .ok (.aload_n 0, 1) := by decide +kernel
theorem dX2_walk_57 : decode cX2_walk 57 = .ok (.iload 7, 2) := by decide +kernel
theorem dX2_walk_59 : decode cX2_walk 59 = .ok (.iload 5, 2) := by decide +kernel
theorem dX2_walk_61 : decode cX2_walk 61 = .ok (.invokevirtual 74, 3) := by decide +kernel
theorem dX2_walk_64 : decode cX2_walk 64 = .ok (.if_icmp .ne 22, 3) := by decide +kernel
theorem dX2_walk_67 : decode cX2_walk 67 = .ok (.aload_n 0, 1) := by decide +kernel
theorem dX2_walk_68 : decode cX2_walk 68 = .ok (.getfield 16, 3) := by decide +kernel
theorem dX2_walk_71 : decode cX2_walk 71 = .ok (.iload 6, 2) := by decide +kernel
theorem dX2_walk_73 : decode cX2_walk 73 = .ok (.iload 7, 2) := by decide +kernel
theorem dX2_walk_75 : decode cX2_walk 75 = .ok (.iastore, 1) := by decide +kernel
theorem dX2_walk_76 : decode cX2_walk 76 = .ok (.iinc 6 1, 3) := by decide +kernel
theorem dX2_walk_79 : decode cX2_walk 79 = .ok (.iload 8, 2) := by decide +kernel
theorem dX2_walk_81 : decode cX2_walk 81 = .ok (.istore 5, 2) := by decide +kernel
theorem dX2_walk_83 : decode cX2_walk 83 = .ok (.goto 17, 3) := by decide +kernel
theorem dX2_walk_86 : decode cX2_walk 86 = .ok (.aload_n 0, 1) := by decide +kernel
theorem dX2_walk_87 : decode cX2_walk 87 = .ok (.iload 5, 2) := by decide +kernel
theorem dX2_walk_89 : decode cX2_walk 89 = .ok (.aload_n 1, 1) := by decide +kernel
theorem dX2_walk_90 : decode cX2_walk 90 = .ok (.iload 7, 2) := by decide +kernel
theorem dX2_walk_92 : decode cX2_walk 92 = .ok (.invokevirtual 67, 3) := by decide +kernel
theorem dX2_walk_95 : decode cX2_walk 95 = .ok (.invokevirtual 71, 3) := by decide +kernel
theorem dX2_walk_98 : decode cX2_walk 98 = .ok (.istore 5, 2) := by decide +kernel
theorem dX2_walk_100 : decode cX2_walk 100 = .ok (.iinc 7 1, 3) := by decide +kernel
theorem dX2_walk_103 : decode cX2_walk 103 = .ok (.goto (-94), 3) := by decide +kernel
theorem dX2_walk_106 : decode cX2_walk 106 = .ok (.return_, 1) := by decide +kernel
theorem dX2_from_0 : decode cX2_from 0 = .ok (.iload_n 2, 1) := by decide +kernel
theorem dX2_from_1 : decode cX2_from 1 = .ok (.ifCond .lt 31, 3) := by decide +kernel
theorem dX2_from_4 : decode cX2_from 4 = .ok (.iload_n 2, 1) := by decide +kernel
theorem dX2_from_5 : decode cX2_from 5 = .ok (.sipush 170, 3) := by decide +kernel
theorem dX2_from_8 : decode cX2_from 8 = .ok (.if_icmp .ge 24, 3) := by decide +kernel
theorem dX2_from_11 : decode cX2_from 11 = .ok (.iload_n 1, 1) := by decide +kernel
theorem dX2_from_12 : decode cX2_from 12 = .ok (.ifCond .lt 20, 3) := by decide +kernel
theorem dX2_from_15 : decode cX2_from 15 = .ok (.iload_n 1, 1) := by decide +kernel
theorem dX2_from_16 : decode cX2_from 16 = .ok (.bipush 16, 2) := by decide +kernel
theorem dX2_from_18 : decode cX2_from 18 = .ok (.if_icmp .gt 14, 3) := by decide +kernel
theorem dX2_from_21 : decode cX2_from 21 = .ok (.aload_n 0, 1) := by decide +kernel
theorem dX2_from_22 : decode cX2_from 22 = .ok (.getfield 13, 3) := by decide +kernel
theorem dX2_from_25 : decode cX2_from 25 = .ok (.iload_n 1, 1) := by decide +kernel
theorem dX2_from_26 : decode cX2_from 26 = .ok (.aaload, 1) := by decide +kernel
theorem dX2_from_27 : decode cX2_from 27 = .ok (.iload_n 2, 1) := by decide +kernel
theorem dX2_from_28 : decode cX2_from 28 = .ok (.iaload, 1) := by decide +kernel
theorem dX2_from_29 : decode cX2_from 29 = .ok (.goto 6, 3) := by decide +kernel
theorem dX2_from_32 : decode cX2_from 32 = .ok (.sipush 1000, 3) := by decide +kernel
theorem dX2_from_35 : decode cX2_from 35 = .ok (.ireturn, 1) := by decide +kernel
theorem dX2_after_0 : decode cX2_after 0 = .ok (.aload_n 0, 1) := by decide +kernel
theorem dX2_after_1 : decode cX2_after 1 = .ok (.getfield 24, 3) := by decide +kernel
theorem dX2_after_4 : decode cX2_after 4 = .ok (.ifCond .eq 12, 3) := by decide +kernel
theorem dX2_after_7 : decode cX2_after 7 = .ok (.aload_n 0, 1) := by decide +kernel
theorem dX2_after_8 : decode cX2_after 8 = .ok (.iload_n 1, 1) := by decide +kernel
theorem dX2_after_9 : decode cX2_after 9 = .ok (.iload_n 2, 1) := by decide +kernel
theorem dX2_after_10 : decode cX2_after 10 = .ok (.invokevirtual 81, 3) := by decide +kernel
theorem dX2_after_13 : decode cX2_after 13 = .ok (.goto 9, 3) := by decide +kernel
theorem dX2_after_16 : decode cX2_after 16 = .ok (.aload_n 0, 1) := by decide +kernel
theorem dX2_after_17 : decode cX2_after 17 = .ok (.iload_n 1, 1) := by decide +kernel
theorem dX2_after_18 : decode cX2_after 18 = .ok (.iload_n 2, 1) := by decide +kernel
theorem dX2_after_19 : decode cX2_after 19 = .ok (.invokevirtual 84, 3) := by decide +kernel
theorem dX2_after_22 : decode cX2_after 22 = .ok (.ireturn, 1) := by decide +kernel
theorem dX2_afterLooking_0 : decode cX2_afterLooking 0 = .ok (.iload_n 2, 1) := by decide +kernel
theorem dX2_afterLooking_1 : decode cX2_afterLooking 1 = .ok (.iconst 4, 1) := by decide +kernel
theorem dX2_afterLooking_2 : decode cX2_afterLooking 2 = .ok (.if_icmp .ne 14, 3) := by decide +kernel
theorem dX2_afterLooking_5 : decode cX2_afterLooking 5 = .ok (.aload_n 0, 1) := by decide +kernel
theorem dX2_afterLooking_6 : decode cX2_afterLooking 6 = .ok (.getfield 47, 3) := by decide +kernel
theorem dX2_afterLooking_9 : decode cX2_afterLooking 9 = .ok (.ifCond .eq 7, 3) := by decide +kernel
theorem dX2_afterLooking_12 : decode cX2_afterLooking 12 = .ok (.iconst 0, 1) := by decide +kernel
theorem dX2_afterLooking_13 : decode cX2_afterLooking 13 = .ok (.goto 6, 3) := by decide +kernel
theorem dX2_afterLooking_16 : decode cX2_afterLooking 16 = .ok (.iload_n 1, 1) := by decide +kernel
theorem dX2_afterLooking_17 : decode cX2_afterLooking 17 = .ok (.iconst 1, 1) := by decide +kernel
theorem dX2_afterLooking_18 : decode cX2_afterLooking 18 = .ok (.iadd, 1) := by decide +kernel
theorem dX2_afterLooking_19 : decode cX2_afterLooking 19 = .ok (.istore_n 3, 1) := by decide +kernel
theorem dX2_afterLooking_20 : decode cX2_afterLooking 20 = .ok (.iload_n 3, 1) := by decide +kernel
theorem dX2_afterLooking_21 : decode cX2_afterLooking 21 = .ok (.ifCond .lt 22, 3) := by decide +kernel
theorem dX2_afterLooking_24 : decode cX2_afterLooking 24 = .ok (.iload_n 3, 1) := by decide +kernel
theorem dX2_afterLooking_25 : decode cX2_afterLooking 25 = .ok (.bipush 16, 2) := by decide +kernel
theorem dX2_afterLooking_27 : decode cX2_afterLooking 27 = .ok (.if_icmp .gt 16, 3) := by decide +kernel
theorem dX2_afterLooking_30 : decode cX2_afterLooking 30 = .ok (.aload_n 0, 1) := by decide +kernel
theorem dX2_afterLooking_31 : decode cX2_afterLooking 31 = .ok (.getfield 20, 3) := by decide +kernel
theorem dX2_afterLooking_34 : decode cX2_afterLooking 34 = .ok (.iload_n 3, 1) := by decide +kernel
theorem dX2_afterLooking_35 : decode cX2_afterLooking 35 = .ok (.baload, 1) := by decide +kernel
theorem dX2_afterLooking_36 : decode cX2_afterLooking 36 = .ok (.ifCond .ne 7, 3) := by decide +kernel
theorem dX2_afterLooking_39 : decode cX2_afterLooking 39 = .ok (.iload_n 3, 1) := by decide +kernel
theorem dX2_afterLooking_40 : decode cX2_afterLooking 40 = .ok (.goto 4, 3) := by decide +kernel
theorem dX2_afterLooking_43 : decode cX2_afterLooking 43 = .ok (.iconst (-1), 1) := by decide +kernel
theorem dX2_afterLooking_44 : decode cX2_afterLooking 44 = .ok (.ireturn, 1) := by decide +kernel
theorem dX2_afterBreathing_0 : decode cX2_afterBreathing 0 = .ok (.iload_n 1, 1) := by decide +kernel
theorem dX2_afterBreathing_1 : decode cX2_afterBreathing 1 = .ok (.bipush 10, 2) := by decide +kernel
theorem dX2_afterBreathing_3 : decode cX2_afterBreathing 3 = .ok (.irem, 1) := by decide +kernel
theorem dX2_afterBreathing_4 : decode cX2_afterBreathing 4 = .ok (.iload_n 2, 1) := by decide +kernel
theorem dX2_afterBreathing_5 : decode cX2_afterBreathing 5 = .ok (.aload_n 0, 1) := by decide +kernel
theorem dX2_afterBreathing_6 : decode cX2_afterBreathing 6 = .ok (.getfield 32, 3) := by decide +kernel
theorem dX2_afterBreathing_9 : decode cX2_afterBreathing 9 = .ok (.invokestatic 87, 3) := by decide +kernel
theorem dX2_afterBreathing_12 : decode cX2_afterBreathing 12 = .ok (.istore_n 3, 1) := by decide +kernel
theorem dX2_afterBreathing_13 : decode cX2_afterBreathing 13 = .ok (.iload_n 1, 1) := by decide +kernel
theorem dX2_afterBreathing_14 : decode cX2_afterBreathing 14 = .ok (.bipush 10, 2) := by decide +kernel
theorem dX2_afterBreathing_16 : decode cX2_afterBreathing 16 = .ok (.idiv, 1) := by decide +kernel
theorem dX2_afterBreathing_17 : decode cX2_afterBreathing 17 = .ok (.iload_n 3, 1) := by decide +kernel
theorem dX2_afterBreathing_18 : decode cX2_afterBreathing 18 = .ok (.iload_n 2, 1) := by decide +kernel
theorem dX2_afterBreathing_19 : decode cX2_afterBreathing 19 = .ok (.aload_n 0, 1) := by decide +kernel
theorem dX2_afterBreathing_20 : decode cX2_afterBreathing 20 = .ok (.getfield 32, 3) := by decide +kernel
theorem dX2_afterBreathing_23 : decode cX2_afterBreathing 23 = .ok (.invokestatic 91, 3) := by decide +kernel
theorem dX2_afterBreathing_26 : decode cX2_afterBreathing 26 = .ok (.istore 4, 2) := by decide +kernel
theorem dX2_afterBreathing_28 : decode cX2_afterBreathing 28 = .ok (.iload 4, 2) := by decide +kernel
theorem dX2_afterBreathing_30 : decode cX2_afterBreathing 30 = .ok (.aload_n 0, 1) := by decide +kernel
theorem dX2_afterBreathing_31 : decode cX2_afterBreathing 31 = .ok (.getfield 28, 3) := by decide +kernel
theorem dX2_afterBreathing_34 : decode cX2_afterBreathing 34 = .ok (.if_icmp .le 7, 3) := by decide +kernel
theorem dX2_afterBreathing_37 : decode cX2_afterBreathing 37 = .ok (.iconst (-1), 1) := by decide +kernel
theorem dX2_afterBreathing_38 : decode cX2_afterBreathing 38 = .ok (.goto 10, 3) := by decide +kernel
theorem dX2_afterBreathing_41 : decode cX2_afterBreathing 41 = .ok (.iload 4, 2) := by decide +kernel
theorem dX2_afterBreathing_43 : decode cX2_afterBreathing 43 = .ok (.bipush 10, 2) := by decide +kernel
theorem dX2_afterBreathing_45 : decode cX2_afterBreathing 45 = .ok (.imul, 1) := by decide +kernel
theorem dX2_afterBreathing_46 : decode cX2_afterBreathing 46 = .ok (.iload_n 3, 1) := by decide +kernel
theorem dX2_afterBreathing_47 : decode cX2_afterBreathing 47 = .ok (.iadd, 1) := by decide +kernel
theorem dX2_afterBreathing_48 : decode cX2_afterBreathing 48 = .ok (.ireturn, 1) := by decide +kernel
theorem dX3_init_0 : decode cX3_init 0 = .ok (.aload_n 0, 1) := by decide +kernel
theorem dX3_init_1 : decode cX3_init 1 = .ok (.invokespecial 3, 3) := by decide +kernel
theorem dX3_init_4 : decode cX3_init 4 = .ok (.aload_n 0, 1) := by decide +kernel
theorem dX3_init_5 : decode cX3_init 5 = .ok (.bipush 6, 2) := by decide +kernel
theorem dX3_init_7 : decode cX3_init 7 = .ok (.newarray .int, 2) := by decide +kernel
theorem dX3_init_9 : decode cX3_init 9 = .ok (.putfield 9, 3) := by decide +kernel
theorem dX3_init_12 : decode cX3_init 12 = .ok (.aload_n 0, 1) := by decide +kernel
theorem dX3_init_13 : decode cX3_init 13 = .ok (.bipush 6, 2) := by decide +kernel
theorem dX3_init_15 : decode cX3_init 15 = .ok (.newarray .int, 2) := by decide +kernel
theorem dX3_init_17 : decode cX3_init 17 = .ok (.putfield 15, 3) := by decide +kernel
theorem dX3_init_20 : decode cX3_init 20 = .ok (.aload_n 0, 1) := by decide +kernel
theorem dX3_init_21 : decode cX3_init 21 = .ok (.aload_n 1, 1) := by decide +kernel
theorem dX3_init_22 : decode cX3_init 22 = .ok (.putfield 18, 3) := by decide +kernel
theorem dX3_init_25 : decode cX3_init 25 = .ok (.return_, 1) := by decide +kernel
theorem dX3_lineUp_0 : decode cX3_lineUp 0 = .ok (.aload_n 0, 1) := by decide +kernel
theorem dX3_lineUp_1 : decode cX3_lineUp 1 = .ok (.getfield 18, 3) := by decide +kernel
theorem dX3_lineUp_4 : decode cX3_lineUp 4 = .ok (.invokevirtual 22, 3) := by decide +kernel
theorem dX3_lineUp_7 : decode cX3_lineUp 7 = .ok (.bipush 6, 2) := by decide +kernel
theorem dX3_lineUp_9 : decode cX3_lineUp 9 = .ok (.invokestatic 28, 3) := by decide +kernel
theorem dX3_lineUp_12 : decode cX3_lineUp 12 = .ok (.istore_n 2, 1) := by decide +kernel
theorem dX3_lineUp_13 : decode cX3_lineUp 13 = .ok (.iconst 0, 1) := by decide +kernel
theorem dX3_lineUp_14 : decode cX3_lineUp 14 = .ok (.istore_n 3, 1) := by decide +kernel
theorem dX3_lineUp_15 : decode cX3_lineUp 15 = .ok (.iload_n 3, 1) := by decide +kernel
theorem dX3_lineUp_16 : decode cX3_lineUp 16 = .ok (.iload_n 2, 1) := by decide +kernel
theorem dX3_lineUp_17 : decode cX3_lineUp 17 = .ok (.if_icmp .ge 16, 3) := by decide +kernel
theorem dX3_lineUp_20 : decode cX3_lineUp 20 = .ok (.aload_n 0, 1) := by decide +kernel
theorem dX3_lineUp_21 : decode cX3_lineUp 21 = .ok (.getfield 9, 3) := by decide +kernel
theorem dX3_lineUp_24 : decode cX3_lineUp 24 = .ok (.iload_n 3, 1) := by decide +kernel
theorem dX3_lineUp_25 : decode cX3_lineUp 25 = .ok (.iload_n 3, 1) := by decide +kernel
theorem dX3_lineUp_26 : decode cX3_lineUp 26 = .ok (.iastore, 1) := by decide +kernel
theorem dX3_lineUp_27 : decode cX3_lineUp 27 = .ok (.iinc 3 1, 3) := by decide +kernel
theorem dX3_lineUp_30 : decode cX3_lineUp 30 = .ok (.goto (-15), 3) := by decide +kernel
theorem dX3_lineUp_33 : decode cX3_lineUp 33 = .ok (.aload_n 0, 1) := by decide +kernel
theorem dX3_lineUp_34 : decode cX3_lineUp 34 = .ok (.iload_n 1, 1) := by decide +kernel
theorem dX3_lineUp_35 : decode cX3_lineUp 35 = .ok (.iload_n 2, 1) := by decide +kernel
theorem dX3_lineUp_36 : decode cX3_lineUp 36 = .ok (.invokevirtual 34, 3) := by decide +kernel
theorem dX3_lineUp_39 : decode cX3_lineUp 39 = .ok (.istore_n 3, 1) := by decide +kernel
theorem dX3_lineUp_40 : decode cX3_lineUp 40 = .ok (.aload_n 0, 1) := by decide +kernel
theorem dX3_lineUp_41 : decode cX3_lineUp 41 = .ok (.getfield 9, 3) := by decide +kernel
theorem dX3_lineUp_44 : decode cX3_lineUp 44 = .ok (.iconst 0, 1) := by decide +kernel
theorem dX3_lineUp_45 : decode cX3_lineUp 45 = .ok (.aload_n 0, 1) := by decide +kernel
theorem dX3_lineUp_46 : decode cX3_lineUp 46 = .ok (.getfield 15, 3) := by decide +kernel
theorem dX3_lineUp_49 : decode cX3_lineUp 49 = .ok (.iconst 0, 1) := by decide +kernel
theorem dX3_lineUp_50 : decode cX3_lineUp 50 = .ok (.iload_n 2, 1) := by decide +kernel
theorem dX3_lineUp_51 : decode cX3_lineUp 51 = .ok (.invokestatic 37, 3) := by decide +kernel
theorem dX3_lineUp_54 : decode cX3_lineUp 54 = .ok (.iconst 1, 1) := by decide +kernel
theorem dX3_lineUp_55 : decode cX3_lineUp 55 = .ok (.istore 4, 2) := by decide +kernel
theorem dX3_lineUp_57 : decode cX3_lineUp 57 = .ok (.iload 4, 2) := by decide +kernel
theorem dX3_lineUp_59 : decode cX3_lineUp 59 = .ok (.sipush 720, 3) := by decide +kernel
theorem dX3_lineUp_62 : decode cX3_lineUp 62 = .ok (.if_icmp .ge 48, 3) := by decide +kernel
theorem dX3_lineUp_65 : decode cX3_lineUp 65 = .ok (.aload_n 0, 1) := by decide +kernel
theorem dX3_lineUp_66 : decode cX3_lineUp 66 = .ok (.iload_n 2, 1) := by decide +kernel
theorem dX3_lineUp_67 : decode cX3_lineUp 67 = .ok (.invokevirtual 43, 3) := by decide +kernel
theorem dX3_lineUp_70 : decode cX3_lineUp 70 = .ok (.ifCond .eq 40, 3) := by decide +kernel
theorem dX3_lineUp_73 : decode cX3_lineUp 73 = .ok (.aload_n 0, 1) := by decide +kernel
theorem dX3_lineUp_74 : decode cX3_lineUp 74 = .ok (.iload_n 1, 1) := by decide +kernel
theorem dX3_lineUp_75 : decode cX3_lineUp 75 = .ok (.iload_n 2, 1) := by decide +kernel
theorem dX3_lineUp_76 : decode cX3_lineUp 76 = .ok (.invokevirtual 34, 3) := by decide +kernel
theorem dX3_lineUp_79 : decode cX3_lineUp 79 = .ok (.istore 5, 2) := by decide +kernel
theorem dX3_lineUp_81 : decode cX3_lineUp 81 = .ok (.iload 5, 2) := by decide +kernel
theorem dX3_lineUp_83 : decode cX3_lineUp 83 = .ok (.iload_n 3, 1) := by decide +kernel
theorem dX3_lineUp_84 : decode cX3_lineUp 84 = .ok (.if_icmp .ge 20, 3) := by decide +kernel
theorem dX3_lineUp_87 : decode cX3_lineUp 87 = .ok (.iload 5, 2) := by decide +kernel
theorem dX3_lineUp_89 : decode cX3_lineUp 89 = .ok (.istore_n 3, 1) := by decide +kernel
theorem dX3_lineUp_90 : decode cX3_lineUp 90 = .ok (.aload_n 0, 1) := by decide +kernel
theorem dX3_lineUp_91 : decode cX3_lineUp 91 = .ok (.getfield 9, 3) := by decide +kernel
theorem dX3_lineUp_94 : decode cX3_lineUp 94 = .ok (.iconst 0, 1) := by decide +kernel
theorem dX3_lineUp_95 : decode cX3_lineUp 95 = .ok (.aload_n 0, 1) := by decide +kernel
theorem dX3_lineUp_96 : decode cX3_lineUp 96 = .ok (.getfield 15, 3) := by decide +kernel
theorem dX3_lineUp_99 : decode cX3_lineUp 99 = .ok (.iconst 0, 1) := by decide +kernel
theorem dX3_lineUp_100 : decode cX3_lineUp 100 = .ok (.iload_n 2, 1) := by decide +kernel
theorem dX3_lineUp_101 : decode cX3_lineUp 101 = .ok (.invokestatic 37, 3) := by decide +kernel
theorem dX3_lineUp_104 : decode cX3_lineUp 104 = .ok (.iinc 4 1, 3) := by decide +kernel
theorem dX3_lineUp_107 : decode cX3_lineUp 107 = .ok (.goto (-50), 3) := by decide +kernel
theorem dX3_lineUp_110 : decode cX3_lineUp 110 = .ok (.iload_n 3, 1) := by decide +kernel
theorem dX3_lineUp_111 : decode cX3_lineUp 111 = .ok (.ireturn, 1) := by decide +kernel
theorem dX3_inLine_0 : decode cX3_inLine 0 = .ok (.iload_n 1, 1) := by decide +kernel
theorem dX3_inLine_1 : decode cX3_inLine 1 = .ok (.ifCond .lt 29, 3) := by decide +kernel
theorem dX3_inLine_4 : decode cX3_inLine 4 = .ok (.iload_n 1, 1) := by decide +kernel
theorem dX3_inLine_5 : decode cX3_inLine 5 = .ok (.aload_n 0, 1) := by decide +kernel
theorem dX3_inLine_6 : decode cX3_inLine 6 = .ok (.getfield 18, 3) := by decide +kernel
theorem dX3_inLine_9 : decode cX3_inLine 9 = .ok (.invokevirtual 22, 3) := by decide +kernel
theorem dX3_inLine_12 : decode cX3_inLine 12 = .ok (.if_icmp .ge 18, 3) := by decide +kernel
theorem dX3_inLine_15 : decode cX3_inLine 15 = .ok (.iload_n 1, 1) := by decide +kernel
theorem dX3_inLine_16 : decode cX3_inLine 16 = .ok (.bipush 6, 2) := by decide +kernel
theorem dX3_inLine_18 : decode cX3_inLine 18 = .ok (.if_icmp .ge 12, 3) := by decide +kernel
theorem dX3_inLine_21 : decode cX3_inLine 21 = .ok (.aload_n 0, 1) := by decide +kernel
theorem dX3_inLine_22 : decode cX3_inLine 22 = .ok (.getfield 15, 3) := by decide +kernel
theorem dX3_inLine_25 : decode cX3_inLine 25 = .ok (.iload_n 1, 1) := by decide +kernel
theorem dX3_inLine_26 : decode cX3_inLine 26 = .ok (.iaload, 1) := by decide +kernel
theorem dX3_inLine_27 : decode cX3_inLine 27 = .ok (.goto 5, 3) := by decide +kernel
theorem dX3_inLine_30 : decode cX3_inLine 30 = .ok (.bipush (-2), 2) := by decide +kernel
theorem dX3_inLine_32 : decode cX3_inLine 32 = .ok (.ireturn, 1) := by decide +kernel
theorem dX3_spread_0 : decode cX3_spread 0 = .ok (.iload_n 2, 1) := by decide +kernel
theorem dX3_spread_1 : decode cX3_spread 1 = .ok (.ifCond .ne 5, 3) := by decide +kernel
theorem dX3_spread_4 : decode cX3_spread 4 = .ok (.iconst 0, 1) := by decide +kernel
theorem dX3_spread_5 : decode cX3_spread 5 = .ok (.ireturn, 1) := by decide +kernel
theorem dX3_spread_6 : decode cX3_spread 6 = .ok (.aload_n 0, 1) := by decide +kernel
theorem dX3_spread_7 : decode cX3_spread 7 = .ok (.aload_n 0, 1) := by decide +kernel
theorem dX3_spread_8 : decode cX3_spread 8 = .ok (.getfield 9, 3) := by decide +kernel
theorem dX3_spread_11 : decode cX3_spread 11 = .ok (.iconst 0, 1) := by decide +kernel
theorem dX3_spread_12 : decode cX3_spread 12 = .ok (.iaload, 1) := by decide +kernel
theorem dX3_spread_13 : decode cX3_spread 13 = .ok (.invokevirtual 47, 3) := by decide +kernel
theorem dX3_spread_16 : decode cX3_spread 16 = .ok (.istore_n 3, 1) := by decide +kernel
theorem dX3_spread_17 : decode cX3_spread 17 = .ok (.iload_n 3, 1) := by decide +kernel
theorem dX3_spread_18 : decode cX3_spread 18 = .ok (.istore 4, 2) := by decide +kernel
theorem dX3_spread_20 : decode cX3_spread 20 = .ok (.iconst 1, 1) := by decide +kernel
theorem dX3_spread_21 : decode cX3_spread 21 = .ok (.istore 5, 2) := by decide +kernel
theorem dX3_spread_23 : decode cX3_spread 23 = .ok (.iload 5, 2) := by decide +kernel
theorem dX3_spread_25 : decode cX3_spread 25 = .ok (.iload_n 2, 1) := by decide +kernel
theorem dX3_spread_26 : decode cX3_spread 26 = .ok (.if_icmp .ge 43, 3) := by decide +kernel
theorem dX3_spread_29 : decode cX3_spread 29 = .ok (.aload_n 0, 1) := by decide +kernel
theorem dX3_spread_30 : decode cX3_spread 30 = .ok (.aload_n 0, 1) := by decide +kernel
theorem dX3_spread_31 : decode cX3_spread 31 = .ok (.getfield 9, 3) := by decide +kernel
theorem dX3_spread_34 : decode cX3_spread 34 = .ok (.iload 5, 2) := by decide +kernel
theorem dX3_spread_36 : decode cX3_spread 36 = .ok (.iaload, 1) := by decide +kernel
theorem dX3_spread_37 : decode cX3_spread 37 = .ok (.invokevirtual 47, 3) := by decide +kernel
theorem dX3_spread_40 : decode cX3_spread 40 = .ok (.iload_n 1, 1) := by decide +kernel
theorem dX3_spread_41 : decode cX3_spread 41 = .ok (.iload 5, 2) := by decide +kernel
theorem dX3_spread_43 : decode cX3_spread 43 = .ok (.imul, 1) := by decide +kernel
theorem dX3_spread_44 : decode cX3_spread 44 = .ok (.isub, 1) := by decide +kernel
theorem dX3_spread_45 : decode cX3_spread 45 = .ok (.istore 6, 2) := by decide +kernel
theorem dX3_spread_47 : decode cX3_spread 47 = .ok (.iload_n 3, 1) := by decide +kernel
theorem dX3_spread_48 : decode cX3_spread 48 = .ok (.iload 6, 2) := by decide +kernel
theorem dX3_spread_50 : decode cX3_spread 50 = .ok (.invokestatic 51, 3) := by decide +kernel
theorem dX3_spread_53 : decode cX3_spread 53 = .ok (.istore_n 3, 1) := by decide +kernel
theorem dX3_spread_54 : decode cX3_spread 54 = .ok (.iload 4, 2) := by decide +kernel
theorem dX3_spread_56 : decode cX3_spread 56 = .ok (.iload 6, 2) := by decide +kernel
theorem dX3_spread_58 : decode cX3_spread 58 = .ok (.invokestatic 28, 3) := by decide +kernel
theorem dX3_spread_61 : decode cX3_spread 61 = .ok (.istore 4, 2) := by decide +kernel
theorem dX3_spread_63 : decode cX3_spread 63 = .ok (.iinc 5 1, 3) := by decide +kernel
theorem dX3_spread_66 : decode cX3_spread 66 = .ok (.goto (-43), 3) := by decide +kernel
theorem dX3_spread_69 : decode cX3_spread 69 = .ok (.iload_n 3, 1) := by decide +kernel
theorem dX3_spread_70 : decode cX3_spread 70 = .ok (.iload 4, 2) := by decide +kernel
theorem dX3_spread_72 : decode cX3_spread 72 = .ok (.isub, 1) := by decide +kernel
theorem dX3_spread_73 : decode cX3_spread 73 = .ok (.ireturn, 1) := by decide +kernel
theorem dX3_nextOrder_0 : decode cX3_nextOrder 0 = .ok (.iconst (-1), 1) := by decide +kernel
theorem dX3_nextOrder_1 : decode cX3_nextOrder 1 = .ok (.istore_n 2, 1) := by decide +kernel
theorem dX3_nextOrder_2 : decode cX3_nextOrder 2 = .ok (.iconst 0, 1) := by decide +kernel
theorem dX3_nextOrder_3 : decode cX3_nextOrder 3 = .ok (.istore_n 3, 1) := by decide +kernel
theorem dX3_nextOrder_4 : decode cX3_nextOrder 4 = .ok (.iload_n 3, 1) := by decide +kernel
theorem dX3_nextOrder_5 : decode cX3_nextOrder 5 = .ok (.iconst 1, 1) := by decide +kernel
theorem dX3_nextOrder_6 : decode cX3_nextOrder 6 = .ok (.iadd, 1) := by decide +kernel
theorem dX3_nextOrder_7 : decode cX3_nextOrder 7 = .ok (.iload_n 1, 1) := by decide +kernel
theorem dX3_nextOrder_8 : decode cX3_nextOrder 8 = .ok (.if_icmp .ge 28, 3) := by decide +kernel
theorem dX3_nextOrder_11 : decode cX3_nextOrder 11 = .ok (.aload_n 0, 1) := by decide +kernel
theorem dX3_nextOrder_12 : decode cX3_nextOrder 12 = .ok (.getfield 9, 3) := by decide +kernel
theorem dX3_nextOrder_15 : decode cX3_nextOrder 15 = .ok (.iload_n 3, 1) := by decide +kernel
theorem dX3_nextOrder_16 : decode cX3_nextOrder 16 = .ok (.iaload, 1) := by decide +kernel
theorem dX3_nextOrder_17 : decode cX3_nextOrder 17 = .ok (.aload_n 0, 1) := by decide +kernel
theorem dX3_nextOrder_18 : decode cX3_nextOrder 18 = .ok (.getfield 9, 3) := by decide +kernel
theorem dX3_nextOrder_21 : decode cX3_nextOrder 21 = .ok (.iload_n 3, 1) := by decide +kernel
theorem dX3_nextOrder_22 : decode cX3_nextOrder 22 = .ok (.iconst 1, 1) := by decide +kernel
theorem dX3_nextOrder_23 : decode cX3_nextOrder 23 = .ok (.iadd, 1) := by decide +kernel
theorem dX3_nextOrder_24 : decode cX3_nextOrder 24 = .ok (.iaload, 1) := by decide +kernel
theorem dX3_nextOrder_25 : decode cX3_nextOrder 25 = .ok (.if_icmp .ge 5, 3) := by decide +kernel
theorem dX3_nextOrder_28 : decode cX3_nextOrder 28 = .ok (.iload_n 3, 1) := by decide +kernel
theorem dX3_nextOrder_29 : decode cX3_nextOrder 29 = .ok (.istore_n 2, 1) := by decide +kernel
theorem dX3_nextOrder_30 : decode cX3_nextOrder 30 = .ok (.iinc 3 1, 3) := by decide +kernel
theorem dX3_nextOrder_33 : decode cX3_nextOrder 33 = .ok (.goto (-29), 3) := by decide +kernel
theorem dX3_nextOrder_36 : decode cX3_nextOrder 36 = .ok (.iload_n 2, 1) := by decide +kernel
theorem dX3_nextOrder_37 : decode cX3_nextOrder 37 = .ok (.ifCond .ge 5, 3) := by decide +kernel
theorem dX3_nextOrder_40 : decode cX3_nextOrder 40 = .ok (.iconst 0, 1) := by decide +kernel
theorem dX3_nextOrder_41 : decode cX3_nextOrder 41 = .ok (.ireturn, 1) := by decide +kernel
theorem dX3_nextOrder_42 : decode cX3_nextOrder 42 = .ok (.iload_n 2, 1) := by decide +kernel
theorem dX3_nextOrder_43 : decode cX3_nextOrder 43 = .ok (.iconst 1, 1) := by decide +kernel
theorem dX3_nextOrder_44 : decode cX3_nextOrder 44 = .ok (.iadd, 1) := by decide +kernel
theorem dX3_nextOrder_45 : decode cX3_nextOrder 45 = .ok (.istore_n 3, 1) := by decide +kernel
theorem dX3_nextOrder_46 : decode cX3_nextOrder 46 = .ok (.iload_n 2, 1) := by decide +kernel
theorem dX3_nextOrder_47 : decode cX3_nextOrder 47 = .ok (.iconst 1, 1) := by decide +kernel
theorem dX3_nextOrder_48 : decode cX3_nextOrder 48 = .ok (.iadd, 1) := by decide +kernel
theorem dX3_nextOrder_49 : decode cX3_nextOrder 49 = .ok (.istore 4, 2) := by decide +kernel
theorem dX3_nextOrder_51 : decode cX3_nextOrder 51 = .ok (.iload 4, 2) := by decide +kernel
theorem dX3_nextOrder_53 : decode cX3_nextOrder 53 = .ok (.iload_n 1, 1) := by decide +kernel
theorem dX3_nextOrder_54 : decode cX3_nextOrder 54 = .ok (.if_icmp .ge 28, 3) := by decide +kernel
theorem dX3_nextOrder_57 : decode cX3_nextOrder 57 = .ok (.aload_n 0, 1) := by decide +kernel
theorem dX3_nextOrder_58 : decode cX3_nextOrder 58 = .ok (.getfield 9, 3) := by decide +kernel
theorem dX3_nextOrder_61 : decode cX3_nextOrder 61 = .ok (.iload 4, 2) := by decide +kernel
theorem dX3_nextOrder_63 : decode cX3_nextOrder 63 = .ok (.iaload, 1) := by decide +kernel
theorem dX3_nextOrder_64 : decode cX3_nextOrder 64 = .ok (.aload_n 0, 1) := by decide +kernel
theorem dX3_nextOrder_65 : decode cX3_nextOrder 65 = .ok (.getfield 9, 3) := by decide +kernel
theorem dX3_nextOrder_68 : decode cX3_nextOrder 68 = .ok (.iload_n 2, 1) := by decide +kernel
theorem dX3_nextOrder_69 : decode cX3_nextOrder 69 = .ok (.iaload, 1) := by decide +kernel
theorem dX3_nextOrder_70 : decode cX3_nextOrder 70 = .ok (.if_icmp .le 6, 3) := by decide +kernel
theorem dX3_nextOrder_73 : decode cX3_nextOrder 73 = .ok (.iload 4, 2) := by decide +kernel
theorem dX3_nextOrder_75 : decode cX3_nextOrder 75 = .ok (.istore_n 3, 1) := by decide +kernel
theorem dX3_nextOrder_76 : decode cX3_nextOrder 76 = .ok (.iinc 4 1, 3) := by decide +kernel
theorem dX3_nextOrder_79 : decode cX3_nextOrder 79 = .ok (.goto (-28), 3) := by decide +kernel
theorem dX3_nextOrder_82 : decode cX3_nextOrder 82 = .ok (.aload_n 0, 1) := by decide +kernel
theorem dX3_nextOrder_83 : decode cX3_nextOrder 83 = .ok (.iload_n 2, 1) := by decide +kernel
theorem dX3_nextOrder_84 : decode cX3_nextOrder 84 = .ok (.iload_n 3, 1) := by decide +kernel
theorem dX3_nextOrder_85 : decode cX3_nextOrder 85 = .ok (.invokevirtual 54, 3) := by decide +kernel
theorem dX3_nextOrder_88 : decode cX3_nextOrder 88 = .ok (.iload_n 1, 1) := by decide +kernel
theorem dX3_nextOrder_89 : decode cX3_nextOrder 89 = .ok (.iconst 1, 1) := by decide +kernel
theorem dX3_nextOrder_90 : decode cX3_nextOrder 90 = .ok (.isub, 1) := by decide +kernel
theorem dX3_nextOrder_91 : decode cX3_nextOrder 91 = .ok (.istore 4, 2) := by decide +kernel
theorem dX3_nextOrder_93 : decode cX3_nextOrder 93 = .ok (.iload_n 2, 1) := by decide +kernel
theorem dX3_nextOrder_94 : decode cX3_nextOrder 94 = .ok (.iconst 1, 1) := by decide +kernel
theorem dX3_nextOrder_95 : decode cX3_nextOrder 95 = .ok (.iadd, 1) := by decide +kernel
theorem dX3_nextOrder_96 : decode cX3_nextOrder 96 = .ok (.istore 5, 2) := by decide +kernel
theorem dX3_nextOrder_98 : decode cX3_nextOrder 98 = .ok (.iload 5, 2) := by decide +kernel
theorem dX3_nextOrder_100 : decode cX3_nextOrder 100 = .ok (.iload 4, 2) := by decide +kernel
theorem dX3_nextOrder_102 : decode cX3_nextOrder 102 = .ok (.if_icmp .ge 20, 3) := by decide +kernel
theorem dX3_nextOrder_105 : decode cX3_nextOrder 105 = .ok (.aload_n 0, 1) := by decide +kernel
theorem dX3_nextOrder_106 : decode cX3_nextOrder 106 = .ok (.iload 5, 2) := by decide +kernel
theorem dX3_nextOrder_108 : decode cX3_nextOrder 108 = .ok (.iload 4, 2) := by decide +kernel
theorem dX3_nextOrder_110 : decode cX3_nextOrder 110 = .ok (.invokevirtual 54, 3) := by decide +kernel
theorem dX3_nextOrder_113 : decode cX3_nextOrder 113 = .ok (.iinc 4 (-1), 3) := by decide +kernel
theorem dX3_nextOrder_116 : decode cX3_nextOrder 116 = .ok (.iinc 5 1, 3) := by decide +kernel
theorem dX3_nextOrder_119 : decode cX3_nextOrder 119 = .ok (.goto (-21), 3) := by decide +kernel
theorem dX3_nextOrder_122 : decode cX3_nextOrder 122 = .ok (.iconst 1, 1) := by decide +kernel
theorem dX3_nextOrder_123 : decode cX3_nextOrder 123 = .ok (.ireturn, 1) := by decide +kernel
theorem dX3_swap_0 : decode cX3_swap 0 = .ok (.aload_n 0, 1) := by decide +kernel
theorem dX3_swap_1 : decode cX3_swap 1 = .ok (.getfield 9, 3) := by decide +kernel
theorem dX3_swap_4 : decode cX3_swap 4 = .ok (.iload_n 1, 1) := by decide +kernel
theorem dX3_swap_5 : decode cX3_swap 5 = .ok (.iaload, 1) := by decide +kernel
theorem dX3_swap_6 : decode cX3_swap 6 = .ok (.istore_n 3, 1) := by decide +kernel
theorem dX3_swap_7 : decode cX3_swap 7 = .ok (.aload_n 0, 1) := by decide +kernel
theorem dX3_swap_8 : decode cX3_swap 8 = .ok (.getfield 9, 3) := by decide +kernel
theorem dX3_swap_11 : decode cX3_swap 11 = .ok (.iload_n 1, 1) := by decide +kernel
theorem dX3_swap_12 : decode cX3_swap 12 = .ok (.aload_n 0, 1) := by decide +kernel
theorem dX3_swap_13 : decode cX3_swap 13 = .ok (.getfield 9, 3) := by decide +kernel
theorem dX3_swap_16 : decode cX3_swap 16 = .ok (.iload_n 2, 1) := by decide +kernel
theorem dX3_swap_17 : decode cX3_swap 17 = .ok (.iaload, 1) := by decide +kernel
theorem dX3_swap_18 : decode cX3_swap 18 = .ok (.iastore, 1) := by decide +kernel
theorem dX3_swap_19 : decode cX3_swap 19 = .ok (.aload_n 0, 1) := by decide +kernel
theorem dX3_swap_20 : decode cX3_swap 20 = .ok (.getfield 9, 3) := by decide +kernel
theorem dX3_swap_23 : decode cX3_swap 23 = .ok (.iload_n 2, 1) := by decide +kernel
theorem dX3_swap_24 : decode cX3_swap 24 = .ok (.iload_n 3, 1) := by decide +kernel
theorem dX3_swap_25 : decode cX3_swap 25 = .ok (.iastore, 1) := by decide +kernel
theorem dX3_swap_26 : decode cX3_swap 26 = .ok (.return_, 1) := by decide +kernel
theorem dX3_tall_0 : decode cX3_tall 0 = .ok (.aload_n 0, 1) := by decide +kernel
theorem dX3_tall_1 : decode cX3_tall 1 = .ok (.getfield 18, 3) := by decide +kernel
theorem dX3_tall_4 : decode cX3_tall 4 = .ok (.iload_n 1, 1) := by decide +kernel
theorem dX3_tall_5 : decode cX3_tall 5 = .ok (.iconst 2, 1) := by decide +kernel
theorem dX3_tall_6 : decode cX3_tall 6 = .ok (.invokevirtual 58, 3) := by decide +kernel
theorem dX3_tall_9 : decode cX3_tall 9 = .ok (.ireturn, 1) := by decide +kernel
theorem dX3_lifted_0 : decode cX3_lifted 0 = .ok (.iconst 0, 1) := by decide +kernel
theorem dX3_lifted_1 : decode cX3_lifted 1 = .ok (.istore_n 2, 1) := by decide +kernel
theorem dX3_lifted_2 : decode cX3_lifted 2 = .ok (.bipush (-2), 2) := by decide +kernel
theorem dX3_lifted_4 : decode cX3_lifted 4 = .ok (.istore_n 3, 1) := by decide +kernel
theorem dX3_lifted_5 : decode cX3_lifted 5 = .ok (.bipush (-2), 2) := by decide +kernel
theorem dX3_lifted_7 : decode cX3_lifted 7 = .ok (.istore 4, 2) := by decide +kernel
theorem dX3_lifted_9 : decode cX3_lifted 9 = .ok (.iconst 0, 1) := by decide +kernel
theorem dX3_lifted_10 : decode cX3_lifted 10 = .ok (.istore 5, 2) := by decide +kernel
theorem dX3_lifted_12 : decode cX3_lifted 12 = .ok (.iload 5, 2) := by decide +kernel
theorem dX3_lifted_14 : decode cX3_lifted 14 = .ok (.aload_n 0, 1) := by decide +kernel
theorem dX3_lifted_15 : decode cX3_lifted 15 = .ok (.getfield 18, 3) := by decide +kernel
theorem dX3_lifted_18 : decode cX3_lifted 18 = .ok (.invokevirtual 22, 3) := by decide +kernel
theorem dX3_lifted_21 : decode cX3_lifted 21 = .ok (.if_icmp .ge 107, 3) := by decide +kernel
theorem dX3_lifted_24 : decode cX3_lifted 24 = .ok (.iconst 0, 1) := by decide +kernel
theorem dX3_lifted_25 : decode cX3_lifted 25 = .ok (.istore 6, 2) := by decide +kernel
theorem dX3_lifted_27 : decode cX3_lifted 27 = .ok (.iload 6, 2) := by decide +kernel
theorem dX3_lifted_29 : decode cX3_lifted 29 = .ok (.iconst 1, 1) := by decide +kernel
theorem dX3_lifted_30 : decode cX3_lifted 30 = .ok (.aload_n 0, 1) := by decide +kernel
theorem dX3_lifted_31 : decode cX3_lifted 31 = .ok (.getfield 18, 3) := by decide +kernel
theorem dX3_lifted_34 : decode cX3_lifted 34 = .ok (.invokevirtual 22, 3) := by decide +kernel
theorem dX3_lifted_37 : decode cX3_lifted 37 = .ok (.ishl, 1) := by decide +kernel
theorem dX3_lifted_38 : decode cX3_lifted 38 = .ok (.if_icmp .ge 84, 3) := by decide +kernel
theorem dX3_lifted_41 : decode cX3_lifted 41 = .ok (.aload_n 0, 1) := by decide +kernel
theorem dX3_lifted_42 : decode cX3_lifted 42 = .ok (.iload 6, 2) := by decide +kernel
theorem dX3_lifted_44 : decode cX3_lifted 44 = .ok (.invokevirtual 61, 3) := by decide +kernel
theorem dX3_lifted_47 : decode cX3_lifted 47 = .ok (.iconst 3, 1) := by decide +kernel
theorem dX3_lifted_48 : decode cX3_lifted 48 = .ok (.aload_n 0, 1) := by decide +kernel
theorem dX3_lifted_49 : decode cX3_lifted 49 = .ok (.iload 5, 2) := by decide +kernel
theorem dX3_lifted_51 : decode cX3_lifted 51 = .ok (.invokevirtual 47, 3) := by decide +kernel
theorem dX3_lifted_54 : decode cX3_lifted 54 = .ok (.imul, 1) := by decide +kernel
theorem dX3_lifted_55 : decode cX3_lifted 55 = .ok (.isub, 1) := by decide +kernel
theorem dX3_lifted_56 : decode cX3_lifted 56 = .ok (.istore 7, 2) := by decide +kernel
theorem dX3_lifted_58 : decode cX3_lifted 58 = .ok (.iload 6, 2) := by decide +kernel
theorem dX3_lifted_60 : decode cX3_lifted 60 = .ok (.invokestatic 64, 3) := by decide +kernel
theorem dX3_lifted_63 : decode cX3_lifted 63 = .ok (.iconst 3, 1) := by decide +kernel
theorem dX3_lifted_64 : decode cX3_lifted 64 = .ok (.if_icmp .ne 22, 3) := by decide +kernel
theorem dX3_lifted_67 : decode cX3_lifted 67 = .ok (.iload 6, 2) := by decide +kernel
theorem dX3_lifted_69 : decode cX3_lifted 69 = .ok (.iconst 1, 1) := by decide +kernel
theorem dX3_lifted_70 : decode cX3_lifted 70 = .ok (.iload 5, 2) := by decide +kernel
theorem dX3_lifted_72 : decode cX3_lifted 72 = .ok (.ishl, 1) := by decide +kernel
theorem dX3_lifted_73 : decode cX3_lifted 73 = .ok (.iand, 1) := by decide +kernel
theorem dX3_lifted_74 : decode cX3_lifted 74 = .ok (.ifCond .ne 12, 3) := by decide +kernel
theorem dX3_lifted_77 : decode cX3_lifted 77 = .ok (.iload 7, 2) := by decide +kernel
theorem dX3_lifted_79 : decode cX3_lifted 79 = .ok (.ifCond .lt 7, 3) := by decide +kernel
theorem dX3_lifted_82 : decode cX3_lifted 82 = .ok (.iconst 1, 1) := by decide +kernel
theorem dX3_lifted_83 : decode cX3_lifted 83 = .ok (.goto 4, 3) := by decide +kernel
theorem dX3_lifted_86 : decode cX3_lifted 86 = .ok (.iconst 0, 1) := by decide +kernel
theorem dX3_lifted_87 : decode cX3_lifted 87 = .ok (.istore 8, 2) := by decide +kernel
theorem dX3_lifted_89 : decode cX3_lifted 89 = .ok (.iload 8, 2) := by decide +kernel
theorem dX3_lifted_91 : decode cX3_lifted 91 = .ok (.ifCond .eq 25, 3) := by decide +kernel
theorem dX3_lifted_94 : decode cX3_lifted 94 = .ok (.iload_n 3, 1) := by decide +kernel
theorem dX3_lifted_95 : decode cX3_lifted 95 = .ok (.bipush (-2), 2) := by decide +kernel
theorem dX3_lifted_97 : decode cX3_lifted 97 = .ok (.if_icmp .eq 9, 3) := by decide +kernel
theorem dX3_lifted_100 : decode cX3_lifted 100 = .ok (.iload 7, 2) := by decide +kernel
theorem dX3_lifted_102 : decode cX3_lifted 102 = .ok (.iload_n 2, 1) := by decide +kernel
theorem dX3_lifted_103 : decode cX3_lifted 103 = .ok (.if_icmp .ge 13, 3) := by decide +kernel
theorem dX3_lifted_106 : decode cX3_lifted 106 = .ok (.iload 7, 2) := by decide +kernel
theorem dX3_lifted_108 : decode cX3_lifted 108 = .ok (.istore_n 2, 1) := by decide +kernel
theorem dX3_lifted_109 : decode cX3_lifted 109 = .ok (.iload 5, 2) := by decide +kernel
theorem dX3_lifted_111 : decode cX3_lifted 111 = .ok (.istore_n 3, 1) := by decide +kernel
theorem dX3_lifted_112 : decode cX3_lifted 112 = .ok (.iload 6, 2) := by decide +kernel
theorem dX3_lifted_114 : decode cX3_lifted 114 = .ok (.istore 4, 2) := by decide +kernel
theorem dX3_lifted_116 : decode cX3_lifted 116 = .ok (.iinc 6 1, 3) := by decide +kernel
theorem dX3_lifted_119 : decode cX3_lifted 119 = .ok (.goto (-92), 3) := by decide +kernel
theorem dX3_lifted_122 : decode cX3_lifted 122 = .ok (.iinc 5 1, 3) := by decide +kernel
theorem dX3_lifted_125 : decode cX3_lifted 125 = .ok (.goto (-113), 3) := by decide +kernel
theorem dX3_lifted_128 : decode cX3_lifted 128 = .ok (.iload_n 1, 1) := by decide +kernel
theorem dX3_lifted_129 : decode cX3_lifted 129 = .ok (.ifCond .eq 7, 3) := by decide +kernel
theorem dX3_lifted_132 : decode cX3_lifted 132 = .ok (.iload_n 3, 1) := by decide +kernel
theorem dX3_lifted_133 : decode cX3_lifted 133 = .ok (.goto 5, 3) := by decide +kernel
theorem dX3_lifted_136 : decode cX3_lifted 136 = .ok (.iload 4, 2) := by decide +kernel
theorem dX3_lifted_138 : decode cX3_lifted 138 = .ok (.ireturn, 1) := by decide +kernel
theorem dX3_tallTogether_0 : decode cX3_tallTogether 0 = .ok (.iconst 0, 1) := by decide +kernel
theorem dX3_tallTogether_1 : decode cX3_tallTogether 1 = .ok (.istore_n 2, 1) := by decide +kernel
theorem dX3_tallTogether_2 : decode cX3_tallTogether 2 = .ok (.iconst 0, 1) := by decide +kernel
theorem dX3_tallTogether_3 : decode cX3_tallTogether 3 = .ok (.istore_n 3, 1) := by decide +kernel
theorem dX3_tallTogether_4 : decode cX3_tallTogether 4 = .ok (.iload_n 3, 1) := by decide +kernel
theorem dX3_tallTogether_5 : decode cX3_tallTogether 5 = .ok (.aload_n 0, 1) := by decide +kernel
theorem dX3_tallTogether_6 : decode cX3_tallTogether 6 = .ok (.getfield 18, 3) := by decide +kernel
theorem dX3_tallTogether_9 : decode cX3_tallTogether 9 = .ok (.invokevirtual 22, 3) := by decide +kernel
theorem dX3_tallTogether_12 : decode cX3_tallTogether 12 = .ok (.if_icmp .ge 25, 3) := by decide +kernel
theorem dX3_tallTogether_15 : decode cX3_tallTogether 15 = .ok (.iload_n 1, 1) := by decide +kernel
theorem dX3_tallTogether_16 : decode cX3_tallTogether 16 = .ok (.iconst 1, 1) := by decide +kernel
theorem dX3_tallTogether_17 : decode cX3_tallTogether 17 = .ok (.iload_n 3, 1) := by decide +kernel
theorem dX3_tallTogether_18 : decode cX3_tallTogether 18 = .ok (.ishl, 1) := by decide +kernel
theorem dX3_tallTogether_19 : decode cX3_tallTogether 19 = .ok (.iand, 1) := by decide +kernel
theorem dX3_tallTogether_20 : decode cX3_tallTogether 20 = .ok (.ifCond .eq 11, 3) := by decide +kernel
theorem dX3_tallTogether_23 : decode cX3_tallTogether 23 = .ok (.iload_n 2, 1) := by decide +kernel
theorem dX3_tallTogether_24 : decode cX3_tallTogether 24 = .ok (.aload_n 0, 1) := by decide +kernel
theorem dX3_tallTogether_25 : decode cX3_tallTogether 25 = .ok (.iload_n 3, 1) := by decide +kernel
theorem dX3_tallTogether_26 : decode cX3_tallTogether 26 = .ok (.invokevirtual 47, 3) := by decide +kernel
theorem dX3_tallTogether_29 : decode cX3_tallTogether 29 = .ok (.iadd, 1) := by decide +kernel
theorem dX3_tallTogether_30 : decode cX3_tallTogether 30 = .ok (.istore_n 2, 1) := by decide +kernel
theorem dX3_tallTogether_31 : decode cX3_tallTogether 31 = .ok (.iinc 3 1, 3) := by decide +kernel
theorem dX3_tallTogether_34 : decode cX3_tallTogether 34 = .ok (.goto (-30), 3) := by decide +kernel
theorem dX3_tallTogether_37 : decode cX3_tallTogether 37 = .ok (.iload_n 2, 1) := by decide +kernel
theorem dX3_tallTogether_38 : decode cX3_tallTogether 38 = .ok (.ireturn, 1) := by decide +kernel
theorem dX3_starSize_0 : decode cX3_starSize 0 = .ok (.aload_n 0, 1) := by decide +kernel
theorem dX3_starSize_1 : decode cX3_starSize 1 = .ok (.getfield 18, 3) := by decide +kernel
theorem dX3_starSize_4 : decode cX3_starSize 4 = .ok (.invokevirtual 22, 3) := by decide +kernel
theorem dX3_starSize_7 : decode cX3_starSize 7 = .ok (.ifCond .ne 5, 3) := by decide +kernel
theorem dX3_starSize_10 : decode cX3_starSize 10 = .ok (.iconst 0, 1) := by decide +kernel
theorem dX3_starSize_11 : decode cX3_starSize 11 = .ok (.ireturn, 1) := by decide +kernel
theorem dX3_starSize_12 : decode cX3_starSize 12 = .ok (.iconst 1, 1) := by decide +kernel
theorem dX3_starSize_13 : decode cX3_starSize 13 = .ok (.aload_n 0, 1) := by decide +kernel
theorem dX3_starSize_14 : decode cX3_starSize 14 = .ok (.iconst 0, 1) := by decide +kernel
theorem dX3_starSize_15 : decode cX3_starSize 15 = .ok (.invokevirtual 69, 3) := by decide +kernel
theorem dX3_starSize_18 : decode cX3_starSize 18 = .ok (.aload_n 0, 1) := by decide +kernel
theorem dX3_starSize_19 : decode cX3_starSize 19 = .ok (.iconst 1, 1) := by decide +kernel
theorem dX3_starSize_20 : decode cX3_starSize 20 = .ok (.invokevirtual 69, 3) := by decide +kernel
theorem dX3_starSize_23 : decode cX3_starSize 23 = .ok (.invokestatic 51, 3) := by decide +kernel
theorem dX3_starSize_26 : decode cX3_starSize 26 = .ok (.iadd, 1) := by decide +kernel
theorem dX3_starSize_27 : decode cX3_starSize 27 = .ok (.ireturn, 1) := by decide +kernel
theorem dX3_reach_0 : decode cX3_reach 0 = .ok (.aload_n 0, 1) := by decide +kernel
theorem dX3_reach_1 : decode cX3_reach 1 = .ok (.getfield 18, 3) := by decide +kernel
theorem dX3_reach_4 : decode cX3_reach 4 = .ok (.iconst 0, 1) := by decide +kernel
theorem dX3_reach_5 : decode cX3_reach 5 = .ok (.iload_n 1, 1) := by decide +kernel
theorem dX3_reach_6 : decode cX3_reach 6 = .ok (.invokevirtual 58, 3) := by decide +kernel
theorem dX3_reach_9 : decode cX3_reach 9 = .ok (.istore_n 2, 1) := by decide +kernel
theorem dX3_reach_10 : decode cX3_reach 10 = .ok (.iload_n 2, 1) := by decide +kernel
theorem dX3_reach_11 : decode cX3_reach 11 = .ok (.istore_n 3, 1) := by decide +kernel
theorem dX3_reach_12 : decode cX3_reach 12 = .ok (.iconst 1, 1) := by decide +kernel
theorem dX3_reach_13 : decode cX3_reach 13 = .ok (.istore 4, 2) := by decide +kernel
theorem dX3_reach_15 : decode cX3_reach 15 = .ok (.iload 4, 2) := by decide +kernel
theorem dX3_reach_17 : decode cX3_reach 17 = .ok (.aload_n 0, 1) := by decide +kernel
theorem dX3_reach_18 : decode cX3_reach 18 = .ok (.getfield 18, 3) := by decide +kernel
theorem dX3_reach_21 : decode cX3_reach 21 = .ok (.invokevirtual 22, 3) := by decide +kernel
theorem dX3_reach_24 : decode cX3_reach 24 = .ok (.if_icmp .ge 39, 3) := by decide +kernel
theorem dX3_reach_27 : decode cX3_reach 27 = .ok (.iload_n 2, 1) := by decide +kernel
theorem dX3_reach_28 : decode cX3_reach 28 = .ok (.aload_n 0, 1) := by decide +kernel
theorem dX3_reach_29 : decode cX3_reach 29 = .ok (.getfield 18, 3) := by decide +kernel
theorem dX3_reach_32 : decode cX3_reach 32 = .ok (.iload 4, 2) := by decide +kernel
theorem dX3_reach_34 : decode cX3_reach 34 = .ok (.iload_n 1, 1) := by decide +kernel
theorem dX3_reach_35 : decode cX3_reach 35 = .ok (.invokevirtual 58, 3) := by decide +kernel
theorem dX3_reach_38 : decode cX3_reach 38 = .ok (.invokestatic 28, 3) := by decide +kernel
theorem dX3_reach_41 : decode cX3_reach 41 = .ok (.istore_n 2, 1) := by decide +kernel
theorem dX3_reach_42 : decode cX3_reach 42 = .ok (.iload_n 3, 1) := by decide +kernel
theorem dX3_reach_43 : decode cX3_reach 43 = .ok (.aload_n 0, 1) := by decide +kernel
theorem dX3_reach_44 : decode cX3_reach 44 = .ok (.getfield 18, 3) := by decide +kernel
theorem dX3_reach_47 : decode cX3_reach 47 = .ok (.iload 4, 2) := by decide +kernel
theorem dX3_reach_49 : decode cX3_reach 49 = .ok (.iload_n 1, 1) := by decide +kernel
theorem dX3_reach_50 : decode cX3_reach 50 = .ok (.invokevirtual 58, 3) := by decide +kernel
theorem dX3_reach_53 : decode cX3_reach 53 = .ok (.invokestatic 51, 3) := by decide +kernel
theorem dX3_reach_56 : decode cX3_reach 56 = .ok (.istore_n 3, 1) := by decide +kernel
theorem dX3_reach_57 : decode cX3_reach 57 = .ok (.iinc 4 1, 3) := by decide +kernel
theorem dX3_reach_60 : decode cX3_reach 60 = .ok (.goto (-45), 3) := by decide +kernel
theorem dX3_reach_63 : decode cX3_reach 63 = .ok (.iload_n 3, 1) := by decide +kernel
theorem dX3_reach_64 : decode cX3_reach 64 = .ok (.iload_n 2, 1) := by decide +kernel
theorem dX3_reach_65 : decode cX3_reach 65 = .ok (.isub, 1) := by decide +kernel
theorem dX3_reach_66 : decode cX3_reach 66 = .ok (.ireturn, 1) := by decide +kernel
theorem dX3_onOneCell_0 : decode cX3_onOneCell 0 = .ok (.iconst 0, 1) := by decide +kernel
theorem dX3_onOneCell_1 : decode cX3_onOneCell 1 = .ok (.istore_n 1, 1) := by decide +kernel
theorem dX3_onOneCell_2 : decode cX3_onOneCell 2 = .ok (.iconst 0, 1) := by decide +kernel
theorem dX3_onOneCell_3 : decode cX3_onOneCell 3 = .ok (.istore_n 2, 1) := by decide +kernel
theorem dX3_onOneCell_4 : decode cX3_onOneCell 4 = .ok (.iload_n 2, 1) := by decide +kernel
theorem dX3_onOneCell_5 : decode cX3_onOneCell 5 = .ok (.aload_n 0, 1) := by decide +kernel
theorem dX3_onOneCell_6 : decode cX3_onOneCell 6 = .ok (.getfield 18, 3) := by decide +kernel
theorem dX3_onOneCell_9 : decode cX3_onOneCell 9 = .ok (.invokevirtual 22, 3) := by decide +kernel
theorem dX3_onOneCell_12 : decode cX3_onOneCell 12 = .ok (.if_icmp .ge 65, 3) := by decide +kernel
theorem dX3_onOneCell_15 : decode cX3_onOneCell 15 = .ok (.iconst 0, 1) := by decide +kernel
theorem dX3_onOneCell_16 : decode cX3_onOneCell 16 = .ok (.istore_n 3, 1) := by decide +kernel
theorem dX3_onOneCell_17 : decode cX3_onOneCell 17 = .ok (.iload_n 3, 1) := by decide +kernel
theorem dX3_onOneCell_18 : decode cX3_onOneCell 18 = .ok (.aload_n 0, 1) := by decide +kernel
theorem dX3_onOneCell_19 : decode cX3_onOneCell 19 = .ok (.getfield 18, 3) := by decide +kernel
theorem dX3_onOneCell_22 : decode cX3_onOneCell 22 = .ok (.invokevirtual 22, 3) := by decide +kernel
theorem dX3_onOneCell_25 : decode cX3_onOneCell 25 = .ok (.if_icmp .ge 46, 3) := by decide +kernel
theorem dX3_onOneCell_28 : decode cX3_onOneCell 28 = .ok (.iload_n 2, 1) := by decide +kernel
theorem dX3_onOneCell_29 : decode cX3_onOneCell 29 = .ok (.iload_n 3, 1) := by decide +kernel
theorem dX3_onOneCell_30 : decode cX3_onOneCell 30 = .ok (.if_icmp .eq 35, 3) := by decide +kernel
theorem dX3_onOneCell_33 : decode cX3_onOneCell 33 = .ok (.aload_n 0, 1) := by decide +kernel
theorem dX3_onOneCell_34 : decode cX3_onOneCell 34 = .ok (.iload_n 3, 1) := by decide +kernel
theorem dX3_onOneCell_35 : decode cX3_onOneCell 35 = .ok (.aload_n 0, 1) := by decide +kernel
theorem dX3_onOneCell_36 : decode cX3_onOneCell 36 = .ok (.getfield 18, 3) := by decide +kernel
theorem dX3_onOneCell_39 : decode cX3_onOneCell 39 = .ok (.iload_n 2, 1) := by decide +kernel
theorem dX3_onOneCell_40 : decode cX3_onOneCell 40 = .ok (.iconst 0, 1) := by decide +kernel
theorem dX3_onOneCell_41 : decode cX3_onOneCell 41 = .ok (.invokevirtual 58, 3) := by decide +kernel
theorem dX3_onOneCell_44 : decode cX3_onOneCell 44 = .ok (.aload_n 0, 1) := by decide +kernel
theorem dX3_onOneCell_45 : decode cX3_onOneCell 45 = .ok (.getfield 18, 3) := by decide +kernel
theorem dX3_onOneCell_48 : decode cX3_onOneCell 48 = .ok (.iload_n 2, 1) := by decide +kernel
theorem dX3_onOneCell_49 : decode cX3_onOneCell 49 = .ok (.iconst 1, 1) := by decide +kernel
theorem dX3_onOneCell_50 : decode cX3_onOneCell 50 = .ok (.invokevirtual 58, 3) := by decide +kernel
theorem dX3_onOneCell_53 : decode cX3_onOneCell 53 = .ok (.invokevirtual 72, 3) := by decide +kernel
theorem dX3_onOneCell_56 : decode cX3_onOneCell 56 = .ok (.ifCond .eq 9, 3) := by decide +kernel
theorem dX3_onOneCell_59 : decode cX3_onOneCell 59 = .ok (.iload_n 1, 1) := by decide +kernel
theorem dX3_onOneCell_60 : decode cX3_onOneCell 60 = .ok (.iconst 1, 1) := by decide +kernel
theorem dX3_onOneCell_61 : decode cX3_onOneCell 61 = .ok (.iload_n 2, 1) := by decide +kernel
theorem dX3_onOneCell_62 : decode cX3_onOneCell 62 = .ok (.ishl, 1) := by decide +kernel
theorem dX3_onOneCell_63 : decode cX3_onOneCell 63 = .ok (.ior, 1) := by decide +kernel
theorem dX3_onOneCell_64 : decode cX3_onOneCell 64 = .ok (.istore_n 1, 1) := by decide +kernel
theorem dX3_onOneCell_65 : decode cX3_onOneCell 65 = .ok (.iinc 3 1, 3) := by decide +kernel
theorem dX3_onOneCell_68 : decode cX3_onOneCell 68 = .ok (.goto (-51), 3) := by decide +kernel
theorem dX3_onOneCell_71 : decode cX3_onOneCell 71 = .ok (.iinc 2 1, 3) := by decide +kernel
theorem dX3_onOneCell_74 : decode cX3_onOneCell 74 = .ok (.goto (-70), 3) := by decide +kernel
theorem dX3_onOneCell_77 : decode cX3_onOneCell 77 = .ok (.iload_n 1, 1) := by decide +kernel
theorem dX3_onOneCell_78 : decode cX3_onOneCell 78 = .ok (.ireturn, 1) := by decide +kernel
theorem dX3_isMirror_0 : decode cX3_isMirror 0 = .ok (.iconst 0, 1) := by decide +kernel
theorem dX3_isMirror_1 : decode cX3_isMirror 1 = .ok (.istore_n 1, 1) := by decide +kernel
theorem dX3_isMirror_2 : decode cX3_isMirror 2 = .ok (.iload_n 1, 1) := by decide +kernel
theorem dX3_isMirror_3 : decode cX3_isMirror 3 = .ok (.aload_n 0, 1) := by decide +kernel
theorem dX3_isMirror_4 : decode cX3_isMirror 4 = .ok (.getfield 18, 3) := by decide +kernel
theorem dX3_isMirror_7 : decode cX3_isMirror 7 = .ok (.invokevirtual 22, 3) := by decide +kernel
theorem dX3_isMirror_10 : decode cX3_isMirror 10 = .ok (.if_icmp .ge 39, 3) := by decide +kernel
theorem dX3_isMirror_13 : decode cX3_isMirror 13 = .ok (.aload_n 0, 1) := by decide +kernel
theorem dX3_isMirror_14 : decode cX3_isMirror 14 = .ok (.bipush 15, 2) := by decide +kernel
theorem dX3_isMirror_16 : decode cX3_isMirror 16 = .ok (.aload_n 0, 1) := by decide +kernel
theorem dX3_isMirror_17 : decode cX3_isMirror 17 = .ok (.getfield 18, 3) := by decide +kernel
theorem dX3_isMirror_20 : decode cX3_isMirror 20 = .ok (.iload_n 1, 1) := by decide +kernel
theorem dX3_isMirror_21 : decode cX3_isMirror 21 = .ok (.iconst 0, 1) := by decide +kernel
theorem dX3_isMirror_22 : decode cX3_isMirror 22 = .ok (.invokevirtual 58, 3) := by decide +kernel
theorem dX3_isMirror_25 : decode cX3_isMirror 25 = .ok (.isub, 1) := by decide +kernel
theorem dX3_isMirror_26 : decode cX3_isMirror 26 = .ok (.aload_n 0, 1) := by decide +kernel
theorem dX3_isMirror_27 : decode cX3_isMirror 27 = .ok (.getfield 18, 3) := by decide +kernel
theorem dX3_isMirror_30 : decode cX3_isMirror 30 = .ok (.iload_n 1, 1) := by decide +kernel
theorem dX3_isMirror_31 : decode cX3_isMirror 31 = .ok (.iconst 1, 1) := by decide +kernel
theorem dX3_isMirror_32 : decode cX3_isMirror 32 = .ok (.invokevirtual 58, 3) := by decide +kernel
theorem dX3_isMirror_35 : decode cX3_isMirror 35 = .ok (.invokevirtual 76, 3) := by decide +kernel
theorem dX3_isMirror_38 : decode cX3_isMirror 38 = .ok (.ifCond .ne 5, 3) := by decide +kernel
theorem dX3_isMirror_41 : decode cX3_isMirror 41 = .ok (.iconst 0, 1) := by decide +kernel
theorem dX3_isMirror_42 : decode cX3_isMirror 42 = .ok (.ireturn, 1) := by decide +kernel
theorem dX3_isMirror_43 : decode cX3_isMirror 43 = .ok (.iinc 1 1, 3) := by decide +kernel
theorem dX3_isMirror_46 : decode cX3_isMirror 46 = .ok (.goto (-44), 3) := by decide +kernel
theorem dX3_isMirror_49 : decode cX3_isMirror 49 = .ok (.iconst 1, 1) := by decide +kernel
theorem dX3_isMirror_50 : decode cX3_isMirror 50 = .ok (.ireturn, 1) := by decide +kernel
theorem dX3_isAnybodyAt_0 : decode cX3_isAnybodyAt 0 = .ok (.iconst 0, 1) := by decide +kernel
theorem dX3_isAnybodyAt_1 : decode cX3_isAnybodyAt 1 = .ok (.istore_n 3, 1) := by decide +kernel
theorem dX3_isAnybodyAt_2 : decode cX3_isAnybodyAt 2 = .ok (.iload_n 3, 1) := by decide +kernel
theorem dX3_isAnybodyAt_3 : decode cX3_isAnybodyAt 3 = .ok (.aload_n 0, 1) := by decide +kernel
theorem dX3_isAnybodyAt_4 : decode cX3_isAnybodyAt 4 = .ok (.getfield 18, 3) := by decide +kernel
theorem dX3_isAnybodyAt_7 : decode cX3_isAnybodyAt 7 = .ok (.invokevirtual 22, 3) := by decide +kernel
theorem dX3_isAnybodyAt_10 : decode cX3_isAnybodyAt 10 = .ok (.if_icmp .ge 21, 3) := by decide +kernel
theorem dX3_isAnybodyAt_13 : decode cX3_isAnybodyAt 13 = .ok (.aload_n 0, 1) := by decide +kernel
theorem dX3_isAnybodyAt_14 : decode cX3_isAnybodyAt 14 = .ok (.iload_n 3, 1) := by decide +kernel
theorem dX3_isAnybodyAt_15 : decode cX3_isAnybodyAt 15 = .ok (.iload_n 1, 1) := by decide +kernel
theorem dX3_isAnybodyAt_16 : decode cX3_isAnybodyAt 16 = .ok (.iload_n 2, 1) := by decide +kernel
theorem dX3_isAnybodyAt_17 : decode cX3_isAnybodyAt 17 = .ok (.invokevirtual 72, 3) := by decide +kernel
theorem dX3_isAnybodyAt_20 : decode cX3_isAnybodyAt 20 = .ok (.ifCond .eq 5, 3) := by decide +kernel
theorem dX3_isAnybodyAt_23 : decode cX3_isAnybodyAt 23 = .ok (.iconst 1, 1) := by decide +kernel
theorem dX3_isAnybodyAt_24 : decode cX3_isAnybodyAt 24 = .ok (.ireturn, 1) := by decide +kernel
theorem dX3_isAnybodyAt_25 : decode cX3_isAnybodyAt 25 = .ok (.iinc 3 1, 3) := by decide +kernel
theorem dX3_isAnybodyAt_28 : decode cX3_isAnybodyAt 28 = .ok (.goto (-26), 3) := by decide +kernel
theorem dX3_isAnybodyAt_31 : decode cX3_isAnybodyAt 31 = .ok (.iconst 0, 1) := by decide +kernel
theorem dX3_isAnybodyAt_32 : decode cX3_isAnybodyAt 32 = .ok (.ireturn, 1) := by decide +kernel
theorem dX3_isAt_0 : decode cX3_isAt 0 = .ok (.aload_n 0, 1) := by decide +kernel
theorem dX3_isAt_1 : decode cX3_isAt 1 = .ok (.getfield 18, 3) := by decide +kernel
theorem dX3_isAt_4 : decode cX3_isAt 4 = .ok (.iload_n 1, 1) := by decide +kernel
theorem dX3_isAt_5 : decode cX3_isAt 5 = .ok (.iconst 0, 1) := by decide +kernel
theorem dX3_isAt_6 : decode cX3_isAt 6 = .ok (.invokevirtual 58, 3) := by decide +kernel
theorem dX3_isAt_9 : decode cX3_isAt 9 = .ok (.iload_n 2, 1) := by decide +kernel
theorem dX3_isAt_10 : decode cX3_isAt 10 = .ok (.if_icmp .ne 20, 3) := by decide +kernel
theorem dX3_isAt_13 : decode cX3_isAt 13 = .ok (.aload_n 0, 1) := by decide +kernel
theorem dX3_isAt_14 : decode cX3_isAt 14 = .ok (.getfield 18, 3) := by decide +kernel
theorem dX3_isAt_17 : decode cX3_isAt 17 = .ok (.iload_n 1, 1) := by decide +kernel
theorem dX3_isAt_18 : decode cX3_isAt 18 = .ok (.iconst 1, 1) := by decide +kernel
theorem dX3_isAt_19 : decode cX3_isAt 19 = .ok (.invokevirtual 58, 3) := by decide +kernel
theorem dX3_isAt_22 : decode cX3_isAt 22 = .ok (.iload_n 3, 1) := by decide +kernel
theorem dX3_isAt_23 : decode cX3_isAt 23 = .ok (.if_icmp .ne 7, 3) := by decide +kernel
theorem dX3_isAt_26 : decode cX3_isAt 26 = .ok (.iconst 1, 1) := by decide +kernel
theorem dX3_isAt_27 : decode cX3_isAt 27 = .ok (.goto 4, 3) := by decide +kernel
theorem dX3_isAt_30 : decode cX3_isAt 30 = .ok (.iconst 0, 1) := by decide +kernel
theorem dX3_isAt_31 : decode cX3_isAt 31 = .ok (.ireturn, 1) := by decide +kernel
theorem dX4_init_0 : decode cX4_init 0 = .ok (.aload_n 0, 1) := by decide +kernel
theorem dX4_init_1 : decode cX4_init 1 = .ok (.invokespecial 1, 3) := by decide +kernel
theorem dX4_init_4 : decode cX4_init 4 = .ok (.aload_n 0, 1) := by decide +kernel
theorem dX4_init_5 : decode cX4_init 5 = .ok (.sipush 128, 3) := by decide +kernel
theorem dX4_init_8 : decode cX4_init 8 = .ok (.newarray .int, 2) := by decide +kernel
theorem dX4_init_10 : decode cX4_init 10 = .ok (.putfield 9, 3) := by decide +kernel
theorem dX4_init_13 : decode cX4_init 13 = .ok (.aload_n 0, 1) := by decide +kernel
theorem dX4_init_14 : decode cX4_init 14 = .ok (.sipush 128, 3) := by decide +kernel
theorem dX4_init_17 : decode cX4_init 17 = .ok (.newarray .int, 2) := by decide +kernel
theorem dX4_init_19 : decode cX4_init 19 = .ok (.putfield 15, 3) := by decide +kernel
theorem dX4_init_22 : decode cX4_init 22 = .ok (.aload_n 0, 1) := by decide +kernel
theorem dX4_init_23 : decode cX4_init 23 = .ok (.bipush 6, 2) := by decide +kernel
theorem dX4_init_25 : decode cX4_init 25 = .ok (.newarray .int, 2) := by decide +kernel
theorem dX4_init_27 : decode cX4_init 27 = .ok (.putfield 18, 3) := by decide +kernel
theorem dX4_init_30 : decode cX4_init 30 = .ok (.return_, 1) := by decide +kernel
theorem dX4_become_0 : decode cX4_become 0 = .ok (.aload_n 0, 1) := by decide +kernel
theorem dX4_become_1 : decode cX4_become 1 = .ok (.iload_n 2, 1) := by decide +kernel
theorem dX4_become_2 : decode cX4_become 2 = .ok (.aload_n 1, 1) := by decide +kernel
theorem dX4_become_3 : decode cX4_become 3 = .ok (.arraylength, 1) := by decide +kernel
theorem dX4_become_4 : decode cX4_become 4 = .ok (.invokestatic 21, 3) := by decide +kernel
theorem dX4_become_7 : decode cX4_become 7 = .ok (.sipush 128, 3) := by decide +kernel
theorem dX4_become_10 : decode cX4_become 10 = .ok (.invokestatic 21, 3) := by decide +kernel
theorem dX4_become_13 : decode cX4_become 13 = .ok (.putfield 27, 3) := by decide +kernel
theorem dX4_become_16 : decode cX4_become 16 = .ok (.aload_n 1, 1) := by decide +kernel
theorem dX4_become_17 : decode cX4_become 17 = .ok (.iconst 0, 1) := by decide +kernel
theorem dX4_become_18 : decode cX4_become 18 = .ok (.aload_n 0, 1) := by decide +kernel
theorem dX4_become_19 : decode cX4_become 19 = .ok (.getfield 9, 3) := by decide +kernel
theorem dX4_become_22 : decode cX4_become 22 = .ok (.iconst 0, 1) := by decide +kernel
theorem dX4_become_23 : decode cX4_become 23 = .ok (.aload_n 0, 1) := by decide +kernel
theorem dX4_become_24 : decode cX4_become 24 = .ok (.getfield 27, 3) := by decide +kernel
theorem dX4_become_27 : decode cX4_become 27 = .ok (.invokestatic 31, 3) := by decide +kernel
theorem dX4_become_30 : decode cX4_become 30 = .ok (.return_, 1) := by decide +kernel
theorem dX4_marks_0 : decode cX4_marks 0 = .ok (.aload_n 0, 1) := by decide +kernel
theorem dX4_marks_1 : decode cX4_marks 1 = .ok (.getfield 27, 3) := by decide +kernel
theorem dX4_marks_4 : decode cX4_marks 4 = .ok (.ifCond .ne 11, 3) := by decide +kernel
theorem dX4_marks_7 : decode cX4_marks 7 = .ok (.iload_n 1, 1) := by decide +kernel
theorem dX4_marks_8 : decode cX4_marks 8 = .ok (.iload_n 2, 1) := by decide +kernel
theorem dX4_marks_9 : decode cX4_marks 9 = .ok (.iload 6, 2) := by decide +kernel
theorem dX4_marks_11 : decode cX4_marks 11 = .ok (.invokestatic 37, 3) := by decide +kernel
theorem dX4_marks_14 : decode cX4_marks 14 = .ok (.ireturn, 1) := by decide +kernel
theorem dX4_marks_15 : decode cX4_marks 15 = .ok (.aload_n 0, 1) := by decide +kernel
theorem dX4_marks_16 : decode cX4_marks 16 = .ok (.getfield 18, 3) := by decide +kernel
theorem dX4_marks_19 : decode cX4_marks 19 = .ok (.iconst 0, 1) := by decide +kernel
theorem dX4_marks_20 : decode cX4_marks 20 = .ok (.iload_n 1, 1) := by decide +kernel
theorem dX4_marks_21 : decode cX4_marks 21 = .ok (.iastore, 1) := by decide +kernel
theorem dX4_marks_22 : decode cX4_marks 22 = .ok (.aload_n 0, 1) := by decide +kernel
theorem dX4_marks_23 : decode cX4_marks 23 = .ok (.getfield 18, 3) := by decide +kernel
theorem dX4_marks_26 : decode cX4_marks 26 = .ok (.iconst 1, 1) := by decide +kernel
theorem dX4_marks_27 : decode cX4_marks 27 = .ok (.iload_n 2, 1) := by decide +kernel
theorem dX4_marks_28 : decode cX4_marks 28 = .ok (.iastore, 1) := by decide +kernel
theorem dX4_marks_29 : decode cX4_marks 29 = .ok (.aload_n 0, 1) := by decide +kernel
theorem dX4_marks_30 : decode cX4_marks 30 = .ok (.getfield 18, 3) := by decide +kernel
theorem dX4_marks_33 : decode cX4_marks 33 = .ok (.iconst 2, 1) := by decide +kernel
theorem dX4_marks_34 : decode cX4_marks 34 = .ok (.iload_n 3, 1) := by decide +kernel
theorem dX4_marks_35 : decode cX4_marks 35 = .ok (.iastore, 1) := by decide +kernel
theorem dX4_marks_36 : decode cX4_marks 36 = .ok (.aload_n 0, 1) := by decide +kernel
theorem dX4_marks_37 : decode cX4_marks 37 = .ok (.getfield 18, 3) := by decide +kernel
theorem dX4_marks_40 : decode cX4_marks 40 = .ok (.iconst 3, 1) := by decide +kernel
theorem dX4_marks_41 : decode cX4_marks 41 = .ok (.iload 4, 2) := by decide +kernel
theorem dX4_marks_43 : decode cX4_marks 43 = .ok (.iastore, 1) := by decide +kernel
theorem dX4_marks_44 : decode cX4_marks 44 = .ok (.aload_n 0, 1) := by decide +kernel
theorem dX4_marks_45 : decode cX4_marks 45 = .ok (.getfield 18, 3) := by decide +kernel
theorem dX4_marks_48 : decode cX4_marks 48 = .ok (.iconst 4, 1) := by decide +kernel
theorem dX4_marks_49 : decode cX4_marks 49 = .ok (.iload 5, 2) := by decide +kernel
theorem dX4_marks_51 : decode cX4_marks 51 = .ok (.iastore, 1) := by decide +kernel
theorem dX4_marks_52 : decode cX4_marks 52 = .ok (.aload_n 0, 1) := by decide +kernel
theorem dX4_marks_53 : decode cX4_marks 53 = .ok (.getfield 18, 3) := by decide +kernel
theorem dX4_marks_56 : decode cX4_marks 56 = .ok (.iconst 5, 1) := by decide +kernel
theorem dX4_marks_57 : decode cX4_marks 57 = .ok (.iload 6, 2) := by decide +kernel
theorem dX4_marks_59 : decode cX4_marks 59 = .ok (.iastore, 1) := by decide +kernel
theorem dX4_marks_60 : decode cX4_marks 60 = .ok (.iconst 0, 1) := by decide +kernel
theorem dX4_marks_61 : decode cX4_marks 61 = .ok (.bipush 99, 2) := by decide +kernel
theorem dX4_marks_63 : decode cX4_marks 63 = .ok (.aload_n 0, 1) := by decide +kernel
theorem dX4_marks_64 : decode cX4_marks 64 = .ok (.invokevirtual 41, 3) := by decide +kernel
theorem dX4_marks_67 : decode cX4_marks 67 = .ok (.invokestatic 21, 3) := by decide +kernel
theorem dX4_marks_70 : decode cX4_marks 70 = .ok (.invokestatic 45, 3) := by decide +kernel
theorem dX4_marks_73 : decode cX4_marks 73 = .ok (.ireturn, 1) := by decide +kernel
theorem dX4_byRote_0 : decode cX4_byRote 0 = .ok (.iload_n 2, 1) := by decide +kernel
theorem dX4_byRote_1 : decode cX4_byRote 1 = .ok (.ifCond .gt 5, 3) := by decide +kernel
theorem dX4_byRote_4 : decode cX4_byRote 4 = .ok (.iconst 0, 1) := by decide +kernel
theorem dX4_byRote_5 : decode cX4_byRote 5 = .ok (.ireturn, 1) := by decide +kernel
theorem dX4_byRote_6 : decode cX4_byRote 6 = .ok (.iload_n 0, 1) := by decide +kernel
theorem dX4_byRote_7 : decode cX4_byRote 7 = .ok (.iload_n 2, 1) := by decide +kernel
theorem dX4_byRote_8 : decode cX4_byRote 8 = .ok (.idiv, 1) := by decide +kernel
theorem dX4_byRote_9 : decode cX4_byRote 9 = .ok (.istore_n 3, 1) := by decide +kernel
theorem dX4_byRote_10 : decode cX4_byRote 10 = .ok (.bipush 99, 2) := by decide +kernel
theorem dX4_byRote_12 : decode cX4_byRote 12 = .ok (.iload_n 1, 1) := by decide +kernel
theorem dX4_byRote_13 : decode cX4_byRote 13 = .ok (.iconst 2, 1) := by decide +kernel
theorem dX4_byRote_14 : decode cX4_byRote 14 = .ok (.if_icmp .ne 9, 3) := by decide +kernel
theorem dX4_byRote_17 : decode cX4_byRote 17 = .ok (.iconst 2, 1) := by decide +kernel
theorem dX4_byRote_18 : decode cX4_byRote 18 = .ok (.iload_n 3, 1) := by decide +kernel
theorem dX4_byRote_19 : decode cX4_byRote 19 = .ok (.imul, 1) := by decide +kernel
theorem dX4_byRote_20 : decode cX4_byRote 20 = .ok (.goto 4, 3) := by decide +kernel
theorem dX4_byRote_23 : decode cX4_byRote 23 = .ok (.iload_n 3, 1) := by decide +kernel
theorem dX4_byRote_24 : decode cX4_byRote 24 = .ok (.invokestatic 21, 3) := by decide +kernel
theorem dX4_byRote_27 : decode cX4_byRote 27 = .ok (.ireturn, 1) := by decide +kernel
theorem dX4_byText_0 : decode cX4_byText 0 = .ok (.iconst 0, 1) := by decide +kernel
theorem dX4_byText_1 : decode cX4_byText 1 = .ok (.istore_n 1, 1) := by decide +kernel
theorem dX4_byText_2 : decode cX4_byText 2 = .ok (.aload_n 0, 1) := by decide +kernel
theorem dX4_byText_3 : decode cX4_byText 3 = .ok (.iconst 0, 1) := by decide +kernel
theorem dX4_byText_4 : decode cX4_byText 4 = .ok (.putfield 50, 3) := by decide +kernel
theorem dX4_byText_7 : decode cX4_byText 7 = .ok (.iconst 0, 1) := by decide +kernel
theorem dX4_byText_8 : decode cX4_byText 8 = .ok (.istore_n 2, 1) := by decide +kernel
theorem dX4_byText_9 : decode cX4_byText 9 = .ok (.iload_n 2, 1) := by decide +kernel
theorem dX4_byText_10 : decode cX4_byText 10 = .ok (.aload_n 0, 1) := by decide +kernel
theorem dX4_byText_11 : decode cX4_byText 11 = .ok (.getfield 27, 3) := by decide +kernel
theorem dX4_byText_14 : decode cX4_byText 14 = .ok (.if_icmp .ge 81, 3) := by decide +kernel
theorem dX4_byText_17 : decode cX4_byText 17 = .ok (.aload_n 0, 1) := by decide +kernel
theorem dX4_byText_18 : decode cX4_byText 18 = .ok (.getfield 9, 3) := by decide +kernel
theorem dX4_byText_21 : decode cX4_byText 21 = .ok (.iload_n 2, 1) := by decide +kernel
theorem dX4_byText_22 : decode cX4_byText 22 = .ok (.iaload, 1) := by decide +kernel
theorem dX4_byText_23 : decode cX4_byText 23 = .ok (.istore_n 3, 1) := by decide +kernel
theorem dX4_byText_24 : decode cX4_byText 24 = .ok (.iload_n 3, 1) := by decide +kernel
theorem dX4_byText_25 : decode cX4_byText 25 = .ok (.bipush (-59), 2) := by decide +kernel
theorem dX4_byText_27 : decode cX4_byText 27 = .ok (.if_icmp .ne 12, 3) := by decide +kernel
theorem dX4_byText_30 : decode cX4_byText 30 = .ok (.iload_n 1, 1) := by decide +kernel
theorem dX4_byText_31 : decode cX4_byText 31 = .ok (.ifCond .ne 8, 3) := by decide +kernel
theorem dX4_byText_34 : decode cX4_byText 34 = .ok (.aload_n 0, 1) := by decide +kernel
theorem dX4_byText_35 : decode cX4_byText 35 = .ok (.invokevirtual 53, 3) := by decide +kernel
theorem dX4_byText_38 : decode cX4_byText 38 = .ok (.ireturn, 1) := by decide +kernel
theorem dX4_byText_39 : decode cX4_byText 39 = .ok (.iload_n 3, 1) := by decide +kernel
theorem dX4_byText_40 : decode cX4_byText 40 = .ok (.bipush (-59), 2) := by decide +kernel
theorem dX4_byText_42 : decode cX4_byText 42 = .ok (.if_icmp .ne 8, 3) := by decide +kernel
theorem dX4_byText_45 : decode cX4_byText 45 = .ok (.iconst 0, 1) := by decide +kernel
theorem dX4_byText_46 : decode cX4_byText 46 = .ok (.istore_n 1, 1) := by decide +kernel
theorem dX4_byText_47 : decode cX4_byText 47 = .ok (.goto 42, 3) := by decide +kernel
theorem dX4_byText_50 : decode cX4_byText 50 = .ok (.iload_n 3, 1) := by decide +kernel
theorem dX4_byText_51 : decode cX4_byText 51 = .ok (.bipush (-63), 2) := by decide +kernel
theorem dX4_byText_53 : decode cX4_byText 53 = .ok (.if_icmp .ne 23, 3) := by decide +kernel
theorem dX4_byText_56 : decode cX4_byText 56 = .ok (.iload_n 1, 1) := by decide +kernel
theorem dX4_byText_57 : decode cX4_byText 57 = .ok (.ifCond .ne 19, 3) := by decide +kernel
theorem dX4_byText_60 : decode cX4_byText 60 = .ok (.aload_n 0, 1) := by decide +kernel
theorem dX4_byText_61 : decode cX4_byText 61 = .ok (.invokevirtual 53, 3) := by decide +kernel
theorem dX4_byText_64 : decode cX4_byText 64 = .ok (.ifCond .ne 7, 3) := by decide +kernel
theorem dX4_byText_67 : decode cX4_byText 67 = .ok (.iconst 1, 1) := by decide +kernel
theorem dX4_byText_68 : decode cX4_byText 68 = .ok (.goto 4, 3) := by decide +kernel
theorem dX4_byText_71 : decode cX4_byText 71 = .ok (.iconst 0, 1) := by decide +kernel
theorem dX4_byText_72 : decode cX4_byText 72 = .ok (.istore_n 1, 1) := by decide +kernel
theorem dX4_byText_73 : decode cX4_byText 73 = .ok (.goto 16, 3) := by decide +kernel
theorem dX4_byText_76 : decode cX4_byText 76 = .ok (.iload_n 1, 1) := by decide +kernel
theorem dX4_byText_77 : decode cX4_byText 77 = .ok (.ifCond .ne 12, 3) := by decide +kernel
theorem dX4_byText_80 : decode cX4_byText 80 = .ok (.aload_n 0, 1) := by decide +kernel
theorem dX4_byText_81 : decode cX4_byText 81 = .ok (.aload_n 0, 1) := by decide +kernel
theorem dX4_byText_82 : decode cX4_byText 82 = .ok (.iload_n 3, 1) := by decide +kernel
theorem dX4_byText_83 : decode cX4_byText 83 = .ok (.invokevirtual 56, 3) := by decide +kernel
theorem dX4_byText_86 : decode cX4_byText 86 = .ok (.invokevirtual 60, 3) := by decide +kernel
theorem dX4_byText_89 : decode cX4_byText 89 = .ok (.iinc 2 1, 3) := by decide +kernel
theorem dX4_byText_92 : decode cX4_byText 92 = .ok (.goto (-83), 3) := by decide +kernel
theorem dX4_byText_95 : decode cX4_byText 95 = .ok (.iconst 0, 1) := by decide +kernel
theorem dX4_byText_96 : decode cX4_byText 96 = .ok (.ireturn, 1) := by decide +kernel
theorem dX4_worth_0 : decode cX4_worth 0 = .ok (.iload_n 1, 1) := by decide +kernel
theorem dX4_worth_1 : decode cX4_worth 1 = .ok (.ifCond .lt 5, 3) := by decide +kernel
theorem dX4_worth_4 : decode cX4_worth 4 = .ok (.iload_n 1, 1) := by decide +kernel
theorem dX4_worth_5 : decode cX4_worth 5 = .ok (.ireturn, 1) := by decide +kernel
theorem dX4_worth_6 : decode cX4_worth 6 = .ok (.iload_n 1, 1) := by decide +kernel
theorem dX4_worth_7 : decode cX4_worth 7 = .ok (.bipush (-6), 2) := by decide +kernel
theorem dX4_worth_9 : decode cX4_worth 9 = .ok (.if_icmp .lt 12, 3) := by decide +kernel
theorem dX4_worth_12 : decode cX4_worth 12 = .ok (.aload_n 0, 1) := by decide +kernel
theorem dX4_worth_13 : decode cX4_worth 13 = .ok (.getfield 18, 3) := by decide +kernel
theorem dX4_worth_16 : decode cX4_worth 16 = .ok (.iconst (-1), 1) := by decide +kernel
theorem dX4_worth_17 : decode cX4_worth 17 = .ok (.iload_n 1, 1) := by decide +kernel
theorem dX4_worth_18 : decode cX4_worth 18 = .ok (.isub, 1) := by decide +kernel
theorem dX4_worth_19 : decode cX4_worth 19 = .ok (.iaload, 1) := by decide +kernel
theorem dX4_worth_20 : decode cX4_worth 20 = .ok (.ireturn, 1) := by decide +kernel
theorem dX4_worth_21 : decode cX4_worth 21 = .ok (.aload_n 0, 1) := by decide +kernel
theorem dX4_worth_22 : decode cX4_worth 22 = .ok (.invokevirtual 53, 3) := by decide +kernel
theorem dX4_worth_25 : decode cX4_worth 25 = .ok (.istore_n 2, 1) := by decide +kernel
theorem dX4_worth_26 : decode cX4_worth 26 = .ok (.iload_n 1, 1) := by decide +kernel
theorem dX4_worth_27 : decode cX4_worth 27 = .ok (.bipush (-126), 2) := by decide +kernel
theorem dX4_worth_29 : decode cX4_worth 29 = .ok (.if_icmp .ne 6, 3) := by decide +kernel
theorem dX4_worth_32 : decode cX4_worth 32 = .ok (.iload_n 2, 1) := by decide +kernel
theorem dX4_worth_33 : decode cX4_worth 33 = .ok (.ineg, 1) := by decide +kernel
theorem dX4_worth_34 : decode cX4_worth 34 = .ok (.ireturn, 1) := by decide +kernel
theorem dX4_worth_35 : decode cX4_worth 35 = .ok (.iload_n 1, 1) := by decide +kernel
theorem dX4_worth_36 : decode cX4_worth 36 = .ok (.bipush (-33), 2) := by decide +kernel
theorem dX4_worth_38 : decode cX4_worth 38 = .ok (.if_icmp .ne 13, 3) := by decide +kernel
theorem dX4_worth_41 : decode cX4_worth 41 = .ok (.iload_n 2, 1) := by decide +kernel
theorem dX4_worth_42 : decode cX4_worth 42 = .ok (.ifCond .ne 7, 3) := by decide +kernel
theorem dX4_worth_45 : decode cX4_worth 45 = .ok (.iconst 1, 1) := by decide +kernel
theorem dX4_worth_46 : decode cX4_worth 46 = .ok (.goto 4, 3) := by decide +kernel
theorem dX4_worth_49 : decode cX4_worth 49 = .ok (.iconst 0, 1) := by decide +kernel
theorem dX4_worth_50 : decode cX4_worth 50 = .ok (.ireturn, 1) := by decide +kernel
theorem dX4_worth_51 : decode cX4_worth 51 = .ok (.iload_n 1, 1) := by decide +kernel
theorem dX4_worth_52 : decode cX4_worth 52 = .ok (.ineg, 1) := by decide +kernel
theorem dX4_worth_53 : decode cX4_worth 53 = .ok (.aload_n 0, 1) := by decide +kernel
theorem dX4_worth_54 : decode cX4_worth 54 = .ok (.invokevirtual 53, 3) := by decide +kernel
theorem dX4_worth_57 : decode cX4_worth 57 = .ok (.iload_n 2, 1) := by decide +kernel
theorem dX4_worth_58 : decode cX4_worth 58 = .ok (.invokestatic 64, 3) := by decide +kernel
theorem dX4_worth_61 : decode cX4_worth 61 = .ok (.ireturn, 1) := by decide +kernel
theorem dX4_joined_0 : decode cX4_joined 0 = .ok (.iload_n 0, 1) := by decide +kernel
theorem dX4_joined_1 : decode cX4_joined 1 = .ok (.lookupswitch 168 #[(38, 97), (42, 152), (43, 144), (45, 148), (47, 156), (60, 111), (61, 122), (62, 133), (124, 83)], 83) := by decide +kernel
theorem dX4_joined_84 : decode cX4_joined 84 = .ok (.iload_n 1, 1) := by decide +kernel
theorem dX4_joined_85 : decode cX4_joined 85 = .ok (.ifCond .ne 7, 3) := by decide +kernel
theorem dX4_joined_88 : decode cX4_joined 88 = .ok (.iload_n 2, 1) := by decide +kernel
theorem dX4_joined_89 : decode cX4_joined 89 = .ok (.ifCond .eq 7, 3) := by decide +kernel
theorem dX4_joined_92 : decode cX4_joined 92 = .ok (.iconst 1, 1) := by decide +kernel
theorem dX4_joined_93 : decode cX4_joined 93 = .ok (.goto 4, 3) := by decide +kernel
theorem dX4_joined_96 : decode cX4_joined 96 = .ok (.iconst 0, 1) := by decide +kernel
theorem dX4_joined_97 : decode cX4_joined 97 = .ok (.ireturn, 1) := by decide +kernel
theorem dX4_joined_98 : decode cX4_joined 98 = .ok (.iload_n 1, 1) := by decide +kernel
theorem dX4_joined_99 : decode cX4_joined 99 = .ok (.ifCond .eq 11, 3) := by decide +kernel
theorem dX4_joined_102 : decode cX4_joined 102 = .ok (.iload_n 2, 1) := by decide +kernel
theorem dX4_joined_103 : decode cX4_joined 103 = .ok (.ifCond .eq 7, 3) := by decide +kernel
theorem dX4_joined_106 : decode cX4_joined 106 = .ok (.iconst 1, 1) := by decide +kernel
theorem dX4_joined_107 : decode cX4_joined 107 = .ok (.goto 4, 3) := by decide +kernel
theorem dX4_joined_110 : decode cX4_joined 110 = .ok (.iconst 0, 1) := by decide +kernel
theorem dX4_joined_111 : decode cX4_joined 111 = .ok (.ireturn, 1) := by decide +kernel
theorem dX4_joined_112 : decode cX4_joined 112 = .ok (.iload_n 1, 1) := by decide +kernel
theorem dX4_joined_113 : decode cX4_joined 113 = .ok (.iload_n 2, 1) := by decide +kernel
theorem dX4_joined_114 : decode cX4_joined 114 = .ok (.if_icmp .ge 7, 3) := by decide +kernel
theorem dX4_joined_117 : decode cX4_joined 117 = .ok (.iconst 1, 1) := by decide +kernel
theorem dX4_joined_118 : decode cX4_joined 118 = .ok (.goto 4, 3) := by decide +kernel
theorem dX4_joined_121 : decode cX4_joined 121 = .ok (.iconst 0, 1) := by decide +kernel
theorem dX4_joined_122 : decode cX4_joined 122 = .ok (.ireturn, 1) := by decide +kernel
theorem dX4_joined_123 : decode cX4_joined 123 = .ok (.iload_n 1, 1) := by decide +kernel
theorem dX4_joined_124 : decode cX4_joined 124 = .ok (.iload_n 2, 1) := by decide +kernel
theorem dX4_joined_125 : decode cX4_joined 125 = .ok (.if_icmp .ne 7, 3) := by decide +kernel
theorem dX4_joined_128 : decode cX4_joined 128 = .ok (.iconst 1, 1) := by decide +kernel
theorem dX4_joined_129 : decode cX4_joined 129 = .ok (.goto 4, 3) := by decide +kernel
theorem dX4_joined_132 : decode cX4_joined 132 = .ok (.iconst 0, 1) := by decide +kernel
theorem dX4_joined_133 : decode cX4_joined 133 = .ok (.ireturn, 1) := by decide +kernel
theorem dX4_joined_134 : decode cX4_joined 134 = .ok (.iload_n 1, 1) := by decide +kernel
theorem dX4_joined_135 : decode cX4_joined 135 = .ok (.iload_n 2, 1) := by decide +kernel
theorem dX4_joined_136 : decode cX4_joined 136 = .ok (.if_icmp .le 7, 3) := by decide +kernel
theorem dX4_joined_139 : decode cX4_joined 139 = .ok (.iconst 1, 1) := by decide +kernel
theorem dX4_joined_140 : decode cX4_joined 140 = .ok (.goto 4, 3) := by decide +kernel
theorem dX4_joined_143 : decode cX4_joined 143 = .ok (.iconst 0, 1) := by decide +kernel
theorem dX4_joined_144 : decode cX4_joined 144 = .ok (.ireturn, 1) := by decide +kernel
theorem dX4_joined_145 : decode cX4_joined 145 = .ok (.iload_n 1, 1) := by decide +kernel
theorem dX4_joined_146 : decode cX4_joined 146 = .ok (.iload_n 2, 1) := by decide +kernel
theorem dX4_joined_147 : decode cX4_joined 147 = .ok (.iadd, 1) := by decide +kernel
theorem dX4_joined_148 : decode cX4_joined 148 = .ok (.ireturn, 1) := by decide +kernel
theorem dX4_joined_149 : decode cX4_joined 149 = .ok (.iload_n 1, 1) := by decide +kernel
theorem dX4_joined_150 : decode cX4_joined 150 = .ok (.iload_n 2, 1) := by decide +kernel
theorem dX4_joined_151 : decode cX4_joined 151 = .ok (.isub, 1) := by decide +kernel
theorem dX4_joined_152 : decode cX4_joined 152 = .ok (.ireturn, 1) := by decide +kernel
theorem dX4_joined_153 : decode cX4_joined 153 = .ok (.iload_n 1, 1) := by decide +kernel
theorem dX4_joined_154 : decode cX4_joined 154 = .ok (.iload_n 2, 1) := by decide +kernel
theorem dX4_joined_155 : decode cX4_joined 155 = .ok (.imul, 1) := by decide +kernel
theorem dX4_joined_156 : decode cX4_joined 156 = .ok (.ireturn, 1) := by decide +kernel
theorem dX4_joined_157 : decode cX4_joined 157 = .ok (.iload_n 2, 1) := by decide +kernel
theorem dX4_joined_158 : decode cX4_joined 158 = .ok (.ifCond .ne 7, 3) := by decide +kernel
theorem dX4_joined_161 : decode cX4_joined 161 = .ok (.iconst 0, 1) := by decide +kernel
theorem dX4_joined_162 : decode cX4_joined 162 = .ok (.goto 6, 3) := by decide +kernel
theorem dX4_joined_165 : decode cX4_joined 165 = .ok (.iload_n 1, 1) := by decide +kernel
theorem dX4_joined_166 : decode cX4_joined 166 = .ok (.iload_n 2, 1) := by decide +kernel
theorem dX4_joined_167 : decode cX4_joined 167 = .ok (.idiv, 1) := by decide +kernel
theorem dX4_joined_168 : decode cX4_joined 168 = .ok (.ireturn, 1) := by decide +kernel
theorem dX4_joined_169 : decode cX4_joined 169 = .ok (.iload_n 2, 1) := by decide +kernel
theorem dX4_joined_170 : decode cX4_joined 170 = .ok (.ifCond .ne 7, 3) := by decide +kernel
theorem dX4_joined_173 : decode cX4_joined 173 = .ok (.iconst 0, 1) := by decide +kernel
theorem dX4_joined_174 : decode cX4_joined 174 = .ok (.goto 6, 3) := by decide +kernel
theorem dX4_joined_177 : decode cX4_joined 177 = .ok (.iload_n 1, 1) := by decide +kernel
theorem dX4_joined_178 : decode cX4_joined 178 = .ok (.iload_n 2, 1) := by decide +kernel
theorem dX4_joined_179 : decode cX4_joined 179 = .ok (.irem, 1) := by decide +kernel
theorem dX4_joined_180 : decode cX4_joined 180 = .ok (.ireturn, 1) := by decide +kernel
theorem dX4_push_0 : decode cX4_push 0 = .ok (.aload_n 0, 1) := by decide +kernel
theorem dX4_push_1 : decode cX4_push 1 = .ok (.getfield 50, 3) := by decide +kernel
theorem dX4_push_4 : decode cX4_push 4 = .ok (.aload_n 0, 1) := by decide +kernel
theorem dX4_push_5 : decode cX4_push 5 = .ok (.getfield 15, 3) := by decide +kernel
theorem dX4_push_8 : decode cX4_push 8 = .ok (.arraylength, 1) := by decide +kernel
theorem dX4_push_9 : decode cX4_push 9 = .ok (.if_icmp .ge 23, 3) := by decide +kernel
theorem dX4_push_12 : decode cX4_push 12 = .ok (.aload_n 0, 1) := by decide +kernel
theorem dX4_push_13 : decode cX4_push 13 = .ok (.getfield 15, 3) := by decide +kernel
theorem dX4_push_16 : decode cX4_push 16 = .ok (.aload_n 0, 1) := by decide +kernel
theorem dX4_push_17 : decode cX4_push 17 = .ok (.getfield 50, 3) := by decide +kernel
theorem dX4_push_20 : decode cX4_push 20 = .ok (.iload_n 1, 1) := by decide +kernel
theorem dX4_push_21 : decode cX4_push 21 = .ok (.iastore, 1) := by decide +kernel
theorem dX4_push_22 : decode cX4_push 22 = .ok (.aload_n 0, 1) := by decide +kernel
theorem dX4_push_23 : decode cX4_push 23 = .ok (.dup, 1) := by decide +kernel
theorem dX4_push_24 : decode cX4_push 24 = .ok (.getfield 50, 3) := by decide +kernel
theorem dX4_push_27 : decode cX4_push 27 = .ok (.iconst 1, 1) := by decide +kernel
theorem dX4_push_28 : decode cX4_push 28 = .ok (.iadd, 1) := by decide +kernel
theorem dX4_push_29 : decode cX4_push 29 = .ok (.putfield 50, 3) := by decide +kernel
theorem dX4_push_32 : decode cX4_push 32 = .ok (.return_, 1) := by decide +kernel
theorem dX4_pop_0 : decode cX4_pop 0 = .ok (.aload_n 0, 1) := by decide +kernel
theorem dX4_pop_1 : decode cX4_pop 1 = .ok (.getfield 50, 3) := by decide +kernel
theorem dX4_pop_4 : decode cX4_pop 4 = .ok (.ifCond .gt 5, 3) := by decide +kernel
theorem dX4_pop_7 : decode cX4_pop 7 = .ok (.iconst 0, 1) := by decide +kernel
theorem dX4_pop_8 : decode cX4_pop 8 = .ok (.ireturn, 1) := by decide +kernel
theorem dX4_pop_9 : decode cX4_pop 9 = .ok (.aload_n 0, 1) := by decide +kernel
theorem dX4_pop_10 : decode cX4_pop 10 = .ok (.dup, 1) := by decide +kernel
theorem dX4_pop_11 : decode cX4_pop 11 = .ok (.getfield 50, 3) := by decide +kernel
theorem dX4_pop_14 : decode cX4_pop 14 = .ok (.iconst 1, 1) := by decide +kernel
theorem dX4_pop_15 : decode cX4_pop 15 = .ok (.isub, 1) := by decide +kernel
theorem dX4_pop_16 : decode cX4_pop 16 = .ok (.putfield 50, 3) := by decide +kernel
theorem dX4_pop_19 : decode cX4_pop 19 = .ok (.aload_n 0, 1) := by decide +kernel
theorem dX4_pop_20 : decode cX4_pop 20 = .ok (.getfield 15, 3) := by decide +kernel
theorem dX4_pop_23 : decode cX4_pop 23 = .ok (.aload_n 0, 1) := by decide +kernel
theorem dX4_pop_24 : decode cX4_pop 24 = .ok (.getfield 50, 3) := by decide +kernel
theorem dX4_pop_27 : decode cX4_pop 27 = .ok (.iaload, 1) := by decide +kernel
theorem dX4_pop_28 : decode cX4_pop 28 = .ok (.ireturn, 1) := by decide +kernel
theorem dX5_init_0 : decode cX5_init 0 = .ok (.aload_n 0, 1) := by decide +kernel
theorem dX5_init_1 : decode cX5_init 1 = .ok (.invokespecial 3, 3) := by decide +kernel
theorem dX5_init_4 : decode cX5_init 4 = .ok (.aload_n 0, 1) := by decide +kernel
theorem dX5_init_5 : decode cX5_init 5 = .ok (.bipush 9, 2) := by decide +kernel
theorem dX5_init_7 : decode cX5_init 7 = .ok (.bipush 8, 2) := by decide +kernel
theorem dX5_init_9 : decode cX5_init 9 = .ok (.multianewarray 11 2, 4) := by decide +kernel
theorem dX5_init_13 : decode cX5_init 13 = .ok (.putfield 13, 3) := by decide +kernel
theorem dX5_init_16 : decode cX5_init 16 = .ok (.aload_n 0, 1) := by decide +kernel
theorem dX5_init_17 : decode cX5_init 17 = .ok (.getfield 13, 3) := by decide +kernel
theorem dX5_init_20 : decode cX5_init 20 = .ok (.bipush 7, 2) := by decide +kernel
theorem dX5_init_22 : decode cX5_init 22 = .ok (.aaload, 1) := by decide +kernel
theorem dX5_init_23 : decode cX5_init 23 = .ok (.iconst 0, 1) := by decide +kernel
theorem dX5_init_24 : decode cX5_init 24 = .ok (.bipush 25, 2) := by decide +kernel
theorem dX5_init_26 : decode cX5_init 26 = .ok (.iastore, 1) := by decide +kernel
theorem dX5_init_27 : decode cX5_init 27 = .ok (.aload_n 0, 1) := by decide +kernel
theorem dX5_init_28 : decode cX5_init 28 = .ok (.getfield 13, 3) := by decide +kernel
theorem dX5_init_31 : decode cX5_init 31 = .ok (.bipush 8, 2) := by decide +kernel
theorem dX5_init_33 : decode cX5_init 33 = .ok (.aaload, 1) := by decide +kernel
theorem dX5_init_34 : decode cX5_init 34 = .ok (.iconst 0, 1) := by decide +kernel
theorem dX5_init_35 : decode cX5_init 35 = .ok (.iconst 1, 1) := by decide +kernel
theorem dX5_init_36 : decode cX5_init 36 = .ok (.iastore, 1) := by decide +kernel
theorem dX5_init_37 : decode cX5_init 37 = .ok (.return_, 1) := by decide +kernel
theorem dX5_allows_0 : decode cX5_allows 0 = .ok (.iload_n 0, 1) := by decide +kernel
theorem dX5_allows_1 : decode cX5_allows 1 = .ok (.ifCond .lt 31, 3) := by decide +kernel
theorem dX5_allows_4 : decode cX5_allows 4 = .ok (.iload_n 0, 1) := by decide +kernel
theorem dX5_allows_5 : decode cX5_allows 5 = .ok (.bipush 9, 2) := by decide +kernel
theorem dX5_allows_7 : decode cX5_allows 7 = .ok (.if_icmp .ge 25, 3) := by decide +kernel
theorem dX5_allows_10 : decode cX5_allows 10 = .ok (.iload_n 1, 1) := by decide +kernel
theorem dX5_allows_11 : decode cX5_allows 11 = .ok (.getstatic 16, 3) := by decide +kernel
theorem dX5_allows_14 : decode cX5_allows 14 = .ok (.iload_n 0, 1) := by decide +kernel
theorem dX5_allows_15 : decode cX5_allows 15 = .ok (.iaload, 1) := by decide +kernel
theorem dX5_allows_16 : decode cX5_allows 16 = .ok (.if_icmp .lt 16, 3) := by decide +kernel
theorem dX5_allows_19 : decode cX5_allows 19 = .ok (.iload_n 1, 1) := by decide +kernel
theorem dX5_allows_20 : decode cX5_allows 20 = .ok (.getstatic 20, 3) := by decide +kernel
theorem dX5_allows_23 : decode cX5_allows 23 = .ok (.iload_n 0, 1) := by decide +kernel
theorem dX5_allows_24 : decode cX5_allows 24 = .ok (.iaload, 1) := by decide +kernel
theorem dX5_allows_25 : decode cX5_allows 25 = .ok (.if_icmp .gt 7, 3) := by decide +kernel
theorem dX5_allows_28 : decode cX5_allows 28 = .ok (.iconst 1, 1) := by decide +kernel
theorem dX5_allows_29 : decode cX5_allows 29 = .ok (.goto 4, 3) := by decide +kernel
theorem dX5_allows_32 : decode cX5_allows 32 = .ok (.iconst 0, 1) := by decide +kernel
theorem dX5_allows_33 : decode cX5_allows 33 = .ok (.ireturn, 1) := by decide +kernel
theorem dX5_isSwimmer_0 : decode cX5_isSwimmer 0 = .ok (.iconst 0, 1) := by decide +kernel
theorem dX5_isSwimmer_1 : decode cX5_isSwimmer 1 = .ok (.iload_n 0, 1) := by decide +kernel
theorem dX5_isSwimmer_2 : decode cX5_isSwimmer 2 = .ok (.invokestatic 23, 3) := by decide +kernel
theorem dX5_isSwimmer_5 : decode cX5_isSwimmer 5 = .ok (.ifCond .eq 31, 3) := by decide +kernel
theorem dX5_isSwimmer_8 : decode cX5_isSwimmer 8 = .ok (.iconst 1, 1) := by decide +kernel
theorem dX5_isSwimmer_9 : decode cX5_isSwimmer 9 = .ok (.iload_n 1, 1) := by decide +kernel
theorem dX5_isSwimmer_10 : decode cX5_isSwimmer 10 = .ok (.invokestatic 23, 3) := by decide +kernel
theorem dX5_isSwimmer_13 : decode cX5_isSwimmer 13 = .ok (.ifCond .eq 23, 3) := by decide +kernel
theorem dX5_isSwimmer_16 : decode cX5_isSwimmer 16 = .ok (.iconst 2, 1) := by decide +kernel
theorem dX5_isSwimmer_17 : decode cX5_isSwimmer 17 = .ok (.iload_n 2, 1) := by decide +kernel
theorem dX5_isSwimmer_18 : decode cX5_isSwimmer 18 = .ok (.invokestatic 23, 3) := by decide +kernel
theorem dX5_isSwimmer_21 : decode cX5_isSwimmer 21 = .ok (.ifCond .eq 15, 3) := by decide +kernel
theorem dX5_isSwimmer_24 : decode cX5_isSwimmer 24 = .ok (.iconst 4, 1) := by decide +kernel
theorem dX5_isSwimmer_25 : decode cX5_isSwimmer 25 = .ok (.iload_n 3, 1) := by decide +kernel
theorem dX5_isSwimmer_26 : decode cX5_isSwimmer 26 = .ok (.invokestatic 23, 3) := by decide +kernel
theorem dX5_isSwimmer_29 : decode cX5_isSwimmer 29 = .ok (.ifCond .eq 7, 3) := by decide +kernel
theorem dX5_isSwimmer_32 : decode cX5_isSwimmer 32 = .ok (.iconst 1, 1) := by decide +kernel
theorem dX5_isSwimmer_33 : decode cX5_isSwimmer 33 = .ok (.goto 4, 3) := by decide +kernel
theorem dX5_isSwimmer_36 : decode cX5_isSwimmer 36 = .ok (.iconst 0, 1) := by decide +kernel
theorem dX5_isSwimmer_37 : decode cX5_isSwimmer 37 = .ok (.ireturn, 1) := by decide +kernel
theorem dX5_many_0 : decode cX5_many 0 = .ok (.aload_n 0, 1) := by decide +kernel
theorem dX5_many_1 : decode cX5_many 1 = .ok (.getfield 27, 3) := by decide +kernel
theorem dX5_many_4 : decode cX5_many 4 = .ok (.ireturn, 1) := by decide +kernel
theorem dX5_isFull_0 : decode cX5_isFull 0 = .ok (.aload_n 0, 1) := by decide +kernel
theorem dX5_isFull_1 : decode cX5_isFull 1 = .ok (.getfield 27, 3) := by decide +kernel
theorem dX5_isFull_4 : decode cX5_isFull 4 = .ok (.bipush 8, 2) := by decide +kernel
theorem dX5_isFull_6 : decode cX5_isFull 6 = .ok (.if_icmp .lt 7, 3) := by decide +kernel
theorem dX5_isFull_9 : decode cX5_isFull 9 = .ok (.iconst 1, 1) := by decide +kernel
theorem dX5_isFull_10 : decode cX5_isFull 10 = .ok (.goto 4, 3) := by decide +kernel
theorem dX5_isFull_13 : decode cX5_isFull 13 = .ok (.iconst 0, 1) := by decide +kernel
theorem dX5_isFull_14 : decode cX5_isFull 14 = .ok (.ireturn, 1) := by decide +kernel
theorem dX5_has_0 : decode cX5_has 0 = .ok (.iload_n 1, 1) := by decide +kernel
theorem dX5_has_1 : decode cX5_has 1 = .ok (.ifCond .lt 15, 3) := by decide +kernel
theorem dX5_has_4 : decode cX5_has 4 = .ok (.iload_n 1, 1) := by decide +kernel
theorem dX5_has_5 : decode cX5_has 5 = .ok (.aload_n 0, 1) := by decide +kernel
theorem dX5_has_6 : decode cX5_has 6 = .ok (.getfield 27, 3) := by decide +kernel
theorem dX5_has_9 : decode cX5_has 9 = .ok (.if_icmp .ge 7, 3) := by decide +kernel
theorem dX5_has_12 : decode cX5_has 12 = .ok (.iconst 1, 1) := by decide +kernel
theorem dX5_has_13 : decode cX5_has 13 = .ok (.goto 4, 3) := by decide +kernel
theorem dX5_has_16 : decode cX5_has 16 = .ok (.iconst 0, 1) := by decide +kernel
theorem dX5_has_17 : decode cX5_has 17 = .ok (.ireturn, 1) := by decide +kernel
theorem dX5_keeps_0 : decode cX5_keeps 0 = .ok (.iload_n 2, 1) := by decide +kernel
theorem dX5_keeps_1 : decode cX5_keeps 1 = .ok (.ifCond .lt 9, 3) := by decide +kernel
theorem dX5_keeps_4 : decode cX5_keeps 4 = .ok (.iload_n 2, 1) := by decide +kernel
theorem dX5_keeps_5 : decode cX5_keeps 5 = .ok (.bipush 9, 2) := by decide +kernel
theorem dX5_keeps_7 : decode cX5_keeps 7 = .ok (.if_icmp .lt 5, 3) := by decide +kernel
theorem dX5_keeps_10 : decode cX5_keeps 10 = .ok (.iconst 0, 1) := by decide +kernel
theorem dX5_keeps_11 : decode cX5_keeps 11 = .ok (.ireturn, 1) := by decide +kernel
theorem dX5_keeps_12 : decode cX5_keeps 12 = .ok (.iload_n 1, 1) := by decide +kernel
theorem dX5_keeps_13 : decode cX5_keeps 13 = .ok (.ifCond .lt 25, 3) := by decide +kernel
theorem dX5_keeps_16 : decode cX5_keeps 16 = .ok (.iload_n 1, 1) := by decide +kernel
theorem dX5_keeps_17 : decode cX5_keeps 17 = .ok (.iload_n 2, 1) := by decide +kernel
theorem dX5_keeps_18 : decode cX5_keeps 18 = .ok (.bipush 6, 2) := by decide +kernel
theorem dX5_keeps_20 : decode cX5_keeps 20 = .ok (.if_icmp .lt 7, 3) := by decide +kernel
theorem dX5_keeps_23 : decode cX5_keeps 23 = .ok (.iconst 1, 1) := by decide +kernel
theorem dX5_keeps_24 : decode cX5_keeps 24 = .ok (.goto 7, 3) := by decide +kernel
theorem dX5_keeps_27 : decode cX5_keeps 27 = .ok (.aload_n 0, 1) := by decide +kernel
theorem dX5_keeps_28 : decode cX5_keeps 28 = .ok (.getfield 27, 3) := by decide +kernel
theorem dX5_keeps_31 : decode cX5_keeps 31 = .ok (.if_icmp .ge 7, 3) := by decide +kernel
theorem dX5_keeps_34 : decode cX5_keeps 34 = .ok (.iconst 1, 1) := by decide +kernel
theorem dX5_keeps_35 : decode cX5_keeps 35 = .ok (.goto 4, 3) := by decide +kernel
theorem dX5_keeps_38 : decode cX5_keeps 38 = .ok (.iconst 0, 1) := by decide +kernel
theorem dX5_keeps_39 : decode cX5_keeps 39 = .ok (.ireturn, 1) := by decide +kernel
theorem dX5_told_0 : decode cX5_told 0 = .ok (.aload_n 0, 1) := by decide +kernel
theorem dX5_told_1 : decode cX5_told 1 = .ok (.iload_n 1, 1) := by decide +kernel
theorem dX5_told_2 : decode cX5_told 2 = .ok (.iload_n 2, 1) := by decide +kernel
theorem dX5_told_3 : decode cX5_told 3 = .ok (.invokevirtual 31, 3) := by decide +kernel
theorem dX5_told_6 : decode cX5_told 6 = .ok (.ifCond .eq 14, 3) := by decide +kernel
theorem dX5_told_9 : decode cX5_told 9 = .ok (.aload_n 0, 1) := by decide +kernel
theorem dX5_told_10 : decode cX5_told 10 = .ok (.getfield 13, 3) := by decide +kernel
theorem dX5_told_13 : decode cX5_told 13 = .ok (.iload_n 2, 1) := by decide +kernel
theorem dX5_told_14 : decode cX5_told 14 = .ok (.aaload, 1) := by decide +kernel
theorem dX5_told_15 : decode cX5_told 15 = .ok (.iload_n 1, 1) := by decide +kernel
theorem dX5_told_16 : decode cX5_told 16 = .ok (.iaload, 1) := by decide +kernel
theorem dX5_told_17 : decode cX5_told 17 = .ok (.goto 4, 3) := by decide +kernel
theorem dX5_told_20 : decode cX5_told 20 = .ok (.iconst 0, 1) := by decide +kernel
theorem dX5_told_21 : decode cX5_told 21 = .ok (.ireturn, 1) := by decide +kernel
theorem dX5_tell_0 : decode cX5_tell 0 = .ok (.aload_n 0, 1) := by decide +kernel
theorem dX5_tell_1 : decode cX5_tell 1 = .ok (.iload_n 1, 1) := by decide +kernel
theorem dX5_tell_2 : decode cX5_tell 2 = .ok (.iload_n 2, 1) := by decide +kernel
theorem dX5_tell_3 : decode cX5_tell 3 = .ok (.invokevirtual 31, 3) := by decide +kernel
theorem dX5_tell_6 : decode cX5_tell 6 = .ok (.ifCond .eq 12, 3) := by decide +kernel
theorem dX5_tell_9 : decode cX5_tell 9 = .ok (.aload_n 0, 1) := by decide +kernel
theorem dX5_tell_10 : decode cX5_tell 10 = .ok (.getfield 13, 3) := by decide +kernel
theorem dX5_tell_13 : decode cX5_tell 13 = .ok (.iload_n 2, 1) := by decide +kernel
theorem dX5_tell_14 : decode cX5_tell 14 = .ok (.aaload, 1) := by decide +kernel
theorem dX5_tell_15 : decode cX5_tell 15 = .ok (.iload_n 1, 1) := by decide +kernel
theorem dX5_tell_16 : decode cX5_tell 16 = .ok (.iload_n 3, 1) := by decide +kernel
theorem dX5_tell_17 : decode cX5_tell 17 = .ok (.iastore, 1) := by decide +kernel
theorem dX5_tell_18 : decode cX5_tell 18 = .ok (.return_, 1) := by decide +kernel
theorem dX5_join_0 : decode cX5_join 0 = .ok (.aload_n 0, 1) := by decide +kernel
theorem dX5_join_1 : decode cX5_join 1 = .ok (.invokevirtual 34, 3) := by decide +kernel
theorem dX5_join_4 : decode cX5_join 4 = .ok (.ifCond .eq 6, 3) := by decide +kernel
theorem dX5_join_7 : decode cX5_join 7 = .ok (.bipush (-3), 2) := by decide +kernel
theorem dX5_join_9 : decode cX5_join 9 = .ok (.ireturn, 1) := by decide +kernel
theorem dX5_join_10 : decode cX5_join 10 = .ok (.aload_n 0, 1) := by decide +kernel
theorem dX5_join_11 : decode cX5_join 11 = .ok (.getfield 27, 3) := by decide +kernel
theorem dX5_join_14 : decode cX5_join 14 = .ok (.istore 5, 2) := by decide +kernel
theorem dX5_join_16 : decode cX5_join 16 = .ok (.aload_n 0, 1) := by decide +kernel
theorem dX5_join_17 : decode cX5_join 17 = .ok (.dup, 1) := by decide +kernel
theorem dX5_join_18 : decode cX5_join 18 = .ok (.getfield 27, 3) := by decide +kernel
theorem dX5_join_21 : decode cX5_join 21 = .ok (.iconst 1, 1) := by decide +kernel
theorem dX5_join_22 : decode cX5_join 22 = .ok (.iadd, 1) := by decide +kernel
theorem dX5_join_23 : decode cX5_join 23 = .ok (.putfield 27, 3) := by decide +kernel
theorem dX5_join_26 : decode cX5_join 26 = .ok (.aload_n 0, 1) := by decide +kernel
theorem dX5_join_27 : decode cX5_join 27 = .ok (.iload 5, 2) := by decide +kernel
theorem dX5_join_29 : decode cX5_join 29 = .ok (.iconst 0, 1) := by decide +kernel
theorem dX5_join_30 : decode cX5_join 30 = .ok (.iload_n 1, 1) := by decide +kernel
theorem dX5_join_31 : decode cX5_join 31 = .ok (.invokevirtual 38, 3) := by decide +kernel
theorem dX5_join_34 : decode cX5_join 34 = .ok (.aload_n 0, 1) := by decide +kernel
theorem dX5_join_35 : decode cX5_join 35 = .ok (.iload 5, 2) := by decide +kernel
theorem dX5_join_37 : decode cX5_join 37 = .ok (.iconst 1, 1) := by decide +kernel
theorem dX5_join_38 : decode cX5_join 38 = .ok (.iload_n 2, 1) := by decide +kernel
theorem dX5_join_39 : decode cX5_join 39 = .ok (.invokevirtual 38, 3) := by decide +kernel
theorem dX5_join_42 : decode cX5_join 42 = .ok (.aload_n 0, 1) := by decide +kernel
theorem dX5_join_43 : decode cX5_join 43 = .ok (.iload 5, 2) := by decide +kernel
theorem dX5_join_45 : decode cX5_join 45 = .ok (.iconst 2, 1) := by decide +kernel
theorem dX5_join_46 : decode cX5_join 46 = .ok (.iload_n 3, 1) := by decide +kernel
theorem dX5_join_47 : decode cX5_join 47 = .ok (.invokevirtual 38, 3) := by decide +kernel
theorem dX5_join_50 : decode cX5_join 50 = .ok (.aload_n 0, 1) := by decide +kernel
theorem dX5_join_51 : decode cX5_join 51 = .ok (.iload 5, 2) := by decide +kernel
theorem dX5_join_53 : decode cX5_join 53 = .ok (.iconst 3, 1) := by decide +kernel
theorem dX5_join_54 : decode cX5_join 54 = .ok (.bipush 12, 2) := by decide +kernel
theorem dX5_join_56 : decode cX5_join 56 = .ok (.invokevirtual 38, 3) := by decide +kernel
theorem dX5_join_59 : decode cX5_join 59 = .ok (.aload_n 0, 1) := by decide +kernel
theorem dX5_join_60 : decode cX5_join 60 = .ok (.iload 5, 2) := by decide +kernel
theorem dX5_join_62 : decode cX5_join 62 = .ok (.iconst 4, 1) := by decide +kernel
theorem dX5_join_63 : decode cX5_join 63 = .ok (.iload 4, 2) := by decide +kernel
theorem dX5_join_65 : decode cX5_join 65 = .ok (.invokevirtual 38, 3) := by decide +kernel
theorem dX5_join_68 : decode cX5_join 68 = .ok (.iload 5, 2) := by decide +kernel
theorem dX5_join_70 : decode cX5_join 70 = .ok (.ireturn, 1) := by decide +kernel
theorem dX5_joinFrom_0 : decode cX5_joinFrom 0 = .ok (.iconst 0, 1) := by decide +kernel
theorem dX5_joinFrom_1 : decode cX5_joinFrom 1 = .ok (.istore 5, 2) := by decide +kernel
theorem dX5_joinFrom_3 : decode cX5_joinFrom 3 = .ok (.iload_n 3, 1) := by decide +kernel
theorem dX5_joinFrom_4 : decode cX5_joinFrom 4 = .ok (.istore 6, 2) := by decide +kernel
theorem dX5_joinFrom_6 : decode cX5_joinFrom 6 = .ok (.iconst 0, 1) := by decide +kernel
theorem dX5_joinFrom_7 : decode cX5_joinFrom 7 = .ok (.istore 7, 2) := by decide +kernel
theorem dX5_joinFrom_9 : decode cX5_joinFrom 9 = .ok (.iload 7, 2) := by decide +kernel
theorem dX5_joinFrom_11 : decode cX5_joinFrom 11 = .ok (.iload 4, 2) := by decide +kernel
theorem dX5_joinFrom_13 : decode cX5_joinFrom 13 = .ok (.if_icmp .ge 43, 3) := by decide +kernel
theorem dX5_joinFrom_16 : decode cX5_joinFrom 16 = .ok (.aload_n 0, 1) := by decide +kernel
theorem dX5_joinFrom_17 : decode cX5_joinFrom 17 = .ok (.invokevirtual 34, 3) := by decide +kernel
theorem dX5_joinFrom_20 : decode cX5_joinFrom 20 = .ok (.ifCond .ne 36, 3) := by decide +kernel
theorem dX5_joinFrom_23 : decode cX5_joinFrom 23 = .ok (.iload 6, 2) := by decide +kernel
theorem dX5_joinFrom_25 : decode cX5_joinFrom 25 = .ok (.iload_n 2, 1) := by decide +kernel
theorem dX5_joinFrom_26 : decode cX5_joinFrom 26 = .ok (.iconst 4, 1) := by decide +kernel
theorem dX5_joinFrom_27 : decode cX5_joinFrom 27 = .ok (.isub, 1) := by decide +kernel
theorem dX5_joinFrom_28 : decode cX5_joinFrom 28 = .ok (.if_icmp .gt 13, 3) := by decide +kernel
theorem dX5_joinFrom_31 : decode cX5_joinFrom 31 = .ok (.aload_n 0, 1) := by decide +kernel
theorem dX5_joinFrom_32 : decode cX5_joinFrom 32 = .ok (.aload_n 1, 1) := by decide +kernel
theorem dX5_joinFrom_33 : decode cX5_joinFrom 33 = .ok (.iload 6, 2) := by decide +kernel
theorem dX5_joinFrom_35 : decode cX5_joinFrom 35 = .ok (.invokevirtual 42, 3) := by decide +kernel
theorem dX5_joinFrom_38 : decode cX5_joinFrom 38 = .ok (.ifCond .ne 6, 3) := by decide +kernel
theorem dX5_joinFrom_41 : decode cX5_joinFrom 41 = .ok (.iload 5, 2) := by decide +kernel
theorem dX5_joinFrom_43 : decode cX5_joinFrom 43 = .ok (.ireturn, 1) := by decide +kernel
theorem dX5_joinFrom_44 : decode cX5_joinFrom 44 = .ok (.iinc 5 1, 3) := by decide +kernel
theorem dX5_joinFrom_47 : decode cX5_joinFrom 47 = .ok (.iinc 6 4, 3) := by decide +kernel
theorem dX5_joinFrom_50 : decode cX5_joinFrom 50 = .ok (.iinc 7 1, 3) := by decide +kernel
theorem dX5_joinFrom_53 : decode cX5_joinFrom 53 = .ok (.goto (-44), 3) := by decide +kernel
theorem dX5_joinFrom_56 : decode cX5_joinFrom 56 = .ok (.iload 5, 2) := by decide +kernel
theorem dX5_joinFrom_58 : decode cX5_joinFrom 58 = .ok (.ireturn, 1) := by decide +kernel
theorem dX5_joinFour_0 : decode cX5_joinFour 0 = .ok (.iload_n 2, 1) := by decide +kernel
theorem dX5_joinFour_1 : decode cX5_joinFour 1 = .ok (.ifCond .lt 11, 3) := by decide +kernel
theorem dX5_joinFour_4 : decode cX5_joinFour 4 = .ok (.iload_n 2, 1) := by decide +kernel
theorem dX5_joinFour_5 : decode cX5_joinFour 5 = .ok (.iconst 3, 1) := by decide +kernel
theorem dX5_joinFour_6 : decode cX5_joinFour 6 = .ok (.iadd, 1) := by decide +kernel
theorem dX5_joinFour_7 : decode cX5_joinFour 7 = .ok (.aload_n 1, 1) := by decide +kernel
theorem dX5_joinFour_8 : decode cX5_joinFour 8 = .ok (.arraylength, 1) := by decide +kernel
theorem dX5_joinFour_9 : decode cX5_joinFour 9 = .ok (.if_icmp .lt 5, 3) := by decide +kernel
theorem dX5_joinFour_12 : decode cX5_joinFour 12 = .ok (.iconst 0, 1) := by decide +kernel
theorem dX5_joinFour_13 : decode cX5_joinFour 13 = .ok (.ireturn, 1) := by decide +kernel
theorem dX5_joinFour_14 : decode cX5_joinFour 14 = .ok (.aload_n 1, 1) := by decide +kernel
theorem dX5_joinFour_15 : decode cX5_joinFour 15 = .ok (.iload_n 2, 1) := by decide +kernel
theorem dX5_joinFour_16 : decode cX5_joinFour 16 = .ok (.laload, 1) := by decide +kernel
theorem dX5_joinFour_17 : decode cX5_joinFour 17 = .ok (.l2i, 1) := by decide +kernel
theorem dX5_joinFour_18 : decode cX5_joinFour 18 = .ok (.istore_n 3, 1) := by decide +kernel
theorem dX5_joinFour_19 : decode cX5_joinFour 19 = .ok (.aload_n 1, 1) := by decide +kernel
theorem dX5_joinFour_20 : decode cX5_joinFour 20 = .ok (.iload_n 2, 1) := by decide +kernel
theorem dX5_joinFour_21 : decode cX5_joinFour 21 = .ok (.iconst 1, 1) := by decide +kernel
theorem dX5_joinFour_22 : decode cX5_joinFour 22 = .ok (.iadd, 1) := by decide +kernel
theorem dX5_joinFour_23 : decode cX5_joinFour 23 = .ok (.laload, 1) := by decide +kernel
theorem dX5_joinFour_24 : decode cX5_joinFour 24 = .ok (.l2i, 1) := by decide +kernel
theorem dX5_joinFour_25 : decode cX5_joinFour 25 = .ok (.istore 4, 2) := by decide +kernel
theorem dX5_joinFour_27 : decode cX5_joinFour 27 = .ok (.aload_n 1, 1) := by decide +kernel
theorem dX5_joinFour_28 : decode cX5_joinFour 28 = .ok (.iload_n 2, 1) := by decide +kernel
theorem dX5_joinFour_29 : decode cX5_joinFour 29 = .ok (.iconst 2, 1) := by decide +kernel
theorem dX5_joinFour_30 : decode cX5_joinFour 30 = .ok (.iadd, 1) := by decide +kernel
theorem dX5_joinFour_31 : decode cX5_joinFour 31 = .ok (.laload, 1) := by decide +kernel
theorem dX5_joinFour_32 : decode cX5_joinFour 32 = .ok (.l2i, 1) := by decide +kernel
theorem dX5_joinFour_33 : decode cX5_joinFour 33 = .ok (.istore 5, 2) := by decide +kernel
theorem dX5_joinFour_35 : decode cX5_joinFour 35 = .ok (.aload_n 1, 1) := by decide +kernel
theorem dX5_joinFour_36 : decode cX5_joinFour 36 = .ok (.iload_n 2, 1) := by decide +kernel
theorem dX5_joinFour_37 : decode cX5_joinFour 37 = .ok (.iconst 3, 1) := by decide +kernel
theorem dX5_joinFour_38 : decode cX5_joinFour 38 = .ok (.iadd, 1) := by decide +kernel
theorem dX5_joinFour_39 : decode cX5_joinFour 39 = .ok (.laload, 1) := by decide +kernel
theorem dX5_joinFour_40 : decode cX5_joinFour 40 = .ok (.l2i, 1) := by decide +kernel
theorem dX5_joinFour_41 : decode cX5_joinFour 41 = .ok (.istore 6, 2) := by decide +kernel
theorem dX5_joinFour_43 : decode cX5_joinFour 43 = .ok (.iload_n 3, 1) := by decide +kernel
theorem dX5_joinFour_44 : decode cX5_joinFour 44 = .ok (.iload 4, 2) := by decide +kernel
theorem dX5_joinFour_46 : decode cX5_joinFour 46 = .ok (.iload 5, 2) := by decide +kernel
theorem dX5_joinFour_48 : decode cX5_joinFour 48 = .ok (.iload 6, 2) := by decide +kernel
theorem dX5_joinFour_50 : decode cX5_joinFour 50 = .ok (.invokestatic 46, 3) := by decide +kernel
theorem dX5_joinFour_53 : decode cX5_joinFour 53 = .ok (.ifCond .eq 21, 3) := by decide +kernel
theorem dX5_joinFour_56 : decode cX5_joinFour 56 = .ok (.aload_n 0, 1) := by decide +kernel
theorem dX5_joinFour_57 : decode cX5_joinFour 57 = .ok (.iload_n 3, 1) := by decide +kernel
theorem dX5_joinFour_58 : decode cX5_joinFour 58 = .ok (.iload 4, 2) := by decide +kernel
theorem dX5_joinFour_60 : decode cX5_joinFour 60 = .ok (.iload 5, 2) := by decide +kernel
theorem dX5_joinFour_62 : decode cX5_joinFour 62 = .ok (.iload 6, 2) := by decide +kernel
theorem dX5_joinFour_64 : decode cX5_joinFour 64 = .ok (.invokevirtual 50, 3) := by decide +kernel
theorem dX5_joinFour_67 : decode cX5_joinFour 67 = .ok (.ifCond .lt 7, 3) := by decide +kernel
theorem dX5_joinFour_70 : decode cX5_joinFour 70 = .ok (.iconst 1, 1) := by decide +kernel
theorem dX5_joinFour_71 : decode cX5_joinFour 71 = .ok (.goto 4, 3) := by decide +kernel
theorem dX5_joinFour_74 : decode cX5_joinFour 74 = .ok (.iconst 0, 1) := by decide +kernel
theorem dX5_joinFour_75 : decode cX5_joinFour 75 = .ok (.ireturn, 1) := by decide +kernel
theorem dX5_leastBreath_0 : decode cX5_leastBreath 0 = .ok (.bipush 60, 2) := by decide +kernel
theorem dX5_leastBreath_2 : decode cX5_leastBreath 2 = .ok (.istore_n 1, 1) := by decide +kernel
theorem dX5_leastBreath_3 : decode cX5_leastBreath 3 = .ok (.iconst 0, 1) := by decide +kernel
theorem dX5_leastBreath_4 : decode cX5_leastBreath 4 = .ok (.istore_n 2, 1) := by decide +kernel
theorem dX5_leastBreath_5 : decode cX5_leastBreath 5 = .ok (.iload_n 2, 1) := by decide +kernel
theorem dX5_leastBreath_6 : decode cX5_leastBreath 6 = .ok (.aload_n 0, 1) := by decide +kernel
theorem dX5_leastBreath_7 : decode cX5_leastBreath 7 = .ok (.getfield 27, 3) := by decide +kernel
theorem dX5_leastBreath_10 : decode cX5_leastBreath 10 = .ok (.if_icmp .ge 22, 3) := by decide +kernel
theorem dX5_leastBreath_13 : decode cX5_leastBreath 13 = .ok (.iload_n 1, 1) := by decide +kernel
theorem dX5_leastBreath_14 : decode cX5_leastBreath 14 = .ok (.aload_n 0, 1) := by decide +kernel
theorem dX5_leastBreath_15 : decode cX5_leastBreath 15 = .ok (.getfield 13, 3) := by decide +kernel
theorem dX5_leastBreath_18 : decode cX5_leastBreath 18 = .ok (.iconst 3, 1) := by decide +kernel
theorem dX5_leastBreath_19 : decode cX5_leastBreath 19 = .ok (.aaload, 1) := by decide +kernel
theorem dX5_leastBreath_20 : decode cX5_leastBreath 20 = .ok (.iload_n 2, 1) := by decide +kernel
theorem dX5_leastBreath_21 : decode cX5_leastBreath 21 = .ok (.iaload, 1) := by decide +kernel
theorem dX5_leastBreath_22 : decode cX5_leastBreath 22 = .ok (.invokestatic 54, 3) := by decide +kernel
theorem dX5_leastBreath_25 : decode cX5_leastBreath 25 = .ok (.istore_n 1, 1) := by decide +kernel
theorem dX5_leastBreath_26 : decode cX5_leastBreath 26 = .ok (.iinc 2 1, 3) := by decide +kernel
theorem dX5_leastBreath_29 : decode cX5_leastBreath 29 = .ok (.goto (-24), 3) := by decide +kernel
theorem dX5_leastBreath_32 : decode cX5_leastBreath 32 = .ok (.iload_n 1, 1) := by decide +kernel
theorem dX5_leastBreath_33 : decode cX5_leastBreath 33 = .ok (.ireturn, 1) := by decide +kernel
theorem dX6_init_0 : decode cX6_init 0 = .ok (.aload_n 0, 1) := by decide +kernel
theorem dX6_init_1 : decode cX6_init 1 = .ok (.invokespecial 3, 3) := by decide +kernel
theorem dX6_init_4 : decode cX6_init 4 = .ok (.aload_n 0, 1) := by decide +kernel
theorem dX6_init_5 : decode cX6_init 5 = .ok (.bipush 60, 2) := by decide +kernel
theorem dX6_init_7 : decode cX6_init 7 = .ok (.newarray .int, 2) := by decide +kernel
theorem dX6_init_9 : decode cX6_init 9 = .ok (.putfield 9, 3) := by decide +kernel
theorem dX6_init_12 : decode cX6_init 12 = .ok (.return_, 1) := by decide +kernel
theorem dX6_isAct_0 : decode cX6_isAct 0 = .ok (.lload_n 0, 1) := by decide +kernel
theorem dX6_isAct_1 : decode cX6_isAct 1 = .ok (.lconst 0, 1) := by decide +kernel
theorem dX6_isAct_2 : decode cX6_isAct 2 = .ok (.lcmp, 1) := by decide +kernel
theorem dX6_isAct_3 : decode cX6_isAct 3 = .ok (.ifCond .lt 15, 3) := by decide +kernel
theorem dX6_isAct_6 : decode cX6_isAct 6 = .ok (.lload_n 0, 1) := by decide +kernel
theorem dX6_isAct_7 : decode cX6_isAct 7 = .ok (.ldc2_w 15, 3) := by decide +kernel
theorem dX6_isAct_10 : decode cX6_isAct 10 = .ok (.lcmp, 1) := by decide +kernel
theorem dX6_isAct_11 : decode cX6_isAct 11 = .ok (.ifCond .gt 7, 3) := by decide +kernel
theorem dX6_isAct_14 : decode cX6_isAct 14 = .ok (.iconst 1, 1) := by decide +kernel
theorem dX6_isAct_15 : decode cX6_isAct 15 = .ok (.goto 4, 3) := by decide +kernel
theorem dX6_isAct_18 : decode cX6_isAct 18 = .ok (.iconst 0, 1) := by decide +kernel
theorem dX6_isAct_19 : decode cX6_isAct 19 = .ok (.ireturn, 1) := by decide +kernel
theorem dX6_isUnder_0 : decode cX6_isUnder 0 = .ok (.iload_n 0, 1) := by decide +kernel
theorem dX6_isUnder_1 : decode cX6_isUnder 1 = .ok (.iconst 1, 1) := by decide +kernel
theorem dX6_isUnder_2 : decode cX6_isUnder 2 = .ok (.if_icmp .eq 8, 3) := by decide +kernel
theorem dX6_isUnder_5 : decode cX6_isUnder 5 = .ok (.iload_n 0, 1) := by decide +kernel
theorem dX6_isUnder_6 : decode cX6_isUnder 6 = .ok (.iconst 2, 1) := by decide +kernel
theorem dX6_isUnder_7 : decode cX6_isUnder 7 = .ok (.if_icmp .ne 7, 3) := by decide +kernel
theorem dX6_isUnder_10 : decode cX6_isUnder 10 = .ok (.iconst 1, 1) := by decide +kernel
theorem dX6_isUnder_11 : decode cX6_isUnder 11 = .ok (.goto 4, 3) := by decide +kernel
theorem dX6_isUnder_14 : decode cX6_isUnder 14 = .ok (.iconst 0, 1) := by decide +kernel
theorem dX6_isUnder_15 : decode cX6_isUnder 15 = .ok (.ireturn, 1) := by decide +kernel
theorem dX6_take_0 : decode cX6_take 0 = .ok (.aload_n 0, 1) := by decide +kernel
theorem dX6_take_1 : decode cX6_take 1 = .ok (.iconst 0, 1) := by decide +kernel
theorem dX6_take_2 : decode cX6_take 2 = .ok (.putfield 17, 3) := by decide +kernel
theorem dX6_take_5 : decode cX6_take 5 = .ok (.iload_n 2, 1) := by decide +kernel
theorem dX6_take_6 : decode cX6_take 6 = .ok (.aload_n 1, 1) := by decide +kernel
theorem dX6_take_7 : decode cX6_take 7 = .ok (.arraylength, 1) := by decide +kernel
theorem dX6_take_8 : decode cX6_take 8 = .ok (.invokestatic 21, 3) := by decide +kernel
theorem dX6_take_11 : decode cX6_take 11 = .ok (.bipush 60, 2) := by decide +kernel
theorem dX6_take_13 : decode cX6_take 13 = .ok (.invokestatic 21, 3) := by decide +kernel
theorem dX6_take_16 : decode cX6_take 16 = .ok (.istore_n 3, 1) := by decide +kernel
theorem dX6_take_17 : decode cX6_take 17 = .ok (.iconst 0, 1) := by decide +kernel
theorem dX6_take_18 : decode cX6_take 18 = .ok (.istore 4, 2) := by decide +kernel
theorem dX6_take_20 : decode cX6_take 20 = .ok (.iload 4, 2) := by decide +kernel
theorem dX6_take_22 : decode cX6_take 22 = .ok (.iload_n 3, 1) := by decide +kernel
theorem dX6_take_23 : decode cX6_take 23 = .ok (.if_icmp .ge 41, 3) := by decide +kernel
theorem dX6_take_26 : decode cX6_take 26 = .ok (.aload_n 1, 1) := by decide +kernel
theorem dX6_take_27 : decode cX6_take 27 = .ok (.iload 4, 2) := by decide +kernel
theorem dX6_take_29 : decode cX6_take 29 = .ok (.laload, 1) := by decide +kernel
theorem dX6_take_30 : decode cX6_take 30 = .ok (.invokestatic 27, 3) := by decide +kernel
theorem dX6_take_33 : decode cX6_take 33 = .ok (.ifCond .eq 31, 3) := by decide +kernel
theorem dX6_take_36 : decode cX6_take 36 = .ok (.aload_n 0, 1) := by decide +kernel
theorem dX6_take_37 : decode cX6_take 37 = .ok (.getfield 9, 3) := by decide +kernel
theorem dX6_take_40 : decode cX6_take 40 = .ok (.iload 4, 2) := by decide +kernel
theorem dX6_take_42 : decode cX6_take 42 = .ok (.aload_n 1, 1) := by decide +kernel
theorem dX6_take_43 : decode cX6_take 43 = .ok (.iload 4, 2) := by decide +kernel
theorem dX6_take_45 : decode cX6_take 45 = .ok (.laload, 1) := by decide +kernel
theorem dX6_take_46 : decode cX6_take 46 = .ok (.l2i, 1) := by decide +kernel
theorem dX6_take_47 : decode cX6_take 47 = .ok (.iastore, 1) := by decide +kernel
theorem dX6_take_48 : decode cX6_take 48 = .ok (.aload_n 0, 1) := by decide +kernel
theorem dX6_take_49 : decode cX6_take 49 = .ok (.dup, 1) := by decide +kernel
theorem dX6_take_50 : decode cX6_take 50 = .ok (.getfield 17, 3) := by decide +kernel
theorem dX6_take_53 : decode cX6_take 53 = .ok (.iconst 1, 1) := by decide +kernel
theorem dX6_take_54 : decode cX6_take 54 = .ok (.iadd, 1) := by decide +kernel
theorem dX6_take_55 : decode cX6_take 55 = .ok (.putfield 17, 3) := by decide +kernel
theorem dX6_take_58 : decode cX6_take 58 = .ok (.iinc 4 1, 3) := by decide +kernel
theorem dX6_take_61 : decode cX6_take 61 = .ok (.goto (-41), 3) := by decide +kernel
theorem dX6_take_64 : decode cX6_take 64 = .ok (.return_, 1) := by decide +kernel
theorem dX6_counts_0 : decode cX6_counts 0 = .ok (.aload_n 0, 1) := by decide +kernel
theorem dX6_counts_1 : decode cX6_counts 1 = .ok (.getfield 17, 3) := by decide +kernel
theorem dX6_counts_4 : decode cX6_counts 4 = .ok (.ireturn, 1) := by decide +kernel
theorem dX6_actAt_0 : decode cX6_actAt 0 = .ok (.iload_n 1, 1) := by decide +kernel
theorem dX6_actAt_1 : decode cX6_actAt 1 = .ok (.ifCond .lt 20, 3) := by decide +kernel
theorem dX6_actAt_4 : decode cX6_actAt 4 = .ok (.iload_n 1, 1) := by decide +kernel
theorem dX6_actAt_5 : decode cX6_actAt 5 = .ok (.aload_n 0, 1) := by decide +kernel
theorem dX6_actAt_6 : decode cX6_actAt 6 = .ok (.getfield 17, 3) := by decide +kernel
theorem dX6_actAt_9 : decode cX6_actAt 9 = .ok (.if_icmp .ge 12, 3) := by decide +kernel
theorem dX6_actAt_12 : decode cX6_actAt 12 = .ok (.aload_n 0, 1) := by decide +kernel
theorem dX6_actAt_13 : decode cX6_actAt 13 = .ok (.getfield 9, 3) := by decide +kernel
theorem dX6_actAt_16 : decode cX6_actAt 16 = .ok (.iload_n 1, 1) := by decide +kernel
theorem dX6_actAt_17 : decode cX6_actAt 17 = .ok (.iaload, 1) := by decide +kernel
theorem dX6_actAt_18 : decode cX6_actAt 18 = .ok (.goto 4, 3) := by decide +kernel
theorem dX6_actAt_21 : decode cX6_actAt 21 = .ok (.iconst 0, 1) := by decide +kernel
theorem dX6_actAt_22 : decode cX6_actAt 22 = .ok (.ireturn, 1) := by decide +kernel
theorem dX6_countsUnder_0 : decode cX6_countsUnder 0 = .ok (.iconst 0, 1) := by decide +kernel
theorem dX6_countsUnder_1 : decode cX6_countsUnder 1 = .ok (.istore_n 1, 1) := by decide +kernel
theorem dX6_countsUnder_2 : decode cX6_countsUnder 2 = .ok (.iconst 0, 1) := by decide +kernel
theorem dX6_countsUnder_3 : decode cX6_countsUnder 3 = .ok (.istore_n 2, 1) := by decide +kernel
theorem dX6_countsUnder_4 : decode cX6_countsUnder 4 = .ok (.iload_n 2, 1) := by decide +kernel
theorem dX6_countsUnder_5 : decode cX6_countsUnder 5 = .ok (.aload_n 0, 1) := by decide +kernel
theorem dX6_countsUnder_6 : decode cX6_countsUnder 6 = .ok (.getfield 17, 3) := by decide +kernel
theorem dX6_countsUnder_9 : decode cX6_countsUnder 9 = .ok (.if_icmp .ge 24, 3) := by decide +kernel
theorem dX6_countsUnder_12 : decode cX6_countsUnder 12 = .ok (.aload_n 0, 1) := by decide +kernel
theorem dX6_countsUnder_13 : decode cX6_countsUnder 13 = .ok (.getfield 9, 3) := by decide +kernel
theorem dX6_countsUnder_16 : decode cX6_countsUnder 16 = .ok (.iload_n 2, 1) := by decide +kernel
theorem dX6_countsUnder_17 : decode cX6_countsUnder 17 = .ok (.iaload, 1) := by decide +kernel
theorem dX6_countsUnder_18 : decode cX6_countsUnder 18 = .ok (.invokestatic 31, 3) := by decide +kernel
theorem dX6_countsUnder_21 : decode cX6_countsUnder 21 = .ok (.ifCond .eq 6, 3) := by decide +kernel
theorem dX6_countsUnder_24 : decode cX6_countsUnder 24 = .ok (.iinc 1 1, 3) := by decide +kernel
theorem dX6_countsUnder_27 : decode cX6_countsUnder 27 = .ok (.iinc 2 1, 3) := by decide +kernel
theorem dX6_countsUnder_30 : decode cX6_countsUnder 30 = .ok (.goto (-26), 3) := by decide +kernel
theorem dX6_countsUnder_33 : decode cX6_countsUnder 33 = .ok (.iload_n 1, 1) := by decide +kernel
theorem dX6_countsUnder_34 : decode cX6_countsUnder 34 = .ok (.ireturn, 1) := by decide +kernel
theorem dX6_firstGone_0 : decode cX6_firstGone 0 = .ok (.iconst 0, 1) := by decide +kernel
theorem dX6_firstGone_1 : decode cX6_firstGone 1 = .ok (.istore_n 3, 1) := by decide +kernel
theorem dX6_firstGone_2 : decode cX6_firstGone 2 = .ok (.iconst 0, 1) := by decide +kernel
theorem dX6_firstGone_3 : decode cX6_firstGone 3 = .ok (.istore 4, 2) := by decide +kernel
theorem dX6_firstGone_5 : decode cX6_firstGone 5 = .ok (.iconst 0, 1) := by decide +kernel
theorem dX6_firstGone_6 : decode cX6_firstGone 6 = .ok (.istore 5, 2) := by decide +kernel
theorem dX6_firstGone_8 : decode cX6_firstGone 8 = .ok (.iload 5, 2) := by decide +kernel
theorem dX6_firstGone_10 : decode cX6_firstGone 10 = .ok (.aload_n 0, 1) := by decide +kernel
theorem dX6_firstGone_11 : decode cX6_firstGone 11 = .ok (.getfield 17, 3) := by decide +kernel
theorem dX6_firstGone_14 : decode cX6_firstGone 14 = .ok (.if_icmp .ge 47, 3) := by decide +kernel
theorem dX6_firstGone_17 : decode cX6_firstGone 17 = .ok (.iload 4, 2) := by decide +kernel
theorem dX6_firstGone_19 : decode cX6_firstGone 19 = .ok (.aload_n 0, 1) := by decide +kernel
theorem dX6_firstGone_20 : decode cX6_firstGone 20 = .ok (.getfield 9, 3) := by decide +kernel
theorem dX6_firstGone_23 : decode cX6_firstGone 23 = .ok (.iload 5, 2) := by decide +kernel
theorem dX6_firstGone_25 : decode cX6_firstGone 25 = .ok (.iaload, 1) := by decide +kernel
theorem dX6_firstGone_26 : decode cX6_firstGone 26 = .ok (.iload_n 2, 1) := by decide +kernel
theorem dX6_firstGone_27 : decode cX6_firstGone 27 = .ok (.invokestatic 35, 3) := by decide +kernel
theorem dX6_firstGone_30 : decode cX6_firstGone 30 = .ok (.istore 4, 2) := by decide +kernel
theorem dX6_firstGone_32 : decode cX6_firstGone 32 = .ok (.iload_n 3, 1) := by decide +kernel
theorem dX6_firstGone_33 : decode cX6_firstGone 33 = .ok (.iload 4, 2) := by decide +kernel
theorem dX6_firstGone_35 : decode cX6_firstGone 35 = .ok (.aload_n 0, 1) := by decide +kernel
theorem dX6_firstGone_36 : decode cX6_firstGone 36 = .ok (.getfield 9, 3) := by decide +kernel
theorem dX6_firstGone_39 : decode cX6_firstGone 39 = .ok (.iload 5, 2) := by decide +kernel
theorem dX6_firstGone_41 : decode cX6_firstGone 41 = .ok (.iaload, 1) := by decide +kernel
theorem dX6_firstGone_42 : decode cX6_firstGone 42 = .ok (.iload_n 2, 1) := by decide +kernel
theorem dX6_firstGone_43 : decode cX6_firstGone 43 = .ok (.invokestatic 39, 3) := by decide +kernel
theorem dX6_firstGone_46 : decode cX6_firstGone 46 = .ok (.istore_n 3, 1) := by decide +kernel
theorem dX6_firstGone_47 : decode cX6_firstGone 47 = .ok (.iload_n 3, 1) := by decide +kernel
theorem dX6_firstGone_48 : decode cX6_firstGone 48 = .ok (.iload_n 1, 1) := by decide +kernel
theorem dX6_firstGone_49 : decode cX6_firstGone 49 = .ok (.if_icmp .le 6, 3) := by decide +kernel
theorem dX6_firstGone_52 : decode cX6_firstGone 52 = .ok (.iload 5, 2) := by decide +kernel
theorem dX6_firstGone_54 : decode cX6_firstGone 54 = .ok (.ireturn, 1) := by decide +kernel
theorem dX6_firstGone_55 : decode cX6_firstGone 55 = .ok (.iinc 5 1, 3) := by decide +kernel
theorem dX6_firstGone_58 : decode cX6_firstGone 58 = .ok (.goto (-50), 3) := by decide +kernel
theorem dX6_firstGone_61 : decode cX6_firstGone 61 = .ok (.bipush (-2), 2) := by decide +kernel
theorem dX6_firstGone_63 : decode cX6_firstGone 63 = .ok (.ireturn, 1) := by decide +kernel
theorem dX6_longest_0 : decode cX6_longest 0 = .ok (.iconst 0, 1) := by decide +kernel
theorem dX6_longest_1 : decode cX6_longest 1 = .ok (.istore_n 2, 1) := by decide +kernel
theorem dX6_longest_2 : decode cX6_longest 2 = .ok (.iconst 0, 1) := by decide +kernel
theorem dX6_longest_3 : decode cX6_longest 3 = .ok (.istore_n 3, 1) := by decide +kernel
theorem dX6_longest_4 : decode cX6_longest 4 = .ok (.iconst 0, 1) := by decide +kernel
theorem dX6_longest_5 : decode cX6_longest 5 = .ok (.istore 4, 2) := by decide +kernel
theorem dX6_longest_7 : decode cX6_longest 7 = .ok (.iconst 0, 1) := by decide +kernel
theorem dX6_longest_8 : decode cX6_longest 8 = .ok (.istore 5, 2) := by decide +kernel
theorem dX6_longest_10 : decode cX6_longest 10 = .ok (.iload 5, 2) := by decide +kernel
theorem dX6_longest_12 : decode cX6_longest 12 = .ok (.aload_n 0, 1) := by decide +kernel
theorem dX6_longest_13 : decode cX6_longest 13 = .ok (.getfield 17, 3) := by decide +kernel
theorem dX6_longest_16 : decode cX6_longest 16 = .ok (.if_icmp .ge 45, 3) := by decide +kernel
theorem dX6_longest_19 : decode cX6_longest 19 = .ok (.iload 4, 2) := by decide +kernel
theorem dX6_longest_21 : decode cX6_longest 21 = .ok (.aload_n 0, 1) := by decide +kernel
theorem dX6_longest_22 : decode cX6_longest 22 = .ok (.getfield 9, 3) := by decide +kernel
theorem dX6_longest_25 : decode cX6_longest 25 = .ok (.iload 5, 2) := by decide +kernel
theorem dX6_longest_27 : decode cX6_longest 27 = .ok (.iaload, 1) := by decide +kernel
theorem dX6_longest_28 : decode cX6_longest 28 = .ok (.iload_n 1, 1) := by decide +kernel
theorem dX6_longest_29 : decode cX6_longest 29 = .ok (.invokestatic 35, 3) := by decide +kernel
theorem dX6_longest_32 : decode cX6_longest 32 = .ok (.istore 4, 2) := by decide +kernel
theorem dX6_longest_34 : decode cX6_longest 34 = .ok (.iload_n 3, 1) := by decide +kernel
theorem dX6_longest_35 : decode cX6_longest 35 = .ok (.iload 4, 2) := by decide +kernel
theorem dX6_longest_37 : decode cX6_longest 37 = .ok (.aload_n 0, 1) := by decide +kernel
theorem dX6_longest_38 : decode cX6_longest 38 = .ok (.getfield 9, 3) := by decide +kernel
theorem dX6_longest_41 : decode cX6_longest 41 = .ok (.iload 5, 2) := by decide +kernel
theorem dX6_longest_43 : decode cX6_longest 43 = .ok (.iaload, 1) := by decide +kernel
theorem dX6_longest_44 : decode cX6_longest 44 = .ok (.iload_n 1, 1) := by decide +kernel
theorem dX6_longest_45 : decode cX6_longest 45 = .ok (.invokestatic 39, 3) := by decide +kernel
theorem dX6_longest_48 : decode cX6_longest 48 = .ok (.istore_n 3, 1) := by decide +kernel
theorem dX6_longest_49 : decode cX6_longest 49 = .ok (.iload_n 2, 1) := by decide +kernel
theorem dX6_longest_50 : decode cX6_longest 50 = .ok (.iload_n 3, 1) := by decide +kernel
theorem dX6_longest_51 : decode cX6_longest 51 = .ok (.invokestatic 43, 3) := by decide +kernel
theorem dX6_longest_54 : decode cX6_longest 54 = .ok (.istore_n 2, 1) := by decide +kernel
theorem dX6_longest_55 : decode cX6_longest 55 = .ok (.iinc 5 1, 3) := by decide +kernel
theorem dX6_longest_58 : decode cX6_longest 58 = .ok (.goto (-48), 3) := by decide +kernel
theorem dX6_longest_61 : decode cX6_longest 61 = .ok (.iload_n 2, 1) := by decide +kernel
theorem dX6_longest_62 : decode cX6_longest 62 = .ok (.ireturn, 1) := by decide +kernel
theorem dX6_aboveThen_0 : decode cX6_aboveThen 0 = .ok (.iload_n 1, 1) := by decide +kernel
theorem dX6_aboveThen_1 : decode cX6_aboveThen 1 = .ok (.invokestatic 31, 3) := by decide +kernel
theorem dX6_aboveThen_4 : decode cX6_aboveThen 4 = .ok (.ifCond .eq 7, 3) := by decide +kernel
theorem dX6_aboveThen_7 : decode cX6_aboveThen 7 = .ok (.iconst 0, 1) := by decide +kernel
theorem dX6_aboveThen_8 : decode cX6_aboveThen 8 = .ok (.goto 10, 3) := by decide +kernel
theorem dX6_aboveThen_11 : decode cX6_aboveThen 11 = .ok (.iload_n 0, 1) := by decide +kernel
theorem dX6_aboveThen_12 : decode cX6_aboveThen 12 = .ok (.iconst 1, 1) := by decide +kernel
theorem dX6_aboveThen_13 : decode cX6_aboveThen 13 = .ok (.iadd, 1) := by decide +kernel
theorem dX6_aboveThen_14 : decode cX6_aboveThen 14 = .ok (.iload_n 2, 1) := by decide +kernel
theorem dX6_aboveThen_15 : decode cX6_aboveThen 15 = .ok (.invokestatic 21, 3) := by decide +kernel
theorem dX6_aboveThen_18 : decode cX6_aboveThen 18 = .ok (.ireturn, 1) := by decide +kernel
theorem dX6_underThen_0 : decode cX6_underThen 0 = .ok (.iload_n 2, 1) := by decide +kernel
theorem dX6_underThen_1 : decode cX6_underThen 1 = .ok (.invokestatic 31, 3) := by decide +kernel
theorem dX6_underThen_4 : decode cX6_underThen 4 = .ok (.ifCond .eq 7, 3) := by decide +kernel
theorem dX6_underThen_7 : decode cX6_underThen 7 = .ok (.iload_n 0, 1) := by decide +kernel
theorem dX6_underThen_8 : decode cX6_underThen 8 = .ok (.iconst 1, 1) := by decide +kernel
theorem dX6_underThen_9 : decode cX6_underThen 9 = .ok (.iadd, 1) := by decide +kernel
theorem dX6_underThen_10 : decode cX6_underThen 10 = .ok (.ireturn, 1) := by decide +kernel
theorem dX6_underThen_11 : decode cX6_underThen 11 = .ok (.iload_n 1, 1) := by decide +kernel
theorem dX6_underThen_12 : decode cX6_underThen 12 = .ok (.iload_n 3, 1) := by decide +kernel
theorem dX6_underThen_13 : decode cX6_underThen 13 = .ok (.if_icmp .lt 7, 3) := by decide +kernel
theorem dX6_underThen_16 : decode cX6_underThen 16 = .ok (.iconst 0, 1) := by decide +kernel
theorem dX6_underThen_17 : decode cX6_underThen 17 = .ok (.goto 4, 3) := by decide +kernel
theorem dX6_underThen_20 : decode cX6_underThen 20 = .ok (.iload_n 0, 1) := by decide +kernel
theorem dX6_underThen_21 : decode cX6_underThen 21 = .ok (.ireturn, 1) := by decide +kernel
theorem dX7_init_0 : decode cX7_init 0 = .ok (.aload_n 0, 1) := by decide +kernel
theorem dX7_init_1 : decode cX7_init 1 = .ok (.invokespecial 3, 3) := by decide +kernel
theorem dX7_init_4 : decode cX7_init 4 = .ok (.aload_n 0, 1) := by decide +kernel
theorem dX7_init_5 : decode cX7_init 5 = .ok (.bipush 6, 2) := by decide +kernel
theorem dX7_init_7 : decode cX7_init 7 = .ok (.newarray .int, 2) := by decide +kernel
theorem dX7_init_9 : decode cX7_init 9 = .ok (.putfield 11, 3) := by decide +kernel
theorem dX7_init_12 : decode cX7_init 12 = .ok (.aload_n 0, 1) := by decide +kernel
theorem dX7_init_13 : decode cX7_init 13 = .ok (.bipush 6, 2) := by decide +kernel
theorem dX7_init_15 : decode cX7_init 15 = .ok (.newarray .int, 2) := by decide +kernel
theorem dX7_init_17 : decode cX7_init 17 = .ok (.putfield 15, 3) := by decide +kernel
theorem dX7_init_20 : decode cX7_init 20 = .ok (.aload_n 0, 1) := by decide +kernel
theorem dX7_init_21 : decode cX7_init 21 = .ok (.bipush 6, 2) := by decide +kernel
theorem dX7_init_23 : decode cX7_init 23 = .ok (.newarray .int, 2) := by decide +kernel
theorem dX7_init_25 : decode cX7_init 25 = .ok (.putfield 18, 3) := by decide +kernel
theorem dX7_init_28 : decode cX7_init 28 = .ok (.aload_n 0, 1) := by decide +kernel
theorem dX7_init_29 : decode cX7_init 29 = .ok (.bipush 6, 2) := by decide +kernel
theorem dX7_init_31 : decode cX7_init 31 = .ok (.bipush 60, 2) := by decide +kernel
theorem dX7_init_33 : decode cX7_init 33 = .ok (.multianewarray 21 2, 4) := by decide +kernel
theorem dX7_init_37 : decode cX7_init 37 = .ok (.putfield 23, 3) := by decide +kernel
theorem dX7_init_40 : decode cX7_init 40 = .ok (.iconst 0, 1) := by decide +kernel
theorem dX7_init_41 : decode cX7_init 41 = .ok (.istore_n 1, 1) := by decide +kernel
theorem dX7_init_42 : decode cX7_init 42 = .ok (.iload_n 1, 1) := by decide +kernel
theorem dX7_init_43 : decode cX7_init 43 = .ok (.bipush 6, 2) := by decide +kernel
theorem dX7_init_45 : decode cX7_init 45 = .ok (.if_icmp .ge 16, 3) := by decide +kernel
theorem dX7_init_48 : decode cX7_init 48 = .ok (.aload_n 0, 1) := by decide +kernel
theorem dX7_init_49 : decode cX7_init 49 = .ok (.getfield 11, 3) := by decide +kernel
theorem dX7_init_52 : decode cX7_init 52 = .ok (.iload_n 1, 1) := by decide +kernel
theorem dX7_init_53 : decode cX7_init 53 = .ok (.iconst (-1), 1) := by decide +kernel
theorem dX7_init_54 : decode cX7_init 54 = .ok (.iastore, 1) := by decide +kernel
theorem dX7_init_55 : decode cX7_init 55 = .ok (.iinc 1 1, 3) := by decide +kernel
theorem dX7_init_58 : decode cX7_init 58 = .ok (.goto (-16), 3) := by decide +kernel
theorem dX7_init_61 : decode cX7_init 61 = .ok (.return_, 1) := by decide +kernel
theorem dX7_isShelf_0 : decode cX7_isShelf 0 = .ok (.iload_n 0, 1) := by decide +kernel
theorem dX7_isShelf_1 : decode cX7_isShelf 1 = .ok (.ifCond .lt 13, 3) := by decide +kernel
theorem dX7_isShelf_4 : decode cX7_isShelf 4 = .ok (.iload_n 0, 1) := by decide +kernel
theorem dX7_isShelf_5 : decode cX7_isShelf 5 = .ok (.bipush 6, 2) := by decide +kernel
theorem dX7_isShelf_7 : decode cX7_isShelf 7 = .ok (.if_icmp .ge 7, 3) := by decide +kernel
theorem dX7_isShelf_10 : decode cX7_isShelf 10 = .ok (.iconst 1, 1) := by decide +kernel
theorem dX7_isShelf_11 : decode cX7_isShelf 11 = .ok (.goto 4, 3) := by decide +kernel
theorem dX7_isShelf_14 : decode cX7_isShelf 14 = .ok (.iconst 0, 1) := by decide +kernel
theorem dX7_isShelf_15 : decode cX7_isShelf 15 = .ok (.ireturn, 1) := by decide +kernel
theorem dX7_isSort_0 : decode cX7_isSort 0 = .ok (.iload_n 0, 1) := by decide +kernel
theorem dX7_isSort_1 : decode cX7_isSort 1 = .ok (.ifCond .lt 12, 3) := by decide +kernel
theorem dX7_isSort_4 : decode cX7_isSort 4 = .ok (.iload_n 0, 1) := by decide +kernel
theorem dX7_isSort_5 : decode cX7_isSort 5 = .ok (.iconst 4, 1) := by decide +kernel
theorem dX7_isSort_6 : decode cX7_isSort 6 = .ok (.if_icmp .gt 7, 3) := by decide +kernel
theorem dX7_isSort_9 : decode cX7_isSort 9 = .ok (.iconst 1, 1) := by decide +kernel
theorem dX7_isSort_10 : decode cX7_isSort 10 = .ok (.goto 4, 3) := by decide +kernel
theorem dX7_isSort_13 : decode cX7_isSort 13 = .ok (.iconst 0, 1) := by decide +kernel
theorem dX7_isSort_14 : decode cX7_isSort 14 = .ok (.ireturn, 1) := by decide +kernel
theorem dX7_isEmpty_0 : decode cX7_isEmpty 0 = .ok (.iload_n 1, 1) := by decide +kernel
theorem dX7_isEmpty_1 : decode cX7_isEmpty 1 = .ok (.invokestatic 26, 3) := by decide +kernel
theorem dX7_isEmpty_4 : decode cX7_isEmpty 4 = .ok (.ifCond .eq 13, 3) := by decide +kernel
theorem dX7_isEmpty_7 : decode cX7_isEmpty 7 = .ok (.aload_n 0, 1) := by decide +kernel
theorem dX7_isEmpty_8 : decode cX7_isEmpty 8 = .ok (.getfield 11, 3) := by decide +kernel
theorem dX7_isEmpty_11 : decode cX7_isEmpty 11 = .ok (.iload_n 1, 1) := by decide +kernel
theorem dX7_isEmpty_12 : decode cX7_isEmpty 12 = .ok (.iaload, 1) := by decide +kernel
theorem dX7_isEmpty_13 : decode cX7_isEmpty 13 = .ok (.iconst (-1), 1) := by decide +kernel
theorem dX7_isEmpty_14 : decode cX7_isEmpty 14 = .ok (.if_icmp .ne 7, 3) := by decide +kernel
theorem dX7_isEmpty_17 : decode cX7_isEmpty 17 = .ok (.iconst 1, 1) := by decide +kernel
theorem dX7_isEmpty_18 : decode cX7_isEmpty 18 = .ok (.goto 4, 3) := by decide +kernel
theorem dX7_isEmpty_21 : decode cX7_isEmpty 21 = .ok (.iconst 0, 1) := by decide +kernel
theorem dX7_isEmpty_22 : decode cX7_isEmpty 22 = .ok (.ireturn, 1) := by decide +kernel
theorem dX7_refusal_0 : decode cX7_refusal 0 = .ok (.aload_n 0, 1) := by decide +kernel
theorem dX7_refusal_1 : decode cX7_refusal 1 = .ok (.iload_n 1, 1) := by decide +kernel
theorem dX7_refusal_2 : decode cX7_refusal 2 = .ok (.invokevirtual 30, 3) := by decide +kernel
theorem dX7_refusal_5 : decode cX7_refusal 5 = .ok (.ifCond .eq 6, 3) := by decide +kernel
theorem dX7_refusal_8 : decode cX7_refusal 8 = .ok (.bipush (-11), 2) := by decide +kernel
theorem dX7_refusal_10 : decode cX7_refusal 10 = .ok (.ireturn, 1) := by decide +kernel
theorem dX7_refusal_11 : decode cX7_refusal 11 = .ok (.aload_n 0, 1) := by decide +kernel
theorem dX7_refusal_12 : decode cX7_refusal 12 = .ok (.getfield 11, 3) := by decide +kernel
theorem dX7_refusal_15 : decode cX7_refusal 15 = .ok (.iload_n 1, 1) := by decide +kernel
theorem dX7_refusal_16 : decode cX7_refusal 16 = .ok (.iaload, 1) := by decide +kernel
theorem dX7_refusal_17 : decode cX7_refusal 17 = .ok (.iload_n 2, 1) := by decide +kernel
theorem dX7_refusal_18 : decode cX7_refusal 18 = .ok (.if_icmp .ne 7, 3) := by decide +kernel
theorem dX7_refusal_21 : decode cX7_refusal 21 = .ok (.iconst 0, 1) := by decide +kernel
theorem dX7_refusal_22 : decode cX7_refusal 22 = .ok (.goto 5, 3) := by decide +kernel
theorem dX7_refusal_25 : decode cX7_refusal 25 = .ok (.bipush (-12), 2) := by decide +kernel
theorem dX7_refusal_27 : decode cX7_refusal 27 = .ok (.ireturn, 1) := by decide +kernel
theorem dX7_rowRefusal_0 : decode cX7_rowRefusal 0 = .ok (.aload_n 0, 1) := by decide +kernel
theorem dX7_rowRefusal_1 : decode cX7_rowRefusal 1 = .ok (.iload_n 1, 1) := by decide +kernel
theorem dX7_rowRefusal_2 : decode cX7_rowRefusal 2 = .ok (.invokevirtual 30, 3) := by decide +kernel
theorem dX7_rowRefusal_5 : decode cX7_rowRefusal 5 = .ok (.ifCond .eq 6, 3) := by decide +kernel
theorem dX7_rowRefusal_8 : decode cX7_rowRefusal 8 = .ok (.bipush (-11), 2) := by decide +kernel
theorem dX7_rowRefusal_10 : decode cX7_rowRefusal 10 = .ok (.ireturn, 1) := by decide +kernel
theorem dX7_rowRefusal_11 : decode cX7_rowRefusal 11 = .ok (.aload_n 0, 1) := by decide +kernel
theorem dX7_rowRefusal_12 : decode cX7_rowRefusal 12 = .ok (.getfield 11, 3) := by decide +kernel
theorem dX7_rowRefusal_15 : decode cX7_rowRefusal 15 = .ok (.iload_n 1, 1) := by decide +kernel
theorem dX7_rowRefusal_16 : decode cX7_rowRefusal 16 = .ok (.iaload, 1) := by decide +kernel
theorem dX7_rowRefusal_17 : decode cX7_rowRefusal 17 = .ok (.invokestatic 33, 3) := by decide +kernel
theorem dX7_rowRefusal_20 : decode cX7_rowRefusal 20 = .ok (.ifCond .eq 7, 3) := by decide +kernel
theorem dX7_rowRefusal_23 : decode cX7_rowRefusal 23 = .ok (.iconst 0, 1) := by decide +kernel
theorem dX7_rowRefusal_24 : decode cX7_rowRefusal 24 = .ok (.goto 5, 3) := by decide +kernel
theorem dX7_rowRefusal_27 : decode cX7_rowRefusal 27 = .ok (.bipush (-12), 2) := by decide +kernel
theorem dX7_rowRefusal_29 : decode cX7_rowRefusal 29 = .ok (.ireturn, 1) := by decide +kernel
theorem dX7_pairRefusal_0 : decode cX7_pairRefusal 0 = .ok (.aload_n 0, 1) := by decide +kernel
theorem dX7_pairRefusal_1 : decode cX7_pairRefusal 1 = .ok (.iload_n 1, 1) := by decide +kernel
theorem dX7_pairRefusal_2 : decode cX7_pairRefusal 2 = .ok (.invokevirtual 30, 3) := by decide +kernel
theorem dX7_pairRefusal_5 : decode cX7_pairRefusal 5 = .ok (.ifCond .ne 11, 3) := by decide +kernel
theorem dX7_pairRefusal_8 : decode cX7_pairRefusal 8 = .ok (.aload_n 0, 1) := by decide +kernel
theorem dX7_pairRefusal_9 : decode cX7_pairRefusal 9 = .ok (.iload_n 2, 1) := by decide +kernel
theorem dX7_pairRefusal_10 : decode cX7_pairRefusal 10 = .ok (.invokevirtual 30, 3) := by decide +kernel
theorem dX7_pairRefusal_13 : decode cX7_pairRefusal 13 = .ok (.ifCond .eq 6, 3) := by decide +kernel
theorem dX7_pairRefusal_16 : decode cX7_pairRefusal 16 = .ok (.bipush (-11), 2) := by decide +kernel
theorem dX7_pairRefusal_18 : decode cX7_pairRefusal 18 = .ok (.ireturn, 1) := by decide +kernel
theorem dX7_pairRefusal_19 : decode cX7_pairRefusal 19 = .ok (.aload_n 0, 1) := by decide +kernel
theorem dX7_pairRefusal_20 : decode cX7_pairRefusal 20 = .ok (.getfield 11, 3) := by decide +kernel
theorem dX7_pairRefusal_23 : decode cX7_pairRefusal 23 = .ok (.iload_n 1, 1) := by decide +kernel
theorem dX7_pairRefusal_24 : decode cX7_pairRefusal 24 = .ok (.iaload, 1) := by decide +kernel
theorem dX7_pairRefusal_25 : decode cX7_pairRefusal 25 = .ok (.invokestatic 33, 3) := by decide +kernel
theorem dX7_pairRefusal_28 : decode cX7_pairRefusal 28 = .ok (.ifCond .eq 22, 3) := by decide +kernel
theorem dX7_pairRefusal_31 : decode cX7_pairRefusal 31 = .ok (.aload_n 0, 1) := by decide +kernel
theorem dX7_pairRefusal_32 : decode cX7_pairRefusal 32 = .ok (.getfield 11, 3) := by decide +kernel
theorem dX7_pairRefusal_35 : decode cX7_pairRefusal 35 = .ok (.iload_n 1, 1) := by decide +kernel
theorem dX7_pairRefusal_36 : decode cX7_pairRefusal 36 = .ok (.iaload, 1) := by decide +kernel
theorem dX7_pairRefusal_37 : decode cX7_pairRefusal 37 = .ok (.aload_n 0, 1) := by decide +kernel
theorem dX7_pairRefusal_38 : decode cX7_pairRefusal 38 = .ok (.getfield 11, 3) := by decide +kernel
theorem dX7_pairRefusal_41 : decode cX7_pairRefusal 41 = .ok (.iload_n 2, 1) := by decide +kernel
theorem dX7_pairRefusal_42 : decode cX7_pairRefusal 42 = .ok (.iaload, 1) := by decide +kernel
theorem dX7_pairRefusal_43 : decode cX7_pairRefusal 43 = .ok (.if_icmp .ne 7, 3) := by decide +kernel
theorem dX7_pairRefusal_46 : decode cX7_pairRefusal 46 = .ok (.iconst 0, 1) := by decide +kernel
theorem dX7_pairRefusal_47 : decode cX7_pairRefusal 47 = .ok (.goto 5, 3) := by decide +kernel
theorem dX7_pairRefusal_50 : decode cX7_pairRefusal 50 = .ok (.bipush (-12), 2) := by decide +kernel
theorem dX7_pairRefusal_52 : decode cX7_pairRefusal 52 = .ok (.ireturn, 1) := by decide +kernel
theorem dX7_hold_0 : decode cX7_hold 0 = .ok (.iload_n 1, 1) := by decide +kernel
theorem dX7_hold_1 : decode cX7_hold 1 = .ok (.invokestatic 26, 3) := by decide +kernel
theorem dX7_hold_4 : decode cX7_hold 4 = .ok (.ifCond .eq 32, 3) := by decide +kernel
theorem dX7_hold_7 : decode cX7_hold 7 = .ok (.aload_n 0, 1) := by decide +kernel
theorem dX7_hold_8 : decode cX7_hold 8 = .ok (.getfield 11, 3) := by decide +kernel
theorem dX7_hold_11 : decode cX7_hold 11 = .ok (.iload_n 1, 1) := by decide +kernel
theorem dX7_hold_12 : decode cX7_hold 12 = .ok (.iload_n 2, 1) := by decide +kernel
theorem dX7_hold_13 : decode cX7_hold 13 = .ok (.ifCond .ge 7, 3) := by decide +kernel
theorem dX7_hold_16 : decode cX7_hold 16 = .ok (.iconst (-1), 1) := by decide +kernel
theorem dX7_hold_17 : decode cX7_hold 17 = .ok (.goto 4, 3) := by decide +kernel
theorem dX7_hold_20 : decode cX7_hold 20 = .ok (.iconst 5, 1) := by decide +kernel
theorem dX7_hold_21 : decode cX7_hold 21 = .ok (.iastore, 1) := by decide +kernel
theorem dX7_hold_22 : decode cX7_hold 22 = .ok (.aload_n 0, 1) := by decide +kernel
theorem dX7_hold_23 : decode cX7_hold 23 = .ok (.getfield 15, 3) := by decide +kernel
theorem dX7_hold_26 : decode cX7_hold 26 = .ok (.iload_n 1, 1) := by decide +kernel
theorem dX7_hold_27 : decode cX7_hold 27 = .ok (.iload_n 2, 1) := by decide +kernel
theorem dX7_hold_28 : decode cX7_hold 28 = .ok (.iastore, 1) := by decide +kernel
theorem dX7_hold_29 : decode cX7_hold 29 = .ok (.aload_n 0, 1) := by decide +kernel
theorem dX7_hold_30 : decode cX7_hold 30 = .ok (.getfield 18, 3) := by decide +kernel
theorem dX7_hold_33 : decode cX7_hold 33 = .ok (.iload_n 1, 1) := by decide +kernel
theorem dX7_hold_34 : decode cX7_hold 34 = .ok (.iconst 0, 1) := by decide +kernel
theorem dX7_hold_35 : decode cX7_hold 35 = .ok (.iastore, 1) := by decide +kernel
theorem dX7_hold_36 : decode cX7_hold 36 = .ok (.return_, 1) := by decide +kernel
theorem dX7_lay_0 : decode cX7_lay 0 = .ok (.iload_n 1, 1) := by decide +kernel
theorem dX7_lay_1 : decode cX7_lay 1 = .ok (.invokestatic 26, 3) := by decide +kernel
theorem dX7_lay_4 : decode cX7_lay 4 = .ok (.ifCond .eq 43, 3) := by decide +kernel
theorem dX7_lay_7 : decode cX7_lay 7 = .ok (.aload_n 0, 1) := by decide +kernel
theorem dX7_lay_8 : decode cX7_lay 8 = .ok (.getfield 11, 3) := by decide +kernel
theorem dX7_lay_11 : decode cX7_lay 11 = .ok (.iload_n 1, 1) := by decide +kernel
theorem dX7_lay_12 : decode cX7_lay 12 = .ok (.iload_n 2, 1) := by decide +kernel
theorem dX7_lay_13 : decode cX7_lay 13 = .ok (.iastore, 1) := by decide +kernel
theorem dX7_lay_14 : decode cX7_lay 14 = .ok (.aload_n 0, 1) := by decide +kernel
theorem dX7_lay_15 : decode cX7_lay 15 = .ok (.getfield 18, 3) := by decide +kernel
theorem dX7_lay_18 : decode cX7_lay 18 = .ok (.iload_n 1, 1) := by decide +kernel
theorem dX7_lay_19 : decode cX7_lay 19 = .ok (.iload_n 3, 1) := by decide +kernel
theorem dX7_lay_20 : decode cX7_lay 20 = .ok (.iastore, 1) := by decide +kernel
theorem dX7_lay_21 : decode cX7_lay 21 = .ok (.iconst 0, 1) := by decide +kernel
theorem dX7_lay_22 : decode cX7_lay 22 = .ok (.istore 4, 2) := by decide +kernel
theorem dX7_lay_24 : decode cX7_lay 24 = .ok (.iload 4, 2) := by decide +kernel
theorem dX7_lay_26 : decode cX7_lay 26 = .ok (.bipush 60, 2) := by decide +kernel
theorem dX7_lay_28 : decode cX7_lay 28 = .ok (.if_icmp .ge 19, 3) := by decide +kernel
theorem dX7_lay_31 : decode cX7_lay 31 = .ok (.aload_n 0, 1) := by decide +kernel
theorem dX7_lay_32 : decode cX7_lay 32 = .ok (.getfield 23, 3) := by decide +kernel
theorem dX7_lay_35 : decode cX7_lay 35 = .ok (.iload_n 1, 1) := by decide +kernel
theorem dX7_lay_36 : decode cX7_lay 36 = .ok (.aaload, 1) := by decide +kernel
theorem dX7_lay_37 : decode cX7_lay 37 = .ok (.iload 4, 2) := by decide +kernel
theorem dX7_lay_39 : decode cX7_lay 39 = .ok (.lconst 0, 1) := by decide +kernel
theorem dX7_lay_40 : decode cX7_lay 40 = .ok (.lastore, 1) := by decide +kernel
theorem dX7_lay_41 : decode cX7_lay 41 = .ok (.iinc 4 1, 3) := by decide +kernel
theorem dX7_lay_44 : decode cX7_lay 44 = .ok (.goto (-20), 3) := by decide +kernel
theorem dX7_lay_47 : decode cX7_lay 47 = .ok (.return_, 1) := by decide +kernel
theorem dX7_held_0 : decode cX7_held 0 = .ok (.iload_n 1, 1) := by decide +kernel
theorem dX7_held_1 : decode cX7_held 1 = .ok (.invokestatic 26, 3) := by decide +kernel
theorem dX7_held_4 : decode cX7_held 4 = .ok (.ifCond .eq 22, 3) := by decide +kernel
theorem dX7_held_7 : decode cX7_held 7 = .ok (.aload_n 0, 1) := by decide +kernel
theorem dX7_held_8 : decode cX7_held 8 = .ok (.getfield 11, 3) := by decide +kernel
theorem dX7_held_11 : decode cX7_held 11 = .ok (.iload_n 1, 1) := by decide +kernel
theorem dX7_held_12 : decode cX7_held 12 = .ok (.iaload, 1) := by decide +kernel
theorem dX7_held_13 : decode cX7_held 13 = .ok (.iconst 5, 1) := by decide +kernel
theorem dX7_held_14 : decode cX7_held 14 = .ok (.if_icmp .ne 12, 3) := by decide +kernel
theorem dX7_held_17 : decode cX7_held 17 = .ok (.aload_n 0, 1) := by decide +kernel
theorem dX7_held_18 : decode cX7_held 18 = .ok (.getfield 15, 3) := by decide +kernel
theorem dX7_held_21 : decode cX7_held 21 = .ok (.iload_n 1, 1) := by decide +kernel
theorem dX7_held_22 : decode cX7_held 22 = .ok (.iaload, 1) := by decide +kernel
theorem dX7_held_23 : decode cX7_held 23 = .ok (.goto 4, 3) := by decide +kernel
theorem dX7_held_26 : decode cX7_held 26 = .ok (.iconst (-1), 1) := by decide +kernel
theorem dX7_held_27 : decode cX7_held 27 = .ok (.ireturn, 1) := by decide +kernel
theorem dX7_elements_0 : decode cX7_elements 0 = .ok (.aload_n 0, 1) := by decide +kernel
theorem dX7_elements_1 : decode cX7_elements 1 = .ok (.getfield 23, 3) := by decide +kernel
theorem dX7_elements_4 : decode cX7_elements 4 = .ok (.iload_n 1, 1) := by decide +kernel
theorem dX7_elements_5 : decode cX7_elements 5 = .ok (.invokestatic 26, 3) := by decide +kernel
theorem dX7_elements_8 : decode cX7_elements 8 = .ok (.ifCond .eq 7, 3) := by decide +kernel
theorem dX7_elements_11 : decode cX7_elements 11 = .ok (.iload_n 1, 1) := by decide +kernel
theorem dX7_elements_12 : decode cX7_elements 12 = .ok (.goto 4, 3) := by decide +kernel
theorem dX7_elements_15 : decode cX7_elements 15 = .ok (.iconst 0, 1) := by decide +kernel
theorem dX7_elements_16 : decode cX7_elements 16 = .ok (.aaload, 1) := by decide +kernel
theorem dX7_elements_17 : decode cX7_elements 17 = .ok (.areturn, 1) := by decide +kernel
theorem dX7_size_0 : decode cX7_size 0 = .ok (.iload_n 1, 1) := by decide +kernel
theorem dX7_size_1 : decode cX7_size 1 = .ok (.invokestatic 26, 3) := by decide +kernel
theorem dX7_size_4 : decode cX7_size 4 = .ok (.ifCond .eq 12, 3) := by decide +kernel
theorem dX7_size_7 : decode cX7_size 7 = .ok (.aload_n 0, 1) := by decide +kernel
theorem dX7_size_8 : decode cX7_size 8 = .ok (.getfield 18, 3) := by decide +kernel
theorem dX7_size_11 : decode cX7_size 11 = .ok (.iload_n 1, 1) := by decide +kernel
theorem dX7_size_12 : decode cX7_size 12 = .ok (.iaload, 1) := by decide +kernel
theorem dX7_size_13 : decode cX7_size 13 = .ok (.goto 4, 3) := by decide +kernel
theorem dX7_size_16 : decode cX7_size 16 = .ok (.iconst 0, 1) := by decide +kernel
theorem dX7_size_17 : decode cX7_size 17 = .ok (.ireturn, 1) := by decide +kernel
theorem dX7_isPlace_0 : decode cX7_isPlace 0 = .ok (.iload_n 1, 1) := by decide +kernel
theorem dX7_isPlace_1 : decode cX7_isPlace 1 = .ok (.invokestatic 26, 3) := by decide +kernel
theorem dX7_isPlace_4 : decode cX7_isPlace 4 = .ok (.ifCond .eq 27, 3) := by decide +kernel
theorem dX7_isPlace_7 : decode cX7_isPlace 7 = .ok (.iload_n 2, 1) := by decide +kernel
theorem dX7_isPlace_8 : decode cX7_isPlace 8 = .ok (.ifCond .lt 23, 3) := by decide +kernel
theorem dX7_isPlace_11 : decode cX7_isPlace 11 = .ok (.iload_n 2, 1) := by decide +kernel
theorem dX7_isPlace_12 : decode cX7_isPlace 12 = .ok (.aload_n 0, 1) := by decide +kernel
theorem dX7_isPlace_13 : decode cX7_isPlace 13 = .ok (.getfield 18, 3) := by decide +kernel
theorem dX7_isPlace_16 : decode cX7_isPlace 16 = .ok (.iload_n 1, 1) := by decide +kernel
theorem dX7_isPlace_17 : decode cX7_isPlace 17 = .ok (.iaload, 1) := by decide +kernel
theorem dX7_isPlace_18 : decode cX7_isPlace 18 = .ok (.if_icmp .ge 13, 3) := by decide +kernel
theorem dX7_isPlace_21 : decode cX7_isPlace 21 = .ok (.iload_n 2, 1) := by decide +kernel
theorem dX7_isPlace_22 : decode cX7_isPlace 22 = .ok (.bipush 60, 2) := by decide +kernel
theorem dX7_isPlace_24 : decode cX7_isPlace 24 = .ok (.if_icmp .ge 7, 3) := by decide +kernel
theorem dX7_isPlace_27 : decode cX7_isPlace 27 = .ok (.iconst 1, 1) := by decide +kernel
theorem dX7_isPlace_28 : decode cX7_isPlace 28 = .ok (.goto 4, 3) := by decide +kernel
theorem dX7_isPlace_31 : decode cX7_isPlace 31 = .ok (.iconst 0, 1) := by decide +kernel
theorem dX7_isPlace_32 : decode cX7_isPlace 32 = .ok (.ireturn, 1) := by decide +kernel
theorem dX7_set_0 : decode cX7_set 0 = .ok (.aload_n 0, 1) := by decide +kernel
theorem dX7_set_1 : decode cX7_set 1 = .ok (.iload_n 1, 1) := by decide +kernel
theorem dX7_set_2 : decode cX7_set 2 = .ok (.iload_n 2, 1) := by decide +kernel
theorem dX7_set_3 : decode cX7_set 3 = .ok (.invokevirtual 36, 3) := by decide +kernel
theorem dX7_set_6 : decode cX7_set 6 = .ok (.ifCond .ne 5, 3) := by decide +kernel
theorem dX7_set_9 : decode cX7_set 9 = .ok (.iconst 0, 1) := by decide +kernel
theorem dX7_set_10 : decode cX7_set 10 = .ok (.ireturn, 1) := by decide +kernel
theorem dX7_set_11 : decode cX7_set 11 = .ok (.aload_n 0, 1) := by decide +kernel
theorem dX7_set_12 : decode cX7_set 12 = .ok (.getfield 23, 3) := by decide +kernel
theorem dX7_set_15 : decode cX7_set 15 = .ok (.iload_n 1, 1) := by decide +kernel
theorem dX7_set_16 : decode cX7_set 16 = .ok (.aaload, 1) := by decide +kernel
theorem dX7_set_17 : decode cX7_set 17 = .ok (.iload_n 2, 1) := by decide +kernel
theorem dX7_set_18 : decode cX7_set 18 = .ok (.aload_n 0, 1) := by decide +kernel
theorem dX7_set_19 : decode cX7_set 19 = .ok (.getfield 11, 3) := by decide +kernel
theorem dX7_set_22 : decode cX7_set 22 = .ok (.iload_n 1, 1) := by decide +kernel
theorem dX7_set_23 : decode cX7_set 23 = .ok (.iaload, 1) := by decide +kernel
theorem dX7_set_24 : decode cX7_set 24 = .ok (.lload_n 3, 1) := by decide +kernel
theorem dX7_set_25 : decode cX7_set 25 = .ok (.invokestatic 40, 3) := by decide +kernel
theorem dX7_set_28 : decode cX7_set 28 = .ok (.lastore, 1) := by decide +kernel
theorem dX7_set_29 : decode cX7_set 29 = .ok (.iconst 1, 1) := by decide +kernel
theorem dX7_set_30 : decode cX7_set 30 = .ok (.ireturn, 1) := by decide +kernel
theorem dX7_cut_0 : decode cX7_cut 0 = .ok (.iload_n 0, 1) := by decide +kernel
theorem dX7_cut_1 : decode cX7_cut 1 = .ok (.tableswitch 47 0 3 #[31, 36, 41, 45], 31) := by decide +kernel
theorem dX7_cut_32 : decode cX7_cut 32 = .ok (.lload_n 1, 1) := by decide +kernel
theorem dX7_cut_33 : decode cX7_cut 33 = .ok (.l2i, 1) := by decide +kernel
theorem dX7_cut_34 : decode cX7_cut 34 = .ok (.i2b, 1) := by decide +kernel
theorem dX7_cut_35 : decode cX7_cut 35 = .ok (.i2l, 1) := by decide +kernel
theorem dX7_cut_36 : decode cX7_cut 36 = .ok (.lreturn, 1) := by decide +kernel
theorem dX7_cut_37 : decode cX7_cut 37 = .ok (.lload_n 1, 1) := by decide +kernel
theorem dX7_cut_38 : decode cX7_cut 38 = .ok (.l2i, 1) := by decide +kernel
theorem dX7_cut_39 : decode cX7_cut 39 = .ok (.i2s, 1) := by decide +kernel
theorem dX7_cut_40 : decode cX7_cut 40 = .ok (.i2l, 1) := by decide +kernel
theorem dX7_cut_41 : decode cX7_cut 41 = .ok (.lreturn, 1) := by decide +kernel
theorem dX7_cut_42 : decode cX7_cut 42 = .ok (.lload_n 1, 1) := by decide +kernel
theorem dX7_cut_43 : decode cX7_cut 43 = .ok (.l2i, 1) := by decide +kernel
theorem dX7_cut_44 : decode cX7_cut 44 = .ok (.i2l, 1) := by decide +kernel
theorem dX7_cut_45 : decode cX7_cut 45 = .ok (.lreturn, 1) := by decide +kernel
theorem dX7_cut_46 : decode cX7_cut 46 = .ok (.lload_n 1, 1) := by decide +kernel
theorem dX7_cut_47 : decode cX7_cut 47 = .ok (.lreturn, 1) := by decide +kernel
theorem dX7_cut_48 : decode cX7_cut 48 = .ok (.lload_n 1, 1) := by decide +kernel
theorem dX7_cut_49 : decode cX7_cut 49 = .ok (.lconst 0, 1) := by decide +kernel
theorem dX7_cut_50 : decode cX7_cut 50 = .ok (.lcmp, 1) := by decide +kernel
theorem dX7_cut_51 : decode cX7_cut 51 = .ok (.ifCond .eq 7, 3) := by decide +kernel
theorem dX7_cut_54 : decode cX7_cut 54 = .ok (.lconst 1, 1) := by decide +kernel
theorem dX7_cut_55 : decode cX7_cut 55 = .ok (.goto 4, 3) := by decide +kernel
theorem dX7_cut_58 : decode cX7_cut 58 = .ok (.lconst 0, 1) := by decide +kernel
theorem dX7_cut_59 : decode cX7_cut 59 = .ok (.lreturn, 1) := by decide +kernel
theorem dX7_elementAt_0 : decode cX7_elementAt 0 = .ok (.aload_n 0, 1) := by decide +kernel
theorem dX7_elementAt_1 : decode cX7_elementAt 1 = .ok (.iload_n 1, 1) := by decide +kernel
theorem dX7_elementAt_2 : decode cX7_elementAt 2 = .ok (.iload_n 2, 1) := by decide +kernel
theorem dX7_elementAt_3 : decode cX7_elementAt 3 = .ok (.invokevirtual 36, 3) := by decide +kernel
theorem dX7_elementAt_6 : decode cX7_elementAt 6 = .ok (.ifCond .eq 14, 3) := by decide +kernel
theorem dX7_elementAt_9 : decode cX7_elementAt 9 = .ok (.aload_n 0, 1) := by decide +kernel
theorem dX7_elementAt_10 : decode cX7_elementAt 10 = .ok (.getfield 23, 3) := by decide +kernel
theorem dX7_elementAt_13 : decode cX7_elementAt 13 = .ok (.iload_n 1, 1) := by decide +kernel
theorem dX7_elementAt_14 : decode cX7_elementAt 14 = .ok (.aaload, 1) := by decide +kernel
theorem dX7_elementAt_15 : decode cX7_elementAt 15 = .ok (.iload_n 2, 1) := by decide +kernel
theorem dX7_elementAt_16 : decode cX7_elementAt 16 = .ok (.laload, 1) := by decide +kernel
theorem dX7_elementAt_17 : decode cX7_elementAt 17 = .ok (.goto 6, 3) := by decide +kernel
theorem dX7_elementAt_20 : decode cX7_elementAt 20 = .ok (.ldc2_w 44, 3) := by decide +kernel
theorem dX7_elementAt_23 : decode cX7_elementAt 23 = .ok (.lreturn, 1) := by decide +kernel
theorem dX7_move_0 : decode cX7_move 0 = .ok (.aload_n 0, 1) := by decide +kernel
theorem dX7_move_1 : decode cX7_move 1 = .ok (.iload_n 1, 1) := by decide +kernel
theorem dX7_move_2 : decode cX7_move 2 = .ok (.iload_n 2, 1) := by decide +kernel
theorem dX7_move_3 : decode cX7_move 3 = .ok (.iload 5, 2) := by decide +kernel
theorem dX7_move_5 : decode cX7_move 5 = .ok (.invokevirtual 46, 3) := by decide +kernel
theorem dX7_move_8 : decode cX7_move 8 = .ok (.ifCond .eq 15, 3) := by decide +kernel
theorem dX7_move_11 : decode cX7_move 11 = .ok (.aload_n 0, 1) := by decide +kernel
theorem dX7_move_12 : decode cX7_move 12 = .ok (.iload_n 3, 1) := by decide +kernel
theorem dX7_move_13 : decode cX7_move 13 = .ok (.iload 4, 2) := by decide +kernel
theorem dX7_move_15 : decode cX7_move 15 = .ok (.iload 5, 2) := by decide +kernel
theorem dX7_move_17 : decode cX7_move 17 = .ok (.invokevirtual 46, 3) := by decide +kernel
theorem dX7_move_20 : decode cX7_move 20 = .ok (.ifCond .ne 5, 3) := by decide +kernel
theorem dX7_move_23 : decode cX7_move 23 = .ok (.iconst 0, 1) := by decide +kernel
theorem dX7_move_24 : decode cX7_move 24 = .ok (.ireturn, 1) := by decide +kernel
theorem dX7_move_25 : decode cX7_move 25 = .ok (.aload_n 0, 1) := by decide +kernel
theorem dX7_move_26 : decode cX7_move 26 = .ok (.getfield 23, 3) := by decide +kernel
theorem dX7_move_29 : decode cX7_move 29 = .ok (.iload_n 1, 1) := by decide +kernel
theorem dX7_move_30 : decode cX7_move 30 = .ok (.aaload, 1) := by decide +kernel
theorem dX7_move_31 : decode cX7_move 31 = .ok (.iload_n 2, 1) := by decide +kernel
theorem dX7_move_32 : decode cX7_move 32 = .ok (.aload_n 0, 1) := by decide +kernel
theorem dX7_move_33 : decode cX7_move 33 = .ok (.getfield 23, 3) := by decide +kernel
theorem dX7_move_36 : decode cX7_move 36 = .ok (.iload_n 3, 1) := by decide +kernel
theorem dX7_move_37 : decode cX7_move 37 = .ok (.aaload, 1) := by decide +kernel
theorem dX7_move_38 : decode cX7_move 38 = .ok (.iload 4, 2) := by decide +kernel
theorem dX7_move_40 : decode cX7_move 40 = .ok (.iload 5, 2) := by decide +kernel
theorem dX7_move_42 : decode cX7_move 42 = .ok (.invokestatic 50, 3) := by decide +kernel
theorem dX7_move_45 : decode cX7_move 45 = .ok (.iconst 1, 1) := by decide +kernel
theorem dX7_move_46 : decode cX7_move 46 = .ok (.ireturn, 1) := by decide +kernel
theorem dX7_isStretch_0 : decode cX7_isStretch 0 = .ok (.iload_n 1, 1) := by decide +kernel
theorem dX7_isStretch_1 : decode cX7_isStretch 1 = .ok (.invokestatic 26, 3) := by decide +kernel
theorem dX7_isStretch_4 : decode cX7_isStretch 4 = .ok (.ifCond .eq 27, 3) := by decide +kernel
theorem dX7_isStretch_7 : decode cX7_isStretch 7 = .ok (.iload_n 2, 1) := by decide +kernel
theorem dX7_isStretch_8 : decode cX7_isStretch 8 = .ok (.ifCond .lt 23, 3) := by decide +kernel
theorem dX7_isStretch_11 : decode cX7_isStretch 11 = .ok (.iload_n 3, 1) := by decide +kernel
theorem dX7_isStretch_12 : decode cX7_isStretch 12 = .ok (.ifCond .lt 19, 3) := by decide +kernel
theorem dX7_isStretch_15 : decode cX7_isStretch 15 = .ok (.iload_n 2, 1) := by decide +kernel
theorem dX7_isStretch_16 : decode cX7_isStretch 16 = .ok (.aload_n 0, 1) := by decide +kernel
theorem dX7_isStretch_17 : decode cX7_isStretch 17 = .ok (.getfield 18, 3) := by decide +kernel
theorem dX7_isStretch_20 : decode cX7_isStretch 20 = .ok (.iload_n 1, 1) := by decide +kernel
theorem dX7_isStretch_21 : decode cX7_isStretch 21 = .ok (.iaload, 1) := by decide +kernel
theorem dX7_isStretch_22 : decode cX7_isStretch 22 = .ok (.iload_n 3, 1) := by decide +kernel
theorem dX7_isStretch_23 : decode cX7_isStretch 23 = .ok (.isub, 1) := by decide +kernel
theorem dX7_isStretch_24 : decode cX7_isStretch 24 = .ok (.if_icmp .gt 7, 3) := by decide +kernel
theorem dX7_isStretch_27 : decode cX7_isStretch 27 = .ok (.iconst 1, 1) := by decide +kernel
theorem dX7_isStretch_28 : decode cX7_isStretch 28 = .ok (.goto 4, 3) := by decide +kernel
theorem dX7_isStretch_31 : decode cX7_isStretch 31 = .ok (.iconst 0, 1) := by decide +kernel
theorem dX7_isStretch_32 : decode cX7_isStretch 32 = .ok (.ireturn, 1) := by decide +kernel
theorem dX8_init_0 : decode cX8_init 0 = .ok (.aload_n 0, 1) := by decide +kernel
theorem dX8_init_1 : decode cX8_init 1 = .ok (.invokespecial 3, 3) := by decide +kernel
theorem dX8_init_4 : decode cX8_init 4 = .ok (.aload_n 0, 1) := by decide +kernel
theorem dX8_init_5 : decode cX8_init 5 = .ok (.bipush 120, 2) := by decide +kernel
theorem dX8_init_7 : decode cX8_init 7 = .ok (.newarray .int, 2) := by decide +kernel
theorem dX8_init_9 : decode cX8_init 9 = .ok (.putfield 9, 3) := by decide +kernel
theorem dX8_init_12 : decode cX8_init 12 = .ok (.aload_n 0, 1) := by decide +kernel
theorem dX8_init_13 : decode cX8_init 13 = .ok (.sipush 128, 3) := by decide +kernel
theorem dX8_init_16 : decode cX8_init 16 = .ok (.newarray .int, 2) := by decide +kernel
theorem dX8_init_18 : decode cX8_init 18 = .ok (.putfield 15, 3) := by decide +kernel
theorem dX8_init_21 : decode cX8_init 21 = .ok (.return_, 1) := by decide +kernel
theorem dX8_length_0 : decode cX8_length 0 = .ok (.aload_n 0, 1) := by decide +kernel
theorem dX8_length_1 : decode cX8_length 1 = .ok (.getfield 18, 3) := by decide +kernel
theorem dX8_length_4 : decode cX8_length 4 = .ok (.ireturn, 1) := by decide +kernel
theorem dX8_isFull_0 : decode cX8_isFull 0 = .ok (.aload_n 0, 1) := by decide +kernel
theorem dX8_isFull_1 : decode cX8_isFull 1 = .ok (.getfield 18, 3) := by decide +kernel
theorem dX8_isFull_4 : decode cX8_isFull 4 = .ok (.bipush 120, 2) := by decide +kernel
theorem dX8_isFull_6 : decode cX8_isFull 6 = .ok (.if_icmp .lt 7, 3) := by decide +kernel
theorem dX8_isFull_9 : decode cX8_isFull 9 = .ok (.iconst 1, 1) := by decide +kernel
theorem dX8_isFull_10 : decode cX8_isFull 10 = .ok (.goto 4, 3) := by decide +kernel
theorem dX8_isFull_13 : decode cX8_isFull 13 = .ok (.iconst 0, 1) := by decide +kernel
theorem dX8_isFull_14 : decode cX8_isFull 14 = .ok (.ireturn, 1) := by decide +kernel
theorem dX8_take_0 : decode cX8_take 0 = .ok (.aload_n 0, 1) := by decide +kernel
theorem dX8_take_1 : decode cX8_take 1 = .ok (.invokevirtual 22, 3) := by decide +kernel
theorem dX8_take_4 : decode cX8_take 4 = .ok (.ifCond .ne 23, 3) := by decide +kernel
theorem dX8_take_7 : decode cX8_take 7 = .ok (.aload_n 0, 1) := by decide +kernel
theorem dX8_take_8 : decode cX8_take 8 = .ok (.getfield 9, 3) := by decide +kernel
theorem dX8_take_11 : decode cX8_take 11 = .ok (.aload_n 0, 1) := by decide +kernel
theorem dX8_take_12 : decode cX8_take 12 = .ok (.getfield 18, 3) := by decide +kernel
theorem dX8_take_15 : decode cX8_take 15 = .ok (.iload_n 1, 1) := by decide +kernel
theorem dX8_take_16 : decode cX8_take 16 = .ok (.iastore, 1) := by decide +kernel
theorem dX8_take_17 : decode cX8_take 17 = .ok (.aload_n 0, 1) := by decide +kernel
theorem dX8_take_18 : decode cX8_take 18 = .ok (.dup, 1) := by decide +kernel
theorem dX8_take_19 : decode cX8_take 19 = .ok (.getfield 18, 3) := by decide +kernel
theorem dX8_take_22 : decode cX8_take 22 = .ok (.iconst 1, 1) := by decide +kernel
theorem dX8_take_23 : decode cX8_take 23 = .ok (.iadd, 1) := by decide +kernel
theorem dX8_take_24 : decode cX8_take 24 = .ok (.putfield 18, 3) := by decide +kernel
theorem dX8_take_27 : decode cX8_take 27 = .ok (.aload_n 0, 1) := by decide +kernel
theorem dX8_take_28 : decode cX8_take 28 = .ok (.getfield 18, 3) := by decide +kernel
theorem dX8_take_31 : decode cX8_take 31 = .ok (.ireturn, 1) := by decide +kernel
theorem dX8_empty_0 : decode cX8_empty 0 = .ok (.aload_n 0, 1) := by decide +kernel
theorem dX8_empty_1 : decode cX8_empty 1 = .ok (.iconst 0, 1) := by decide +kernel
theorem dX8_empty_2 : decode cX8_empty 2 = .ok (.putfield 18, 3) := by decide +kernel
theorem dX8_empty_5 : decode cX8_empty 5 = .ok (.return_, 1) := by decide +kernel
theorem dX8_place_0 : decode cX8_place 0 = .ok (.aload_n 0, 1) := by decide +kernel
theorem dX8_place_1 : decode cX8_place 1 = .ok (.getfield 26, 3) := by decide +kernel
theorem dX8_place_4 : decode cX8_place 4 = .ok (.ireturn, 1) := by decide +kernel
theorem dX8_code_0 : decode cX8_code 0 = .ok (.aload_n 0, 1) := by decide +kernel
theorem dX8_code_1 : decode cX8_code 1 = .ok (.getfield 15, 3) := by decide +kernel
theorem dX8_code_4 : decode cX8_code 4 = .ok (.areturn, 1) := by decide +kernel
theorem dX8_codes_0 : decode cX8_codes 0 = .ok (.aload_n 0, 1) := by decide +kernel
theorem dX8_codes_1 : decode cX8_codes 1 = .ok (.getfield 29, 3) := by decide +kernel
theorem dX8_codes_4 : decode cX8_codes 4 = .ok (.ireturn, 1) := by decide +kernel
theorem dX8_isText_0 : decode cX8_isText 0 = .ok (.aload_n 0, 1) := by decide +kernel
theorem dX8_isText_1 : decode cX8_isText 1 = .ok (.iconst 0, 1) := by decide +kernel
theorem dX8_isText_2 : decode cX8_isText 2 = .ok (.putfield 26, 3) := by decide +kernel
theorem dX8_isText_5 : decode cX8_isText 5 = .ok (.aload_n 0, 1) := by decide +kernel
theorem dX8_isText_6 : decode cX8_isText 6 = .ok (.iconst 0, 1) := by decide +kernel
theorem dX8_isText_7 : decode cX8_isText 7 = .ok (.putfield 29, 3) := by decide +kernel
theorem dX8_isText_10 : decode cX8_isText 10 = .ok (.iconst 0, 1) := by decide +kernel
theorem dX8_isText_11 : decode cX8_isText 11 = .ok (.istore_n 1, 1) := by decide +kernel
theorem dX8_isText_12 : decode cX8_isText 12 = .ok (.iload_n 1, 1) := by decide +kernel
theorem dX8_isText_13 : decode cX8_isText 13 = .ok (.bipush 120, 2) := by decide +kernel
theorem dX8_isText_15 : decode cX8_isText 15 = .ok (.if_icmp .gt 42, 3) := by decide +kernel
theorem dX8_isText_18 : decode cX8_isText 18 = .ok (.aload_n 0, 1) := by decide +kernel
theorem dX8_isText_19 : decode cX8_isText 19 = .ok (.invokevirtual 32, 3) := by decide +kernel
theorem dX8_isText_22 : decode cX8_isText 22 = .ok (.ifCond .ne 5, 3) := by decide +kernel
theorem dX8_isText_25 : decode cX8_isText 25 = .ok (.iconst 0, 1) := by decide +kernel
theorem dX8_isText_26 : decode cX8_isText 26 = .ok (.ireturn, 1) := by decide +kernel
theorem dX8_isText_27 : decode cX8_isText 27 = .ok (.aload_n 0, 1) := by decide +kernel
theorem dX8_isText_28 : decode cX8_isText 28 = .ok (.getfield 26, 3) := by decide +kernel
theorem dX8_isText_31 : decode cX8_isText 31 = .ok (.aload_n 0, 1) := by decide +kernel
theorem dX8_isText_32 : decode cX8_isText 32 = .ok (.getfield 18, 3) := by decide +kernel
theorem dX8_isText_35 : decode cX8_isText 35 = .ok (.if_icmp .lt 5, 3) := by decide +kernel
theorem dX8_isText_38 : decode cX8_isText 38 = .ok (.iconst 1, 1) := by decide +kernel
theorem dX8_isText_39 : decode cX8_isText 39 = .ok (.ireturn, 1) := by decide +kernel
theorem dX8_isText_40 : decode cX8_isText 40 = .ok (.aload_n 0, 1) := by decide +kernel
theorem dX8_isText_41 : decode cX8_isText 41 = .ok (.bipush 59, 2) := by decide +kernel
theorem dX8_isText_43 : decode cX8_isText 43 = .ok (.invokevirtual 35, 3) := by decide +kernel
theorem dX8_isText_46 : decode cX8_isText 46 = .ok (.ifCond .ne 5, 3) := by decide +kernel
theorem dX8_isText_49 : decode cX8_isText 49 = .ok (.iconst 0, 1) := by decide +kernel
theorem dX8_isText_50 : decode cX8_isText 50 = .ok (.ireturn, 1) := by decide +kernel
theorem dX8_isText_51 : decode cX8_isText 51 = .ok (.iinc 1 1, 3) := by decide +kernel
theorem dX8_isText_54 : decode cX8_isText 54 = .ok (.goto (-42), 3) := by decide +kernel
theorem dX8_isText_57 : decode cX8_isText 57 = .ok (.iconst 0, 1) := by decide +kernel
theorem dX8_isText_58 : decode cX8_isText 58 = .ok (.ireturn, 1) := by decide +kernel
theorem dX8_isLine_0 : decode cX8_isLine 0 = .ok (.aload_n 0, 1) := by decide +kernel
theorem dX8_isLine_1 : decode cX8_isLine 1 = .ok (.iconst 0, 1) := by decide +kernel
theorem dX8_isLine_2 : decode cX8_isLine 2 = .ok (.iconst 0, 1) := by decide +kernel
theorem dX8_isLine_3 : decode cX8_isLine 3 = .ok (.invokevirtual 39, 3) := by decide +kernel
theorem dX8_isLine_6 : decode cX8_isLine 6 = .ok (.ifCond .ne 5, 3) := by decide +kernel
theorem dX8_isLine_9 : decode cX8_isLine 9 = .ok (.iconst 0, 1) := by decide +kernel
theorem dX8_isLine_10 : decode cX8_isLine 10 = .ok (.ireturn, 1) := by decide +kernel
theorem dX8_isLine_11 : decode cX8_isLine 11 = .ok (.aload_n 0, 1) := by decide +kernel
theorem dX8_isLine_12 : decode cX8_isLine 12 = .ok (.bipush 63, 2) := by decide +kernel
theorem dX8_isLine_14 : decode cX8_isLine 14 = .ok (.invokevirtual 35, 3) := by decide +kernel
theorem dX8_isLine_17 : decode cX8_isLine 17 = .ok (.ifCond .eq 20, 3) := by decide +kernel
theorem dX8_isLine_20 : decode cX8_isLine 20 = .ok (.aload_n 0, 1) := by decide +kernel
theorem dX8_isLine_21 : decode cX8_isLine 21 = .ok (.bipush (-63), 2) := by decide +kernel
theorem dX8_isLine_23 : decode cX8_isLine 23 = .ok (.invokevirtual 43, 3) := by decide +kernel
theorem dX8_isLine_26 : decode cX8_isLine 26 = .ok (.aload_n 0, 1) := by decide +kernel
theorem dX8_isLine_27 : decode cX8_isLine 27 = .ok (.iconst 0, 1) := by decide +kernel
theorem dX8_isLine_28 : decode cX8_isLine 28 = .ok (.iconst 0, 1) := by decide +kernel
theorem dX8_isLine_29 : decode cX8_isLine 29 = .ok (.invokevirtual 39, 3) := by decide +kernel
theorem dX8_isLine_32 : decode cX8_isLine 32 = .ok (.ifCond .ne 5, 3) := by decide +kernel
theorem dX8_isLine_35 : decode cX8_isLine 35 = .ok (.iconst 0, 1) := by decide +kernel
theorem dX8_isLine_36 : decode cX8_isLine 36 = .ok (.ireturn, 1) := by decide +kernel
theorem dX8_isLine_37 : decode cX8_isLine 37 = .ok (.aload_n 0, 1) := by decide +kernel
theorem dX8_isLine_38 : decode cX8_isLine 38 = .ok (.bipush (-59), 2) := by decide +kernel
theorem dX8_isLine_40 : decode cX8_isLine 40 = .ok (.invokevirtual 43, 3) := by decide +kernel
theorem dX8_isLine_43 : decode cX8_isLine 43 = .ok (.iconst 1, 1) := by decide +kernel
theorem dX8_isLine_44 : decode cX8_isLine 44 = .ok (.ireturn, 1) := by decide +kernel
theorem dX8_isLevel_0 : decode cX8_isLevel 0 = .ok (.iload_n 1, 1) := by decide +kernel
theorem dX8_isLevel_1 : decode cX8_isLevel 1 = .ok (.iconst 5, 1) := by decide +kernel
theorem dX8_isLevel_2 : decode cX8_isLevel 2 = .ok (.if_icmp .lt 9, 3) := by decide +kernel
theorem dX8_isLevel_5 : decode cX8_isLevel 5 = .ok (.aload_n 0, 1) := by decide +kernel
theorem dX8_isLevel_6 : decode cX8_isLevel 6 = .ok (.iload_n 2, 1) := by decide +kernel
theorem dX8_isLevel_7 : decode cX8_isLevel 7 = .ok (.invokevirtual 47, 3) := by decide +kernel
theorem dX8_isLevel_10 : decode cX8_isLevel 10 = .ok (.ireturn, 1) := by decide +kernel
theorem dX8_isLevel_11 : decode cX8_isLevel 11 = .ok (.aload_n 0, 1) := by decide +kernel
theorem dX8_isLevel_12 : decode cX8_isLevel 12 = .ok (.iload_n 1, 1) := by decide +kernel
theorem dX8_isLevel_13 : decode cX8_isLevel 13 = .ok (.iconst 1, 1) := by decide +kernel
theorem dX8_isLevel_14 : decode cX8_isLevel 14 = .ok (.iadd, 1) := by decide +kernel
theorem dX8_isLevel_15 : decode cX8_isLevel 15 = .ok (.iload_n 2, 1) := by decide +kernel
theorem dX8_isLevel_16 : decode cX8_isLevel 16 = .ok (.invokevirtual 39, 3) := by decide +kernel
theorem dX8_isLevel_19 : decode cX8_isLevel 19 = .ok (.ifCond .ne 5, 3) := by decide +kernel
theorem dX8_isLevel_22 : decode cX8_isLevel 22 = .ok (.iconst 0, 1) := by decide +kernel
theorem dX8_isLevel_23 : decode cX8_isLevel 23 = .ok (.ireturn, 1) := by decide +kernel
theorem dX8_isLevel_24 : decode cX8_isLevel 24 = .ok (.iconst 0, 1) := by decide +kernel
theorem dX8_isLevel_25 : decode cX8_isLevel 25 = .ok (.istore_n 3, 1) := by decide +kernel
theorem dX8_isLevel_26 : decode cX8_isLevel 26 = .ok (.iload_n 3, 1) := by decide +kernel
theorem dX8_isLevel_27 : decode cX8_isLevel 27 = .ok (.bipush 120, 2) := by decide +kernel
theorem dX8_isLevel_29 : decode cX8_isLevel 29 = .ok (.if_icmp .ge 84, 3) := by decide +kernel
theorem dX8_isLevel_32 : decode cX8_isLevel 32 = .ok (.aload_n 0, 1) := by decide +kernel
theorem dX8_isLevel_33 : decode cX8_isLevel 33 = .ok (.getfield 26, 3) := by decide +kernel
theorem dX8_isLevel_36 : decode cX8_isLevel 36 = .ok (.aload_n 0, 1) := by decide +kernel
theorem dX8_isLevel_37 : decode cX8_isLevel 37 = .ok (.getfield 18, 3) := by decide +kernel
theorem dX8_isLevel_40 : decode cX8_isLevel 40 = .ok (.if_icmp .ge 73, 3) := by decide +kernel
theorem dX8_isLevel_43 : decode cX8_isLevel 43 = .ok (.aload_n 0, 1) := by decide +kernel
theorem dX8_isLevel_44 : decode cX8_isLevel 44 = .ok (.getfield 9, 3) := by decide +kernel
theorem dX8_isLevel_47 : decode cX8_isLevel 47 = .ok (.aload_n 0, 1) := by decide +kernel
theorem dX8_isLevel_48 : decode cX8_isLevel 48 = .ok (.getfield 26, 3) := by decide +kernel
theorem dX8_isLevel_51 : decode cX8_isLevel 51 = .ok (.iaload, 1) := by decide +kernel
theorem dX8_isLevel_52 : decode cX8_isLevel 52 = .ok (.invokestatic 50, 3) := by decide +kernel
theorem dX8_isLevel_55 : decode cX8_isLevel 55 = .ok (.iload_n 1, 1) := by decide +kernel
theorem dX8_isLevel_56 : decode cX8_isLevel 56 = .ok (.if_icmp .ne 57, 3) := by decide +kernel
theorem dX8_isLevel_59 : decode cX8_isLevel 59 = .ok (.aload_n 0, 1) := by decide +kernel
theorem dX8_isLevel_60 : decode cX8_isLevel 60 = .ok (.getfield 9, 3) := by decide +kernel
theorem dX8_isLevel_63 : decode cX8_isLevel 63 = .ok (.aload_n 0, 1) := by decide +kernel
theorem dX8_isLevel_64 : decode cX8_isLevel 64 = .ok (.getfield 26, 3) := by decide +kernel
theorem dX8_isLevel_67 : decode cX8_isLevel 67 = .ok (.iaload, 1) := by decide +kernel
theorem dX8_isLevel_68 : decode cX8_isLevel 68 = .ok (.istore 4, 2) := by decide +kernel
theorem dX8_isLevel_70 : decode cX8_isLevel 70 = .ok (.aload_n 0, 1) := by decide +kernel
theorem dX8_isLevel_71 : decode cX8_isLevel 71 = .ok (.dup, 1) := by decide +kernel
theorem dX8_isLevel_72 : decode cX8_isLevel 72 = .ok (.getfield 26, 3) := by decide +kernel
theorem dX8_isLevel_75 : decode cX8_isLevel 75 = .ok (.iconst 1, 1) := by decide +kernel
theorem dX8_isLevel_76 : decode cX8_isLevel 76 = .ok (.iadd, 1) := by decide +kernel
theorem dX8_isLevel_77 : decode cX8_isLevel 77 = .ok (.putfield 26, 3) := by decide +kernel
theorem dX8_isLevel_80 : decode cX8_isLevel 80 = .ok (.aload_n 0, 1) := by decide +kernel
theorem dX8_isLevel_81 : decode cX8_isLevel 81 = .ok (.iload_n 1, 1) := by decide +kernel
theorem dX8_isLevel_82 : decode cX8_isLevel 82 = .ok (.iconst 1, 1) := by decide +kernel
theorem dX8_isLevel_83 : decode cX8_isLevel 83 = .ok (.iadd, 1) := by decide +kernel
theorem dX8_isLevel_84 : decode cX8_isLevel 84 = .ok (.iload_n 2, 1) := by decide +kernel
theorem dX8_isLevel_85 : decode cX8_isLevel 85 = .ok (.invokevirtual 39, 3) := by decide +kernel
theorem dX8_isLevel_88 : decode cX8_isLevel 88 = .ok (.ifCond .ne 5, 3) := by decide +kernel
theorem dX8_isLevel_91 : decode cX8_isLevel 91 = .ok (.iconst 0, 1) := by decide +kernel
theorem dX8_isLevel_92 : decode cX8_isLevel 92 = .ok (.ireturn, 1) := by decide +kernel
theorem dX8_isLevel_93 : decode cX8_isLevel 93 = .ok (.aload_n 0, 1) := by decide +kernel
theorem dX8_isLevel_94 : decode cX8_isLevel 94 = .ok (.iload 4, 2) := by decide +kernel
theorem dX8_isLevel_96 : decode cX8_isLevel 96 = .ok (.ineg, 1) := by decide +kernel
theorem dX8_isLevel_97 : decode cX8_isLevel 97 = .ok (.invokevirtual 43, 3) := by decide +kernel
theorem dX8_isLevel_100 : decode cX8_isLevel 100 = .ok (.iload_n 1, 1) := by decide +kernel
theorem dX8_isLevel_101 : decode cX8_isLevel 101 = .ok (.iconst 2, 1) := by decide +kernel
theorem dX8_isLevel_102 : decode cX8_isLevel 102 = .ok (.if_icmp .ne 5, 3) := by decide +kernel
theorem dX8_isLevel_105 : decode cX8_isLevel 105 = .ok (.iconst 1, 1) := by decide +kernel
theorem dX8_isLevel_106 : decode cX8_isLevel 106 = .ok (.ireturn, 1) := by decide +kernel
theorem dX8_isLevel_107 : decode cX8_isLevel 107 = .ok (.iinc 3 1, 3) := by decide +kernel
theorem dX8_isLevel_110 : decode cX8_isLevel 110 = .ok (.goto (-84), 3) := by decide +kernel
theorem dX8_isLevel_113 : decode cX8_isLevel 113 = .ok (.iconst 1, 1) := by decide +kernel
theorem dX8_isLevel_114 : decode cX8_isLevel 114 = .ok (.ireturn, 1) := by decide +kernel
theorem dX8_isFactor_0 : decode cX8_isFactor 0 = .ok (.aload_n 0, 1) := by decide +kernel
theorem dX8_isFactor_1 : decode cX8_isFactor 1 = .ok (.getfield 26, 3) := by decide +kernel
theorem dX8_isFactor_4 : decode cX8_isFactor 4 = .ok (.aload_n 0, 1) := by decide +kernel
theorem dX8_isFactor_5 : decode cX8_isFactor 5 = .ok (.getfield 18, 3) := by decide +kernel
theorem dX8_isFactor_8 : decode cX8_isFactor 8 = .ok (.if_icmp .lt 5, 3) := by decide +kernel
theorem dX8_isFactor_11 : decode cX8_isFactor 11 = .ok (.iconst 0, 1) := by decide +kernel
theorem dX8_isFactor_12 : decode cX8_isFactor 12 = .ok (.ireturn, 1) := by decide +kernel
theorem dX8_isFactor_13 : decode cX8_isFactor 13 = .ok (.aload_n 0, 1) := by decide +kernel
theorem dX8_isFactor_14 : decode cX8_isFactor 14 = .ok (.getfield 9, 3) := by decide +kernel
theorem dX8_isFactor_17 : decode cX8_isFactor 17 = .ok (.aload_n 0, 1) := by decide +kernel
theorem dX8_isFactor_18 : decode cX8_isFactor 18 = .ok (.getfield 26, 3) := by decide +kernel
theorem dX8_isFactor_21 : decode cX8_isFactor 21 = .ok (.iaload, 1) := by decide +kernel
theorem dX8_isFactor_22 : decode cX8_isFactor 22 = .ok (.istore_n 2, 1) := by decide +kernel
theorem dX8_isFactor_23 : decode cX8_isFactor 23 = .ok (.iload_n 2, 1) := by decide +kernel
theorem dX8_isFactor_24 : decode cX8_isFactor 24 = .ok (.invokestatic 54, 3) := by decide +kernel
theorem dX8_isFactor_27 : decode cX8_isFactor 27 = .ok (.ifCond .eq 9, 3) := by decide +kernel
theorem dX8_isFactor_30 : decode cX8_isFactor 30 = .ok (.aload_n 0, 1) := by decide +kernel
theorem dX8_isFactor_31 : decode cX8_isFactor 31 = .ok (.invokevirtual 57, 3) := by decide +kernel
theorem dX8_isFactor_34 : decode cX8_isFactor 34 = .ok (.iconst 1, 1) := by decide +kernel
theorem dX8_isFactor_35 : decode cX8_isFactor 35 = .ok (.ireturn, 1) := by decide +kernel
theorem dX8_isFactor_36 : decode cX8_isFactor 36 = .ok (.ldc 60, 2) := by decide +kernel
theorem dX8_isFactor_38 : decode cX8_isFactor 38 = .ok (.iload_n 2, 1) := by decide +kernel
theorem dX8_isFactor_39 : decode cX8_isFactor 39 = .ok (.i2c, 1) := by decide +kernel
theorem dX8_isFactor_40 : decode cX8_isFactor 40 = .ok (.invokevirtual 62, 3) := by decide +kernel
theorem dX8_isFactor_43 : decode cX8_isFactor 43 = .ok (.istore_n 3, 1) := by decide +kernel
theorem dX8_isFactor_44 : decode cX8_isFactor 44 = .ok (.iload_n 3, 1) := by decide +kernel
theorem dX8_isFactor_45 : decode cX8_isFactor 45 = .ok (.ifCond .lt 22, 3) := by decide +kernel
theorem dX8_isFactor_48 : decode cX8_isFactor 48 = .ok (.aload_n 0, 1) := by decide +kernel
theorem dX8_isFactor_49 : decode cX8_isFactor 49 = .ok (.dup, 1) := by decide +kernel
theorem dX8_isFactor_50 : decode cX8_isFactor 50 = .ok (.getfield 26, 3) := by decide +kernel
theorem dX8_isFactor_53 : decode cX8_isFactor 53 = .ok (.iconst 1, 1) := by decide +kernel
theorem dX8_isFactor_54 : decode cX8_isFactor 54 = .ok (.iadd, 1) := by decide +kernel
theorem dX8_isFactor_55 : decode cX8_isFactor 55 = .ok (.putfield 26, 3) := by decide +kernel
theorem dX8_isFactor_58 : decode cX8_isFactor 58 = .ok (.aload_n 0, 1) := by decide +kernel
theorem dX8_isFactor_59 : decode cX8_isFactor 59 = .ok (.iconst (-1), 1) := by decide +kernel
theorem dX8_isFactor_60 : decode cX8_isFactor 60 = .ok (.iload_n 3, 1) := by decide +kernel
theorem dX8_isFactor_61 : decode cX8_isFactor 61 = .ok (.isub, 1) := by decide +kernel
theorem dX8_isFactor_62 : decode cX8_isFactor 62 = .ok (.invokevirtual 43, 3) := by decide +kernel
theorem dX8_isFactor_65 : decode cX8_isFactor 65 = .ok (.iconst 1, 1) := by decide +kernel
theorem dX8_isFactor_66 : decode cX8_isFactor 66 = .ok (.ireturn, 1) := by decide +kernel
theorem dX8_isFactor_67 : decode cX8_isFactor 67 = .ok (.iload_n 1, 1) := by decide +kernel
theorem dX8_isFactor_68 : decode cX8_isFactor 68 = .ok (.bipush 6, 2) := by decide +kernel
theorem dX8_isFactor_70 : decode cX8_isFactor 70 = .ok (.if_icmp .ge 18, 3) := by decide +kernel
theorem dX8_isFactor_73 : decode cX8_isFactor 73 = .ok (.aload_n 0, 1) := by decide +kernel
theorem dX8_isFactor_74 : decode cX8_isFactor 74 = .ok (.iload_n 2, 1) := by decide +kernel
theorem dX8_isFactor_75 : decode cX8_isFactor 75 = .ok (.iload_n 1, 1) := by decide +kernel
theorem dX8_isFactor_76 : decode cX8_isFactor 76 = .ok (.iconst 1, 1) := by decide +kernel
theorem dX8_isFactor_77 : decode cX8_isFactor 77 = .ok (.iadd, 1) := by decide +kernel
theorem dX8_isFactor_78 : decode cX8_isFactor 78 = .ok (.invokevirtual 67, 3) := by decide +kernel
theorem dX8_isFactor_81 : decode cX8_isFactor 81 = .ok (.ifCond .eq 7, 3) := by decide +kernel
theorem dX8_isFactor_84 : decode cX8_isFactor 84 = .ok (.iconst 1, 1) := by decide +kernel
theorem dX8_isFactor_85 : decode cX8_isFactor 85 = .ok (.goto 4, 3) := by decide +kernel
theorem dX8_isFactor_88 : decode cX8_isFactor 88 = .ok (.iconst 0, 1) := by decide +kernel
theorem dX8_isFactor_89 : decode cX8_isFactor 89 = .ok (.ireturn, 1) := by decide +kernel
theorem dX8_isOpened_0 : decode cX8_isOpened 0 = .ok (.iload_n 1, 1) := by decide +kernel
theorem dX8_isOpened_1 : decode cX8_isOpened 1 = .ok (.bipush 40, 2) := by decide +kernel
theorem dX8_isOpened_3 : decode cX8_isOpened 3 = .ok (.if_icmp .eq 17, 3) := by decide +kernel
theorem dX8_isOpened_6 : decode cX8_isOpened 6 = .ok (.iload_n 1, 1) := by decide +kernel
theorem dX8_isOpened_7 : decode cX8_isOpened 7 = .ok (.bipush 33, 2) := by decide +kernel
theorem dX8_isOpened_9 : decode cX8_isOpened 9 = .ok (.if_icmp .eq 11, 3) := by decide +kernel
theorem dX8_isOpened_12 : decode cX8_isOpened 12 = .ok (.iload_n 1, 1) := by decide +kernel
theorem dX8_isOpened_13 : decode cX8_isOpened 13 = .ok (.bipush 45, 2) := by decide +kernel
theorem dX8_isOpened_15 : decode cX8_isOpened 15 = .ok (.if_icmp .eq 5, 3) := by decide +kernel
theorem dX8_isOpened_18 : decode cX8_isOpened 18 = .ok (.iconst 0, 1) := by decide +kernel
theorem dX8_isOpened_19 : decode cX8_isOpened 19 = .ok (.ireturn, 1) := by decide +kernel
theorem dX8_isOpened_20 : decode cX8_isOpened 20 = .ok (.aload_n 0, 1) := by decide +kernel
theorem dX8_isOpened_21 : decode cX8_isOpened 21 = .ok (.dup, 1) := by decide +kernel
theorem dX8_isOpened_22 : decode cX8_isOpened 22 = .ok (.getfield 26, 3) := by decide +kernel
theorem dX8_isOpened_25 : decode cX8_isOpened 25 = .ok (.iconst 1, 1) := by decide +kernel
theorem dX8_isOpened_26 : decode cX8_isOpened 26 = .ok (.iadd, 1) := by decide +kernel
theorem dX8_isOpened_27 : decode cX8_isOpened 27 = .ok (.putfield 26, 3) := by decide +kernel
theorem dX8_isOpened_30 : decode cX8_isOpened 30 = .ok (.iload_n 1, 1) := by decide +kernel
theorem dX8_isOpened_31 : decode cX8_isOpened 31 = .ok (.bipush 40, 2) := by decide +kernel
theorem dX8_isOpened_33 : decode cX8_isOpened 33 = .ok (.if_icmp .ne 27, 3) := by decide +kernel
theorem dX8_isOpened_36 : decode cX8_isOpened 36 = .ok (.aload_n 0, 1) := by decide +kernel
theorem dX8_isOpened_37 : decode cX8_isOpened 37 = .ok (.iconst 0, 1) := by decide +kernel
theorem dX8_isOpened_38 : decode cX8_isOpened 38 = .ok (.iload_n 2, 1) := by decide +kernel
theorem dX8_isOpened_39 : decode cX8_isOpened 39 = .ok (.invokevirtual 39, 3) := by decide +kernel
theorem dX8_isOpened_42 : decode cX8_isOpened 42 = .ok (.ifCond .eq 16, 3) := by decide +kernel
theorem dX8_isOpened_45 : decode cX8_isOpened 45 = .ok (.aload_n 0, 1) := by decide +kernel
theorem dX8_isOpened_46 : decode cX8_isOpened 46 = .ok (.bipush 41, 2) := by decide +kernel
theorem dX8_isOpened_48 : decode cX8_isOpened 48 = .ok (.invokevirtual 35, 3) := by decide +kernel
theorem dX8_isOpened_51 : decode cX8_isOpened 51 = .ok (.ifCond .eq 7, 3) := by decide +kernel
theorem dX8_isOpened_54 : decode cX8_isOpened 54 = .ok (.iconst 1, 1) := by decide +kernel
theorem dX8_isOpened_55 : decode cX8_isOpened 55 = .ok (.goto 4, 3) := by decide +kernel
theorem dX8_isOpened_58 : decode cX8_isOpened 58 = .ok (.iconst 0, 1) := by decide +kernel
theorem dX8_isOpened_59 : decode cX8_isOpened 59 = .ok (.ireturn, 1) := by decide +kernel
theorem dX8_isOpened_60 : decode cX8_isOpened 60 = .ok (.aload_n 0, 1) := by decide +kernel
theorem dX8_isOpened_61 : decode cX8_isOpened 61 = .ok (.iload_n 2, 1) := by decide +kernel
theorem dX8_isOpened_62 : decode cX8_isOpened 62 = .ok (.invokevirtual 47, 3) := by decide +kernel
theorem dX8_isOpened_65 : decode cX8_isOpened 65 = .ok (.ifCond .ne 5, 3) := by decide +kernel
theorem dX8_isOpened_68 : decode cX8_isOpened 68 = .ok (.iconst 0, 1) := by decide +kernel
theorem dX8_isOpened_69 : decode cX8_isOpened 69 = .ok (.ireturn, 1) := by decide +kernel
theorem dX8_isOpened_70 : decode cX8_isOpened 70 = .ok (.aload_n 0, 1) := by decide +kernel
theorem dX8_isOpened_71 : decode cX8_isOpened 71 = .ok (.iload_n 1, 1) := by decide +kernel
theorem dX8_isOpened_72 : decode cX8_isOpened 72 = .ok (.bipush 33, 2) := by decide +kernel
theorem dX8_isOpened_74 : decode cX8_isOpened 74 = .ok (.if_icmp .ne 8, 3) := by decide +kernel
theorem dX8_isOpened_77 : decode cX8_isOpened 77 = .ok (.bipush (-33), 2) := by decide +kernel
theorem dX8_isOpened_79 : decode cX8_isOpened 79 = .ok (.goto 5, 3) := by decide +kernel
theorem dX8_isOpened_82 : decode cX8_isOpened 82 = .ok (.bipush (-126), 2) := by decide +kernel
theorem dX8_isOpened_84 : decode cX8_isOpened 84 = .ok (.invokevirtual 43, 3) := by decide +kernel
theorem dX8_isOpened_87 : decode cX8_isOpened 87 = .ok (.iconst 1, 1) := by decide +kernel
theorem dX8_isOpened_88 : decode cX8_isOpened 88 = .ok (.ireturn, 1) := by decide +kernel
theorem dX8_writeNumber_0 : decode cX8_writeNumber 0 = .ok (.iconst 0, 1) := by decide +kernel
theorem dX8_writeNumber_1 : decode cX8_writeNumber 1 = .ok (.istore_n 1, 1) := by decide +kernel
theorem dX8_writeNumber_2 : decode cX8_writeNumber 2 = .ok (.iconst 0, 1) := by decide +kernel
theorem dX8_writeNumber_3 : decode cX8_writeNumber 3 = .ok (.istore_n 2, 1) := by decide +kernel
theorem dX8_writeNumber_4 : decode cX8_writeNumber 4 = .ok (.iload_n 2, 1) := by decide +kernel
theorem dX8_writeNumber_5 : decode cX8_writeNumber 5 = .ok (.iconst 4, 1) := by decide +kernel
theorem dX8_writeNumber_6 : decode cX8_writeNumber 6 = .ok (.if_icmp .ge 63, 3) := by decide +kernel
theorem dX8_writeNumber_9 : decode cX8_writeNumber 9 = .ok (.aload_n 0, 1) := by decide +kernel
theorem dX8_writeNumber_10 : decode cX8_writeNumber 10 = .ok (.getfield 26, 3) := by decide +kernel
theorem dX8_writeNumber_13 : decode cX8_writeNumber 13 = .ok (.aload_n 0, 1) := by decide +kernel
theorem dX8_writeNumber_14 : decode cX8_writeNumber 14 = .ok (.getfield 18, 3) := by decide +kernel
theorem dX8_writeNumber_17 : decode cX8_writeNumber 17 = .ok (.if_icmp .ge 52, 3) := by decide +kernel
theorem dX8_writeNumber_20 : decode cX8_writeNumber 20 = .ok (.aload_n 0, 1) := by decide +kernel
theorem dX8_writeNumber_21 : decode cX8_writeNumber 21 = .ok (.getfield 9, 3) := by decide +kernel
theorem dX8_writeNumber_24 : decode cX8_writeNumber 24 = .ok (.aload_n 0, 1) := by decide +kernel
theorem dX8_writeNumber_25 : decode cX8_writeNumber 25 = .ok (.getfield 26, 3) := by decide +kernel
theorem dX8_writeNumber_28 : decode cX8_writeNumber 28 = .ok (.iaload, 1) := by decide +kernel
theorem dX8_writeNumber_29 : decode cX8_writeNumber 29 = .ok (.invokestatic 54, 3) := by decide +kernel
theorem dX8_writeNumber_32 : decode cX8_writeNumber 32 = .ok (.ifCond .eq 37, 3) := by decide +kernel
theorem dX8_writeNumber_35 : decode cX8_writeNumber 35 = .ok (.iload_n 1, 1) := by decide +kernel
theorem dX8_writeNumber_36 : decode cX8_writeNumber 36 = .ok (.bipush 10, 2) := by decide +kernel
theorem dX8_writeNumber_38 : decode cX8_writeNumber 38 = .ok (.imul, 1) := by decide +kernel
theorem dX8_writeNumber_39 : decode cX8_writeNumber 39 = .ok (.aload_n 0, 1) := by decide +kernel
theorem dX8_writeNumber_40 : decode cX8_writeNumber 40 = .ok (.getfield 9, 3) := by decide +kernel
theorem dX8_writeNumber_43 : decode cX8_writeNumber 43 = .ok (.aload_n 0, 1) := by decide +kernel
theorem dX8_writeNumber_44 : decode cX8_writeNumber 44 = .ok (.getfield 26, 3) := by decide +kernel
theorem dX8_writeNumber_47 : decode cX8_writeNumber 47 = .ok (.iaload, 1) := by decide +kernel
theorem dX8_writeNumber_48 : decode cX8_writeNumber 48 = .ok (.iadd, 1) := by decide +kernel
theorem dX8_writeNumber_49 : decode cX8_writeNumber 49 = .ok (.bipush 48, 2) := by decide +kernel
theorem dX8_writeNumber_51 : decode cX8_writeNumber 51 = .ok (.isub, 1) := by decide +kernel
theorem dX8_writeNumber_52 : decode cX8_writeNumber 52 = .ok (.istore_n 1, 1) := by decide +kernel
theorem dX8_writeNumber_53 : decode cX8_writeNumber 53 = .ok (.aload_n 0, 1) := by decide +kernel
theorem dX8_writeNumber_54 : decode cX8_writeNumber 54 = .ok (.dup, 1) := by decide +kernel
theorem dX8_writeNumber_55 : decode cX8_writeNumber 55 = .ok (.getfield 26, 3) := by decide +kernel
theorem dX8_writeNumber_58 : decode cX8_writeNumber 58 = .ok (.iconst 1, 1) := by decide +kernel
theorem dX8_writeNumber_59 : decode cX8_writeNumber 59 = .ok (.iadd, 1) := by decide +kernel
theorem dX8_writeNumber_60 : decode cX8_writeNumber 60 = .ok (.putfield 26, 3) := by decide +kernel
theorem dX8_writeNumber_63 : decode cX8_writeNumber 63 = .ok (.iinc 2 1, 3) := by decide +kernel
theorem dX8_writeNumber_66 : decode cX8_writeNumber 66 = .ok (.goto (-62), 3) := by decide +kernel
theorem dX8_writeNumber_69 : decode cX8_writeNumber 69 = .ok (.aload_n 0, 1) := by decide +kernel
theorem dX8_writeNumber_70 : decode cX8_writeNumber 70 = .ok (.iload_n 1, 1) := by decide +kernel
theorem dX8_writeNumber_71 : decode cX8_writeNumber 71 = .ok (.invokevirtual 43, 3) := by decide +kernel
theorem dX8_writeNumber_74 : decode cX8_writeNumber 74 = .ok (.return_, 1) := by decide +kernel
theorem dX8_takes_0 : decode cX8_takes 0 = .ok (.aload_n 0, 1) := by decide +kernel
theorem dX8_takes_1 : decode cX8_takes 1 = .ok (.getfield 26, 3) := by decide +kernel
theorem dX8_takes_4 : decode cX8_takes 4 = .ok (.aload_n 0, 1) := by decide +kernel
theorem dX8_takes_5 : decode cX8_takes 5 = .ok (.getfield 18, 3) := by decide +kernel
theorem dX8_takes_8 : decode cX8_takes 8 = .ok (.if_icmp .ge 16, 3) := by decide +kernel
theorem dX8_takes_11 : decode cX8_takes 11 = .ok (.aload_n 0, 1) := by decide +kernel
theorem dX8_takes_12 : decode cX8_takes 12 = .ok (.getfield 9, 3) := by decide +kernel
theorem dX8_takes_15 : decode cX8_takes 15 = .ok (.aload_n 0, 1) := by decide +kernel
theorem dX8_takes_16 : decode cX8_takes 16 = .ok (.getfield 26, 3) := by decide +kernel
theorem dX8_takes_19 : decode cX8_takes 19 = .ok (.iaload, 1) := by decide +kernel
theorem dX8_takes_20 : decode cX8_takes 20 = .ok (.iload_n 1, 1) := by decide +kernel
theorem dX8_takes_21 : decode cX8_takes 21 = .ok (.if_icmp .eq 5, 3) := by decide +kernel
theorem dX8_takes_24 : decode cX8_takes 24 = .ok (.iconst 0, 1) := by decide +kernel
theorem dX8_takes_25 : decode cX8_takes 25 = .ok (.ireturn, 1) := by decide +kernel
theorem dX8_takes_26 : decode cX8_takes 26 = .ok (.aload_n 0, 1) := by decide +kernel
theorem dX8_takes_27 : decode cX8_takes 27 = .ok (.dup, 1) := by decide +kernel
theorem dX8_takes_28 : decode cX8_takes 28 = .ok (.getfield 26, 3) := by decide +kernel
theorem dX8_takes_31 : decode cX8_takes 31 = .ok (.iconst 1, 1) := by decide +kernel
theorem dX8_takes_32 : decode cX8_takes 32 = .ok (.iadd, 1) := by decide +kernel
theorem dX8_takes_33 : decode cX8_takes 33 = .ok (.putfield 26, 3) := by decide +kernel
theorem dX8_takes_36 : decode cX8_takes 36 = .ok (.iconst 1, 1) := by decide +kernel
theorem dX8_takes_37 : decode cX8_takes 37 = .ok (.ireturn, 1) := by decide +kernel
theorem dX8_write_0 : decode cX8_write 0 = .ok (.aload_n 0, 1) := by decide +kernel
theorem dX8_write_1 : decode cX8_write 1 = .ok (.getfield 29, 3) := by decide +kernel
theorem dX8_write_4 : decode cX8_write 4 = .ok (.sipush 128, 3) := by decide +kernel
theorem dX8_write_7 : decode cX8_write 7 = .ok (.if_icmp .ge 23, 3) := by decide +kernel
theorem dX8_write_10 : decode cX8_write 10 = .ok (.aload_n 0, 1) := by decide +kernel
theorem dX8_write_11 : decode cX8_write 11 = .ok (.getfield 15, 3) := by decide +kernel
theorem dX8_write_14 : decode cX8_write 14 = .ok (.aload_n 0, 1) := by decide +kernel
theorem dX8_write_15 : decode cX8_write 15 = .ok (.getfield 29, 3) := by decide +kernel
theorem dX8_write_18 : decode cX8_write 18 = .ok (.iload_n 1, 1) := by decide +kernel
theorem dX8_write_19 : decode cX8_write 19 = .ok (.iastore, 1) := by decide +kernel
theorem dX8_write_20 : decode cX8_write 20 = .ok (.aload_n 0, 1) := by decide +kernel
theorem dX8_write_21 : decode cX8_write 21 = .ok (.dup, 1) := by decide +kernel
theorem dX8_write_22 : decode cX8_write 22 = .ok (.getfield 29, 3) := by decide +kernel
theorem dX8_write_25 : decode cX8_write 25 = .ok (.iconst 1, 1) := by decide +kernel
theorem dX8_write_26 : decode cX8_write 26 = .ok (.iadd, 1) := by decide +kernel
theorem dX8_write_27 : decode cX8_write 27 = .ok (.putfield 29, 3) := by decide +kernel
theorem dX8_write_30 : decode cX8_write 30 = .ok (.return_, 1) := by decide +kernel
theorem dX8_isDigit_0 : decode cX8_isDigit 0 = .ok (.iload_n 0, 1) := by decide +kernel
theorem dX8_isDigit_1 : decode cX8_isDigit 1 = .ok (.bipush 48, 2) := by decide +kernel
theorem dX8_isDigit_3 : decode cX8_isDigit 3 = .ok (.if_icmp .lt 13, 3) := by decide +kernel
theorem dX8_isDigit_6 : decode cX8_isDigit 6 = .ok (.iload_n 0, 1) := by decide +kernel
theorem dX8_isDigit_7 : decode cX8_isDigit 7 = .ok (.bipush 57, 2) := by decide +kernel
theorem dX8_isDigit_9 : decode cX8_isDigit 9 = .ok (.if_icmp .gt 7, 3) := by decide +kernel
theorem dX8_isDigit_12 : decode cX8_isDigit 12 = .ok (.iconst 1, 1) := by decide +kernel
theorem dX8_isDigit_13 : decode cX8_isDigit 13 = .ok (.goto 4, 3) := by decide +kernel
theorem dX8_isDigit_16 : decode cX8_isDigit 16 = .ok (.iconst 0, 1) := by decide +kernel
theorem dX8_isDigit_17 : decode cX8_isDigit 17 = .ok (.ireturn, 1) := by decide +kernel
theorem dX8_levelOf_0 : decode cX8_levelOf 0 = .ok (.iload_n 0, 1) := by decide +kernel
theorem dX8_levelOf_1 : decode cX8_levelOf 1 = .ok (.lookupswitch 101 #[(37, 99), (38, 93), (42, 99), (43, 97), (45, 97), (47, 99), (60, 95), (61, 95), (62, 95), (124, 91)], 91) := by decide +kernel
theorem dX8_levelOf_92 : decode cX8_levelOf 92 = .ok (.iconst 0, 1) := by decide +kernel
theorem dX8_levelOf_93 : decode cX8_levelOf 93 = .ok (.ireturn, 1) := by decide +kernel
theorem dX8_levelOf_94 : decode cX8_levelOf 94 = .ok (.iconst 1, 1) := by decide +kernel
theorem dX8_levelOf_95 : decode cX8_levelOf 95 = .ok (.ireturn, 1) := by decide +kernel
theorem dX8_levelOf_96 : decode cX8_levelOf 96 = .ok (.iconst 2, 1) := by decide +kernel
theorem dX8_levelOf_97 : decode cX8_levelOf 97 = .ok (.ireturn, 1) := by decide +kernel
theorem dX8_levelOf_98 : decode cX8_levelOf 98 = .ok (.iconst 3, 1) := by decide +kernel
theorem dX8_levelOf_99 : decode cX8_levelOf 99 = .ok (.ireturn, 1) := by decide +kernel
theorem dX8_levelOf_100 : decode cX8_levelOf 100 = .ok (.iconst 4, 1) := by decide +kernel
theorem dX8_levelOf_101 : decode cX8_levelOf 101 = .ok (.ireturn, 1) := by decide +kernel
theorem dX8_levelOf_102 : decode cX8_levelOf 102 = .ok (.iconst (-1), 1) := by decide +kernel
theorem dX8_levelOf_103 : decode cX8_levelOf 103 = .ok (.ireturn, 1) := by decide +kernel
theorem dX9_init_0 : decode cX9_init 0 = .ok (.aload_n 0, 1) := by decide +kernel
theorem dX9_init_1 : decode cX9_init 1 = .ok (.invokespecial 3, 3) := by decide +kernel
theorem dX9_init_4 : decode cX9_init 4 = .ok (.aload_n 0, 1) := by decide +kernel
theorem dX9_init_5 : decode cX9_init 5 = .ok (.bipush 8, 2) := by decide +kernel
theorem dX9_init_7 : decode cX9_init 7 = .ok (.newarray .int, 2) := by decide +kernel
theorem dX9_init_9 : decode cX9_init 9 = .ok (.putfield 9, 3) := by decide +kernel
theorem dX9_init_12 : decode cX9_init 12 = .ok (.aload_n 0, 1) := by decide +kernel
theorem dX9_init_13 : decode cX9_init 13 = .ok (.bipush 8, 2) := by decide +kernel
theorem dX9_init_15 : decode cX9_init 15 = .ok (.newarray .int, 2) := by decide +kernel
theorem dX9_init_17 : decode cX9_init 17 = .ok (.putfield 15, 3) := by decide +kernel
theorem dX9_init_20 : decode cX9_init 20 = .ok (.aload_n 0, 1) := by decide +kernel
theorem dX9_init_21 : decode cX9_init 21 = .ok (.bipush 8, 2) := by decide +kernel
theorem dX9_init_23 : decode cX9_init 23 = .ok (.newarray .int, 2) := by decide +kernel
theorem dX9_init_25 : decode cX9_init 25 = .ok (.putfield 18, 3) := by decide +kernel
theorem dX9_init_28 : decode cX9_init 28 = .ok (.aload_n 0, 1) := by decide +kernel
theorem dX9_init_29 : decode cX9_init 29 = .ok (.bipush 8, 2) := by decide +kernel
theorem dX9_init_31 : decode cX9_init 31 = .ok (.bipush 8, 2) := by decide +kernel
theorem dX9_init_33 : decode cX9_init 33 = .ok (.multianewarray 21 2, 4) := by decide +kernel
theorem dX9_init_37 : decode cX9_init 37 = .ok (.putfield 23, 3) := by decide +kernel
theorem dX9_init_40 : decode cX9_init 40 = .ok (.aload_n 0, 1) := by decide +kernel
theorem dX9_init_41 : decode cX9_init 41 = .ok (.bipush 8, 2) := by decide +kernel
theorem dX9_init_43 : decode cX9_init 43 = .ok (.bipush 8, 2) := by decide +kernel
theorem dX9_init_45 : decode cX9_init 45 = .ok (.multianewarray 21 2, 4) := by decide +kernel
theorem dX9_init_49 : decode cX9_init 49 = .ok (.putfield 26, 3) := by decide +kernel
theorem dX9_init_52 : decode cX9_init 52 = .ok (.aload_n 0, 1) := by decide +kernel
theorem dX9_init_53 : decode cX9_init 53 = .ok (.bipush 8, 2) := by decide +kernel
theorem dX9_init_55 : decode cX9_init 55 = .ok (.bipush 8, 2) := by decide +kernel
theorem dX9_init_57 : decode cX9_init 57 = .ok (.multianewarray 21 2, 4) := by decide +kernel
theorem dX9_init_61 : decode cX9_init 61 = .ok (.putfield 29, 3) := by decide +kernel
theorem dX9_init_64 : decode cX9_init 64 = .ok (.aload_n 0, 1) := by decide +kernel
theorem dX9_init_65 : decode cX9_init 65 = .ok (.aload_n 1, 1) := by decide +kernel
theorem dX9_init_66 : decode cX9_init 66 = .ok (.putfield 32, 3) := by decide +kernel
theorem dX9_init_69 : decode cX9_init 69 = .ok (.aload_n 0, 1) := by decide +kernel
theorem dX9_init_70 : decode cX9_init 70 = .ok (.aload_n 2, 1) := by decide +kernel
theorem dX9_init_71 : decode cX9_init 71 = .ok (.putfield 36, 3) := by decide +kernel
theorem dX9_init_74 : decode cX9_init 74 = .ok (.aload_n 0, 1) := by decide +kernel
theorem dX9_init_75 : decode cX9_init 75 = .ok (.aload_n 3, 1) := by decide +kernel
theorem dX9_init_76 : decode cX9_init 76 = .ok (.putfield 40, 3) := by decide +kernel
theorem dX9_init_79 : decode cX9_init 79 = .ok (.return_, 1) := by decide +kernel
theorem dX9_ready_0 : decode cX9_ready 0 = .ok (.iconst 0, 1) := by decide +kernel
theorem dX9_ready_1 : decode cX9_ready 1 = .ok (.istore_n 1, 1) := by decide +kernel
theorem dX9_ready_2 : decode cX9_ready 2 = .ok (.iload_n 1, 1) := by decide +kernel
theorem dX9_ready_3 : decode cX9_ready 3 = .ok (.aload_n 0, 1) := by decide +kernel
theorem dX9_ready_4 : decode cX9_ready 4 = .ok (.getfield 32, 3) := by decide +kernel
theorem dX9_ready_7 : decode cX9_ready 7 = .ok (.invokevirtual 44, 3) := by decide +kernel
theorem dX9_ready_10 : decode cX9_ready 10 = .ok (.if_icmp .ge 39, 3) := by decide +kernel
theorem dX9_ready_13 : decode cX9_ready 13 = .ok (.aload_n 0, 1) := by decide +kernel
theorem dX9_ready_14 : decode cX9_ready 14 = .ok (.getfield 15, 3) := by decide +kernel
theorem dX9_ready_17 : decode cX9_ready 17 = .ok (.iload_n 1, 1) := by decide +kernel
theorem dX9_ready_18 : decode cX9_ready 18 = .ok (.aload_n 0, 1) := by decide +kernel
theorem dX9_ready_19 : decode cX9_ready 19 = .ok (.getfield 32, 3) := by decide +kernel
theorem dX9_ready_22 : decode cX9_ready 22 = .ok (.iload_n 1, 1) := by decide +kernel
theorem dX9_ready_23 : decode cX9_ready 23 = .ok (.iconst 4, 1) := by decide +kernel
theorem dX9_ready_24 : decode cX9_ready 24 = .ok (.invokevirtual 50, 3) := by decide +kernel
theorem dX9_ready_27 : decode cX9_ready 27 = .ok (.iastore, 1) := by decide +kernel
theorem dX9_ready_28 : decode cX9_ready 28 = .ok (.aload_n 0, 1) := by decide +kernel
theorem dX9_ready_29 : decode cX9_ready 29 = .ok (.getfield 18, 3) := by decide +kernel
theorem dX9_ready_32 : decode cX9_ready 32 = .ok (.iload_n 1, 1) := by decide +kernel
theorem dX9_ready_33 : decode cX9_ready 33 = .ok (.aload_n 0, 1) := by decide +kernel
theorem dX9_ready_34 : decode cX9_ready 34 = .ok (.getfield 32, 3) := by decide +kernel
theorem dX9_ready_37 : decode cX9_ready 37 = .ok (.iload_n 1, 1) := by decide +kernel
theorem dX9_ready_38 : decode cX9_ready 38 = .ok (.iconst 5, 1) := by decide +kernel
theorem dX9_ready_39 : decode cX9_ready 39 = .ok (.invokevirtual 50, 3) := by decide +kernel
theorem dX9_ready_42 : decode cX9_ready 42 = .ok (.iastore, 1) := by decide +kernel
theorem dX9_ready_43 : decode cX9_ready 43 = .ok (.iinc 1 1, 3) := by decide +kernel
theorem dX9_ready_46 : decode cX9_ready 46 = .ok (.goto (-44), 3) := by decide +kernel
theorem dX9_ready_49 : decode cX9_ready 49 = .ok (.aload_n 0, 1) := by decide +kernel
theorem dX9_ready_50 : decode cX9_ready 50 = .ok (.aload_n 0, 1) := by decide +kernel
theorem dX9_ready_51 : decode cX9_ready 51 = .ok (.getfield 32, 3) := by decide +kernel
theorem dX9_ready_54 : decode cX9_ready 54 = .ok (.iconst 0, 1) := by decide +kernel
theorem dX9_ready_55 : decode cX9_ready 55 = .ok (.bipush 6, 2) := by decide +kernel
theorem dX9_ready_57 : decode cX9_ready 57 = .ok (.invokevirtual 50, 3) := by decide +kernel
theorem dX9_ready_60 : decode cX9_ready 60 = .ok (.putfield 54, 3) := by decide +kernel
theorem dX9_ready_63 : decode cX9_ready 63 = .ok (.aload_n 0, 1) := by decide +kernel
theorem dX9_ready_64 : decode cX9_ready 64 = .ok (.aload_n 0, 1) := by decide +kernel
theorem dX9_ready_65 : decode cX9_ready 65 = .ok (.getfield 32, 3) := by decide +kernel
theorem dX9_ready_68 : decode cX9_ready 68 = .ok (.iconst 0, 1) := by decide +kernel
theorem dX9_ready_69 : decode cX9_ready 69 = .ok (.bipush 7, 2) := by decide +kernel
theorem dX9_ready_71 : decode cX9_ready 71 = .ok (.invokevirtual 50, 3) := by decide +kernel
theorem dX9_ready_74 : decode cX9_ready 74 = .ok (.putfield 58, 3) := by decide +kernel
theorem dX9_ready_77 : decode cX9_ready 77 = .ok (.aload_n 0, 1) := by decide +kernel
theorem dX9_ready_78 : decode cX9_ready 78 = .ok (.iconst (-1), 1) := by decide +kernel
theorem dX9_ready_79 : decode cX9_ready 79 = .ok (.putfield 61, 3) := by decide +kernel
theorem dX9_ready_82 : decode cX9_ready 82 = .ok (.aload_n 0, 1) := by decide +kernel
theorem dX9_ready_83 : decode cX9_ready 83 = .ok (.invokevirtual 64, 3) := by decide +kernel
theorem dX9_ready_86 : decode cX9_ready 86 = .ok (.return_, 1) := by decide +kernel
theorem dX9_compare_0 : decode cX9_compare 0 = .ok (.iconst 0, 1) := by decide +kernel
theorem dX9_compare_1 : decode cX9_compare 1 = .ok (.istore_n 1, 1) := by decide +kernel
theorem dX9_compare_2 : decode cX9_compare 2 = .ok (.iload_n 1, 1) := by decide +kernel
theorem dX9_compare_3 : decode cX9_compare 3 = .ok (.aload_n 0, 1) := by decide +kernel
theorem dX9_compare_4 : decode cX9_compare 4 = .ok (.getfield 32, 3) := by decide +kernel
theorem dX9_compare_7 : decode cX9_compare 7 = .ok (.invokevirtual 44, 3) := by decide +kernel
theorem dX9_compare_10 : decode cX9_compare 10 = .ok (.if_icmp .ge 66, 3) := by decide +kernel
theorem dX9_compare_13 : decode cX9_compare 13 = .ok (.iconst 0, 1) := by decide +kernel
theorem dX9_compare_14 : decode cX9_compare 14 = .ok (.istore_n 2, 1) := by decide +kernel
theorem dX9_compare_15 : decode cX9_compare 15 = .ok (.iload_n 2, 1) := by decide +kernel
theorem dX9_compare_16 : decode cX9_compare 16 = .ok (.aload_n 0, 1) := by decide +kernel
theorem dX9_compare_17 : decode cX9_compare 17 = .ok (.getfield 32, 3) := by decide +kernel
theorem dX9_compare_20 : decode cX9_compare 20 = .ok (.invokevirtual 44, 3) := by decide +kernel
theorem dX9_compare_23 : decode cX9_compare 23 = .ok (.if_icmp .ge 47, 3) := by decide +kernel
theorem dX9_compare_26 : decode cX9_compare 26 = .ok (.aload_n 0, 1) := by decide +kernel
theorem dX9_compare_27 : decode cX9_compare 27 = .ok (.getfield 23, 3) := by decide +kernel
theorem dX9_compare_30 : decode cX9_compare 30 = .ok (.iload_n 1, 1) := by decide +kernel
theorem dX9_compare_31 : decode cX9_compare 31 = .ok (.aaload, 1) := by decide +kernel
theorem dX9_compare_32 : decode cX9_compare 32 = .ok (.iload_n 2, 1) := by decide +kernel
theorem dX9_compare_33 : decode cX9_compare 33 = .ok (.aload_n 0, 1) := by decide +kernel
theorem dX9_compare_34 : decode cX9_compare 34 = .ok (.iload_n 1, 1) := by decide +kernel
theorem dX9_compare_35 : decode cX9_compare 35 = .ok (.iload_n 2, 1) := by decide +kernel
theorem dX9_compare_36 : decode cX9_compare 36 = .ok (.iconst 0, 1) := by decide +kernel
theorem dX9_compare_37 : decode cX9_compare 37 = .ok (.invokevirtual 67, 3) := by decide +kernel
theorem dX9_compare_40 : decode cX9_compare 40 = .ok (.aload_n 0, 1) := by decide +kernel
theorem dX9_compare_41 : decode cX9_compare 41 = .ok (.iload_n 1, 1) := by decide +kernel
theorem dX9_compare_42 : decode cX9_compare 42 = .ok (.iload_n 2, 1) := by decide +kernel
theorem dX9_compare_43 : decode cX9_compare 43 = .ok (.iconst 1, 1) := by decide +kernel
theorem dX9_compare_44 : decode cX9_compare 44 = .ok (.invokevirtual 67, 3) := by decide +kernel
theorem dX9_compare_47 : decode cX9_compare 47 = .ok (.iadd, 1) := by decide +kernel
theorem dX9_compare_48 : decode cX9_compare 48 = .ok (.iastore, 1) := by decide +kernel
theorem dX9_compare_49 : decode cX9_compare 49 = .ok (.aload_n 0, 1) := by decide +kernel
theorem dX9_compare_50 : decode cX9_compare 50 = .ok (.getfield 26, 3) := by decide +kernel
theorem dX9_compare_53 : decode cX9_compare 53 = .ok (.iload_n 1, 1) := by decide +kernel
theorem dX9_compare_54 : decode cX9_compare 54 = .ok (.aaload, 1) := by decide +kernel
theorem dX9_compare_55 : decode cX9_compare 55 = .ok (.iload_n 2, 1) := by decide +kernel
theorem dX9_compare_56 : decode cX9_compare 56 = .ok (.aload_n 0, 1) := by decide +kernel
theorem dX9_compare_57 : decode cX9_compare 57 = .ok (.iload_n 1, 1) := by decide +kernel
theorem dX9_compare_58 : decode cX9_compare 58 = .ok (.iload_n 2, 1) := by decide +kernel
theorem dX9_compare_59 : decode cX9_compare 59 = .ok (.iconst 2, 1) := by decide +kernel
theorem dX9_compare_60 : decode cX9_compare 60 = .ok (.invokevirtual 67, 3) := by decide +kernel
theorem dX9_compare_63 : decode cX9_compare 63 = .ok (.iastore, 1) := by decide +kernel
theorem dX9_compare_64 : decode cX9_compare 64 = .ok (.iinc 2 1, 3) := by decide +kernel
theorem dX9_compare_67 : decode cX9_compare 67 = .ok (.goto (-52), 3) := by decide +kernel
theorem dX9_compare_70 : decode cX9_compare 70 = .ok (.iinc 1 1, 3) := by decide +kernel
theorem dX9_compare_73 : decode cX9_compare 73 = .ok (.goto (-71), 3) := by decide +kernel
theorem dX9_compare_76 : decode cX9_compare 76 = .ok (.return_, 1) := by decide +kernel
theorem dX9_differing_0 : decode cX9_differing 0 = .ok (.aload_n 0, 1) := by decide +kernel
theorem dX9_differing_1 : decode cX9_differing 1 = .ok (.getfield 32, 3) := by decide +kernel
theorem dX9_differing_4 : decode cX9_differing 4 = .ok (.iload_n 1, 1) := by decide +kernel
theorem dX9_differing_5 : decode cX9_differing 5 = .ok (.iload_n 3, 1) := by decide +kernel
theorem dX9_differing_6 : decode cX9_differing 6 = .ok (.invokevirtual 50, 3) := by decide +kernel
theorem dX9_differing_9 : decode cX9_differing 9 = .ok (.aload_n 0, 1) := by decide +kernel
theorem dX9_differing_10 : decode cX9_differing 10 = .ok (.getfield 32, 3) := by decide +kernel
theorem dX9_differing_13 : decode cX9_differing 13 = .ok (.iload_n 2, 1) := by decide +kernel
theorem dX9_differing_14 : decode cX9_differing 14 = .ok (.iload_n 3, 1) := by decide +kernel
theorem dX9_differing_15 : decode cX9_differing 15 = .ok (.invokevirtual 50, 3) := by decide +kernel
theorem dX9_differing_18 : decode cX9_differing 18 = .ok (.isub, 1) := by decide +kernel
theorem dX9_differing_19 : decode cX9_differing 19 = .ok (.invokestatic 71, 3) := by decide +kernel
theorem dX9_differing_22 : decode cX9_differing 22 = .ok (.ireturn, 1) := by decide +kernel
theorem dX9_slipAt_0 : decode cX9_slipAt 0 = .ok (.aload_n 0, 1) := by decide +kernel
theorem dX9_slipAt_1 : decode cX9_slipAt 1 = .ok (.iload_n 1, 1) := by decide +kernel
theorem dX9_slipAt_2 : decode cX9_slipAt 2 = .ok (.putfield 77, 3) := by decide +kernel
theorem dX9_slipAt_5 : decode cX9_slipAt 5 = .ok (.aload_n 0, 1) := by decide +kernel
theorem dX9_slipAt_6 : decode cX9_slipAt 6 = .ok (.iload_n 2, 1) := by decide +kernel
theorem dX9_slipAt_7 : decode cX9_slipAt 7 = .ok (.putfield 61, 3) := by decide +kernel
theorem dX9_slipAt_10 : decode cX9_slipAt 10 = .ok (.aload_n 0, 1) := by decide +kernel
theorem dX9_slipAt_11 : decode cX9_slipAt 11 = .ok (.iload_n 3, 1) := by decide +kernel
theorem dX9_slipAt_12 : decode cX9_slipAt 12 = .ok (.putfield 80, 3) := by decide +kernel
theorem dX9_slipAt_15 : decode cX9_slipAt 15 = .ok (.return_, 1) := by decide +kernel
theorem dX9_leadBy_0 : decode cX9_leadBy 0 = .ok (.aload_n 0, 1) := by decide +kernel
theorem dX9_leadBy_1 : decode cX9_leadBy 1 = .ok (.iload_n 1, 1) := by decide +kernel
theorem dX9_leadBy_2 : decode cX9_leadBy 2 = .ok (.putfield 54, 3) := by decide +kernel
theorem dX9_leadBy_5 : decode cX9_leadBy 5 = .ok (.return_, 1) := by decide +kernel
theorem dX9_quicken_0 : decode cX9_quicken 0 = .ok (.aload_n 0, 1) := by decide +kernel
theorem dX9_quicken_1 : decode cX9_quicken 1 = .ok (.getfield 32, 3) := by decide +kernel
theorem dX9_quicken_4 : decode cX9_quicken 4 = .ok (.iload_n 1, 1) := by decide +kernel
theorem dX9_quicken_5 : decode cX9_quicken 5 = .ok (.invokevirtual 83, 3) := by decide +kernel
theorem dX9_quicken_8 : decode cX9_quicken 8 = .ok (.ifCond .eq 10, 3) := by decide +kernel
theorem dX9_quicken_11 : decode cX9_quicken 11 = .ok (.aload_n 0, 1) := by decide +kernel
theorem dX9_quicken_12 : decode cX9_quicken 12 = .ok (.getfield 15, 3) := by decide +kernel
theorem dX9_quicken_15 : decode cX9_quicken 15 = .ok (.iload_n 1, 1) := by decide +kernel
theorem dX9_quicken_16 : decode cX9_quicken 16 = .ok (.iload_n 2, 1) := by decide +kernel
theorem dX9_quicken_17 : decode cX9_quicken 17 = .ok (.iastore, 1) := by decide +kernel
theorem dX9_quicken_18 : decode cX9_quicken 18 = .ok (.return_, 1) := by decide +kernel
theorem dX9_delay_0 : decode cX9_delay 0 = .ok (.aload_n 0, 1) := by decide +kernel
theorem dX9_delay_1 : decode cX9_delay 1 = .ok (.getfield 32, 3) := by decide +kernel
theorem dX9_delay_4 : decode cX9_delay 4 = .ok (.iload_n 1, 1) := by decide +kernel
theorem dX9_delay_5 : decode cX9_delay 5 = .ok (.invokevirtual 83, 3) := by decide +kernel
theorem dX9_delay_8 : decode cX9_delay 8 = .ok (.ifCond .eq 10, 3) := by decide +kernel
theorem dX9_delay_11 : decode cX9_delay 11 = .ok (.aload_n 0, 1) := by decide +kernel
theorem dX9_delay_12 : decode cX9_delay 12 = .ok (.getfield 18, 3) := by decide +kernel
theorem dX9_delay_15 : decode cX9_delay 15 = .ok (.iload_n 1, 1) := by decide +kernel
theorem dX9_delay_16 : decode cX9_delay 16 = .ok (.iload_n 2, 1) := by decide +kernel
theorem dX9_delay_17 : decode cX9_delay 17 = .ok (.iastore, 1) := by decide +kernel
theorem dX9_delay_18 : decode cX9_delay 18 = .ok (.return_, 1) := by decide +kernel
theorem dX9_think_0 : decode cX9_think 0 = .ok (.aload_n 0, 1) := by decide +kernel
theorem dX9_think_1 : decode cX9_think 1 = .ok (.invokevirtual 87, 3) := by decide +kernel
theorem dX9_think_4 : decode cX9_think 4 = .ok (.iconst 0, 1) := by decide +kernel
theorem dX9_think_5 : decode cX9_think 5 = .ok (.istore_n 2, 1) := by decide +kernel
theorem dX9_think_6 : decode cX9_think 6 = .ok (.iload_n 2, 1) := by decide +kernel
theorem dX9_think_7 : decode cX9_think 7 = .ok (.iload_n 1, 1) := by decide +kernel
theorem dX9_think_8 : decode cX9_think 8 = .ok (.aload_n 0, 1) := by decide +kernel
theorem dX9_think_9 : decode cX9_think 9 = .ok (.getfield 40, 3) := by decide +kernel
theorem dX9_think_12 : decode cX9_think 12 = .ok (.invokevirtual 90, 3) := by decide +kernel
theorem dX9_think_15 : decode cX9_think 15 = .ok (.invokestatic 95, 3) := by decide +kernel
theorem dX9_think_18 : decode cX9_think 18 = .ok (.if_icmp .ge 21, 3) := by decide +kernel
theorem dX9_think_21 : decode cX9_think 21 = .ok (.aload_n 0, 1) := by decide +kernel
theorem dX9_think_22 : decode cX9_think 22 = .ok (.aload_n 0, 1) := by decide +kernel
theorem dX9_think_23 : decode cX9_think 23 = .ok (.getfield 40, 3) := by decide +kernel
theorem dX9_think_26 : decode cX9_think 26 = .ok (.iload_n 2, 1) := by decide +kernel
theorem dX9_think_27 : decode cX9_think 27 = .ok (.invokevirtual 98, 3) := by decide +kernel
theorem dX9_think_30 : decode cX9_think 30 = .ok (.invokevirtual 101, 3) := by decide +kernel
theorem dX9_think_33 : decode cX9_think 33 = .ok (.iinc 2 1, 3) := by decide +kernel
theorem dX9_think_36 : decode cX9_think 36 = .ok (.goto (-30), 3) := by decide +kernel
theorem dX9_think_39 : decode cX9_think 39 = .ok (.return_, 1) := by decide +kernel
theorem dX9_still_0 : decode cX9_still 0 = .ok (.iconst 0, 1) := by decide +kernel
theorem dX9_still_1 : decode cX9_still 1 = .ok (.istore_n 1, 1) := by decide +kernel
theorem dX9_still_2 : decode cX9_still 2 = .ok (.iload_n 1, 1) := by decide +kernel
theorem dX9_still_3 : decode cX9_still 3 = .ok (.bipush 8, 2) := by decide +kernel
theorem dX9_still_5 : decode cX9_still 5 = .ok (.if_icmp .ge 16, 3) := by decide +kernel
theorem dX9_still_8 : decode cX9_still 8 = .ok (.aload_n 0, 1) := by decide +kernel
theorem dX9_still_9 : decode cX9_still 9 = .ok (.getfield 9, 3) := by decide +kernel
theorem dX9_still_12 : decode cX9_still 12 = .ok (.iload_n 1, 1) := by decide +kernel
theorem dX9_still_13 : decode cX9_still 13 = .ok (.iconst 0, 1) := by decide +kernel
theorem dX9_still_14 : decode cX9_still 14 = .ok (.iastore, 1) := by decide +kernel
theorem dX9_still_15 : decode cX9_still 15 = .ok (.iinc 1 1, 3) := by decide +kernel
theorem dX9_still_18 : decode cX9_still 18 = .ok (.goto (-16), 3) := by decide +kernel
theorem dX9_still_21 : decode cX9_still 21 = .ok (.return_, 1) := by decide +kernel
theorem dX9_step_0 : decode cX9_step 0 = .ok (.iconst 0, 1) := by decide +kernel
theorem dX9_step_1 : decode cX9_step 1 = .ok (.istore_n 2, 1) := by decide +kernel
theorem dX9_step_2 : decode cX9_step 2 = .ok (.iload_n 2, 1) := by decide +kernel
theorem dX9_step_3 : decode cX9_step 3 = .ok (.aload_n 0, 1) := by decide +kernel
theorem dX9_step_4 : decode cX9_step 4 = .ok (.getfield 32, 3) := by decide +kernel
theorem dX9_step_7 : decode cX9_step 7 = .ok (.invokevirtual 44, 3) := by decide +kernel
theorem dX9_step_10 : decode cX9_step 10 = .ok (.if_icmp .ge 24, 3) := by decide +kernel
theorem dX9_step_13 : decode cX9_step 13 = .ok (.aload_n 0, 1) := by decide +kernel
theorem dX9_step_14 : decode cX9_step 14 = .ok (.getfield 9, 3) := by decide +kernel
theorem dX9_step_17 : decode cX9_step 17 = .ok (.iload_n 2, 1) := by decide +kernel
theorem dX9_step_18 : decode cX9_step 18 = .ok (.dup2, 1) := by decide +kernel
theorem dX9_step_19 : decode cX9_step 19 = .ok (.iaload, 1) := by decide +kernel
theorem dX9_step_20 : decode cX9_step 20 = .ok (.aload_n 0, 1) := by decide +kernel
theorem dX9_step_21 : decode cX9_step 21 = .ok (.getfield 15, 3) := by decide +kernel
theorem dX9_step_24 : decode cX9_step 24 = .ok (.iload_n 2, 1) := by decide +kernel
theorem dX9_step_25 : decode cX9_step 25 = .ok (.iaload, 1) := by decide +kernel
theorem dX9_step_26 : decode cX9_step 26 = .ok (.iadd, 1) := by decide +kernel
theorem dX9_step_27 : decode cX9_step 27 = .ok (.iastore, 1) := by decide +kernel
theorem dX9_step_28 : decode cX9_step 28 = .ok (.iinc 2 1, 3) := by decide +kernel
theorem dX9_step_31 : decode cX9_step 31 = .ok (.goto (-29), 3) := by decide +kernel
theorem dX9_step_34 : decode cX9_step 34 = .ok (.iload_n 1, 1) := by decide +kernel
theorem dX9_step_35 : decode cX9_step 35 = .ok (.iconst 4, 1) := by decide +kernel
theorem dX9_step_36 : decode cX9_step 36 = .ok (.if_icmp .ne 53, 3) := by decide +kernel
theorem dX9_step_39 : decode cX9_step 39 = .ok (.aload_n 0, 1) := by decide +kernel
theorem dX9_step_40 : decode cX9_step 40 = .ok (.getfield 32, 3) := by decide +kernel
theorem dX9_step_43 : decode cX9_step 43 = .ok (.aload_n 0, 1) := by decide +kernel
theorem dX9_step_44 : decode cX9_step 44 = .ok (.getfield 54, 3) := by decide +kernel
theorem dX9_step_47 : decode cX9_step 47 = .ok (.invokevirtual 83, 3) := by decide +kernel
theorem dX9_step_50 : decode cX9_step 50 = .ok (.ifCond .eq 39, 3) := by decide +kernel
theorem dX9_step_53 : decode cX9_step 53 = .ok (.aload_n 0, 1) := by decide +kernel
theorem dX9_step_54 : decode cX9_step 54 = .ok (.getfield 9, 3) := by decide +kernel
theorem dX9_step_57 : decode cX9_step 57 = .ok (.aload_n 0, 1) := by decide +kernel
theorem dX9_step_58 : decode cX9_step 58 = .ok (.getfield 54, 3) := by decide +kernel
theorem dX9_step_61 : decode cX9_step 61 = .ok (.iaload, 1) := by decide +kernel
theorem dX9_step_62 : decode cX9_step 62 = .ok (.istore_n 2, 1) := by decide +kernel
theorem dX9_step_63 : decode cX9_step 63 = .ok (.iconst 0, 1) := by decide +kernel
theorem dX9_step_64 : decode cX9_step 64 = .ok (.istore_n 3, 1) := by decide +kernel
theorem dX9_step_65 : decode cX9_step 65 = .ok (.iload_n 3, 1) := by decide +kernel
theorem dX9_step_66 : decode cX9_step 66 = .ok (.aload_n 0, 1) := by decide +kernel
theorem dX9_step_67 : decode cX9_step 67 = .ok (.getfield 32, 3) := by decide +kernel
theorem dX9_step_70 : decode cX9_step 70 = .ok (.invokevirtual 44, 3) := by decide +kernel
theorem dX9_step_73 : decode cX9_step 73 = .ok (.if_icmp .ge 16, 3) := by decide +kernel
theorem dX9_step_76 : decode cX9_step 76 = .ok (.aload_n 0, 1) := by decide +kernel
theorem dX9_step_77 : decode cX9_step 77 = .ok (.getfield 9, 3) := by decide +kernel
theorem dX9_step_80 : decode cX9_step 80 = .ok (.iload_n 3, 1) := by decide +kernel
theorem dX9_step_81 : decode cX9_step 81 = .ok (.iload_n 2, 1) := by decide +kernel
theorem dX9_step_82 : decode cX9_step 82 = .ok (.iastore, 1) := by decide +kernel
theorem dX9_step_83 : decode cX9_step 83 = .ok (.iinc 3 1, 3) := by decide +kernel
theorem dX9_step_86 : decode cX9_step 86 = .ok (.goto (-21), 3) := by decide +kernel
theorem dX9_step_89 : decode cX9_step 89 = .ok (.return_, 1) := by decide +kernel
theorem dX9_offOf_0 : decode cX9_offOf 0 = .ok (.aload_n 0, 1) := by decide +kernel
theorem dX9_offOf_1 : decode cX9_offOf 1 = .ok (.getfield 32, 3) := by decide +kernel
theorem dX9_offOf_4 : decode cX9_offOf 4 = .ok (.iload_n 1, 1) := by decide +kernel
theorem dX9_offOf_5 : decode cX9_offOf 5 = .ok (.invokevirtual 83, 3) := by decide +kernel
theorem dX9_offOf_8 : decode cX9_offOf 8 = .ok (.ifCond .eq 19, 3) := by decide +kernel
theorem dX9_offOf_11 : decode cX9_offOf 11 = .ok (.aload_n 0, 1) := by decide +kernel
theorem dX9_offOf_12 : decode cX9_offOf 12 = .ok (.getfield 9, 3) := by decide +kernel
theorem dX9_offOf_15 : decode cX9_offOf 15 = .ok (.iload_n 1, 1) := by decide +kernel
theorem dX9_offOf_16 : decode cX9_offOf 16 = .ok (.iaload, 1) := by decide +kernel
theorem dX9_offOf_17 : decode cX9_offOf 17 = .ok (.aload_n 0, 1) := by decide +kernel
theorem dX9_offOf_18 : decode cX9_offOf 18 = .ok (.getfield 18, 3) := by decide +kernel
theorem dX9_offOf_21 : decode cX9_offOf 21 = .ok (.iload_n 1, 1) := by decide +kernel
theorem dX9_offOf_22 : decode cX9_offOf 22 = .ok (.iaload, 1) := by decide +kernel
theorem dX9_offOf_23 : decode cX9_offOf 23 = .ok (.isub, 1) := by decide +kernel
theorem dX9_offOf_24 : decode cX9_offOf 24 = .ok (.goto 4, 3) := by decide +kernel
theorem dX9_offOf_27 : decode cX9_offOf 27 = .ok (.iconst 0, 1) := by decide +kernel
theorem dX9_offOf_28 : decode cX9_offOf 28 = .ok (.ireturn, 1) := by decide +kernel
theorem dX9_between_0 : decode cX9_between 0 = .ok (.aload_n 0, 1) := by decide +kernel
theorem dX9_between_1 : decode cX9_between 1 = .ok (.iload_n 1, 1) := by decide +kernel
theorem dX9_between_2 : decode cX9_between 2 = .ok (.invokevirtual 105, 3) := by decide +kernel
theorem dX9_between_5 : decode cX9_between 5 = .ok (.aload_n 0, 1) := by decide +kernel
theorem dX9_between_6 : decode cX9_between 6 = .ok (.iload_n 2, 1) := by decide +kernel
theorem dX9_between_7 : decode cX9_between 7 = .ok (.invokevirtual 105, 3) := by decide +kernel
theorem dX9_between_10 : decode cX9_between 10 = .ok (.isub, 1) := by decide +kernel
theorem dX9_between_11 : decode cX9_between 11 = .ok (.invokestatic 71, 3) := by decide +kernel
theorem dX9_between_14 : decode cX9_between 14 = .ok (.ireturn, 1) := by decide +kernel
theorem dX9_widest_0 : decode cX9_widest 0 = .ok (.iconst 0, 1) := by decide +kernel
theorem dX9_widest_1 : decode cX9_widest 1 = .ok (.istore_n 1, 1) := by decide +kernel
theorem dX9_widest_2 : decode cX9_widest 2 = .ok (.iconst 0, 1) := by decide +kernel
theorem dX9_widest_3 : decode cX9_widest 3 = .ok (.istore_n 2, 1) := by decide +kernel
theorem dX9_widest_4 : decode cX9_widest 4 = .ok (.iload_n 2, 1) := by decide +kernel
theorem dX9_widest_5 : decode cX9_widest 5 = .ok (.aload_n 0, 1) := by decide +kernel
theorem dX9_widest_6 : decode cX9_widest 6 = .ok (.getfield 32, 3) := by decide +kernel
theorem dX9_widest_9 : decode cX9_widest 9 = .ok (.invokevirtual 44, 3) := by decide +kernel
theorem dX9_widest_12 : decode cX9_widest 12 = .ok (.if_icmp .ge 41, 3) := by decide +kernel
theorem dX9_widest_15 : decode cX9_widest 15 = .ok (.iload_n 2, 1) := by decide +kernel
theorem dX9_widest_16 : decode cX9_widest 16 = .ok (.iconst 1, 1) := by decide +kernel
theorem dX9_widest_17 : decode cX9_widest 17 = .ok (.iadd, 1) := by decide +kernel
theorem dX9_widest_18 : decode cX9_widest 18 = .ok (.istore_n 3, 1) := by decide +kernel
theorem dX9_widest_19 : decode cX9_widest 19 = .ok (.iload_n 3, 1) := by decide +kernel
theorem dX9_widest_20 : decode cX9_widest 20 = .ok (.aload_n 0, 1) := by decide +kernel
theorem dX9_widest_21 : decode cX9_widest 21 = .ok (.getfield 32, 3) := by decide +kernel
theorem dX9_widest_24 : decode cX9_widest 24 = .ok (.invokevirtual 44, 3) := by decide +kernel
theorem dX9_widest_27 : decode cX9_widest 27 = .ok (.if_icmp .ge 20, 3) := by decide +kernel
theorem dX9_widest_30 : decode cX9_widest 30 = .ok (.iload_n 1, 1) := by decide +kernel
theorem dX9_widest_31 : decode cX9_widest 31 = .ok (.aload_n 0, 1) := by decide +kernel
theorem dX9_widest_32 : decode cX9_widest 32 = .ok (.iload_n 2, 1) := by decide +kernel
theorem dX9_widest_33 : decode cX9_widest 33 = .ok (.iload_n 3, 1) := by decide +kernel
theorem dX9_widest_34 : decode cX9_widest 34 = .ok (.invokevirtual 108, 3) := by decide +kernel
theorem dX9_widest_37 : decode cX9_widest 37 = .ok (.invokestatic 111, 3) := by decide +kernel
theorem dX9_widest_40 : decode cX9_widest 40 = .ok (.istore_n 1, 1) := by decide +kernel
theorem dX9_widest_41 : decode cX9_widest 41 = .ok (.iinc 3 1, 3) := by decide +kernel
theorem dX9_widest_44 : decode cX9_widest 44 = .ok (.goto (-25), 3) := by decide +kernel
theorem dX9_widest_47 : decode cX9_widest 47 = .ok (.iinc 2 1, 3) := by decide +kernel
theorem dX9_widest_50 : decode cX9_widest 50 = .ok (.goto (-46), 3) := by decide +kernel
theorem dX9_widest_53 : decode cX9_widest 53 = .ok (.iload_n 1, 1) := by decide +kernel
theorem dX9_widest_54 : decode cX9_widest 54 = .ok (.ireturn, 1) := by decide +kernel
theorem dX9_widestTwo_0 : decode cX9_widestTwo 0 = .ok (.iconst (-1), 1) := by decide +kernel
theorem dX9_widestTwo_1 : decode cX9_widestTwo 1 = .ok (.istore_n 1, 1) := by decide +kernel
theorem dX9_widestTwo_2 : decode cX9_widestTwo 2 = .ok (.bipush (-2), 2) := by decide +kernel
theorem dX9_widestTwo_4 : decode cX9_widestTwo 4 = .ok (.istore_n 2, 1) := by decide +kernel
theorem dX9_widestTwo_5 : decode cX9_widestTwo 5 = .ok (.iconst 0, 1) := by decide +kernel
theorem dX9_widestTwo_6 : decode cX9_widestTwo 6 = .ok (.istore_n 3, 1) := by decide +kernel
theorem dX9_widestTwo_7 : decode cX9_widestTwo 7 = .ok (.iload_n 3, 1) := by decide +kernel
theorem dX9_widestTwo_8 : decode cX9_widestTwo 8 = .ok (.aload_n 0, 1) := by decide +kernel
theorem dX9_widestTwo_9 : decode cX9_widestTwo 9 = .ok (.getfield 32, 3) := by decide +kernel
theorem dX9_widestTwo_12 : decode cX9_widestTwo 12 = .ok (.invokevirtual 44, 3) := by decide +kernel
theorem dX9_widestTwo_15 : decode cX9_widestTwo 15 = .ok (.if_icmp .ge 59, 3) := by decide +kernel
theorem dX9_widestTwo_18 : decode cX9_widestTwo 18 = .ok (.iload_n 3, 1) := by decide +kernel
theorem dX9_widestTwo_19 : decode cX9_widestTwo 19 = .ok (.iconst 1, 1) := by decide +kernel
theorem dX9_widestTwo_20 : decode cX9_widestTwo 20 = .ok (.iadd, 1) := by decide +kernel
theorem dX9_widestTwo_21 : decode cX9_widestTwo 21 = .ok (.istore 4, 2) := by decide +kernel
theorem dX9_widestTwo_23 : decode cX9_widestTwo 23 = .ok (.iload 4, 2) := by decide +kernel
theorem dX9_widestTwo_25 : decode cX9_widestTwo 25 = .ok (.aload_n 0, 1) := by decide +kernel
theorem dX9_widestTwo_26 : decode cX9_widestTwo 26 = .ok (.getfield 32, 3) := by decide +kernel
theorem dX9_widestTwo_29 : decode cX9_widestTwo 29 = .ok (.invokevirtual 44, 3) := by decide +kernel
theorem dX9_widestTwo_32 : decode cX9_widestTwo 32 = .ok (.if_icmp .ge 36, 3) := by decide +kernel
theorem dX9_widestTwo_35 : decode cX9_widestTwo 35 = .ok (.aload_n 0, 1) := by decide +kernel
theorem dX9_widestTwo_36 : decode cX9_widestTwo 36 = .ok (.iload_n 3, 1) := by decide +kernel
theorem dX9_widestTwo_37 : decode cX9_widestTwo 37 = .ok (.iload 4, 2) := by decide +kernel
theorem dX9_widestTwo_39 : decode cX9_widestTwo 39 = .ok (.invokevirtual 108, 3) := by decide +kernel
theorem dX9_widestTwo_42 : decode cX9_widestTwo 42 = .ok (.iload_n 1, 1) := by decide +kernel
theorem dX9_widestTwo_43 : decode cX9_widestTwo 43 = .ok (.if_icmp .le 19, 3) := by decide +kernel
theorem dX9_widestTwo_46 : decode cX9_widestTwo 46 = .ok (.aload_n 0, 1) := by decide +kernel
theorem dX9_widestTwo_47 : decode cX9_widestTwo 47 = .ok (.iload_n 3, 1) := by decide +kernel
theorem dX9_widestTwo_48 : decode cX9_widestTwo 48 = .ok (.iload 4, 2) := by decide +kernel
theorem dX9_widestTwo_50 : decode cX9_widestTwo 50 = .ok (.invokevirtual 108, 3) := by decide +kernel
theorem dX9_widestTwo_53 : decode cX9_widestTwo 53 = .ok (.istore_n 1, 1) := by decide +kernel
theorem dX9_widestTwo_54 : decode cX9_widestTwo 54 = .ok (.bipush 10, 2) := by decide +kernel
theorem dX9_widestTwo_56 : decode cX9_widestTwo 56 = .ok (.iload_n 3, 1) := by decide +kernel
theorem dX9_widestTwo_57 : decode cX9_widestTwo 57 = .ok (.imul, 1) := by decide +kernel
theorem dX9_widestTwo_58 : decode cX9_widestTwo 58 = .ok (.iload 4, 2) := by decide +kernel
theorem dX9_widestTwo_60 : decode cX9_widestTwo 60 = .ok (.iadd, 1) := by decide +kernel
theorem dX9_widestTwo_61 : decode cX9_widestTwo 61 = .ok (.istore_n 2, 1) := by decide +kernel
theorem dX9_widestTwo_62 : decode cX9_widestTwo 62 = .ok (.iinc 4 1, 3) := by decide +kernel
theorem dX9_widestTwo_65 : decode cX9_widestTwo 65 = .ok (.goto (-42), 3) := by decide +kernel
theorem dX9_widestTwo_68 : decode cX9_widestTwo 68 = .ok (.iinc 3 1, 3) := by decide +kernel
theorem dX9_widestTwo_71 : decode cX9_widestTwo 71 = .ok (.goto (-64), 3) := by decide +kernel
theorem dX9_widestTwo_74 : decode cX9_widestTwo 74 = .ok (.iload_n 2, 1) := by decide +kernel
theorem dX9_widestTwo_75 : decode cX9_widestTwo 75 = .ok (.ireturn, 1) := by decide +kernel
theorem dX9_isSeenSince_0 : decode cX9_isSeenSince 0 = .ok (.iconst 0, 1) := by decide +kernel
theorem dX9_isSeenSince_1 : decode cX9_isSeenSince 1 = .ok (.istore_n 2, 1) := by decide +kernel
theorem dX9_isSeenSince_2 : decode cX9_isSeenSince 2 = .ok (.iload_n 2, 1) := by decide +kernel
theorem dX9_isSeenSince_3 : decode cX9_isSeenSince 3 = .ok (.aload_n 0, 1) := by decide +kernel
theorem dX9_isSeenSince_4 : decode cX9_isSeenSince 4 = .ok (.getfield 32, 3) := by decide +kernel
theorem dX9_isSeenSince_7 : decode cX9_isSeenSince 7 = .ok (.invokevirtual 44, 3) := by decide +kernel
theorem dX9_isSeenSince_10 : decode cX9_isSeenSince 10 = .ok (.if_icmp .ge 23, 3) := by decide +kernel
theorem dX9_isSeenSince_13 : decode cX9_isSeenSince 13 = .ok (.aload_n 0, 1) := by decide +kernel
theorem dX9_isSeenSince_14 : decode cX9_isSeenSince 14 = .ok (.getfield 9, 3) := by decide +kernel
theorem dX9_isSeenSince_17 : decode cX9_isSeenSince 17 = .ok (.iload_n 2, 1) := by decide +kernel
theorem dX9_isSeenSince_18 : decode cX9_isSeenSince 18 = .ok (.iload_n 1, 1) := by decide +kernel
theorem dX9_isSeenSince_19 : decode cX9_isSeenSince 19 = .ok (.aload_n 0, 1) := by decide +kernel
theorem dX9_isSeenSince_20 : decode cX9_isSeenSince 20 = .ok (.getfield 15, 3) := by decide +kernel
theorem dX9_isSeenSince_23 : decode cX9_isSeenSince 23 = .ok (.iload_n 2, 1) := by decide +kernel
theorem dX9_isSeenSince_24 : decode cX9_isSeenSince 24 = .ok (.iaload, 1) := by decide +kernel
theorem dX9_isSeenSince_25 : decode cX9_isSeenSince 25 = .ok (.imul, 1) := by decide +kernel
theorem dX9_isSeenSince_26 : decode cX9_isSeenSince 26 = .ok (.iastore, 1) := by decide +kernel
theorem dX9_isSeenSince_27 : decode cX9_isSeenSince 27 = .ok (.iinc 2 1, 3) := by decide +kernel
theorem dX9_isSeenSince_30 : decode cX9_isSeenSince 30 = .ok (.goto (-28), 3) := by decide +kernel
theorem dX9_isSeenSince_33 : decode cX9_isSeenSince 33 = .ok (.aload_n 0, 1) := by decide +kernel
theorem dX9_isSeenSince_34 : decode cX9_isSeenSince 34 = .ok (.invokevirtual 114, 3) := by decide +kernel
theorem dX9_isSeenSince_37 : decode cX9_isSeenSince 37 = .ok (.aload_n 0, 1) := by decide +kernel
theorem dX9_isSeenSince_38 : decode cX9_isSeenSince 38 = .ok (.getfield 58, 3) := by decide +kernel
theorem dX9_isSeenSince_41 : decode cX9_isSeenSince 41 = .ok (.if_icmp .lt 7, 3) := by decide +kernel
theorem dX9_isSeenSince_44 : decode cX9_isSeenSince 44 = .ok (.iconst 1, 1) := by decide +kernel
theorem dX9_isSeenSince_45 : decode cX9_isSeenSince 45 = .ok (.goto 4, 3) := by decide +kernel
theorem dX9_isSeenSince_48 : decode cX9_isSeenSince 48 = .ok (.iconst 0, 1) := by decide +kernel
theorem dX9_isSeenSince_49 : decode cX9_isSeenSince 49 = .ok (.ireturn, 1) := by decide +kernel
theorem dX9_isLed_0 : decode cX9_isLed 0 = .ok (.aload_n 0, 1) := by decide +kernel
theorem dX9_isLed_1 : decode cX9_isLed 1 = .ok (.getfield 32, 3) := by decide +kernel
theorem dX9_isLed_4 : decode cX9_isLed 4 = .ok (.aload_n 0, 1) := by decide +kernel
theorem dX9_isLed_5 : decode cX9_isLed 5 = .ok (.getfield 54, 3) := by decide +kernel
theorem dX9_isLed_8 : decode cX9_isLed 8 = .ok (.invokevirtual 83, 3) := by decide +kernel
theorem dX9_isLed_11 : decode cX9_isLed 11 = .ok (.ireturn, 1) := by decide +kernel
theorem dX9_firstSeen_0 : decode cX9_firstSeen 0 = .ok (.aload_n 0, 1) := by decide +kernel
theorem dX9_firstSeen_1 : decode cX9_firstSeen 1 = .ok (.invokevirtual 87, 3) := by decide +kernel
theorem dX9_firstSeen_4 : decode cX9_firstSeen 4 = .ok (.iconst 0, 1) := by decide +kernel
theorem dX9_firstSeen_5 : decode cX9_firstSeen 5 = .ok (.istore_n 1, 1) := by decide +kernel
theorem dX9_firstSeen_6 : decode cX9_firstSeen 6 = .ok (.iload_n 1, 1) := by decide +kernel
theorem dX9_firstSeen_7 : decode cX9_firstSeen 7 = .ok (.aload_n 0, 1) := by decide +kernel
theorem dX9_firstSeen_8 : decode cX9_firstSeen 8 = .ok (.getfield 40, 3) := by decide +kernel
theorem dX9_firstSeen_11 : decode cX9_firstSeen 11 = .ok (.invokevirtual 90, 3) := by decide +kernel
theorem dX9_firstSeen_14 : decode cX9_firstSeen 14 = .ok (.if_icmp .ge 34, 3) := by decide +kernel
theorem dX9_firstSeen_17 : decode cX9_firstSeen 17 = .ok (.aload_n 0, 1) := by decide +kernel
theorem dX9_firstSeen_18 : decode cX9_firstSeen 18 = .ok (.aload_n 0, 1) := by decide +kernel
theorem dX9_firstSeen_19 : decode cX9_firstSeen 19 = .ok (.getfield 40, 3) := by decide +kernel
theorem dX9_firstSeen_22 : decode cX9_firstSeen 22 = .ok (.iload_n 1, 1) := by decide +kernel
theorem dX9_firstSeen_23 : decode cX9_firstSeen 23 = .ok (.invokevirtual 98, 3) := by decide +kernel
theorem dX9_firstSeen_26 : decode cX9_firstSeen 26 = .ok (.invokevirtual 101, 3) := by decide +kernel
theorem dX9_firstSeen_29 : decode cX9_firstSeen 29 = .ok (.aload_n 0, 1) := by decide +kernel
theorem dX9_firstSeen_30 : decode cX9_firstSeen 30 = .ok (.invokevirtual 114, 3) := by decide +kernel
theorem dX9_firstSeen_33 : decode cX9_firstSeen 33 = .ok (.aload_n 0, 1) := by decide +kernel
theorem dX9_firstSeen_34 : decode cX9_firstSeen 34 = .ok (.getfield 58, 3) := by decide +kernel
theorem dX9_firstSeen_37 : decode cX9_firstSeen 37 = .ok (.if_icmp .lt 5, 3) := by decide +kernel
theorem dX9_firstSeen_40 : decode cX9_firstSeen 40 = .ok (.iload_n 1, 1) := by decide +kernel
theorem dX9_firstSeen_41 : decode cX9_firstSeen 41 = .ok (.ireturn, 1) := by decide +kernel
theorem dX9_firstSeen_42 : decode cX9_firstSeen 42 = .ok (.iinc 1 1, 3) := by decide +kernel
theorem dX9_firstSeen_45 : decode cX9_firstSeen 45 = .ok (.goto (-39), 3) := by decide +kernel
theorem dX9_firstSeen_48 : decode cX9_firstSeen 48 = .ok (.bipush (-2), 2) := by decide +kernel
theorem dX9_firstSeen_50 : decode cX9_firstSeen 50 = .ok (.ireturn, 1) := by decide +kernel
theorem dX9_marksOfTwo_0 : decode cX9_marksOfTwo 0 = .ok (.aload_n 0, 1) := by decide +kernel
theorem dX9_marksOfTwo_1 : decode cX9_marksOfTwo 1 = .ok (.getfield 32, 3) := by decide +kernel
theorem dX9_marksOfTwo_4 : decode cX9_marksOfTwo 4 = .ok (.iload_n 1, 1) := by decide +kernel
theorem dX9_marksOfTwo_5 : decode cX9_marksOfTwo 5 = .ok (.invokevirtual 83, 3) := by decide +kernel
theorem dX9_marksOfTwo_8 : decode cX9_marksOfTwo 8 = .ok (.ifCond .eq 14, 3) := by decide +kernel
theorem dX9_marksOfTwo_11 : decode cX9_marksOfTwo 11 = .ok (.aload_n 0, 1) := by decide +kernel
theorem dX9_marksOfTwo_12 : decode cX9_marksOfTwo 12 = .ok (.getfield 32, 3) := by decide +kernel
theorem dX9_marksOfTwo_15 : decode cX9_marksOfTwo 15 = .ok (.iload_n 2, 1) := by decide +kernel
theorem dX9_marksOfTwo_16 : decode cX9_marksOfTwo 16 = .ok (.invokevirtual 83, 3) := by decide +kernel
theorem dX9_marksOfTwo_19 : decode cX9_marksOfTwo 19 = .ok (.ifCond .ne 5, 3) := by decide +kernel
theorem dX9_marksOfTwo_22 : decode cX9_marksOfTwo 22 = .ok (.iconst 0, 1) := by decide +kernel
theorem dX9_marksOfTwo_23 : decode cX9_marksOfTwo 23 = .ok (.ireturn, 1) := by decide +kernel
theorem dX9_marksOfTwo_24 : decode cX9_marksOfTwo 24 = .ok (.aload_n 0, 1) := by decide +kernel
theorem dX9_marksOfTwo_25 : decode cX9_marksOfTwo 25 = .ok (.getfield 36, 3) := by decide +kernel
theorem dX9_marksOfTwo_28 : decode cX9_marksOfTwo 28 = .ok (.iload_n 3, 1) := by decide +kernel
theorem dX9_marksOfTwo_29 : decode cX9_marksOfTwo 29 = .ok (.iload 4, 2) := by decide +kernel
theorem dX9_marksOfTwo_31 : decode cX9_marksOfTwo 31 = .ok (.aload_n 0, 1) := by decide +kernel
theorem dX9_marksOfTwo_32 : decode cX9_marksOfTwo 32 = .ok (.getfield 23, 3) := by decide +kernel
theorem dX9_marksOfTwo_35 : decode cX9_marksOfTwo 35 = .ok (.iload_n 1, 1) := by decide +kernel
theorem dX9_marksOfTwo_36 : decode cX9_marksOfTwo 36 = .ok (.aaload, 1) := by decide +kernel
theorem dX9_marksOfTwo_37 : decode cX9_marksOfTwo 37 = .ok (.iload_n 2, 1) := by decide +kernel
theorem dX9_marksOfTwo_38 : decode cX9_marksOfTwo 38 = .ok (.iaload, 1) := by decide +kernel
theorem dX9_marksOfTwo_39 : decode cX9_marksOfTwo 39 = .ok (.aload_n 0, 1) := by decide +kernel
theorem dX9_marksOfTwo_40 : decode cX9_marksOfTwo 40 = .ok (.getfield 26, 3) := by decide +kernel
theorem dX9_marksOfTwo_43 : decode cX9_marksOfTwo 43 = .ok (.iload_n 1, 1) := by decide +kernel
theorem dX9_marksOfTwo_44 : decode cX9_marksOfTwo 44 = .ok (.aaload, 1) := by decide +kernel
theorem dX9_marksOfTwo_45 : decode cX9_marksOfTwo 45 = .ok (.iload_n 2, 1) := by decide +kernel
theorem dX9_marksOfTwo_46 : decode cX9_marksOfTwo 46 = .ok (.iaload, 1) := by decide +kernel
theorem dX9_marksOfTwo_47 : decode cX9_marksOfTwo 47 = .ok (.iload 5, 2) := by decide +kernel
theorem dX9_marksOfTwo_49 : decode cX9_marksOfTwo 49 = .ok (.aload_n 0, 1) := by decide +kernel
theorem dX9_marksOfTwo_50 : decode cX9_marksOfTwo 50 = .ok (.getfield 58, 3) := by decide +kernel
theorem dX9_marksOfTwo_53 : decode cX9_marksOfTwo 53 = .ok (.invokevirtual 117, 3) := by decide +kernel
theorem dX9_marksOfTwo_56 : decode cX9_marksOfTwo 56 = .ok (.ireturn, 1) := by decide +kernel
theorem dX9_marksBehind_0 : decode cX9_marksBehind 0 = .ok (.aload_n 0, 1) := by decide +kernel
theorem dX9_marksBehind_1 : decode cX9_marksBehind 1 = .ok (.getfield 40, 3) := by decide +kernel
theorem dX9_marksBehind_4 : decode cX9_marksBehind 4 = .ok (.iload_n 1, 1) := by decide +kernel
theorem dX9_marksBehind_5 : decode cX9_marksBehind 5 = .ok (.invokevirtual 98, 3) := by decide +kernel
theorem dX9_marksBehind_8 : decode cX9_marksBehind 8 = .ok (.istore_n 2, 1) := by decide +kernel
theorem dX9_marksBehind_9 : decode cX9_marksBehind 9 = .ok (.iconst 0, 1) := by decide +kernel
theorem dX9_marksBehind_10 : decode cX9_marksBehind 10 = .ok (.istore_n 3, 1) := by decide +kernel
theorem dX9_marksBehind_11 : decode cX9_marksBehind 11 = .ok (.iconst 0, 1) := by decide +kernel
theorem dX9_marksBehind_12 : decode cX9_marksBehind 12 = .ok (.istore 4, 2) := by decide +kernel
theorem dX9_marksBehind_14 : decode cX9_marksBehind 14 = .ok (.iload 4, 2) := by decide +kernel
theorem dX9_marksBehind_16 : decode cX9_marksBehind 16 = .ok (.aload_n 0, 1) := by decide +kernel
theorem dX9_marksBehind_17 : decode cX9_marksBehind 17 = .ok (.getfield 32, 3) := by decide +kernel
theorem dX9_marksBehind_20 : decode cX9_marksBehind 20 = .ok (.invokevirtual 44, 3) := by decide +kernel
theorem dX9_marksBehind_23 : decode cX9_marksBehind 23 = .ok (.if_icmp .ge 96, 3) := by decide +kernel
theorem dX9_marksBehind_26 : decode cX9_marksBehind 26 = .ok (.iload 4, 2) := by decide +kernel
theorem dX9_marksBehind_28 : decode cX9_marksBehind 28 = .ok (.iconst 1, 1) := by decide +kernel
theorem dX9_marksBehind_29 : decode cX9_marksBehind 29 = .ok (.iadd, 1) := by decide +kernel
theorem dX9_marksBehind_30 : decode cX9_marksBehind 30 = .ok (.istore 5, 2) := by decide +kernel
theorem dX9_marksBehind_32 : decode cX9_marksBehind 32 = .ok (.iload 5, 2) := by decide +kernel
theorem dX9_marksBehind_34 : decode cX9_marksBehind 34 = .ok (.aload_n 0, 1) := by decide +kernel
theorem dX9_marksBehind_35 : decode cX9_marksBehind 35 = .ok (.getfield 32, 3) := by decide +kernel
theorem dX9_marksBehind_38 : decode cX9_marksBehind 38 = .ok (.invokevirtual 44, 3) := by decide +kernel
theorem dX9_marksBehind_41 : decode cX9_marksBehind 41 = .ok (.if_icmp .ge 72, 3) := by decide +kernel
theorem dX9_marksBehind_44 : decode cX9_marksBehind 44 = .ok (.aload_n 0, 1) := by decide +kernel
theorem dX9_marksBehind_45 : decode cX9_marksBehind 45 = .ok (.getfield 36, 3) := by decide +kernel
theorem dX9_marksBehind_48 : decode cX9_marksBehind 48 = .ok (.aload_n 0, 1) := by decide +kernel
theorem dX9_marksBehind_49 : decode cX9_marksBehind 49 = .ok (.iload 4, 2) := by decide +kernel
theorem dX9_marksBehind_51 : decode cX9_marksBehind 51 = .ok (.iload 5, 2) := by decide +kernel
theorem dX9_marksBehind_53 : decode cX9_marksBehind 53 = .ok (.invokevirtual 108, 3) := by decide +kernel
theorem dX9_marksBehind_56 : decode cX9_marksBehind 56 = .ok (.iload_n 2, 1) := by decide +kernel
theorem dX9_marksBehind_57 : decode cX9_marksBehind 57 = .ok (.aload_n 0, 1) := by decide +kernel
theorem dX9_marksBehind_58 : decode cX9_marksBehind 58 = .ok (.getfield 23, 3) := by decide +kernel
theorem dX9_marksBehind_61 : decode cX9_marksBehind 61 = .ok (.iload 4, 2) := by decide +kernel
theorem dX9_marksBehind_63 : decode cX9_marksBehind 63 = .ok (.aaload, 1) := by decide +kernel
theorem dX9_marksBehind_64 : decode cX9_marksBehind 64 = .ok (.iload 5, 2) := by decide +kernel
theorem dX9_marksBehind_66 : decode cX9_marksBehind 66 = .ok (.iaload, 1) := by decide +kernel
theorem dX9_marksBehind_67 : decode cX9_marksBehind 67 = .ok (.aload_n 0, 1) := by decide +kernel
theorem dX9_marksBehind_68 : decode cX9_marksBehind 68 = .ok (.getfield 26, 3) := by decide +kernel
theorem dX9_marksBehind_71 : decode cX9_marksBehind 71 = .ok (.iload 4, 2) := by decide +kernel
theorem dX9_marksBehind_73 : decode cX9_marksBehind 73 = .ok (.aaload, 1) := by decide +kernel
theorem dX9_marksBehind_74 : decode cX9_marksBehind 74 = .ok (.iload 5, 2) := by decide +kernel
theorem dX9_marksBehind_76 : decode cX9_marksBehind 76 = .ok (.iaload, 1) := by decide +kernel
theorem dX9_marksBehind_77 : decode cX9_marksBehind 77 = .ok (.iload_n 1, 1) := by decide +kernel
theorem dX9_marksBehind_78 : decode cX9_marksBehind 78 = .ok (.aload_n 0, 1) := by decide +kernel
theorem dX9_marksBehind_79 : decode cX9_marksBehind 79 = .ok (.getfield 58, 3) := by decide +kernel
theorem dX9_marksBehind_82 : decode cX9_marksBehind 82 = .ok (.invokevirtual 117, 3) := by decide +kernel
theorem dX9_marksBehind_85 : decode cX9_marksBehind 85 = .ok (.istore 6, 2) := by decide +kernel
theorem dX9_marksBehind_87 : decode cX9_marksBehind 87 = .ok (.aload_n 0, 1) := by decide +kernel
theorem dX9_marksBehind_88 : decode cX9_marksBehind 88 = .ok (.getfield 29, 3) := by decide +kernel
theorem dX9_marksBehind_91 : decode cX9_marksBehind 91 = .ok (.iload 4, 2) := by decide +kernel
theorem dX9_marksBehind_93 : decode cX9_marksBehind 93 = .ok (.aaload, 1) := by decide +kernel
theorem dX9_marksBehind_94 : decode cX9_marksBehind 94 = .ok (.iload 5, 2) := by decide +kernel
theorem dX9_marksBehind_96 : decode cX9_marksBehind 96 = .ok (.dup2, 1) := by decide +kernel
theorem dX9_marksBehind_97 : decode cX9_marksBehind 97 = .ok (.iaload, 1) := by decide +kernel
theorem dX9_marksBehind_98 : decode cX9_marksBehind 98 = .ok (.iload 6, 2) := by decide +kernel
theorem dX9_marksBehind_100 : decode cX9_marksBehind 100 = .ok (.iadd, 1) := by decide +kernel
theorem dX9_marksBehind_101 : decode cX9_marksBehind 101 = .ok (.iastore, 1) := by decide +kernel
theorem dX9_marksBehind_102 : decode cX9_marksBehind 102 = .ok (.iload_n 3, 1) := by decide +kernel
theorem dX9_marksBehind_103 : decode cX9_marksBehind 103 = .ok (.iload 6, 2) := by decide +kernel
theorem dX9_marksBehind_105 : decode cX9_marksBehind 105 = .ok (.iadd, 1) := by decide +kernel
theorem dX9_marksBehind_106 : decode cX9_marksBehind 106 = .ok (.istore_n 3, 1) := by decide +kernel
theorem dX9_marksBehind_107 : decode cX9_marksBehind 107 = .ok (.iinc 5 1, 3) := by decide +kernel
theorem dX9_marksBehind_110 : decode cX9_marksBehind 110 = .ok (.goto (-78), 3) := by decide +kernel
theorem dX9_marksBehind_113 : decode cX9_marksBehind 113 = .ok (.iinc 4 1, 3) := by decide +kernel
theorem dX9_marksBehind_116 : decode cX9_marksBehind 116 = .ok (.goto (-102), 3) := by decide +kernel
theorem dX9_marksBehind_119 : decode cX9_marksBehind 119 = .ok (.iload_n 3, 1) := by decide +kernel
theorem dX9_marksBehind_120 : decode cX9_marksBehind 120 = .ok (.ireturn, 1) := by decide +kernel
theorem dX9_lost_0 : decode cX9_lost 0 = .ok (.iconst 0, 1) := by decide +kernel
theorem dX9_lost_1 : decode cX9_lost 1 = .ok (.istore_n 1, 1) := by decide +kernel
theorem dX9_lost_2 : decode cX9_lost 2 = .ok (.aload_n 0, 1) := by decide +kernel
theorem dX9_lost_3 : decode cX9_lost 3 = .ok (.invokevirtual 87, 3) := by decide +kernel
theorem dX9_lost_6 : decode cX9_lost 6 = .ok (.iconst 0, 1) := by decide +kernel
theorem dX9_lost_7 : decode cX9_lost 7 = .ok (.istore_n 2, 1) := by decide +kernel
theorem dX9_lost_8 : decode cX9_lost 8 = .ok (.iload_n 2, 1) := by decide +kernel
theorem dX9_lost_9 : decode cX9_lost 9 = .ok (.bipush 8, 2) := by decide +kernel
theorem dX9_lost_11 : decode cX9_lost 11 = .ok (.if_icmp .ge 32, 3) := by decide +kernel
theorem dX9_lost_14 : decode cX9_lost 14 = .ok (.iconst 0, 1) := by decide +kernel
theorem dX9_lost_15 : decode cX9_lost 15 = .ok (.istore_n 3, 1) := by decide +kernel
theorem dX9_lost_16 : decode cX9_lost 16 = .ok (.iload_n 3, 1) := by decide +kernel
theorem dX9_lost_17 : decode cX9_lost 17 = .ok (.bipush 8, 2) := by decide +kernel
theorem dX9_lost_19 : decode cX9_lost 19 = .ok (.if_icmp .ge 18, 3) := by decide +kernel
theorem dX9_lost_22 : decode cX9_lost 22 = .ok (.aload_n 0, 1) := by decide +kernel
theorem dX9_lost_23 : decode cX9_lost 23 = .ok (.getfield 29, 3) := by decide +kernel
theorem dX9_lost_26 : decode cX9_lost 26 = .ok (.iload_n 2, 1) := by decide +kernel
theorem dX9_lost_27 : decode cX9_lost 27 = .ok (.aaload, 1) := by decide +kernel
theorem dX9_lost_28 : decode cX9_lost 28 = .ok (.iload_n 3, 1) := by decide +kernel
theorem dX9_lost_29 : decode cX9_lost 29 = .ok (.iconst 0, 1) := by decide +kernel
theorem dX9_lost_30 : decode cX9_lost 30 = .ok (.iastore, 1) := by decide +kernel
theorem dX9_lost_31 : decode cX9_lost 31 = .ok (.iinc 3 1, 3) := by decide +kernel
theorem dX9_lost_34 : decode cX9_lost 34 = .ok (.goto (-18), 3) := by decide +kernel
theorem dX9_lost_37 : decode cX9_lost 37 = .ok (.iinc 2 1, 3) := by decide +kernel
theorem dX9_lost_40 : decode cX9_lost 40 = .ok (.goto (-32), 3) := by decide +kernel
theorem dX9_lost_43 : decode cX9_lost 43 = .ok (.iconst 0, 1) := by decide +kernel
theorem dX9_lost_44 : decode cX9_lost 44 = .ok (.istore_n 2, 1) := by decide +kernel
theorem dX9_lost_45 : decode cX9_lost 45 = .ok (.iload_n 2, 1) := by decide +kernel
theorem dX9_lost_46 : decode cX9_lost 46 = .ok (.aload_n 0, 1) := by decide +kernel
theorem dX9_lost_47 : decode cX9_lost 47 = .ok (.getfield 40, 3) := by decide +kernel
theorem dX9_lost_50 : decode cX9_lost 50 = .ok (.invokevirtual 90, 3) := by decide +kernel
theorem dX9_lost_53 : decode cX9_lost 53 = .ok (.if_icmp .ge 67, 3) := by decide +kernel
theorem dX9_lost_56 : decode cX9_lost 56 = .ok (.aload_n 0, 1) := by decide +kernel
theorem dX9_lost_57 : decode cX9_lost 57 = .ok (.aload_n 0, 1) := by decide +kernel
theorem dX9_lost_58 : decode cX9_lost 58 = .ok (.getfield 40, 3) := by decide +kernel
theorem dX9_lost_61 : decode cX9_lost 61 = .ok (.iload_n 2, 1) := by decide +kernel
theorem dX9_lost_62 : decode cX9_lost 62 = .ok (.invokevirtual 98, 3) := by decide +kernel
theorem dX9_lost_65 : decode cX9_lost 65 = .ok (.invokevirtual 101, 3) := by decide +kernel
theorem dX9_lost_68 : decode cX9_lost 68 = .ok (.iload_n 2, 1) := by decide +kernel
theorem dX9_lost_69 : decode cX9_lost 69 = .ok (.aload_n 0, 1) := by decide +kernel
theorem dX9_lost_70 : decode cX9_lost 70 = .ok (.getfield 61, 3) := by decide +kernel
theorem dX9_lost_73 : decode cX9_lost 73 = .ok (.if_icmp .ne 33, 3) := by decide +kernel
theorem dX9_lost_76 : decode cX9_lost 76 = .ok (.aload_n 0, 1) := by decide +kernel
theorem dX9_lost_77 : decode cX9_lost 77 = .ok (.getfield 32, 3) := by decide +kernel
theorem dX9_lost_80 : decode cX9_lost 80 = .ok (.aload_n 0, 1) := by decide +kernel
theorem dX9_lost_81 : decode cX9_lost 81 = .ok (.getfield 77, 3) := by decide +kernel
theorem dX9_lost_84 : decode cX9_lost 84 = .ok (.invokevirtual 83, 3) := by decide +kernel
theorem dX9_lost_87 : decode cX9_lost 87 = .ok (.ifCond .eq 19, 3) := by decide +kernel
theorem dX9_lost_90 : decode cX9_lost 90 = .ok (.aload_n 0, 1) := by decide +kernel
theorem dX9_lost_91 : decode cX9_lost 91 = .ok (.getfield 9, 3) := by decide +kernel
theorem dX9_lost_94 : decode cX9_lost 94 = .ok (.aload_n 0, 1) := by decide +kernel
theorem dX9_lost_95 : decode cX9_lost 95 = .ok (.getfield 77, 3) := by decide +kernel
theorem dX9_lost_98 : decode cX9_lost 98 = .ok (.dup2, 1) := by decide +kernel
theorem dX9_lost_99 : decode cX9_lost 99 = .ok (.iaload, 1) := by decide +kernel
theorem dX9_lost_100 : decode cX9_lost 100 = .ok (.aload_n 0, 1) := by decide +kernel
theorem dX9_lost_101 : decode cX9_lost 101 = .ok (.getfield 80, 3) := by decide +kernel
theorem dX9_lost_104 : decode cX9_lost 104 = .ok (.iadd, 1) := by decide +kernel
theorem dX9_lost_105 : decode cX9_lost 105 = .ok (.iastore, 1) := by decide +kernel
theorem dX9_lost_106 : decode cX9_lost 106 = .ok (.iload_n 1, 1) := by decide +kernel
theorem dX9_lost_107 : decode cX9_lost 107 = .ok (.aload_n 0, 1) := by decide +kernel
theorem dX9_lost_108 : decode cX9_lost 108 = .ok (.iload_n 2, 1) := by decide +kernel
theorem dX9_lost_109 : decode cX9_lost 109 = .ok (.invokevirtual 123, 3) := by decide +kernel
theorem dX9_lost_112 : decode cX9_lost 112 = .ok (.iadd, 1) := by decide +kernel
theorem dX9_lost_113 : decode cX9_lost 113 = .ok (.istore_n 1, 1) := by decide +kernel
theorem dX9_lost_114 : decode cX9_lost 114 = .ok (.iinc 2 1, 3) := by decide +kernel
theorem dX9_lost_117 : decode cX9_lost 117 = .ok (.goto (-72), 3) := by decide +kernel
theorem dX9_lost_120 : decode cX9_lost 120 = .ok (.iload_n 1, 1) := by decide +kernel
theorem dX9_lost_121 : decode cX9_lost 121 = .ok (.ireturn, 1) := by decide +kernel
theorem dX9_worstTwo_0 : decode cX9_worstTwo 0 = .ok (.aload_n 0, 1) := by decide +kernel
theorem dX9_worstTwo_1 : decode cX9_worstTwo 1 = .ok (.invokevirtual 126, 3) := by decide +kernel
theorem dX9_worstTwo_4 : decode cX9_worstTwo 4 = .ok (.pop, 1) := by decide +kernel
theorem dX9_worstTwo_5 : decode cX9_worstTwo 5 = .ok (.iconst 0, 1) := by decide +kernel
theorem dX9_worstTwo_6 : decode cX9_worstTwo 6 = .ok (.istore_n 1, 1) := by decide +kernel
theorem dX9_worstTwo_7 : decode cX9_worstTwo 7 = .ok (.bipush (-2), 2) := by decide +kernel
theorem dX9_worstTwo_9 : decode cX9_worstTwo 9 = .ok (.istore_n 2, 1) := by decide +kernel
theorem dX9_worstTwo_10 : decode cX9_worstTwo 10 = .ok (.iconst 0, 1) := by decide +kernel
theorem dX9_worstTwo_11 : decode cX9_worstTwo 11 = .ok (.istore_n 3, 1) := by decide +kernel
theorem dX9_worstTwo_12 : decode cX9_worstTwo 12 = .ok (.iload_n 3, 1) := by decide +kernel
theorem dX9_worstTwo_13 : decode cX9_worstTwo 13 = .ok (.aload_n 0, 1) := by decide +kernel
theorem dX9_worstTwo_14 : decode cX9_worstTwo 14 = .ok (.getfield 32, 3) := by decide +kernel
theorem dX9_worstTwo_17 : decode cX9_worstTwo 17 = .ok (.invokevirtual 44, 3) := by decide +kernel
theorem dX9_worstTwo_20 : decode cX9_worstTwo 20 = .ok (.if_icmp .ge 63, 3) := by decide +kernel
theorem dX9_worstTwo_23 : decode cX9_worstTwo 23 = .ok (.iload_n 3, 1) := by decide +kernel
theorem dX9_worstTwo_24 : decode cX9_worstTwo 24 = .ok (.iconst 1, 1) := by decide +kernel
theorem dX9_worstTwo_25 : decode cX9_worstTwo 25 = .ok (.iadd, 1) := by decide +kernel
theorem dX9_worstTwo_26 : decode cX9_worstTwo 26 = .ok (.istore 4, 2) := by decide +kernel
theorem dX9_worstTwo_28 : decode cX9_worstTwo 28 = .ok (.iload 4, 2) := by decide +kernel
theorem dX9_worstTwo_30 : decode cX9_worstTwo 30 = .ok (.aload_n 0, 1) := by decide +kernel
theorem dX9_worstTwo_31 : decode cX9_worstTwo 31 = .ok (.getfield 32, 3) := by decide +kernel
theorem dX9_worstTwo_34 : decode cX9_worstTwo 34 = .ok (.invokevirtual 44, 3) := by decide +kernel
theorem dX9_worstTwo_37 : decode cX9_worstTwo 37 = .ok (.if_icmp .ge 40, 3) := by decide +kernel
theorem dX9_worstTwo_40 : decode cX9_worstTwo 40 = .ok (.aload_n 0, 1) := by decide +kernel
theorem dX9_worstTwo_41 : decode cX9_worstTwo 41 = .ok (.getfield 29, 3) := by decide +kernel
theorem dX9_worstTwo_44 : decode cX9_worstTwo 44 = .ok (.iload_n 3, 1) := by decide +kernel
theorem dX9_worstTwo_45 : decode cX9_worstTwo 45 = .ok (.aaload, 1) := by decide +kernel
theorem dX9_worstTwo_46 : decode cX9_worstTwo 46 = .ok (.iload 4, 2) := by decide +kernel
theorem dX9_worstTwo_48 : decode cX9_worstTwo 48 = .ok (.iaload, 1) := by decide +kernel
theorem dX9_worstTwo_49 : decode cX9_worstTwo 49 = .ok (.iload_n 1, 1) := by decide +kernel
theorem dX9_worstTwo_50 : decode cX9_worstTwo 50 = .ok (.if_icmp .le 21, 3) := by decide +kernel
theorem dX9_worstTwo_53 : decode cX9_worstTwo 53 = .ok (.aload_n 0, 1) := by decide +kernel
theorem dX9_worstTwo_54 : decode cX9_worstTwo 54 = .ok (.getfield 29, 3) := by decide +kernel
theorem dX9_worstTwo_57 : decode cX9_worstTwo 57 = .ok (.iload_n 3, 1) := by decide +kernel
theorem dX9_worstTwo_58 : decode cX9_worstTwo 58 = .ok (.aaload, 1) := by decide +kernel
theorem dX9_worstTwo_59 : decode cX9_worstTwo 59 = .ok (.iload 4, 2) := by decide +kernel
theorem dX9_worstTwo_61 : decode cX9_worstTwo 61 = .ok (.iaload, 1) := by decide +kernel
theorem dX9_worstTwo_62 : decode cX9_worstTwo 62 = .ok (.istore_n 1, 1) := by decide +kernel
theorem dX9_worstTwo_63 : decode cX9_worstTwo 63 = .ok (.bipush 10, 2) := by decide +kernel
theorem dX9_worstTwo_65 : decode cX9_worstTwo 65 = .ok (.iload_n 3, 1) := by decide +kernel
theorem dX9_worstTwo_66 : decode cX9_worstTwo 66 = .ok (.imul, 1) := by decide +kernel
theorem dX9_worstTwo_67 : decode cX9_worstTwo 67 = .ok (.iload 4, 2) := by decide +kernel
theorem dX9_worstTwo_69 : decode cX9_worstTwo 69 = .ok (.iadd, 1) := by decide +kernel
theorem dX9_worstTwo_70 : decode cX9_worstTwo 70 = .ok (.istore_n 2, 1) := by decide +kernel
theorem dX9_worstTwo_71 : decode cX9_worstTwo 71 = .ok (.iinc 4 1, 3) := by decide +kernel
theorem dX9_worstTwo_74 : decode cX9_worstTwo 74 = .ok (.goto (-46), 3) := by decide +kernel
theorem dX9_worstTwo_77 : decode cX9_worstTwo 77 = .ok (.iinc 3 1, 3) := by decide +kernel
theorem dX9_worstTwo_80 : decode cX9_worstTwo 80 = .ok (.goto (-68), 3) := by decide +kernel
theorem dX9_worstTwo_83 : decode cX9_worstTwo 83 = .ok (.iload_n 2, 1) := by decide +kernel
theorem dX9_worstTwo_84 : decode cX9_worstTwo 84 = .ok (.ireturn, 1) := by decide +kernel
theorem dX9_goneOf_0 : decode cX9_goneOf 0 = .ok (.aload_n 0, 1) := by decide +kernel
theorem dX9_goneOf_1 : decode cX9_goneOf 1 = .ok (.getfield 40, 3) := by decide +kernel
theorem dX9_goneOf_4 : decode cX9_goneOf 4 = .ok (.aload_n 0, 1) := by decide +kernel
theorem dX9_goneOf_5 : decode cX9_goneOf 5 = .ok (.getfield 32, 3) := by decide +kernel
theorem dX9_goneOf_8 : decode cX9_goneOf 8 = .ok (.iload_n 1, 1) := by decide +kernel
theorem dX9_goneOf_9 : decode cX9_goneOf 9 = .ok (.iconst 3, 1) := by decide +kernel
theorem dX9_goneOf_10 : decode cX9_goneOf 10 = .ok (.invokevirtual 50, 3) := by decide +kernel
theorem dX9_goneOf_13 : decode cX9_goneOf 13 = .ok (.aload_n 0, 1) := by decide +kernel
theorem dX9_goneOf_14 : decode cX9_goneOf 14 = .ok (.getfield 32, 3) := by decide +kernel
theorem dX9_goneOf_17 : decode cX9_goneOf 17 = .ok (.iconst 0, 1) := by decide +kernel
theorem dX9_goneOf_18 : decode cX9_goneOf 18 = .ok (.bipush 8, 2) := by decide +kernel
theorem dX9_goneOf_20 : decode cX9_goneOf 20 = .ok (.invokevirtual 50, 3) := by decide +kernel
theorem dX9_goneOf_23 : decode cX9_goneOf 23 = .ok (.invokevirtual 129, 3) := by decide +kernel
theorem dX9_goneOf_26 : decode cX9_goneOf 26 = .ok (.ireturn, 1) := by decide +kernel
theorem dX9_allGone_0 : decode cX9_allGone 0 = .ok (.iconst 0, 1) := by decide +kernel
theorem dX9_allGone_1 : decode cX9_allGone 1 = .ok (.istore_n 1, 1) := by decide +kernel
theorem dX9_allGone_2 : decode cX9_allGone 2 = .ok (.iconst 0, 1) := by decide +kernel
theorem dX9_allGone_3 : decode cX9_allGone 3 = .ok (.istore_n 2, 1) := by decide +kernel
theorem dX9_allGone_4 : decode cX9_allGone 4 = .ok (.iload_n 2, 1) := by decide +kernel
theorem dX9_allGone_5 : decode cX9_allGone 5 = .ok (.aload_n 0, 1) := by decide +kernel
theorem dX9_allGone_6 : decode cX9_allGone 6 = .ok (.getfield 32, 3) := by decide +kernel
theorem dX9_allGone_9 : decode cX9_allGone 9 = .ok (.invokevirtual 44, 3) := by decide +kernel
theorem dX9_allGone_12 : decode cX9_allGone 12 = .ok (.if_icmp .ge 25, 3) := by decide +kernel
theorem dX9_allGone_15 : decode cX9_allGone 15 = .ok (.aload_n 0, 1) := by decide +kernel
theorem dX9_allGone_16 : decode cX9_allGone 16 = .ok (.iload_n 2, 1) := by decide +kernel
theorem dX9_allGone_17 : decode cX9_allGone 17 = .ok (.invokevirtual 132, 3) := by decide +kernel
theorem dX9_allGone_20 : decode cX9_allGone 20 = .ok (.bipush (-2), 2) := by decide +kernel
theorem dX9_allGone_22 : decode cX9_allGone 22 = .ok (.if_icmp .eq 9, 3) := by decide +kernel
theorem dX9_allGone_25 : decode cX9_allGone 25 = .ok (.iload_n 1, 1) := by decide +kernel
theorem dX9_allGone_26 : decode cX9_allGone 26 = .ok (.iconst 1, 1) := by decide +kernel
theorem dX9_allGone_27 : decode cX9_allGone 27 = .ok (.iload_n 2, 1) := by decide +kernel
theorem dX9_allGone_28 : decode cX9_allGone 28 = .ok (.ishl, 1) := by decide +kernel
theorem dX9_allGone_29 : decode cX9_allGone 29 = .ok (.ior, 1) := by decide +kernel
theorem dX9_allGone_30 : decode cX9_allGone 30 = .ok (.istore_n 1, 1) := by decide +kernel
theorem dX9_allGone_31 : decode cX9_allGone 31 = .ok (.iinc 2 1, 3) := by decide +kernel
theorem dX9_allGone_34 : decode cX9_allGone 34 = .ok (.goto (-30), 3) := by decide +kernel
theorem dX9_allGone_37 : decode cX9_allGone 37 = .ok (.iload_n 1, 1) := by decide +kernel
theorem dX9_allGone_38 : decode cX9_allGone 38 = .ok (.ireturn, 1) := by decide +kernel
theorem dX9_judged_0 : decode cX9_judged 0 = .ok (.iload_n 2, 1) := by decide +kernel
theorem dX9_judged_1 : decode cX9_judged 1 = .ok (.aload_n 1, 1) := by decide +kernel
theorem dX9_judged_2 : decode cX9_judged 2 = .ok (.arraylength, 1) := by decide +kernel
theorem dX9_judged_3 : decode cX9_judged 3 = .ok (.invokestatic 95, 3) := by decide +kernel
theorem dX9_judged_6 : decode cX9_judged 6 = .ok (.aload_n 0, 1) := by decide +kernel
theorem dX9_judged_7 : decode cX9_judged 7 = .ok (.getfield 40, 3) := by decide +kernel
theorem dX9_judged_10 : decode cX9_judged 10 = .ok (.invokevirtual 90, 3) := by decide +kernel
theorem dX9_judged_13 : decode cX9_judged 13 = .ok (.invokestatic 95, 3) := by decide +kernel
theorem dX9_judged_16 : decode cX9_judged 16 = .ok (.istore_n 3, 1) := by decide +kernel
theorem dX9_judged_17 : decode cX9_judged 17 = .ok (.aload_n 0, 1) := by decide +kernel
theorem dX9_judged_18 : decode cX9_judged 18 = .ok (.invokevirtual 87, 3) := by decide +kernel
theorem dX9_judged_21 : decode cX9_judged 21 = .ok (.iconst 0, 1) := by decide +kernel
theorem dX9_judged_22 : decode cX9_judged 22 = .ok (.istore 4, 2) := by decide +kernel
theorem dX9_judged_24 : decode cX9_judged 24 = .ok (.iload 4, 2) := by decide +kernel
theorem dX9_judged_26 : decode cX9_judged 26 = .ok (.iload_n 3, 1) := by decide +kernel
theorem dX9_judged_27 : decode cX9_judged 27 = .ok (.if_icmp .ge 38, 3) := by decide +kernel
theorem dX9_judged_30 : decode cX9_judged 30 = .ok (.aload_n 0, 1) := by decide +kernel
theorem dX9_judged_31 : decode cX9_judged 31 = .ok (.aload_n 0, 1) := by decide +kernel
theorem dX9_judged_32 : decode cX9_judged 32 = .ok (.getfield 40, 3) := by decide +kernel
theorem dX9_judged_35 : decode cX9_judged 35 = .ok (.iload 4, 2) := by decide +kernel
theorem dX9_judged_37 : decode cX9_judged 37 = .ok (.invokevirtual 98, 3) := by decide +kernel
theorem dX9_judged_40 : decode cX9_judged 40 = .ok (.invokevirtual 101, 3) := by decide +kernel
theorem dX9_judged_43 : decode cX9_judged 43 = .ok (.aload_n 0, 1) := by decide +kernel
theorem dX9_judged_44 : decode cX9_judged 44 = .ok (.invokevirtual 114, 3) := by decide +kernel
theorem dX9_judged_47 : decode cX9_judged 47 = .ok (.i2l, 1) := by decide +kernel
theorem dX9_judged_48 : decode cX9_judged 48 = .ok (.aload_n 1, 1) := by decide +kernel
theorem dX9_judged_49 : decode cX9_judged 49 = .ok (.iload 4, 2) := by decide +kernel
theorem dX9_judged_51 : decode cX9_judged 51 = .ok (.laload, 1) := by decide +kernel
theorem dX9_judged_52 : decode cX9_judged 52 = .ok (.lcmp, 1) := by decide +kernel
theorem dX9_judged_53 : decode cX9_judged 53 = .ok (.ifCond .eq 6, 3) := by decide +kernel
theorem dX9_judged_56 : decode cX9_judged 56 = .ok (.iload 4, 2) := by decide +kernel
theorem dX9_judged_58 : decode cX9_judged 58 = .ok (.ireturn, 1) := by decide +kernel
theorem dX9_judged_59 : decode cX9_judged 59 = .ok (.iinc 4 1, 3) := by decide +kernel
theorem dX9_judged_62 : decode cX9_judged 62 = .ok (.goto (-38), 3) := by decide +kernel
theorem dX9_judged_65 : decode cX9_judged 65 = .ok (.bipush (-2), 2) := by decide +kernel
theorem dX9_judged_67 : decode cX9_judged 67 = .ok (.ireturn, 1) := by decide +kernel
theorem dX9_train_0 : decode cX9_train 0 = .ok (.iload_n 1, 1) := by decide +kernel
theorem dX9_train_1 : decode cX9_train 1 = .ok (.istore 5, 2) := by decide +kernel
theorem dX9_train_3 : decode cX9_train 3 = .ok (.iconst 0, 1) := by decide +kernel
theorem dX9_train_4 : decode cX9_train 4 = .ok (.istore 6, 2) := by decide +kernel
theorem dX9_train_6 : decode cX9_train 6 = .ok (.iconst 0, 1) := by decide +kernel
theorem dX9_train_7 : decode cX9_train 7 = .ok (.istore 7, 2) := by decide +kernel
theorem dX9_train_9 : decode cX9_train 9 = .ok (.iconst 0, 1) := by decide +kernel
theorem dX9_train_10 : decode cX9_train 10 = .ok (.istore 8, 2) := by decide +kernel
theorem dX9_train_12 : decode cX9_train 12 = .ok (.iload 8, 2) := by decide +kernel
theorem dX9_train_14 : decode cX9_train 14 = .ok (.iload_n 2, 1) := by decide +kernel
theorem dX9_train_15 : decode cX9_train 15 = .ok (.if_icmp .ge 92, 3) := by decide +kernel
theorem dX9_train_18 : decode cX9_train 18 = .ok (.iconst 0, 1) := by decide +kernel
theorem dX9_train_19 : decode cX9_train 19 = .ok (.istore 9, 2) := by decide +kernel
theorem dX9_train_21 : decode cX9_train 21 = .ok (.aload_n 0, 1) := by decide +kernel
theorem dX9_train_22 : decode cX9_train 22 = .ok (.invokevirtual 87, 3) := by decide +kernel
theorem dX9_train_25 : decode cX9_train 25 = .ok (.iconst 0, 1) := by decide +kernel
theorem dX9_train_26 : decode cX9_train 26 = .ok (.istore 10, 2) := by decide +kernel
theorem dX9_train_28 : decode cX9_train 28 = .ok (.iload 10, 2) := by decide +kernel
theorem dX9_train_30 : decode cX9_train 30 = .ok (.aload_n 0, 1) := by decide +kernel
theorem dX9_train_31 : decode cX9_train 31 = .ok (.getfield 40, 3) := by decide +kernel
theorem dX9_train_34 : decode cX9_train 34 = .ok (.invokevirtual 90, 3) := by decide +kernel
theorem dX9_train_37 : decode cX9_train 37 = .ok (.if_icmp .ge 42, 3) := by decide +kernel
theorem dX9_train_40 : decode cX9_train 40 = .ok (.aload_n 0, 1) := by decide +kernel
theorem dX9_train_41 : decode cX9_train 41 = .ok (.iload 5, 2) := by decide +kernel
theorem dX9_train_43 : decode cX9_train 43 = .ok (.iload_n 3, 1) := by decide +kernel
theorem dX9_train_44 : decode cX9_train 44 = .ok (.invokevirtual 135, 3) := by decide +kernel
theorem dX9_train_47 : decode cX9_train 47 = .ok (.istore 5, 2) := by decide +kernel
theorem dX9_train_49 : decode cX9_train 49 = .ok (.aload_n 0, 1) := by decide +kernel
theorem dX9_train_50 : decode cX9_train 50 = .ok (.aload_n 0, 1) := by decide +kernel
theorem dX9_train_51 : decode cX9_train 51 = .ok (.getfield 40, 3) := by decide +kernel
theorem dX9_train_54 : decode cX9_train 54 = .ok (.iload 10, 2) := by decide +kernel
theorem dX9_train_56 : decode cX9_train 56 = .ok (.invokevirtual 98, 3) := by decide +kernel
theorem dX9_train_59 : decode cX9_train 59 = .ok (.invokevirtual 101, 3) := by decide +kernel
theorem dX9_train_62 : decode cX9_train 62 = .ok (.iload 9, 2) := by decide +kernel
theorem dX9_train_64 : decode cX9_train 64 = .ok (.aload_n 0, 1) := by decide +kernel
theorem dX9_train_65 : decode cX9_train 65 = .ok (.iload 10, 2) := by decide +kernel
theorem dX9_train_67 : decode cX9_train 67 = .ok (.invokevirtual 123, 3) := by decide +kernel
theorem dX9_train_70 : decode cX9_train 70 = .ok (.iadd, 1) := by decide +kernel
theorem dX9_train_71 : decode cX9_train 71 = .ok (.istore 9, 2) := by decide +kernel
theorem dX9_train_73 : decode cX9_train 73 = .ok (.iinc 10 1, 3) := by decide +kernel
theorem dX9_train_76 : decode cX9_train 76 = .ok (.goto (-48), 3) := by decide +kernel
theorem dX9_train_79 : decode cX9_train 79 = .ok (.iload 6, 2) := by decide +kernel
theorem dX9_train_81 : decode cX9_train 81 = .ok (.iload 9, 2) := by decide +kernel
theorem dX9_train_83 : decode cX9_train 83 = .ok (.iadd, 1) := by decide +kernel
theorem dX9_train_84 : decode cX9_train 84 = .ok (.istore 6, 2) := by decide +kernel
theorem dX9_train_86 : decode cX9_train 86 = .ok (.iload 7, 2) := by decide +kernel
theorem dX9_train_88 : decode cX9_train 88 = .ok (.iload 9, 2) := by decide +kernel
theorem dX9_train_90 : decode cX9_train 90 = .ok (.ifCond .ne 7, 3) := by decide +kernel
theorem dX9_train_93 : decode cX9_train 93 = .ok (.iconst 1, 1) := by decide +kernel
theorem dX9_train_94 : decode cX9_train 94 = .ok (.goto 4, 3) := by decide +kernel
theorem dX9_train_97 : decode cX9_train 97 = .ok (.iconst 0, 1) := by decide +kernel
theorem dX9_train_98 : decode cX9_train 98 = .ok (.iadd, 1) := by decide +kernel
theorem dX9_train_99 : decode cX9_train 99 = .ok (.istore 7, 2) := by decide +kernel
theorem dX9_train_101 : decode cX9_train 101 = .ok (.iinc 8 1, 3) := by decide +kernel
theorem dX9_train_104 : decode cX9_train 104 = .ok (.goto (-92), 3) := by decide +kernel
theorem dX9_train_107 : decode cX9_train 107 = .ok (.iload 4, 2) := by decide +kernel
theorem dX9_train_109 : decode cX9_train 109 = .ok (.ifCond .eq 8, 3) := by decide +kernel
theorem dX9_train_112 : decode cX9_train 112 = .ok (.iload 6, 2) := by decide +kernel
theorem dX9_train_114 : decode cX9_train 114 = .ok (.goto 5, 3) := by decide +kernel
theorem dX9_train_117 : decode cX9_train 117 = .ok (.iload 7, 2) := by decide +kernel
theorem dX9_train_119 : decode cX9_train 119 = .ok (.ireturn, 1) := by decide +kernel
theorem dX9_slipByDraws_0 : decode cX9_slipByDraws 0 = .ok (.iload_n 1, 1) := by decide +kernel
theorem dX9_slipByDraws_1 : decode cX9_slipByDraws 1 = .ok (.istore_n 3, 1) := by decide +kernel
theorem dX9_slipByDraws_2 : decode cX9_slipByDraws 2 = .ok (.iconst 0, 1) := by decide +kernel
theorem dX9_slipByDraws_3 : decode cX9_slipByDraws 3 = .ok (.istore 4, 2) := by decide +kernel
theorem dX9_slipByDraws_5 : decode cX9_slipByDraws 5 = .ok (.iload 4, 2) := by decide +kernel
theorem dX9_slipByDraws_7 : decode cX9_slipByDraws 7 = .ok (.aload_n 0, 1) := by decide +kernel
theorem dX9_slipByDraws_8 : decode cX9_slipByDraws 8 = .ok (.getfield 32, 3) := by decide +kernel
theorem dX9_slipByDraws_11 : decode cX9_slipByDraws 11 = .ok (.invokevirtual 44, 3) := by decide +kernel
theorem dX9_slipByDraws_14 : decode cX9_slipByDraws 14 = .ok (.if_icmp .ge 40, 3) := by decide +kernel
theorem dX9_slipByDraws_17 : decode cX9_slipByDraws 17 = .ok (.iload_n 3, 1) := by decide +kernel
theorem dX9_slipByDraws_18 : decode cX9_slipByDraws 18 = .ok (.ldc 138, 2) := by decide +kernel
theorem dX9_slipByDraws_20 : decode cX9_slipByDraws 20 = .ok (.imul, 1) := by decide +kernel
theorem dX9_slipByDraws_21 : decode cX9_slipByDraws 21 = .ok (.sipush 12345, 3) := by decide +kernel
theorem dX9_slipByDraws_24 : decode cX9_slipByDraws 24 = .ok (.iadd, 1) := by decide +kernel
theorem dX9_slipByDraws_25 : decode cX9_slipByDraws 25 = .ok (.istore_n 3, 1) := by decide +kernel
theorem dX9_slipByDraws_26 : decode cX9_slipByDraws 26 = .ok (.iload_n 3, 1) := by decide +kernel
theorem dX9_slipByDraws_27 : decode cX9_slipByDraws 27 = .ok (.bipush 8, 2) := by decide +kernel
theorem dX9_slipByDraws_29 : decode cX9_slipByDraws 29 = .ok (.iushr, 1) := by decide +kernel
theorem dX9_slipByDraws_30 : decode cX9_slipByDraws 30 = .ok (.bipush 12, 2) := by decide +kernel
theorem dX9_slipByDraws_32 : decode cX9_slipByDraws 32 = .ok (.irem, 1) := by decide +kernel
theorem dX9_slipByDraws_33 : decode cX9_slipByDraws 33 = .ok (.iload_n 2, 1) := by decide +kernel
theorem dX9_slipByDraws_34 : decode cX9_slipByDraws 34 = .ok (.if_icmp .ge 14, 3) := by decide +kernel
theorem dX9_slipByDraws_37 : decode cX9_slipByDraws 37 = .ok (.aload_n 0, 1) := by decide +kernel
theorem dX9_slipByDraws_38 : decode cX9_slipByDraws 38 = .ok (.getfield 9, 3) := by decide +kernel
theorem dX9_slipByDraws_41 : decode cX9_slipByDraws 41 = .ok (.iload 4, 2) := by decide +kernel
theorem dX9_slipByDraws_43 : decode cX9_slipByDraws 43 = .ok (.dup2, 1) := by decide +kernel
theorem dX9_slipByDraws_44 : decode cX9_slipByDraws 44 = .ok (.iaload, 1) := by decide +kernel
theorem dX9_slipByDraws_45 : decode cX9_slipByDraws 45 = .ok (.iconst 1, 1) := by decide +kernel
theorem dX9_slipByDraws_46 : decode cX9_slipByDraws 46 = .ok (.iadd, 1) := by decide +kernel
theorem dX9_slipByDraws_47 : decode cX9_slipByDraws 47 = .ok (.iastore, 1) := by decide +kernel
theorem dX9_slipByDraws_48 : decode cX9_slipByDraws 48 = .ok (.iinc 4 1, 3) := by decide +kernel
theorem dX9_slipByDraws_51 : decode cX9_slipByDraws 51 = .ok (.goto (-46), 3) := by decide +kernel
theorem dX9_slipByDraws_54 : decode cX9_slipByDraws 54 = .ok (.iload_n 3, 1) := by decide +kernel
theorem dX9_slipByDraws_55 : decode cX9_slipByDraws 55 = .ok (.ireturn, 1) := by decide +kernel
theorem dX10_init_0 : decode cX10_init 0 = .ok (.aload_n 0, 1) := by decide +kernel
theorem dX10_init_1 : decode cX10_init 1 = .ok (.invokespecial 3, 3) := by decide +kernel
theorem dX10_init_4 : decode cX10_init 4 = .ok (.aload_n 0, 1) := by decide +kernel
theorem dX10_init_5 : decode cX10_init 5 = .ok (.bipush 50, 2) := by decide +kernel
theorem dX10_init_7 : decode cX10_init 7 = .ok (.newarray .int, 2) := by decide +kernel
theorem dX10_init_9 : decode cX10_init 9 = .ok (.putfield 11, 3) := by decide +kernel
theorem dX10_init_12 : decode cX10_init 12 = .ok (.aload_n 0, 1) := by decide +kernel
theorem dX10_init_13 : decode cX10_init 13 = .ok (.bipush 24, 2) := by decide +kernel
theorem dX10_init_15 : decode cX10_init 15 = .ok (.newarray .int, 2) := by decide +kernel
theorem dX10_init_17 : decode cX10_init 17 = .ok (.putfield 15, 3) := by decide +kernel
theorem dX10_init_20 : decode cX10_init 20 = .ok (.return_, 1) := by decide +kernel
theorem dX10_isKind_0 : decode cX10_isKind 0 = .ok (.iload_n 0, 1) := by decide +kernel
theorem dX10_isKind_1 : decode cX10_isKind 1 = .ok (.ifCond .lt 13, 3) := by decide +kernel
theorem dX10_isKind_4 : decode cX10_isKind 4 = .ok (.iload_n 0, 1) := by decide +kernel
theorem dX10_isKind_5 : decode cX10_isKind 5 = .ok (.bipush 8, 2) := by decide +kernel
theorem dX10_isKind_7 : decode cX10_isKind 7 = .ok (.if_icmp .ge 7, 3) := by decide +kernel
theorem dX10_isKind_10 : decode cX10_isKind 10 = .ok (.iconst 1, 1) := by decide +kernel
theorem dX10_isKind_11 : decode cX10_isKind 11 = .ok (.goto 4, 3) := by decide +kernel
theorem dX10_isKind_14 : decode cX10_isKind 14 = .ok (.iconst 0, 1) := by decide +kernel
theorem dX10_isKind_15 : decode cX10_isKind 15 = .ok (.ireturn, 1) := by decide +kernel
theorem dX10_isUnder_0 : decode cX10_isUnder 0 = .ok (.iload_n 0, 1) := by decide +kernel
theorem dX10_isUnder_1 : decode cX10_isUnder 1 = .ok (.invokestatic 18, 3) := by decide +kernel
theorem dX10_isUnder_4 : decode cX10_isUnder 4 = .ok (.ifCond .eq 26, 3) := by decide +kernel
theorem dX10_isUnder_7 : decode cX10_isUnder 7 = .ok (.iload_n 1, 1) := by decide +kernel
theorem dX10_isUnder_8 : decode cX10_isUnder 8 = .ok (.invokestatic 18, 3) := by decide +kernel
theorem dX10_isUnder_11 : decode cX10_isUnder 11 = .ok (.ifCond .eq 19, 3) := by decide +kernel
theorem dX10_isUnder_14 : decode cX10_isUnder 14 = .ok (.getstatic 22, 3) := by decide +kernel
theorem dX10_isUnder_17 : decode cX10_isUnder 17 = .ok (.iload_n 0, 1) := by decide +kernel
theorem dX10_isUnder_18 : decode cX10_isUnder 18 = .ok (.iaload, 1) := by decide +kernel
theorem dX10_isUnder_19 : decode cX10_isUnder 19 = .ok (.iload_n 1, 1) := by decide +kernel
theorem dX10_isUnder_20 : decode cX10_isUnder 20 = .ok (.ishr, 1) := by decide +kernel
theorem dX10_isUnder_21 : decode cX10_isUnder 21 = .ok (.iconst 1, 1) := by decide +kernel
theorem dX10_isUnder_22 : decode cX10_isUnder 22 = .ok (.iand, 1) := by decide +kernel
theorem dX10_isUnder_23 : decode cX10_isUnder 23 = .ok (.ifCond .eq 7, 3) := by decide +kernel
theorem dX10_isUnder_26 : decode cX10_isUnder 26 = .ok (.iconst 1, 1) := by decide +kernel
theorem dX10_isUnder_27 : decode cX10_isUnder 27 = .ok (.goto 4, 3) := by decide +kernel
theorem dX10_isUnder_30 : decode cX10_isUnder 30 = .ok (.iconst 0, 1) := by decide +kernel
theorem dX10_isUnder_31 : decode cX10_isUnder 31 = .ok (.ireturn, 1) := by decide +kernel
theorem dX10_many_0 : decode cX10_many 0 = .ok (.aload_n 0, 1) := by decide +kernel
theorem dX10_many_1 : decode cX10_many 1 = .ok (.getfield 25, 3) := by decide +kernel
theorem dX10_many_4 : decode cX10_many 4 = .ok (.ireturn, 1) := by decide +kernel
theorem dX10_ran_0 : decode cX10_ran 0 = .ok (.aload_n 0, 1) := by decide +kernel
theorem dX10_ran_1 : decode cX10_ran 1 = .ok (.getfield 29, 3) := by decide +kernel
theorem dX10_ran_4 : decode cX10_ran 4 = .ok (.ireturn, 1) := by decide +kernel
theorem dX10_isFull_0 : decode cX10_isFull 0 = .ok (.aload_n 0, 1) := by decide +kernel
theorem dX10_isFull_1 : decode cX10_isFull 1 = .ok (.getfield 25, 3) := by decide +kernel
theorem dX10_isFull_4 : decode cX10_isFull 4 = .ok (.bipush 50, 2) := by decide +kernel
theorem dX10_isFull_6 : decode cX10_isFull 6 = .ok (.if_icmp .lt 7, 3) := by decide +kernel
theorem dX10_isFull_9 : decode cX10_isFull 9 = .ok (.iconst 1, 1) := by decide +kernel
theorem dX10_isFull_10 : decode cX10_isFull 10 = .ok (.goto 4, 3) := by decide +kernel
theorem dX10_isFull_13 : decode cX10_isFull 13 = .ok (.iconst 0, 1) := by decide +kernel
theorem dX10_isFull_14 : decode cX10_isFull 14 = .ok (.ireturn, 1) := by decide +kernel
theorem dX10_has_0 : decode cX10_has 0 = .ok (.iload_n 1, 1) := by decide +kernel
theorem dX10_has_1 : decode cX10_has 1 = .ok (.ifCond .lt 15, 3) := by decide +kernel
theorem dX10_has_4 : decode cX10_has 4 = .ok (.iload_n 1, 1) := by decide +kernel
theorem dX10_has_5 : decode cX10_has 5 = .ok (.aload_n 0, 1) := by decide +kernel
theorem dX10_has_6 : decode cX10_has 6 = .ok (.getfield 25, 3) := by decide +kernel
theorem dX10_has_9 : decode cX10_has 9 = .ok (.if_icmp .ge 7, 3) := by decide +kernel
theorem dX10_has_12 : decode cX10_has 12 = .ok (.iconst 1, 1) := by decide +kernel
theorem dX10_has_13 : decode cX10_has 13 = .ok (.goto 4, 3) := by decide +kernel
theorem dX10_has_16 : decode cX10_has 16 = .ok (.iconst 0, 1) := by decide +kernel
theorem dX10_has_17 : decode cX10_has 17 = .ok (.ireturn, 1) := by decide +kernel
theorem dX10_kindOf_0 : decode cX10_kindOf 0 = .ok (.aload_n 0, 1) := by decide +kernel
theorem dX10_kindOf_1 : decode cX10_kindOf 1 = .ok (.iload_n 1, 1) := by decide +kernel
theorem dX10_kindOf_2 : decode cX10_kindOf 2 = .ok (.invokevirtual 32, 3) := by decide +kernel
theorem dX10_kindOf_5 : decode cX10_kindOf 5 = .ok (.ifCond .eq 12, 3) := by decide +kernel
theorem dX10_kindOf_8 : decode cX10_kindOf 8 = .ok (.aload_n 0, 1) := by decide +kernel
theorem dX10_kindOf_9 : decode cX10_kindOf 9 = .ok (.getfield 11, 3) := by decide +kernel
theorem dX10_kindOf_12 : decode cX10_kindOf 12 = .ok (.iload_n 1, 1) := by decide +kernel
theorem dX10_kindOf_13 : decode cX10_kindOf 13 = .ok (.iaload, 1) := by decide +kernel
theorem dX10_kindOf_14 : decode cX10_kindOf 14 = .ok (.goto 4, 3) := by decide +kernel
theorem dX10_kindOf_17 : decode cX10_kindOf 17 = .ok (.iconst (-1), 1) := by decide +kernel
theorem dX10_kindOf_18 : decode cX10_kindOf 18 = .ok (.ireturn, 1) := by decide +kernel
theorem dX10_add_0 : decode cX10_add 0 = .ok (.aload_n 0, 1) := by decide +kernel
theorem dX10_add_1 : decode cX10_add 1 = .ok (.invokevirtual 35, 3) := by decide +kernel
theorem dX10_add_4 : decode cX10_add 4 = .ok (.ifCond .eq 6, 3) := by decide +kernel
theorem dX10_add_7 : decode cX10_add 7 = .ok (.bipush (-3), 2) := by decide +kernel
theorem dX10_add_9 : decode cX10_add 9 = .ok (.ireturn, 1) := by decide +kernel
theorem dX10_add_10 : decode cX10_add 10 = .ok (.aload_n 0, 1) := by decide +kernel
theorem dX10_add_11 : decode cX10_add 11 = .ok (.getfield 11, 3) := by decide +kernel
theorem dX10_add_14 : decode cX10_add 14 = .ok (.aload_n 0, 1) := by decide +kernel
theorem dX10_add_15 : decode cX10_add 15 = .ok (.getfield 25, 3) := by decide +kernel
theorem dX10_add_18 : decode cX10_add 18 = .ok (.iload_n 1, 1) := by decide +kernel
theorem dX10_add_19 : decode cX10_add 19 = .ok (.iastore, 1) := by decide +kernel
theorem dX10_add_20 : decode cX10_add 20 = .ok (.aload_n 0, 1) := by decide +kernel
theorem dX10_add_21 : decode cX10_add 21 = .ok (.dup, 1) := by decide +kernel
theorem dX10_add_22 : decode cX10_add 22 = .ok (.getfield 25, 3) := by decide +kernel
theorem dX10_add_25 : decode cX10_add 25 = .ok (.iconst 1, 1) := by decide +kernel
theorem dX10_add_26 : decode cX10_add 26 = .ok (.iadd, 1) := by decide +kernel
theorem dX10_add_27 : decode cX10_add 27 = .ok (.putfield 25, 3) := by decide +kernel
theorem dX10_add_30 : decode cX10_add 30 = .ok (.aload_n 0, 1) := by decide +kernel
theorem dX10_add_31 : decode cX10_add 31 = .ok (.getfield 25, 3) := by decide +kernel
theorem dX10_add_34 : decode cX10_add 34 = .ok (.iconst 1, 1) := by decide +kernel
theorem dX10_add_35 : decode cX10_add 35 = .ok (.isub, 1) := by decide +kernel
theorem dX10_add_36 : decode cX10_add 36 = .ok (.ireturn, 1) := by decide +kernel
theorem dX10_traced_0 : decode cX10_traced 0 = .ok (.iload_n 1, 1) := by decide +kernel
theorem dX10_traced_1 : decode cX10_traced 1 = .ok (.ifCond .lt 26, 3) := by decide +kernel
theorem dX10_traced_4 : decode cX10_traced 4 = .ok (.iload_n 1, 1) := by decide +kernel
theorem dX10_traced_5 : decode cX10_traced 5 = .ok (.aload_n 0, 1) := by decide +kernel
theorem dX10_traced_6 : decode cX10_traced 6 = .ok (.getfield 29, 3) := by decide +kernel
theorem dX10_traced_9 : decode cX10_traced 9 = .ok (.if_icmp .ge 18, 3) := by decide +kernel
theorem dX10_traced_12 : decode cX10_traced 12 = .ok (.iload_n 1, 1) := by decide +kernel
theorem dX10_traced_13 : decode cX10_traced 13 = .ok (.bipush 24, 2) := by decide +kernel
theorem dX10_traced_15 : decode cX10_traced 15 = .ok (.if_icmp .ge 12, 3) := by decide +kernel
theorem dX10_traced_18 : decode cX10_traced 18 = .ok (.aload_n 0, 1) := by decide +kernel
theorem dX10_traced_19 : decode cX10_traced 19 = .ok (.getfield 15, 3) := by decide +kernel
theorem dX10_traced_22 : decode cX10_traced 22 = .ok (.iload_n 1, 1) := by decide +kernel
theorem dX10_traced_23 : decode cX10_traced 23 = .ok (.iaload, 1) := by decide +kernel
theorem dX10_traced_24 : decode cX10_traced 24 = .ok (.goto 4, 3) := by decide +kernel
theorem dX10_traced_27 : decode cX10_traced 27 = .ok (.iconst (-1), 1) := by decide +kernel
theorem dX10_traced_28 : decode cX10_traced 28 = .ok (.ireturn, 1) := by decide +kernel
theorem dX10_start_0 : decode cX10_start 0 = .ok (.aload_n 0, 1) := by decide +kernel
theorem dX10_start_1 : decode cX10_start 1 = .ok (.iconst 0, 1) := by decide +kernel
theorem dX10_start_2 : decode cX10_start 2 = .ok (.putfield 29, 3) := by decide +kernel
theorem dX10_start_5 : decode cX10_start 5 = .ok (.aload_n 0, 1) := by decide +kernel
theorem dX10_start_6 : decode cX10_start 6 = .ok (.iload_n 1, 1) := by decide +kernel
theorem dX10_start_7 : decode cX10_start 7 = .ok (.putfield 39, 3) := by decide +kernel
theorem dX10_start_10 : decode cX10_start 10 = .ok (.aload_n 0, 1) := by decide +kernel
theorem dX10_start_11 : decode cX10_start 11 = .ok (.aload_n 0, 1) := by decide +kernel
theorem dX10_start_12 : decode cX10_start 12 = .ok (.iload_n 1, 1) := by decide +kernel
theorem dX10_start_13 : decode cX10_start 13 = .ok (.invokevirtual 32, 3) := by decide +kernel
theorem dX10_start_16 : decode cX10_start 16 = .ok (.ifCond .eq 16, 3) := by decide +kernel
theorem dX10_start_19 : decode cX10_start 19 = .ok (.getstatic 22, 3) := by decide +kernel
theorem dX10_start_22 : decode cX10_start 22 = .ok (.aload_n 0, 1) := by decide +kernel
theorem dX10_start_23 : decode cX10_start 23 = .ok (.getfield 11, 3) := by decide +kernel
theorem dX10_start_26 : decode cX10_start 26 = .ok (.iload_n 1, 1) := by decide +kernel
theorem dX10_start_27 : decode cX10_start 27 = .ok (.iaload, 1) := by decide +kernel
theorem dX10_start_28 : decode cX10_start 28 = .ok (.iaload, 1) := by decide +kernel
theorem dX10_start_29 : decode cX10_start 29 = .ok (.goto 4, 3) := by decide +kernel
theorem dX10_start_32 : decode cX10_start 32 = .ok (.iconst 0, 1) := by decide +kernel
theorem dX10_start_33 : decode cX10_start 33 = .ok (.putfield 42, 3) := by decide +kernel
theorem dX10_start_36 : decode cX10_start 36 = .ok (.aload_n 0, 1) := by decide +kernel
theorem dX10_start_37 : decode cX10_start 37 = .ok (.iload_n 1, 1) := by decide +kernel
theorem dX10_start_38 : decode cX10_start 38 = .ok (.invokevirtual 32, 3) := by decide +kernel
theorem dX10_start_41 : decode cX10_start 41 = .ok (.ireturn, 1) := by decide +kernel
theorem dX10_is_0 : decode cX10_is 0 = .ok (.aload_n 0, 1) := by decide +kernel
theorem dX10_is_1 : decode cX10_is 1 = .ok (.getfield 42, 3) := by decide +kernel
theorem dX10_is_4 : decode cX10_is 4 = .ok (.iload_n 1, 1) := by decide +kernel
theorem dX10_is_5 : decode cX10_is 5 = .ok (.ishr, 1) := by decide +kernel
theorem dX10_is_6 : decode cX10_is 6 = .ok (.iconst 1, 1) := by decide +kernel
theorem dX10_is_7 : decode cX10_is 7 = .ok (.iand, 1) := by decide +kernel
theorem dX10_is_8 : decode cX10_is 8 = .ok (.ifCond .eq 7, 3) := by decide +kernel
theorem dX10_is_11 : decode cX10_is 11 = .ok (.iconst 1, 1) := by decide +kernel
theorem dX10_is_12 : decode cX10_is 12 = .ok (.goto 4, 3) := by decide +kernel
theorem dX10_is_15 : decode cX10_is 15 = .ok (.iconst 0, 1) := by decide +kernel
theorem dX10_is_16 : decode cX10_is 16 = .ok (.ireturn, 1) := by decide +kernel
theorem dX10_begins_0 : decode cX10_begins 0 = .ok (.aload_n 0, 1) := by decide +kernel
theorem dX10_begins_1 : decode cX10_begins 1 = .ok (.getfield 29, 3) := by decide +kernel
theorem dX10_begins_4 : decode cX10_begins 4 = .ok (.bipush 24, 2) := by decide +kernel
theorem dX10_begins_6 : decode cX10_begins 6 = .ok (.if_icmp .ge 13, 3) := by decide +kernel
theorem dX10_begins_9 : decode cX10_begins 9 = .ok (.aload_n 0, 1) := by decide +kernel
theorem dX10_begins_10 : decode cX10_begins 10 = .ok (.getfield 15, 3) := by decide +kernel
theorem dX10_begins_13 : decode cX10_begins 13 = .ok (.aload_n 0, 1) := by decide +kernel
theorem dX10_begins_14 : decode cX10_begins 14 = .ok (.getfield 29, 3) := by decide +kernel
theorem dX10_begins_17 : decode cX10_begins 17 = .ok (.iload_n 1, 1) := by decide +kernel
theorem dX10_begins_18 : decode cX10_begins 18 = .ok (.iastore, 1) := by decide +kernel
theorem dX10_begins_19 : decode cX10_begins 19 = .ok (.aload_n 0, 1) := by decide +kernel
theorem dX10_begins_20 : decode cX10_begins 20 = .ok (.dup, 1) := by decide +kernel
theorem dX10_begins_21 : decode cX10_begins 21 = .ok (.getfield 29, 3) := by decide +kernel
theorem dX10_begins_24 : decode cX10_begins 24 = .ok (.iconst 1, 1) := by decide +kernel
theorem dX10_begins_25 : decode cX10_begins 25 = .ok (.iadd, 1) := by decide +kernel
theorem dX10_begins_26 : decode cX10_begins 26 = .ok (.putfield 29, 3) := by decide +kernel
theorem dX10_begins_29 : decode cX10_begins 29 = .ok (.return_, 1) := by decide +kernel
theorem dX10_counts_0 : decode cX10_counts 0 = .ok (.aload_n 0, 1) := by decide +kernel
theorem dX10_counts_1 : decode cX10_counts 1 = .ok (.iconst 1, 1) := by decide +kernel
theorem dX10_counts_2 : decode cX10_counts 2 = .ok (.invokevirtual 45, 3) := by decide +kernel
theorem dX10_counts_5 : decode cX10_counts 5 = .ok (.ifCond .eq 17, 3) := by decide +kernel
theorem dX10_counts_8 : decode cX10_counts 8 = .ok (.aload_n 0, 1) := by decide +kernel
theorem dX10_counts_9 : decode cX10_counts 9 = .ok (.bipush 20, 2) := by decide +kernel
theorem dX10_counts_11 : decode cX10_counts 11 = .ok (.invokevirtual 48, 3) := by decide +kernel
theorem dX10_counts_14 : decode cX10_counts 14 = .ok (.aload_n 0, 1) := by decide +kernel
theorem dX10_counts_15 : decode cX10_counts 15 = .ok (.iload_n 1, 1) := by decide +kernel
theorem dX10_counts_16 : decode cX10_counts 16 = .ok (.invokevirtual 52, 3) := by decide +kernel
theorem dX10_counts_19 : decode cX10_counts 19 = .ok (.iconst 3, 1) := by decide +kernel
theorem dX10_counts_20 : decode cX10_counts 20 = .ok (.iadd, 1) := by decide +kernel
theorem dX10_counts_21 : decode cX10_counts 21 = .ok (.ireturn, 1) := by decide +kernel
theorem dX10_counts_22 : decode cX10_counts 22 = .ok (.aload_n 0, 1) := by decide +kernel
theorem dX10_counts_23 : decode cX10_counts 23 = .ok (.bipush 6, 2) := by decide +kernel
theorem dX10_counts_25 : decode cX10_counts 25 = .ok (.invokevirtual 45, 3) := by decide +kernel
theorem dX10_counts_28 : decode cX10_counts 28 = .ok (.ifCond .eq 17, 3) := by decide +kernel
theorem dX10_counts_31 : decode cX10_counts 31 = .ok (.aload_n 0, 1) := by decide +kernel
theorem dX10_counts_32 : decode cX10_counts 32 = .ok (.bipush 70, 2) := by decide +kernel
theorem dX10_counts_34 : decode cX10_counts 34 = .ok (.invokevirtual 48, 3) := by decide +kernel
theorem dX10_counts_37 : decode cX10_counts 37 = .ok (.aload_n 0, 1) := by decide +kernel
theorem dX10_counts_38 : decode cX10_counts 38 = .ok (.iload_n 1, 1) := by decide +kernel
theorem dX10_counts_39 : decode cX10_counts 39 = .ok (.invokevirtual 52, 3) := by decide +kernel
theorem dX10_counts_42 : decode cX10_counts 42 = .ok (.iconst 2, 1) := by decide +kernel
theorem dX10_counts_43 : decode cX10_counts 43 = .ok (.imul, 1) := by decide +kernel
theorem dX10_counts_44 : decode cX10_counts 44 = .ok (.ireturn, 1) := by decide +kernel
theorem dX10_counts_45 : decode cX10_counts 45 = .ok (.aload_n 0, 1) := by decide +kernel
theorem dX10_counts_46 : decode cX10_counts 46 = .ok (.iload_n 1, 1) := by decide +kernel
theorem dX10_counts_47 : decode cX10_counts 47 = .ok (.invokevirtual 52, 3) := by decide +kernel
theorem dX10_counts_50 : decode cX10_counts 50 = .ok (.ireturn, 1) := by decide +kernel
theorem dX10_plainCounts_0 : decode cX10_plainCounts 0 = .ok (.aload_n 0, 1) := by decide +kernel
theorem dX10_plainCounts_1 : decode cX10_plainCounts 1 = .ok (.iconst 1, 1) := by decide +kernel
theorem dX10_plainCounts_2 : decode cX10_plainCounts 2 = .ok (.invokevirtual 48, 3) := by decide +kernel
theorem dX10_plainCounts_5 : decode cX10_plainCounts 5 = .ok (.iload_n 1, 1) := by decide +kernel
theorem dX10_plainCounts_6 : decode cX10_plainCounts 6 = .ok (.aload_n 0, 1) := by decide +kernel
theorem dX10_plainCounts_7 : decode cX10_plainCounts 7 = .ok (.getfield 39, 3) := by decide +kernel
theorem dX10_plainCounts_10 : decode cX10_plainCounts 10 = .ok (.iadd, 1) := by decide +kernel
theorem dX10_plainCounts_11 : decode cX10_plainCounts 11 = .ok (.ireturn, 1) := by decide +kernel
theorem dX10_turns_0 : decode cX10_turns 0 = .ok (.aload_n 0, 1) := by decide +kernel
theorem dX10_turns_1 : decode cX10_turns 1 = .ok (.bipush 7, 2) := by decide +kernel
theorem dX10_turns_3 : decode cX10_turns 3 = .ok (.invokevirtual 45, 3) := by decide +kernel
theorem dX10_turns_6 : decode cX10_turns 6 = .ok (.ifCond .eq 23, 3) := by decide +kernel
theorem dX10_turns_9 : decode cX10_turns 9 = .ok (.aload_n 0, 1) := by decide +kernel
theorem dX10_turns_10 : decode cX10_turns 10 = .ok (.bipush 80, 2) := by decide +kernel
theorem dX10_turns_12 : decode cX10_turns 12 = .ok (.invokevirtual 48, 3) := by decide +kernel
theorem dX10_turns_15 : decode cX10_turns 15 = .ok (.aload_n 0, 1) := by decide +kernel
theorem dX10_turns_16 : decode cX10_turns 16 = .ok (.iload_n 1, 1) := by decide +kernel
theorem dX10_turns_17 : decode cX10_turns 17 = .ok (.invokevirtual 56, 3) := by decide +kernel
theorem dX10_turns_20 : decode cX10_turns 20 = .ok (.istore_n 2, 1) := by decide +kernel
theorem dX10_turns_21 : decode cX10_turns 21 = .ok (.iload_n 2, 1) := by decide +kernel
theorem dX10_turns_22 : decode cX10_turns 22 = .ok (.aload_n 0, 1) := by decide +kernel
theorem dX10_turns_23 : decode cX10_turns 23 = .ok (.iconst 2, 1) := by decide +kernel
theorem dX10_turns_24 : decode cX10_turns 24 = .ok (.invokevirtual 59, 3) := by decide +kernel
theorem dX10_turns_27 : decode cX10_turns 27 = .ok (.iadd, 1) := by decide +kernel
theorem dX10_turns_28 : decode cX10_turns 28 = .ok (.ireturn, 1) := by decide +kernel
theorem dX10_turns_29 : decode cX10_turns 29 = .ok (.iload_n 1, 1) := by decide +kernel
theorem dX10_turns_30 : decode cX10_turns 30 = .ok (.istore_n 2, 1) := by decide +kernel
theorem dX10_turns_31 : decode cX10_turns 31 = .ok (.aload_n 0, 1) := by decide +kernel
theorem dX10_turns_32 : decode cX10_turns 32 = .ok (.iconst 3, 1) := by decide +kernel
theorem dX10_turns_33 : decode cX10_turns 33 = .ok (.invokevirtual 45, 3) := by decide +kernel
theorem dX10_turns_36 : decode cX10_turns 36 = .ok (.ifCond .eq 12, 3) := by decide +kernel
theorem dX10_turns_39 : decode cX10_turns 39 = .ok (.aload_n 0, 1) := by decide +kernel
theorem dX10_turns_40 : decode cX10_turns 40 = .ok (.bipush 41, 2) := by decide +kernel
theorem dX10_turns_42 : decode cX10_turns 42 = .ok (.invokevirtual 48, 3) := by decide +kernel
theorem dX10_turns_45 : decode cX10_turns 45 = .ok (.iinc 2 1, 3) := by decide +kernel
theorem dX10_turns_48 : decode cX10_turns 48 = .ok (.aload_n 0, 1) := by decide +kernel
theorem dX10_turns_49 : decode cX10_turns 49 = .ok (.iconst 2, 1) := by decide +kernel
theorem dX10_turns_50 : decode cX10_turns 50 = .ok (.invokevirtual 45, 3) := by decide +kernel
theorem dX10_turns_53 : decode cX10_turns 53 = .ok (.ifCond .eq 16, 3) := by decide +kernel
theorem dX10_turns_56 : decode cX10_turns 56 = .ok (.aload_n 0, 1) := by decide +kernel
theorem dX10_turns_57 : decode cX10_turns 57 = .ok (.bipush 30, 2) := by decide +kernel
theorem dX10_turns_59 : decode cX10_turns 59 = .ok (.invokevirtual 48, 3) := by decide +kernel
theorem dX10_turns_62 : decode cX10_turns 62 = .ok (.aload_n 0, 1) := by decide +kernel
theorem dX10_turns_63 : decode cX10_turns 63 = .ok (.iload_n 2, 1) := by decide +kernel
theorem dX10_turns_64 : decode cX10_turns 64 = .ok (.invokevirtual 56, 3) := by decide +kernel
theorem dX10_turns_67 : decode cX10_turns 67 = .ok (.ineg, 1) := by decide +kernel
theorem dX10_turns_68 : decode cX10_turns 68 = .ok (.ireturn, 1) := by decide +kernel
theorem dX10_turns_69 : decode cX10_turns 69 = .ok (.aload_n 0, 1) := by decide +kernel
theorem dX10_turns_70 : decode cX10_turns 70 = .ok (.iload_n 2, 1) := by decide +kernel
theorem dX10_turns_71 : decode cX10_turns 71 = .ok (.invokevirtual 56, 3) := by decide +kernel
theorem dX10_turns_74 : decode cX10_turns 74 = .ok (.ireturn, 1) := by decide +kernel
theorem dX10_plainTurns_0 : decode cX10_plainTurns 0 = .ok (.aload_n 0, 1) := by decide +kernel
theorem dX10_plainTurns_1 : decode cX10_plainTurns 1 = .ok (.bipush 10, 2) := by decide +kernel
theorem dX10_plainTurns_3 : decode cX10_plainTurns 3 = .ok (.invokevirtual 48, 3) := by decide +kernel
theorem dX10_plainTurns_6 : decode cX10_plainTurns 6 = .ok (.aload_n 0, 1) := by decide +kernel
theorem dX10_plainTurns_7 : decode cX10_plainTurns 7 = .ok (.iload_n 1, 1) := by decide +kernel
theorem dX10_plainTurns_8 : decode cX10_plainTurns 8 = .ok (.invokevirtual 62, 3) := by decide +kernel
theorem dX10_plainTurns_11 : decode cX10_plainTurns 11 = .ok (.iconst 2, 1) := by decide +kernel
theorem dX10_plainTurns_12 : decode cX10_plainTurns 12 = .ok (.imul, 1) := by decide +kernel
theorem dX10_plainTurns_13 : decode cX10_plainTurns 13 = .ok (.ireturn, 1) := by decide +kernel
theorem dX10_sinks_0 : decode cX10_sinks 0 = .ok (.aload_n 0, 1) := by decide +kernel
theorem dX10_sinks_1 : decode cX10_sinks 1 = .ok (.iconst 3, 1) := by decide +kernel
theorem dX10_sinks_2 : decode cX10_sinks 2 = .ok (.invokevirtual 45, 3) := by decide +kernel
theorem dX10_sinks_5 : decode cX10_sinks 5 = .ok (.ifCond .eq 17, 3) := by decide +kernel
theorem dX10_sinks_8 : decode cX10_sinks 8 = .ok (.aload_n 0, 1) := by decide +kernel
theorem dX10_sinks_9 : decode cX10_sinks 9 = .ok (.bipush 40, 2) := by decide +kernel
theorem dX10_sinks_11 : decode cX10_sinks 11 = .ok (.invokevirtual 48, 3) := by decide +kernel
theorem dX10_sinks_14 : decode cX10_sinks 14 = .ok (.aload_n 0, 1) := by decide +kernel
theorem dX10_sinks_15 : decode cX10_sinks 15 = .ok (.iload_n 1, 1) := by decide +kernel
theorem dX10_sinks_16 : decode cX10_sinks 16 = .ok (.invokevirtual 65, 3) := by decide +kernel
theorem dX10_sinks_19 : decode cX10_sinks 19 = .ok (.iconst 3, 1) := by decide +kernel
theorem dX10_sinks_20 : decode cX10_sinks 20 = .ok (.imul, 1) := by decide +kernel
theorem dX10_sinks_21 : decode cX10_sinks 21 = .ok (.ireturn, 1) := by decide +kernel
theorem dX10_sinks_22 : decode cX10_sinks 22 = .ok (.aload_n 0, 1) := by decide +kernel
theorem dX10_sinks_23 : decode cX10_sinks 23 = .ok (.iconst 4, 1) := by decide +kernel
theorem dX10_sinks_24 : decode cX10_sinks 24 = .ok (.invokevirtual 45, 3) := by decide +kernel
theorem dX10_sinks_27 : decode cX10_sinks 27 = .ok (.ifCond .eq 23, 3) := by decide +kernel
theorem dX10_sinks_30 : decode cX10_sinks 30 = .ok (.aload_n 0, 1) := by decide +kernel
theorem dX10_sinks_31 : decode cX10_sinks 31 = .ok (.bipush 50, 2) := by decide +kernel
theorem dX10_sinks_33 : decode cX10_sinks 33 = .ok (.invokevirtual 48, 3) := by decide +kernel
theorem dX10_sinks_36 : decode cX10_sinks 36 = .ok (.aload_n 0, 1) := by decide +kernel
theorem dX10_sinks_37 : decode cX10_sinks 37 = .ok (.iload_n 1, 1) := by decide +kernel
theorem dX10_sinks_38 : decode cX10_sinks 38 = .ok (.invokevirtual 65, 3) := by decide +kernel
theorem dX10_sinks_41 : decode cX10_sinks 41 = .ok (.istore_n 2, 1) := by decide +kernel
theorem dX10_sinks_42 : decode cX10_sinks 42 = .ok (.iload_n 2, 1) := by decide +kernel
theorem dX10_sinks_43 : decode cX10_sinks 43 = .ok (.aload_n 0, 1) := by decide +kernel
theorem dX10_sinks_44 : decode cX10_sinks 44 = .ok (.iconst 2, 1) := by decide +kernel
theorem dX10_sinks_45 : decode cX10_sinks 45 = .ok (.invokevirtual 62, 3) := by decide +kernel
theorem dX10_sinks_48 : decode cX10_sinks 48 = .ok (.isub, 1) := by decide +kernel
theorem dX10_sinks_49 : decode cX10_sinks 49 = .ok (.ireturn, 1) := by decide +kernel
theorem dX10_sinks_50 : decode cX10_sinks 50 = .ok (.aload_n 0, 1) := by decide +kernel
theorem dX10_sinks_51 : decode cX10_sinks 51 = .ok (.iload_n 1, 1) := by decide +kernel
theorem dX10_sinks_52 : decode cX10_sinks 52 = .ok (.invokevirtual 65, 3) := by decide +kernel
theorem dX10_sinks_55 : decode cX10_sinks 55 = .ok (.ireturn, 1) := by decide +kernel
theorem dX10_plainSinks_0 : decode cX10_plainSinks 0 = .ok (.aload_n 0, 1) := by decide +kernel
theorem dX10_plainSinks_1 : decode cX10_plainSinks 1 = .ok (.bipush 11, 2) := by decide +kernel
theorem dX10_plainSinks_3 : decode cX10_plainSinks 3 = .ok (.invokevirtual 48, 3) := by decide +kernel
theorem dX10_plainSinks_6 : decode cX10_plainSinks 6 = .ok (.iload_n 1, 1) := by decide +kernel
theorem dX10_plainSinks_7 : decode cX10_plainSinks 7 = .ok (.aload_n 0, 1) := by decide +kernel
theorem dX10_plainSinks_8 : decode cX10_plainSinks 8 = .ok (.getfield 39, 3) := by decide +kernel
theorem dX10_plainSinks_11 : decode cX10_plainSinks 11 = .ok (.ixor, 1) := by decide +kernel
theorem dX10_plainSinks_12 : decode cX10_plainSinks 12 = .ok (.ireturn, 1) := by decide +kernel
theorem dX10_tells_0 : decode cX10_tells 0 = .ok (.aload_n 0, 1) := by decide +kernel
theorem dX10_tells_1 : decode cX10_tells 1 = .ok (.iconst 5, 1) := by decide +kernel
theorem dX10_tells_2 : decode cX10_tells 2 = .ok (.invokevirtual 45, 3) := by decide +kernel
theorem dX10_tells_5 : decode cX10_tells 5 = .ok (.ifCond .eq 17, 3) := by decide +kernel
theorem dX10_tells_8 : decode cX10_tells 8 = .ok (.aload_n 0, 1) := by decide +kernel
theorem dX10_tells_9 : decode cX10_tells 9 = .ok (.bipush 60, 2) := by decide +kernel
theorem dX10_tells_11 : decode cX10_tells 11 = .ok (.invokevirtual 48, 3) := by decide +kernel
theorem dX10_tells_14 : decode cX10_tells 14 = .ok (.aload_n 0, 1) := by decide +kernel
theorem dX10_tells_15 : decode cX10_tells 15 = .ok (.iload_n 1, 1) := by decide +kernel
theorem dX10_tells_16 : decode cX10_tells 16 = .ok (.invokevirtual 68, 3) := by decide +kernel
theorem dX10_tells_19 : decode cX10_tells 19 = .ok (.iconst 5, 1) := by decide +kernel
theorem dX10_tells_20 : decode cX10_tells 20 = .ok (.ixor, 1) := by decide +kernel
theorem dX10_tells_21 : decode cX10_tells 21 = .ok (.ireturn, 1) := by decide +kernel
theorem dX10_tells_22 : decode cX10_tells 22 = .ok (.aload_n 0, 1) := by decide +kernel
theorem dX10_tells_23 : decode cX10_tells 23 = .ok (.bipush 7, 2) := by decide +kernel
theorem dX10_tells_25 : decode cX10_tells 25 = .ok (.invokevirtual 45, 3) := by decide +kernel
theorem dX10_tells_28 : decode cX10_tells 28 = .ok (.ifCond .eq 17, 3) := by decide +kernel
theorem dX10_tells_31 : decode cX10_tells 31 = .ok (.aload_n 0, 1) := by decide +kernel
theorem dX10_tells_32 : decode cX10_tells 32 = .ok (.bipush 81, 2) := by decide +kernel
theorem dX10_tells_34 : decode cX10_tells 34 = .ok (.invokevirtual 48, 3) := by decide +kernel
theorem dX10_tells_37 : decode cX10_tells 37 = .ok (.aload_n 0, 1) := by decide +kernel
theorem dX10_tells_38 : decode cX10_tells 38 = .ok (.iload_n 1, 1) := by decide +kernel
theorem dX10_tells_39 : decode cX10_tells 39 = .ok (.invokevirtual 68, 3) := by decide +kernel
theorem dX10_tells_42 : decode cX10_tells 42 = .ok (.iconst 1, 1) := by decide +kernel
theorem dX10_tells_43 : decode cX10_tells 43 = .ok (.isub, 1) := by decide +kernel
theorem dX10_tells_44 : decode cX10_tells 44 = .ok (.ireturn, 1) := by decide +kernel
theorem dX10_tells_45 : decode cX10_tells 45 = .ok (.aload_n 0, 1) := by decide +kernel
theorem dX10_tells_46 : decode cX10_tells 46 = .ok (.iload_n 1, 1) := by decide +kernel
theorem dX10_tells_47 : decode cX10_tells 47 = .ok (.invokevirtual 68, 3) := by decide +kernel
theorem dX10_tells_50 : decode cX10_tells 50 = .ok (.ireturn, 1) := by decide +kernel
theorem dX10_plainTells_0 : decode cX10_plainTells 0 = .ok (.aload_n 0, 1) := by decide +kernel
theorem dX10_plainTells_1 : decode cX10_plainTells 1 = .ok (.iconst 2, 1) := by decide +kernel
theorem dX10_plainTells_2 : decode cX10_plainTells 2 = .ok (.invokevirtual 48, 3) := by decide +kernel
theorem dX10_plainTells_5 : decode cX10_plainTells 5 = .ok (.aload_n 0, 1) := by decide +kernel
theorem dX10_plainTells_6 : decode cX10_plainTells 6 = .ok (.iload_n 1, 1) := by decide +kernel
theorem dX10_plainTells_7 : decode cX10_plainTells 7 = .ok (.invokevirtual 71, 3) := by decide +kernel
theorem dX10_plainTells_10 : decode cX10_plainTells 10 = .ok (.istore_n 2, 1) := by decide +kernel
theorem dX10_plainTells_11 : decode cX10_plainTells 11 = .ok (.iload_n 2, 1) := by decide +kernel
theorem dX10_plainTells_12 : decode cX10_plainTells 12 = .ok (.aload_n 0, 1) := by decide +kernel
theorem dX10_plainTells_13 : decode cX10_plainTells 13 = .ok (.iconst 1, 1) := by decide +kernel
theorem dX10_plainTells_14 : decode cX10_plainTells 14 = .ok (.invokevirtual 59, 3) := by decide +kernel
theorem dX10_plainTells_17 : decode cX10_plainTells 17 = .ok (.isub, 1) := by decide +kernel
theorem dX10_plainTells_18 : decode cX10_plainTells 18 = .ok (.ireturn, 1) := by decide +kernel
theorem dX11_init_0 : decode cX11_init 0 = .ok (.aload_n 0, 1) := by decide +kernel
theorem dX11_init_1 : decode cX11_init 1 = .ok (.invokespecial 1, 3) := by decide +kernel
theorem dX11_init_4 : decode cX11_init 4 = .ok (.aload_n 0, 1) := by decide +kernel
theorem dX11_init_5 : decode cX11_init 5 = .ok (.new 7, 3) := by decide +kernel
theorem dX11_init_8 : decode cX11_init 8 = .ok (.dup, 1) := by decide +kernel
theorem dX11_init_9 : decode cX11_init 9 = .ok (.invokespecial 9, 3) := by decide +kernel
theorem dX11_init_12 : decode cX11_init 12 = .ok (.putfield 10, 3) := by decide +kernel
theorem dX11_init_15 : decode cX11_init 15 = .ok (.aload_n 0, 1) := by decide +kernel
theorem dX11_init_16 : decode cX11_init 16 = .ok (.new 16, 3) := by decide +kernel
theorem dX11_init_19 : decode cX11_init 19 = .ok (.dup, 1) := by decide +kernel
theorem dX11_init_20 : decode cX11_init 20 = .ok (.aload_n 0, 1) := by decide +kernel
theorem dX11_init_21 : decode cX11_init 21 = .ok (.getfield 10, 3) := by decide +kernel
theorem dX11_init_24 : decode cX11_init 24 = .ok (.invokespecial 18, 3) := by decide +kernel
theorem dX11_init_27 : decode cX11_init 27 = .ok (.putfield 21, 3) := by decide +kernel
theorem dX11_init_30 : decode cX11_init 30 = .ok (.aload_n 0, 1) := by decide +kernel
theorem dX11_init_31 : decode cX11_init 31 = .ok (.new 25, 3) := by decide +kernel
theorem dX11_init_34 : decode cX11_init 34 = .ok (.dup, 1) := by decide +kernel
theorem dX11_init_35 : decode cX11_init 35 = .ok (.invokespecial 27, 3) := by decide +kernel
theorem dX11_init_38 : decode cX11_init 38 = .ok (.putfield 28, 3) := by decide +kernel
theorem dX11_init_41 : decode cX11_init 41 = .ok (.aload_n 0, 1) := by decide +kernel
theorem dX11_init_42 : decode cX11_init 42 = .ok (.new 32, 3) := by decide +kernel
theorem dX11_init_45 : decode cX11_init 45 = .ok (.dup, 1) := by decide +kernel
theorem dX11_init_46 : decode cX11_init 46 = .ok (.invokespecial 34, 3) := by decide +kernel
theorem dX11_init_49 : decode cX11_init 49 = .ok (.putfield 35, 3) := by decide +kernel
theorem dX11_init_52 : decode cX11_init 52 = .ok (.aload_n 0, 1) := by decide +kernel
theorem dX11_init_53 : decode cX11_init 53 = .ok (.new 39, 3) := by decide +kernel
theorem dX11_init_56 : decode cX11_init 56 = .ok (.dup, 1) := by decide +kernel
theorem dX11_init_57 : decode cX11_init 57 = .ok (.invokespecial 41, 3) := by decide +kernel
theorem dX11_init_60 : decode cX11_init 60 = .ok (.putfield 42, 3) := by decide +kernel
theorem dX11_init_63 : decode cX11_init 63 = .ok (.aload_n 0, 1) := by decide +kernel
theorem dX11_init_64 : decode cX11_init 64 = .ok (.new 46, 3) := by decide +kernel
theorem dX11_init_67 : decode cX11_init 67 = .ok (.dup, 1) := by decide +kernel
theorem dX11_init_68 : decode cX11_init 68 = .ok (.aload_n 0, 1) := by decide +kernel
theorem dX11_init_69 : decode cX11_init 69 = .ok (.getfield 10, 3) := by decide +kernel
theorem dX11_init_72 : decode cX11_init 72 = .ok (.aload_n 0, 1) := by decide +kernel
theorem dX11_init_73 : decode cX11_init 73 = .ok (.getfield 35, 3) := by decide +kernel
theorem dX11_init_76 : decode cX11_init 76 = .ok (.aload_n 0, 1) := by decide +kernel
theorem dX11_init_77 : decode cX11_init 77 = .ok (.getfield 42, 3) := by decide +kernel
theorem dX11_init_80 : decode cX11_init 80 = .ok (.invokespecial 48, 3) := by decide +kernel
theorem dX11_init_83 : decode cX11_init 83 = .ok (.putfield 51, 3) := by decide +kernel
theorem dX11_init_86 : decode cX11_init 86 = .ok (.aload_n 0, 1) := by decide +kernel
theorem dX11_init_87 : decode cX11_init 87 = .ok (.new 55, 3) := by decide +kernel
theorem dX11_init_90 : decode cX11_init 90 = .ok (.dup, 1) := by decide +kernel
theorem dX11_init_91 : decode cX11_init 91 = .ok (.invokespecial 57, 3) := by decide +kernel
theorem dX11_init_94 : decode cX11_init 94 = .ok (.putfield 58, 3) := by decide +kernel
theorem dX11_init_97 : decode cX11_init 97 = .ok (.aload_n 0, 1) := by decide +kernel
theorem dX11_init_98 : decode cX11_init 98 = .ok (.new 62, 3) := by decide +kernel
theorem dX11_init_101 : decode cX11_init 101 = .ok (.dup, 1) := by decide +kernel
theorem dX11_init_102 : decode cX11_init 102 = .ok (.aload_n 0, 1) := by decide +kernel
theorem dX11_init_103 : decode cX11_init 103 = .ok (.getfield 10, 3) := by decide +kernel
theorem dX11_init_106 : decode cX11_init 106 = .ok (.invokespecial 64, 3) := by decide +kernel
theorem dX11_init_109 : decode cX11_init 109 = .ok (.putfield 65, 3) := by decide +kernel
theorem dX11_init_112 : decode cX11_init 112 = .ok (.aload_n 0, 1) := by decide +kernel
theorem dX11_init_113 : decode cX11_init 113 = .ok (.new 69, 3) := by decide +kernel
theorem dX11_init_116 : decode cX11_init 116 = .ok (.dup, 1) := by decide +kernel
theorem dX11_init_117 : decode cX11_init 117 = .ok (.invokespecial 71, 3) := by decide +kernel
theorem dX11_init_120 : decode cX11_init 120 = .ok (.putfield 72, 3) := by decide +kernel
theorem dX11_init_123 : decode cX11_init 123 = .ok (.aload_n 0, 1) := by decide +kernel
theorem dX11_init_124 : decode cX11_init 124 = .ok (.new 76, 3) := by decide +kernel
theorem dX11_init_127 : decode cX11_init 127 = .ok (.dup, 1) := by decide +kernel
theorem dX11_init_128 : decode cX11_init 128 = .ok (.invokespecial 78, 3) := by decide +kernel
theorem dX11_init_131 : decode cX11_init 131 = .ok (.putfield 79, 3) := by decide +kernel
theorem dX11_init_134 : decode cX11_init 134 = .ok (.aload_n 0, 1) := by decide +kernel
theorem dX11_init_135 : decode cX11_init 135 = .ok (.new 83, 3) := by decide +kernel
theorem dX11_init_138 : decode cX11_init 138 = .ok (.dup, 1) := by decide +kernel
theorem dX11_init_139 : decode cX11_init 139 = .ok (.invokespecial 85, 3) := by decide +kernel
theorem dX11_init_142 : decode cX11_init 142 = .ok (.putfield 86, 3) := by decide +kernel
theorem dX11_init_145 : decode cX11_init 145 = .ok (.return_, 1) := by decide +kernel
theorem dX11_swimmer_0 : decode cX11_swimmer 0 = .ok (.iload_n 1, 1) := by decide +kernel
theorem dX11_swimmer_1 : decode cX11_swimmer 1 = .ok (.ifCond .ge 5, 3) := by decide +kernel
theorem dX11_swimmer_4 : decode cX11_swimmer 4 = .ok (.iconst (-1), 1) := by decide +kernel
theorem dX11_swimmer_5 : decode cX11_swimmer 5 = .ok (.ireturn, 1) := by decide +kernel
theorem dX11_swimmer_6 : decode cX11_swimmer 6 = .ok (.iload_n 1, 1) := by decide +kernel
theorem dX11_swimmer_7 : decode cX11_swimmer 7 = .ok (.bipush 100, 2) := by decide +kernel
theorem dX11_swimmer_9 : decode cX11_swimmer 9 = .ok (.irem, 1) := by decide +kernel
theorem dX11_swimmer_10 : decode cX11_swimmer 10 = .ok (.istore_n 3, 1) := by decide +kernel
theorem dX11_swimmer_11 : decode cX11_swimmer 11 = .ok (.iload_n 1, 1) := by decide +kernel
theorem dX11_swimmer_12 : decode cX11_swimmer 12 = .ok (.bipush 100, 2) := by decide +kernel
theorem dX11_swimmer_14 : decode cX11_swimmer 14 = .ok (.idiv, 1) := by decide +kernel
theorem dX11_swimmer_15 : decode cX11_swimmer 15 = .ok (.istore 4, 2) := by decide +kernel
theorem dX11_swimmer_17 : decode cX11_swimmer 17 = .ok (.iload_n 3, 1) := by decide +kernel
theorem dX11_swimmer_18 : decode cX11_swimmer 18 = .ok (.iload 4, 2) := by decide +kernel
theorem dX11_swimmer_20 : decode cX11_swimmer 20 = .ok (.iload_n 2, 1) := by decide +kernel
theorem dX11_swimmer_21 : decode cX11_swimmer 21 = .ok (.iconst 0, 1) := by decide +kernel
theorem dX11_swimmer_22 : decode cX11_swimmer 22 = .ok (.invokestatic 90, 3) := by decide +kernel
theorem dX11_swimmer_25 : decode cX11_swimmer 25 = .ok (.ifCond .ne 5, 3) := by decide +kernel
theorem dX11_swimmer_28 : decode cX11_swimmer 28 = .ok (.iconst (-1), 1) := by decide +kernel
theorem dX11_swimmer_29 : decode cX11_swimmer 29 = .ok (.ireturn, 1) := by decide +kernel
theorem dX11_swimmer_30 : decode cX11_swimmer 30 = .ok (.aload_n 0, 1) := by decide +kernel
theorem dX11_swimmer_31 : decode cX11_swimmer 31 = .ok (.getfield 10, 3) := by decide +kernel
theorem dX11_swimmer_34 : decode cX11_swimmer 34 = .ok (.invokevirtual 94, 3) := by decide +kernel
theorem dX11_swimmer_37 : decode cX11_swimmer 37 = .ok (.ifCond .eq 8, 3) := by decide +kernel
theorem dX11_swimmer_40 : decode cX11_swimmer 40 = .ok (.bipush (-3), 2) := by decide +kernel
theorem dX11_swimmer_42 : decode cX11_swimmer 42 = .ok (.goto 15, 3) := by decide +kernel
theorem dX11_swimmer_45 : decode cX11_swimmer 45 = .ok (.aload_n 0, 1) := by decide +kernel
theorem dX11_swimmer_46 : decode cX11_swimmer 46 = .ok (.getfield 10, 3) := by decide +kernel
theorem dX11_swimmer_49 : decode cX11_swimmer 49 = .ok (.iload_n 3, 1) := by decide +kernel
theorem dX11_swimmer_50 : decode cX11_swimmer 50 = .ok (.iload 4, 2) := by decide +kernel
theorem dX11_swimmer_52 : decode cX11_swimmer 52 = .ok (.iload_n 2, 1) := by decide +kernel
theorem dX11_swimmer_53 : decode cX11_swimmer 53 = .ok (.iconst 0, 1) := by decide +kernel
theorem dX11_swimmer_54 : decode cX11_swimmer 54 = .ok (.invokevirtual 98, 3) := by decide +kernel
theorem dX11_swimmer_57 : decode cX11_swimmer 57 = .ok (.ireturn, 1) := by decide +kernel
theorem dX11_swimmers_0 : decode cX11_swimmers 0 = .ok (.iload_n 1, 1) := by decide +kernel
theorem dX11_swimmers_1 : decode cX11_swimmers 1 = .ok (.invokestatic 102, 3) := by decide +kernel
theorem dX11_swimmers_4 : decode cX11_swimmers 4 = .ok (.ifCond .eq 14, 3) := by decide +kernel
theorem dX11_swimmers_7 : decode cX11_swimmers 7 = .ok (.iload_n 3, 1) := by decide +kernel
theorem dX11_swimmers_8 : decode cX11_swimmers 8 = .ok (.iconst 1, 1) := by decide +kernel
theorem dX11_swimmers_9 : decode cX11_swimmers 9 = .ok (.if_icmp .lt 9, 3) := by decide +kernel
theorem dX11_swimmers_12 : decode cX11_swimmers 12 = .ok (.iload_n 3, 1) := by decide +kernel
theorem dX11_swimmers_13 : decode cX11_swimmers 13 = .ok (.bipush 8, 2) := by decide +kernel
theorem dX11_swimmers_15 : decode cX11_swimmers 15 = .ok (.if_icmp .le 5, 3) := by decide +kernel
theorem dX11_swimmers_18 : decode cX11_swimmers 18 = .ok (.iconst (-1), 1) := by decide +kernel
theorem dX11_swimmers_19 : decode cX11_swimmers 19 = .ok (.ireturn, 1) := by decide +kernel
theorem dX11_swimmers_20 : decode cX11_swimmers 20 = .ok (.aload_n 0, 1) := by decide +kernel
theorem dX11_swimmers_21 : decode cX11_swimmers 21 = .ok (.getfield 86, 3) := by decide +kernel
theorem dX11_swimmers_24 : decode cX11_swimmers 24 = .ok (.iload_n 1, 1) := by decide +kernel
theorem dX11_swimmers_25 : decode cX11_swimmers 25 = .ok (.iconst 0, 1) := by decide +kernel
theorem dX11_swimmers_26 : decode cX11_swimmers 26 = .ok (.invokevirtual 106, 3) := by decide +kernel
theorem dX11_swimmers_29 : decode cX11_swimmers 29 = .ok (.istore 4, 2) := by decide +kernel
theorem dX11_swimmers_31 : decode cX11_swimmers 31 = .ok (.iload 4, 2) := by decide +kernel
theorem dX11_swimmers_33 : decode cX11_swimmers 33 = .ok (.bipush (-11), 2) := by decide +kernel
theorem dX11_swimmers_35 : decode cX11_swimmers 35 = .ok (.if_icmp .ne 5, 3) := by decide +kernel
theorem dX11_swimmers_38 : decode cX11_swimmers 38 = .ok (.iconst 0, 1) := by decide +kernel
theorem dX11_swimmers_39 : decode cX11_swimmers 39 = .ok (.ireturn, 1) := by decide +kernel
theorem dX11_swimmers_40 : decode cX11_swimmers 40 = .ok (.iload 4, 2) := by decide +kernel
theorem dX11_swimmers_42 : decode cX11_swimmers 42 = .ok (.ifCond .eq 8, 3) := by decide +kernel
theorem dX11_swimmers_45 : decode cX11_swimmers 45 = .ok (.iload 4, 2) := by decide +kernel
theorem dX11_swimmers_47 : decode cX11_swimmers 47 = .ok (.goto 28, 3) := by decide +kernel
theorem dX11_swimmers_50 : decode cX11_swimmers 50 = .ok (.aload_n 0, 1) := by decide +kernel
theorem dX11_swimmers_51 : decode cX11_swimmers 51 = .ok (.getfield 10, 3) := by decide +kernel
theorem dX11_swimmers_54 : decode cX11_swimmers 54 = .ok (.aload_n 0, 1) := by decide +kernel
theorem dX11_swimmers_55 : decode cX11_swimmers 55 = .ok (.getfield 86, 3) := by decide +kernel
theorem dX11_swimmers_58 : decode cX11_swimmers 58 = .ok (.iload_n 1, 1) := by decide +kernel
theorem dX11_swimmers_59 : decode cX11_swimmers 59 = .ok (.invokevirtual 110, 3) := by decide +kernel
theorem dX11_swimmers_62 : decode cX11_swimmers 62 = .ok (.aload_n 0, 1) := by decide +kernel
theorem dX11_swimmers_63 : decode cX11_swimmers 63 = .ok (.getfield 86, 3) := by decide +kernel
theorem dX11_swimmers_66 : decode cX11_swimmers 66 = .ok (.iload_n 1, 1) := by decide +kernel
theorem dX11_swimmers_67 : decode cX11_swimmers 67 = .ok (.invokevirtual 114, 3) := by decide +kernel
theorem dX11_swimmers_70 : decode cX11_swimmers 70 = .ok (.iload_n 2, 1) := by decide +kernel
theorem dX11_swimmers_71 : decode cX11_swimmers 71 = .ok (.iload_n 3, 1) := by decide +kernel
theorem dX11_swimmers_72 : decode cX11_swimmers 72 = .ok (.invokevirtual 118, 3) := by decide +kernel
theorem dX11_swimmers_75 : decode cX11_swimmers 75 = .ok (.ireturn, 1) := by decide +kernel
theorem dX11_mend_0 : decode cX11_mend 0 = .ok (.aload_n 0, 1) := by decide +kernel
theorem dX11_mend_1 : decode cX11_mend 1 = .ok (.getfield 10, 3) := by decide +kernel
theorem dX11_mend_4 : decode cX11_mend 4 = .ok (.iload_n 1, 1) := by decide +kernel
theorem dX11_mend_5 : decode cX11_mend 5 = .ok (.iload_n 2, 1) := by decide +kernel
theorem dX11_mend_6 : decode cX11_mend 6 = .ok (.invokevirtual 122, 3) := by decide +kernel
theorem dX11_mend_9 : decode cX11_mend 9 = .ok (.ifCond .eq 11, 3) := by decide +kernel
theorem dX11_mend_12 : decode cX11_mend 12 = .ok (.iload_n 2, 1) := by decide +kernel
theorem dX11_mend_13 : decode cX11_mend 13 = .ok (.iload_n 3, 1) := by decide +kernel
theorem dX11_mend_14 : decode cX11_mend 14 = .ok (.invokestatic 126, 3) := by decide +kernel
theorem dX11_mend_17 : decode cX11_mend 17 = .ok (.ifCond .ne 6, 3) := by decide +kernel
theorem dX11_mend_20 : decode cX11_mend 20 = .ok (.ldc 129, 2) := by decide +kernel
theorem dX11_mend_22 : decode cX11_mend 22 = .ok (.ireturn, 1) := by decide +kernel
theorem dX11_mend_23 : decode cX11_mend 23 = .ok (.aload_n 0, 1) := by decide +kernel
theorem dX11_mend_24 : decode cX11_mend 24 = .ok (.getfield 10, 3) := by decide +kernel
theorem dX11_mend_27 : decode cX11_mend 27 = .ok (.iload_n 1, 1) := by decide +kernel
theorem dX11_mend_28 : decode cX11_mend 28 = .ok (.iload_n 2, 1) := by decide +kernel
theorem dX11_mend_29 : decode cX11_mend 29 = .ok (.invokevirtual 130, 3) := by decide +kernel
theorem dX11_mend_32 : decode cX11_mend 32 = .ok (.istore 4, 2) := by decide +kernel
theorem dX11_mend_34 : decode cX11_mend 34 = .ok (.aload_n 0, 1) := by decide +kernel
theorem dX11_mend_35 : decode cX11_mend 35 = .ok (.getfield 21, 3) := by decide +kernel
theorem dX11_mend_38 : decode cX11_mend 38 = .ok (.iload_n 1, 1) := by decide +kernel
theorem dX11_mend_39 : decode cX11_mend 39 = .ok (.iload_n 2, 1) := by decide +kernel
theorem dX11_mend_40 : decode cX11_mend 40 = .ok (.iload_n 3, 1) := by decide +kernel
theorem dX11_mend_41 : decode cX11_mend 41 = .ok (.invokevirtual 133, 3) := by decide +kernel
theorem dX11_mend_44 : decode cX11_mend 44 = .ok (.iload 4, 2) := by decide +kernel
theorem dX11_mend_46 : decode cX11_mend 46 = .ok (.ireturn, 1) := by decide +kernel
theorem dX11_of_0 : decode cX11_of 0 = .ok (.iload_n 2, 1) := by decide +kernel
theorem dX11_of_1 : decode cX11_of 1 = .ok (.bipush 9, 2) := by decide +kernel
theorem dX11_of_3 : decode cX11_of 3 = .ok (.if_icmp .eq 9, 3) := by decide +kernel
theorem dX11_of_6 : decode cX11_of 6 = .ok (.iload_n 2, 1) := by decide +kernel
theorem dX11_of_7 : decode cX11_of 7 = .ok (.bipush 10, 2) := by decide +kernel
theorem dX11_of_9 : decode cX11_of 9 = .ok (.if_icmp .ne 39, 3) := by decide +kernel
theorem dX11_of_12 : decode cX11_of 12 = .ok (.aload_n 0, 1) := by decide +kernel
theorem dX11_of_13 : decode cX11_of 13 = .ok (.getfield 10, 3) := by decide +kernel
theorem dX11_of_16 : decode cX11_of 16 = .ok (.iload_n 1, 1) := by decide +kernel
theorem dX11_of_17 : decode cX11_of 17 = .ok (.invokevirtual 137, 3) := by decide +kernel
theorem dX11_of_20 : decode cX11_of 20 = .ok (.ifCond .eq 25, 3) := by decide +kernel
theorem dX11_of_23 : decode cX11_of 23 = .ok (.aload_n 0, 1) := by decide +kernel
theorem dX11_of_24 : decode cX11_of 24 = .ok (.getfield 72, 3) := by decide +kernel
theorem dX11_of_27 : decode cX11_of 27 = .ok (.iload_n 1, 1) := by decide +kernel
theorem dX11_of_28 : decode cX11_of 28 = .ok (.iload_n 2, 1) := by decide +kernel
theorem dX11_of_29 : decode cX11_of 29 = .ok (.bipush 9, 2) := by decide +kernel
theorem dX11_of_31 : decode cX11_of 31 = .ok (.if_icmp .ne 7, 3) := by decide +kernel
theorem dX11_of_34 : decode cX11_of 34 = .ok (.iconst 1, 1) := by decide +kernel
theorem dX11_of_35 : decode cX11_of 35 = .ok (.goto 4, 3) := by decide +kernel
theorem dX11_of_38 : decode cX11_of 38 = .ok (.iconst 0, 1) := by decide +kernel
theorem dX11_of_39 : decode cX11_of 39 = .ok (.invokevirtual 140, 3) := by decide +kernel
theorem dX11_of_42 : decode cX11_of 42 = .ok (.goto 5, 3) := by decide +kernel
theorem dX11_of_45 : decode cX11_of 45 = .ok (.ldc 129, 2) := by decide +kernel
theorem dX11_of_47 : decode cX11_of 47 = .ok (.ireturn, 1) := by decide +kernel
theorem dX11_of_48 : decode cX11_of 48 = .ok (.aload_n 0, 1) := by decide +kernel
theorem dX11_of_49 : decode cX11_of 49 = .ok (.getfield 10, 3) := by decide +kernel
theorem dX11_of_52 : decode cX11_of 52 = .ok (.iload_n 1, 1) := by decide +kernel
theorem dX11_of_53 : decode cX11_of 53 = .ok (.iload_n 2, 1) := by decide +kernel
theorem dX11_of_54 : decode cX11_of 54 = .ok (.invokevirtual 122, 3) := by decide +kernel
theorem dX11_of_57 : decode cX11_of 57 = .ok (.ifCond .eq 15, 3) := by decide +kernel
theorem dX11_of_60 : decode cX11_of 60 = .ok (.aload_n 0, 1) := by decide +kernel
theorem dX11_of_61 : decode cX11_of 61 = .ok (.getfield 10, 3) := by decide +kernel
theorem dX11_of_64 : decode cX11_of 64 = .ok (.iload_n 1, 1) := by decide +kernel
theorem dX11_of_65 : decode cX11_of 65 = .ok (.iload_n 2, 1) := by decide +kernel
theorem dX11_of_66 : decode cX11_of 66 = .ok (.invokevirtual 130, 3) := by decide +kernel
theorem dX11_of_69 : decode cX11_of 69 = .ok (.goto 5, 3) := by decide +kernel
theorem dX11_of_72 : decode cX11_of 72 = .ok (.ldc 129, 2) := by decide +kernel
theorem dX11_of_74 : decode cX11_of 74 = .ok (.ireturn, 1) := by decide +kernel
theorem dX11_feed_0 : decode cX11_feed 0 = .ok (.iload_n 1, 1) := by decide +kernel
theorem dX11_feed_1 : decode cX11_feed 1 = .ok (.ifCond .lt 10, 3) := by decide +kernel
theorem dX11_feed_4 : decode cX11_feed 4 = .ok (.iload_n 1, 1) := by decide +kernel
theorem dX11_feed_5 : decode cX11_feed 5 = .ok (.sipush 255, 3) := by decide +kernel
theorem dX11_feed_8 : decode cX11_feed 8 = .ok (.if_icmp .le 5, 3) := by decide +kernel
theorem dX11_feed_11 : decode cX11_feed 11 = .ok (.iconst (-1), 1) := by decide +kernel
theorem dX11_feed_12 : decode cX11_feed 12 = .ok (.ireturn, 1) := by decide +kernel
theorem dX11_feed_13 : decode cX11_feed 13 = .ok (.aload_n 0, 1) := by decide +kernel
theorem dX11_feed_14 : decode cX11_feed 14 = .ok (.getfield 28, 3) := by decide +kernel
theorem dX11_feed_17 : decode cX11_feed 17 = .ok (.invokevirtual 143, 3) := by decide +kernel
theorem dX11_feed_20 : decode cX11_feed 20 = .ok (.ifCond .eq 8, 3) := by decide +kernel
theorem dX11_feed_23 : decode cX11_feed 23 = .ok (.bipush (-3), 2) := by decide +kernel
theorem dX11_feed_25 : decode cX11_feed 25 = .ok (.goto 11, 3) := by decide +kernel
theorem dX11_feed_28 : decode cX11_feed 28 = .ok (.aload_n 0, 1) := by decide +kernel
theorem dX11_feed_29 : decode cX11_feed 29 = .ok (.getfield 28, 3) := by decide +kernel
theorem dX11_feed_32 : decode cX11_feed 32 = .ok (.iload_n 1, 1) := by decide +kernel
theorem dX11_feed_33 : decode cX11_feed 33 = .ok (.invokevirtual 144, 3) := by decide +kernel
theorem dX11_feed_36 : decode cX11_feed 36 = .ok (.ireturn, 1) := by decide +kernel
theorem dX11_law_0 : decode cX11_law 0 = .ok (.aload_n 0, 1) := by decide +kernel
theorem dX11_law_1 : decode cX11_law 1 = .ok (.getfield 28, 3) := by decide +kernel
theorem dX11_law_4 : decode cX11_law 4 = .ok (.invokevirtual 147, 3) := by decide +kernel
theorem dX11_law_7 : decode cX11_law 7 = .ok (.istore_n 1, 1) := by decide +kernel
theorem dX11_law_8 : decode cX11_law 8 = .ok (.iload_n 1, 1) := by decide +kernel
theorem dX11_law_9 : decode cX11_law 9 = .ok (.ifCond .eq 7, 3) := by decide +kernel
theorem dX11_law_12 : decode cX11_law 12 = .ok (.iconst 1, 1) := by decide +kernel
theorem dX11_law_13 : decode cX11_law 13 = .ok (.goto 13, 3) := by decide +kernel
theorem dX11_law_16 : decode cX11_law 16 = .ok (.bipush (-100), 2) := by decide +kernel
theorem dX11_law_18 : decode cX11_law 18 = .ok (.aload_n 0, 1) := by decide +kernel
theorem dX11_law_19 : decode cX11_law 19 = .ok (.getfield 28, 3) := by decide +kernel
theorem dX11_law_22 : decode cX11_law 22 = .ok (.invokevirtual 150, 3) := by decide +kernel
theorem dX11_law_25 : decode cX11_law 25 = .ok (.isub, 1) := by decide +kernel
theorem dX11_law_26 : decode cX11_law 26 = .ok (.istore_n 2, 1) := by decide +kernel
theorem dX11_law_27 : decode cX11_law 27 = .ok (.iload_n 1, 1) := by decide +kernel
theorem dX11_law_28 : decode cX11_law 28 = .ok (.ifCond .eq 24, 3) := by decide +kernel
theorem dX11_law_31 : decode cX11_law 31 = .ok (.aload_n 0, 1) := by decide +kernel
theorem dX11_law_32 : decode cX11_law 32 = .ok (.getfield 35, 3) := by decide +kernel
theorem dX11_law_35 : decode cX11_law 35 = .ok (.aload_n 0, 1) := by decide +kernel
theorem dX11_law_36 : decode cX11_law 36 = .ok (.getfield 28, 3) := by decide +kernel
theorem dX11_law_39 : decode cX11_law 39 = .ok (.invokevirtual 154, 3) := by decide +kernel
theorem dX11_law_42 : decode cX11_law 42 = .ok (.aload_n 0, 1) := by decide +kernel
theorem dX11_law_43 : decode cX11_law 43 = .ok (.getfield 28, 3) := by decide +kernel
theorem dX11_law_46 : decode cX11_law 46 = .ok (.invokevirtual 158, 3) := by decide +kernel
theorem dX11_law_49 : decode cX11_law 49 = .ok (.invokevirtual 161, 3) := by decide +kernel
theorem dX11_law_52 : decode cX11_law 52 = .ok (.aload_n 0, 1) := by decide +kernel
theorem dX11_law_53 : decode cX11_law 53 = .ok (.getfield 28, 3) := by decide +kernel
theorem dX11_law_56 : decode cX11_law 56 = .ok (.invokevirtual 165, 3) := by decide +kernel
theorem dX11_law_59 : decode cX11_law 59 = .ok (.iload_n 2, 1) := by decide +kernel
theorem dX11_law_60 : decode cX11_law 60 = .ok (.ireturn, 1) := by decide +kernel
theorem dX11_loses_0 : decode cX11_loses 0 = .ok (.iload_n 1, 1) := by decide +kernel
theorem dX11_loses_1 : decode cX11_loses 1 = .ok (.ifCond .lt 18, 3) := by decide +kernel
theorem dX11_loses_4 : decode cX11_loses 4 = .ok (.iload_n 3, 1) := by decide +kernel
theorem dX11_loses_5 : decode cX11_loses 5 = .ok (.ifCond .lt 14, 3) := by decide +kernel
theorem dX11_loses_8 : decode cX11_loses 8 = .ok (.iload_n 2, 1) := by decide +kernel
theorem dX11_loses_9 : decode cX11_loses 9 = .ok (.ifCond .lt 10, 3) := by decide +kernel
theorem dX11_loses_12 : decode cX11_loses 12 = .ok (.iload_n 2, 1) := by decide +kernel
theorem dX11_loses_13 : decode cX11_loses 13 = .ok (.sipush 9999, 3) := by decide +kernel
theorem dX11_loses_16 : decode cX11_loses 16 = .ok (.if_icmp .le 5, 3) := by decide +kernel
theorem dX11_loses_19 : decode cX11_loses 19 = .ok (.iconst (-1), 1) := by decide +kernel
theorem dX11_loses_20 : decode cX11_loses 20 = .ok (.ireturn, 1) := by decide +kernel
theorem dX11_loses_21 : decode cX11_loses 21 = .ok (.iload_n 1, 1) := by decide +kernel
theorem dX11_loses_22 : decode cX11_loses 22 = .ok (.bipush 10, 2) := by decide +kernel
theorem dX11_loses_24 : decode cX11_loses 24 = .ok (.idiv, 1) := by decide +kernel
theorem dX11_loses_25 : decode cX11_loses 25 = .ok (.istore 4, 2) := by decide +kernel
theorem dX11_loses_27 : decode cX11_loses 27 = .ok (.iload_n 1, 1) := by decide +kernel
theorem dX11_loses_28 : decode cX11_loses 28 = .ok (.bipush 10, 2) := by decide +kernel
theorem dX11_loses_30 : decode cX11_loses 30 = .ok (.irem, 1) := by decide +kernel
theorem dX11_loses_31 : decode cX11_loses 31 = .ok (.istore 5, 2) := by decide +kernel
theorem dX11_loses_33 : decode cX11_loses 33 = .ok (.iload_n 3, 1) := by decide +kernel
theorem dX11_loses_34 : decode cX11_loses 34 = .ok (.bipush 100, 2) := by decide +kernel
theorem dX11_loses_36 : decode cX11_loses 36 = .ok (.idiv, 1) := by decide +kernel
theorem dX11_loses_37 : decode cX11_loses 37 = .ok (.istore 6, 2) := by decide +kernel
theorem dX11_loses_39 : decode cX11_loses 39 = .ok (.iload_n 3, 1) := by decide +kernel
theorem dX11_loses_40 : decode cX11_loses 40 = .ok (.bipush 100, 2) := by decide +kernel
theorem dX11_loses_42 : decode cX11_loses 42 = .ok (.irem, 1) := by decide +kernel
theorem dX11_loses_43 : decode cX11_loses 43 = .ok (.istore 7, 2) := by decide +kernel
theorem dX11_loses_45 : decode cX11_loses 45 = .ok (.aload_n 0, 1) := by decide +kernel
theorem dX11_loses_46 : decode cX11_loses 46 = .ok (.getfield 10, 3) := by decide +kernel
theorem dX11_loses_49 : decode cX11_loses 49 = .ok (.iload 4, 2) := by decide +kernel
theorem dX11_loses_51 : decode cX11_loses 51 = .ok (.invokevirtual 137, 3) := by decide +kernel
theorem dX11_loses_54 : decode cX11_loses 54 = .ok (.ifCond .eq 38, 3) := by decide +kernel
theorem dX11_loses_57 : decode cX11_loses 57 = .ok (.aload_n 0, 1) := by decide +kernel
theorem dX11_loses_58 : decode cX11_loses 58 = .ok (.getfield 10, 3) := by decide +kernel
theorem dX11_loses_61 : decode cX11_loses 61 = .ok (.iload 5, 2) := by decide +kernel
theorem dX11_loses_63 : decode cX11_loses 63 = .ok (.invokevirtual 137, 3) := by decide +kernel
theorem dX11_loses_66 : decode cX11_loses 66 = .ok (.ifCond .eq 26, 3) := by decide +kernel
theorem dX11_loses_69 : decode cX11_loses 69 = .ok (.iload 4, 2) := by decide +kernel
theorem dX11_loses_71 : decode cX11_loses 71 = .ok (.iload 5, 2) := by decide +kernel
theorem dX11_loses_73 : decode cX11_loses 73 = .ok (.if_icmp .eq 19, 3) := by decide +kernel
theorem dX11_loses_76 : decode cX11_loses 76 = .ok (.iload 6, 2) := by decide +kernel
theorem dX11_loses_78 : decode cX11_loses 78 = .ok (.i2l, 1) := by decide +kernel
theorem dX11_loses_79 : decode cX11_loses 79 = .ok (.invokestatic 168, 3) := by decide +kernel
theorem dX11_loses_82 : decode cX11_loses 82 = .ok (.ifCond .eq 10, 3) := by decide +kernel
theorem dX11_loses_85 : decode cX11_loses 85 = .ok (.iload 7, 2) := by decide +kernel
theorem dX11_loses_87 : decode cX11_loses 87 = .ok (.bipush 60, 2) := by decide +kernel
theorem dX11_loses_89 : decode cX11_loses 89 = .ok (.if_icmp .lt 5, 3) := by decide +kernel
theorem dX11_loses_92 : decode cX11_loses 92 = .ok (.iconst (-1), 1) := by decide +kernel
theorem dX11_loses_93 : decode cX11_loses 93 = .ok (.ireturn, 1) := by decide +kernel
theorem dX11_loses_94 : decode cX11_loses 94 = .ok (.aload_n 0, 1) := by decide +kernel
theorem dX11_loses_95 : decode cX11_loses 95 = .ok (.getfield 51, 3) := by decide +kernel
theorem dX11_loses_98 : decode cX11_loses 98 = .ok (.invokevirtual 172, 3) := by decide +kernel
theorem dX11_loses_101 : decode cX11_loses 101 = .ok (.aload_n 0, 1) := by decide +kernel
theorem dX11_loses_102 : decode cX11_loses 102 = .ok (.getfield 51, 3) := by decide +kernel
theorem dX11_loses_105 : decode cX11_loses 105 = .ok (.iload 4, 2) := by decide +kernel
theorem dX11_loses_107 : decode cX11_loses 107 = .ok (.iload 5, 2) := by decide +kernel
theorem dX11_loses_109 : decode cX11_loses 109 = .ok (.iload_n 2, 1) := by decide +kernel
theorem dX11_loses_110 : decode cX11_loses 110 = .ok (.iload 6, 2) := by decide +kernel
theorem dX11_loses_112 : decode cX11_loses 112 = .ok (.iload 7, 2) := by decide +kernel
theorem dX11_loses_114 : decode cX11_loses 114 = .ok (.invokevirtual 175, 3) := by decide +kernel
theorem dX11_loses_117 : decode cX11_loses 117 = .ok (.ireturn, 1) := by decide +kernel
theorem dX11_routine_0 : decode cX11_routine 0 = .ok (.aload_n 0, 1) := by decide +kernel
theorem dX11_routine_1 : decode cX11_routine 1 = .ok (.iload_n 1, 1) := by decide +kernel
theorem dX11_routine_2 : decode cX11_routine 2 = .ok (.iload_n 2, 1) := by decide +kernel
theorem dX11_routine_3 : decode cX11_routine 3 = .ok (.ifCond .lt 12, 3) := by decide +kernel
theorem dX11_routine_6 : decode cX11_routine 6 = .ok (.iload_n 2, 1) := by decide +kernel
theorem dX11_routine_7 : decode cX11_routine 7 = .ok (.iconst 3, 1) := by decide +kernel
theorem dX11_routine_8 : decode cX11_routine 8 = .ok (.if_icmp .gt 7, 3) := by decide +kernel
theorem dX11_routine_11 : decode cX11_routine 11 = .ok (.iconst 1, 1) := by decide +kernel
theorem dX11_routine_12 : decode cX11_routine 12 = .ok (.goto 4, 3) := by decide +kernel
theorem dX11_routine_15 : decode cX11_routine 15 = .ok (.iconst 0, 1) := by decide +kernel
theorem dX11_routine_16 : decode cX11_routine 16 = .ok (.invokevirtual 179, 3) := by decide +kernel
theorem dX11_routine_19 : decode cX11_routine 19 = .ok (.istore_n 3, 1) := by decide +kernel
theorem dX11_routine_20 : decode cX11_routine 20 = .ok (.iload_n 3, 1) := by decide +kernel
theorem dX11_routine_21 : decode cX11_routine 21 = .ok (.ifCond .eq 5, 3) := by decide +kernel
theorem dX11_routine_24 : decode cX11_routine 24 = .ok (.iload_n 3, 1) := by decide +kernel
theorem dX11_routine_25 : decode cX11_routine 25 = .ok (.ireturn, 1) := by decide +kernel
theorem dX11_routine_26 : decode cX11_routine 26 = .ok (.iload_n 2, 1) := by decide +kernel
theorem dX11_routine_27 : decode cX11_routine 27 = .ok (.tableswitch 49 0 2 #[25, 33, 41], 25) := by decide +kernel
theorem dX11_routine_52 : decode cX11_routine 52 = .ok (.aload_n 0, 1) := by decide +kernel
theorem dX11_routine_53 : decode cX11_routine 53 = .ok (.getfield 42, 3) := by decide +kernel
theorem dX11_routine_56 : decode cX11_routine 56 = .ok (.invokevirtual 182, 3) := by decide +kernel
theorem dX11_routine_59 : decode cX11_routine 59 = .ok (.ireturn, 1) := by decide +kernel
theorem dX11_routine_60 : decode cX11_routine 60 = .ok (.aload_n 0, 1) := by decide +kernel
theorem dX11_routine_61 : decode cX11_routine 61 = .ok (.getfield 51, 3) := by decide +kernel
theorem dX11_routine_64 : decode cX11_routine 64 = .ok (.invokevirtual 185, 3) := by decide +kernel
theorem dX11_routine_67 : decode cX11_routine 67 = .ok (.ireturn, 1) := by decide +kernel
theorem dX11_routine_68 : decode cX11_routine 68 = .ok (.aload_n 0, 1) := by decide +kernel
theorem dX11_routine_69 : decode cX11_routine 69 = .ok (.getfield 51, 3) := by decide +kernel
theorem dX11_routine_72 : decode cX11_routine 72 = .ok (.invokevirtual 188, 3) := by decide +kernel
theorem dX11_routine_75 : decode cX11_routine 75 = .ok (.ireturn, 1) := by decide +kernel
theorem dX11_routine_76 : decode cX11_routine 76 = .ok (.aload_n 0, 1) := by decide +kernel
theorem dX11_routine_77 : decode cX11_routine 77 = .ok (.getfield 51, 3) := by decide +kernel
theorem dX11_routine_80 : decode cX11_routine 80 = .ok (.invokevirtual 191, 3) := by decide +kernel
theorem dX11_routine_83 : decode cX11_routine 83 = .ok (.ireturn, 1) := by decide +kernel
theorem dX11_off_0 : decode cX11_off 0 = .ok (.aload_n 0, 1) := by decide +kernel
theorem dX11_off_1 : decode cX11_off 1 = .ok (.iload_n 1, 1) := by decide +kernel
theorem dX11_off_2 : decode cX11_off 2 = .ok (.iload_n 2, 1) := by decide +kernel
theorem dX11_off_3 : decode cX11_off 3 = .ok (.ifCond .lt 24, 3) := by decide +kernel
theorem dX11_off_6 : decode cX11_off 6 = .ok (.iload_n 2, 1) := by decide +kernel
theorem dX11_off_7 : decode cX11_off 7 = .ok (.bipush 60, 2) := by decide +kernel
theorem dX11_off_9 : decode cX11_off 9 = .ok (.if_icmp .gt 18, 3) := by decide +kernel
theorem dX11_off_12 : decode cX11_off 12 = .ok (.aload_n 0, 1) := by decide +kernel
theorem dX11_off_13 : decode cX11_off 13 = .ok (.getfield 10, 3) := by decide +kernel
theorem dX11_off_16 : decode cX11_off 16 = .ok (.iload_n 3, 1) := by decide +kernel
theorem dX11_off_17 : decode cX11_off 17 = .ok (.invokevirtual 137, 3) := by decide +kernel
theorem dX11_off_20 : decode cX11_off 20 = .ok (.ifCond .eq 7, 3) := by decide +kernel
theorem dX11_off_23 : decode cX11_off 23 = .ok (.iconst 1, 1) := by decide +kernel
theorem dX11_off_24 : decode cX11_off 24 = .ok (.goto 4, 3) := by decide +kernel
theorem dX11_off_27 : decode cX11_off 27 = .ok (.iconst 0, 1) := by decide +kernel
theorem dX11_off_28 : decode cX11_off 28 = .ok (.invokevirtual 179, 3) := by decide +kernel
theorem dX11_off_31 : decode cX11_off 31 = .ok (.ifCond .eq 6, 3) := by decide +kernel
theorem dX11_off_34 : decode cX11_off 34 = .ok (.ldc 129, 2) := by decide +kernel
theorem dX11_off_36 : decode cX11_off 36 = .ok (.ireturn, 1) := by decide +kernel
theorem dX11_off_37 : decode cX11_off 37 = .ok (.aload_n 0, 1) := by decide +kernel
theorem dX11_off_38 : decode cX11_off 38 = .ok (.getfield 51, 3) := by decide +kernel
theorem dX11_off_41 : decode cX11_off 41 = .ok (.iload_n 2, 1) := by decide +kernel
theorem dX11_off_42 : decode cX11_off 42 = .ok (.invokevirtual 194, 3) := by decide +kernel
theorem dX11_off_45 : decode cX11_off 45 = .ok (.aload_n 0, 1) := by decide +kernel
theorem dX11_off_46 : decode cX11_off 46 = .ok (.getfield 51, 3) := by decide +kernel
theorem dX11_off_49 : decode cX11_off 49 = .ok (.iload_n 3, 1) := by decide +kernel
theorem dX11_off_50 : decode cX11_off 50 = .ok (.invokevirtual 198, 3) := by decide +kernel
theorem dX11_off_53 : decode cX11_off 53 = .ok (.ireturn, 1) := by decide +kernel
theorem dX11_apart_0 : decode cX11_apart 0 = .ok (.aload_n 0, 1) := by decide +kernel
theorem dX11_apart_1 : decode cX11_apart 1 = .ok (.iload_n 1, 1) := by decide +kernel
theorem dX11_apart_2 : decode cX11_apart 2 = .ok (.iload_n 2, 1) := by decide +kernel
theorem dX11_apart_3 : decode cX11_apart 3 = .ok (.ifCond .lt 20, 3) := by decide +kernel
theorem dX11_apart_6 : decode cX11_apart 6 = .ok (.iload_n 2, 1) := by decide +kernel
theorem dX11_apart_7 : decode cX11_apart 7 = .ok (.bipush 60, 2) := by decide +kernel
theorem dX11_apart_9 : decode cX11_apart 9 = .ok (.if_icmp .gt 14, 3) := by decide +kernel
theorem dX11_apart_12 : decode cX11_apart 12 = .ok (.iload_n 3, 1) := by decide +kernel
theorem dX11_apart_13 : decode cX11_apart 13 = .ok (.invokestatic 201, 3) := by decide +kernel
theorem dX11_apart_16 : decode cX11_apart 16 = .ok (.ifCond .eq 7, 3) := by decide +kernel
theorem dX11_apart_19 : decode cX11_apart 19 = .ok (.iconst 1, 1) := by decide +kernel
theorem dX11_apart_20 : decode cX11_apart 20 = .ok (.goto 4, 3) := by decide +kernel
theorem dX11_apart_23 : decode cX11_apart 23 = .ok (.iconst 0, 1) := by decide +kernel
theorem dX11_apart_24 : decode cX11_apart 24 = .ok (.invokevirtual 179, 3) := by decide +kernel
theorem dX11_apart_27 : decode cX11_apart 27 = .ok (.istore 4, 2) := by decide +kernel
theorem dX11_apart_29 : decode cX11_apart 29 = .ok (.iload 4, 2) := by decide +kernel
theorem dX11_apart_31 : decode cX11_apart 31 = .ok (.ifCond .eq 6, 3) := by decide +kernel
theorem dX11_apart_34 : decode cX11_apart 34 = .ok (.iload 4, 2) := by decide +kernel
theorem dX11_apart_36 : decode cX11_apart 36 = .ok (.ireturn, 1) := by decide +kernel
theorem dX11_apart_37 : decode cX11_apart 37 = .ok (.aload_n 0, 1) := by decide +kernel
theorem dX11_apart_38 : decode cX11_apart 38 = .ok (.getfield 51, 3) := by decide +kernel
theorem dX11_apart_41 : decode cX11_apart 41 = .ok (.iload_n 2, 1) := by decide +kernel
theorem dX11_apart_42 : decode cX11_apart 42 = .ok (.invokevirtual 194, 3) := by decide +kernel
theorem dX11_apart_45 : decode cX11_apart 45 = .ok (.iload_n 3, 1) := by decide +kernel
theorem dX11_apart_46 : decode cX11_apart 46 = .ok (.ifCond .ne 13, 3) := by decide +kernel
theorem dX11_apart_49 : decode cX11_apart 49 = .ok (.aload_n 0, 1) := by decide +kernel
theorem dX11_apart_50 : decode cX11_apart 50 = .ok (.getfield 51, 3) := by decide +kernel
theorem dX11_apart_53 : decode cX11_apart 53 = .ok (.invokevirtual 204, 3) := by decide +kernel
theorem dX11_apart_56 : decode cX11_apart 56 = .ok (.goto 10, 3) := by decide +kernel
theorem dX11_apart_59 : decode cX11_apart 59 = .ok (.aload_n 0, 1) := by decide +kernel
theorem dX11_apart_60 : decode cX11_apart 60 = .ok (.getfield 51, 3) := by decide +kernel
theorem dX11_apart_63 : decode cX11_apart 63 = .ok (.invokevirtual 207, 3) := by decide +kernel
theorem dX11_apart_66 : decode cX11_apart 66 = .ok (.ireturn, 1) := by decide +kernel
theorem dX11_gone_0 : decode cX11_gone 0 = .ok (.aload_n 0, 1) := by decide +kernel
theorem dX11_gone_1 : decode cX11_gone 1 = .ok (.iload_n 1, 1) := by decide +kernel
theorem dX11_gone_2 : decode cX11_gone 2 = .ok (.iload_n 2, 1) := by decide +kernel
theorem dX11_gone_3 : decode cX11_gone 3 = .ok (.iconst (-1), 1) := by decide +kernel
theorem dX11_gone_4 : decode cX11_gone 4 = .ok (.if_icmp .eq 14, 3) := by decide +kernel
theorem dX11_gone_7 : decode cX11_gone 7 = .ok (.aload_n 0, 1) := by decide +kernel
theorem dX11_gone_8 : decode cX11_gone 8 = .ok (.getfield 10, 3) := by decide +kernel
theorem dX11_gone_11 : decode cX11_gone 11 = .ok (.iload_n 2, 1) := by decide +kernel
theorem dX11_gone_12 : decode cX11_gone 12 = .ok (.invokevirtual 137, 3) := by decide +kernel
theorem dX11_gone_15 : decode cX11_gone 15 = .ok (.ifCond .eq 7, 3) := by decide +kernel
theorem dX11_gone_18 : decode cX11_gone 18 = .ok (.iconst 1, 1) := by decide +kernel
theorem dX11_gone_19 : decode cX11_gone 19 = .ok (.goto 4, 3) := by decide +kernel
theorem dX11_gone_22 : decode cX11_gone 22 = .ok (.iconst 0, 1) := by decide +kernel
theorem dX11_gone_23 : decode cX11_gone 23 = .ok (.invokevirtual 179, 3) := by decide +kernel
theorem dX11_gone_26 : decode cX11_gone 26 = .ok (.istore_n 3, 1) := by decide +kernel
theorem dX11_gone_27 : decode cX11_gone 27 = .ok (.iload_n 3, 1) := by decide +kernel
theorem dX11_gone_28 : decode cX11_gone 28 = .ok (.ifCond .eq 5, 3) := by decide +kernel
theorem dX11_gone_31 : decode cX11_gone 31 = .ok (.iload_n 3, 1) := by decide +kernel
theorem dX11_gone_32 : decode cX11_gone 32 = .ok (.ireturn, 1) := by decide +kernel
theorem dX11_gone_33 : decode cX11_gone 33 = .ok (.iload_n 2, 1) := by decide +kernel
theorem dX11_gone_34 : decode cX11_gone 34 = .ok (.iconst (-1), 1) := by decide +kernel
theorem dX11_gone_35 : decode cX11_gone 35 = .ok (.if_icmp .ne 13, 3) := by decide +kernel
theorem dX11_gone_38 : decode cX11_gone 38 = .ok (.aload_n 0, 1) := by decide +kernel
theorem dX11_gone_39 : decode cX11_gone 39 = .ok (.getfield 51, 3) := by decide +kernel
theorem dX11_gone_42 : decode cX11_gone 42 = .ok (.invokevirtual 210, 3) := by decide +kernel
theorem dX11_gone_45 : decode cX11_gone 45 = .ok (.goto 11, 3) := by decide +kernel
theorem dX11_gone_48 : decode cX11_gone 48 = .ok (.aload_n 0, 1) := by decide +kernel
theorem dX11_gone_49 : decode cX11_gone 49 = .ok (.getfield 51, 3) := by decide +kernel
theorem dX11_gone_52 : decode cX11_gone 52 = .ok (.iload_n 2, 1) := by decide +kernel
theorem dX11_gone_53 : decode cX11_gone 53 = .ok (.invokevirtual 213, 3) := by decide +kernel
theorem dX11_gone_56 : decode cX11_gone 56 = .ok (.ireturn, 1) := by decide +kernel
theorem dX11_least_0 : decode cX11_least 0 = .ok (.aload_n 0, 1) := by decide +kernel
theorem dX11_least_1 : decode cX11_least 1 = .ok (.iload_n 1, 1) := by decide +kernel
theorem dX11_least_2 : decode cX11_least 2 = .ok (.aload_n 0, 1) := by decide +kernel
theorem dX11_least_3 : decode cX11_least 3 = .ok (.getfield 10, 3) := by decide +kernel
theorem dX11_least_6 : decode cX11_least 6 = .ok (.iload_n 2, 1) := by decide +kernel
theorem dX11_least_7 : decode cX11_least 7 = .ok (.invokevirtual 137, 3) := by decide +kernel
theorem dX11_least_10 : decode cX11_least 10 = .ok (.invokevirtual 179, 3) := by decide +kernel
theorem dX11_least_13 : decode cX11_least 13 = .ok (.istore_n 3, 1) := by decide +kernel
theorem dX11_least_14 : decode cX11_least 14 = .ok (.iload_n 3, 1) := by decide +kernel
theorem dX11_least_15 : decode cX11_least 15 = .ok (.ifCond .eq 7, 3) := by decide +kernel
theorem dX11_least_18 : decode cX11_least 18 = .ok (.iload_n 3, 1) := by decide +kernel
theorem dX11_least_19 : decode cX11_least 19 = .ok (.goto 24, 3) := by decide +kernel
theorem dX11_least_22 : decode cX11_least 22 = .ok (.iconst 1, 1) := by decide +kernel
theorem dX11_least_23 : decode cX11_least 23 = .ok (.aload_n 0, 1) := by decide +kernel
theorem dX11_least_24 : decode cX11_least 24 = .ok (.getfield 42, 3) := by decide +kernel
theorem dX11_least_27 : decode cX11_least 27 = .ok (.aload_n 0, 1) := by decide +kernel
theorem dX11_least_28 : decode cX11_least 28 = .ok (.getfield 10, 3) := by decide +kernel
theorem dX11_least_31 : decode cX11_least 31 = .ok (.iconst 0, 1) := by decide +kernel
theorem dX11_least_32 : decode cX11_least 32 = .ok (.bipush 8, 2) := by decide +kernel
theorem dX11_least_34 : decode cX11_least 34 = .ok (.invokevirtual 130, 3) := by decide +kernel
theorem dX11_least_37 : decode cX11_least 37 = .ok (.invokevirtual 216, 3) := by decide +kernel
theorem dX11_least_40 : decode cX11_least 40 = .ok (.invokestatic 219, 3) := by decide +kernel
theorem dX11_least_43 : decode cX11_least 43 = .ok (.ireturn, 1) := by decide +kernel
theorem dX11_gasps_0 : decode cX11_gasps 0 = .ok (.aload_n 0, 1) := by decide +kernel
theorem dX11_gasps_1 : decode cX11_gasps 1 = .ok (.iload_n 1, 1) := by decide +kernel
theorem dX11_gasps_2 : decode cX11_gasps 2 = .ok (.iload_n 2, 1) := by decide +kernel
theorem dX11_gasps_3 : decode cX11_gasps 3 = .ok (.iconst (-1), 1) := by decide +kernel
theorem dX11_gasps_4 : decode cX11_gasps 4 = .ok (.if_icmp .lt 7, 3) := by decide +kernel
theorem dX11_gasps_7 : decode cX11_gasps 7 = .ok (.iconst 1, 1) := by decide +kernel
theorem dX11_gasps_8 : decode cX11_gasps 8 = .ok (.goto 4, 3) := by decide +kernel
theorem dX11_gasps_11 : decode cX11_gasps 11 = .ok (.iconst 0, 1) := by decide +kernel
theorem dX11_gasps_12 : decode cX11_gasps 12 = .ok (.invokevirtual 179, 3) := by decide +kernel
theorem dX11_gasps_15 : decode cX11_gasps 15 = .ok (.istore_n 3, 1) := by decide +kernel
theorem dX11_gasps_16 : decode cX11_gasps 16 = .ok (.iload_n 3, 1) := by decide +kernel
theorem dX11_gasps_17 : decode cX11_gasps 17 = .ok (.ifCond .eq 5, 3) := by decide +kernel
theorem dX11_gasps_20 : decode cX11_gasps 20 = .ok (.iload_n 3, 1) := by decide +kernel
theorem dX11_gasps_21 : decode cX11_gasps 21 = .ok (.ireturn, 1) := by decide +kernel
theorem dX11_gasps_22 : decode cX11_gasps 22 = .ok (.aload_n 0, 1) := by decide +kernel
theorem dX11_gasps_23 : decode cX11_gasps 23 = .ok (.getfield 42, 3) := by decide +kernel
theorem dX11_gasps_26 : decode cX11_gasps 26 = .ok (.invokevirtual 182, 3) := by decide +kernel
theorem dX11_gasps_29 : decode cX11_gasps 29 = .ok (.bipush 16, 2) := by decide +kernel
theorem dX11_gasps_31 : decode cX11_gasps 31 = .ok (.if_icmp .le 6, 3) := by decide +kernel
theorem dX11_gasps_34 : decode cX11_gasps 34 = .ok (.bipush (-5), 2) := by decide +kernel
theorem dX11_gasps_36 : decode cX11_gasps 36 = .ok (.ireturn, 1) := by decide +kernel
theorem dX11_gasps_37 : decode cX11_gasps 37 = .ok (.aload_n 0, 1) := by decide +kernel
theorem dX11_gasps_38 : decode cX11_gasps 38 = .ok (.getfield 58, 3) := by decide +kernel
theorem dX11_gasps_41 : decode cX11_gasps 41 = .ok (.aload_n 0, 1) := by decide +kernel
theorem dX11_gasps_42 : decode cX11_gasps 42 = .ok (.getfield 42, 3) := by decide +kernel
theorem dX11_gasps_45 : decode cX11_gasps 45 = .ok (.aload_n 0, 1) := by decide +kernel
theorem dX11_gasps_46 : decode cX11_gasps 46 = .ok (.getfield 10, 3) := by decide +kernel
theorem dX11_gasps_49 : decode cX11_gasps 49 = .ok (.invokevirtual 224, 3) := by decide +kernel
theorem dX11_gasps_52 : decode cX11_gasps 52 = .ok (.aload_n 0, 1) := by decide +kernel
theorem dX11_gasps_53 : decode cX11_gasps 53 = .ok (.getfield 10, 3) := by decide +kernel
theorem dX11_gasps_56 : decode cX11_gasps 56 = .ok (.iconst 0, 1) := by decide +kernel
theorem dX11_gasps_57 : decode cX11_gasps 57 = .ok (.bipush 8, 2) := by decide +kernel
theorem dX11_gasps_59 : decode cX11_gasps 59 = .ok (.invokevirtual 130, 3) := by decide +kernel
theorem dX11_gasps_62 : decode cX11_gasps 62 = .ok (.invokevirtual 227, 3) := by decide +kernel
theorem dX11_gasps_65 : decode cX11_gasps 65 = .ok (.aload_n 0, 1) := by decide +kernel
theorem dX11_gasps_66 : decode cX11_gasps 66 = .ok (.getfield 58, 3) := by decide +kernel
theorem dX11_gasps_69 : decode cX11_gasps 69 = .ok (.iload_n 2, 1) := by decide +kernel
theorem dX11_gasps_70 : decode cX11_gasps 70 = .ok (.invokevirtual 231, 3) := by decide +kernel
theorem dX11_gasps_73 : decode cX11_gasps 73 = .ok (.ireturn, 1) := by decide +kernel
theorem dX11_looks_0 : decode cX11_looks 0 = .ok (.aload_n 0, 1) := by decide +kernel
theorem dX11_looks_1 : decode cX11_looks 1 = .ok (.iload_n 1, 1) := by decide +kernel
theorem dX11_looks_2 : decode cX11_looks 2 = .ok (.iload_n 2, 1) := by decide +kernel
theorem dX11_looks_3 : decode cX11_looks 3 = .ok (.iconst (-1), 1) := by decide +kernel
theorem dX11_looks_4 : decode cX11_looks 4 = .ok (.if_icmp .lt 7, 3) := by decide +kernel
theorem dX11_looks_7 : decode cX11_looks 7 = .ok (.iconst 1, 1) := by decide +kernel
theorem dX11_looks_8 : decode cX11_looks 8 = .ok (.goto 4, 3) := by decide +kernel
theorem dX11_looks_11 : decode cX11_looks 11 = .ok (.iconst 0, 1) := by decide +kernel
theorem dX11_looks_12 : decode cX11_looks 12 = .ok (.invokevirtual 179, 3) := by decide +kernel
theorem dX11_looks_15 : decode cX11_looks 15 = .ok (.istore_n 3, 1) := by decide +kernel
theorem dX11_looks_16 : decode cX11_looks 16 = .ok (.iload_n 3, 1) := by decide +kernel
theorem dX11_looks_17 : decode cX11_looks 17 = .ok (.ifCond .eq 5, 3) := by decide +kernel
theorem dX11_looks_20 : decode cX11_looks 20 = .ok (.iload_n 3, 1) := by decide +kernel
theorem dX11_looks_21 : decode cX11_looks 21 = .ok (.ireturn, 1) := by decide +kernel
theorem dX11_looks_22 : decode cX11_looks 22 = .ok (.aload_n 0, 1) := by decide +kernel
theorem dX11_looks_23 : decode cX11_looks 23 = .ok (.getfield 42, 3) := by decide +kernel
theorem dX11_looks_26 : decode cX11_looks 26 = .ok (.invokevirtual 182, 3) := by decide +kernel
theorem dX11_looks_29 : decode cX11_looks 29 = .ok (.bipush 16, 2) := by decide +kernel
theorem dX11_looks_31 : decode cX11_looks 31 = .ok (.if_icmp .le 6, 3) := by decide +kernel
theorem dX11_looks_34 : decode cX11_looks 34 = .ok (.bipush (-5), 2) := by decide +kernel
theorem dX11_looks_36 : decode cX11_looks 36 = .ok (.ireturn, 1) := by decide +kernel
theorem dX11_looks_37 : decode cX11_looks 37 = .ok (.aload_n 0, 1) := by decide +kernel
theorem dX11_looks_38 : decode cX11_looks 38 = .ok (.getfield 58, 3) := by decide +kernel
theorem dX11_looks_41 : decode cX11_looks 41 = .ok (.aload_n 0, 1) := by decide +kernel
theorem dX11_looks_42 : decode cX11_looks 42 = .ok (.getfield 42, 3) := by decide +kernel
theorem dX11_looks_45 : decode cX11_looks 45 = .ok (.aload_n 0, 1) := by decide +kernel
theorem dX11_looks_46 : decode cX11_looks 46 = .ok (.getfield 51, 3) := by decide +kernel
theorem dX11_looks_49 : decode cX11_looks 49 = .ok (.invokevirtual 234, 3) := by decide +kernel
theorem dX11_looks_52 : decode cX11_looks 52 = .ok (.aload_n 0, 1) := by decide +kernel
theorem dX11_looks_53 : decode cX11_looks 53 = .ok (.getfield 58, 3) := by decide +kernel
theorem dX11_looks_56 : decode cX11_looks 56 = .ok (.iload_n 2, 1) := by decide +kernel
theorem dX11_looks_57 : decode cX11_looks 57 = .ok (.invokevirtual 231, 3) := by decide +kernel
theorem dX11_looks_60 : decode cX11_looks 60 = .ok (.ireturn, 1) := by decide +kernel
theorem dX11_whose_0 : decode cX11_whose 0 = .ok (.aload_n 0, 1) := by decide +kernel
theorem dX11_whose_1 : decode cX11_whose 1 = .ok (.iload_n 1, 1) := by decide +kernel
theorem dX11_whose_2 : decode cX11_whose 2 = .ok (.iload_n 2, 1) := by decide +kernel
theorem dX11_whose_3 : decode cX11_whose 3 = .ok (.invokestatic 201, 3) := by decide +kernel
theorem dX11_whose_6 : decode cX11_whose 6 = .ok (.invokevirtual 179, 3) := by decide +kernel
theorem dX11_whose_9 : decode cX11_whose 9 = .ok (.istore_n 3, 1) := by decide +kernel
theorem dX11_whose_10 : decode cX11_whose 10 = .ok (.iload_n 3, 1) := by decide +kernel
theorem dX11_whose_11 : decode cX11_whose 11 = .ok (.ifCond .eq 7, 3) := by decide +kernel
theorem dX11_whose_14 : decode cX11_whose 14 = .ok (.iload_n 3, 1) := by decide +kernel
theorem dX11_whose_15 : decode cX11_whose 15 = .ok (.goto 17, 3) := by decide +kernel
theorem dX11_whose_18 : decode cX11_whose 18 = .ok (.aload_n 0, 1) := by decide +kernel
theorem dX11_whose_19 : decode cX11_whose 19 = .ok (.iload_n 2, 1) := by decide +kernel
theorem dX11_whose_20 : decode cX11_whose 20 = .ok (.ifCond .ne 7, 3) := by decide +kernel
theorem dX11_whose_23 : decode cX11_whose 23 = .ok (.iconst 1, 1) := by decide +kernel
theorem dX11_whose_24 : decode cX11_whose 24 = .ok (.goto 4, 3) := by decide +kernel
theorem dX11_whose_27 : decode cX11_whose 27 = .ok (.iconst 0, 1) := by decide +kernel
theorem dX11_whose_28 : decode cX11_whose 28 = .ok (.iconst 1, 1) := by decide +kernel
theorem dX11_whose_29 : decode cX11_whose 29 = .ok (.invokevirtual 238, 3) := by decide +kernel
theorem dX11_whose_32 : decode cX11_whose 32 = .ok (.ireturn, 1) := by decide +kernel
theorem dX11_first_0 : decode cX11_first 0 = .ok (.aload_n 0, 1) := by decide +kernel
theorem dX11_first_1 : decode cX11_first 1 = .ok (.iload_n 1, 1) := by decide +kernel
theorem dX11_first_2 : decode cX11_first 2 = .ok (.iload_n 2, 1) := by decide +kernel
theorem dX11_first_3 : decode cX11_first 3 = .ok (.invokestatic 201, 3) := by decide +kernel
theorem dX11_first_6 : decode cX11_first 6 = .ok (.invokevirtual 179, 3) := by decide +kernel
theorem dX11_first_9 : decode cX11_first 9 = .ok (.istore_n 3, 1) := by decide +kernel
theorem dX11_first_10 : decode cX11_first 10 = .ok (.iload_n 3, 1) := by decide +kernel
theorem dX11_first_11 : decode cX11_first 11 = .ok (.ifCond .eq 7, 3) := by decide +kernel
theorem dX11_first_14 : decode cX11_first 14 = .ok (.iload_n 3, 1) := by decide +kernel
theorem dX11_first_15 : decode cX11_first 15 = .ok (.goto 17, 3) := by decide +kernel
theorem dX11_first_18 : decode cX11_first 18 = .ok (.aload_n 0, 1) := by decide +kernel
theorem dX11_first_19 : decode cX11_first 19 = .ok (.iload_n 2, 1) := by decide +kernel
theorem dX11_first_20 : decode cX11_first 20 = .ok (.ifCond .ne 7, 3) := by decide +kernel
theorem dX11_first_23 : decode cX11_first 23 = .ok (.iconst 1, 1) := by decide +kernel
theorem dX11_first_24 : decode cX11_first 24 = .ok (.goto 4, 3) := by decide +kernel
theorem dX11_first_27 : decode cX11_first 27 = .ok (.iconst 0, 1) := by decide +kernel
theorem dX11_first_28 : decode cX11_first 28 = .ok (.iconst 0, 1) := by decide +kernel
theorem dX11_first_29 : decode cX11_first 29 = .ok (.invokevirtual 238, 3) := by decide +kernel
theorem dX11_first_32 : decode cX11_first 32 = .ok (.ireturn, 1) := by decide +kernel
theorem dX11_slip_0 : decode cX11_slip 0 = .ok (.iload_n 2, 1) := by decide +kernel
theorem dX11_slip_1 : decode cX11_slip 1 = .ok (.ifCond .lt 42, 3) := by decide +kernel
theorem dX11_slip_4 : decode cX11_slip 4 = .ok (.aload_n 0, 1) := by decide +kernel
theorem dX11_slip_5 : decode cX11_slip 5 = .ok (.getfield 10, 3) := by decide +kernel
theorem dX11_slip_8 : decode cX11_slip 8 = .ok (.iload_n 2, 1) := by decide +kernel
theorem dX11_slip_9 : decode cX11_slip 9 = .ok (.bipush 100, 2) := by decide +kernel
theorem dX11_slip_11 : decode cX11_slip 11 = .ok (.idiv, 1) := by decide +kernel
theorem dX11_slip_12 : decode cX11_slip 12 = .ok (.invokevirtual 137, 3) := by decide +kernel
theorem dX11_slip_15 : decode cX11_slip 15 = .ok (.ifCond .eq 28, 3) := by decide +kernel
theorem dX11_slip_18 : decode cX11_slip 18 = .ok (.iload_n 2, 1) := by decide +kernel
theorem dX11_slip_19 : decode cX11_slip 19 = .ok (.bipush 100, 2) := by decide +kernel
theorem dX11_slip_21 : decode cX11_slip 21 = .ok (.irem, 1) := by decide +kernel
theorem dX11_slip_22 : decode cX11_slip 22 = .ok (.bipush 60, 2) := by decide +kernel
theorem dX11_slip_24 : decode cX11_slip 24 = .ok (.if_icmp .ge 19, 3) := by decide +kernel
theorem dX11_slip_27 : decode cX11_slip 27 = .ok (.iload_n 3, 1) := by decide +kernel
theorem dX11_slip_28 : decode cX11_slip 28 = .ok (.bipush (-99), 2) := by decide +kernel
theorem dX11_slip_30 : decode cX11_slip 30 = .ok (.if_icmp .lt 13, 3) := by decide +kernel
theorem dX11_slip_33 : decode cX11_slip 33 = .ok (.iload_n 3, 1) := by decide +kernel
theorem dX11_slip_34 : decode cX11_slip 34 = .ok (.bipush 99, 2) := by decide +kernel
theorem dX11_slip_36 : decode cX11_slip 36 = .ok (.if_icmp .gt 7, 3) := by decide +kernel
theorem dX11_slip_39 : decode cX11_slip 39 = .ok (.iconst 1, 1) := by decide +kernel
theorem dX11_slip_40 : decode cX11_slip 40 = .ok (.goto 4, 3) := by decide +kernel
theorem dX11_slip_43 : decode cX11_slip 43 = .ok (.iconst 0, 1) := by decide +kernel
theorem dX11_slip_44 : decode cX11_slip 44 = .ok (.istore 4, 2) := by decide +kernel
theorem dX11_slip_46 : decode cX11_slip 46 = .ok (.aload_n 0, 1) := by decide +kernel
theorem dX11_slip_47 : decode cX11_slip 47 = .ok (.iload_n 1, 1) := by decide +kernel
theorem dX11_slip_48 : decode cX11_slip 48 = .ok (.iload 4, 2) := by decide +kernel
theorem dX11_slip_50 : decode cX11_slip 50 = .ok (.invokevirtual 179, 3) := by decide +kernel
theorem dX11_slip_53 : decode cX11_slip 53 = .ok (.istore 5, 2) := by decide +kernel
theorem dX11_slip_55 : decode cX11_slip 55 = .ok (.iload 5, 2) := by decide +kernel
theorem dX11_slip_57 : decode cX11_slip 57 = .ok (.ifCond .eq 6, 3) := by decide +kernel
theorem dX11_slip_60 : decode cX11_slip 60 = .ok (.iload 5, 2) := by decide +kernel
theorem dX11_slip_62 : decode cX11_slip 62 = .ok (.ireturn, 1) := by decide +kernel
theorem dX11_slip_63 : decode cX11_slip 63 = .ok (.aload_n 0, 1) := by decide +kernel
theorem dX11_slip_64 : decode cX11_slip 64 = .ok (.getfield 51, 3) := by decide +kernel
theorem dX11_slip_67 : decode cX11_slip 67 = .ok (.iload_n 2, 1) := by decide +kernel
theorem dX11_slip_68 : decode cX11_slip 68 = .ok (.bipush 100, 2) := by decide +kernel
theorem dX11_slip_70 : decode cX11_slip 70 = .ok (.idiv, 1) := by decide +kernel
theorem dX11_slip_71 : decode cX11_slip 71 = .ok (.iload_n 2, 1) := by decide +kernel
theorem dX11_slip_72 : decode cX11_slip 72 = .ok (.bipush 100, 2) := by decide +kernel
theorem dX11_slip_74 : decode cX11_slip 74 = .ok (.irem, 1) := by decide +kernel
theorem dX11_slip_75 : decode cX11_slip 75 = .ok (.iload_n 3, 1) := by decide +kernel
theorem dX11_slip_76 : decode cX11_slip 76 = .ok (.invokevirtual 242, 3) := by decide +kernel
theorem dX11_slip_79 : decode cX11_slip 79 = .ok (.aload_n 0, 1) := by decide +kernel
theorem dX11_slip_80 : decode cX11_slip 80 = .ok (.getfield 51, 3) := by decide +kernel
theorem dX11_slip_83 : decode cX11_slip 83 = .ok (.invokevirtual 185, 3) := by decide +kernel
theorem dX11_slip_86 : decode cX11_slip 86 = .ok (.ireturn, 1) := by decide +kernel
theorem dX11_line_0 : decode cX11_line 0 = .ok (.iload_n 1, 1) := by decide +kernel
theorem dX11_line_1 : decode cX11_line 1 = .ok (.ifCond .lt 14, 3) := by decide +kernel
theorem dX11_line_4 : decode cX11_line 4 = .ok (.iload_n 1, 1) := by decide +kernel
theorem dX11_line_5 : decode cX11_line 5 = .ok (.bipush 9, 2) := by decide +kernel
theorem dX11_line_7 : decode cX11_line 7 = .ok (.if_icmp .gt 8, 3) := by decide +kernel
theorem dX11_line_10 : decode cX11_line 10 = .ok (.iload_n 2, 1) := by decide +kernel
theorem dX11_line_11 : decode cX11_line 11 = .ok (.iconst (-1), 1) := by decide +kernel
theorem dX11_line_12 : decode cX11_line 12 = .ok (.if_icmp .ge 5, 3) := by decide +kernel
theorem dX11_line_15 : decode cX11_line 15 = .ok (.iconst (-1), 1) := by decide +kernel
theorem dX11_line_16 : decode cX11_line 16 = .ok (.ireturn, 1) := by decide +kernel
theorem dX11_line_17 : decode cX11_line 17 = .ok (.aload_n 0, 1) := by decide +kernel
theorem dX11_line_18 : decode cX11_line 18 = .ok (.getfield 10, 3) := by decide +kernel
theorem dX11_line_21 : decode cX11_line 21 = .ok (.invokevirtual 245, 3) := by decide +kernel
theorem dX11_line_24 : decode cX11_line 24 = .ok (.bipush 6, 2) := by decide +kernel
theorem dX11_line_26 : decode cX11_line 26 = .ok (.if_icmp .le 6, 3) := by decide +kernel
theorem dX11_line_29 : decode cX11_line 29 = .ok (.bipush (-5), 2) := by decide +kernel
theorem dX11_line_31 : decode cX11_line 31 = .ok (.ireturn, 1) := by decide +kernel
theorem dX11_line_32 : decode cX11_line 32 = .ok (.aload_n 0, 1) := by decide +kernel
theorem dX11_line_33 : decode cX11_line 33 = .ok (.getfield 65, 3) := by decide +kernel
theorem dX11_line_36 : decode cX11_line 36 = .ok (.iload_n 1, 1) := by decide +kernel
theorem dX11_line_37 : decode cX11_line 37 = .ok (.invokevirtual 248, 3) := by decide +kernel
theorem dX11_line_40 : decode cX11_line 40 = .ok (.istore_n 3, 1) := by decide +kernel
theorem dX11_line_41 : decode cX11_line 41 = .ok (.iload_n 2, 1) := by decide +kernel
theorem dX11_line_42 : decode cX11_line 42 = .ok (.iconst (-1), 1) := by decide +kernel
theorem dX11_line_43 : decode cX11_line 43 = .ok (.if_icmp .ne 7, 3) := by decide +kernel
theorem dX11_line_46 : decode cX11_line 46 = .ok (.iload_n 3, 1) := by decide +kernel
theorem dX11_line_47 : decode cX11_line 47 = .ok (.goto 11, 3) := by decide +kernel
theorem dX11_line_50 : decode cX11_line 50 = .ok (.aload_n 0, 1) := by decide +kernel
theorem dX11_line_51 : decode cX11_line 51 = .ok (.getfield 65, 3) := by decide +kernel
theorem dX11_line_54 : decode cX11_line 54 = .ok (.iload_n 2, 1) := by decide +kernel
theorem dX11_line_55 : decode cX11_line 55 = .ok (.invokevirtual 251, 3) := by decide +kernel
theorem dX11_line_58 : decode cX11_line 58 = .ok (.ireturn, 1) := by decide +kernel
theorem dX11_lift_0 : decode cX11_lift 0 = .ok (.iload_n 1, 1) := by decide +kernel
theorem dX11_lift_1 : decode cX11_lift 1 = .ok (.invokestatic 201, 3) := by decide +kernel
theorem dX11_lift_4 : decode cX11_lift 4 = .ok (.ifCond .ne 5, 3) := by decide +kernel
theorem dX11_lift_7 : decode cX11_lift 7 = .ok (.iconst (-1), 1) := by decide +kernel
theorem dX11_lift_8 : decode cX11_lift 8 = .ok (.ireturn, 1) := by decide +kernel
theorem dX11_lift_9 : decode cX11_lift 9 = .ok (.aload_n 0, 1) := by decide +kernel
theorem dX11_lift_10 : decode cX11_lift 10 = .ok (.getfield 65, 3) := by decide +kernel
theorem dX11_lift_13 : decode cX11_lift 13 = .ok (.iload_n 1, 1) := by decide +kernel
theorem dX11_lift_14 : decode cX11_lift 14 = .ok (.ifCond .ne 7, 3) := by decide +kernel
theorem dX11_lift_17 : decode cX11_lift 17 = .ok (.iconst 1, 1) := by decide +kernel
theorem dX11_lift_18 : decode cX11_lift 18 = .ok (.goto 4, 3) := by decide +kernel
theorem dX11_lift_21 : decode cX11_lift 21 = .ok (.iconst 0, 1) := by decide +kernel
theorem dX11_lift_22 : decode cX11_lift 22 = .ok (.invokevirtual 254, 3) := by decide +kernel
theorem dX11_lift_25 : decode cX11_lift 25 = .ok (.ireturn, 1) := by decide +kernel
theorem dX11_star_0 : decode cX11_star 0 = .ok (.iload_n 1, 1) := by decide +kernel
theorem dX11_star_1 : decode cX11_star 1 = .ok (.tableswitch 59 0 2 #[27, 35, 43], 27) := by decide +kernel
theorem dX11_star_28 : decode cX11_star 28 = .ok (.aload_n 0, 1) := by decide +kernel
theorem dX11_star_29 : decode cX11_star 29 = .ok (.getfield 65, 3) := by decide +kernel
theorem dX11_star_32 : decode cX11_star 32 = .ok (.invokevirtual 258, 3) := by decide +kernel
theorem dX11_star_35 : decode cX11_star 35 = .ok (.ireturn, 1) := by decide +kernel
theorem dX11_star_36 : decode cX11_star 36 = .ok (.aload_n 0, 1) := by decide +kernel
theorem dX11_star_37 : decode cX11_star 37 = .ok (.getfield 65, 3) := by decide +kernel
theorem dX11_star_40 : decode cX11_star 40 = .ok (.invokevirtual 261, 3) := by decide +kernel
theorem dX11_star_43 : decode cX11_star 43 = .ok (.ireturn, 1) := by decide +kernel
theorem dX11_star_44 : decode cX11_star 44 = .ok (.aload_n 0, 1) := by decide +kernel
theorem dX11_star_45 : decode cX11_star 45 = .ok (.getfield 65, 3) := by decide +kernel
theorem dX11_star_48 : decode cX11_star 48 = .ok (.invokevirtual 264, 3) := by decide +kernel
theorem dX11_star_51 : decode cX11_star 51 = .ok (.ifCond .eq 7, 3) := by decide +kernel
theorem dX11_star_54 : decode cX11_star 54 = .ok (.iconst 1, 1) := by decide +kernel
theorem dX11_star_55 : decode cX11_star 55 = .ok (.goto 4, 3) := by decide +kernel
theorem dX11_star_58 : decode cX11_star 58 = .ok (.iconst 0, 1) := by decide +kernel
theorem dX11_star_59 : decode cX11_star 59 = .ok (.ireturn, 1) := by decide +kernel
theorem dX11_star_60 : decode cX11_star 60 = .ok (.iconst (-1), 1) := by decide +kernel
theorem dX11_star_61 : decode cX11_star 61 = .ok (.ireturn, 1) := by decide +kernel
theorem dX11_judge_0 : decode cX11_judge 0 = .ok (.aload_n 0, 1) := by decide +kernel
theorem dX11_judge_1 : decode cX11_judge 1 = .ok (.iload_n 1, 1) := by decide +kernel
theorem dX11_judge_2 : decode cX11_judge 2 = .ok (.iconst 1, 1) := by decide +kernel
theorem dX11_judge_3 : decode cX11_judge 3 = .ok (.invokevirtual 267, 3) := by decide +kernel
theorem dX11_judge_6 : decode cX11_judge 6 = .ok (.istore_n 2, 1) := by decide +kernel
theorem dX11_judge_7 : decode cX11_judge 7 = .ok (.iload_n 2, 1) := by decide +kernel
theorem dX11_judge_8 : decode cX11_judge 8 = .ok (.ifCond .eq 7, 3) := by decide +kernel
theorem dX11_judge_11 : decode cX11_judge 11 = .ok (.iload_n 2, 1) := by decide +kernel
theorem dX11_judge_12 : decode cX11_judge 12 = .ok (.goto 8, 3) := by decide +kernel
theorem dX11_judge_15 : decode cX11_judge 15 = .ok (.aload_n 0, 1) := by decide +kernel
theorem dX11_judge_16 : decode cX11_judge 16 = .ok (.iload_n 1, 1) := by decide +kernel
theorem dX11_judge_17 : decode cX11_judge 17 = .ok (.invokevirtual 270, 3) := by decide +kernel
theorem dX11_judge_20 : decode cX11_judge 20 = .ok (.ireturn, 1) := by decide +kernel
theorem dX11_whoLed_0 : decode cX11_whoLed 0 = .ok (.aload_n 0, 1) := by decide +kernel
theorem dX11_whoLed_1 : decode cX11_whoLed 1 = .ok (.iload_n 1, 1) := by decide +kernel
theorem dX11_whoLed_2 : decode cX11_whoLed 2 = .ok (.iconst 1, 1) := by decide +kernel
theorem dX11_whoLed_3 : decode cX11_whoLed 3 = .ok (.invokevirtual 267, 3) := by decide +kernel
theorem dX11_whoLed_6 : decode cX11_whoLed 6 = .ok (.istore_n 2, 1) := by decide +kernel
theorem dX11_whoLed_7 : decode cX11_whoLed 7 = .ok (.iload_n 2, 1) := by decide +kernel
theorem dX11_whoLed_8 : decode cX11_whoLed 8 = .ok (.ifCond .eq 5, 3) := by decide +kernel
theorem dX11_whoLed_11 : decode cX11_whoLed 11 = .ok (.iload_n 2, 1) := by decide +kernel
theorem dX11_whoLed_12 : decode cX11_whoLed 12 = .ok (.ireturn, 1) := by decide +kernel
theorem dX11_whoLed_13 : decode cX11_whoLed 13 = .ok (.iconst 0, 1) := by decide +kernel
theorem dX11_whoLed_14 : decode cX11_whoLed 14 = .ok (.istore_n 3, 1) := by decide +kernel
theorem dX11_whoLed_15 : decode cX11_whoLed 15 = .ok (.iconst 0, 1) := by decide +kernel
theorem dX11_whoLed_16 : decode cX11_whoLed 16 = .ok (.istore 4, 2) := by decide +kernel
theorem dX11_whoLed_18 : decode cX11_whoLed 18 = .ok (.iload 4, 2) := by decide +kernel
theorem dX11_whoLed_20 : decode cX11_whoLed 20 = .ok (.aload_n 0, 1) := by decide +kernel
theorem dX11_whoLed_21 : decode cX11_whoLed 21 = .ok (.getfield 10, 3) := by decide +kernel
theorem dX11_whoLed_24 : decode cX11_whoLed 24 = .ok (.invokevirtual 245, 3) := by decide +kernel
theorem dX11_whoLed_27 : decode cX11_whoLed 27 = .ok (.if_icmp .ge 35, 3) := by decide +kernel
theorem dX11_whoLed_30 : decode cX11_whoLed 30 = .ok (.aload_n 0, 1) := by decide +kernel
theorem dX11_whoLed_31 : decode cX11_whoLed 31 = .ok (.getfield 51, 3) := by decide +kernel
theorem dX11_whoLed_34 : decode cX11_whoLed 34 = .ok (.iload 4, 2) := by decide +kernel
theorem dX11_whoLed_36 : decode cX11_whoLed 36 = .ok (.invokevirtual 273, 3) := by decide +kernel
theorem dX11_whoLed_39 : decode cX11_whoLed 39 = .ok (.aload_n 0, 1) := by decide +kernel
theorem dX11_whoLed_40 : decode cX11_whoLed 40 = .ok (.iload_n 1, 1) := by decide +kernel
theorem dX11_whoLed_41 : decode cX11_whoLed 41 = .ok (.invokevirtual 270, 3) := by decide +kernel
theorem dX11_whoLed_44 : decode cX11_whoLed 44 = .ok (.bipush (-2), 2) := by decide +kernel
theorem dX11_whoLed_46 : decode cX11_whoLed 46 = .ok (.if_icmp .ne 10, 3) := by decide +kernel
theorem dX11_whoLed_49 : decode cX11_whoLed 49 = .ok (.iload_n 3, 1) := by decide +kernel
theorem dX11_whoLed_50 : decode cX11_whoLed 50 = .ok (.iconst 1, 1) := by decide +kernel
theorem dX11_whoLed_51 : decode cX11_whoLed 51 = .ok (.iload 4, 2) := by decide +kernel
theorem dX11_whoLed_53 : decode cX11_whoLed 53 = .ok (.ishl, 1) := by decide +kernel
theorem dX11_whoLed_54 : decode cX11_whoLed 54 = .ok (.ior, 1) := by decide +kernel
theorem dX11_whoLed_55 : decode cX11_whoLed 55 = .ok (.istore_n 3, 1) := by decide +kernel
theorem dX11_whoLed_56 : decode cX11_whoLed 56 = .ok (.iinc 4 1, 3) := by decide +kernel
theorem dX11_whoLed_59 : decode cX11_whoLed 59 = .ok (.goto (-41), 3) := by decide +kernel
theorem dX11_whoLed_62 : decode cX11_whoLed 62 = .ok (.iload_n 3, 1) := by decide +kernel
theorem dX11_whoLed_63 : decode cX11_whoLed 63 = .ok (.ireturn, 1) := by decide +kernel
theorem dX11_later_0 : decode cX11_later 0 = .ok (.aload_n 0, 1) := by decide +kernel
theorem dX11_later_1 : decode cX11_later 1 = .ok (.iload_n 1, 1) := by decide +kernel
theorem dX11_later_2 : decode cX11_later 2 = .ok (.aload_n 0, 1) := by decide +kernel
theorem dX11_later_3 : decode cX11_later 3 = .ok (.getfield 10, 3) := by decide +kernel
theorem dX11_later_6 : decode cX11_later 6 = .ok (.iload_n 2, 1) := by decide +kernel
theorem dX11_later_7 : decode cX11_later 7 = .ok (.invokevirtual 137, 3) := by decide +kernel
theorem dX11_later_10 : decode cX11_later 10 = .ok (.invokevirtual 267, 3) := by decide +kernel
theorem dX11_later_13 : decode cX11_later 13 = .ok (.istore_n 3, 1) := by decide +kernel
theorem dX11_later_14 : decode cX11_later 14 = .ok (.iload_n 3, 1) := by decide +kernel
theorem dX11_later_15 : decode cX11_later 15 = .ok (.ifCond .eq 5, 3) := by decide +kernel
theorem dX11_later_18 : decode cX11_later 18 = .ok (.iload_n 3, 1) := by decide +kernel
theorem dX11_later_19 : decode cX11_later 19 = .ok (.ireturn, 1) := by decide +kernel
theorem dX11_later_20 : decode cX11_later 20 = .ok (.iconst 0, 1) := by decide +kernel
theorem dX11_later_21 : decode cX11_later 21 = .ok (.istore 4, 2) := by decide +kernel
theorem dX11_later_23 : decode cX11_later 23 = .ok (.iload 4, 2) := by decide +kernel
theorem dX11_later_25 : decode cX11_later 25 = .ok (.bipush 99, 2) := by decide +kernel
theorem dX11_later_27 : decode cX11_later 27 = .ok (.if_icmp .gt 32, 3) := by decide +kernel
theorem dX11_later_30 : decode cX11_later 30 = .ok (.aload_n 0, 1) := by decide +kernel
theorem dX11_later_31 : decode cX11_later 31 = .ok (.getfield 51, 3) := by decide +kernel
theorem dX11_later_34 : decode cX11_later 34 = .ok (.iload_n 2, 1) := by decide +kernel
theorem dX11_later_35 : decode cX11_later 35 = .ok (.iload 4, 2) := by decide +kernel
theorem dX11_later_37 : decode cX11_later 37 = .ok (.invokevirtual 276, 3) := by decide +kernel
theorem dX11_later_40 : decode cX11_later 40 = .ok (.aload_n 0, 1) := by decide +kernel
theorem dX11_later_41 : decode cX11_later 41 = .ok (.iload_n 1, 1) := by decide +kernel
theorem dX11_later_42 : decode cX11_later 42 = .ok (.invokevirtual 270, 3) := by decide +kernel
theorem dX11_later_45 : decode cX11_later 45 = .ok (.bipush (-2), 2) := by decide +kernel
theorem dX11_later_47 : decode cX11_later 47 = .ok (.if_icmp .ne 6, 3) := by decide +kernel
theorem dX11_later_50 : decode cX11_later 50 = .ok (.iload 4, 2) := by decide +kernel
theorem dX11_later_52 : decode cX11_later 52 = .ok (.ireturn, 1) := by decide +kernel
theorem dX11_later_53 : decode cX11_later 53 = .ok (.iinc 4 1, 3) := by decide +kernel
theorem dX11_later_56 : decode cX11_later 56 = .ok (.goto (-33), 3) := by decide +kernel
theorem dX11_later_59 : decode cX11_later 59 = .ok (.bipush (-2), 2) := by decide +kernel
theorem dX11_later_61 : decode cX11_later 61 = .ok (.ireturn, 1) := by decide +kernel
theorem dX11_quicker_0 : decode cX11_quicker 0 = .ok (.aload_n 0, 1) := by decide +kernel
theorem dX11_quicker_1 : decode cX11_quicker 1 = .ok (.iload_n 1, 1) := by decide +kernel
theorem dX11_quicker_2 : decode cX11_quicker 2 = .ok (.aload_n 0, 1) := by decide +kernel
theorem dX11_quicker_3 : decode cX11_quicker 3 = .ok (.getfield 10, 3) := by decide +kernel
theorem dX11_quicker_6 : decode cX11_quicker 6 = .ok (.iload_n 2, 1) := by decide +kernel
theorem dX11_quicker_7 : decode cX11_quicker 7 = .ok (.invokevirtual 137, 3) := by decide +kernel
theorem dX11_quicker_10 : decode cX11_quicker 10 = .ok (.invokevirtual 267, 3) := by decide +kernel
theorem dX11_quicker_13 : decode cX11_quicker 13 = .ok (.istore_n 3, 1) := by decide +kernel
theorem dX11_quicker_14 : decode cX11_quicker 14 = .ok (.iload_n 3, 1) := by decide +kernel
theorem dX11_quicker_15 : decode cX11_quicker 15 = .ok (.ifCond .eq 15, 3) := by decide +kernel
theorem dX11_quicker_18 : decode cX11_quicker 18 = .ok (.iload_n 3, 1) := by decide +kernel
theorem dX11_quicker_19 : decode cX11_quicker 19 = .ok (.iconst (-1), 1) := by decide +kernel
theorem dX11_quicker_20 : decode cX11_quicker 20 = .ok (.if_icmp .ne 8, 3) := by decide +kernel
theorem dX11_quicker_23 : decode cX11_quicker 23 = .ok (.ldc 129, 2) := by decide +kernel
theorem dX11_quicker_25 : decode cX11_quicker 25 = .ok (.goto 4, 3) := by decide +kernel
theorem dX11_quicker_28 : decode cX11_quicker 28 = .ok (.iload_n 3, 1) := by decide +kernel
theorem dX11_quicker_29 : decode cX11_quicker 29 = .ok (.ireturn, 1) := by decide +kernel
theorem dX11_quicker_30 : decode cX11_quicker 30 = .ok (.bipush (-9), 2) := by decide +kernel
theorem dX11_quicker_32 : decode cX11_quicker 32 = .ok (.istore 4, 2) := by decide +kernel
theorem dX11_quicker_34 : decode cX11_quicker 34 = .ok (.iload 4, 2) := by decide +kernel
theorem dX11_quicker_36 : decode cX11_quicker 36 = .ok (.bipush 9, 2) := by decide +kernel
theorem dX11_quicker_38 : decode cX11_quicker 38 = .ok (.if_icmp .gt 32, 3) := by decide +kernel
theorem dX11_quicker_41 : decode cX11_quicker 41 = .ok (.aload_n 0, 1) := by decide +kernel
theorem dX11_quicker_42 : decode cX11_quicker 42 = .ok (.getfield 51, 3) := by decide +kernel
theorem dX11_quicker_45 : decode cX11_quicker 45 = .ok (.iload_n 2, 1) := by decide +kernel
theorem dX11_quicker_46 : decode cX11_quicker 46 = .ok (.iload 4, 2) := by decide +kernel
theorem dX11_quicker_48 : decode cX11_quicker 48 = .ok (.invokevirtual 280, 3) := by decide +kernel
theorem dX11_quicker_51 : decode cX11_quicker 51 = .ok (.aload_n 0, 1) := by decide +kernel
theorem dX11_quicker_52 : decode cX11_quicker 52 = .ok (.iload_n 1, 1) := by decide +kernel
theorem dX11_quicker_53 : decode cX11_quicker 53 = .ok (.invokevirtual 270, 3) := by decide +kernel
theorem dX11_quicker_56 : decode cX11_quicker 56 = .ok (.bipush (-2), 2) := by decide +kernel
theorem dX11_quicker_58 : decode cX11_quicker 58 = .ok (.if_icmp .ne 6, 3) := by decide +kernel
theorem dX11_quicker_61 : decode cX11_quicker 61 = .ok (.iload 4, 2) := by decide +kernel
theorem dX11_quicker_63 : decode cX11_quicker 63 = .ok (.ireturn, 1) := by decide +kernel
theorem dX11_quicker_64 : decode cX11_quicker 64 = .ok (.iinc 4 1, 3) := by decide +kernel
theorem dX11_quicker_67 : decode cX11_quicker 67 = .ok (.goto (-33), 3) := by decide +kernel
theorem dX11_quicker_70 : decode cX11_quicker 70 = .ok (.bipush (-99), 2) := by decide +kernel
theorem dX11_quicker_72 : decode cX11_quicker 72 = .ok (.ireturn, 1) := by decide +kernel
theorem dX11_drawn_0 : decode cX11_drawn 0 = .ok (.iload_n 3, 1) := by decide +kernel
theorem dX11_drawn_1 : decode cX11_drawn 1 = .ok (.bipush 100, 2) := by decide +kernel
theorem dX11_drawn_3 : decode cX11_drawn 3 = .ok (.idiv, 1) := by decide +kernel
theorem dX11_drawn_4 : decode cX11_drawn 4 = .ok (.istore 5, 2) := by decide +kernel
theorem dX11_drawn_6 : decode cX11_drawn 6 = .ok (.iload_n 3, 1) := by decide +kernel
theorem dX11_drawn_7 : decode cX11_drawn 7 = .ok (.bipush 100, 2) := by decide +kernel
theorem dX11_drawn_9 : decode cX11_drawn 9 = .ok (.irem, 1) := by decide +kernel
theorem dX11_drawn_10 : decode cX11_drawn 10 = .ok (.istore 6, 2) := by decide +kernel
theorem dX11_drawn_12 : decode cX11_drawn 12 = .ok (.aload_n 0, 1) := by decide +kernel
theorem dX11_drawn_13 : decode cX11_drawn 13 = .ok (.iload_n 1, 1) := by decide +kernel
theorem dX11_drawn_14 : decode cX11_drawn 14 = .ok (.iload 5, 2) := by decide +kernel
theorem dX11_drawn_16 : decode cX11_drawn 16 = .ok (.iconst 1, 1) := by decide +kernel
theorem dX11_drawn_17 : decode cX11_drawn 17 = .ok (.if_icmp .lt 29, 3) := by decide +kernel
theorem dX11_drawn_20 : decode cX11_drawn 20 = .ok (.iload 5, 2) := by decide +kernel
theorem dX11_drawn_22 : decode cX11_drawn 22 = .ok (.bipush 30, 2) := by decide +kernel
theorem dX11_drawn_24 : decode cX11_drawn 24 = .ok (.if_icmp .gt 22, 3) := by decide +kernel
theorem dX11_drawn_27 : decode cX11_drawn 27 = .ok (.iload 6, 2) := by decide +kernel
theorem dX11_drawn_29 : decode cX11_drawn 29 = .ok (.bipush 12, 2) := by decide +kernel
theorem dX11_drawn_31 : decode cX11_drawn 31 = .ok (.if_icmp .gt 15, 3) := by decide +kernel
theorem dX11_drawn_34 : decode cX11_drawn 34 = .ok (.iload 4, 2) := by decide +kernel
theorem dX11_drawn_36 : decode cX11_drawn 36 = .ok (.invokestatic 201, 3) := by decide +kernel
theorem dX11_drawn_39 : decode cX11_drawn 39 = .ok (.ifCond .eq 7, 3) := by decide +kernel
theorem dX11_drawn_42 : decode cX11_drawn 42 = .ok (.iconst 1, 1) := by decide +kernel
theorem dX11_drawn_43 : decode cX11_drawn 43 = .ok (.goto 4, 3) := by decide +kernel
theorem dX11_drawn_46 : decode cX11_drawn 46 = .ok (.iconst 0, 1) := by decide +kernel
theorem dX11_drawn_47 : decode cX11_drawn 47 = .ok (.invokevirtual 179, 3) := by decide +kernel
theorem dX11_drawn_50 : decode cX11_drawn 50 = .ok (.istore 7, 2) := by decide +kernel
theorem dX11_drawn_52 : decode cX11_drawn 52 = .ok (.iload 7, 2) := by decide +kernel
theorem dX11_drawn_54 : decode cX11_drawn 54 = .ok (.ifCond .eq 8, 3) := by decide +kernel
theorem dX11_drawn_57 : decode cX11_drawn 57 = .ok (.iload 7, 2) := by decide +kernel
theorem dX11_drawn_59 : decode cX11_drawn 59 = .ok (.goto 25, 3) := by decide +kernel
theorem dX11_drawn_62 : decode cX11_drawn 62 = .ok (.aload_n 0, 1) := by decide +kernel
theorem dX11_drawn_63 : decode cX11_drawn 63 = .ok (.getfield 51, 3) := by decide +kernel
theorem dX11_drawn_66 : decode cX11_drawn 66 = .ok (.iload_n 2, 1) := by decide +kernel
theorem dX11_drawn_67 : decode cX11_drawn 67 = .ok (.iload 5, 2) := by decide +kernel
theorem dX11_drawn_69 : decode cX11_drawn 69 = .ok (.iload 6, 2) := by decide +kernel
theorem dX11_drawn_71 : decode cX11_drawn 71 = .ok (.iload 4, 2) := by decide +kernel
theorem dX11_drawn_73 : decode cX11_drawn 73 = .ok (.ifCond .ne 7, 3) := by decide +kernel
theorem dX11_drawn_76 : decode cX11_drawn 76 = .ok (.iconst 1, 1) := by decide +kernel
theorem dX11_drawn_77 : decode cX11_drawn 77 = .ok (.goto 4, 3) := by decide +kernel
theorem dX11_drawn_80 : decode cX11_drawn 80 = .ok (.iconst 0, 1) := by decide +kernel
theorem dX11_drawn_81 : decode cX11_drawn 81 = .ok (.invokevirtual 283, 3) := by decide +kernel
theorem dX11_drawn_84 : decode cX11_drawn 84 = .ok (.ireturn, 1) := by decide +kernel
theorem dX11_swim_0 : decode cX11_swim 0 = .ok (.aload_n 0, 1) := by decide +kernel
theorem dX11_swim_1 : decode cX11_swim 1 = .ok (.iload_n 1, 1) := by decide +kernel
theorem dX11_swim_2 : decode cX11_swim 2 = .ok (.iconst 1, 1) := by decide +kernel
theorem dX11_swim_3 : decode cX11_swim 3 = .ok (.invokevirtual 179, 3) := by decide +kernel
theorem dX11_swim_6 : decode cX11_swim 6 = .ok (.istore_n 2, 1) := by decide +kernel
theorem dX11_swim_7 : decode cX11_swim 7 = .ok (.iload_n 2, 1) := by decide +kernel
theorem dX11_swim_8 : decode cX11_swim 8 = .ok (.ifCond .eq 5, 3) := by decide +kernel
theorem dX11_swim_11 : decode cX11_swim 11 = .ok (.iload_n 2, 1) := by decide +kernel
theorem dX11_swim_12 : decode cX11_swim 12 = .ok (.ireturn, 1) := by decide +kernel
theorem dX11_swim_13 : decode cX11_swim 13 = .ok (.aload_n 0, 1) := by decide +kernel
theorem dX11_swim_14 : decode cX11_swim 14 = .ok (.getfield 51, 3) := by decide +kernel
theorem dX11_swim_17 : decode cX11_swim 17 = .ok (.invokevirtual 185, 3) := by decide +kernel
theorem dX11_swim_20 : decode cX11_swim 20 = .ok (.istore_n 3, 1) := by decide +kernel
theorem dX11_swim_21 : decode cX11_swim 21 = .ok (.aload_n 0, 1) := by decide +kernel
theorem dX11_swim_22 : decode cX11_swim 22 = .ok (.getfield 72, 3) := by decide +kernel
theorem dX11_swim_25 : decode cX11_swim 25 = .ok (.aload_n 0, 1) := by decide +kernel
theorem dX11_swim_26 : decode cX11_swim 26 = .ok (.getfield 10, 3) := by decide +kernel
theorem dX11_swim_29 : decode cX11_swim 29 = .ok (.invokevirtual 245, 3) := by decide +kernel
theorem dX11_swim_32 : decode cX11_swim 32 = .ok (.aload_n 0, 1) := by decide +kernel
theorem dX11_swim_33 : decode cX11_swim 33 = .ok (.getfield 42, 3) := by decide +kernel
theorem dX11_swim_36 : decode cX11_swim 36 = .ok (.iload_n 3, 1) := by decide +kernel
theorem dX11_swim_37 : decode cX11_swim 37 = .ok (.aload_n 0, 1) := by decide +kernel
theorem dX11_swim_38 : decode cX11_swim 38 = .ok (.getfield 51, 3) := by decide +kernel
theorem dX11_swim_41 : decode cX11_swim 41 = .ok (.invokevirtual 210, 3) := by decide +kernel
theorem dX11_swim_44 : decode cX11_swim 44 = .ok (.invokevirtual 287, 3) := by decide +kernel
theorem dX11_swim_47 : decode cX11_swim 47 = .ok (.iload_n 3, 1) := by decide +kernel
theorem dX11_swim_48 : decode cX11_swim 48 = .ok (.ireturn, 1) := by decide +kernel
theorem dX11_led_0 : decode cX11_led 0 = .ok (.iload_n 1, 1) := by decide +kernel
theorem dX11_led_1 : decode cX11_led 1 = .ok (.ifCond .lt 19, 3) := by decide +kernel
theorem dX11_led_4 : decode cX11_led 4 = .ok (.iload_n 1, 1) := by decide +kernel
theorem dX11_led_5 : decode cX11_led 5 = .ok (.iconst 5, 1) := by decide +kernel
theorem dX11_led_6 : decode cX11_led 6 = .ok (.if_icmp .ge 14, 3) := by decide +kernel
theorem dX11_led_9 : decode cX11_led 9 = .ok (.aload_n 0, 1) := by decide +kernel
theorem dX11_led_10 : decode cX11_led 10 = .ok (.getfield 72, 3) := by decide +kernel
theorem dX11_led_13 : decode cX11_led 13 = .ok (.iload_n 1, 1) := by decide +kernel
theorem dX11_led_14 : decode cX11_led 14 = .ok (.invokevirtual 291, 3) := by decide +kernel
theorem dX11_led_17 : decode cX11_led 17 = .ok (.goto 4, 3) := by decide +kernel
theorem dX11_led_20 : decode cX11_led 20 = .ok (.iconst (-1), 1) := by decide +kernel
theorem dX11_led_21 : decode cX11_led 21 = .ok (.ireturn, 1) := by decide +kernel
theorem dX11_image_0 : decode cX11_image 0 = .ok (.aload_n 0, 1) := by decide +kernel
theorem dX11_image_1 : decode cX11_image 1 = .ok (.getfield 72, 3) := by decide +kernel
theorem dX11_image_4 : decode cX11_image 4 = .ok (.invokevirtual 294, 3) := by decide +kernel
theorem dX11_image_7 : decode cX11_image 7 = .ok (.aload_n 0, 1) := by decide +kernel
theorem dX11_image_8 : decode cX11_image 8 = .ok (.getfield 72, 3) := by decide +kernel
theorem dX11_image_11 : decode cX11_image 11 = .ok (.iconst 0, 1) := by decide +kernel
theorem dX11_image_12 : decode cX11_image 12 = .ok (.invokevirtual 291, 3) := by decide +kernel
theorem dX11_image_15 : decode cX11_image 15 = .ok (.ireturn, 1) := by decide +kernel
theorem dX11_back_0 : decode cX11_back 0 = .ok (.aload_n 0, 1) := by decide +kernel
theorem dX11_back_1 : decode cX11_back 1 = .ok (.getfield 72, 3) := by decide +kernel
theorem dX11_back_4 : decode cX11_back 4 = .ok (.invokevirtual 297, 3) := by decide +kernel
theorem dX11_back_7 : decode cX11_back 7 = .ok (.ifCond .ne 6, 3) := by decide +kernel
theorem dX11_back_10 : decode cX11_back 10 = .ok (.bipush (-5), 2) := by decide +kernel
theorem dX11_back_12 : decode cX11_back 12 = .ok (.ireturn, 1) := by decide +kernel
theorem dX11_back_13 : decode cX11_back 13 = .ok (.aload_n 0, 1) := by decide +kernel
theorem dX11_back_14 : decode cX11_back 14 = .ok (.getfield 72, 3) := by decide +kernel
theorem dX11_back_17 : decode cX11_back 17 = .ok (.invokevirtual 300, 3) := by decide +kernel
theorem dX11_back_20 : decode cX11_back 20 = .ok (.aload_n 0, 1) := by decide +kernel
theorem dX11_back_21 : decode cX11_back 21 = .ok (.getfield 72, 3) := by decide +kernel
theorem dX11_back_24 : decode cX11_back 24 = .ok (.iconst 0, 1) := by decide +kernel
theorem dX11_back_25 : decode cX11_back 25 = .ok (.invokevirtual 291, 3) := by decide +kernel
theorem dX11_back_28 : decode cX11_back 28 = .ok (.ireturn, 1) := by decide +kernel
theorem dX11_undo_0 : decode cX11_undo 0 = .ok (.aload_n 0, 1) := by decide +kernel
theorem dX11_undo_1 : decode cX11_undo 1 = .ok (.getfield 21, 3) := by decide +kernel
theorem dX11_undo_4 : decode cX11_undo 4 = .ok (.invokevirtual 303, 3) := by decide +kernel
theorem dX11_undo_7 : decode cX11_undo 7 = .ok (.ifCond .eq 13, 3) := by decide +kernel
theorem dX11_undo_10 : decode cX11_undo 10 = .ok (.aload_n 0, 1) := by decide +kernel
theorem dX11_undo_11 : decode cX11_undo 11 = .ok (.getfield 21, 3) := by decide +kernel
theorem dX11_undo_14 : decode cX11_undo 14 = .ok (.invokevirtual 306, 3) := by decide +kernel
theorem dX11_undo_17 : decode cX11_undo 17 = .ok (.goto 5, 3) := by decide +kernel
theorem dX11_undo_20 : decode cX11_undo 20 = .ok (.bipush (-5), 2) := by decide +kernel
theorem dX11_undo_22 : decode cX11_undo 22 = .ok (.ireturn, 1) := by decide +kernel
theorem dX11_redo_0 : decode cX11_redo 0 = .ok (.aload_n 0, 1) := by decide +kernel
theorem dX11_redo_1 : decode cX11_redo 1 = .ok (.getfield 21, 3) := by decide +kernel
theorem dX11_redo_4 : decode cX11_redo 4 = .ok (.invokevirtual 309, 3) := by decide +kernel
theorem dX11_redo_7 : decode cX11_redo 7 = .ok (.ifCond .eq 13, 3) := by decide +kernel
theorem dX11_redo_10 : decode cX11_redo 10 = .ok (.aload_n 0, 1) := by decide +kernel
theorem dX11_redo_11 : decode cX11_redo 11 = .ok (.getfield 21, 3) := by decide +kernel
theorem dX11_redo_14 : decode cX11_redo 14 = .ok (.invokevirtual 312, 3) := by decide +kernel
theorem dX11_redo_17 : decode cX11_redo 17 = .ok (.goto 5, 3) := by decide +kernel
theorem dX11_redo_20 : decode cX11_redo 20 = .ok (.bipush (-5), 2) := by decide +kernel
theorem dX11_redo_22 : decode cX11_redo 22 = .ok (.ireturn, 1) := by decide +kernel
theorem dX11_body_0 : decode cX11_body 0 = .ok (.iload_n 1, 1) := by decide +kernel
theorem dX11_body_1 : decode cX11_body 1 = .ok (.invokestatic 315, 3) := by decide +kernel
theorem dX11_body_4 : decode cX11_body 4 = .ok (.ifCond .ne 5, 3) := by decide +kernel
theorem dX11_body_7 : decode cX11_body 7 = .ok (.iconst (-1), 1) := by decide +kernel
theorem dX11_body_8 : decode cX11_body 8 = .ok (.ireturn, 1) := by decide +kernel
theorem dX11_body_9 : decode cX11_body 9 = .ok (.aload_n 0, 1) := by decide +kernel
theorem dX11_body_10 : decode cX11_body 10 = .ok (.getfield 79, 3) := by decide +kernel
theorem dX11_body_13 : decode cX11_body 13 = .ok (.invokevirtual 318, 3) := by decide +kernel
theorem dX11_body_16 : decode cX11_body 16 = .ok (.ifCond .eq 8, 3) := by decide +kernel
theorem dX11_body_19 : decode cX11_body 19 = .ok (.bipush (-3), 2) := by decide +kernel
theorem dX11_body_21 : decode cX11_body 21 = .ok (.goto 11, 3) := by decide +kernel
theorem dX11_body_24 : decode cX11_body 24 = .ok (.aload_n 0, 1) := by decide +kernel
theorem dX11_body_25 : decode cX11_body 25 = .ok (.getfield 79, 3) := by decide +kernel
theorem dX11_body_28 : decode cX11_body 28 = .ok (.iload_n 1, 1) := by decide +kernel
theorem dX11_body_29 : decode cX11_body 29 = .ok (.invokevirtual 319, 3) := by decide +kernel
theorem dX11_body_32 : decode cX11_body 32 = .ok (.ireturn, 1) := by decide +kernel
theorem dX11_act_0 : decode cX11_act 0 = .ok (.aload_n 0, 1) := by decide +kernel
theorem dX11_act_1 : decode cX11_act 1 = .ok (.getfield 79, 3) := by decide +kernel
theorem dX11_act_4 : decode cX11_act 4 = .ok (.iload_n 1, 1) := by decide +kernel
theorem dX11_act_5 : decode cX11_act 5 = .ok (.invokevirtual 322, 3) := by decide +kernel
theorem dX11_act_8 : decode cX11_act 8 = .ok (.ifCond .ne 5, 3) := by decide +kernel
theorem dX11_act_11 : decode cX11_act 11 = .ok (.iconst 0, 1) := by decide +kernel
theorem dX11_act_12 : decode cX11_act 12 = .ok (.ireturn, 1) := by decide +kernel
theorem dX11_act_13 : decode cX11_act 13 = .ok (.iload_n 2, 1) := by decide +kernel
theorem dX11_act_14 : decode cX11_act 14 = .ok (.tableswitch 66 0 3 #[30, 39, 48, 57], 30) := by decide +kernel
theorem dX11_act_44 : decode cX11_act 44 = .ok (.aload_n 0, 1) := by decide +kernel
theorem dX11_act_45 : decode cX11_act 45 = .ok (.getfield 79, 3) := by decide +kernel
theorem dX11_act_48 : decode cX11_act 48 = .ok (.iload_n 3, 1) := by decide +kernel
theorem dX11_act_49 : decode cX11_act 49 = .ok (.invokevirtual 325, 3) := by decide +kernel
theorem dX11_act_52 : decode cX11_act 52 = .ok (.ireturn, 1) := by decide +kernel
theorem dX11_act_53 : decode cX11_act 53 = .ok (.aload_n 0, 1) := by decide +kernel
theorem dX11_act_54 : decode cX11_act 54 = .ok (.getfield 79, 3) := by decide +kernel
theorem dX11_act_57 : decode cX11_act 57 = .ok (.iload_n 3, 1) := by decide +kernel
theorem dX11_act_58 : decode cX11_act 58 = .ok (.invokevirtual 327, 3) := by decide +kernel
theorem dX11_act_61 : decode cX11_act 61 = .ok (.ireturn, 1) := by decide +kernel
theorem dX11_act_62 : decode cX11_act 62 = .ok (.aload_n 0, 1) := by decide +kernel
theorem dX11_act_63 : decode cX11_act 63 = .ok (.getfield 79, 3) := by decide +kernel
theorem dX11_act_66 : decode cX11_act 66 = .ok (.iload_n 3, 1) := by decide +kernel
theorem dX11_act_67 : decode cX11_act 67 = .ok (.invokevirtual 330, 3) := by decide +kernel
theorem dX11_act_70 : decode cX11_act 70 = .ok (.ireturn, 1) := by decide +kernel
theorem dX11_act_71 : decode cX11_act 71 = .ok (.aload_n 0, 1) := by decide +kernel
theorem dX11_act_72 : decode cX11_act 72 = .ok (.getfield 79, 3) := by decide +kernel
theorem dX11_act_75 : decode cX11_act 75 = .ok (.iload_n 3, 1) := by decide +kernel
theorem dX11_act_76 : decode cX11_act 76 = .ok (.invokevirtual 333, 3) := by decide +kernel
theorem dX11_act_79 : decode cX11_act 79 = .ok (.ireturn, 1) := by decide +kernel
theorem dX11_act_80 : decode cX11_act 80 = .ok (.iconst 0, 1) := by decide +kernel
theorem dX11_act_81 : decode cX11_act 81 = .ok (.ireturn, 1) := by decide +kernel
theorem dX11_trace_0 : decode cX11_trace 0 = .ok (.aload_n 0, 1) := by decide +kernel
theorem dX11_trace_1 : decode cX11_trace 1 = .ok (.getfield 79, 3) := by decide +kernel
theorem dX11_trace_4 : decode cX11_trace 4 = .ok (.iload_n 1, 1) := by decide +kernel
theorem dX11_trace_5 : decode cX11_trace 5 = .ok (.invokevirtual 336, 3) := by decide +kernel
theorem dX11_trace_8 : decode cX11_trace 8 = .ok (.ireturn, 1) := by decide +kernel
theorem dX11_keep_0 : decode cX11_keep 0 = .ok (.iload_n 1, 1) := by decide +kernel
theorem dX11_keep_1 : decode cX11_keep 1 = .ok (.invokestatic 102, 3) := by decide +kernel
theorem dX11_keep_4 : decode cX11_keep 4 = .ok (.ifCond .eq 19, 3) := by decide +kernel
theorem dX11_keep_7 : decode cX11_keep 7 = .ok (.iload_n 2, 1) := by decide +kernel
theorem dX11_keep_8 : decode cX11_keep 8 = .ok (.iconst (-1), 1) := by decide +kernel
theorem dX11_keep_9 : decode cX11_keep 9 = .ok (.if_icmp .eq 16, 3) := by decide +kernel
theorem dX11_keep_12 : decode cX11_keep 12 = .ok (.aload_n 0, 1) := by decide +kernel
theorem dX11_keep_13 : decode cX11_keep 13 = .ok (.getfield 79, 3) := by decide +kernel
theorem dX11_keep_16 : decode cX11_keep 16 = .ok (.iload_n 2, 1) := by decide +kernel
theorem dX11_keep_17 : decode cX11_keep 17 = .ok (.invokevirtual 339, 3) := by decide +kernel
theorem dX11_keep_20 : decode cX11_keep 20 = .ok (.ifCond .ne 5, 3) := by decide +kernel
theorem dX11_keep_23 : decode cX11_keep 23 = .ok (.iconst (-1), 1) := by decide +kernel
theorem dX11_keep_24 : decode cX11_keep 24 = .ok (.ireturn, 1) := by decide +kernel
theorem dX11_keep_25 : decode cX11_keep 25 = .ok (.aload_n 0, 1) := by decide +kernel
theorem dX11_keep_26 : decode cX11_keep 26 = .ok (.getfield 86, 3) := by decide +kernel
theorem dX11_keep_29 : decode cX11_keep 29 = .ok (.iload_n 1, 1) := by decide +kernel
theorem dX11_keep_30 : decode cX11_keep 30 = .ok (.iload_n 2, 1) := by decide +kernel
theorem dX11_keep_31 : decode cX11_keep 31 = .ok (.invokevirtual 340, 3) := by decide +kernel
theorem dX11_keep_34 : decode cX11_keep 34 = .ok (.iconst 1, 1) := by decide +kernel
theorem dX11_keep_35 : decode cX11_keep 35 = .ok (.ireturn, 1) := by decide +kernel
theorem dX11_row_0 : decode cX11_row 0 = .ok (.iload_n 1, 1) := by decide +kernel
theorem dX11_row_1 : decode cX11_row 1 = .ok (.invokestatic 102, 3) := by decide +kernel
theorem dX11_row_4 : decode cX11_row 4 = .ok (.ifCond .eq 16, 3) := by decide +kernel
theorem dX11_row_7 : decode cX11_row 7 = .ok (.iload_n 2, 1) := by decide +kernel
theorem dX11_row_8 : decode cX11_row 8 = .ok (.invokestatic 343, 3) := by decide +kernel
theorem dX11_row_11 : decode cX11_row 11 = .ok (.ifCond .eq 9, 3) := by decide +kernel
theorem dX11_row_14 : decode cX11_row 14 = .ok (.iload_n 3, 1) := by decide +kernel
theorem dX11_row_15 : decode cX11_row 15 = .ok (.bipush 60, 2) := by decide +kernel
theorem dX11_row_17 : decode cX11_row 17 = .ok (.if_icmp .le 5, 3) := by decide +kernel
theorem dX11_row_20 : decode cX11_row 20 = .ok (.iconst (-1), 1) := by decide +kernel
theorem dX11_row_21 : decode cX11_row 21 = .ok (.ireturn, 1) := by decide +kernel
theorem dX11_row_22 : decode cX11_row 22 = .ok (.iload_n 3, 1) := by decide +kernel
theorem dX11_row_23 : decode cX11_row 23 = .ok (.ifCond .ge 6, 3) := by decide +kernel
theorem dX11_row_26 : decode cX11_row 26 = .ok (.bipush (-14), 2) := by decide +kernel
theorem dX11_row_28 : decode cX11_row 28 = .ok (.ireturn, 1) := by decide +kernel
theorem dX11_row_29 : decode cX11_row 29 = .ok (.aload_n 0, 1) := by decide +kernel
theorem dX11_row_30 : decode cX11_row 30 = .ok (.getfield 86, 3) := by decide +kernel
theorem dX11_row_33 : decode cX11_row 33 = .ok (.iload_n 1, 1) := by decide +kernel
theorem dX11_row_34 : decode cX11_row 34 = .ok (.iload_n 2, 1) := by decide +kernel
theorem dX11_row_35 : decode cX11_row 35 = .ok (.iload_n 3, 1) := by decide +kernel
theorem dX11_row_36 : decode cX11_row 36 = .ok (.invokevirtual 346, 3) := by decide +kernel
theorem dX11_row_39 : decode cX11_row 39 = .ok (.iconst 1, 1) := by decide +kernel
theorem dX11_row_40 : decode cX11_row 40 = .ok (.ireturn, 1) := by decide +kernel
theorem dX11_put_0 : decode cX11_put 0 = .ok (.iload_n 1, 1) := by decide +kernel
theorem dX11_put_1 : decode cX11_put 1 = .ok (.invokestatic 102, 3) := by decide +kernel
theorem dX11_put_4 : decode cX11_put 4 = .ok (.ifCond .ne 5, 3) := by decide +kernel
theorem dX11_put_7 : decode cX11_put 7 = .ok (.iconst (-1), 1) := by decide +kernel
theorem dX11_put_8 : decode cX11_put 8 = .ok (.ireturn, 1) := by decide +kernel
theorem dX11_put_9 : decode cX11_put 9 = .ok (.aload_n 0, 1) := by decide +kernel
theorem dX11_put_10 : decode cX11_put 10 = .ok (.getfield 86, 3) := by decide +kernel
theorem dX11_put_13 : decode cX11_put 13 = .ok (.iload_n 1, 1) := by decide +kernel
theorem dX11_put_14 : decode cX11_put 14 = .ok (.invokevirtual 349, 3) := by decide +kernel
theorem dX11_put_17 : decode cX11_put 17 = .ok (.istore 5, 2) := by decide +kernel
theorem dX11_put_19 : decode cX11_put 19 = .ok (.iload 5, 2) := by decide +kernel
theorem dX11_put_21 : decode cX11_put 21 = .ok (.ifCond .eq 6, 3) := by decide +kernel
theorem dX11_put_24 : decode cX11_put 24 = .ok (.iload 5, 2) := by decide +kernel
theorem dX11_put_26 : decode cX11_put 26 = .ok (.ireturn, 1) := by decide +kernel
theorem dX11_put_27 : decode cX11_put 27 = .ok (.aload_n 0, 1) := by decide +kernel
theorem dX11_put_28 : decode cX11_put 28 = .ok (.getfield 86, 3) := by decide +kernel
theorem dX11_put_31 : decode cX11_put 31 = .ok (.iload_n 1, 1) := by decide +kernel
theorem dX11_put_32 : decode cX11_put 32 = .ok (.iload_n 2, 1) := by decide +kernel
theorem dX11_put_33 : decode cX11_put 33 = .ok (.lload_n 3, 1) := by decide +kernel
theorem dX11_put_34 : decode cX11_put 34 = .ok (.invokevirtual 352, 3) := by decide +kernel
theorem dX11_put_37 : decode cX11_put 37 = .ok (.ifCond .eq 7, 3) := by decide +kernel
theorem dX11_put_40 : decode cX11_put 40 = .ok (.iconst 1, 1) := by decide +kernel
theorem dX11_put_41 : decode cX11_put 41 = .ok (.goto 5, 3) := by decide +kernel
theorem dX11_put_44 : decode cX11_put 44 = .ok (.bipush (-13), 2) := by decide +kernel
theorem dX11_put_46 : decode cX11_put 46 = .ok (.ireturn, 1) := by decide +kernel
theorem dX11_element_0 : decode cX11_element 0 = .ok (.iload_n 1, 1) := by decide +kernel
theorem dX11_element_1 : decode cX11_element 1 = .ok (.invokestatic 102, 3) := by decide +kernel
theorem dX11_element_4 : decode cX11_element 4 = .ok (.ifCond .eq 14, 3) := by decide +kernel
theorem dX11_element_7 : decode cX11_element 7 = .ok (.aload_n 0, 1) := by decide +kernel
theorem dX11_element_8 : decode cX11_element 8 = .ok (.getfield 86, 3) := by decide +kernel
theorem dX11_element_11 : decode cX11_element 11 = .ok (.iload_n 1, 1) := by decide +kernel
theorem dX11_element_12 : decode cX11_element 12 = .ok (.invokevirtual 349, 3) := by decide +kernel
theorem dX11_element_15 : decode cX11_element 15 = .ok (.ifCond .eq 7, 3) := by decide +kernel
theorem dX11_element_18 : decode cX11_element 18 = .ok (.ldc2_w 356, 3) := by decide +kernel
theorem dX11_element_21 : decode cX11_element 21 = .ok (.lreturn, 1) := by decide +kernel
theorem dX11_element_22 : decode cX11_element 22 = .ok (.aload_n 0, 1) := by decide +kernel
theorem dX11_element_23 : decode cX11_element 23 = .ok (.getfield 86, 3) := by decide +kernel
theorem dX11_element_26 : decode cX11_element 26 = .ok (.iload_n 1, 1) := by decide +kernel
theorem dX11_element_27 : decode cX11_element 27 = .ok (.iload_n 2, 1) := by decide +kernel
theorem dX11_element_28 : decode cX11_element 28 = .ok (.invokevirtual 358, 3) := by decide +kernel
theorem dX11_element_31 : decode cX11_element 31 = .ok (.lreturn, 1) := by decide +kernel
theorem dX11_shift_0 : decode cX11_shift 0 = .ok (.iload_n 1, 1) := by decide +kernel
theorem dX11_shift_1 : decode cX11_shift 1 = .ok (.invokestatic 102, 3) := by decide +kernel
theorem dX11_shift_4 : decode cX11_shift 4 = .ok (.ifCond .eq 10, 3) := by decide +kernel
theorem dX11_shift_7 : decode cX11_shift 7 = .ok (.iload_n 3, 1) := by decide +kernel
theorem dX11_shift_8 : decode cX11_shift 8 = .ok (.invokestatic 102, 3) := by decide +kernel
theorem dX11_shift_11 : decode cX11_shift 11 = .ok (.ifCond .ne 5, 3) := by decide +kernel
theorem dX11_shift_14 : decode cX11_shift 14 = .ok (.iconst (-1), 1) := by decide +kernel
theorem dX11_shift_15 : decode cX11_shift 15 = .ok (.ireturn, 1) := by decide +kernel
theorem dX11_shift_16 : decode cX11_shift 16 = .ok (.aload_n 0, 1) := by decide +kernel
theorem dX11_shift_17 : decode cX11_shift 17 = .ok (.getfield 86, 3) := by decide +kernel
theorem dX11_shift_20 : decode cX11_shift 20 = .ok (.iload_n 1, 1) := by decide +kernel
theorem dX11_shift_21 : decode cX11_shift 21 = .ok (.iload_n 3, 1) := by decide +kernel
theorem dX11_shift_22 : decode cX11_shift 22 = .ok (.invokevirtual 362, 3) := by decide +kernel
theorem dX11_shift_25 : decode cX11_shift 25 = .ok (.istore 6, 2) := by decide +kernel
theorem dX11_shift_27 : decode cX11_shift 27 = .ok (.iload 6, 2) := by decide +kernel
theorem dX11_shift_29 : decode cX11_shift 29 = .ok (.ifCond .eq 6, 3) := by decide +kernel
theorem dX11_shift_32 : decode cX11_shift 32 = .ok (.iload 6, 2) := by decide +kernel
theorem dX11_shift_34 : decode cX11_shift 34 = .ok (.ireturn, 1) := by decide +kernel
theorem dX11_shift_35 : decode cX11_shift 35 = .ok (.aload_n 0, 1) := by decide +kernel
theorem dX11_shift_36 : decode cX11_shift 36 = .ok (.getfield 86, 3) := by decide +kernel
theorem dX11_shift_39 : decode cX11_shift 39 = .ok (.iload_n 1, 1) := by decide +kernel
theorem dX11_shift_40 : decode cX11_shift 40 = .ok (.iload_n 2, 1) := by decide +kernel
theorem dX11_shift_41 : decode cX11_shift 41 = .ok (.iload_n 3, 1) := by decide +kernel
theorem dX11_shift_42 : decode cX11_shift 42 = .ok (.iload 4, 2) := by decide +kernel
theorem dX11_shift_44 : decode cX11_shift 44 = .ok (.iload 5, 2) := by decide +kernel
theorem dX11_shift_46 : decode cX11_shift 46 = .ok (.invokevirtual 365, 3) := by decide +kernel
theorem dX11_shift_49 : decode cX11_shift 49 = .ok (.ifCond .eq 8, 3) := by decide +kernel
theorem dX11_shift_52 : decode cX11_shift 52 = .ok (.iload 5, 2) := by decide +kernel
theorem dX11_shift_54 : decode cX11_shift 54 = .ok (.goto 5, 3) := by decide +kernel
theorem dX11_shift_57 : decode cX11_shift 57 = .ok (.bipush (-13), 2) := by decide +kernel
theorem dX11_shift_59 : decode cX11_shift 59 = .ok (.ireturn, 1) := by decide +kernel
theorem dX11_taken_0 : decode cX11_taken 0 = .ok (.iload_n 1, 1) := by decide +kernel
theorem dX11_taken_1 : decode cX11_taken 1 = .ok (.invokestatic 102, 3) := by decide +kernel
theorem dX11_taken_4 : decode cX11_taken 4 = .ok (.ifCond .eq 10, 3) := by decide +kernel
theorem dX11_taken_7 : decode cX11_taken 7 = .ok (.iload_n 2, 1) := by decide +kernel
theorem dX11_taken_8 : decode cX11_taken 8 = .ok (.invokestatic 315, 3) := by decide +kernel
theorem dX11_taken_11 : decode cX11_taken 11 = .ok (.ifCond .ne 5, 3) := by decide +kernel
theorem dX11_taken_14 : decode cX11_taken 14 = .ok (.iconst (-1), 1) := by decide +kernel
theorem dX11_taken_15 : decode cX11_taken 15 = .ok (.ireturn, 1) := by decide +kernel
theorem dX11_taken_16 : decode cX11_taken 16 = .ok (.aload_n 0, 1) := by decide +kernel
theorem dX11_taken_17 : decode cX11_taken 17 = .ok (.getfield 86, 3) := by decide +kernel
theorem dX11_taken_20 : decode cX11_taken 20 = .ok (.iload_n 1, 1) := by decide +kernel
theorem dX11_taken_21 : decode cX11_taken 21 = .ok (.iconst 5, 1) := by decide +kernel
theorem dX11_taken_22 : decode cX11_taken 22 = .ok (.invokevirtual 106, 3) := by decide +kernel
theorem dX11_taken_25 : decode cX11_taken 25 = .ok (.istore_n 3, 1) := by decide +kernel
theorem dX11_taken_26 : decode cX11_taken 26 = .ok (.iload_n 3, 1) := by decide +kernel
theorem dX11_taken_27 : decode cX11_taken 27 = .ok (.ifCond .eq 5, 3) := by decide +kernel
theorem dX11_taken_30 : decode cX11_taken 30 = .ok (.iload_n 3, 1) := by decide +kernel
theorem dX11_taken_31 : decode cX11_taken 31 = .ok (.ireturn, 1) := by decide +kernel
theorem dX11_taken_32 : decode cX11_taken 32 = .ok (.aload_n 0, 1) := by decide +kernel
theorem dX11_taken_33 : decode cX11_taken 33 = .ok (.getfield 79, 3) := by decide +kernel
theorem dX11_taken_36 : decode cX11_taken 36 = .ok (.aload_n 0, 1) := by decide +kernel
theorem dX11_taken_37 : decode cX11_taken 37 = .ok (.getfield 86, 3) := by decide +kernel
theorem dX11_taken_40 : decode cX11_taken 40 = .ok (.iload_n 1, 1) := by decide +kernel
theorem dX11_taken_41 : decode cX11_taken 41 = .ok (.invokevirtual 369, 3) := by decide +kernel
theorem dX11_taken_44 : decode cX11_taken 44 = .ok (.invokevirtual 372, 3) := by decide +kernel
theorem dX11_taken_47 : decode cX11_taken 47 = .ok (.istore 4, 2) := by decide +kernel
theorem dX11_taken_49 : decode cX11_taken 49 = .ok (.iload 4, 2) := by decide +kernel
theorem dX11_taken_51 : decode cX11_taken 51 = .ok (.iload_n 2, 1) := by decide +kernel
theorem dX11_taken_52 : decode cX11_taken 52 = .ok (.invokestatic 375, 3) := by decide +kernel
theorem dX11_taken_55 : decode cX11_taken 55 = .ok (.ifCond .eq 8, 3) := by decide +kernel
theorem dX11_taken_58 : decode cX11_taken 58 = .ok (.iload 4, 2) := by decide +kernel
theorem dX11_taken_60 : decode cX11_taken 60 = .ok (.goto 5, 3) := by decide +kernel
theorem dX11_taken_63 : decode cX11_taken 63 = .ok (.bipush (-12), 2) := by decide +kernel
theorem dX11_taken_65 : decode cX11_taken 65 = .ok (.ireturn, 1) := by decide +kernel
theorem dX11_count_0 : decode cX11_count 0 = .ok (.iload_n 1, 1) := by decide +kernel
theorem dX11_count_1 : decode cX11_count 1 = .ok (.tableswitch 75 0 4 #[35, 43, 51, 59, 67], 35) := by decide +kernel
theorem dX11_count_36 : decode cX11_count 36 = .ok (.aload_n 0, 1) := by decide +kernel
theorem dX11_count_37 : decode cX11_count 37 = .ok (.getfield 10, 3) := by decide +kernel
theorem dX11_count_40 : decode cX11_count 40 = .ok (.invokevirtual 245, 3) := by decide +kernel
theorem dX11_count_43 : decode cX11_count 43 = .ok (.ireturn, 1) := by decide +kernel
theorem dX11_count_44 : decode cX11_count 44 = .ok (.aload_n 0, 1) := by decide +kernel
theorem dX11_count_45 : decode cX11_count 45 = .ok (.getfield 28, 3) := by decide +kernel
theorem dX11_count_48 : decode cX11_count 48 = .ok (.invokevirtual 378, 3) := by decide +kernel
theorem dX11_count_51 : decode cX11_count 51 = .ok (.ireturn, 1) := by decide +kernel
theorem dX11_count_52 : decode cX11_count 52 = .ok (.aload_n 0, 1) := by decide +kernel
theorem dX11_count_53 : decode cX11_count 53 = .ok (.getfield 21, 3) := by decide +kernel
theorem dX11_count_56 : decode cX11_count 56 = .ok (.invokevirtual 306, 3) := by decide +kernel
theorem dX11_count_59 : decode cX11_count 59 = .ok (.ireturn, 1) := by decide +kernel
theorem dX11_count_60 : decode cX11_count 60 = .ok (.aload_n 0, 1) := by decide +kernel
theorem dX11_count_61 : decode cX11_count 61 = .ok (.getfield 79, 3) := by decide +kernel
theorem dX11_count_64 : decode cX11_count 64 = .ok (.invokevirtual 381, 3) := by decide +kernel
theorem dX11_count_67 : decode cX11_count 67 = .ok (.ireturn, 1) := by decide +kernel
theorem dX11_count_68 : decode cX11_count 68 = .ok (.aload_n 0, 1) := by decide +kernel
theorem dX11_count_69 : decode cX11_count 69 = .ok (.getfield 79, 3) := by decide +kernel
theorem dX11_count_72 : decode cX11_count 72 = .ok (.invokevirtual 382, 3) := by decide +kernel
theorem dX11_count_75 : decode cX11_count 75 = .ok (.ireturn, 1) := by decide +kernel
theorem dX11_count_76 : decode cX11_count 76 = .ok (.iconst (-1), 1) := by decide +kernel
theorem dX11_count_77 : decode cX11_count 77 = .ok (.ireturn, 1) := by decide +kernel
theorem dX11_isZeroOrOne_0 : decode cX11_isZeroOrOne 0 = .ok (.iload_n 0, 1) := by decide +kernel
theorem dX11_isZeroOrOne_1 : decode cX11_isZeroOrOne 1 = .ok (.ifCond .eq 8, 3) := by decide +kernel
theorem dX11_isZeroOrOne_4 : decode cX11_isZeroOrOne 4 = .ok (.iload_n 0, 1) := by decide +kernel
theorem dX11_isZeroOrOne_5 : decode cX11_isZeroOrOne 5 = .ok (.iconst 1, 1) := by decide +kernel
theorem dX11_isZeroOrOne_6 : decode cX11_isZeroOrOne 6 = .ok (.if_icmp .ne 7, 3) := by decide +kernel
theorem dX11_isZeroOrOne_9 : decode cX11_isZeroOrOne 9 = .ok (.iconst 1, 1) := by decide +kernel
theorem dX11_isZeroOrOne_10 : decode cX11_isZeroOrOne 10 = .ok (.goto 4, 3) := by decide +kernel
theorem dX11_isZeroOrOne_13 : decode cX11_isZeroOrOne 13 = .ok (.iconst 0, 1) := by decide +kernel
theorem dX11_isZeroOrOne_14 : decode cX11_isZeroOrOne 14 = .ok (.ireturn, 1) := by decide +kernel
theorem dX11_begin_0 : decode cX11_begin 0 = .ok (.iload_n 2, 1) := by decide +kernel
theorem dX11_begin_1 : decode cX11_begin 1 = .ok (.ifCond .eq 10, 3) := by decide +kernel
theorem dX11_begin_4 : decode cX11_begin 4 = .ok (.iload_n 1, 1) := by decide +kernel
theorem dX11_begin_5 : decode cX11_begin 5 = .ok (.invokestatic 102, 3) := by decide +kernel
theorem dX11_begin_8 : decode cX11_begin 8 = .ok (.ifCond .ne 5, 3) := by decide +kernel
theorem dX11_begin_11 : decode cX11_begin 11 = .ok (.iconst (-1), 1) := by decide +kernel
theorem dX11_begin_12 : decode cX11_begin 12 = .ok (.ireturn, 1) := by decide +kernel
theorem dX11_begin_13 : decode cX11_begin 13 = .ok (.aload_n 0, 1) := by decide +kernel
theorem dX11_begin_14 : decode cX11_begin 14 = .ok (.getfield 86, 3) := by decide +kernel
theorem dX11_begin_17 : decode cX11_begin 17 = .ok (.iload_n 1, 1) := by decide +kernel
theorem dX11_begin_18 : decode cX11_begin 18 = .ok (.iconst 0, 1) := by decide +kernel
theorem dX11_begin_19 : decode cX11_begin 19 = .ok (.invokevirtual 106, 3) := by decide +kernel
theorem dX11_begin_22 : decode cX11_begin 22 = .ok (.istore_n 3, 1) := by decide +kernel
theorem dX11_begin_23 : decode cX11_begin 23 = .ok (.iload_n 3, 1) := by decide +kernel
theorem dX11_begin_24 : decode cX11_begin 24 = .ok (.ifCond .eq 5, 3) := by decide +kernel
theorem dX11_begin_27 : decode cX11_begin 27 = .ok (.iload_n 3, 1) := by decide +kernel
theorem dX11_begin_28 : decode cX11_begin 28 = .ok (.ireturn, 1) := by decide +kernel
theorem dX11_begin_29 : decode cX11_begin 29 = .ok (.aload_n 0, 1) := by decide +kernel
theorem dX11_begin_30 : decode cX11_begin 30 = .ok (.getfield 42, 3) := by decide +kernel
theorem dX11_begin_33 : decode cX11_begin 33 = .ok (.aload_n 0, 1) := by decide +kernel
theorem dX11_begin_34 : decode cX11_begin 34 = .ok (.getfield 86, 3) := by decide +kernel
theorem dX11_begin_37 : decode cX11_begin 37 = .ok (.iload_n 1, 1) := by decide +kernel
theorem dX11_begin_38 : decode cX11_begin 38 = .ok (.invokevirtual 110, 3) := by decide +kernel
theorem dX11_begin_41 : decode cX11_begin 41 = .ok (.aload_n 0, 1) := by decide +kernel
theorem dX11_begin_42 : decode cX11_begin 42 = .ok (.getfield 86, 3) := by decide +kernel
theorem dX11_begin_45 : decode cX11_begin 45 = .ok (.iload_n 1, 1) := by decide +kernel
theorem dX11_begin_46 : decode cX11_begin 46 = .ok (.invokevirtual 114, 3) := by decide +kernel
theorem dX11_begin_49 : decode cX11_begin 49 = .ok (.invokevirtual 385, 3) := by decide +kernel
theorem dX11_begin_52 : decode cX11_begin 52 = .ok (.aload_n 0, 1) := by decide +kernel
theorem dX11_begin_53 : decode cX11_begin 53 = .ok (.getfield 51, 3) := by decide +kernel
theorem dX11_begin_56 : decode cX11_begin 56 = .ok (.invokevirtual 172, 3) := by decide +kernel
theorem dX11_begin_59 : decode cX11_begin 59 = .ok (.iconst 0, 1) := by decide +kernel
theorem dX11_begin_60 : decode cX11_begin 60 = .ok (.ireturn, 1) := by decide +kernel
theorem dX11_fewestLost_0 : decode cX11_fewestLost 0 = .ok (.iconst 0, 1) := by decide +kernel
theorem dX11_fewestLost_1 : decode cX11_fewestLost 1 = .ok (.istore_n 3, 1) := by decide +kernel
theorem dX11_fewestLost_2 : decode cX11_fewestLost 2 = .ok (.bipush (-2), 2) := by decide +kernel
theorem dX11_fewestLost_4 : decode cX11_fewestLost 4 = .ok (.istore 4, 2) := by decide +kernel
theorem dX11_fewestLost_6 : decode cX11_fewestLost 6 = .ok (.iconst 0, 1) := by decide +kernel
theorem dX11_fewestLost_7 : decode cX11_fewestLost 7 = .ok (.istore 5, 2) := by decide +kernel
theorem dX11_fewestLost_9 : decode cX11_fewestLost 9 = .ok (.iload 5, 2) := by decide +kernel
theorem dX11_fewestLost_11 : decode cX11_fewestLost 11 = .ok (.aload_n 0, 1) := by decide +kernel
theorem dX11_fewestLost_12 : decode cX11_fewestLost 12 = .ok (.getfield 10, 3) := by decide +kernel
theorem dX11_fewestLost_15 : decode cX11_fewestLost 15 = .ok (.invokevirtual 245, 3) := by decide +kernel
theorem dX11_fewestLost_18 : decode cX11_fewestLost 18 = .ok (.if_icmp .ge 71, 3) := by decide +kernel
theorem dX11_fewestLost_21 : decode cX11_fewestLost 21 = .ok (.aload_n 0, 1) := by decide +kernel
theorem dX11_fewestLost_22 : decode cX11_fewestLost 22 = .ok (.getfield 51, 3) := by decide +kernel
theorem dX11_fewestLost_25 : decode cX11_fewestLost 25 = .ok (.invokevirtual 172, 3) := by decide +kernel
theorem dX11_fewestLost_28 : decode cX11_fewestLost 28 = .ok (.iload_n 2, 1) := by decide +kernel
theorem dX11_fewestLost_29 : decode cX11_fewestLost 29 = .ok (.ifCond .eq 15, 3) := by decide +kernel
theorem dX11_fewestLost_32 : decode cX11_fewestLost 32 = .ok (.aload_n 0, 1) := by decide +kernel
theorem dX11_fewestLost_33 : decode cX11_fewestLost 33 = .ok (.getfield 51, 3) := by decide +kernel
theorem dX11_fewestLost_36 : decode cX11_fewestLost 36 = .ok (.iload 5, 2) := by decide +kernel
theorem dX11_fewestLost_38 : decode cX11_fewestLost 38 = .ok (.invokevirtual 273, 3) := by decide +kernel
theorem dX11_fewestLost_41 : decode cX11_fewestLost 41 = .ok (.goto 13, 3) := by decide +kernel
theorem dX11_fewestLost_44 : decode cX11_fewestLost 44 = .ok (.aload_n 0, 1) := by decide +kernel
theorem dX11_fewestLost_45 : decode cX11_fewestLost 45 = .ok (.getfield 51, 3) := by decide +kernel
theorem dX11_fewestLost_48 : decode cX11_fewestLost 48 = .ok (.iload 5, 2) := by decide +kernel
theorem dX11_fewestLost_50 : decode cX11_fewestLost 50 = .ok (.iconst 0, 1) := by decide +kernel
theorem dX11_fewestLost_51 : decode cX11_fewestLost 51 = .ok (.invokevirtual 280, 3) := by decide +kernel
theorem dX11_fewestLost_54 : decode cX11_fewestLost 54 = .ok (.aload_n 0, 1) := by decide +kernel
theorem dX11_fewestLost_55 : decode cX11_fewestLost 55 = .ok (.getfield 51, 3) := by decide +kernel
theorem dX11_fewestLost_58 : decode cX11_fewestLost 58 = .ok (.invokevirtual 185, 3) := by decide +kernel
theorem dX11_fewestLost_61 : decode cX11_fewestLost 61 = .ok (.istore 6, 2) := by decide +kernel
theorem dX11_fewestLost_63 : decode cX11_fewestLost 63 = .ok (.iload 4, 2) := by decide +kernel
theorem dX11_fewestLost_65 : decode cX11_fewestLost 65 = .ok (.bipush (-2), 2) := by decide +kernel
theorem dX11_fewestLost_67 : decode cX11_fewestLost 67 = .ok (.if_icmp .eq 9, 3) := by decide +kernel
theorem dX11_fewestLost_70 : decode cX11_fewestLost 70 = .ok (.iload 6, 2) := by decide +kernel
theorem dX11_fewestLost_72 : decode cX11_fewestLost 72 = .ok (.iload_n 3, 1) := by decide +kernel
theorem dX11_fewestLost_73 : decode cX11_fewestLost 73 = .ok (.if_icmp .ge 10, 3) := by decide +kernel
theorem dX11_fewestLost_76 : decode cX11_fewestLost 76 = .ok (.iload 6, 2) := by decide +kernel
theorem dX11_fewestLost_78 : decode cX11_fewestLost 78 = .ok (.istore_n 3, 1) := by decide +kernel
theorem dX11_fewestLost_79 : decode cX11_fewestLost 79 = .ok (.iload 5, 2) := by decide +kernel
theorem dX11_fewestLost_81 : decode cX11_fewestLost 81 = .ok (.istore 4, 2) := by decide +kernel
theorem dX11_fewestLost_83 : decode cX11_fewestLost 83 = .ok (.iinc 5 1, 3) := by decide +kernel
theorem dX11_fewestLost_86 : decode cX11_fewestLost 86 = .ok (.goto (-77), 3) := by decide +kernel
theorem dX11_fewestLost_89 : decode cX11_fewestLost 89 = .ok (.iload_n 1, 1) := by decide +kernel
theorem dX11_fewestLost_90 : decode cX11_fewestLost 90 = .ok (.ifCond .ne 10, 3) := by decide +kernel
theorem dX11_fewestLost_93 : decode cX11_fewestLost 93 = .ok (.iload 4, 2) := by decide +kernel
theorem dX11_fewestLost_95 : decode cX11_fewestLost 95 = .ok (.bipush (-2), 2) := by decide +kernel
theorem dX11_fewestLost_97 : decode cX11_fewestLost 97 = .ok (.if_icmp .ne 8, 3) := by decide +kernel
theorem dX11_fewestLost_100 : decode cX11_fewestLost 100 = .ok (.iload 4, 2) := by decide +kernel
theorem dX11_fewestLost_102 : decode cX11_fewestLost 102 = .ok (.goto 4, 3) := by decide +kernel
theorem dX11_fewestLost_105 : decode cX11_fewestLost 105 = .ok (.iload_n 3, 1) := by decide +kernel
theorem dX11_fewestLost_106 : decode cX11_fewestLost 106 = .ok (.ireturn, 1) := by decide +kernel
theorem dX11_beginRipples_0 : decode cX11_beginRipples 0 = .ok (.iload_n 2, 1) := by decide +kernel
theorem dX11_beginRipples_1 : decode cX11_beginRipples 1 = .ok (.ifCond .eq 27, 3) := by decide +kernel
theorem dX11_beginRipples_4 : decode cX11_beginRipples 4 = .ok (.iload_n 1, 1) := by decide +kernel
theorem dX11_beginRipples_5 : decode cX11_beginRipples 5 = .ok (.ifCond .lt 23, 3) := by decide +kernel
theorem dX11_beginRipples_8 : decode cX11_beginRipples 8 = .ok (.iload_n 1, 1) := by decide +kernel
theorem dX11_beginRipples_9 : decode cX11_beginRipples 9 = .ok (.bipush 10, 2) := by decide +kernel
theorem dX11_beginRipples_11 : decode cX11_beginRipples 11 = .ok (.idiv, 1) := by decide +kernel
theorem dX11_beginRipples_12 : decode cX11_beginRipples 12 = .ok (.invokestatic 102, 3) := by decide +kernel
theorem dX11_beginRipples_15 : decode cX11_beginRipples 15 = .ok (.ifCond .eq 13, 3) := by decide +kernel
theorem dX11_beginRipples_18 : decode cX11_beginRipples 18 = .ok (.iload_n 1, 1) := by decide +kernel
theorem dX11_beginRipples_19 : decode cX11_beginRipples 19 = .ok (.bipush 10, 2) := by decide +kernel
theorem dX11_beginRipples_21 : decode cX11_beginRipples 21 = .ok (.irem, 1) := by decide +kernel
theorem dX11_beginRipples_22 : decode cX11_beginRipples 22 = .ok (.invokestatic 102, 3) := by decide +kernel
theorem dX11_beginRipples_25 : decode cX11_beginRipples 25 = .ok (.ifCond .ne 5, 3) := by decide +kernel
theorem dX11_beginRipples_28 : decode cX11_beginRipples 28 = .ok (.iconst (-1), 1) := by decide +kernel
theorem dX11_beginRipples_29 : decode cX11_beginRipples 29 = .ok (.ireturn, 1) := by decide +kernel
theorem dX11_beginRipples_30 : decode cX11_beginRipples 30 = .ok (.aload_n 0, 1) := by decide +kernel
theorem dX11_beginRipples_31 : decode cX11_beginRipples 31 = .ok (.getfield 86, 3) := by decide +kernel
theorem dX11_beginRipples_34 : decode cX11_beginRipples 34 = .ok (.iload_n 1, 1) := by decide +kernel
theorem dX11_beginRipples_35 : decode cX11_beginRipples 35 = .ok (.bipush 10, 2) := by decide +kernel
theorem dX11_beginRipples_37 : decode cX11_beginRipples 37 = .ok (.idiv, 1) := by decide +kernel
theorem dX11_beginRipples_38 : decode cX11_beginRipples 38 = .ok (.invokevirtual 388, 3) := by decide +kernel
theorem dX11_beginRipples_41 : decode cX11_beginRipples 41 = .ok (.ifCond .ne 17, 3) := by decide +kernel
theorem dX11_beginRipples_44 : decode cX11_beginRipples 44 = .ok (.aload_n 0, 1) := by decide +kernel
theorem dX11_beginRipples_45 : decode cX11_beginRipples 45 = .ok (.getfield 86, 3) := by decide +kernel
theorem dX11_beginRipples_48 : decode cX11_beginRipples 48 = .ok (.iload_n 1, 1) := by decide +kernel
theorem dX11_beginRipples_49 : decode cX11_beginRipples 49 = .ok (.bipush 10, 2) := by decide +kernel
theorem dX11_beginRipples_51 : decode cX11_beginRipples 51 = .ok (.irem, 1) := by decide +kernel
theorem dX11_beginRipples_52 : decode cX11_beginRipples 52 = .ok (.invokevirtual 388, 3) := by decide +kernel
theorem dX11_beginRipples_55 : decode cX11_beginRipples 55 = .ok (.ifCond .eq 6, 3) := by decide +kernel
theorem dX11_beginRipples_58 : decode cX11_beginRipples 58 = .ok (.bipush (-11), 2) := by decide +kernel
theorem dX11_beginRipples_60 : decode cX11_beginRipples 60 = .ok (.ireturn, 1) := by decide +kernel
theorem dX11_beginRipples_61 : decode cX11_beginRipples 61 = .ok (.aload_n 0, 1) := by decide +kernel
theorem dX11_beginRipples_62 : decode cX11_beginRipples 62 = .ok (.iload_n 1, 1) := by decide +kernel
theorem dX11_beginRipples_63 : decode cX11_beginRipples 63 = .ok (.bipush 10, 2) := by decide +kernel
theorem dX11_beginRipples_65 : decode cX11_beginRipples 65 = .ok (.idiv, 1) := by decide +kernel
theorem dX11_beginRipples_66 : decode cX11_beginRipples 66 = .ok (.iconst 1, 1) := by decide +kernel
theorem dX11_beginRipples_67 : decode cX11_beginRipples 67 = .ok (.invokevirtual 179, 3) := by decide +kernel
theorem dX11_beginRipples_70 : decode cX11_beginRipples 70 = .ok (.istore_n 3, 1) := by decide +kernel
theorem dX11_beginRipples_71 : decode cX11_beginRipples 71 = .ok (.iload_n 3, 1) := by decide +kernel
theorem dX11_beginRipples_72 : decode cX11_beginRipples 72 = .ok (.ifCond .eq 7, 3) := by decide +kernel
theorem dX11_beginRipples_75 : decode cX11_beginRipples 75 = .ok (.iload_n 3, 1) := by decide +kernel
theorem dX11_beginRipples_76 : decode cX11_beginRipples 76 = .ok (.goto 15, 3) := by decide +kernel
theorem dX11_beginRipples_79 : decode cX11_beginRipples 79 = .ok (.aload_n 0, 1) := by decide +kernel
theorem dX11_beginRipples_80 : decode cX11_beginRipples 80 = .ok (.getfield 86, 3) := by decide +kernel
theorem dX11_beginRipples_83 : decode cX11_beginRipples 83 = .ok (.iload_n 1, 1) := by decide +kernel
theorem dX11_beginRipples_84 : decode cX11_beginRipples 84 = .ok (.bipush 10, 2) := by decide +kernel
theorem dX11_beginRipples_86 : decode cX11_beginRipples 86 = .ok (.irem, 1) := by decide +kernel
theorem dX11_beginRipples_87 : decode cX11_beginRipples 87 = .ok (.iconst 1, 1) := by decide +kernel
theorem dX11_beginRipples_88 : decode cX11_beginRipples 88 = .ok (.invokevirtual 106, 3) := by decide +kernel
theorem dX11_beginRipples_91 : decode cX11_beginRipples 91 = .ok (.ireturn, 1) := by decide +kernel
theorem dX11_judged_0 : decode cX11_judged 0 = .ok (.aload_n 0, 1) := by decide +kernel
theorem dX11_judged_1 : decode cX11_judged 1 = .ok (.getfield 51, 3) := by decide +kernel
theorem dX11_judged_4 : decode cX11_judged 4 = .ok (.aload_n 0, 1) := by decide +kernel
theorem dX11_judged_5 : decode cX11_judged 5 = .ok (.getfield 86, 3) := by decide +kernel
theorem dX11_judged_8 : decode cX11_judged 8 = .ok (.iload_n 1, 1) := by decide +kernel
theorem dX11_judged_9 : decode cX11_judged 9 = .ok (.bipush 10, 2) := by decide +kernel
theorem dX11_judged_11 : decode cX11_judged 11 = .ok (.irem, 1) := by decide +kernel
theorem dX11_judged_12 : decode cX11_judged 12 = .ok (.invokevirtual 110, 3) := by decide +kernel
theorem dX11_judged_15 : decode cX11_judged 15 = .ok (.aload_n 0, 1) := by decide +kernel
theorem dX11_judged_16 : decode cX11_judged 16 = .ok (.getfield 86, 3) := by decide +kernel
theorem dX11_judged_19 : decode cX11_judged 19 = .ok (.iload_n 1, 1) := by decide +kernel
theorem dX11_judged_20 : decode cX11_judged 20 = .ok (.bipush 10, 2) := by decide +kernel
theorem dX11_judged_22 : decode cX11_judged 22 = .ok (.irem, 1) := by decide +kernel
theorem dX11_judged_23 : decode cX11_judged 23 = .ok (.invokevirtual 114, 3) := by decide +kernel
theorem dX11_judged_26 : decode cX11_judged 26 = .ok (.invokevirtual 391, 3) := by decide +kernel
theorem dX11_judged_29 : decode cX11_judged 29 = .ok (.ireturn, 1) := by decide +kernel
