theorem dX0_init_0 : decode cX0_init 0 = .ok (.aload_n 0, 1) := by decide +kernel
theorem dX0_init_1 : decode cX0_init 1 = .ok (.invokespecial 3, 3) := by decide +kernel
theorem dX0_init_4 : decode cX0_init 4 = .ok (.aload_n 0, 1) := by decide +kernel
theorem dX0_init_5 : decode cX0_init 5 = .ok (.bipush 16, 2) := by decide +kernel
theorem dX0_init_7 : decode cX0_init 7 = .ok (.newarray .int, 2) := by decide +kernel
theorem dX0_init_9 : decode cX0_init 9 = .ok (.putfield 9, 3) := by decide +kernel
theorem dX0_init_12 : decode cX0_init 12 = .ok (.aload_n 0, 1) := by decide +kernel
theorem dX0_init_13 : decode cX0_init 13 = .ok (.iconst 0, 1) := by decide +kernel
theorem dX0_init_14 : decode cX0_init 14 = .ok (.putfield 15, 3) := by decide +kernel
theorem dX0_init_17 : decode cX0_init 17 = .ok (.return_, 1) := by decide +kernel
theorem dX0_workOut_0 : decode cX0_workOut 0 = .ok (.aload_n 0, 1) := by decide +kernel
theorem dX0_workOut_1 : decode cX0_workOut 1 = .ok (.iconst 0, 1) := by decide +kernel
theorem dX0_workOut_2 : decode cX0_workOut 2 = .ok (.putfield 15, 3) := by decide +kernel
theorem dX0_workOut_5 : decode cX0_workOut 5 = .ok (.iload_n 2, 1) := by decide +kernel
theorem dX0_workOut_6 : decode cX0_workOut 6 = .ok (.istore 6, 2) := by decide +kernel
theorem dX0_workOut_8 : decode cX0_workOut 8 = .ok (.iload 6, 2) := by decide +kernel
theorem dX0_workOut_10 : decode cX0_workOut 10 = .ok (.iload_n 3, 1) := by decide +kernel
theorem dX0_workOut_11 : decode cX0_workOut 11 = .ok (.if_icmp .ge 86, 3) := by decide +kernel
theorem dX0_workOut_14 : decode cX0_workOut 14 = .ok (.aload_n 1, 1) := by decide +kernel
theorem dX0_workOut_15 : decode cX0_workOut 15 = .ok (.iload 6, 2) := by decide +kernel
theorem dX0_workOut_17 : decode cX0_workOut 17 = .ok (.iaload, 1) := by decide +kernel
theorem dX0_workOut_18 : decode cX0_workOut 18 = .ok (.ifCond .lt 14, 3) := by decide +kernel
theorem dX0_workOut_21 : decode cX0_workOut 21 = .ok (.aload_n 0, 1) := by decide +kernel
theorem dX0_workOut_22 : decode cX0_workOut 22 = .ok (.aload_n 1, 1) := by decide +kernel
theorem dX0_workOut_23 : decode cX0_workOut 23 = .ok (.iload 6, 2) := by decide +kernel
theorem dX0_workOut_25 : decode cX0_workOut 25 = .ok (.iaload, 1) := by decide +kernel
theorem dX0_workOut_26 : decode cX0_workOut 26 = .ok (.invokevirtual 19, 3) := by decide +kernel
theorem dX0_workOut_29 : decode cX0_workOut 29 = .ok (.goto 62, 3) := by decide +kernel
theorem dX0_workOut_32 : decode cX0_workOut 32 = .ok (.iconst (-1), 1) := by decide +kernel
theorem dX0_workOut_33 : decode cX0_workOut 33 = .ok (.aload_n 1, 1) := by decide +kernel
theorem dX0_workOut_34 : decode cX0_workOut 34 = .ok (.iload 6, 2) := by decide +kernel
theorem dX0_workOut_36 : decode cX0_workOut 36 = .ok (.iaload, 1) := by decide +kernel
theorem dX0_workOut_37 : decode cX0_workOut 37 = .ok (.isub, 1) := by decide +kernel
theorem dX0_workOut_38 : decode cX0_workOut 38 = .ok (.bipush 12, 2) := by decide +kernel
theorem dX0_workOut_40 : decode cX0_workOut 40 = .ok (.if_icmp .gt 22, 3) := by decide +kernel
theorem dX0_workOut_43 : decode cX0_workOut 43 = .ok (.aload_n 0, 1) := by decide +kernel
theorem dX0_workOut_44 : decode cX0_workOut 44 = .ok (.aload 4, 2) := by decide +kernel
theorem dX0_workOut_46 : decode cX0_workOut 46 = .ok (.iconst (-1), 1) := by decide +kernel
theorem dX0_workOut_47 : decode cX0_workOut 47 = .ok (.aload_n 1, 1) := by decide +kernel
theorem dX0_workOut_48 : decode cX0_workOut 48 = .ok (.iload 6, 2) := by decide +kernel
theorem dX0_workOut_50 : decode cX0_workOut 50 = .ok (.iaload, 1) := by decide +kernel
theorem dX0_workOut_51 : decode cX0_workOut 51 = .ok (.isub, 1) := by decide +kernel
theorem dX0_workOut_52 : decode cX0_workOut 52 = .ok (.aaload, 1) := by decide +kernel
theorem dX0_workOut_53 : decode cX0_workOut 53 = .ok (.iload 5, 2) := by decide +kernel
theorem dX0_workOut_55 : decode cX0_workOut 55 = .ok (.iaload, 1) := by decide +kernel
theorem dX0_workOut_56 : decode cX0_workOut 56 = .ok (.invokevirtual 19, 3) := by decide +kernel
theorem dX0_workOut_59 : decode cX0_workOut 59 = .ok (.goto 32, 3) := by decide +kernel
theorem dX0_workOut_62 : decode cX0_workOut 62 = .ok (.aload_n 0, 1) := by decide +kernel
theorem dX0_workOut_63 : decode cX0_workOut 63 = .ok (.invokevirtual 23, 3) := by decide +kernel
theorem dX0_workOut_66 : decode cX0_workOut 66 = .ok (.istore 7, 2) := by decide +kernel
theorem dX0_workOut_68 : decode cX0_workOut 68 = .ok (.aload_n 0, 1) := by decide +kernel
theorem dX0_workOut_69 : decode cX0_workOut 69 = .ok (.invokevirtual 23, 3) := by decide +kernel
theorem dX0_workOut_72 : decode cX0_workOut 72 = .ok (.istore 8, 2) := by decide +kernel
theorem dX0_workOut_74 : decode cX0_workOut 74 = .ok (.aload_n 0, 1) := by decide +kernel
theorem dX0_workOut_75 : decode cX0_workOut 75 = .ok (.iconst (-1), 1) := by decide +kernel
theorem dX0_workOut_76 : decode cX0_workOut 76 = .ok (.aload_n 1, 1) := by decide +kernel
theorem dX0_workOut_77 : decode cX0_workOut 77 = .ok (.iload 6, 2) := by decide +kernel
theorem dX0_workOut_79 : decode cX0_workOut 79 = .ok (.iaload, 1) := by decide +kernel
theorem dX0_workOut_80 : decode cX0_workOut 80 = .ok (.isub, 1) := by decide +kernel
theorem dX0_workOut_81 : decode cX0_workOut 81 = .ok (.iload 8, 2) := by decide +kernel
theorem dX0_workOut_83 : decode cX0_workOut 83 = .ok (.iload 7, 2) := by decide +kernel
theorem dX0_workOut_85 : decode cX0_workOut 85 = .ok (.invokestatic 27, 3) := by decide +kernel
theorem dX0_workOut_88 : decode cX0_workOut 88 = .ok (.invokevirtual 19, 3) := by decide +kernel
theorem dX0_workOut_91 : decode cX0_workOut 91 = .ok (.iinc 6 1, 3) := by decide +kernel
theorem dX0_workOut_94 : decode cX0_workOut 94 = .ok (.goto (-86), 3) := by decide +kernel
theorem dX0_workOut_97 : decode cX0_workOut 97 = .ok (.aload_n 0, 1) := by decide +kernel
theorem dX0_workOut_98 : decode cX0_workOut 98 = .ok (.invokevirtual 23, 3) := by decide +kernel
theorem dX0_workOut_101 : decode cX0_workOut 101 = .ok (.ireturn, 1) := by decide +kernel
theorem dX0_join_0 : decode cX0_join 0 = .ok (.iload_n 0, 1) := by decide +kernel
theorem dX0_join_1 : decode cX0_join 1 = .ok (.tableswitch 61 19 22 #[39, 50, 31, 35], 31) := by decide +kernel
theorem dX0_join_32 : decode cX0_join 32 = .ok (.iload_n 1, 1) := by decide +kernel
theorem dX0_join_33 : decode cX0_join 33 = .ok (.iload_n 2, 1) := by decide +kernel
theorem dX0_join_34 : decode cX0_join 34 = .ok (.iadd, 1) := by decide +kernel
theorem dX0_join_35 : decode cX0_join 35 = .ok (.ireturn, 1) := by decide +kernel
theorem dX0_join_36 : decode cX0_join 36 = .ok (.iload_n 1, 1) := by decide +kernel
theorem dX0_join_37 : decode cX0_join 37 = .ok (.iload_n 2, 1) := by decide +kernel
theorem dX0_join_38 : decode cX0_join 38 = .ok (.isub, 1) := by decide +kernel
theorem dX0_join_39 : decode cX0_join 39 = .ok (.ireturn, 1) := by decide +kernel
theorem dX0_join_40 : decode cX0_join 40 = .ok (.iload_n 1, 1) := by decide +kernel
theorem dX0_join_41 : decode cX0_join 41 = .ok (.iload_n 2, 1) := by decide +kernel
theorem dX0_join_42 : decode cX0_join 42 = .ok (.if_icmp .ge 7, 3) := by decide +kernel
theorem dX0_join_45 : decode cX0_join 45 = .ok (.iconst 1, 1) := by decide +kernel
theorem dX0_join_46 : decode cX0_join 46 = .ok (.goto 4, 3) := by decide +kernel
theorem dX0_join_49 : decode cX0_join 49 = .ok (.iconst 0, 1) := by decide +kernel
theorem dX0_join_50 : decode cX0_join 50 = .ok (.ireturn, 1) := by decide +kernel
theorem dX0_join_51 : decode cX0_join 51 = .ok (.iload_n 1, 1) := by decide +kernel
theorem dX0_join_52 : decode cX0_join 52 = .ok (.iload_n 2, 1) := by decide +kernel
theorem dX0_join_53 : decode cX0_join 53 = .ok (.if_icmp .ne 7, 3) := by decide +kernel
theorem dX0_join_56 : decode cX0_join 56 = .ok (.iconst 1, 1) := by decide +kernel
theorem dX0_join_57 : decode cX0_join 57 = .ok (.goto 4, 3) := by decide +kernel
theorem dX0_join_60 : decode cX0_join 60 = .ok (.iconst 0, 1) := by decide +kernel
theorem dX0_join_61 : decode cX0_join 61 = .ok (.ireturn, 1) := by decide +kernel
theorem dX0_join_62 : decode cX0_join 62 = .ok (.iload_n 1, 1) := by decide +kernel
theorem dX0_join_63 : decode cX0_join 63 = .ok (.ifCond .eq 11, 3) := by decide +kernel
theorem dX0_join_66 : decode cX0_join 66 = .ok (.iload_n 2, 1) := by decide +kernel
theorem dX0_join_67 : decode cX0_join 67 = .ok (.ifCond .eq 7, 3) := by decide +kernel
theorem dX0_join_70 : decode cX0_join 70 = .ok (.iconst 1, 1) := by decide +kernel
theorem dX0_join_71 : decode cX0_join 71 = .ok (.goto 4, 3) := by decide +kernel
theorem dX0_join_74 : decode cX0_join 74 = .ok (.iconst 0, 1) := by decide +kernel
theorem dX0_join_75 : decode cX0_join 75 = .ok (.ireturn, 1) := by decide +kernel
theorem dX0_push_0 : decode cX0_push 0 = .ok (.aload_n 0, 1) := by decide +kernel
theorem dX0_push_1 : decode cX0_push 1 = .ok (.getfield 15, 3) := by decide +kernel
theorem dX0_push_4 : decode cX0_push 4 = .ok (.aload_n 0, 1) := by decide +kernel
theorem dX0_push_5 : decode cX0_push 5 = .ok (.getfield 9, 3) := by decide +kernel
theorem dX0_push_8 : decode cX0_push 8 = .ok (.arraylength, 1) := by decide +kernel
theorem dX0_push_9 : decode cX0_push 9 = .ok (.if_icmp .ge 23, 3) := by decide +kernel
theorem dX0_push_12 : decode cX0_push 12 = .ok (.aload_n 0, 1) := by decide +kernel
theorem dX0_push_13 : decode cX0_push 13 = .ok (.getfield 9, 3) := by decide +kernel
theorem dX0_push_16 : decode cX0_push 16 = .ok (.aload_n 0, 1) := by decide +kernel
theorem dX0_push_17 : decode cX0_push 17 = .ok (.getfield 15, 3) := by decide +kernel
theorem dX0_push_20 : decode cX0_push 20 = .ok (.iload_n 1, 1) := by decide +kernel
theorem dX0_push_21 : decode cX0_push 21 = .ok (.iastore, 1) := by decide +kernel
theorem dX0_push_22 : decode cX0_push 22 = .ok (.aload_n 0, 1) := by decide +kernel
theorem dX0_push_23 : decode cX0_push 23 = .ok (.dup, 1) := by decide +kernel
theorem dX0_push_24 : decode cX0_push 24 = .ok (.getfield 15, 3) := by decide +kernel
theorem dX0_push_27 : decode cX0_push 27 = .ok (.iconst 1, 1) := by decide +kernel
theorem dX0_push_28 : decode cX0_push 28 = .ok (.iadd, 1) := by decide +kernel
theorem dX0_push_29 : decode cX0_push 29 = .ok (.putfield 15, 3) := by decide +kernel
theorem dX0_push_32 : decode cX0_push 32 = .ok (.return_, 1) := by decide +kernel
theorem dX0_pop_0 : decode cX0_pop 0 = .ok (.aload_n 0, 1) := by decide +kernel
theorem dX0_pop_1 : decode cX0_pop 1 = .ok (.getfield 15, 3) := by decide +kernel
theorem dX0_pop_4 : decode cX0_pop 4 = .ok (.ifCond .gt 5, 3) := by decide +kernel
theorem dX0_pop_7 : decode cX0_pop 7 = .ok (.iconst 0, 1) := by decide +kernel
theorem dX0_pop_8 : decode cX0_pop 8 = .ok (.ireturn, 1) := by decide +kernel
theorem dX0_pop_9 : decode cX0_pop 9 = .ok (.aload_n 0, 1) := by decide +kernel
theorem dX0_pop_10 : decode cX0_pop 10 = .ok (.dup, 1) := by decide +kernel
theorem dX0_pop_11 : decode cX0_pop 11 = .ok (.getfield 15, 3) := by decide +kernel
theorem dX0_pop_14 : decode cX0_pop 14 = .ok (.iconst 1, 1) := by decide +kernel
theorem dX0_pop_15 : decode cX0_pop 15 = .ok (.isub, 1) := by decide +kernel
theorem dX0_pop_16 : decode cX0_pop 16 = .ok (.putfield 15, 3) := by decide +kernel
theorem dX0_pop_19 : decode cX0_pop 19 = .ok (.aload_n 0, 1) := by decide +kernel
theorem dX0_pop_20 : decode cX0_pop 20 = .ok (.getfield 9, 3) := by decide +kernel
theorem dX0_pop_23 : decode cX0_pop 23 = .ok (.aload_n 0, 1) := by decide +kernel
theorem dX0_pop_24 : decode cX0_pop 24 = .ok (.getfield 15, 3) := by decide +kernel
theorem dX0_pop_27 : decode cX0_pop 27 = .ok (.iaload, 1) := by decide +kernel
theorem dX0_pop_28 : decode cX0_pop 28 = .ok (.ireturn, 1) := by decide +kernel
theorem dX1_init_0 : decode cX1_init 0 = .ok (.aload_n 0, 1) := by decide +kernel
theorem dX1_init_1 : decode cX1_init 1 = .ok (.invokespecial 3, 3) := by decide +kernel
theorem dX1_init_4 : decode cX1_init 4 = .ok (.aload_n 0, 1) := by decide +kernel
theorem dX1_init_5 : decode cX1_init 5 = .ok (.iconst 0, 1) := by decide +kernel
theorem dX1_init_6 : decode cX1_init 6 = .ok (.putfield 9, 3) := by decide +kernel
theorem dX1_init_9 : decode cX1_init 9 = .ok (.aload_n 0, 1) := by decide +kernel
theorem dX1_init_10 : decode cX1_init 10 = .ok (.bipush 24, 2) := by decide +kernel
theorem dX1_init_12 : decode cX1_init 12 = .ok (.putfield 15, 3) := by decide +kernel
theorem dX1_init_15 : decode cX1_init 15 = .ok (.aload_n 0, 1) := by decide +kernel
theorem dX1_init_16 : decode cX1_init 16 = .ok (.iconst 0, 1) := by decide +kernel
theorem dX1_init_17 : decode cX1_init 17 = .ok (.putfield 18, 3) := by decide +kernel
theorem dX1_init_20 : decode cX1_init 20 = .ok (.aload_n 0, 1) := by decide +kernel
theorem dX1_init_21 : decode cX1_init 21 = .ok (.new 21, 3) := by decide +kernel
theorem dX1_init_24 : decode cX1_init 24 = .ok (.dup, 1) := by decide +kernel
theorem dX1_init_25 : decode cX1_init 25 = .ok (.iload_n 1, 1) := by decide +kernel
theorem dX1_init_26 : decode cX1_init 26 = .ok (.invokespecial 23, 3) := by decide +kernel
theorem dX1_init_29 : decode cX1_init 29 = .ok (.putfield 26, 3) := by decide +kernel
theorem dX1_init_32 : decode cX1_init 32 = .ok (.aload_n 0, 1) := by decide +kernel
theorem dX1_init_33 : decode cX1_init 33 = .ok (.new 30, 3) := by decide +kernel
theorem dX1_init_36 : decode cX1_init 36 = .ok (.dup, 1) := by decide +kernel
theorem dX1_init_37 : decode cX1_init 37 = .ok (.iload_n 1, 1) := by decide +kernel
theorem dX1_init_38 : decode cX1_init 38 = .ok (.invokespecial 32, 3) := by decide +kernel
theorem dX1_init_41 : decode cX1_init 41 = .ok (.putfield 33, 3) := by decide +kernel
theorem dX1_init_44 : decode cX1_init 44 = .ok (.return_, 1) := by decide +kernel
theorem dX1_readText_0 : decode cX1_readText 0 = .ok (.aload_n 0, 1) := by decide +kernel
theorem dX1_readText_1 : decode cX1_readText 1 = .ok (.getfield 33, 3) := by decide +kernel
theorem dX1_readText_4 : decode cX1_readText 4 = .ok (.aload_n 1, 1) := by decide +kernel
theorem dX1_readText_5 : decode cX1_readText 5 = .ok (.invokevirtual 37, 3) := by decide +kernel
theorem dX1_readText_8 : decode cX1_readText 8 = .ok (.aload_n 0, 1) := by decide +kernel
theorem dX1_readText_9 : decode cX1_readText 9 = .ok (.aload_n 0, 1) := by decide +kernel
theorem dX1_readText_10 : decode cX1_readText 10 = .ok (.getfield 33, 3) := by decide +kernel
theorem dX1_readText_13 : decode cX1_readText 13 = .ok (.getfield 41, 3) := by decide +kernel
theorem dX1_readText_16 : decode cX1_readText 16 = .ok (.iconst 0, 1) := by decide +kernel
theorem dX1_readText_17 : decode cX1_readText 17 = .ok (.iaload, 1) := by decide +kernel
theorem dX1_readText_18 : decode cX1_readText 18 = .ok (.putfield 15, 3) := by decide +kernel
theorem dX1_readText_21 : decode cX1_readText 21 = .ok (.iconst 1, 1) := by decide +kernel
theorem dX1_readText_22 : decode cX1_readText 22 = .ok (.istore_n 2, 1) := by decide +kernel
theorem dX1_readText_23 : decode cX1_readText 23 = .ok (.iconst 0, 1) := by decide +kernel
theorem dX1_readText_24 : decode cX1_readText 24 = .ok (.istore_n 3, 1) := by decide +kernel
theorem dX1_readText_25 : decode cX1_readText 25 = .ok (.iload_n 3, 1) := by decide +kernel
theorem dX1_readText_26 : decode cX1_readText 26 = .ok (.bipush 24, 2) := by decide +kernel
theorem dX1_readText_28 : decode cX1_readText 28 = .ok (.if_icmp .gt 28, 3) := by decide +kernel
theorem dX1_readText_31 : decode cX1_readText 31 = .ok (.iload_n 2, 1) := by decide +kernel
theorem dX1_readText_32 : decode cX1_readText 32 = .ok (.ifCond .eq 24, 3) := by decide +kernel
theorem dX1_readText_35 : decode cX1_readText 35 = .ok (.aload_n 0, 1) := by decide +kernel
theorem dX1_readText_36 : decode cX1_readText 36 = .ok (.getfield 15, 3) := by decide +kernel
theorem dX1_readText_39 : decode cX1_readText 39 = .ok (.bipush 24, 2) := by decide +kernel
theorem dX1_readText_41 : decode cX1_readText 41 = .ok (.if_icmp .eq 15, 3) := by decide +kernel
theorem dX1_readText_44 : decode cX1_readText 44 = .ok (.aload_n 0, 1) := by decide +kernel
theorem dX1_readText_45 : decode cX1_readText 45 = .ok (.iload_n 3, 1) := by decide +kernel
theorem dX1_readText_46 : decode cX1_readText 46 = .ok (.invokevirtual 45, 3) := by decide +kernel
theorem dX1_readText_49 : decode cX1_readText 49 = .ok (.istore_n 2, 1) := by decide +kernel
theorem dX1_readText_50 : decode cX1_readText 50 = .ok (.iinc 3 1, 3) := by decide +kernel
theorem dX1_readText_53 : decode cX1_readText 53 = .ok (.goto (-28), 3) := by decide +kernel
theorem dX1_readText_56 : decode cX1_readText 56 = .ok (.aload_n 0, 1) := by decide +kernel
theorem dX1_readText_57 : decode cX1_readText 57 = .ok (.getfield 18, 3) := by decide +kernel
theorem dX1_readText_60 : decode cX1_readText 60 = .ok (.ireturn, 1) := by decide +kernel
theorem dX1_goOn_0 : decode cX1_goOn 0 = .ok (.aload_n 0, 1) := by decide +kernel
theorem dX1_goOn_1 : decode cX1_goOn 1 = .ok (.getfield 15, 3) := by decide +kernel
theorem dX1_goOn_4 : decode cX1_goOn 4 = .ok (.bipush 24, 2) := by decide +kernel
theorem dX1_goOn_6 : decode cX1_goOn 6 = .ok (.if_icmp .eq 46, 3) := by decide +kernel
theorem dX1_goOn_9 : decode cX1_goOn 9 = .ok (.aload_n 0, 1) := by decide +kernel
theorem dX1_goOn_10 : decode cX1_goOn 10 = .ok (.getfield 9, 3) := by decide +kernel
theorem dX1_goOn_13 : decode cX1_goOn 13 = .ok (.iconst 1, 1) := by decide +kernel
theorem dX1_goOn_14 : decode cX1_goOn 14 = .ok (.iadd, 1) := by decide +kernel
theorem dX1_goOn_15 : decode cX1_goOn 15 = .ok (.aload_n 0, 1) := by decide +kernel
theorem dX1_goOn_16 : decode cX1_goOn 16 = .ok (.getfield 33, 3) := by decide +kernel
theorem dX1_goOn_19 : decode cX1_goOn 19 = .ok (.getfield 41, 3) := by decide +kernel
theorem dX1_goOn_22 : decode cX1_goOn 22 = .ok (.arraylength, 1) := by decide +kernel
theorem dX1_goOn_23 : decode cX1_goOn 23 = .ok (.if_icmp .ge 29, 3) := by decide +kernel
theorem dX1_goOn_26 : decode cX1_goOn 26 = .ok (.aload_n 0, 1) := by decide +kernel
theorem dX1_goOn_27 : decode cX1_goOn 27 = .ok (.dup, 1) := by decide +kernel
theorem dX1_goOn_28 : decode cX1_goOn 28 = .ok (.getfield 9, 3) := by decide +kernel
theorem dX1_goOn_31 : decode cX1_goOn 31 = .ok (.iconst 1, 1) := by decide +kernel
theorem dX1_goOn_32 : decode cX1_goOn 32 = .ok (.iadd, 1) := by decide +kernel
theorem dX1_goOn_33 : decode cX1_goOn 33 = .ok (.putfield 9, 3) := by decide +kernel
theorem dX1_goOn_36 : decode cX1_goOn 36 = .ok (.aload_n 0, 1) := by decide +kernel
theorem dX1_goOn_37 : decode cX1_goOn 37 = .ok (.aload_n 0, 1) := by decide +kernel
theorem dX1_goOn_38 : decode cX1_goOn 38 = .ok (.getfield 33, 3) := by decide +kernel
theorem dX1_goOn_41 : decode cX1_goOn 41 = .ok (.getfield 41, 3) := by decide +kernel
theorem dX1_goOn_44 : decode cX1_goOn 44 = .ok (.aload_n 0, 1) := by decide +kernel
theorem dX1_goOn_45 : decode cX1_goOn 45 = .ok (.getfield 9, 3) := by decide +kernel
theorem dX1_goOn_48 : decode cX1_goOn 48 = .ok (.iaload, 1) := by decide +kernel
theorem dX1_goOn_49 : decode cX1_goOn 49 = .ok (.putfield 15, 3) := by decide +kernel
theorem dX1_goOn_52 : decode cX1_goOn 52 = .ok (.return_, 1) := by decide +kernel
theorem dX1_refuse_0 : decode cX1_refuse 0 = .ok (.aload_n 0, 1) := by decide +kernel
theorem dX1_refuse_1 : decode cX1_refuse 1 = .ok (.iload_n 1, 1) := by decide +kernel
theorem dX1_refuse_2 : decode cX1_refuse 2 = .ok (.bipush 16, 2) := by decide +kernel
theorem dX1_refuse_4 : decode cX1_refuse 4 = .ok (.aload_n 0, 1) := by decide +kernel
theorem dX1_refuse_5 : decode cX1_refuse 5 = .ok (.getfield 33, 3) := by decide +kernel
theorem dX1_refuse_8 : decode cX1_refuse 8 = .ok (.getfield 49, 3) := by decide +kernel
theorem dX1_refuse_11 : decode cX1_refuse 11 = .ok (.aload_n 0, 1) := by decide +kernel
theorem dX1_refuse_12 : decode cX1_refuse 12 = .ok (.getfield 9, 3) := by decide +kernel
theorem dX1_refuse_15 : decode cX1_refuse 15 = .ok (.iaload, 1) := by decide +kernel
theorem dX1_refuse_16 : decode cX1_refuse 16 = .ok (.imul, 1) := by decide +kernel
theorem dX1_refuse_17 : decode cX1_refuse 17 = .ok (.iadd, 1) := by decide +kernel
theorem dX1_refuse_18 : decode cX1_refuse 18 = .ok (.putfield 18, 3) := by decide +kernel
theorem dX1_refuse_21 : decode cX1_refuse 21 = .ok (.iconst 0, 1) := by decide +kernel
theorem dX1_refuse_22 : decode cX1_refuse 22 = .ok (.ireturn, 1) := by decide +kernel
theorem dX1_readLine_0 : decode cX1_readLine 0 = .ok (.aload_n 0, 1) := by decide +kernel
theorem dX1_readLine_1 : decode cX1_readLine 1 = .ok (.getfield 15, 3) := by decide +kernel
theorem dX1_readLine_4 : decode cX1_readLine 4 = .ok (.bipush 13, 2) := by decide +kernel
theorem dX1_readLine_6 : decode cX1_readLine 6 = .ok (.if_icmp .eq 18, 3) := by decide +kernel
theorem dX1_readLine_9 : decode cX1_readLine 9 = .ok (.aload_n 0, 1) := by decide +kernel
theorem dX1_readLine_10 : decode cX1_readLine 10 = .ok (.getfield 15, 3) := by decide +kernel
theorem dX1_readLine_13 : decode cX1_readLine 13 = .ok (.bipush 14, 2) := by decide +kernel
theorem dX1_readLine_15 : decode cX1_readLine 15 = .ok (.if_icmp .eq 9, 3) := by decide +kernel
theorem dX1_readLine_18 : decode cX1_readLine 18 = .ok (.aload_n 0, 1) := by decide +kernel
theorem dX1_readLine_19 : decode cX1_readLine 19 = .ok (.iconst 1, 1) := by decide +kernel
theorem dX1_readLine_20 : decode cX1_readLine 20 = .ok (.invokevirtual 52, 3) := by decide +kernel
theorem dX1_readLine_23 : decode cX1_readLine 23 = .ok (.ireturn, 1) := by decide +kernel
theorem dX1_readLine_24 : decode cX1_readLine 24 = .ok (.iload_n 1, 1) := by decide +kernel
theorem dX1_readLine_25 : decode cX1_readLine 25 = .ok (.bipush 24, 2) := by decide +kernel
theorem dX1_readLine_27 : decode cX1_readLine 27 = .ok (.if_icmp .lt 9, 3) := by decide +kernel
theorem dX1_readLine_30 : decode cX1_readLine 30 = .ok (.aload_n 0, 1) := by decide +kernel
theorem dX1_readLine_31 : decode cX1_readLine 31 = .ok (.iconst 5, 1) := by decide +kernel
theorem dX1_readLine_32 : decode cX1_readLine 32 = .ok (.invokevirtual 52, 3) := by decide +kernel
theorem dX1_readLine_35 : decode cX1_readLine 35 = .ok (.ireturn, 1) := by decide +kernel
theorem dX1_readLine_36 : decode cX1_readLine 36 = .ok (.aload_n 0, 1) := by decide +kernel
theorem dX1_readLine_37 : decode cX1_readLine 37 = .ok (.getfield 26, 3) := by decide +kernel
theorem dX1_readLine_40 : decode cX1_readLine 40 = .ok (.getfield 55, 3) := by decide +kernel
theorem dX1_readLine_43 : decode cX1_readLine 43 = .ok (.iload_n 1, 1) := by decide +kernel
theorem dX1_readLine_44 : decode cX1_readLine 44 = .ok (.aload_n 0, 1) := by decide +kernel
theorem dX1_readLine_45 : decode cX1_readLine 45 = .ok (.getfield 15, 3) := by decide +kernel
theorem dX1_readLine_48 : decode cX1_readLine 48 = .ok (.bipush 14, 2) := by decide +kernel
theorem dX1_readLine_50 : decode cX1_readLine 50 = .ok (.if_icmp .ne 7, 3) := by decide +kernel
theorem dX1_readLine_53 : decode cX1_readLine 53 = .ok (.iconst 1, 1) := by decide +kernel
theorem dX1_readLine_54 : decode cX1_readLine 54 = .ok (.goto 4, 3) := by decide +kernel
theorem dX1_readLine_57 : decode cX1_readLine 57 = .ok (.iconst 0, 1) := by decide +kernel
theorem dX1_readLine_58 : decode cX1_readLine 58 = .ok (.bastore, 1) := by decide +kernel
theorem dX1_readLine_59 : decode cX1_readLine 59 = .ok (.aload_n 0, 1) := by decide +kernel
theorem dX1_readLine_60 : decode cX1_readLine 60 = .ok (.invokevirtual 59, 3) := by decide +kernel
theorem dX1_readLine_63 : decode cX1_readLine 63 = .ok (.aload_n 0, 1) := by decide +kernel
theorem dX1_readLine_64 : decode cX1_readLine 64 = .ok (.getfield 15, 3) := by decide +kernel
theorem dX1_readLine_67 : decode cX1_readLine 67 = .ok (.iconst 0, 1) := by decide +kernel
theorem dX1_readLine_68 : decode cX1_readLine 68 = .ok (.iconst 2, 1) := by decide +kernel
theorem dX1_readLine_69 : decode cX1_readLine 69 = .ok (.invokestatic 62, 3) := by decide +kernel
theorem dX1_readLine_72 : decode cX1_readLine 72 = .ok (.ifCond .ne 9, 3) := by decide +kernel
theorem dX1_readLine_75 : decode cX1_readLine 75 = .ok (.aload_n 0, 1) := by decide +kernel
theorem dX1_readLine_76 : decode cX1_readLine 76 = .ok (.iconst 1, 1) := by decide +kernel
theorem dX1_readLine_77 : decode cX1_readLine 77 = .ok (.invokevirtual 52, 3) := by decide +kernel
theorem dX1_readLine_80 : decode cX1_readLine 80 = .ok (.ireturn, 1) := by decide +kernel
theorem dX1_readLine_81 : decode cX1_readLine 81 = .ok (.aload_n 0, 1) := by decide +kernel
theorem dX1_readLine_82 : decode cX1_readLine 82 = .ok (.getfield 26, 3) := by decide +kernel
theorem dX1_readLine_85 : decode cX1_readLine 85 = .ok (.getfield 66, 3) := by decide +kernel
theorem dX1_readLine_88 : decode cX1_readLine 88 = .ok (.iload_n 1, 1) := by decide +kernel
theorem dX1_readLine_89 : decode cX1_readLine 89 = .ok (.aload_n 0, 1) := by decide +kernel
theorem dX1_readLine_90 : decode cX1_readLine 90 = .ok (.getfield 15, 3) := by decide +kernel
theorem dX1_readLine_93 : decode cX1_readLine 93 = .ok (.iastore, 1) := by decide +kernel
theorem dX1_readLine_94 : decode cX1_readLine 94 = .ok (.aload_n 0, 1) := by decide +kernel
theorem dX1_readLine_95 : decode cX1_readLine 95 = .ok (.invokevirtual 59, 3) := by decide +kernel
theorem dX1_readLine_98 : decode cX1_readLine 98 = .ok (.aload_n 0, 1) := by decide +kernel
theorem dX1_readLine_99 : decode cX1_readLine 99 = .ok (.getfield 26, 3) := by decide +kernel
theorem dX1_readLine_102 : decode cX1_readLine 102 = .ok (.getfield 69, 3) := by decide +kernel
theorem dX1_readLine_105 : decode cX1_readLine 105 = .ok (.iload_n 1, 1) := by decide +kernel
theorem dX1_readLine_106 : decode cX1_readLine 106 = .ok (.aload_n 0, 1) := by decide +kernel
theorem dX1_readLine_107 : decode cX1_readLine 107 = .ok (.getfield 26, 3) := by decide +kernel
theorem dX1_readLine_110 : decode cX1_readLine 110 = .ok (.getfield 72, 3) := by decide +kernel
theorem dX1_readLine_113 : decode cX1_readLine 113 = .ok (.iastore, 1) := by decide +kernel
theorem dX1_readLine_114 : decode cX1_readLine 114 = .ok (.aload_n 0, 1) := by decide +kernel
theorem dX1_readLine_115 : decode cX1_readLine 115 = .ok (.iconst 0, 1) := by decide +kernel
theorem dX1_readLine_116 : decode cX1_readLine 116 = .ok (.invokevirtual 75, 3) := by decide +kernel
theorem dX1_readLine_119 : decode cX1_readLine 119 = .ok (.istore_n 2, 1) := by decide +kernel
theorem dX1_readLine_120 : decode cX1_readLine 120 = .ok (.aload_n 0, 1) := by decide +kernel
theorem dX1_readLine_121 : decode cX1_readLine 121 = .ok (.getfield 26, 3) := by decide +kernel
theorem dX1_readLine_124 : decode cX1_readLine 124 = .ok (.getfield 78, 3) := by decide +kernel
theorem dX1_readLine_127 : decode cX1_readLine 127 = .ok (.iload_n 1, 1) := by decide +kernel
theorem dX1_readLine_128 : decode cX1_readLine 128 = .ok (.aload_n 0, 1) := by decide +kernel
theorem dX1_readLine_129 : decode cX1_readLine 129 = .ok (.getfield 26, 3) := by decide +kernel
theorem dX1_readLine_132 : decode cX1_readLine 132 = .ok (.getfield 72, 3) := by decide +kernel
theorem dX1_readLine_135 : decode cX1_readLine 135 = .ok (.iastore, 1) := by decide +kernel
theorem dX1_readLine_136 : decode cX1_readLine 136 = .ok (.iload_n 2, 1) := by decide +kernel
theorem dX1_readLine_137 : decode cX1_readLine 137 = .ok (.ifCond .eq 22, 3) := by decide +kernel
theorem dX1_readLine_140 : decode cX1_readLine 140 = .ok (.aload_n 0, 1) := by decide +kernel
theorem dX1_readLine_141 : decode cX1_readLine 141 = .ok (.getfield 15, 3) := by decide +kernel
theorem dX1_readLine_144 : decode cX1_readLine 144 = .ok (.bipush 15, 2) := by decide +kernel
theorem dX1_readLine_146 : decode cX1_readLine 146 = .ok (.if_icmp .ne 13, 3) := by decide +kernel
theorem dX1_readLine_149 : decode cX1_readLine 149 = .ok (.aload_n 0, 1) := by decide +kernel
theorem dX1_readLine_150 : decode cX1_readLine 150 = .ok (.invokevirtual 59, 3) := by decide +kernel
theorem dX1_readLine_153 : decode cX1_readLine 153 = .ok (.aload_n 0, 1) := by decide +kernel
theorem dX1_readLine_154 : decode cX1_readLine 154 = .ok (.iconst 0, 1) := by decide +kernel
theorem dX1_readLine_155 : decode cX1_readLine 155 = .ok (.invokevirtual 75, 3) := by decide +kernel
theorem dX1_readLine_158 : decode cX1_readLine 158 = .ok (.istore_n 2, 1) := by decide +kernel
theorem dX1_readLine_159 : decode cX1_readLine 159 = .ok (.aload_n 0, 1) := by decide +kernel
theorem dX1_readLine_160 : decode cX1_readLine 160 = .ok (.getfield 26, 3) := by decide +kernel
theorem dX1_readLine_163 : decode cX1_readLine 163 = .ok (.getfield 81, 3) := by decide +kernel
theorem dX1_readLine_166 : decode cX1_readLine 166 = .ok (.iload_n 1, 1) := by decide +kernel
theorem dX1_readLine_167 : decode cX1_readLine 167 = .ok (.aload_n 0, 1) := by decide +kernel
theorem dX1_readLine_168 : decode cX1_readLine 168 = .ok (.getfield 26, 3) := by decide +kernel
theorem dX1_readLine_171 : decode cX1_readLine 171 = .ok (.getfield 72, 3) := by decide +kernel
theorem dX1_readLine_174 : decode cX1_readLine 174 = .ok (.iastore, 1) := by decide +kernel
theorem dX1_readLine_175 : decode cX1_readLine 175 = .ok (.iload_n 2, 1) := by decide +kernel
theorem dX1_readLine_176 : decode cX1_readLine 176 = .ok (.ifCond .ne 5, 3) := by decide +kernel
theorem dX1_readLine_179 : decode cX1_readLine 179 = .ok (.iconst 0, 1) := by decide +kernel
theorem dX1_readLine_180 : decode cX1_readLine 180 = .ok (.ireturn, 1) := by decide +kernel
theorem dX1_readLine_181 : decode cX1_readLine 181 = .ok (.aload_n 0, 1) := by decide +kernel
theorem dX1_readLine_182 : decode cX1_readLine 182 = .ok (.getfield 15, 3) := by decide +kernel
theorem dX1_readLine_185 : decode cX1_readLine 185 = .ok (.bipush 23, 2) := by decide +kernel
theorem dX1_readLine_187 : decode cX1_readLine 187 = .ok (.if_icmp .eq 9, 3) := by decide +kernel
theorem dX1_readLine_190 : decode cX1_readLine 190 = .ok (.aload_n 0, 1) := by decide +kernel
theorem dX1_readLine_191 : decode cX1_readLine 191 = .ok (.iconst 1, 1) := by decide +kernel
theorem dX1_readLine_192 : decode cX1_readLine 192 = .ok (.invokevirtual 52, 3) := by decide +kernel
theorem dX1_readLine_195 : decode cX1_readLine 195 = .ok (.ireturn, 1) := by decide +kernel
theorem dX1_readLine_196 : decode cX1_readLine 196 = .ok (.aload_n 0, 1) := by decide +kernel
theorem dX1_readLine_197 : decode cX1_readLine 197 = .ok (.invokevirtual 59, 3) := by decide +kernel
theorem dX1_readLine_200 : decode cX1_readLine 200 = .ok (.aload_n 0, 1) := by decide +kernel
theorem dX1_readLine_201 : decode cX1_readLine 201 = .ok (.getfield 26, 3) := by decide +kernel
theorem dX1_readLine_204 : decode cX1_readLine 204 = .ok (.iload_n 1, 1) := by decide +kernel
theorem dX1_readLine_205 : decode cX1_readLine 205 = .ok (.iconst 1, 1) := by decide +kernel
theorem dX1_readLine_206 : decode cX1_readLine 206 = .ok (.iadd, 1) := by decide +kernel
theorem dX1_readLine_207 : decode cX1_readLine 207 = .ok (.putfield 84, 3) := by decide +kernel
theorem dX1_readLine_210 : decode cX1_readLine 210 = .ok (.iconst 1, 1) := by decide +kernel
theorem dX1_readLine_211 : decode cX1_readLine 211 = .ok (.ireturn, 1) := by decide +kernel
theorem dX1_readAll_0 : decode cX1_readAll 0 = .ok (.aload_n 0, 1) := by decide +kernel
theorem dX1_readAll_1 : decode cX1_readAll 1 = .ok (.iload_n 1, 1) := by decide +kernel
theorem dX1_readAll_2 : decode cX1_readAll 2 = .ok (.invokevirtual 87, 3) := by decide +kernel
theorem dX1_readAll_5 : decode cX1_readAll 5 = .ok (.istore_n 2, 1) := by decide +kernel
theorem dX1_readAll_6 : decode cX1_readAll 6 = .ok (.iconst 0, 1) := by decide +kernel
theorem dX1_readAll_7 : decode cX1_readAll 7 = .ok (.istore_n 3, 1) := by decide +kernel
theorem dX1_readAll_8 : decode cX1_readAll 8 = .ok (.iload_n 3, 1) := by decide +kernel
theorem dX1_readAll_9 : decode cX1_readAll 9 = .ok (.sipush 1000, 3) := by decide +kernel
theorem dX1_readAll_12 : decode cX1_readAll 12 = .ok (.if_icmp .ge 41, 3) := by decide +kernel
theorem dX1_readAll_15 : decode cX1_readAll 15 = .ok (.iload_n 2, 1) := by decide +kernel
theorem dX1_readAll_16 : decode cX1_readAll 16 = .ok (.ifCond .eq 37, 3) := by decide +kernel
theorem dX1_readAll_19 : decode cX1_readAll 19 = .ok (.aload_n 0, 1) := by decide +kernel
theorem dX1_readAll_20 : decode cX1_readAll 20 = .ok (.getfield 15, 3) := by decide +kernel
theorem dX1_readAll_23 : decode cX1_readAll 23 = .ok (.bipush 16, 2) := by decide +kernel
theorem dX1_readAll_25 : decode cX1_readAll 25 = .ok (.if_icmp .ne 28, 3) := by decide +kernel
theorem dX1_readAll_28 : decode cX1_readAll 28 = .ok (.aload_n 0, 1) := by decide +kernel
theorem dX1_readAll_29 : decode cX1_readAll 29 = .ok (.invokevirtual 59, 3) := by decide +kernel
theorem dX1_readAll_32 : decode cX1_readAll 32 = .ok (.aload_n 0, 1) := by decide +kernel
theorem dX1_readAll_33 : decode cX1_readAll 33 = .ok (.iload_n 1, 1) := by decide +kernel
theorem dX1_readAll_34 : decode cX1_readAll 34 = .ok (.invokevirtual 87, 3) := by decide +kernel
theorem dX1_readAll_37 : decode cX1_readAll 37 = .ok (.istore_n 2, 1) := by decide +kernel
theorem dX1_readAll_38 : decode cX1_readAll 38 = .ok (.aload_n 0, 1) := by decide +kernel
theorem dX1_readAll_39 : decode cX1_readAll 39 = .ok (.getfield 26, 3) := by decide +kernel
theorem dX1_readAll_42 : decode cX1_readAll 42 = .ok (.bipush 16, 2) := by decide +kernel
theorem dX1_readAll_44 : decode cX1_readAll 44 = .ok (.invokevirtual 90, 3) := by decide +kernel
theorem dX1_readAll_47 : decode cX1_readAll 47 = .ok (.iinc 3 1, 3) := by decide +kernel
theorem dX1_readAll_50 : decode cX1_readAll 50 = .ok (.goto (-42), 3) := by decide +kernel
theorem dX1_readAll_53 : decode cX1_readAll 53 = .ok (.iload_n 2, 1) := by decide +kernel
theorem dX1_readAll_54 : decode cX1_readAll 54 = .ok (.ireturn, 1) := by decide +kernel
theorem dX1_readTest_0 : decode cX1_readTest 0 = .ok (.aload_n 0, 1) := by decide +kernel
theorem dX1_readTest_1 : decode cX1_readTest 1 = .ok (.iload_n 1, 1) := by decide +kernel
theorem dX1_readTest_2 : decode cX1_readTest 2 = .ok (.invokevirtual 93, 3) := by decide +kernel
theorem dX1_readTest_5 : decode cX1_readTest 5 = .ok (.istore_n 2, 1) := by decide +kernel
theorem dX1_readTest_6 : decode cX1_readTest 6 = .ok (.iload_n 2, 1) := by decide +kernel
theorem dX1_readTest_7 : decode cX1_readTest 7 = .ok (.ifCond .eq 44, 3) := by decide +kernel
theorem dX1_readTest_10 : decode cX1_readTest 10 = .ok (.aload_n 0, 1) := by decide +kernel
theorem dX1_readTest_11 : decode cX1_readTest 11 = .ok (.getfield 15, 3) := by decide +kernel
theorem dX1_readTest_14 : decode cX1_readTest 14 = .ok (.bipush 19, 2) := by decide +kernel
theorem dX1_readTest_16 : decode cX1_readTest 16 = .ok (.if_icmp .eq 12, 3) := by decide +kernel
theorem dX1_readTest_19 : decode cX1_readTest 19 = .ok (.aload_n 0, 1) := by decide +kernel
theorem dX1_readTest_20 : decode cX1_readTest 20 = .ok (.getfield 15, 3) := by decide +kernel
theorem dX1_readTest_23 : decode cX1_readTest 23 = .ok (.bipush 20, 2) := by decide +kernel
theorem dX1_readTest_25 : decode cX1_readTest 25 = .ok (.if_icmp .ne 26, 3) := by decide +kernel
theorem dX1_readTest_28 : decode cX1_readTest 28 = .ok (.aload_n 0, 1) := by decide +kernel
theorem dX1_readTest_29 : decode cX1_readTest 29 = .ok (.getfield 15, 3) := by decide +kernel
theorem dX1_readTest_32 : decode cX1_readTest 32 = .ok (.istore_n 3, 1) := by decide +kernel
theorem dX1_readTest_33 : decode cX1_readTest 33 = .ok (.aload_n 0, 1) := by decide +kernel
theorem dX1_readTest_34 : decode cX1_readTest 34 = .ok (.invokevirtual 59, 3) := by decide +kernel
theorem dX1_readTest_37 : decode cX1_readTest 37 = .ok (.aload_n 0, 1) := by decide +kernel
theorem dX1_readTest_38 : decode cX1_readTest 38 = .ok (.iload_n 1, 1) := by decide +kernel
theorem dX1_readTest_39 : decode cX1_readTest 39 = .ok (.invokevirtual 93, 3) := by decide +kernel
theorem dX1_readTest_42 : decode cX1_readTest 42 = .ok (.istore_n 2, 1) := by decide +kernel
theorem dX1_readTest_43 : decode cX1_readTest 43 = .ok (.aload_n 0, 1) := by decide +kernel
theorem dX1_readTest_44 : decode cX1_readTest 44 = .ok (.getfield 26, 3) := by decide +kernel
theorem dX1_readTest_47 : decode cX1_readTest 47 = .ok (.iload_n 3, 1) := by decide +kernel
theorem dX1_readTest_48 : decode cX1_readTest 48 = .ok (.invokevirtual 90, 3) := by decide +kernel
theorem dX1_readTest_51 : decode cX1_readTest 51 = .ok (.iload_n 2, 1) := by decide +kernel
theorem dX1_readTest_52 : decode cX1_readTest 52 = .ok (.ireturn, 1) := by decide +kernel
theorem dX1_readSum_0 : decode cX1_readSum 0 = .ok (.aload_n 0, 1) := by decide +kernel
theorem dX1_readSum_1 : decode cX1_readSum 1 = .ok (.iload_n 1, 1) := by decide +kernel
theorem dX1_readSum_2 : decode cX1_readSum 2 = .ok (.invokevirtual 96, 3) := by decide +kernel
theorem dX1_readSum_5 : decode cX1_readSum 5 = .ok (.istore_n 2, 1) := by decide +kernel
theorem dX1_readSum_6 : decode cX1_readSum 6 = .ok (.iconst 0, 1) := by decide +kernel
theorem dX1_readSum_7 : decode cX1_readSum 7 = .ok (.istore_n 3, 1) := by decide +kernel
theorem dX1_readSum_8 : decode cX1_readSum 8 = .ok (.iload_n 3, 1) := by decide +kernel
theorem dX1_readSum_9 : decode cX1_readSum 9 = .ok (.sipush 1000, 3) := by decide +kernel
theorem dX1_readSum_12 : decode cX1_readSum 12 = .ok (.if_icmp .ge 56, 3) := by decide +kernel
theorem dX1_readSum_15 : decode cX1_readSum 15 = .ok (.iload_n 2, 1) := by decide +kernel
theorem dX1_readSum_16 : decode cX1_readSum 16 = .ok (.ifCond .eq 52, 3) := by decide +kernel
theorem dX1_readSum_19 : decode cX1_readSum 19 = .ok (.aload_n 0, 1) := by decide +kernel
theorem dX1_readSum_20 : decode cX1_readSum 20 = .ok (.getfield 15, 3) := by decide +kernel
theorem dX1_readSum_23 : decode cX1_readSum 23 = .ok (.bipush 21, 2) := by decide +kernel
theorem dX1_readSum_25 : decode cX1_readSum 25 = .ok (.if_icmp .eq 12, 3) := by decide +kernel
theorem dX1_readSum_28 : decode cX1_readSum 28 = .ok (.aload_n 0, 1) := by decide +kernel
theorem dX1_readSum_29 : decode cX1_readSum 29 = .ok (.getfield 15, 3) := by decide +kernel
theorem dX1_readSum_32 : decode cX1_readSum 32 = .ok (.bipush 22, 2) := by decide +kernel
theorem dX1_readSum_34 : decode cX1_readSum 34 = .ok (.if_icmp .ne 34, 3) := by decide +kernel
theorem dX1_readSum_37 : decode cX1_readSum 37 = .ok (.aload_n 0, 1) := by decide +kernel
theorem dX1_readSum_38 : decode cX1_readSum 38 = .ok (.getfield 15, 3) := by decide +kernel
theorem dX1_readSum_41 : decode cX1_readSum 41 = .ok (.istore 4, 2) := by decide +kernel
theorem dX1_readSum_43 : decode cX1_readSum 43 = .ok (.aload_n 0, 1) := by decide +kernel
theorem dX1_readSum_44 : decode cX1_readSum 44 = .ok (.invokevirtual 59, 3) := by decide +kernel
theorem dX1_readSum_47 : decode cX1_readSum 47 = .ok (.aload_n 0, 1) := by decide +kernel
theorem dX1_readSum_48 : decode cX1_readSum 48 = .ok (.iload_n 1, 1) := by decide +kernel
theorem dX1_readSum_49 : decode cX1_readSum 49 = .ok (.invokevirtual 96, 3) := by decide +kernel
theorem dX1_readSum_52 : decode cX1_readSum 52 = .ok (.istore_n 2, 1) := by decide +kernel
theorem dX1_readSum_53 : decode cX1_readSum 53 = .ok (.aload_n 0, 1) := by decide +kernel
theorem dX1_readSum_54 : decode cX1_readSum 54 = .ok (.getfield 26, 3) := by decide +kernel
theorem dX1_readSum_57 : decode cX1_readSum 57 = .ok (.iload 4, 2) := by decide +kernel
theorem dX1_readSum_59 : decode cX1_readSum 59 = .ok (.invokevirtual 90, 3) := by decide +kernel
theorem dX1_readSum_62 : decode cX1_readSum 62 = .ok (.iinc 3 1, 3) := by decide +kernel
theorem dX1_readSum_65 : decode cX1_readSum 65 = .ok (.goto (-57), 3) := by decide +kernel
theorem dX1_readSum_68 : decode cX1_readSum 68 = .ok (.iload_n 2, 1) := by decide +kernel
theorem dX1_readSum_69 : decode cX1_readSum 69 = .ok (.ireturn, 1) := by decide +kernel
theorem dX1_readPart_0 : decode cX1_readPart 0 = .ok (.aload_n 0, 1) := by decide +kernel
theorem dX1_readPart_1 : decode cX1_readPart 1 = .ok (.getfield 15, 3) := by decide +kernel
theorem dX1_readPart_4 : decode cX1_readPart 4 = .ok (.bipush 26, 2) := by decide +kernel
theorem dX1_readPart_6 : decode cX1_readPart 6 = .ok (.if_icmp .lt 7, 3) := by decide +kernel
theorem dX1_readPart_9 : decode cX1_readPart 9 = .ok (.iconst 1, 1) := by decide +kernel
theorem dX1_readPart_10 : decode cX1_readPart 10 = .ok (.goto 4, 3) := by decide +kernel
theorem dX1_readPart_13 : decode cX1_readPart 13 = .ok (.iconst 0, 1) := by decide +kernel
theorem dX1_readPart_14 : decode cX1_readPart 14 = .ok (.istore_n 2, 1) := by decide +kernel
theorem dX1_readPart_15 : decode cX1_readPart 15 = .ok (.aload_n 0, 1) := by decide +kernel
theorem dX1_readPart_16 : decode cX1_readPart 16 = .ok (.getfield 15, 3) := by decide +kernel
theorem dX1_readPart_19 : decode cX1_readPart 19 = .ok (.bipush 12, 2) := by decide +kernel
theorem dX1_readPart_21 : decode cX1_readPart 21 = .ok (.if_icmp .gt 7, 3) := by decide +kernel
theorem dX1_readPart_24 : decode cX1_readPart 24 = .ok (.iconst 1, 1) := by decide +kernel
theorem dX1_readPart_25 : decode cX1_readPart 25 = .ok (.goto 4, 3) := by decide +kernel
theorem dX1_readPart_28 : decode cX1_readPart 28 = .ok (.iconst 0, 1) := by decide +kernel
theorem dX1_readPart_29 : decode cX1_readPart 29 = .ok (.istore_n 3, 1) := by decide +kernel
theorem dX1_readPart_30 : decode cX1_readPart 30 = .ok (.iload_n 2, 1) := by decide +kernel
theorem dX1_readPart_31 : decode cX1_readPart 31 = .ok (.ifCond .ne 22, 3) := by decide +kernel
theorem dX1_readPart_34 : decode cX1_readPart 34 = .ok (.iload_n 3, 1) := by decide +kernel
theorem dX1_readPart_35 : decode cX1_readPart 35 = .ok (.ifCond .ne 18, 3) := by decide +kernel
theorem dX1_readPart_38 : decode cX1_readPart 38 = .ok (.aload_n 0, 1) := by decide +kernel
theorem dX1_readPart_39 : decode cX1_readPart 39 = .ok (.getfield 15, 3) := by decide +kernel
theorem dX1_readPart_42 : decode cX1_readPart 42 = .ok (.bipush 17, 2) := by decide +kernel
theorem dX1_readPart_44 : decode cX1_readPart 44 = .ok (.if_icmp .eq 9, 3) := by decide +kernel
theorem dX1_readPart_47 : decode cX1_readPart 47 = .ok (.aload_n 0, 1) := by decide +kernel
theorem dX1_readPart_48 : decode cX1_readPart 48 = .ok (.iconst 1, 1) := by decide +kernel
theorem dX1_readPart_49 : decode cX1_readPart 49 = .ok (.invokevirtual 52, 3) := by decide +kernel
theorem dX1_readPart_52 : decode cX1_readPart 52 = .ok (.ireturn, 1) := by decide +kernel
theorem dX1_readPart_53 : decode cX1_readPart 53 = .ok (.iload_n 1, 1) := by decide +kernel
theorem dX1_readPart_54 : decode cX1_readPart 54 = .ok (.iconst 5, 1) := by decide +kernel
theorem dX1_readPart_55 : decode cX1_readPart 55 = .ok (.if_icmp .lt 9, 3) := by decide +kernel
theorem dX1_readPart_58 : decode cX1_readPart 58 = .ok (.aload_n 0, 1) := by decide +kernel
theorem dX1_readPart_59 : decode cX1_readPart 59 = .ok (.iconst 5, 1) := by decide +kernel
theorem dX1_readPart_60 : decode cX1_readPart 60 = .ok (.invokevirtual 52, 3) := by decide +kernel
theorem dX1_readPart_63 : decode cX1_readPart 63 = .ok (.ireturn, 1) := by decide +kernel
theorem dX1_readPart_64 : decode cX1_readPart 64 = .ok (.iload_n 2, 1) := by decide +kernel
theorem dX1_readPart_65 : decode cX1_readPart 65 = .ok (.ifCond .eq 20, 3) := by decide +kernel
theorem dX1_readPart_68 : decode cX1_readPart 68 = .ok (.aload_n 0, 1) := by decide +kernel
theorem dX1_readPart_69 : decode cX1_readPart 69 = .ok (.getfield 26, 3) := by decide +kernel
theorem dX1_readPart_72 : decode cX1_readPart 72 = .ok (.aload_n 0, 1) := by decide +kernel
theorem dX1_readPart_73 : decode cX1_readPart 73 = .ok (.getfield 15, 3) := by decide +kernel
theorem dX1_readPart_76 : decode cX1_readPart 76 = .ok (.bipush 26, 2) := by decide +kernel
theorem dX1_readPart_78 : decode cX1_readPart 78 = .ok (.isub, 1) := by decide +kernel
theorem dX1_readPart_79 : decode cX1_readPart 79 = .ok (.invokevirtual 99, 3) := by decide +kernel
theorem dX1_readPart_82 : decode cX1_readPart 82 = .ok (.goto 52, 3) := by decide +kernel
theorem dX1_readPart_85 : decode cX1_readPart 85 = .ok (.iload_n 3, 1) := by decide +kernel
theorem dX1_readPart_86 : decode cX1_readPart 86 = .ok (.ifCond .eq 17, 3) := by decide +kernel
theorem dX1_readPart_89 : decode cX1_readPart 89 = .ok (.aload_n 0, 1) := by decide +kernel
theorem dX1_readPart_90 : decode cX1_readPart 90 = .ok (.getfield 26, 3) := by decide +kernel
theorem dX1_readPart_93 : decode cX1_readPart 93 = .ok (.aload_n 0, 1) := by decide +kernel
theorem dX1_readPart_94 : decode cX1_readPart 94 = .ok (.getfield 15, 3) := by decide +kernel
theorem dX1_readPart_97 : decode cX1_readPart 97 = .ok (.invokevirtual 90, 3) := by decide +kernel
theorem dX1_readPart_100 : decode cX1_readPart 100 = .ok (.goto 34, 3) := by decide +kernel
theorem dX1_readPart_103 : decode cX1_readPart 103 = .ok (.aload_n 0, 1) := by decide +kernel
theorem dX1_readPart_104 : decode cX1_readPart 104 = .ok (.invokevirtual 59, 3) := by decide +kernel
theorem dX1_readPart_107 : decode cX1_readPart 107 = .ok (.aload_n 0, 1) := by decide +kernel
theorem dX1_readPart_108 : decode cX1_readPart 108 = .ok (.iload_n 1, 1) := by decide +kernel
theorem dX1_readPart_109 : decode cX1_readPart 109 = .ok (.iconst 1, 1) := by decide +kernel
theorem dX1_readPart_110 : decode cX1_readPart 110 = .ok (.iadd, 1) := by decide +kernel
theorem dX1_readPart_111 : decode cX1_readPart 111 = .ok (.invokevirtual 75, 3) := by decide +kernel
theorem dX1_readPart_114 : decode cX1_readPart 114 = .ok (.ifCond .ne 5, 3) := by decide +kernel
theorem dX1_readPart_117 : decode cX1_readPart 117 = .ok (.iconst 0, 1) := by decide +kernel
theorem dX1_readPart_118 : decode cX1_readPart 118 = .ok (.ireturn, 1) := by decide +kernel
theorem dX1_readPart_119 : decode cX1_readPart 119 = .ok (.aload_n 0, 1) := by decide +kernel
theorem dX1_readPart_120 : decode cX1_readPart 120 = .ok (.getfield 15, 3) := by decide +kernel
theorem dX1_readPart_123 : decode cX1_readPart 123 = .ok (.bipush 18, 2) := by decide +kernel
theorem dX1_readPart_125 : decode cX1_readPart 125 = .ok (.if_icmp .eq 9, 3) := by decide +kernel
theorem dX1_readPart_128 : decode cX1_readPart 128 = .ok (.aload_n 0, 1) := by decide +kernel
theorem dX1_readPart_129 : decode cX1_readPart 129 = .ok (.iconst 1, 1) := by decide +kernel
theorem dX1_readPart_130 : decode cX1_readPart 130 = .ok (.invokevirtual 52, 3) := by decide +kernel
theorem dX1_readPart_133 : decode cX1_readPart 133 = .ok (.ireturn, 1) := by decide +kernel
theorem dX1_readPart_134 : decode cX1_readPart 134 = .ok (.aload_n 0, 1) := by decide +kernel
theorem dX1_readPart_135 : decode cX1_readPart 135 = .ok (.invokevirtual 59, 3) := by decide +kernel
theorem dX1_readPart_138 : decode cX1_readPart 138 = .ok (.iconst 1, 1) := by decide +kernel
theorem dX1_readPart_139 : decode cX1_readPart 139 = .ok (.ireturn, 1) := by decide +kernel
theorem dX2_init_0 : decode cX2_init 0 = .ok (.aload_n 0, 1) := by decide +kernel
theorem dX2_init_1 : decode cX2_init 1 = .ok (.invokespecial 3, 3) := by decide +kernel
theorem dX2_init_4 : decode cX2_init 4 = .ok (.aload_n 0, 1) := by decide +kernel
theorem dX2_init_5 : decode cX2_init 5 = .ok (.new 9, 3) := by decide +kernel
theorem dX2_init_8 : decode cX2_init 8 = .ok (.dup, 1) := by decide +kernel
theorem dX2_init_9 : decode cX2_init 9 = .ok (.iconst 0, 1) := by decide +kernel
theorem dX2_init_10 : decode cX2_init 10 = .ok (.invokespecial 11, 3) := by decide +kernel
theorem dX2_init_13 : decode cX2_init 13 = .ok (.putfield 14, 3) := by decide +kernel
theorem dX2_init_16 : decode cX2_init 16 = .ok (.aload_n 0, 1) := by decide +kernel
theorem dX2_init_17 : decode cX2_init 17 = .ok (.iconst 0, 1) := by decide +kernel
theorem dX2_init_18 : decode cX2_init 18 = .ok (.putfield 20, 3) := by decide +kernel
theorem dX2_init_21 : decode cX2_init 21 = .ok (.aload_n 0, 1) := by decide +kernel
theorem dX2_init_22 : decode cX2_init 22 = .ok (.bipush 99, 2) := by decide +kernel
theorem dX2_init_24 : decode cX2_init 24 = .ok (.putfield 24, 3) := by decide +kernel
theorem dX2_init_27 : decode cX2_init 27 = .ok (.aload_n 0, 1) := by decide +kernel
theorem dX2_init_28 : decode cX2_init 28 = .ok (.bipush 99, 2) := by decide +kernel
theorem dX2_init_30 : decode cX2_init 30 = .ok (.putfield 27, 3) := by decide +kernel
theorem dX2_init_33 : decode cX2_init 33 = .ok (.return_, 1) := by decide +kernel
theorem dX3_init_0 : decode cX3_init 0 = .ok (.aload_n 0, 1) := by decide +kernel
theorem dX3_init_1 : decode cX3_init 1 = .ok (.invokespecial 3, 3) := by decide +kernel
theorem dX3_init_4 : decode cX3_init 4 = .ok (.aload_n 0, 1) := by decide +kernel
theorem dX3_init_5 : decode cX3_init 5 = .ok (.bipush 16, 2) := by decide +kernel
theorem dX3_init_7 : decode cX3_init 7 = .ok (.newarray .int, 2) := by decide +kernel
theorem dX3_init_9 : decode cX3_init 9 = .ok (.putfield 9, 3) := by decide +kernel
theorem dX3_init_12 : decode cX3_init 12 = .ok (.aload_n 0, 1) := by decide +kernel
theorem dX3_init_13 : decode cX3_init 13 = .ok (.bipush 16, 2) := by decide +kernel
theorem dX3_init_15 : decode cX3_init 15 = .ok (.newarray .int, 2) := by decide +kernel
theorem dX3_init_17 : decode cX3_init 17 = .ok (.putfield 15, 3) := by decide +kernel
theorem dX3_init_20 : decode cX3_init 20 = .ok (.aload_n 0, 1) := by decide +kernel
theorem dX3_init_21 : decode cX3_init 21 = .ok (.bipush 16, 2) := by decide +kernel
theorem dX3_init_23 : decode cX3_init 23 = .ok (.newarray .int, 2) := by decide +kernel
theorem dX3_init_25 : decode cX3_init 25 = .ok (.putfield 18, 3) := by decide +kernel
theorem dX3_init_28 : decode cX3_init 28 = .ok (.aload_n 0, 1) := by decide +kernel
theorem dX3_init_29 : decode cX3_init 29 = .ok (.bipush 16, 2) := by decide +kernel
theorem dX3_init_31 : decode cX3_init 31 = .ok (.newarray .int, 2) := by decide +kernel
theorem dX3_init_33 : decode cX3_init 33 = .ok (.putfield 21, 3) := by decide +kernel
theorem dX3_init_36 : decode cX3_init 36 = .ok (.aload_n 0, 1) := by decide +kernel
theorem dX3_init_37 : decode cX3_init 37 = .ok (.bipush 16, 2) := by decide +kernel
theorem dX3_init_39 : decode cX3_init 39 = .ok (.newarray .boolean, 2) := by decide +kernel
theorem dX3_init_41 : decode cX3_init 41 = .ok (.putfield 24, 3) := by decide +kernel
theorem dX3_init_44 : decode cX3_init 44 = .ok (.aload_n 0, 1) := by decide +kernel
theorem dX3_init_45 : decode cX3_init 45 = .ok (.bipush 17, 2) := by decide +kernel
theorem dX3_init_47 : decode cX3_init 47 = .ok (.newarray .int, 2) := by decide +kernel
theorem dX3_init_49 : decode cX3_init 49 = .ok (.putfield 28, 3) := by decide +kernel
theorem dX3_init_52 : decode cX3_init 52 = .ok (.aload_n 0, 1) := by decide +kernel
theorem dX3_init_53 : decode cX3_init 53 = .ok (.bipush 16, 2) := by decide +kernel
theorem dX3_init_55 : decode cX3_init 55 = .ok (.newarray .int, 2) := by decide +kernel
theorem dX3_init_57 : decode cX3_init 57 = .ok (.putfield 31, 3) := by decide +kernel
theorem dX3_init_60 : decode cX3_init 60 = .ok (.aload_n 0, 1) := by decide +kernel
theorem dX3_init_61 : decode cX3_init 61 = .ok (.iconst 0, 1) := by decide +kernel
theorem dX3_init_62 : decode cX3_init 62 = .ok (.putfield 34, 3) := by decide +kernel
theorem dX3_init_65 : decode cX3_init 65 = .ok (.return_, 1) := by decide +kernel
theorem dX3_partWords_0 : decode cX3_partWords 0 = .ok (.aload_n 0, 1) := by decide +kernel
theorem dX3_partWords_1 : decode cX3_partWords 1 = .ok (.getfield 28, 3) := by decide +kernel
theorem dX3_partWords_4 : decode cX3_partWords 4 = .ok (.aload_n 1, 1) := by decide +kernel
theorem dX3_partWords_5 : decode cX3_partWords 5 = .ok (.getfield 38, 3) := by decide +kernel
theorem dX3_partWords_8 : decode cX3_partWords 8 = .ok (.iconst 0, 1) := by decide +kernel
theorem dX3_partWords_9 : decode cX3_partWords 9 = .ok (.iastore, 1) := by decide +kernel
theorem dX3_partWords_10 : decode cX3_partWords 10 = .ok (.aload_n 1, 1) := by decide +kernel
theorem dX3_partWords_11 : decode cX3_partWords 11 = .ok (.getfield 38, 3) := by decide +kernel
theorem dX3_partWords_14 : decode cX3_partWords 14 = .ok (.iconst 1, 1) := by decide +kernel
theorem dX3_partWords_15 : decode cX3_partWords 15 = .ok (.isub, 1) := by decide +kernel
theorem dX3_partWords_16 : decode cX3_partWords 16 = .ok (.istore_n 3, 1) := by decide +kernel
theorem dX3_partWords_17 : decode cX3_partWords 17 = .ok (.iload_n 3, 1) := by decide +kernel
theorem dX3_partWords_18 : decode cX3_partWords 18 = .ok (.ifCond .lt 16, 3) := by decide +kernel
theorem dX3_partWords_21 : decode cX3_partWords 21 = .ok (.aload_n 0, 1) := by decide +kernel
theorem dX3_partWords_22 : decode cX3_partWords 22 = .ok (.aload_n 1, 1) := by decide +kernel
theorem dX3_partWords_23 : decode cX3_partWords 23 = .ok (.iload_n 2, 1) := by decide +kernel
theorem dX3_partWords_24 : decode cX3_partWords 24 = .ok (.iload_n 3, 1) := by decide +kernel
theorem dX3_partWords_25 : decode cX3_partWords 25 = .ok (.invokevirtual 43, 3) := by decide +kernel
theorem dX3_partWords_28 : decode cX3_partWords 28 = .ok (.iinc 3 (-1), 3) := by decide +kernel
theorem dX3_partWords_31 : decode cX3_partWords 31 = .ok (.goto (-14), 3) := by decide +kernel
theorem dX3_partWords_34 : decode cX3_partWords 34 = .ok (.aload_n 0, 1) := by decide +kernel
theorem dX3_partWords_35 : decode cX3_partWords 35 = .ok (.iconst 0, 1) := by decide +kernel
theorem dX3_partWords_36 : decode cX3_partWords 36 = .ok (.putfield 34, 3) := by decide +kernel
theorem dX3_partWords_39 : decode cX3_partWords 39 = .ok (.iconst 0, 1) := by decide +kernel
theorem dX3_partWords_40 : decode cX3_partWords 40 = .ok (.istore_n 3, 1) := by decide +kernel
theorem dX3_partWords_41 : decode cX3_partWords 41 = .ok (.iconst 0, 1) := by decide +kernel
theorem dX3_partWords_42 : decode cX3_partWords 42 = .ok (.istore 4, 2) := by decide +kernel
theorem dX3_partWords_44 : decode cX3_partWords 44 = .ok (.iload 4, 2) := by decide +kernel
theorem dX3_partWords_46 : decode cX3_partWords 46 = .ok (.aload_n 1, 1) := by decide +kernel
theorem dX3_partWords_47 : decode cX3_partWords 47 = .ok (.getfield 38, 3) := by decide +kernel
theorem dX3_partWords_50 : decode cX3_partWords 50 = .ok (.if_icmp .ge 34, 3) := by decide +kernel
theorem dX3_partWords_53 : decode cX3_partWords 53 = .ok (.iload 4, 2) := by decide +kernel
theorem dX3_partWords_55 : decode cX3_partWords 55 = .ok (.iload_n 3, 1) := by decide +kernel
theorem dX3_partWords_56 : decode cX3_partWords 56 = .ok (.if_icmp .ne 22, 3) := by decide +kernel
theorem dX3_partWords_59 : decode cX3_partWords 59 = .ok (.iload 4, 2) := by decide +kernel
theorem dX3_partWords_61 : decode cX3_partWords 61 = .ok (.aload_n 0, 1) := by decide +kernel
theorem dX3_partWords_62 : decode cX3_partWords 62 = .ok (.getfield 31, 3) := by decide +kernel
theorem dX3_partWords_65 : decode cX3_partWords 65 = .ok (.iload 4, 2) := by decide +kernel
theorem dX3_partWords_67 : decode cX3_partWords 67 = .ok (.iaload, 1) := by decide +kernel
theorem dX3_partWords_68 : decode cX3_partWords 68 = .ok (.iadd, 1) := by decide +kernel
theorem dX3_partWords_69 : decode cX3_partWords 69 = .ok (.istore_n 3, 1) := by decide +kernel
theorem dX3_partWords_70 : decode cX3_partWords 70 = .ok (.aload_n 0, 1) := by decide +kernel
theorem dX3_partWords_71 : decode cX3_partWords 71 = .ok (.aload_n 1, 1) := by decide +kernel
theorem dX3_partWords_72 : decode cX3_partWords 72 = .ok (.iload 4, 2) := by decide +kernel
theorem dX3_partWords_74 : decode cX3_partWords 74 = .ok (.iload_n 3, 1) := by decide +kernel
theorem dX3_partWords_75 : decode cX3_partWords 75 = .ok (.invokevirtual 47, 3) := by decide +kernel
theorem dX3_partWords_78 : decode cX3_partWords 78 = .ok (.iinc 4 1, 3) := by decide +kernel
theorem dX3_partWords_81 : decode cX3_partWords 81 = .ok (.goto (-37), 3) := by decide +kernel
theorem dX3_partWords_84 : decode cX3_partWords 84 = .ok (.return_, 1) := by decide +kernel
theorem dX3_weighFrom_0 : decode cX3_weighFrom 0 = .ok (.iconst 0, 1) := by decide +kernel
theorem dX3_weighFrom_1 : decode cX3_weighFrom 1 = .ok (.istore 4, 2) := by decide +kernel
theorem dX3_weighFrom_3 : decode cX3_weighFrom 3 = .ok (.iload_n 3, 1) := by decide +kernel
theorem dX3_weighFrom_4 : decode cX3_weighFrom 4 = .ok (.istore 5, 2) := by decide +kernel
theorem dX3_weighFrom_6 : decode cX3_weighFrom 6 = .ok (.iload 5, 2) := by decide +kernel
theorem dX3_weighFrom_8 : decode cX3_weighFrom 8 = .ok (.aload_n 1, 1) := by decide +kernel
theorem dX3_weighFrom_9 : decode cX3_weighFrom 9 = .ok (.getfield 38, 3) := by decide +kernel
theorem dX3_weighFrom_12 : decode cX3_weighFrom 12 = .ok (.if_icmp .ge 110, 3) := by decide +kernel
theorem dX3_weighFrom_15 : decode cX3_weighFrom 15 = .ok (.iload 4, 2) := by decide +kernel
theorem dX3_weighFrom_17 : decode cX3_weighFrom 17 = .ok (.aload_n 1, 1) := by decide +kernel
theorem dX3_weighFrom_18 : decode cX3_weighFrom 18 = .ok (.getfield 50, 3) := by decide +kernel
theorem dX3_weighFrom_21 : decode cX3_weighFrom 21 = .ok (.iload 5, 2) := by decide +kernel
theorem dX3_weighFrom_23 : decode cX3_weighFrom 23 = .ok (.iaload, 1) := by decide +kernel
theorem dX3_weighFrom_24 : decode cX3_weighFrom 24 = .ok (.iadd, 1) := by decide +kernel
theorem dX3_weighFrom_25 : decode cX3_weighFrom 25 = .ok (.istore 4, 2) := by decide +kernel
theorem dX3_weighFrom_27 : decode cX3_weighFrom 27 = .ok (.iload 4, 2) := by decide +kernel
theorem dX3_weighFrom_29 : decode cX3_weighFrom 29 = .ok (.iload_n 2, 1) := by decide +kernel
theorem dX3_weighFrom_30 : decode cX3_weighFrom 30 = .ok (.isub, 1) := by decide +kernel
theorem dX3_weighFrom_31 : decode cX3_weighFrom 31 = .ok (.istore 6, 2) := by decide +kernel
theorem dX3_weighFrom_33 : decode cX3_weighFrom 33 = .ok (.iload 5, 2) := by decide +kernel
theorem dX3_weighFrom_35 : decode cX3_weighFrom 35 = .ok (.iconst 1, 1) := by decide +kernel
theorem dX3_weighFrom_36 : decode cX3_weighFrom 36 = .ok (.iadd, 1) := by decide +kernel
theorem dX3_weighFrom_37 : decode cX3_weighFrom 37 = .ok (.aload_n 1, 1) := by decide +kernel
theorem dX3_weighFrom_38 : decode cX3_weighFrom 38 = .ok (.getfield 38, 3) := by decide +kernel
theorem dX3_weighFrom_41 : decode cX3_weighFrom 41 = .ok (.if_icmp .ge 15, 3) := by decide +kernel
theorem dX3_weighFrom_44 : decode cX3_weighFrom 44 = .ok (.iconst 1, 1) := by decide +kernel
theorem dX3_weighFrom_45 : decode cX3_weighFrom 45 = .ok (.aload_n 1, 1) := by decide +kernel
theorem dX3_weighFrom_46 : decode cX3_weighFrom 46 = .ok (.getfield 53, 3) := by decide +kernel
theorem dX3_weighFrom_49 : decode cX3_weighFrom 49 = .ok (.iload 5, 2) := by decide +kernel
theorem dX3_weighFrom_51 : decode cX3_weighFrom 51 = .ok (.iaload, 1) := by decide +kernel
theorem dX3_weighFrom_52 : decode cX3_weighFrom 52 = .ok (.iadd, 1) := by decide +kernel
theorem dX3_weighFrom_53 : decode cX3_weighFrom 53 = .ok (.goto 4, 3) := by decide +kernel
theorem dX3_weighFrom_56 : decode cX3_weighFrom 56 = .ok (.iconst 0, 1) := by decide +kernel
theorem dX3_weighFrom_57 : decode cX3_weighFrom 57 = .ok (.istore 7, 2) := by decide +kernel
theorem dX3_weighFrom_59 : decode cX3_weighFrom 59 = .ok (.iload 6, 2) := by decide +kernel
theorem dX3_weighFrom_61 : decode cX3_weighFrom 61 = .ok (.iload 6, 2) := by decide +kernel
theorem dX3_weighFrom_63 : decode cX3_weighFrom 63 = .ok (.imul, 1) := by decide +kernel
theorem dX3_weighFrom_64 : decode cX3_weighFrom 64 = .ok (.iload 7, 2) := by decide +kernel
theorem dX3_weighFrom_66 : decode cX3_weighFrom 66 = .ok (.iadd, 1) := by decide +kernel
theorem dX3_weighFrom_67 : decode cX3_weighFrom 67 = .ok (.aload_n 0, 1) := by decide +kernel
theorem dX3_weighFrom_68 : decode cX3_weighFrom 68 = .ok (.getfield 28, 3) := by decide +kernel
theorem dX3_weighFrom_71 : decode cX3_weighFrom 71 = .ok (.iload 5, 2) := by decide +kernel
theorem dX3_weighFrom_73 : decode cX3_weighFrom 73 = .ok (.iconst 1, 1) := by decide +kernel
theorem dX3_weighFrom_74 : decode cX3_weighFrom 74 = .ok (.iadd, 1) := by decide +kernel
theorem dX3_weighFrom_75 : decode cX3_weighFrom 75 = .ok (.iaload, 1) := by decide +kernel
theorem dX3_weighFrom_76 : decode cX3_weighFrom 76 = .ok (.iadd, 1) := by decide +kernel
theorem dX3_weighFrom_77 : decode cX3_weighFrom 77 = .ok (.istore 8, 2) := by decide +kernel
theorem dX3_weighFrom_79 : decode cX3_weighFrom 79 = .ok (.iload 5, 2) := by decide +kernel
theorem dX3_weighFrom_81 : decode cX3_weighFrom 81 = .ok (.iload_n 3, 1) := by decide +kernel
theorem dX3_weighFrom_82 : decode cX3_weighFrom 82 = .ok (.if_icmp .eq 14, 3) := by decide +kernel
theorem dX3_weighFrom_85 : decode cX3_weighFrom 85 = .ok (.iload 8, 2) := by decide +kernel
theorem dX3_weighFrom_87 : decode cX3_weighFrom 87 = .ok (.aload_n 0, 1) := by decide +kernel
theorem dX3_weighFrom_88 : decode cX3_weighFrom 88 = .ok (.getfield 28, 3) := by decide +kernel
theorem dX3_weighFrom_91 : decode cX3_weighFrom 91 = .ok (.iload_n 3, 1) := by decide +kernel
theorem dX3_weighFrom_92 : decode cX3_weighFrom 92 = .ok (.iaload, 1) := by decide +kernel
theorem dX3_weighFrom_93 : decode cX3_weighFrom 93 = .ok (.if_icmp .gt 23, 3) := by decide +kernel
theorem dX3_weighFrom_96 : decode cX3_weighFrom 96 = .ok (.aload_n 0, 1) := by decide +kernel
theorem dX3_weighFrom_97 : decode cX3_weighFrom 97 = .ok (.getfield 28, 3) := by decide +kernel
theorem dX3_weighFrom_100 : decode cX3_weighFrom 100 = .ok (.iload_n 3, 1) := by decide +kernel
theorem dX3_weighFrom_101 : decode cX3_weighFrom 101 = .ok (.iload 8, 2) := by decide +kernel
theorem dX3_weighFrom_103 : decode cX3_weighFrom 103 = .ok (.iastore, 1) := by decide +kernel
theorem dX3_weighFrom_104 : decode cX3_weighFrom 104 = .ok (.aload_n 0, 1) := by decide +kernel
theorem dX3_weighFrom_105 : decode cX3_weighFrom 105 = .ok (.getfield 31, 3) := by decide +kernel
theorem dX3_weighFrom_108 : decode cX3_weighFrom 108 = .ok (.iload_n 3, 1) := by decide +kernel
theorem dX3_weighFrom_109 : decode cX3_weighFrom 109 = .ok (.iload 5, 2) := by decide +kernel
theorem dX3_weighFrom_111 : decode cX3_weighFrom 111 = .ok (.iconst 1, 1) := by decide +kernel
theorem dX3_weighFrom_112 : decode cX3_weighFrom 112 = .ok (.iadd, 1) := by decide +kernel
theorem dX3_weighFrom_113 : decode cX3_weighFrom 113 = .ok (.iload_n 3, 1) := by decide +kernel
theorem dX3_weighFrom_114 : decode cX3_weighFrom 114 = .ok (.isub, 1) := by decide +kernel
theorem dX3_weighFrom_115 : decode cX3_weighFrom 115 = .ok (.iastore, 1) := by decide +kernel
theorem dX3_weighFrom_116 : decode cX3_weighFrom 116 = .ok (.iinc 5 1, 3) := by decide +kernel
theorem dX3_weighFrom_119 : decode cX3_weighFrom 119 = .ok (.goto (-113), 3) := by decide +kernel
theorem dX3_weighFrom_122 : decode cX3_weighFrom 122 = .ok (.return_, 1) := by decide +kernel
theorem dX3_addPhrase_0 : decode cX3_addPhrase 0 = .ok (.iconst 0, 1) := by decide +kernel
theorem dX3_addPhrase_1 : decode cX3_addPhrase 1 = .ok (.istore 4, 2) := by decide +kernel
theorem dX3_addPhrase_3 : decode cX3_addPhrase 3 = .ok (.iload_n 2, 1) := by decide +kernel
theorem dX3_addPhrase_4 : decode cX3_addPhrase 4 = .ok (.istore 5, 2) := by decide +kernel
theorem dX3_addPhrase_6 : decode cX3_addPhrase 6 = .ok (.iload 5, 2) := by decide +kernel
theorem dX3_addPhrase_8 : decode cX3_addPhrase 8 = .ok (.iload_n 3, 1) := by decide +kernel
theorem dX3_addPhrase_9 : decode cX3_addPhrase 9 = .ok (.if_icmp .ge 21, 3) := by decide +kernel
theorem dX3_addPhrase_12 : decode cX3_addPhrase 12 = .ok (.iload 4, 2) := by decide +kernel
theorem dX3_addPhrase_14 : decode cX3_addPhrase 14 = .ok (.aload_n 1, 1) := by decide +kernel
theorem dX3_addPhrase_15 : decode cX3_addPhrase 15 = .ok (.getfield 50, 3) := by decide +kernel
theorem dX3_addPhrase_18 : decode cX3_addPhrase 18 = .ok (.iload 5, 2) := by decide +kernel
theorem dX3_addPhrase_20 : decode cX3_addPhrase 20 = .ok (.iaload, 1) := by decide +kernel
theorem dX3_addPhrase_21 : decode cX3_addPhrase 21 = .ok (.iadd, 1) := by decide +kernel
theorem dX3_addPhrase_22 : decode cX3_addPhrase 22 = .ok (.istore 4, 2) := by decide +kernel
theorem dX3_addPhrase_24 : decode cX3_addPhrase 24 = .ok (.iinc 5 1, 3) := by decide +kernel
theorem dX3_addPhrase_27 : decode cX3_addPhrase 27 = .ok (.goto (-21), 3) := by decide +kernel
theorem dX3_addPhrase_30 : decode cX3_addPhrase 30 = .ok (.aload_n 0, 1) := by decide +kernel
theorem dX3_addPhrase_31 : decode cX3_addPhrase 31 = .ok (.getfield 9, 3) := by decide +kernel
theorem dX3_addPhrase_34 : decode cX3_addPhrase 34 = .ok (.aload_n 0, 1) := by decide +kernel
theorem dX3_addPhrase_35 : decode cX3_addPhrase 35 = .ok (.getfield 34, 3) := by decide +kernel
theorem dX3_addPhrase_38 : decode cX3_addPhrase 38 = .ok (.iload_n 2, 1) := by decide +kernel
theorem dX3_addPhrase_39 : decode cX3_addPhrase 39 = .ok (.iastore, 1) := by decide +kernel
theorem dX3_addPhrase_40 : decode cX3_addPhrase 40 = .ok (.aload_n 0, 1) := by decide +kernel
theorem dX3_addPhrase_41 : decode cX3_addPhrase 41 = .ok (.getfield 15, 3) := by decide +kernel
theorem dX3_addPhrase_44 : decode cX3_addPhrase 44 = .ok (.aload_n 0, 1) := by decide +kernel
theorem dX3_addPhrase_45 : decode cX3_addPhrase 45 = .ok (.getfield 34, 3) := by decide +kernel
theorem dX3_addPhrase_48 : decode cX3_addPhrase 48 = .ok (.iload_n 3, 1) := by decide +kernel
theorem dX3_addPhrase_49 : decode cX3_addPhrase 49 = .ok (.iload_n 2, 1) := by decide +kernel
theorem dX3_addPhrase_50 : decode cX3_addPhrase 50 = .ok (.isub, 1) := by decide +kernel
theorem dX3_addPhrase_51 : decode cX3_addPhrase 51 = .ok (.iastore, 1) := by decide +kernel
theorem dX3_addPhrase_52 : decode cX3_addPhrase 52 = .ok (.aload_n 0, 1) := by decide +kernel
theorem dX3_addPhrase_53 : decode cX3_addPhrase 53 = .ok (.getfield 18, 3) := by decide +kernel
theorem dX3_addPhrase_56 : decode cX3_addPhrase 56 = .ok (.aload_n 0, 1) := by decide +kernel
theorem dX3_addPhrase_57 : decode cX3_addPhrase 57 = .ok (.getfield 34, 3) := by decide +kernel
theorem dX3_addPhrase_60 : decode cX3_addPhrase 60 = .ok (.iload 4, 2) := by decide +kernel
theorem dX3_addPhrase_62 : decode cX3_addPhrase 62 = .ok (.iastore, 1) := by decide +kernel
theorem dX3_addPhrase_63 : decode cX3_addPhrase 63 = .ok (.aload_n 0, 1) := by decide +kernel
theorem dX3_addPhrase_64 : decode cX3_addPhrase 64 = .ok (.getfield 21, 3) := by decide +kernel
theorem dX3_addPhrase_67 : decode cX3_addPhrase 67 = .ok (.aload_n 0, 1) := by decide +kernel
theorem dX3_addPhrase_68 : decode cX3_addPhrase 68 = .ok (.getfield 34, 3) := by decide +kernel
theorem dX3_addPhrase_71 : decode cX3_addPhrase 71 = .ok (.aload_n 0, 1) := by decide +kernel
theorem dX3_addPhrase_72 : decode cX3_addPhrase 72 = .ok (.aload_n 1, 1) := by decide +kernel
theorem dX3_addPhrase_73 : decode cX3_addPhrase 73 = .ok (.iload_n 2, 1) := by decide +kernel
theorem dX3_addPhrase_74 : decode cX3_addPhrase 74 = .ok (.iload_n 3, 1) := by decide +kernel
theorem dX3_addPhrase_75 : decode cX3_addPhrase 75 = .ok (.invokevirtual 56, 3) := by decide +kernel
theorem dX3_addPhrase_78 : decode cX3_addPhrase 78 = .ok (.iastore, 1) := by decide +kernel
theorem dX3_addPhrase_79 : decode cX3_addPhrase 79 = .ok (.aload_n 0, 1) := by decide +kernel
theorem dX3_addPhrase_80 : decode cX3_addPhrase 80 = .ok (.dup, 1) := by decide +kernel
theorem dX3_addPhrase_81 : decode cX3_addPhrase 81 = .ok (.getfield 34, 3) := by decide +kernel
theorem dX3_addPhrase_84 : decode cX3_addPhrase 84 = .ok (.iconst 1, 1) := by decide +kernel
theorem dX3_addPhrase_85 : decode cX3_addPhrase 85 = .ok (.iadd, 1) := by decide +kernel
theorem dX3_addPhrase_86 : decode cX3_addPhrase 86 = .ok (.putfield 34, 3) := by decide +kernel
theorem dX3_addPhrase_89 : decode cX3_addPhrase 89 = .ok (.return_, 1) := by decide +kernel
theorem dX3_accentWords_0 : decode cX3_accentWords 0 = .ok (.iconst 0, 1) := by decide +kernel
theorem dX3_accentWords_1 : decode cX3_accentWords 1 = .ok (.istore 4, 2) := by decide +kernel
theorem dX3_accentWords_3 : decode cX3_accentWords 3 = .ok (.iconst (-1), 1) := by decide +kernel
theorem dX3_accentWords_4 : decode cX3_accentWords 4 = .ok (.istore 5, 2) := by decide +kernel
theorem dX3_accentWords_6 : decode cX3_accentWords 6 = .ok (.iload_n 2, 1) := by decide +kernel
theorem dX3_accentWords_7 : decode cX3_accentWords 7 = .ok (.istore 6, 2) := by decide +kernel
theorem dX3_accentWords_9 : decode cX3_accentWords 9 = .ok (.iload 6, 2) := by decide +kernel
theorem dX3_accentWords_11 : decode cX3_accentWords 11 = .ok (.iload_n 3, 1) := by decide +kernel
theorem dX3_accentWords_12 : decode cX3_accentWords 12 = .ok (.if_icmp .ge 62, 3) := by decide +kernel
theorem dX3_accentWords_15 : decode cX3_accentWords 15 = .ok (.aload_n 0, 1) := by decide +kernel
theorem dX3_accentWords_16 : decode cX3_accentWords 16 = .ok (.getfield 24, 3) := by decide +kernel
theorem dX3_accentWords_19 : decode cX3_accentWords 19 = .ok (.iload 6, 2) := by decide +kernel
theorem dX3_accentWords_21 : decode cX3_accentWords 21 = .ok (.aload_n 1, 1) := by decide +kernel
theorem dX3_accentWords_22 : decode cX3_accentWords 22 = .ok (.getfield 60, 3) := by decide +kernel
theorem dX3_accentWords_25 : decode cX3_accentWords 25 = .ok (.iload 6, 2) := by decide +kernel
theorem dX3_accentWords_27 : decode cX3_accentWords 27 = .ok (.baload, 1) := by decide +kernel
theorem dX3_accentWords_28 : decode cX3_accentWords 28 = .ok (.bastore, 1) := by decide +kernel
theorem dX3_accentWords_29 : decode cX3_accentWords 29 = .ok (.iload 4, 2) := by decide +kernel
theorem dX3_accentWords_31 : decode cX3_accentWords 31 = .ok (.aload_n 1, 1) := by decide +kernel
theorem dX3_accentWords_32 : decode cX3_accentWords 32 = .ok (.getfield 60, 3) := by decide +kernel
theorem dX3_accentWords_35 : decode cX3_accentWords 35 = .ok (.iload 6, 2) := by decide +kernel
theorem dX3_accentWords_37 : decode cX3_accentWords 37 = .ok (.baload, 1) := by decide +kernel
theorem dX3_accentWords_38 : decode cX3_accentWords 38 = .ok (.ifCond .eq 7, 3) := by decide +kernel
theorem dX3_accentWords_41 : decode cX3_accentWords 41 = .ok (.iconst 1, 1) := by decide +kernel
theorem dX3_accentWords_42 : decode cX3_accentWords 42 = .ok (.goto 4, 3) := by decide +kernel
theorem dX3_accentWords_45 : decode cX3_accentWords 45 = .ok (.iconst 0, 1) := by decide +kernel
theorem dX3_accentWords_46 : decode cX3_accentWords 46 = .ok (.iadd, 1) := by decide +kernel
theorem dX3_accentWords_47 : decode cX3_accentWords 47 = .ok (.istore 4, 2) := by decide +kernel
theorem dX3_accentWords_49 : decode cX3_accentWords 49 = .ok (.aload_n 1, 1) := by decide +kernel
theorem dX3_accentWords_50 : decode cX3_accentWords 50 = .ok (.getfield 63, 3) := by decide +kernel
theorem dX3_accentWords_53 : decode cX3_accentWords 53 = .ok (.iload 6, 2) := by decide +kernel
theorem dX3_accentWords_55 : decode cX3_accentWords 55 = .ok (.baload, 1) := by decide +kernel
theorem dX3_accentWords_56 : decode cX3_accentWords 56 = .ok (.ifCond .eq 8, 3) := by decide +kernel
theorem dX3_accentWords_59 : decode cX3_accentWords 59 = .ok (.iload 6, 2) := by decide +kernel
theorem dX3_accentWords_61 : decode cX3_accentWords 61 = .ok (.goto 5, 3) := by decide +kernel
theorem dX3_accentWords_64 : decode cX3_accentWords 64 = .ok (.iload 5, 2) := by decide +kernel
theorem dX3_accentWords_66 : decode cX3_accentWords 66 = .ok (.istore 5, 2) := by decide +kernel
theorem dX3_accentWords_68 : decode cX3_accentWords 68 = .ok (.iinc 6 1, 3) := by decide +kernel
theorem dX3_accentWords_71 : decode cX3_accentWords 71 = .ok (.goto (-62), 3) := by decide +kernel
theorem dX3_accentWords_74 : decode cX3_accentWords 74 = .ok (.iload 4, 2) := by decide +kernel
theorem dX3_accentWords_76 : decode cX3_accentWords 76 = .ok (.ifCond .le 6, 3) := by decide +kernel
theorem dX3_accentWords_79 : decode cX3_accentWords 79 = .ok (.iload 4, 2) := by decide +kernel
theorem dX3_accentWords_81 : decode cX3_accentWords 81 = .ok (.ireturn, 1) := by decide +kernel
theorem dX3_accentWords_82 : decode cX3_accentWords 82 = .ok (.aload_n 0, 1) := by decide +kernel
theorem dX3_accentWords_83 : decode cX3_accentWords 83 = .ok (.getfield 24, 3) := by decide +kernel
theorem dX3_accentWords_86 : decode cX3_accentWords 86 = .ok (.iload 5, 2) := by decide +kernel
theorem dX3_accentWords_88 : decode cX3_accentWords 88 = .ok (.iconst (-1), 1) := by decide +kernel
theorem dX3_accentWords_89 : decode cX3_accentWords 89 = .ok (.if_icmp .ne 9, 3) := by decide +kernel
theorem dX3_accentWords_92 : decode cX3_accentWords 92 = .ok (.iload_n 3, 1) := by decide +kernel
theorem dX3_accentWords_93 : decode cX3_accentWords 93 = .ok (.iconst 1, 1) := by decide +kernel
theorem dX3_accentWords_94 : decode cX3_accentWords 94 = .ok (.isub, 1) := by decide +kernel
theorem dX3_accentWords_95 : decode cX3_accentWords 95 = .ok (.goto 5, 3) := by decide +kernel
theorem dX3_accentWords_98 : decode cX3_accentWords 98 = .ok (.iload 5, 2) := by decide +kernel
theorem dX3_accentWords_100 : decode cX3_accentWords 100 = .ok (.iconst 1, 1) := by decide +kernel
theorem dX3_accentWords_101 : decode cX3_accentWords 101 = .ok (.bastore, 1) := by decide +kernel
theorem dX3_accentWords_102 : decode cX3_accentWords 102 = .ok (.iconst 1, 1) := by decide +kernel
theorem dX3_accentWords_103 : decode cX3_accentWords 103 = .ok (.ireturn, 1) := by decide +kernel
theorem dX3_pauseBehind_0 : decode cX3_pauseBehind 0 = .ok (.iconst 0, 1) := by decide +kernel
theorem dX3_pauseBehind_1 : decode cX3_pauseBehind 1 = .ok (.istore_n 3, 1) := by decide +kernel
theorem dX3_pauseBehind_2 : decode cX3_pauseBehind 2 = .ok (.iconst 0, 1) := by decide +kernel
theorem dX3_pauseBehind_3 : decode cX3_pauseBehind 3 = .ok (.istore 4, 2) := by decide +kernel
theorem dX3_pauseBehind_5 : decode cX3_pauseBehind 5 = .ok (.iload 4, 2) := by decide +kernel
theorem dX3_pauseBehind_7 : decode cX3_pauseBehind 7 = .ok (.aload_n 0, 1) := by decide +kernel
theorem dX3_pauseBehind_8 : decode cX3_pauseBehind 8 = .ok (.getfield 34, 3) := by decide +kernel
theorem dX3_pauseBehind_11 : decode cX3_pauseBehind 11 = .ok (.iconst 1, 1) := by decide +kernel
theorem dX3_pauseBehind_12 : decode cX3_pauseBehind 12 = .ok (.isub, 1) := by decide +kernel
theorem dX3_pauseBehind_13 : decode cX3_pauseBehind 13 = .ok (.if_icmp .ge 19, 3) := by decide +kernel
theorem dX3_pauseBehind_16 : decode cX3_pauseBehind 16 = .ok (.iload_n 3, 1) := by decide +kernel
theorem dX3_pauseBehind_17 : decode cX3_pauseBehind 17 = .ok (.aload_n 0, 1) := by decide +kernel
theorem dX3_pauseBehind_18 : decode cX3_pauseBehind 18 = .ok (.getfield 18, 3) := by decide +kernel
theorem dX3_pauseBehind_21 : decode cX3_pauseBehind 21 = .ok (.iload 4, 2) := by decide +kernel
theorem dX3_pauseBehind_23 : decode cX3_pauseBehind 23 = .ok (.iaload, 1) := by decide +kernel
theorem dX3_pauseBehind_24 : decode cX3_pauseBehind 24 = .ok (.iadd, 1) := by decide +kernel
theorem dX3_pauseBehind_25 : decode cX3_pauseBehind 25 = .ok (.istore_n 3, 1) := by decide +kernel
theorem dX3_pauseBehind_26 : decode cX3_pauseBehind 26 = .ok (.iinc 4 1, 3) := by decide +kernel
theorem dX3_pauseBehind_29 : decode cX3_pauseBehind 29 = .ok (.goto (-24), 3) := by decide +kernel
theorem dX3_pauseBehind_32 : decode cX3_pauseBehind 32 = .ok (.iload_n 3, 1) := by decide +kernel
theorem dX3_pauseBehind_33 : decode cX3_pauseBehind 33 = .ok (.ifCond .gt 5, 3) := by decide +kernel
theorem dX3_pauseBehind_36 : decode cX3_pauseBehind 36 = .ok (.iconst 0, 1) := by decide +kernel
theorem dX3_pauseBehind_37 : decode cX3_pauseBehind 37 = .ok (.ireturn, 1) := by decide +kernel
theorem dX3_pauseBehind_38 : decode cX3_pauseBehind 38 = .ok (.iload_n 2, 1) := by decide +kernel
theorem dX3_pauseBehind_39 : decode cX3_pauseBehind 39 = .ok (.istore 4, 2) := by decide +kernel
theorem dX3_pauseBehind_41 : decode cX3_pauseBehind 41 = .ok (.iconst 0, 1) := by decide +kernel
theorem dX3_pauseBehind_42 : decode cX3_pauseBehind 42 = .ok (.istore 5, 2) := by decide +kernel
theorem dX3_pauseBehind_44 : decode cX3_pauseBehind 44 = .ok (.iload_n 2, 1) := by decide +kernel
theorem dX3_pauseBehind_45 : decode cX3_pauseBehind 45 = .ok (.aload_n 0, 1) := by decide +kernel
theorem dX3_pauseBehind_46 : decode cX3_pauseBehind 46 = .ok (.getfield 18, 3) := by decide +kernel
theorem dX3_pauseBehind_49 : decode cX3_pauseBehind 49 = .ok (.iload_n 1, 1) := by decide +kernel
theorem dX3_pauseBehind_50 : decode cX3_pauseBehind 50 = .ok (.iaload, 1) := by decide +kernel
theorem dX3_pauseBehind_51 : decode cX3_pauseBehind 51 = .ok (.imul, 1) := by decide +kernel
theorem dX3_pauseBehind_52 : decode cX3_pauseBehind 52 = .ok (.iload_n 3, 1) := by decide +kernel
theorem dX3_pauseBehind_53 : decode cX3_pauseBehind 53 = .ok (.irem, 1) := by decide +kernel
theorem dX3_pauseBehind_54 : decode cX3_pauseBehind 54 = .ok (.istore 6, 2) := by decide +kernel
theorem dX3_pauseBehind_56 : decode cX3_pauseBehind 56 = .ok (.iconst 0, 1) := by decide +kernel
theorem dX3_pauseBehind_57 : decode cX3_pauseBehind 57 = .ok (.istore 7, 2) := by decide +kernel
theorem dX3_pauseBehind_59 : decode cX3_pauseBehind 59 = .ok (.iload 7, 2) := by decide +kernel
theorem dX3_pauseBehind_61 : decode cX3_pauseBehind 61 = .ok (.aload_n 0, 1) := by decide +kernel
theorem dX3_pauseBehind_62 : decode cX3_pauseBehind 62 = .ok (.getfield 34, 3) := by decide +kernel
theorem dX3_pauseBehind_65 : decode cX3_pauseBehind 65 = .ok (.iconst 1, 1) := by decide +kernel
theorem dX3_pauseBehind_66 : decode cX3_pauseBehind 66 = .ok (.isub, 1) := by decide +kernel
theorem dX3_pauseBehind_67 : decode cX3_pauseBehind 67 = .ok (.if_icmp .ge 68, 3) := by decide +kernel
theorem dX3_pauseBehind_70 : decode cX3_pauseBehind 70 = .ok (.iload 4, 2) := by decide +kernel
theorem dX3_pauseBehind_72 : decode cX3_pauseBehind 72 = .ok (.iload_n 2, 1) := by decide +kernel
theorem dX3_pauseBehind_73 : decode cX3_pauseBehind 73 = .ok (.aload_n 0, 1) := by decide +kernel
theorem dX3_pauseBehind_74 : decode cX3_pauseBehind 74 = .ok (.getfield 18, 3) := by decide +kernel
theorem dX3_pauseBehind_77 : decode cX3_pauseBehind 77 = .ok (.iload 7, 2) := by decide +kernel
theorem dX3_pauseBehind_79 : decode cX3_pauseBehind 79 = .ok (.iaload, 1) := by decide +kernel
theorem dX3_pauseBehind_80 : decode cX3_pauseBehind 80 = .ok (.imul, 1) := by decide +kernel
theorem dX3_pauseBehind_81 : decode cX3_pauseBehind 81 = .ok (.iload_n 3, 1) := by decide +kernel
theorem dX3_pauseBehind_82 : decode cX3_pauseBehind 82 = .ok (.idiv, 1) := by decide +kernel
theorem dX3_pauseBehind_83 : decode cX3_pauseBehind 83 = .ok (.isub, 1) := by decide +kernel
theorem dX3_pauseBehind_84 : decode cX3_pauseBehind 84 = .ok (.istore 4, 2) := by decide +kernel
theorem dX3_pauseBehind_86 : decode cX3_pauseBehind 86 = .ok (.iload_n 2, 1) := by decide +kernel
theorem dX3_pauseBehind_87 : decode cX3_pauseBehind 87 = .ok (.aload_n 0, 1) := by decide +kernel
theorem dX3_pauseBehind_88 : decode cX3_pauseBehind 88 = .ok (.getfield 18, 3) := by decide +kernel
theorem dX3_pauseBehind_91 : decode cX3_pauseBehind 91 = .ok (.iload 7, 2) := by decide +kernel
theorem dX3_pauseBehind_93 : decode cX3_pauseBehind 93 = .ok (.iaload, 1) := by decide +kernel
theorem dX3_pauseBehind_94 : decode cX3_pauseBehind 94 = .ok (.imul, 1) := by decide +kernel
theorem dX3_pauseBehind_95 : decode cX3_pauseBehind 95 = .ok (.iload_n 3, 1) := by decide +kernel
theorem dX3_pauseBehind_96 : decode cX3_pauseBehind 96 = .ok (.irem, 1) := by decide +kernel
theorem dX3_pauseBehind_97 : decode cX3_pauseBehind 97 = .ok (.istore 8, 2) := by decide +kernel
theorem dX3_pauseBehind_99 : decode cX3_pauseBehind 99 = .ok (.iload 5, 2) := by decide +kernel
theorem dX3_pauseBehind_101 : decode cX3_pauseBehind 101 = .ok (.iload 8, 2) := by decide +kernel
theorem dX3_pauseBehind_103 : decode cX3_pauseBehind 103 = .ok (.iload 6, 2) := by decide +kernel
theorem dX3_pauseBehind_105 : decode cX3_pauseBehind 105 = .ok (.if_icmp .gt 16, 3) := by decide +kernel
theorem dX3_pauseBehind_108 : decode cX3_pauseBehind 108 = .ok (.iload 8, 2) := by decide +kernel
theorem dX3_pauseBehind_110 : decode cX3_pauseBehind 110 = .ok (.iload 6, 2) := by decide +kernel
theorem dX3_pauseBehind_112 : decode cX3_pauseBehind 112 = .ok (.if_icmp .ne 13, 3) := by decide +kernel
theorem dX3_pauseBehind_115 : decode cX3_pauseBehind 115 = .ok (.iload 7, 2) := by decide +kernel
theorem dX3_pauseBehind_117 : decode cX3_pauseBehind 117 = .ok (.iload_n 1, 1) := by decide +kernel
theorem dX3_pauseBehind_118 : decode cX3_pauseBehind 118 = .ok (.if_icmp .ge 7, 3) := by decide +kernel
theorem dX3_pauseBehind_121 : decode cX3_pauseBehind 121 = .ok (.iconst 1, 1) := by decide +kernel
theorem dX3_pauseBehind_122 : decode cX3_pauseBehind 122 = .ok (.goto 4, 3) := by decide +kernel
theorem dX3_pauseBehind_125 : decode cX3_pauseBehind 125 = .ok (.iconst 0, 1) := by decide +kernel
theorem dX3_pauseBehind_126 : decode cX3_pauseBehind 126 = .ok (.iadd, 1) := by decide +kernel
theorem dX3_pauseBehind_127 : decode cX3_pauseBehind 127 = .ok (.istore 5, 2) := by decide +kernel
theorem dX3_pauseBehind_129 : decode cX3_pauseBehind 129 = .ok (.iinc 7 1, 3) := by decide +kernel
theorem dX3_pauseBehind_132 : decode cX3_pauseBehind 132 = .ok (.goto (-73), 3) := by decide +kernel
theorem dX3_pauseBehind_135 : decode cX3_pauseBehind 135 = .ok (.iload_n 2, 1) := by decide +kernel
theorem dX3_pauseBehind_136 : decode cX3_pauseBehind 136 = .ok (.aload_n 0, 1) := by decide +kernel
theorem dX3_pauseBehind_137 : decode cX3_pauseBehind 137 = .ok (.getfield 18, 3) := by decide +kernel
theorem dX3_pauseBehind_140 : decode cX3_pauseBehind 140 = .ok (.iload_n 1, 1) := by decide +kernel
theorem dX3_pauseBehind_141 : decode cX3_pauseBehind 141 = .ok (.iaload, 1) := by decide +kernel
theorem dX3_pauseBehind_142 : decode cX3_pauseBehind 142 = .ok (.imul, 1) := by decide +kernel
theorem dX3_pauseBehind_143 : decode cX3_pauseBehind 143 = .ok (.iload_n 3, 1) := by decide +kernel
theorem dX3_pauseBehind_144 : decode cX3_pauseBehind 144 = .ok (.idiv, 1) := by decide +kernel
theorem dX3_pauseBehind_145 : decode cX3_pauseBehind 145 = .ok (.iload 5, 2) := by decide +kernel
theorem dX3_pauseBehind_147 : decode cX3_pauseBehind 147 = .ok (.iload 4, 2) := by decide +kernel
theorem dX3_pauseBehind_149 : decode cX3_pauseBehind 149 = .ok (.if_icmp .ge 7, 3) := by decide +kernel
theorem dX3_pauseBehind_152 : decode cX3_pauseBehind 152 = .ok (.iconst 1, 1) := by decide +kernel
theorem dX3_pauseBehind_153 : decode cX3_pauseBehind 153 = .ok (.goto 4, 3) := by decide +kernel
theorem dX3_pauseBehind_156 : decode cX3_pauseBehind 156 = .ok (.iconst 0, 1) := by decide +kernel
theorem dX3_pauseBehind_157 : decode cX3_pauseBehind 157 = .ok (.iadd, 1) := by decide +kernel
theorem dX3_pauseBehind_158 : decode cX3_pauseBehind 158 = .ok (.ireturn, 1) := by decide +kernel
theorem dX4_init_0 : decode cX4_init 0 = .ok (.aload_n 0, 1) := by decide +kernel
theorem dX4_init_1 : decode cX4_init 1 = .ok (.invokespecial 3, 3) := by decide +kernel
theorem dX4_init_4 : decode cX4_init 4 = .ok (.aload_n 0, 1) := by decide +kernel
theorem dX4_init_5 : decode cX4_init 5 = .ok (.bipush 16, 2) := by decide +kernel
theorem dX4_init_7 : decode cX4_init 7 = .ok (.newarray .int, 2) := by decide +kernel
theorem dX4_init_9 : decode cX4_init 9 = .ok (.putfield 9, 3) := by decide +kernel
theorem dX4_init_12 : decode cX4_init 12 = .ok (.aload_n 0, 1) := by decide +kernel
theorem dX4_init_13 : decode cX4_init 13 = .ok (.bipush 16, 2) := by decide +kernel
theorem dX4_init_15 : decode cX4_init 15 = .ok (.newarray .int, 2) := by decide +kernel
theorem dX4_init_17 : decode cX4_init 17 = .ok (.putfield 15, 3) := by decide +kernel
theorem dX4_init_20 : decode cX4_init 20 = .ok (.aload_n 0, 1) := by decide +kernel
theorem dX4_init_21 : decode cX4_init 21 = .ok (.bipush 16, 2) := by decide +kernel
theorem dX4_init_23 : decode cX4_init 23 = .ok (.newarray .int, 2) := by decide +kernel
theorem dX4_init_25 : decode cX4_init 25 = .ok (.putfield 18, 3) := by decide +kernel
theorem dX4_init_28 : decode cX4_init 28 = .ok (.aload_n 0, 1) := by decide +kernel
theorem dX4_init_29 : decode cX4_init 29 = .ok (.bipush 16, 2) := by decide +kernel
theorem dX4_init_31 : decode cX4_init 31 = .ok (.newarray .boolean, 2) := by decide +kernel
theorem dX4_init_33 : decode cX4_init 33 = .ok (.putfield 21, 3) := by decide +kernel
theorem dX4_init_36 : decode cX4_init 36 = .ok (.aload_n 0, 1) := by decide +kernel
theorem dX4_init_37 : decode cX4_init 37 = .ok (.bipush 16, 2) := by decide +kernel
theorem dX4_init_39 : decode cX4_init 39 = .ok (.newarray .boolean, 2) := by decide +kernel
theorem dX4_init_41 : decode cX4_init 41 = .ok (.putfield 25, 3) := by decide +kernel
theorem dX4_init_44 : decode cX4_init 44 = .ok (.aload_n 0, 1) := by decide +kernel
theorem dX4_init_45 : decode cX4_init 45 = .ok (.iconst 3, 1) := by decide +kernel
theorem dX4_init_46 : decode cX4_init 46 = .ok (.bipush 80, 2) := by decide +kernel
theorem dX4_init_48 : decode cX4_init 48 = .ok (.multianewarray 28 2, 4) := by decide +kernel
theorem dX4_init_52 : decode cX4_init 52 = .ok (.putfield 30, 3) := by decide +kernel
theorem dX4_init_55 : decode cX4_init 55 = .ok (.aload_n 0, 1) := by decide +kernel
theorem dX4_init_56 : decode cX4_init 56 = .ok (.iconst 0, 1) := by decide +kernel
theorem dX4_init_57 : decode cX4_init 57 = .ok (.putfield 33, 3) := by decide +kernel
theorem dX4_init_60 : decode cX4_init 60 = .ok (.aload_n 0, 1) := by decide +kernel
theorem dX4_init_61 : decode cX4_init 61 = .ok (.iconst 0, 1) := by decide +kernel
theorem dX4_init_62 : decode cX4_init 62 = .ok (.putfield 37, 3) := by decide +kernel
theorem dX4_init_65 : decode cX4_init 65 = .ok (.aload_n 0, 1) := by decide +kernel
theorem dX4_init_66 : decode cX4_init 66 = .ok (.iconst 0, 1) := by decide +kernel
theorem dX4_init_67 : decode cX4_init 67 = .ok (.putfield 40, 3) := by decide +kernel
theorem dX4_init_70 : decode cX4_init 70 = .ok (.aload_n 0, 1) := by decide +kernel
theorem dX4_init_71 : decode cX4_init 71 = .ok (.invokevirtual 43, 3) := by decide +kernel
theorem dX4_init_74 : decode cX4_init 74 = .ok (.return_, 1) := by decide +kernel
theorem dX4_clearMarks_0 : decode cX4_clearMarks 0 = .ok (.iconst 0, 1) := by decide +kernel
theorem dX4_clearMarks_1 : decode cX4_clearMarks 1 = .ok (.istore_n 1, 1) := by decide +kernel
theorem dX4_clearMarks_2 : decode cX4_clearMarks 2 = .ok (.iload_n 1, 1) := by decide +kernel
theorem dX4_clearMarks_3 : decode cX4_clearMarks 3 = .ok (.iconst 3, 1) := by decide +kernel
theorem dX4_clearMarks_4 : decode cX4_clearMarks 4 = .ok (.if_icmp .ge 19, 3) := by decide +kernel
theorem dX4_clearMarks_7 : decode cX4_clearMarks 7 = .ok (.aload_n 0, 1) := by decide +kernel
theorem dX4_clearMarks_8 : decode cX4_clearMarks 8 = .ok (.getfield 30, 3) := by decide +kernel
theorem dX4_clearMarks_11 : decode cX4_clearMarks 11 = .ok (.iload_n 1, 1) := by decide +kernel
theorem dX4_clearMarks_12 : decode cX4_clearMarks 12 = .ok (.aaload, 1) := by decide +kernel
theorem dX4_clearMarks_13 : decode cX4_clearMarks 13 = .ok (.iconst (-1), 1) := by decide +kernel
theorem dX4_clearMarks_14 : decode cX4_clearMarks 14 = .ok (.invokestatic 46, 3) := by decide +kernel
theorem dX4_clearMarks_17 : decode cX4_clearMarks 17 = .ok (.iinc 1 1, 3) := by decide +kernel
theorem dX4_clearMarks_20 : decode cX4_clearMarks 20 = .ok (.goto (-18), 3) := by decide +kernel
theorem dX4_clearMarks_23 : decode cX4_clearMarks 23 = .ok (.return_, 1) := by decide +kernel
theorem dX4_markCount_0 : decode cX4_markCount 0 = .ok (.iconst 0, 1) := by decide +kernel
theorem dX4_markCount_1 : decode cX4_markCount 1 = .ok (.istore_n 1, 1) := by decide +kernel
theorem dX4_markCount_2 : decode cX4_markCount 2 = .ok (.iconst 0, 1) := by decide +kernel
theorem dX4_markCount_3 : decode cX4_markCount 3 = .ok (.istore_n 2, 1) := by decide +kernel
theorem dX4_markCount_4 : decode cX4_markCount 4 = .ok (.iload_n 2, 1) := by decide +kernel
theorem dX4_markCount_5 : decode cX4_markCount 5 = .ok (.iconst 3, 1) := by decide +kernel
theorem dX4_markCount_6 : decode cX4_markCount 6 = .ok (.if_icmp .ge 45, 3) := by decide +kernel
theorem dX4_markCount_9 : decode cX4_markCount 9 = .ok (.iconst 0, 1) := by decide +kernel
theorem dX4_markCount_10 : decode cX4_markCount 10 = .ok (.istore_n 3, 1) := by decide +kernel
theorem dX4_markCount_11 : decode cX4_markCount 11 = .ok (.iload_n 3, 1) := by decide +kernel
theorem dX4_markCount_12 : decode cX4_markCount 12 = .ok (.aload_n 0, 1) := by decide +kernel
theorem dX4_markCount_13 : decode cX4_markCount 13 = .ok (.getfield 37, 3) := by decide +kernel
theorem dX4_markCount_16 : decode cX4_markCount 16 = .ok (.if_icmp .ge 29, 3) := by decide +kernel
theorem dX4_markCount_19 : decode cX4_markCount 19 = .ok (.iload_n 1, 1) := by decide +kernel
theorem dX4_markCount_20 : decode cX4_markCount 20 = .ok (.aload_n 0, 1) := by decide +kernel
theorem dX4_markCount_21 : decode cX4_markCount 21 = .ok (.getfield 30, 3) := by decide +kernel
theorem dX4_markCount_24 : decode cX4_markCount 24 = .ok (.iload_n 2, 1) := by decide +kernel
theorem dX4_markCount_25 : decode cX4_markCount 25 = .ok (.aaload, 1) := by decide +kernel
theorem dX4_markCount_26 : decode cX4_markCount 26 = .ok (.iload_n 3, 1) := by decide +kernel
theorem dX4_markCount_27 : decode cX4_markCount 27 = .ok (.iaload, 1) := by decide +kernel
theorem dX4_markCount_28 : decode cX4_markCount 28 = .ok (.iconst (-1), 1) := by decide +kernel
theorem dX4_markCount_29 : decode cX4_markCount 29 = .ok (.if_icmp .ne 7, 3) := by decide +kernel
theorem dX4_markCount_32 : decode cX4_markCount 32 = .ok (.iconst 0, 1) := by decide +kernel
theorem dX4_markCount_33 : decode cX4_markCount 33 = .ok (.goto 4, 3) := by decide +kernel
theorem dX4_markCount_36 : decode cX4_markCount 36 = .ok (.iconst 1, 1) := by decide +kernel
theorem dX4_markCount_37 : decode cX4_markCount 37 = .ok (.iadd, 1) := by decide +kernel
theorem dX4_markCount_38 : decode cX4_markCount 38 = .ok (.istore_n 1, 1) := by decide +kernel
theorem dX4_markCount_39 : decode cX4_markCount 39 = .ok (.iinc 3 1, 3) := by decide +kernel
theorem dX4_markCount_42 : decode cX4_markCount 42 = .ok (.goto (-31), 3) := by decide +kernel
theorem dX4_markCount_45 : decode cX4_markCount 45 = .ok (.iinc 2 1, 3) := by decide +kernel
theorem dX4_markCount_48 : decode cX4_markCount 48 = .ok (.goto (-44), 3) := by decide +kernel
theorem dX4_markCount_51 : decode cX4_markCount 51 = .ok (.iload_n 1, 1) := by decide +kernel
theorem dX4_markCount_52 : decode cX4_markCount 52 = .ok (.ireturn, 1) := by decide +kernel
theorem dX4_putWord_0 : decode cX4_putWord 0 = .ok (.aload_n 0, 1) := by decide +kernel
theorem dX4_putWord_1 : decode cX4_putWord 1 = .ok (.dup, 1) := by decide +kernel
theorem dX4_putWord_2 : decode cX4_putWord 2 = .ok (.getfield 37, 3) := by decide +kernel
theorem dX4_putWord_5 : decode cX4_putWord 5 = .ok (.iload_n 2, 1) := by decide +kernel
theorem dX4_putWord_6 : decode cX4_putWord 6 = .ok (.aload_n 0, 1) := by decide +kernel
theorem dX4_putWord_7 : decode cX4_putWord 7 = .ok (.getfield 9, 3) := by decide +kernel
theorem dX4_putWord_10 : decode cX4_putWord 10 = .ok (.iload_n 1, 1) := by decide +kernel
theorem dX4_putWord_11 : decode cX4_putWord 11 = .ok (.iaload, 1) := by decide +kernel
theorem dX4_putWord_12 : decode cX4_putWord 12 = .ok (.isub, 1) := by decide +kernel
theorem dX4_putWord_13 : decode cX4_putWord 13 = .ok (.iadd, 1) := by decide +kernel
theorem dX4_putWord_14 : decode cX4_putWord 14 = .ok (.putfield 37, 3) := by decide +kernel
theorem dX4_putWord_17 : decode cX4_putWord 17 = .ok (.aload_n 0, 1) := by decide +kernel
theorem dX4_putWord_18 : decode cX4_putWord 18 = .ok (.getfield 9, 3) := by decide +kernel
theorem dX4_putWord_21 : decode cX4_putWord 21 = .ok (.iload_n 1, 1) := by decide +kernel
theorem dX4_putWord_22 : decode cX4_putWord 22 = .ok (.iload_n 2, 1) := by decide +kernel
theorem dX4_putWord_23 : decode cX4_putWord 23 = .ok (.iastore, 1) := by decide +kernel
theorem dX4_putWord_24 : decode cX4_putWord 24 = .ok (.aload_n 0, 1) := by decide +kernel
theorem dX4_putWord_25 : decode cX4_putWord 25 = .ok (.getfield 15, 3) := by decide +kernel
theorem dX4_putWord_28 : decode cX4_putWord 28 = .ok (.iload_n 1, 1) := by decide +kernel
theorem dX4_putWord_29 : decode cX4_putWord 29 = .ok (.iload_n 3, 1) := by decide +kernel
theorem dX4_putWord_30 : decode cX4_putWord 30 = .ok (.iastore, 1) := by decide +kernel
theorem dX4_putWord_31 : decode cX4_putWord 31 = .ok (.aload_n 0, 1) := by decide +kernel
theorem dX4_putWord_32 : decode cX4_putWord 32 = .ok (.getfield 18, 3) := by decide +kernel
theorem dX4_putWord_35 : decode cX4_putWord 35 = .ok (.iload_n 1, 1) := by decide +kernel
theorem dX4_putWord_36 : decode cX4_putWord 36 = .ok (.iload 4, 2) := by decide +kernel
theorem dX4_putWord_38 : decode cX4_putWord 38 = .ok (.iastore, 1) := by decide +kernel
theorem dX4_putWord_39 : decode cX4_putWord 39 = .ok (.aload_n 0, 1) := by decide +kernel
theorem dX4_putWord_40 : decode cX4_putWord 40 = .ok (.getfield 21, 3) := by decide +kernel
theorem dX4_putWord_43 : decode cX4_putWord 43 = .ok (.iload_n 1, 1) := by decide +kernel
theorem dX4_putWord_44 : decode cX4_putWord 44 = .ok (.iload 5, 2) := by decide +kernel
theorem dX4_putWord_46 : decode cX4_putWord 46 = .ok (.bastore, 1) := by decide +kernel
theorem dX4_putWord_47 : decode cX4_putWord 47 = .ok (.aload_n 0, 1) := by decide +kernel
theorem dX4_putWord_48 : decode cX4_putWord 48 = .ok (.getfield 25, 3) := by decide +kernel
theorem dX4_putWord_51 : decode cX4_putWord 51 = .ok (.iload_n 1, 1) := by decide +kernel
theorem dX4_putWord_52 : decode cX4_putWord 52 = .ok (.iload 6, 2) := by decide +kernel
theorem dX4_putWord_54 : decode cX4_putWord 54 = .ok (.bastore, 1) := by decide +kernel
theorem dX4_putWord_55 : decode cX4_putWord 55 = .ok (.return_, 1) := by decide +kernel
theorem dX4_becomeLike_0 : decode cX4_becomeLike 0 = .ok (.iconst 0, 1) := by decide +kernel
theorem dX4_becomeLike_1 : decode cX4_becomeLike 1 = .ok (.istore_n 2, 1) := by decide +kernel
theorem dX4_becomeLike_2 : decode cX4_becomeLike 2 = .ok (.iload_n 2, 1) := by decide +kernel
theorem dX4_becomeLike_3 : decode cX4_becomeLike 3 = .ok (.aload_n 1, 1) := by decide +kernel
theorem dX4_becomeLike_4 : decode cX4_becomeLike 4 = .ok (.getfield 33, 3) := by decide +kernel
theorem dX4_becomeLike_7 : decode cX4_becomeLike 7 = .ok (.if_icmp .ge 44, 3) := by decide +kernel
theorem dX4_becomeLike_10 : decode cX4_becomeLike 10 = .ok (.aload_n 0, 1) := by decide +kernel
theorem dX4_becomeLike_11 : decode cX4_becomeLike 11 = .ok (.iload_n 2, 1) := by decide +kernel
theorem dX4_becomeLike_12 : decode cX4_becomeLike 12 = .ok (.aload_n 1, 1) := by decide +kernel
theorem dX4_becomeLike_13 : decode cX4_becomeLike 13 = .ok (.getfield 9, 3) := by decide +kernel
theorem dX4_becomeLike_16 : decode cX4_becomeLike 16 = .ok (.iload_n 2, 1) := by decide +kernel
theorem dX4_becomeLike_17 : decode cX4_becomeLike 17 = .ok (.iaload, 1) := by decide +kernel
theorem dX4_becomeLike_18 : decode cX4_becomeLike 18 = .ok (.aload_n 1, 1) := by decide +kernel
theorem dX4_becomeLike_19 : decode cX4_becomeLike 19 = .ok (.getfield 15, 3) := by decide +kernel
theorem dX4_becomeLike_22 : decode cX4_becomeLike 22 = .ok (.iload_n 2, 1) := by decide +kernel
theorem dX4_becomeLike_23 : decode cX4_becomeLike 23 = .ok (.iaload, 1) := by decide +kernel
theorem dX4_becomeLike_24 : decode cX4_becomeLike 24 = .ok (.aload_n 1, 1) := by decide +kernel
theorem dX4_becomeLike_25 : decode cX4_becomeLike 25 = .ok (.getfield 18, 3) := by decide +kernel
theorem dX4_becomeLike_28 : decode cX4_becomeLike 28 = .ok (.iload_n 2, 1) := by decide +kernel
theorem dX4_becomeLike_29 : decode cX4_becomeLike 29 = .ok (.iaload, 1) := by decide +kernel
theorem dX4_becomeLike_30 : decode cX4_becomeLike 30 = .ok (.aload_n 1, 1) := by decide +kernel
theorem dX4_becomeLike_31 : decode cX4_becomeLike 31 = .ok (.getfield 21, 3) := by decide +kernel
theorem dX4_becomeLike_34 : decode cX4_becomeLike 34 = .ok (.iload_n 2, 1) := by decide +kernel
theorem dX4_becomeLike_35 : decode cX4_becomeLike 35 = .ok (.baload, 1) := by decide +kernel
theorem dX4_becomeLike_36 : decode cX4_becomeLike 36 = .ok (.aload_n 1, 1) := by decide +kernel
theorem dX4_becomeLike_37 : decode cX4_becomeLike 37 = .ok (.getfield 25, 3) := by decide +kernel
theorem dX4_becomeLike_40 : decode cX4_becomeLike 40 = .ok (.iload_n 2, 1) := by decide +kernel
theorem dX4_becomeLike_41 : decode cX4_becomeLike 41 = .ok (.baload, 1) := by decide +kernel
theorem dX4_becomeLike_42 : decode cX4_becomeLike 42 = .ok (.invokevirtual 52, 3) := by decide +kernel
theorem dX4_becomeLike_45 : decode cX4_becomeLike 45 = .ok (.iinc 2 1, 3) := by decide +kernel
theorem dX4_becomeLike_48 : decode cX4_becomeLike 48 = .ok (.goto (-46), 3) := by decide +kernel
theorem dX4_becomeLike_51 : decode cX4_becomeLike 51 = .ok (.aload_n 0, 1) := by decide +kernel
theorem dX4_becomeLike_52 : decode cX4_becomeLike 52 = .ok (.aload_n 1, 1) := by decide +kernel
theorem dX4_becomeLike_53 : decode cX4_becomeLike 53 = .ok (.getfield 33, 3) := by decide +kernel
theorem dX4_becomeLike_56 : decode cX4_becomeLike 56 = .ok (.putfield 33, 3) := by decide +kernel
theorem dX4_becomeLike_59 : decode cX4_becomeLike 59 = .ok (.aload_n 0, 1) := by decide +kernel
theorem dX4_becomeLike_60 : decode cX4_becomeLike 60 = .ok (.aload_n 1, 1) := by decide +kernel
theorem dX4_becomeLike_61 : decode cX4_becomeLike 61 = .ok (.getfield 40, 3) := by decide +kernel
theorem dX4_becomeLike_64 : decode cX4_becomeLike 64 = .ok (.putfield 40, 3) := by decide +kernel
theorem dX4_becomeLike_67 : decode cX4_becomeLike 67 = .ok (.iconst 0, 1) := by decide +kernel
theorem dX4_becomeLike_68 : decode cX4_becomeLike 68 = .ok (.istore_n 2, 1) := by decide +kernel
theorem dX4_becomeLike_69 : decode cX4_becomeLike 69 = .ok (.iload_n 2, 1) := by decide +kernel
theorem dX4_becomeLike_70 : decode cX4_becomeLike 70 = .ok (.iconst 3, 1) := by decide +kernel
theorem dX4_becomeLike_71 : decode cX4_becomeLike 71 = .ok (.if_icmp .ge 28, 3) := by decide +kernel
theorem dX4_becomeLike_74 : decode cX4_becomeLike 74 = .ok (.aload_n 1, 1) := by decide +kernel
theorem dX4_becomeLike_75 : decode cX4_becomeLike 75 = .ok (.getfield 30, 3) := by decide +kernel
theorem dX4_becomeLike_78 : decode cX4_becomeLike 78 = .ok (.iload_n 2, 1) := by decide +kernel
theorem dX4_becomeLike_79 : decode cX4_becomeLike 79 = .ok (.aaload, 1) := by decide +kernel
theorem dX4_becomeLike_80 : decode cX4_becomeLike 80 = .ok (.iconst 0, 1) := by decide +kernel
theorem dX4_becomeLike_81 : decode cX4_becomeLike 81 = .ok (.aload_n 0, 1) := by decide +kernel
theorem dX4_becomeLike_82 : decode cX4_becomeLike 82 = .ok (.getfield 30, 3) := by decide +kernel
theorem dX4_becomeLike_85 : decode cX4_becomeLike 85 = .ok (.iload_n 2, 1) := by decide +kernel
theorem dX4_becomeLike_86 : decode cX4_becomeLike 86 = .ok (.aaload, 1) := by decide +kernel
theorem dX4_becomeLike_87 : decode cX4_becomeLike 87 = .ok (.iconst 0, 1) := by decide +kernel
theorem dX4_becomeLike_88 : decode cX4_becomeLike 88 = .ok (.bipush 80, 2) := by decide +kernel
theorem dX4_becomeLike_90 : decode cX4_becomeLike 90 = .ok (.invokestatic 56, 3) := by decide +kernel
theorem dX4_becomeLike_93 : decode cX4_becomeLike 93 = .ok (.iinc 2 1, 3) := by decide +kernel
theorem dX4_becomeLike_96 : decode cX4_becomeLike 96 = .ok (.goto (-27), 3) := by decide +kernel
theorem dX4_becomeLike_99 : decode cX4_becomeLike 99 = .ok (.return_, 1) := by decide +kernel
theorem dX5_init_0 : decode cX5_init 0 = .ok (.aload_n 0, 1) := by decide +kernel
theorem dX5_init_1 : decode cX5_init 1 = .ok (.invokespecial 3, 3) := by decide +kernel
theorem dX5_init_4 : decode cX5_init 4 = .ok (.aload_n 0, 1) := by decide +kernel
theorem dX5_init_5 : decode cX5_init 5 = .ok (.bipush 24, 2) := by decide +kernel
theorem dX5_init_7 : decode cX5_init 7 = .ok (.newarray .boolean, 2) := by decide +kernel
theorem dX5_init_9 : decode cX5_init 9 = .ok (.putfield 9, 3) := by decide +kernel
theorem dX5_init_12 : decode cX5_init 12 = .ok (.aload_n 0, 1) := by decide +kernel
theorem dX5_init_13 : decode cX5_init 13 = .ok (.bipush 24, 2) := by decide +kernel
theorem dX5_init_15 : decode cX5_init 15 = .ok (.newarray .int, 2) := by decide +kernel
theorem dX5_init_17 : decode cX5_init 17 = .ok (.putfield 15, 3) := by decide +kernel
theorem dX5_init_20 : decode cX5_init 20 = .ok (.aload_n 0, 1) := by decide +kernel
theorem dX5_init_21 : decode cX5_init 21 = .ok (.bipush 24, 2) := by decide +kernel
theorem dX5_init_23 : decode cX5_init 23 = .ok (.newarray .int, 2) := by decide +kernel
theorem dX5_init_25 : decode cX5_init 25 = .ok (.putfield 19, 3) := by decide +kernel
theorem dX5_init_28 : decode cX5_init 28 = .ok (.aload_n 0, 1) := by decide +kernel
theorem dX5_init_29 : decode cX5_init 29 = .ok (.bipush 24, 2) := by decide +kernel
theorem dX5_init_31 : decode cX5_init 31 = .ok (.newarray .int, 2) := by decide +kernel
theorem dX5_init_33 : decode cX5_init 33 = .ok (.putfield 22, 3) := by decide +kernel
theorem dX5_init_36 : decode cX5_init 36 = .ok (.aload_n 0, 1) := by decide +kernel
theorem dX5_init_37 : decode cX5_init 37 = .ok (.bipush 24, 2) := by decide +kernel
theorem dX5_init_39 : decode cX5_init 39 = .ok (.newarray .int, 2) := by decide +kernel
theorem dX5_init_41 : decode cX5_init 41 = .ok (.putfield 25, 3) := by decide +kernel
theorem dX5_init_44 : decode cX5_init 44 = .ok (.aload_n 0, 1) := by decide +kernel
theorem dX5_init_45 : decode cX5_init 45 = .ok (.iconst 0, 1) := by decide +kernel
theorem dX5_init_46 : decode cX5_init 46 = .ok (.putfield 28, 3) := by decide +kernel
theorem dX5_init_49 : decode cX5_init 49 = .ok (.aload_n 0, 1) := by decide +kernel
theorem dX5_init_50 : decode cX5_init 50 = .ok (.iconst 0, 1) := by decide +kernel
theorem dX5_init_51 : decode cX5_init 51 = .ok (.putfield 32, 3) := by decide +kernel
theorem dX5_init_54 : decode cX5_init 54 = .ok (.aload_n 0, 1) := by decide +kernel
theorem dX5_init_55 : decode cX5_init 55 = .ok (.iconst 0, 1) := by decide +kernel
theorem dX5_init_56 : decode cX5_init 56 = .ok (.iload_n 1, 1) := by decide +kernel
theorem dX5_init_57 : decode cX5_init 57 = .ok (.invokestatic 35, 3) := by decide +kernel
theorem dX5_init_60 : decode cX5_init 60 = .ok (.newarray .int, 2) := by decide +kernel
theorem dX5_init_62 : decode cX5_init 62 = .ok (.putfield 41, 3) := by decide +kernel
theorem dX5_init_65 : decode cX5_init 65 = .ok (.return_, 1) := by decide +kernel
theorem dX5_addNumber_0 : decode cX5_addNumber 0 = .ok (.aload_n 0, 1) := by decide +kernel
theorem dX5_addNumber_1 : decode cX5_addNumber 1 = .ok (.getfield 32, 3) := by decide +kernel
theorem dX5_addNumber_4 : decode cX5_addNumber 4 = .ok (.aload_n 0, 1) := by decide +kernel
theorem dX5_addNumber_5 : decode cX5_addNumber 5 = .ok (.getfield 41, 3) := by decide +kernel
theorem dX5_addNumber_8 : decode cX5_addNumber 8 = .ok (.arraylength, 1) := by decide +kernel
theorem dX5_addNumber_9 : decode cX5_addNumber 9 = .ok (.if_icmp .ge 23, 3) := by decide +kernel
theorem dX5_addNumber_12 : decode cX5_addNumber 12 = .ok (.aload_n 0, 1) := by decide +kernel
theorem dX5_addNumber_13 : decode cX5_addNumber 13 = .ok (.getfield 41, 3) := by decide +kernel
theorem dX5_addNumber_16 : decode cX5_addNumber 16 = .ok (.aload_n 0, 1) := by decide +kernel
theorem dX5_addNumber_17 : decode cX5_addNumber 17 = .ok (.getfield 32, 3) := by decide +kernel
theorem dX5_addNumber_20 : decode cX5_addNumber 20 = .ok (.iload_n 1, 1) := by decide +kernel
theorem dX5_addNumber_21 : decode cX5_addNumber 21 = .ok (.iastore, 1) := by decide +kernel
theorem dX5_addNumber_22 : decode cX5_addNumber 22 = .ok (.aload_n 0, 1) := by decide +kernel
theorem dX5_addNumber_23 : decode cX5_addNumber 23 = .ok (.dup, 1) := by decide +kernel
theorem dX5_addNumber_24 : decode cX5_addNumber 24 = .ok (.getfield 32, 3) := by decide +kernel
theorem dX5_addNumber_27 : decode cX5_addNumber 27 = .ok (.iconst 1, 1) := by decide +kernel
theorem dX5_addNumber_28 : decode cX5_addNumber 28 = .ok (.iadd, 1) := by decide +kernel
theorem dX5_addNumber_29 : decode cX5_addNumber 29 = .ok (.putfield 32, 3) := by decide +kernel
theorem dX5_addNumber_32 : decode cX5_addNumber 32 = .ok (.return_, 1) := by decide +kernel
theorem dX5_addSign_0 : decode cX5_addSign 0 = .ok (.aload_n 0, 1) := by decide +kernel
theorem dX5_addSign_1 : decode cX5_addSign 1 = .ok (.getfield 32, 3) := by decide +kernel
theorem dX5_addSign_4 : decode cX5_addSign 4 = .ok (.aload_n 0, 1) := by decide +kernel
theorem dX5_addSign_5 : decode cX5_addSign 5 = .ok (.getfield 41, 3) := by decide +kernel
theorem dX5_addSign_8 : decode cX5_addSign 8 = .ok (.arraylength, 1) := by decide +kernel
theorem dX5_addSign_9 : decode cX5_addSign 9 = .ok (.if_icmp .ge 25, 3) := by decide +kernel
theorem dX5_addSign_12 : decode cX5_addSign 12 = .ok (.aload_n 0, 1) := by decide +kernel
theorem dX5_addSign_13 : decode cX5_addSign 13 = .ok (.getfield 41, 3) := by decide +kernel
theorem dX5_addSign_16 : decode cX5_addSign 16 = .ok (.aload_n 0, 1) := by decide +kernel
theorem dX5_addSign_17 : decode cX5_addSign 17 = .ok (.getfield 32, 3) := by decide +kernel
theorem dX5_addSign_20 : decode cX5_addSign 20 = .ok (.iconst (-1), 1) := by decide +kernel
theorem dX5_addSign_21 : decode cX5_addSign 21 = .ok (.iload_n 1, 1) := by decide +kernel
theorem dX5_addSign_22 : decode cX5_addSign 22 = .ok (.isub, 1) := by decide +kernel
theorem dX5_addSign_23 : decode cX5_addSign 23 = .ok (.iastore, 1) := by decide +kernel
theorem dX5_addSign_24 : decode cX5_addSign 24 = .ok (.aload_n 0, 1) := by decide +kernel
theorem dX5_addSign_25 : decode cX5_addSign 25 = .ok (.dup, 1) := by decide +kernel
theorem dX5_addSign_26 : decode cX5_addSign 26 = .ok (.getfield 32, 3) := by decide +kernel
theorem dX5_addSign_29 : decode cX5_addSign 29 = .ok (.iconst 1, 1) := by decide +kernel
theorem dX5_addSign_30 : decode cX5_addSign 30 = .ok (.iadd, 1) := by decide +kernel
theorem dX5_addSign_31 : decode cX5_addSign 31 = .ok (.putfield 32, 3) := by decide +kernel
theorem dX5_addSign_34 : decode cX5_addSign 34 = .ok (.return_, 1) := by decide +kernel
theorem dX6_init_0 : decode cX6_init 0 = .ok (.aload_n 0, 1) := by decide +kernel
theorem dX6_init_1 : decode cX6_init 1 = .ok (.invokespecial 3, 3) := by decide +kernel
theorem dX6_init_4 : decode cX6_init 4 = .ok (.aload_n 0, 1) := by decide +kernel
theorem dX6_init_5 : decode cX6_init 5 = .ok (.new 9, 3) := by decide +kernel
theorem dX6_init_8 : decode cX6_init 8 = .ok (.dup, 1) := by decide +kernel
theorem dX6_init_9 : decode cX6_init 9 = .ok (.invokespecial 11, 3) := by decide +kernel
theorem dX6_init_12 : decode cX6_init 12 = .ok (.putfield 12, 3) := by decide +kernel
theorem dX6_init_15 : decode cX6_init 15 = .ok (.aload_n 0, 1) := by decide +kernel
theorem dX6_init_16 : decode cX6_init 16 = .ok (.bipush 14, 2) := by decide +kernel
theorem dX6_init_18 : decode cX6_init 18 = .ok (.bipush 80, 2) := by decide +kernel
theorem dX6_init_20 : decode cX6_init 20 = .ok (.multianewarray 18 2, 4) := by decide +kernel
theorem dX6_init_24 : decode cX6_init 24 = .ok (.putfield 20, 3) := by decide +kernel
theorem dX6_init_27 : decode cX6_init 27 = .ok (.aload_n 0, 1) := by decide +kernel
theorem dX6_init_28 : decode cX6_init 28 = .ok (.iconst (-1), 1) := by decide +kernel
theorem dX6_init_29 : decode cX6_init 29 = .ok (.putfield 23, 3) := by decide +kernel
theorem dX6_init_32 : decode cX6_init 32 = .ok (.aload_n 0, 1) := by decide +kernel
theorem dX6_init_33 : decode cX6_init 33 = .ok (.iconst 0, 1) := by decide +kernel
theorem dX6_init_34 : decode cX6_init 34 = .ok (.putfield 27, 3) := by decide +kernel
theorem dX6_init_37 : decode cX6_init 37 = .ok (.aload_n 0, 1) := by decide +kernel
theorem dX6_init_38 : decode cX6_init 38 = .ok (.iconst 1, 1) := by decide +kernel
theorem dX6_init_39 : decode cX6_init 39 = .ok (.putfield 30, 3) := by decide +kernel
theorem dX6_init_42 : decode cX6_init 42 = .ok (.return_, 1) := by decide +kernel
theorem dX6_layOut_0 : decode cX6_layOut 0 = .ok (.aload_n 0, 1) := by decide +kernel
theorem dX6_layOut_1 : decode cX6_layOut 1 = .ok (.getfield 12, 3) := by decide +kernel
theorem dX6_layOut_4 : decode cX6_layOut 4 = .ok (.aload_n 1, 1) := by decide +kernel
theorem dX6_layOut_5 : decode cX6_layOut 5 = .ok (.iload_n 2, 1) := by decide +kernel
theorem dX6_layOut_6 : decode cX6_layOut 6 = .ok (.invokevirtual 34, 3) := by decide +kernel
theorem dX6_layOut_9 : decode cX6_layOut 9 = .ok (.aload_n 0, 1) := by decide +kernel
theorem dX6_layOut_10 : decode cX6_layOut 10 = .ok (.iconst 0, 1) := by decide +kernel
theorem dX6_layOut_11 : decode cX6_layOut 11 = .ok (.putfield 27, 3) := by decide +kernel
theorem dX6_layOut_14 : decode cX6_layOut 14 = .ok (.iconst 0, 1) := by decide +kernel
theorem dX6_layOut_15 : decode cX6_layOut 15 = .ok (.istore_n 3, 1) := by decide +kernel
theorem dX6_layOut_16 : decode cX6_layOut 16 = .ok (.iload_n 3, 1) := by decide +kernel
theorem dX6_layOut_17 : decode cX6_layOut 17 = .ok (.aload_n 0, 1) := by decide +kernel
theorem dX6_layOut_18 : decode cX6_layOut 18 = .ok (.getfield 12, 3) := by decide +kernel
theorem dX6_layOut_21 : decode cX6_layOut 21 = .ok (.getfield 38, 3) := by decide +kernel
theorem dX6_layOut_24 : decode cX6_layOut 24 = .ok (.if_icmp .ge 70, 3) := by decide +kernel
theorem dX6_layOut_27 : decode cX6_layOut 27 = .ok (.aload_n 0, 1) := by decide +kernel
theorem dX6_layOut_28 : decode cX6_layOut 28 = .ok (.getfield 12, 3) := by decide +kernel
theorem dX6_layOut_31 : decode cX6_layOut 31 = .ok (.getfield 41, 3) := by decide +kernel
theorem dX6_layOut_34 : decode cX6_layOut 34 = .ok (.iload_n 3, 1) := by decide +kernel
theorem dX6_layOut_35 : decode cX6_layOut 35 = .ok (.iaload, 1) := by decide +kernel
theorem dX6_layOut_36 : decode cX6_layOut 36 = .ok (.aload_n 0, 1) := by decide +kernel
theorem dX6_layOut_37 : decode cX6_layOut 37 = .ok (.getfield 12, 3) := by decide +kernel
theorem dX6_layOut_40 : decode cX6_layOut 40 = .ok (.getfield 45, 3) := by decide +kernel
theorem dX6_layOut_43 : decode cX6_layOut 43 = .ok (.iload_n 3, 1) := by decide +kernel
theorem dX6_layOut_44 : decode cX6_layOut 44 = .ok (.iaload, 1) := by decide +kernel
theorem dX6_layOut_45 : decode cX6_layOut 45 = .ok (.iadd, 1) := by decide +kernel
theorem dX6_layOut_46 : decode cX6_layOut 46 = .ok (.istore 4, 2) := by decide +kernel
theorem dX6_layOut_48 : decode cX6_layOut 48 = .ok (.aload_n 0, 1) := by decide +kernel
theorem dX6_layOut_49 : decode cX6_layOut 49 = .ok (.getfield 27, 3) := by decide +kernel
theorem dX6_layOut_52 : decode cX6_layOut 52 = .ok (.istore 5, 2) := by decide +kernel
theorem dX6_layOut_54 : decode cX6_layOut 54 = .ok (.aload_n 0, 1) := by decide +kernel
theorem dX6_layOut_55 : decode cX6_layOut 55 = .ok (.getfield 12, 3) := by decide +kernel
theorem dX6_layOut_58 : decode cX6_layOut 58 = .ok (.getfield 41, 3) := by decide +kernel
theorem dX6_layOut_61 : decode cX6_layOut 61 = .ok (.iload_n 3, 1) := by decide +kernel
theorem dX6_layOut_62 : decode cX6_layOut 62 = .ok (.iaload, 1) := by decide +kernel
theorem dX6_layOut_63 : decode cX6_layOut 63 = .ok (.istore 6, 2) := by decide +kernel
theorem dX6_layOut_65 : decode cX6_layOut 65 = .ok (.iload 6, 2) := by decide +kernel
theorem dX6_layOut_67 : decode cX6_layOut 67 = .ok (.iload 4, 2) := by decide +kernel
theorem dX6_layOut_69 : decode cX6_layOut 69 = .ok (.if_icmp .ge 19, 3) := by decide +kernel
theorem dX6_layOut_72 : decode cX6_layOut 72 = .ok (.aload_n 0, 1) := by decide +kernel
theorem dX6_layOut_73 : decode cX6_layOut 73 = .ok (.aload_n 1, 1) := by decide +kernel
theorem dX6_layOut_74 : decode cX6_layOut 74 = .ok (.iload 6, 2) := by decide +kernel
theorem dX6_layOut_76 : decode cX6_layOut 76 = .ok (.iload_n 3, 1) := by decide +kernel
theorem dX6_layOut_77 : decode cX6_layOut 77 = .ok (.iload 5, 2) := by decide +kernel
theorem dX6_layOut_79 : decode cX6_layOut 79 = .ok (.invokevirtual 48, 3) := by decide +kernel
theorem dX6_layOut_82 : decode cX6_layOut 82 = .ok (.iinc 6 1, 3) := by decide +kernel
theorem dX6_layOut_85 : decode cX6_layOut 85 = .ok (.goto (-20), 3) := by decide +kernel
theorem dX6_layOut_88 : decode cX6_layOut 88 = .ok (.iinc 3 1, 3) := by decide +kernel
theorem dX6_layOut_91 : decode cX6_layOut 91 = .ok (.goto (-75), 3) := by decide +kernel
theorem dX6_layOut_94 : decode cX6_layOut 94 = .ok (.iconst 0, 1) := by decide +kernel
theorem dX6_layOut_95 : decode cX6_layOut 95 = .ok (.istore_n 3, 1) := by decide +kernel
theorem dX6_layOut_96 : decode cX6_layOut 96 = .ok (.iload_n 3, 1) := by decide +kernel
theorem dX6_layOut_97 : decode cX6_layOut 97 = .ok (.iconst 3, 1) := by decide +kernel
theorem dX6_layOut_98 : decode cX6_layOut 98 = .ok (.if_icmp .ge 23, 3) := by decide +kernel
theorem dX6_layOut_101 : decode cX6_layOut 101 = .ok (.aload_n 0, 1) := by decide +kernel
theorem dX6_layOut_102 : decode cX6_layOut 102 = .ok (.getfield 20, 3) := by decide +kernel
theorem dX6_layOut_105 : decode cX6_layOut 105 = .ok (.iload_n 3, 1) := by decide +kernel
theorem dX6_layOut_106 : decode cX6_layOut 106 = .ok (.aaload, 1) := by decide +kernel
theorem dX6_layOut_107 : decode cX6_layOut 107 = .ok (.getstatic 52, 3) := by decide +kernel
theorem dX6_layOut_110 : decode cX6_layOut 110 = .ok (.iload_n 3, 1) := by decide +kernel
theorem dX6_layOut_111 : decode cX6_layOut 111 = .ok (.iaload, 1) := by decide +kernel
theorem dX6_layOut_112 : decode cX6_layOut 112 = .ok (.invokestatic 55, 3) := by decide +kernel
theorem dX6_layOut_115 : decode cX6_layOut 115 = .ok (.iinc 3 1, 3) := by decide +kernel
theorem dX6_layOut_118 : decode cX6_layOut 118 = .ok (.goto (-22), 3) := by decide +kernel
theorem dX6_layOut_121 : decode cX6_layOut 121 = .ok (.aload_n 0, 1) := by decide +kernel
theorem dX6_layOut_122 : decode cX6_layOut 122 = .ok (.getfield 20, 3) := by decide +kernel
theorem dX6_layOut_125 : decode cX6_layOut 125 = .ok (.bipush 12, 2) := by decide +kernel
theorem dX6_layOut_127 : decode cX6_layOut 127 = .ok (.aaload, 1) := by decide +kernel
theorem dX6_layOut_128 : decode cX6_layOut 128 = .ok (.aload_n 1, 1) := by decide +kernel
theorem dX6_layOut_129 : decode cX6_layOut 129 = .ok (.getfield 61, 3) := by decide +kernel
theorem dX6_layOut_132 : decode cX6_layOut 132 = .ok (.invokestatic 55, 3) := by decide +kernel
theorem dX6_layOut_135 : decode cX6_layOut 135 = .ok (.return_, 1) := by decide +kernel
theorem dX6_layWord_0 : decode cX6_layWord 0 = .ok (.iconst 0, 1) := by decide +kernel
theorem dX6_layWord_1 : decode cX6_layWord 1 = .ok (.istore 5, 2) := by decide +kernel
theorem dX6_layWord_3 : decode cX6_layWord 3 = .ok (.iload 5, 2) := by decide +kernel
theorem dX6_layWord_5 : decode cX6_layWord 5 = .ok (.aload_n 1, 1) := by decide +kernel
theorem dX6_layWord_6 : decode cX6_layWord 6 = .ok (.getfield 66, 3) := by decide +kernel
theorem dX6_layWord_9 : decode cX6_layWord 9 = .ok (.iload_n 2, 1) := by decide +kernel
theorem dX6_layWord_10 : decode cX6_layWord 10 = .ok (.iaload, 1) := by decide +kernel
theorem dX6_layWord_11 : decode cX6_layWord 11 = .ok (.if_icmp .ge 248, 3) := by decide +kernel
theorem dX6_layWord_14 : decode cX6_layWord 14 = .ok (.iload 5, 2) := by decide +kernel
theorem dX6_layWord_16 : decode cX6_layWord 16 = .ok (.aload_n 1, 1) := by decide +kernel
theorem dX6_layWord_17 : decode cX6_layWord 17 = .ok (.getfield 69, 3) := by decide +kernel
theorem dX6_layWord_20 : decode cX6_layWord 20 = .ok (.iload_n 2, 1) := by decide +kernel
theorem dX6_layWord_21 : decode cX6_layWord 21 = .ok (.iaload, 1) := by decide +kernel
theorem dX6_layWord_22 : decode cX6_layWord 22 = .ok (.if_icmp .ne 7, 3) := by decide +kernel
theorem dX6_layWord_25 : decode cX6_layWord 25 = .ok (.iconst 1, 1) := by decide +kernel
theorem dX6_layWord_26 : decode cX6_layWord 26 = .ok (.goto 4, 3) := by decide +kernel
theorem dX6_layWord_29 : decode cX6_layWord 29 = .ok (.iconst 0, 1) := by decide +kernel
theorem dX6_layWord_30 : decode cX6_layWord 30 = .ok (.istore 6, 2) := by decide +kernel
theorem dX6_layWord_32 : decode cX6_layWord 32 = .ok (.aload_n 0, 1) := by decide +kernel
theorem dX6_layWord_33 : decode cX6_layWord 33 = .ok (.getfield 20, 3) := by decide +kernel
theorem dX6_layWord_36 : decode cX6_layWord 36 = .ok (.iconst 3, 1) := by decide +kernel
theorem dX6_layWord_37 : decode cX6_layWord 37 = .ok (.aaload, 1) := by decide +kernel
theorem dX6_layWord_38 : decode cX6_layWord 38 = .ok (.aload_n 0, 1) := by decide +kernel
theorem dX6_layWord_39 : decode cX6_layWord 39 = .ok (.getfield 27, 3) := by decide +kernel
theorem dX6_layWord_42 : decode cX6_layWord 42 = .ok (.aload_n 0, 1) := by decide +kernel
theorem dX6_layWord_43 : decode cX6_layWord 43 = .ok (.getfield 27, 3) := by decide +kernel
theorem dX6_layWord_46 : decode cX6_layWord 46 = .ok (.iload 4, 2) := by decide +kernel
theorem dX6_layWord_48 : decode cX6_layWord 48 = .ok (.isub, 1) := by decide +kernel
theorem dX6_layWord_49 : decode cX6_layWord 49 = .ok (.iastore, 1) := by decide +kernel
theorem dX6_layWord_50 : decode cX6_layWord 50 = .ok (.aload_n 0, 1) := by decide +kernel
theorem dX6_layWord_51 : decode cX6_layWord 51 = .ok (.getfield 20, 3) := by decide +kernel
theorem dX6_layWord_54 : decode cX6_layWord 54 = .ok (.iconst 4, 1) := by decide +kernel
theorem dX6_layWord_55 : decode cX6_layWord 55 = .ok (.aaload, 1) := by decide +kernel
theorem dX6_layWord_56 : decode cX6_layWord 56 = .ok (.aload_n 0, 1) := by decide +kernel
theorem dX6_layWord_57 : decode cX6_layWord 57 = .ok (.getfield 27, 3) := by decide +kernel
theorem dX6_layWord_60 : decode cX6_layWord 60 = .ok (.aload_n 0, 1) := by decide +kernel
theorem dX6_layWord_61 : decode cX6_layWord 61 = .ok (.getfield 12, 3) := by decide +kernel
theorem dX6_layWord_64 : decode cX6_layWord 64 = .ok (.getfield 72, 3) := by decide +kernel
theorem dX6_layWord_67 : decode cX6_layWord 67 = .ok (.iload_n 3, 1) := by decide +kernel
theorem dX6_layWord_68 : decode cX6_layWord 68 = .ok (.iaload, 1) := by decide +kernel
theorem dX6_layWord_69 : decode cX6_layWord 69 = .ok (.iconst 1, 1) := by decide +kernel
theorem dX6_layWord_70 : decode cX6_layWord 70 = .ok (.isub, 1) := by decide +kernel
theorem dX6_layWord_71 : decode cX6_layWord 71 = .ok (.aload_n 0, 1) := by decide +kernel
theorem dX6_layWord_72 : decode cX6_layWord 72 = .ok (.getfield 27, 3) := by decide +kernel
theorem dX6_layWord_75 : decode cX6_layWord 75 = .ok (.iload 4, 2) := by decide +kernel
theorem dX6_layWord_77 : decode cX6_layWord 77 = .ok (.isub, 1) := by decide +kernel
theorem dX6_layWord_78 : decode cX6_layWord 78 = .ok (.isub, 1) := by decide +kernel
theorem dX6_layWord_79 : decode cX6_layWord 79 = .ok (.iastore, 1) := by decide +kernel
theorem dX6_layWord_80 : decode cX6_layWord 80 = .ok (.aload_n 0, 1) := by decide +kernel
theorem dX6_layWord_81 : decode cX6_layWord 81 = .ok (.getfield 20, 3) := by decide +kernel
