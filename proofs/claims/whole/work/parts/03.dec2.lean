theorem dX9_shape_122 : decode cX9_shape 122 = .ok (.iload_n 1, 1) := by decide +kernel
theorem dX9_shape_123 : decode cX9_shape 123 = .ok (.iaload, 1) := by decide +kernel
theorem dX9_shape_124 : decode cX9_shape 124 = .ok (.ireturn, 1) := by decide +kernel
theorem dX9_shape_125 : decode cX9_shape 125 = .ok (.new 175, 3) := by decide +kernel
theorem dX9_shape_128 : decode cX9_shape 128 = .ok (.dup, 1) := by decide +kernel
theorem dX9_shape_129 : decode cX9_shape 129 = .ok (.ldc 185, 2) := by decide +kernel
theorem dX9_shape_131 : decode cX9_shape 131 = .ok (.invokespecial 179, 3) := by decide +kernel
theorem dX9_shape_134 : decode cX9_shape 134 = .ok (.athrow, 1) := by decide +kernel
theorem dX9_fit_0 : decode cX9_fit 0 = .ok (.aload_n 0, 1) := by decide +kernel
theorem dX9_fit_1 : decode cX9_fit 1 = .ok (.invokevirtual 146, 3) := by decide +kernel
theorem dX9_fit_4 : decode cX9_fit 4 = .ok (.getfield 187, 3) := by decide +kernel
theorem dX9_fit_7 : decode cX9_fit 7 = .ok (.ifCond .eq 7, 3) := by decide +kernel
theorem dX9_fit_10 : decode cX9_fit 10 = .ok (.iconst 1, 1) := by decide +kernel
theorem dX9_fit_11 : decode cX9_fit 11 = .ok (.goto 4, 3) := by decide +kernel
theorem dX9_fit_14 : decode cX9_fit 14 = .ok (.iconst 0, 1) := by decide +kernel
theorem dX9_fit_15 : decode cX9_fit 15 = .ok (.ireturn, 1) := by decide +kernel
theorem dX9_pause_0 : decode cX9_pause 0 = .ok (.aload_n 0, 1) := by decide +kernel
theorem dX9_pause_1 : decode cX9_pause 1 = .ok (.invokevirtual 146, 3) := by decide +kernel
theorem dX9_pause_4 : decode cX9_pause 4 = .ok (.getfield 150, 3) := by decide +kernel
theorem dX9_pause_7 : decode cX9_pause 7 = .ok (.astore_n 3, 1) := by decide +kernel
theorem dX9_pause_8 : decode cX9_pause 8 = .ok (.iload_n 1, 1) := by decide +kernel
theorem dX9_pause_9 : decode cX9_pause 9 = .ok (.ifCond .lt 24, 3) := by decide +kernel
theorem dX9_pause_12 : decode cX9_pause 12 = .ok (.iload_n 1, 1) := by decide +kernel
theorem dX9_pause_13 : decode cX9_pause 13 = .ok (.aload_n 3, 1) := by decide +kernel
theorem dX9_pause_14 : decode cX9_pause 14 = .ok (.getfield 154, 3) := by decide +kernel
theorem dX9_pause_17 : decode cX9_pause 17 = .ok (.iconst 1, 1) := by decide +kernel
theorem dX9_pause_18 : decode cX9_pause 18 = .ok (.isub, 1) := by decide +kernel
theorem dX9_pause_19 : decode cX9_pause 19 = .ok (.if_icmp .ge 14, 3) := by decide +kernel
theorem dX9_pause_22 : decode cX9_pause 22 = .ok (.iload_n 2, 1) := by decide +kernel
theorem dX9_pause_23 : decode cX9_pause 23 = .ok (.iconst 0, 1) := by decide +kernel
theorem dX9_pause_24 : decode cX9_pause 24 = .ok (.sipush 1000, 3) := by decide +kernel
theorem dX9_pause_27 : decode cX9_pause 27 = .ok (.invokestatic 95, 3) := by decide +kernel
theorem dX9_pause_30 : decode cX9_pause 30 = .ok (.ifCond .ne 5, 3) := by decide +kernel
theorem dX9_pause_33 : decode cX9_pause 33 = .ok (.iconst (-1), 1) := by decide +kernel
theorem dX9_pause_34 : decode cX9_pause 34 = .ok (.ireturn, 1) := by decide +kernel
theorem dX9_pause_35 : decode cX9_pause 35 = .ok (.aload_n 3, 1) := by decide +kernel
theorem dX9_pause_36 : decode cX9_pause 36 = .ok (.iload_n 1, 1) := by decide +kernel
theorem dX9_pause_37 : decode cX9_pause 37 = .ok (.iload_n 2, 1) := by decide +kernel
theorem dX9_pause_38 : decode cX9_pause 38 = .ok (.invokevirtual 191, 3) := by decide +kernel
theorem dX9_pause_41 : decode cX9_pause 41 = .ok (.ireturn, 1) := by decide +kernel
theorem dX9_apart_0 : decode cX9_apart 0 = .ok (.aload_n 0, 1) := by decide +kernel
theorem dX9_apart_1 : decode cX9_apart 1 = .ok (.iload_n 1, 1) := by decide +kernel
theorem dX9_apart_2 : decode cX9_apart 2 = .ok (.invokevirtual 91, 3) := by decide +kernel
theorem dX9_apart_5 : decode cX9_apart 5 = .ok (.ifCond .eq 11, 3) := by decide +kernel
theorem dX9_apart_8 : decode cX9_apart 8 = .ok (.aload_n 0, 1) := by decide +kernel
theorem dX9_apart_9 : decode cX9_apart 9 = .ok (.iload_n 2, 1) := by decide +kernel
theorem dX9_apart_10 : decode cX9_apart 10 = .ok (.invokevirtual 91, 3) := by decide +kernel
theorem dX9_apart_13 : decode cX9_apart 13 = .ok (.ifCond .ne 6, 3) := by decide +kernel
theorem dX9_apart_16 : decode cX9_apart 16 = .ok (.bipush (-2), 2) := by decide +kernel
theorem dX9_apart_18 : decode cX9_apart 18 = .ok (.ireturn, 1) := by decide +kernel
theorem dX9_apart_19 : decode cX9_apart 19 = .ok (.aload_n 0, 1) := by decide +kernel
theorem dX9_apart_20 : decode cX9_apart 20 = .ok (.aload_n 0, 1) := by decide +kernel
theorem dX9_apart_21 : decode cX9_apart 21 = .ok (.getfield 57, 3) := by decide +kernel
theorem dX9_apart_24 : decode cX9_apart 24 = .ok (.iload_n 1, 1) := by decide +kernel
theorem dX9_apart_25 : decode cX9_apart 25 = .ok (.invokevirtual 195, 3) := by decide +kernel
theorem dX9_apart_28 : decode cX9_apart 28 = .ok (.aload_n 0, 1) := by decide +kernel
theorem dX9_apart_29 : decode cX9_apart 29 = .ok (.aload_n 0, 1) := by decide +kernel
theorem dX9_apart_30 : decode cX9_apart 30 = .ok (.getfield 61, 3) := by decide +kernel
theorem dX9_apart_33 : decode cX9_apart 33 = .ok (.iload_n 2, 1) := by decide +kernel
theorem dX9_apart_34 : decode cX9_apart 34 = .ok (.invokevirtual 195, 3) := by decide +kernel
theorem dX9_apart_37 : decode cX9_apart 37 = .ok (.aload_n 0, 1) := by decide +kernel
theorem dX9_apart_38 : decode cX9_apart 38 = .ok (.getfield 57, 3) := by decide +kernel
theorem dX9_apart_41 : decode cX9_apart 41 = .ok (.aload_n 0, 1) := by decide +kernel
theorem dX9_apart_42 : decode cX9_apart 42 = .ok (.getfield 61, 3) := by decide +kernel
theorem dX9_apart_45 : decode cX9_apart 45 = .ok (.invokevirtual 199, 3) := by decide +kernel
theorem dX9_apart_48 : decode cX9_apart 48 = .ok (.ireturn, 1) := by decide +kernel
theorem dX9_count_0 : decode cX9_count 0 = .ok (.aload_n 0, 1) := by decide +kernel
theorem dX9_count_1 : decode cX9_count 1 = .ok (.getfield 11, 3) := by decide +kernel
theorem dX9_count_4 : decode cX9_count 4 = .ok (.aload_n 0, 1) := by decide +kernel
theorem dX9_count_5 : decode cX9_count 5 = .ok (.getfield 19, 3) := by decide +kernel
theorem dX9_count_8 : decode cX9_count 8 = .ok (.aaload, 1) := by decide +kernel
theorem dX9_count_9 : decode cX9_count 9 = .ok (.astore_n 2, 1) := by decide +kernel
theorem dX9_count_10 : decode cX9_count 10 = .ok (.iload_n 1, 1) := by decide +kernel
theorem dX9_count_11 : decode cX9_count 11 = .ok (.tableswitch 99 0 7 #[45, 50, 55, 60, 65, 70, 86, 94], 45) := by decide +kernel
theorem dX9_count_56 : decode cX9_count 56 = .ok (.aload_n 0, 1) := by decide +kernel
theorem dX9_count_57 : decode cX9_count 57 = .ok (.getfield 15, 3) := by decide +kernel
theorem dX9_count_60 : decode cX9_count 60 = .ok (.ireturn, 1) := by decide +kernel
theorem dX9_count_61 : decode cX9_count 61 = .ok (.aload_n 0, 1) := by decide +kernel
theorem dX9_count_62 : decode cX9_count 62 = .ok (.getfield 19, 3) := by decide +kernel
theorem dX9_count_65 : decode cX9_count 65 = .ok (.ireturn, 1) := by decide +kernel
theorem dX9_count_66 : decode cX9_count 66 = .ok (.aload_n 2, 1) := by decide +kernel
theorem dX9_count_67 : decode cX9_count 67 = .ok (.getfield 66, 3) := by decide +kernel
theorem dX9_count_70 : decode cX9_count 70 = .ok (.ireturn, 1) := by decide +kernel
theorem dX9_count_71 : decode cX9_count 71 = .ok (.aload_n 2, 1) := by decide +kernel
theorem dX9_count_72 : decode cX9_count 72 = .ok (.getfield 133, 3) := by decide +kernel
theorem dX9_count_75 : decode cX9_count 75 = .ok (.ireturn, 1) := by decide +kernel
theorem dX9_count_76 : decode cX9_count 76 = .ok (.aload_n 0, 1) := by decide +kernel
theorem dX9_count_77 : decode cX9_count 77 = .ok (.getfield 28, 3) := by decide +kernel
theorem dX9_count_80 : decode cX9_count 80 = .ok (.ireturn, 1) := by decide +kernel
theorem dX9_count_81 : decode cX9_count 81 = .ok (.aload_n 0, 1) := by decide +kernel
theorem dX9_count_82 : decode cX9_count 82 = .ok (.getfield 24, 3) := by decide +kernel
theorem dX9_count_85 : decode cX9_count 85 = .ok (.aload_n 0, 1) := by decide +kernel
theorem dX9_count_86 : decode cX9_count 86 = .ok (.getfield 28, 3) := by decide +kernel
theorem dX9_count_89 : decode cX9_count 89 = .ok (.aaload, 1) := by decide +kernel
theorem dX9_count_90 : decode cX9_count 90 = .ok (.getfield 130, 3) := by decide +kernel
theorem dX9_count_93 : decode cX9_count 93 = .ok (.getfield 203, 3) := by decide +kernel
theorem dX9_count_96 : decode cX9_count 96 = .ok (.ireturn, 1) := by decide +kernel
theorem dX9_count_97 : decode cX9_count 97 = .ok (.aload_n 0, 1) := by decide +kernel
theorem dX9_count_98 : decode cX9_count 98 = .ok (.getfield 43, 3) := by decide +kernel
theorem dX9_count_101 : decode cX9_count 101 = .ok (.getfield 114, 3) := by decide +kernel
theorem dX9_count_104 : decode cX9_count 104 = .ok (.ireturn, 1) := by decide +kernel
theorem dX9_count_105 : decode cX9_count 105 = .ok (.aload_n 2, 1) := by decide +kernel
theorem dX9_count_106 : decode cX9_count 106 = .ok (.invokevirtual 208, 3) := by decide +kernel
theorem dX9_count_109 : decode cX9_count 109 = .ok (.ireturn, 1) := by decide +kernel
theorem dX9_count_110 : decode cX9_count 110 = .ok (.iconst (-1), 1) := by decide +kernel
theorem dX9_count_111 : decode cX9_count 111 = .ok (.ireturn, 1) := by decide +kernel
theorem dX9_isReading_0 : decode cX9_isReading 0 = .ok (.iload_n 1, 1) := by decide +kernel
theorem dX9_isReading_1 : decode cX9_isReading 1 = .ok (.ifCond .lt 15, 3) := by decide +kernel
theorem dX9_isReading_4 : decode cX9_isReading 4 = .ok (.iload_n 1, 1) := by decide +kernel
theorem dX9_isReading_5 : decode cX9_isReading 5 = .ok (.aload_n 0, 1) := by decide +kernel
theorem dX9_isReading_6 : decode cX9_isReading 6 = .ok (.getfield 15, 3) := by decide +kernel
theorem dX9_isReading_9 : decode cX9_isReading 9 = .ok (.if_icmp .ge 7, 3) := by decide +kernel
theorem dX9_isReading_12 : decode cX9_isReading 12 = .ok (.iconst 1, 1) := by decide +kernel
theorem dX9_isReading_13 : decode cX9_isReading 13 = .ok (.goto 4, 3) := by decide +kernel
theorem dX9_isReading_16 : decode cX9_isReading 16 = .ok (.iconst 0, 1) := by decide +kernel
theorem dX9_isReading_17 : decode cX9_isReading 17 = .ok (.ireturn, 1) := by decide +kernel
theorem dX9_isWithin_0 : decode cX9_isWithin 0 = .ok (.iload_n 0, 1) := by decide +kernel
theorem dX9_isWithin_1 : decode cX9_isWithin 1 = .ok (.iload_n 1, 1) := by decide +kernel
theorem dX9_isWithin_2 : decode cX9_isWithin 2 = .ok (.if_icmp .lt 12, 3) := by decide +kernel
theorem dX9_isWithin_5 : decode cX9_isWithin 5 = .ok (.iload_n 0, 1) := by decide +kernel
theorem dX9_isWithin_6 : decode cX9_isWithin 6 = .ok (.iload_n 2, 1) := by decide +kernel
theorem dX9_isWithin_7 : decode cX9_isWithin 7 = .ok (.if_icmp .gt 7, 3) := by decide +kernel
theorem dX9_isWithin_10 : decode cX9_isWithin 10 = .ok (.iconst 1, 1) := by decide +kernel
theorem dX9_isWithin_11 : decode cX9_isWithin 11 = .ok (.goto 4, 3) := by decide +kernel
theorem dX9_isWithin_14 : decode cX9_isWithin 14 = .ok (.iconst 0, 1) := by decide +kernel
theorem dX9_isWithin_15 : decode cX9_isWithin 15 = .ok (.ireturn, 1) := by decide +kernel
theorem dX9_isWord_0 : decode cX9_isWord 0 = .ok (.iload_n 0, 1) := by decide +kernel
theorem dX9_isWord_1 : decode cX9_isWord 1 = .ok (.iconst 1, 1) := by decide +kernel
theorem dX9_isWord_2 : decode cX9_isWord 2 = .ok (.iconst 5, 1) := by decide +kernel
theorem dX9_isWord_3 : decode cX9_isWord 3 = .ok (.invokestatic 95, 3) := by decide +kernel
theorem dX9_isWord_6 : decode cX9_isWord 6 = .ok (.ifCond .eq 26, 3) := by decide +kernel
theorem dX9_isWord_9 : decode cX9_isWord 9 = .ok (.iload_n 1, 1) := by decide +kernel
theorem dX9_isWord_10 : decode cX9_isWord 10 = .ok (.ifCond .lt 22, 3) := by decide +kernel
theorem dX9_isWord_13 : decode cX9_isWord 13 = .ok (.iload_n 1, 1) := by decide +kernel
theorem dX9_isWord_14 : decode cX9_isWord 14 = .ok (.iload_n 0, 1) := by decide +kernel
theorem dX9_isWord_15 : decode cX9_isWord 15 = .ok (.if_icmp .ge 17, 3) := by decide +kernel
theorem dX9_isWord_18 : decode cX9_isWord 18 = .ok (.iload_n 2, 1) := by decide +kernel
theorem dX9_isWord_19 : decode cX9_isWord 19 = .ok (.iconst 0, 1) := by decide +kernel
theorem dX9_isWord_20 : decode cX9_isWord 20 = .ok (.bipush 99, 2) := by decide +kernel
theorem dX9_isWord_22 : decode cX9_isWord 22 = .ok (.invokestatic 95, 3) := by decide +kernel
theorem dX9_isWord_25 : decode cX9_isWord 25 = .ok (.ifCond .eq 7, 3) := by decide +kernel
theorem dX9_isWord_28 : decode cX9_isWord 28 = .ok (.iconst 1, 1) := by decide +kernel
theorem dX9_isWord_29 : decode cX9_isWord 29 = .ok (.goto 4, 3) := by decide +kernel
theorem dX9_isWord_32 : decode cX9_isWord 32 = .ok (.iconst 0, 1) := by decide +kernel
theorem dX9_isWord_33 : decode cX9_isWord 33 = .ok (.ireturn, 1) := by decide +kernel
theorem dX9_bringWithin_0 : decode cX9_bringWithin 0 = .ok (.iload_n 1, 1) := by decide +kernel
theorem dX9_bringWithin_1 : decode cX9_bringWithin 1 = .ok (.iload_n 2, 1) := by decide +kernel
theorem dX9_bringWithin_2 : decode cX9_bringWithin 2 = .ok (.iload_n 0, 1) := by decide +kernel
theorem dX9_bringWithin_3 : decode cX9_bringWithin 3 = .ok (.invokestatic 212, 3) := by decide +kernel
theorem dX9_bringWithin_6 : decode cX9_bringWithin 6 = .ok (.invokestatic 217, 3) := by decide +kernel
theorem dX9_bringWithin_9 : decode cX9_bringWithin 9 = .ok (.ireturn, 1) := by decide +kernel
theorem dX9_shapeInHand_0 : decode cX9_shapeInHand 0 = .ok (.aload_n 0, 1) := by decide +kernel
theorem dX9_shapeInHand_1 : decode cX9_shapeInHand 1 = .ok (.aload_n 0, 1) := by decide +kernel
theorem dX9_shapeInHand_2 : decode cX9_shapeInHand 2 = .ok (.getfield 57, 3) := by decide +kernel
theorem dX9_shapeInHand_5 : decode cX9_shapeInHand 5 = .ok (.aload_n 0, 1) := by decide +kernel
theorem dX9_shapeInHand_6 : decode cX9_shapeInHand 6 = .ok (.getfield 19, 3) := by decide +kernel
theorem dX9_shapeInHand_9 : decode cX9_shapeInHand 9 = .ok (.invokevirtual 195, 3) := by decide +kernel
theorem dX9_shapeInHand_12 : decode cX9_shapeInHand 12 = .ok (.aload_n 0, 1) := by decide +kernel
theorem dX9_shapeInHand_13 : decode cX9_shapeInHand 13 = .ok (.getfield 57, 3) := by decide +kernel
theorem dX9_shapeInHand_16 : decode cX9_shapeInHand 16 = .ok (.areturn, 1) := by decide +kernel
theorem dX9_prepare_0 : decode cX9_prepare 0 = .ok (.aload_n 1, 1) := by decide +kernel
theorem dX9_prepare_1 : decode cX9_prepare 1 = .ok (.getfield 220, 3) := by decide +kernel
theorem dX9_prepare_4 : decode cX9_prepare 4 = .ok (.iload_n 2, 1) := by decide +kernel
theorem dX9_prepare_5 : decode cX9_prepare 5 = .ok (.if_icmp .ne 4, 3) := by decide +kernel
theorem dX9_prepare_8 : decode cX9_prepare 8 = .ok (.return_, 1) := by decide +kernel
theorem dX9_prepare_9 : decode cX9_prepare 9 = .ok (.aload_n 1, 1) := by decide +kernel
theorem dX9_prepare_10 : decode cX9_prepare 10 = .ok (.iload_n 2, 1) := by decide +kernel
theorem dX9_prepare_11 : decode cX9_prepare 11 = .ok (.putfield 220, 3) := by decide +kernel
theorem dX9_prepare_14 : decode cX9_prepare 14 = .ok (.aload_n 0, 1) := by decide +kernel
theorem dX9_prepare_15 : decode cX9_prepare 15 = .ok (.getfield 24, 3) := by decide +kernel
theorem dX9_prepare_18 : decode cX9_prepare 18 = .ok (.aload_n 0, 1) := by decide +kernel
theorem dX9_prepare_19 : decode cX9_prepare 19 = .ok (.getfield 28, 3) := by decide +kernel
theorem dX9_prepare_22 : decode cX9_prepare 22 = .ok (.aaload, 1) := by decide +kernel
theorem dX9_prepare_23 : decode cX9_prepare 23 = .ok (.astore_n 3, 1) := by decide +kernel
theorem dX9_prepare_24 : decode cX9_prepare 24 = .ok (.aload_n 1, 1) := by decide +kernel
theorem dX9_prepare_25 : decode cX9_prepare 25 = .ok (.aload_n 0, 1) := by decide +kernel
theorem dX9_prepare_26 : decode cX9_prepare 26 = .ok (.getfield 11, 3) := by decide +kernel
theorem dX9_prepare_29 : decode cX9_prepare 29 = .ok (.iload_n 2, 1) := by decide +kernel
theorem dX9_prepare_30 : decode cX9_prepare 30 = .ok (.aaload, 1) := by decide +kernel
theorem dX9_prepare_31 : decode cX9_prepare 31 = .ok (.aload_n 0, 1) := by decide +kernel
theorem dX9_prepare_32 : decode cX9_prepare 32 = .ok (.getfield 31, 3) := by decide +kernel
theorem dX9_prepare_35 : decode cX9_prepare 35 = .ok (.invokevirtual 223, 3) := by decide +kernel
theorem dX9_prepare_38 : decode cX9_prepare 38 = .ok (.aload_n 1, 1) := by decide +kernel
theorem dX9_prepare_39 : decode cX9_prepare 39 = .ok (.aload_n 3, 1) := by decide +kernel
theorem dX9_prepare_40 : decode cX9_prepare 40 = .ok (.getfield 130, 3) := by decide +kernel
theorem dX9_prepare_43 : decode cX9_prepare 43 = .ok (.aload_n 0, 1) := by decide +kernel
theorem dX9_prepare_44 : decode cX9_prepare 44 = .ok (.getfield 50, 3) := by decide +kernel
theorem dX9_prepare_47 : decode cX9_prepare 47 = .ok (.invokevirtual 227, 3) := by decide +kernel
theorem dX9_prepare_50 : decode cX9_prepare 50 = .ok (.aload_n 1, 1) := by decide +kernel
theorem dX9_prepare_51 : decode cX9_prepare 51 = .ok (.aload_n 0, 1) := by decide +kernel
theorem dX9_prepare_52 : decode cX9_prepare 52 = .ok (.getfield 11, 3) := by decide +kernel
theorem dX9_prepare_55 : decode cX9_prepare 55 = .ok (.iload_n 2, 1) := by decide +kernel
theorem dX9_prepare_56 : decode cX9_prepare 56 = .ok (.aaload, 1) := by decide +kernel
theorem dX9_prepare_57 : decode cX9_prepare 57 = .ok (.invokevirtual 231, 3) := by decide +kernel
theorem dX9_prepare_60 : decode cX9_prepare 60 = .ok (.aload_n 1, 1) := by decide +kernel
theorem dX9_prepare_61 : decode cX9_prepare 61 = .ok (.aload_n 0, 1) := by decide +kernel
theorem dX9_prepare_62 : decode cX9_prepare 62 = .ok (.getfield 11, 3) := by decide +kernel
theorem dX9_prepare_65 : decode cX9_prepare 65 = .ok (.iload_n 2, 1) := by decide +kernel
theorem dX9_prepare_66 : decode cX9_prepare 66 = .ok (.aaload, 1) := by decide +kernel
theorem dX9_prepare_67 : decode cX9_prepare 67 = .ok (.aload_n 3, 1) := by decide +kernel
theorem dX9_prepare_68 : decode cX9_prepare 68 = .ok (.invokevirtual 234, 3) := by decide +kernel
theorem dX9_prepare_71 : decode cX9_prepare 71 = .ok (.aload_n 1, 1) := by decide +kernel
theorem dX9_prepare_72 : decode cX9_prepare 72 = .ok (.aload_n 0, 1) := by decide +kernel
theorem dX9_prepare_73 : decode cX9_prepare 73 = .ok (.getfield 34, 3) := by decide +kernel
theorem dX9_prepare_76 : decode cX9_prepare 76 = .ok (.aload_n 0, 1) := by decide +kernel
theorem dX9_prepare_77 : decode cX9_prepare 77 = .ok (.getfield 37, 3) := by decide +kernel
theorem dX9_prepare_80 : decode cX9_prepare 80 = .ok (.invokevirtual 238, 3) := by decide +kernel
theorem dX9_prepare_83 : decode cX9_prepare 83 = .ok (.return_, 1) := by decide +kernel
theorem dX9_forgetShapes_0 : decode cX9_forgetShapes 0 = .ok (.aload_n 0, 1) := by decide +kernel
theorem dX9_forgetShapes_1 : decode cX9_forgetShapes 1 = .ok (.getfield 57, 3) := by decide +kernel
theorem dX9_forgetShapes_4 : decode cX9_forgetShapes 4 = .ok (.iconst (-1), 1) := by decide +kernel
theorem dX9_forgetShapes_5 : decode cX9_forgetShapes 5 = .ok (.putfield 220, 3) := by decide +kernel
theorem dX9_forgetShapes_8 : decode cX9_forgetShapes 8 = .ok (.aload_n 0, 1) := by decide +kernel
theorem dX9_forgetShapes_9 : decode cX9_forgetShapes 9 = .ok (.getfield 61, 3) := by decide +kernel
theorem dX9_forgetShapes_12 : decode cX9_forgetShapes 12 = .ok (.iconst (-1), 1) := by decide +kernel
theorem dX9_forgetShapes_13 : decode cX9_forgetShapes 13 = .ok (.putfield 220, 3) := by decide +kernel
theorem dX9_forgetShapes_16 : decode cX9_forgetShapes 16 = .ok (.return_, 1) := by decide +kernel
theorem dX10_thrown_0 : decode cX10_thrown 0 = .ok (.aload_n 0, 1) := by decide +kernel
theorem dX10_thrown_1 : decode cX10_thrown 1 = .ok (.getfield 1, 3) := by decide +kernel
theorem dX10_thrown_4 : decode cX10_thrown 4 = .ok (.ireturn, 1) := by decide +kernel
theorem dX10_feed_0 : decode cX10_feed 0 = .ok (.aload_n 0, 1) := by decide +kernel
theorem dX10_feed_1 : decode cX10_feed 1 = .ok (.iconst 0, 1) := by decide +kernel
theorem dX10_feed_2 : decode cX10_feed 2 = .ok (.putfield 1, 3) := by decide +kernel
theorem dX10_feed_5 : decode cX10_feed 5 = .ok (.aload_n 0, 1) := by decide +kernel
theorem dX10_feed_6 : decode cX10_feed 6 = .ok (.lload_n 1, 1) := by decide +kernel
theorem dX10_feed_7 : decode cX10_feed 7 = .ok (.invokevirtual 7, 3) := by decide +kernel
theorem dX10_feed_10 : decode cX10_feed 10 = .ok (.aload_n 0, 1) := by decide +kernel
theorem dX10_feed_11 : decode cX10_feed 11 = .ok (.lload_n 3, 1) := by decide +kernel
theorem dX10_feed_12 : decode cX10_feed 12 = .ok (.invokevirtual 7, 3) := by decide +kernel
theorem dX10_feed_15 : decode cX10_feed 15 = .ok (.aload_n 0, 1) := by decide +kernel
theorem dX10_feed_16 : decode cX10_feed 16 = .ok (.lload 5, 2) := by decide +kernel
theorem dX10_feed_18 : decode cX10_feed 18 = .ok (.invokevirtual 7, 3) := by decide +kernel
theorem dX10_feed_21 : decode cX10_feed 21 = .ok (.aload_n 0, 1) := by decide +kernel
theorem dX10_feed_22 : decode cX10_feed 22 = .ok (.getfield 11, 3) := by decide +kernel
theorem dX10_feed_25 : decode cX10_feed 25 = .ok (.ireturn, 1) := by decide +kernel
theorem dX10_lay_0 : decode cX10_lay 0 = .ok (.bipush 56, 2) := by decide +kernel
theorem dX10_lay_2 : decode cX10_lay 2 = .ok (.istore_n 3, 1) := by decide +kernel
theorem dX10_lay_3 : decode cX10_lay 3 = .ok (.iload_n 3, 1) := by decide +kernel
theorem dX10_lay_4 : decode cX10_lay 4 = .ok (.ifCond .lt 71, 3) := by decide +kernel
theorem dX10_lay_7 : decode cX10_lay 7 = .ok (.lload_n 1, 1) := by decide +kernel
theorem dX10_lay_8 : decode cX10_lay 8 = .ok (.iload_n 3, 1) := by decide +kernel
theorem dX10_lay_9 : decode cX10_lay 9 = .ok (.lshr, 1) := by decide +kernel
theorem dX10_lay_10 : decode cX10_lay 10 = .ok (.l2i, 1) := by decide +kernel
theorem dX10_lay_11 : decode cX10_lay 11 = .ok (.sipush 255, 3) := by decide +kernel
theorem dX10_lay_14 : decode cX10_lay 14 = .ok (.iand, 1) := by decide +kernel
theorem dX10_lay_15 : decode cX10_lay 15 = .ok (.istore 4, 2) := by decide +kernel
theorem dX10_lay_17 : decode cX10_lay 17 = .ok (.iload 4, 2) := by decide +kernel
theorem dX10_lay_19 : decode cX10_lay 19 = .ok (.bipush 10, 2) := by decide +kernel
theorem dX10_lay_21 : decode cX10_lay 21 = .ok (.if_icmp .eq 17, 3) := by decide +kernel
theorem dX10_lay_24 : decode cX10_lay 24 = .ok (.iload 4, 2) := by decide +kernel
theorem dX10_lay_26 : decode cX10_lay 26 = .ok (.bipush 32, 2) := by decide +kernel
theorem dX10_lay_28 : decode cX10_lay 28 = .ok (.if_icmp .lt 41, 3) := by decide +kernel
theorem dX10_lay_31 : decode cX10_lay 31 = .ok (.iload 4, 2) := by decide +kernel
theorem dX10_lay_33 : decode cX10_lay 33 = .ok (.bipush 126, 2) := by decide +kernel
theorem dX10_lay_35 : decode cX10_lay 35 = .ok (.if_icmp .gt 34, 3) := by decide +kernel
theorem dX10_lay_38 : decode cX10_lay 38 = .ok (.aload_n 0, 1) := by decide +kernel
theorem dX10_lay_39 : decode cX10_lay 39 = .ok (.getfield 11, 3) := by decide +kernel
theorem dX10_lay_42 : decode cX10_lay 42 = .ok (.sipush 1000, 3) := by decide +kernel
theorem dX10_lay_45 : decode cX10_lay 45 = .ok (.if_icmp .ge 24, 3) := by decide +kernel
theorem dX10_lay_48 : decode cX10_lay 48 = .ok (.aload_n 0, 1) := by decide +kernel
theorem dX10_lay_49 : decode cX10_lay 49 = .ok (.getfield 14, 3) := by decide +kernel
theorem dX10_lay_52 : decode cX10_lay 52 = .ok (.aload_n 0, 1) := by decide +kernel
theorem dX10_lay_53 : decode cX10_lay 53 = .ok (.getfield 11, 3) := by decide +kernel
theorem dX10_lay_56 : decode cX10_lay 56 = .ok (.iload 4, 2) := by decide +kernel
theorem dX10_lay_58 : decode cX10_lay 58 = .ok (.iastore, 1) := by decide +kernel
theorem dX10_lay_59 : decode cX10_lay 59 = .ok (.aload_n 0, 1) := by decide +kernel
theorem dX10_lay_60 : decode cX10_lay 60 = .ok (.dup, 1) := by decide +kernel
theorem dX10_lay_61 : decode cX10_lay 61 = .ok (.getfield 11, 3) := by decide +kernel
theorem dX10_lay_64 : decode cX10_lay 64 = .ok (.iconst 1, 1) := by decide +kernel
theorem dX10_lay_65 : decode cX10_lay 65 = .ok (.iadd, 1) := by decide +kernel
theorem dX10_lay_66 : decode cX10_lay 66 = .ok (.putfield 11, 3) := by decide +kernel
theorem dX10_lay_69 : decode cX10_lay 69 = .ok (.iinc 3 (-8), 3) := by decide +kernel
theorem dX10_lay_72 : decode cX10_lay 72 = .ok (.goto (-69), 3) := by decide +kernel
theorem dX10_lay_75 : decode cX10_lay 75 = .ok (.return_, 1) := by decide +kernel
theorem dX10_init_0 : decode cX10_init 0 = .ok (.aload_n 0, 1) := by decide +kernel
theorem dX10_init_1 : decode cX10_init 1 = .ok (.invokespecial 18, 3) := by decide +kernel
theorem dX10_init_4 : decode cX10_init 4 = .ok (.aload_n 0, 1) := by decide +kernel
theorem dX10_init_5 : decode cX10_init 5 = .ok (.sipush 1000, 3) := by decide +kernel
theorem dX10_init_8 : decode cX10_init 8 = .ok (.newarray .int, 2) := by decide +kernel
theorem dX10_init_10 : decode cX10_init 10 = .ok (.putfield 14, 3) := by decide +kernel
theorem dX10_init_13 : decode cX10_init 13 = .ok (.aload_n 0, 1) := by decide +kernel
theorem dX10_init_14 : decode cX10_init 14 = .ok (.sipush 1002, 3) := by decide +kernel
theorem dX10_init_17 : decode cX10_init 17 = .ok (.newarray .int, 2) := by decide +kernel
theorem dX10_init_19 : decode cX10_init 19 = .ok (.putfield 24, 3) := by decide +kernel
theorem dX10_init_22 : decode cX10_init 22 = .ok (.aload_n 0, 1) := by decide +kernel
theorem dX10_init_23 : decode cX10_init 23 = .ok (.sipush 1002, 3) := by decide +kernel
theorem dX10_init_26 : decode cX10_init 26 = .ok (.newarray .int, 2) := by decide +kernel
theorem dX10_init_28 : decode cX10_init 28 = .ok (.putfield 27, 3) := by decide +kernel
theorem dX10_init_31 : decode cX10_init 31 = .ok (.aload_n 0, 1) := by decide +kernel
theorem dX10_init_32 : decode cX10_init 32 = .ok (.sipush 1002, 3) := by decide +kernel
theorem dX10_init_35 : decode cX10_init 35 = .ok (.newarray .long, 2) := by decide +kernel
theorem dX10_init_37 : decode cX10_init 37 = .ok (.putfield 30, 3) := by decide +kernel
theorem dX10_init_40 : decode cX10_init 40 = .ok (.aload_n 0, 1) := by decide +kernel
theorem dX10_init_41 : decode cX10_init 41 = .ok (.bipush 17, 2) := by decide +kernel
theorem dX10_init_43 : decode cX10_init 43 = .ok (.newarray .long, 2) := by decide +kernel
theorem dX10_init_45 : decode cX10_init 45 = .ok (.dup, 1) := by decide +kernel
theorem dX10_init_46 : decode cX10_init 46 = .ok (.iconst 0, 1) := by decide +kernel
theorem dX10_init_47 : decode cX10_init 47 = .ok (.ldc2_w 34, 3) := by decide +kernel
theorem dX10_init_50 : decode cX10_init 50 = .ok (.lastore, 1) := by decide +kernel
theorem dX10_init_51 : decode cX10_init 51 = .ok (.dup, 1) := by decide +kernel
theorem dX10_init_52 : decode cX10_init 52 = .ok (.iconst 1, 1) := by decide +kernel
theorem dX10_init_53 : decode cX10_init 53 = .ok (.ldc2_w 36, 3) := by decide +kernel
theorem dX10_init_56 : decode cX10_init 56 = .ok (.lastore, 1) := by decide +kernel
theorem dX10_init_57 : decode cX10_init 57 = .ok (.dup, 1) := by decide +kernel
theorem dX10_init_58 : decode cX10_init 58 = .ok (.iconst 2, 1) := by decide +kernel
theorem dX10_init_59 : decode cX10_init 59 = .ok (.ldc2_w 38, 3) := by decide +kernel
theorem dX10_init_62 : decode cX10_init 62 = .ok (.lastore, 1) := by decide +kernel
theorem dX10_init_63 : decode cX10_init 63 = .ok (.dup, 1) := by decide +kernel
theorem dX10_init_64 : decode cX10_init 64 = .ok (.iconst 3, 1) := by decide +kernel
theorem dX10_init_65 : decode cX10_init 65 = .ok (.ldc2_w 40, 3) := by decide +kernel
theorem dX10_init_68 : decode cX10_init 68 = .ok (.lastore, 1) := by decide +kernel
theorem dX10_init_69 : decode cX10_init 69 = .ok (.dup, 1) := by decide +kernel
theorem dX10_init_70 : decode cX10_init 70 = .ok (.iconst 4, 1) := by decide +kernel
theorem dX10_init_71 : decode cX10_init 71 = .ok (.ldc2_w 42, 3) := by decide +kernel
theorem dX10_init_74 : decode cX10_init 74 = .ok (.lastore, 1) := by decide +kernel
theorem dX10_init_75 : decode cX10_init 75 = .ok (.dup, 1) := by decide +kernel
theorem dX10_init_76 : decode cX10_init 76 = .ok (.iconst 5, 1) := by decide +kernel
theorem dX10_init_77 : decode cX10_init 77 = .ok (.ldc2_w 44, 3) := by decide +kernel
theorem dX10_init_80 : decode cX10_init 80 = .ok (.lastore, 1) := by decide +kernel
theorem dX10_init_81 : decode cX10_init 81 = .ok (.dup, 1) := by decide +kernel
theorem dX10_init_82 : decode cX10_init 82 = .ok (.bipush 6, 2) := by decide +kernel
theorem dX10_init_84 : decode cX10_init 84 = .ok (.ldc2_w 46, 3) := by decide +kernel
theorem dX10_init_87 : decode cX10_init 87 = .ok (.lastore, 1) := by decide +kernel
theorem dX10_init_88 : decode cX10_init 88 = .ok (.dup, 1) := by decide +kernel
theorem dX10_init_89 : decode cX10_init 89 = .ok (.bipush 7, 2) := by decide +kernel
theorem dX10_init_91 : decode cX10_init 91 = .ok (.ldc2_w 48, 3) := by decide +kernel
theorem dX10_init_94 : decode cX10_init 94 = .ok (.lastore, 1) := by decide +kernel
theorem dX10_init_95 : decode cX10_init 95 = .ok (.dup, 1) := by decide +kernel
theorem dX10_init_96 : decode cX10_init 96 = .ok (.bipush 8, 2) := by decide +kernel
theorem dX10_init_98 : decode cX10_init 98 = .ok (.ldc2_w 50, 3) := by decide +kernel
theorem dX10_init_101 : decode cX10_init 101 = .ok (.lastore, 1) := by decide +kernel
theorem dX10_init_102 : decode cX10_init 102 = .ok (.dup, 1) := by decide +kernel
theorem dX10_init_103 : decode cX10_init 103 = .ok (.bipush 9, 2) := by decide +kernel
theorem dX10_init_105 : decode cX10_init 105 = .ok (.ldc2_w 52, 3) := by decide +kernel
theorem dX10_init_108 : decode cX10_init 108 = .ok (.lastore, 1) := by decide +kernel
theorem dX10_init_109 : decode cX10_init 109 = .ok (.dup, 1) := by decide +kernel
theorem dX10_init_110 : decode cX10_init 110 = .ok (.bipush 10, 2) := by decide +kernel
theorem dX10_init_112 : decode cX10_init 112 = .ok (.ldc2_w 54, 3) := by decide +kernel
theorem dX10_init_115 : decode cX10_init 115 = .ok (.lastore, 1) := by decide +kernel
theorem dX10_init_116 : decode cX10_init 116 = .ok (.dup, 1) := by decide +kernel
theorem dX10_init_117 : decode cX10_init 117 = .ok (.bipush 11, 2) := by decide +kernel
theorem dX10_init_119 : decode cX10_init 119 = .ok (.ldc2_w 56, 3) := by decide +kernel
theorem dX10_init_122 : decode cX10_init 122 = .ok (.lastore, 1) := by decide +kernel
theorem dX10_init_123 : decode cX10_init 123 = .ok (.dup, 1) := by decide +kernel
theorem dX10_init_124 : decode cX10_init 124 = .ok (.bipush 12, 2) := by decide +kernel
theorem dX10_init_126 : decode cX10_init 126 = .ok (.ldc2_w 58, 3) := by decide +kernel
theorem dX10_init_129 : decode cX10_init 129 = .ok (.lastore, 1) := by decide +kernel
theorem dX10_init_130 : decode cX10_init 130 = .ok (.dup, 1) := by decide +kernel
theorem dX10_init_131 : decode cX10_init 131 = .ok (.bipush 13, 2) := by decide +kernel
theorem dX10_init_133 : decode cX10_init 133 = .ok (.ldc2_w 60, 3) := by decide +kernel
theorem dX10_init_136 : decode cX10_init 136 = .ok (.lastore, 1) := by decide +kernel
theorem dX10_init_137 : decode cX10_init 137 = .ok (.dup, 1) := by decide +kernel
theorem dX10_init_138 : decode cX10_init 138 = .ok (.bipush 14, 2) := by decide +kernel
theorem dX10_init_140 : decode cX10_init 140 = .ok (.ldc2_w 62, 3) := by decide +kernel
theorem dX10_init_143 : decode cX10_init 143 = .ok (.lastore, 1) := by decide +kernel
theorem dX10_init_144 : decode cX10_init 144 = .ok (.dup, 1) := by decide +kernel
theorem dX10_init_145 : decode cX10_init 145 = .ok (.bipush 15, 2) := by decide +kernel
theorem dX10_init_147 : decode cX10_init 147 = .ok (.ldc2_w 64, 3) := by decide +kernel
theorem dX10_init_150 : decode cX10_init 150 = .ok (.lastore, 1) := by decide +kernel
theorem dX10_init_151 : decode cX10_init 151 = .ok (.dup, 1) := by decide +kernel
theorem dX10_init_152 : decode cX10_init 152 = .ok (.bipush 16, 2) := by decide +kernel
theorem dX10_init_154 : decode cX10_init 154 = .ok (.ldc2_w 66, 3) := by decide +kernel
theorem dX10_init_157 : decode cX10_init 157 = .ok (.lastore, 1) := by decide +kernel
theorem dX10_init_158 : decode cX10_init 158 = .ok (.putfield 68, 3) := by decide +kernel
theorem dX10_init_161 : decode cX10_init 161 = .ok (.aload_n 0, 1) := by decide +kernel
theorem dX10_init_162 : decode cX10_init 162 = .ok (.iconst 4, 1) := by decide +kernel
theorem dX10_init_163 : decode cX10_init 163 = .ok (.newarray .int, 2) := by decide +kernel
theorem dX10_init_165 : decode cX10_init 165 = .ok (.putfield 71, 3) := by decide +kernel
theorem dX10_init_168 : decode cX10_init 168 = .ok (.aload_n 0, 1) := by decide +kernel
theorem dX10_init_169 : decode cX10_init 169 = .ok (.iconst 4, 1) := by decide +kernel
theorem dX10_init_170 : decode cX10_init 170 = .ok (.newarray .int, 2) := by decide +kernel
theorem dX10_init_172 : decode cX10_init 172 = .ok (.putfield 74, 3) := by decide +kernel
theorem dX10_init_175 : decode cX10_init 175 = .ok (.aload_n 0, 1) := by decide +kernel
theorem dX10_init_176 : decode cX10_init 176 = .ok (.iconst 4, 1) := by decide +kernel
theorem dX10_init_177 : decode cX10_init 177 = .ok (.newarray .int, 2) := by decide +kernel
theorem dX10_init_179 : decode cX10_init 179 = .ok (.putfield 77, 3) := by decide +kernel
theorem dX10_init_182 : decode cX10_init 182 = .ok (.aload_n 0, 1) := by decide +kernel
theorem dX10_init_183 : decode cX10_init 183 = .ok (.iconst 5, 1) := by decide +kernel
theorem dX10_init_184 : decode cX10_init 184 = .ok (.newarray .int, 2) := by decide +kernel
theorem dX10_init_186 : decode cX10_init 186 = .ok (.putfield 80, 3) := by decide +kernel
theorem dX10_init_189 : decode cX10_init 189 = .ok (.aload_n 0, 1) := by decide +kernel
theorem dX10_init_190 : decode cX10_init 190 = .ok (.bipush 120, 2) := by decide +kernel
theorem dX10_init_192 : decode cX10_init 192 = .ok (.newarray .boolean, 2) := by decide +kernel
theorem dX10_init_194 : decode cX10_init 194 = .ok (.putfield 83, 3) := by decide +kernel
theorem dX10_init_197 : decode cX10_init 197 = .ok (.aload_n 0, 1) := by decide +kernel
theorem dX10_init_198 : decode cX10_init 198 = .ok (.bipush 120, 2) := by decide +kernel
theorem dX10_init_200 : decode cX10_init 200 = .ok (.newarray .int, 2) := by decide +kernel
theorem dX10_init_202 : decode cX10_init 202 = .ok (.putfield 87, 3) := by decide +kernel
theorem dX10_init_205 : decode cX10_init 205 = .ok (.aload_n 0, 1) := by decide +kernel
theorem dX10_init_206 : decode cX10_init 206 = .ok (.bipush 120, 2) := by decide +kernel
theorem dX10_init_208 : decode cX10_init 208 = .ok (.newarray .int, 2) := by decide +kernel
theorem dX10_init_210 : decode cX10_init 210 = .ok (.putfield 90, 3) := by decide +kernel
theorem dX10_init_213 : decode cX10_init 213 = .ok (.aload_n 0, 1) := by decide +kernel
theorem dX10_init_214 : decode cX10_init 214 = .ok (.bipush 120, 2) := by decide +kernel
theorem dX10_init_216 : decode cX10_init 216 = .ok (.newarray .int, 2) := by decide +kernel
theorem dX10_init_218 : decode cX10_init 218 = .ok (.putfield 93, 3) := by decide +kernel
theorem dX10_init_221 : decode cX10_init 221 = .ok (.aload_n 0, 1) := by decide +kernel
theorem dX10_init_222 : decode cX10_init 222 = .ok (.sipush 5300, 3) := by decide +kernel
theorem dX10_init_225 : decode cX10_init 225 = .ok (.newarray .int, 2) := by decide +kernel
theorem dX10_init_227 : decode cX10_init 227 = .ok (.putfield 96, 3) := by decide +kernel
theorem dX10_init_230 : decode cX10_init 230 = .ok (.aload_n 0, 1) := by decide +kernel
theorem dX10_init_231 : decode cX10_init 231 = .ok (.sipush 5300, 3) := by decide +kernel
theorem dX10_init_234 : decode cX10_init 234 = .ok (.newarray .int, 2) := by decide +kernel
theorem dX10_init_236 : decode cX10_init 236 = .ok (.putfield 99, 3) := by decide +kernel
theorem dX10_init_239 : decode cX10_init 239 = .ok (.aload_n 0, 1) := by decide +kernel
theorem dX10_init_240 : decode cX10_init 240 = .ok (.bipush 7, 2) := by decide +kernel
theorem dX10_init_242 : decode cX10_init 242 = .ok (.newarray .int, 2) := by decide +kernel
theorem dX10_init_244 : decode cX10_init 244 = .ok (.putfield 102, 3) := by decide +kernel
theorem dX10_init_247 : decode cX10_init 247 = .ok (.aload_n 0, 1) := by decide +kernel
theorem dX10_init_248 : decode cX10_init 248 = .ok (.bipush 7, 2) := by decide +kernel
theorem dX10_init_250 : decode cX10_init 250 = .ok (.newarray .int, 2) := by decide +kernel
theorem dX10_init_252 : decode cX10_init 252 = .ok (.putfield 105, 3) := by decide +kernel
theorem dX10_init_255 : decode cX10_init 255 = .ok (.aload_n 0, 1) := by decide +kernel
theorem dX10_init_256 : decode cX10_init 256 = .ok (.bipush 7, 2) := by decide +kernel
theorem dX10_init_258 : decode cX10_init 258 = .ok (.newarray .int, 2) := by decide +kernel
theorem dX10_init_260 : decode cX10_init 260 = .ok (.putfield 108, 3) := by decide +kernel
theorem dX10_init_263 : decode cX10_init 263 = .ok (.aload_n 0, 1) := by decide +kernel
theorem dX10_init_264 : decode cX10_init 264 = .ok (.bipush 13, 2) := by decide +kernel
theorem dX10_init_266 : decode cX10_init 266 = .ok (.newarray .int, 2) := by decide +kernel
theorem dX10_init_268 : decode cX10_init 268 = .ok (.putfield 111, 3) := by decide +kernel
theorem dX10_init_271 : decode cX10_init 271 = .ok (.aload_n 0, 1) := by decide +kernel
theorem dX10_init_272 : decode cX10_init 272 = .ok (.sipush 1060, 3) := by decide +kernel
theorem dX10_init_275 : decode cX10_init 275 = .ok (.newarray .int, 2) := by decide +kernel
theorem dX10_init_277 : decode cX10_init 277 = .ok (.putfield 114, 3) := by decide +kernel
theorem dX10_init_280 : decode cX10_init 280 = .ok (.aload_n 0, 1) := by decide +kernel
theorem dX10_init_281 : decode cX10_init 281 = .ok (.iconst 1, 1) := by decide +kernel
theorem dX10_init_282 : decode cX10_init 282 = .ok (.putfield 117, 3) := by decide +kernel
theorem dX10_init_285 : decode cX10_init 285 = .ok (.aload_n 0, 1) := by decide +kernel
theorem dX10_init_286 : decode cX10_init 286 = .ok (.iconst 4, 1) := by decide +kernel
theorem dX10_init_287 : decode cX10_init 287 = .ok (.newarray .int, 2) := by decide +kernel
theorem dX10_init_289 : decode cX10_init 289 = .ok (.putfield 120, 3) := by decide +kernel
theorem dX10_init_292 : decode cX10_init 292 = .ok (.aload_n 0, 1) := by decide +kernel
theorem dX10_init_293 : decode cX10_init 293 = .ok (.bipush 64, 2) := by decide +kernel
theorem dX10_init_295 : decode cX10_init 295 = .ok (.newarray .int, 2) := by decide +kernel
theorem dX10_init_297 : decode cX10_init 297 = .ok (.putfield 123, 3) := by decide +kernel
theorem dX10_init_300 : decode cX10_init 300 = .ok (.aload_n 0, 1) := by decide +kernel
theorem dX10_init_301 : decode cX10_init 301 = .ok (.bipush 64, 2) := by decide +kernel
theorem dX10_init_303 : decode cX10_init 303 = .ok (.newarray .int, 2) := by decide +kernel
theorem dX10_init_305 : decode cX10_init 305 = .ok (.putfield 126, 3) := by decide +kernel
theorem dX10_init_308 : decode cX10_init 308 = .ok (.aload_n 0, 1) := by decide +kernel
theorem dX10_init_309 : decode cX10_init 309 = .ok (.bipush 64, 2) := by decide +kernel
theorem dX10_init_311 : decode cX10_init 311 = .ok (.newarray .int, 2) := by decide +kernel
theorem dX10_init_313 : decode cX10_init 313 = .ok (.putfield 129, 3) := by decide +kernel
theorem dX10_init_316 : decode cX10_init 316 = .ok (.aload_n 0, 1) := by decide +kernel
theorem dX10_init_317 : decode cX10_init 317 = .ok (.bipush 64, 2) := by decide +kernel
theorem dX10_init_319 : decode cX10_init 319 = .ok (.newarray .boolean, 2) := by decide +kernel
theorem dX10_init_321 : decode cX10_init 321 = .ok (.putfield 132, 3) := by decide +kernel
theorem dX10_init_324 : decode cX10_init 324 = .ok (.aload_n 0, 1) := by decide +kernel
theorem dX10_init_325 : decode cX10_init 325 = .ok (.bipush 64, 2) := by decide +kernel
theorem dX10_init_327 : decode cX10_init 327 = .ok (.newarray .boolean, 2) := by decide +kernel
theorem dX10_init_329 : decode cX10_init 329 = .ok (.putfield 135, 3) := by decide +kernel
theorem dX10_init_332 : decode cX10_init 332 = .ok (.aload_n 0, 1) := by decide +kernel
theorem dX10_init_333 : decode cX10_init 333 = .ok (.iconst 4, 1) := by decide +kernel
theorem dX10_init_334 : decode cX10_init 334 = .ok (.newarray .int, 2) := by decide +kernel
theorem dX10_init_336 : decode cX10_init 336 = .ok (.putfield 138, 3) := by decide +kernel
theorem dX10_init_339 : decode cX10_init 339 = .ok (.aload_n 0, 1) := by decide +kernel
theorem dX10_init_340 : decode cX10_init 340 = .ok (.sipush 960, 3) := by decide +kernel
theorem dX10_init_343 : decode cX10_init 343 = .ok (.newarray .int, 2) := by decide +kernel
theorem dX10_init_345 : decode cX10_init 345 = .ok (.putfield 141, 3) := by decide +kernel
theorem dX10_init_348 : decode cX10_init 348 = .ok (.aload_n 0, 1) := by decide +kernel
theorem dX10_init_349 : decode cX10_init 349 = .ok (.bipush 6, 2) := by decide +kernel
theorem dX10_init_351 : decode cX10_init 351 = .ok (.putfield 144, 3) := by decide +kernel
theorem dX10_init_354 : decode cX10_init 354 = .ok (.aload_n 0, 1) := by decide +kernel
theorem dX10_init_355 : decode cX10_init 355 = .ok (.iconst 1, 1) := by decide +kernel
theorem dX10_init_356 : decode cX10_init 356 = .ok (.putfield 147, 3) := by decide +kernel
theorem dX10_init_359 : decode cX10_init 359 = .ok (.aload_n 0, 1) := by decide +kernel
theorem dX10_init_360 : decode cX10_init 360 = .ok (.iconst 1, 1) := by decide +kernel
theorem dX10_init_361 : decode cX10_init 361 = .ok (.putfield 150, 3) := by decide +kernel
theorem dX10_init_364 : decode cX10_init 364 = .ok (.aload_n 0, 1) := by decide +kernel
theorem dX10_init_365 : decode cX10_init 365 = .ok (.bipush 17, 2) := by decide +kernel
theorem dX10_init_367 : decode cX10_init 367 = .ok (.newarray .int, 2) := by decide +kernel
theorem dX10_init_369 : decode cX10_init 369 = .ok (.putfield 153, 3) := by decide +kernel
theorem dX10_init_372 : decode cX10_init 372 = .ok (.aload_n 0, 1) := by decide +kernel
theorem dX10_init_373 : decode cX10_init 373 = .ok (.bipush 16, 2) := by decide +kernel
theorem dX10_init_375 : decode cX10_init 375 = .ok (.newarray .int, 2) := by decide +kernel
theorem dX10_init_377 : decode cX10_init 377 = .ok (.putfield 156, 3) := by decide +kernel
theorem dX10_init_380 : decode cX10_init 380 = .ok (.aload_n 0, 1) := by decide +kernel
theorem dX10_init_381 : decode cX10_init 381 = .ok (.bipush 16, 2) := by decide +kernel
theorem dX10_init_383 : decode cX10_init 383 = .ok (.newarray .int, 2) := by decide +kernel
theorem dX10_init_385 : decode cX10_init 385 = .ok (.putfield 159, 3) := by decide +kernel
theorem dX10_init_388 : decode cX10_init 388 = .ok (.aload_n 0, 1) := by decide +kernel
theorem dX10_init_389 : decode cX10_init 389 = .ok (.bipush 16, 2) := by decide +kernel
theorem dX10_init_391 : decode cX10_init 391 = .ok (.newarray .int, 2) := by decide +kernel
theorem dX10_init_393 : decode cX10_init 393 = .ok (.putfield 162, 3) := by decide +kernel
theorem dX10_init_396 : decode cX10_init 396 = .ok (.aload_n 0, 1) := by decide +kernel
theorem dX10_init_397 : decode cX10_init 397 = .ok (.bipush 16, 2) := by decide +kernel
theorem dX10_init_399 : decode cX10_init 399 = .ok (.newarray .boolean, 2) := by decide +kernel
theorem dX10_init_401 : decode cX10_init 401 = .ok (.putfield 165, 3) := by decide +kernel
theorem dX10_init_404 : decode cX10_init 404 = .ok (.aload_n 0, 1) := by decide +kernel
theorem dX10_init_405 : decode cX10_init 405 = .ok (.bipush 80, 2) := by decide +kernel
theorem dX10_init_407 : decode cX10_init 407 = .ok (.newarray .int, 2) := by decide +kernel
theorem dX10_init_409 : decode cX10_init 409 = .ok (.putfield 168, 3) := by decide +kernel
theorem dX10_init_412 : decode cX10_init 412 = .ok (.aload_n 0, 1) := by decide +kernel
theorem dX10_init_413 : decode cX10_init 413 = .ok (.bipush 80, 2) := by decide +kernel
theorem dX10_init_415 : decode cX10_init 415 = .ok (.newarray .int, 2) := by decide +kernel
theorem dX10_init_417 : decode cX10_init 417 = .ok (.putfield 171, 3) := by decide +kernel
theorem dX10_init_420 : decode cX10_init 420 = .ok (.aload_n 0, 1) := by decide +kernel
theorem dX10_init_421 : decode cX10_init 421 = .ok (.bipush 80, 2) := by decide +kernel
theorem dX10_init_423 : decode cX10_init 423 = .ok (.newarray .int, 2) := by decide +kernel
theorem dX10_init_425 : decode cX10_init 425 = .ok (.putfield 174, 3) := by decide +kernel
theorem dX10_init_428 : decode cX10_init 428 = .ok (.aload_n 0, 1) := by decide +kernel
theorem dX10_init_429 : decode cX10_init 429 = .ok (.bipush 80, 2) := by decide +kernel
theorem dX10_init_431 : decode cX10_init 431 = .ok (.newarray .boolean, 2) := by decide +kernel
theorem dX10_init_433 : decode cX10_init 433 = .ok (.putfield 177, 3) := by decide +kernel
theorem dX10_init_436 : decode cX10_init 436 = .ok (.aload_n 0, 1) := by decide +kernel
theorem dX10_init_437 : decode cX10_init 437 = .ok (.sipush 240, 3) := by decide +kernel
theorem dX10_init_440 : decode cX10_init 440 = .ok (.newarray .int, 2) := by decide +kernel
theorem dX10_init_442 : decode cX10_init 442 = .ok (.putfield 180, 3) := by decide +kernel
theorem dX10_init_445 : decode cX10_init 445 = .ok (.aload_n 0, 1) := by decide +kernel
theorem dX10_init_446 : decode cX10_init 446 = .ok (.bipush 16, 2) := by decide +kernel
theorem dX10_init_448 : decode cX10_init 448 = .ok (.newarray .int, 2) := by decide +kernel
theorem dX10_init_450 : decode cX10_init 450 = .ok (.putfield 183, 3) := by decide +kernel
theorem dX10_init_453 : decode cX10_init 453 = .ok (.aload_n 0, 1) := by decide +kernel
theorem dX10_init_454 : decode cX10_init 454 = .ok (.bipush 16, 2) := by decide +kernel
theorem dX10_init_456 : decode cX10_init 456 = .ok (.newarray .int, 2) := by decide +kernel
theorem dX10_init_458 : decode cX10_init 458 = .ok (.putfield 186, 3) := by decide +kernel
theorem dX10_init_461 : decode cX10_init 461 = .ok (.aload_n 0, 1) := by decide +kernel
theorem dX10_init_462 : decode cX10_init 462 = .ok (.sipush 320, 3) := by decide +kernel
theorem dX10_init_465 : decode cX10_init 465 = .ok (.newarray .int, 2) := by decide +kernel
theorem dX10_init_467 : decode cX10_init 467 = .ok (.putfield 189, 3) := by decide +kernel
theorem dX10_init_470 : decode cX10_init 470 = .ok (.iconst 0, 1) := by decide +kernel
theorem dX10_init_471 : decode cX10_init 471 = .ok (.istore_n 1, 1) := by decide +kernel
theorem dX10_init_472 : decode cX10_init 472 = .ok (.iload_n 1, 1) := by decide +kernel
theorem dX10_init_473 : decode cX10_init 473 = .ok (.iconst 4, 1) := by decide +kernel
theorem dX10_init_474 : decode cX10_init 474 = .ok (.if_icmp .ge 25, 3) := by decide +kernel
theorem dX10_init_477 : decode cX10_init 477 = .ok (.aload_n 0, 1) := by decide +kernel
theorem dX10_init_478 : decode cX10_init 478 = .ok (.getfield 74, 3) := by decide +kernel
theorem dX10_init_481 : decode cX10_init 481 = .ok (.iload_n 1, 1) := by decide +kernel
theorem dX10_init_482 : decode cX10_init 482 = .ok (.bipush 99, 2) := by decide +kernel
theorem dX10_init_484 : decode cX10_init 484 = .ok (.iastore, 1) := by decide +kernel
theorem dX10_init_485 : decode cX10_init 485 = .ok (.aload_n 0, 1) := by decide +kernel
theorem dX10_init_486 : decode cX10_init 486 = .ok (.getfield 77, 3) := by decide +kernel
theorem dX10_init_489 : decode cX10_init 489 = .ok (.iload_n 1, 1) := by decide +kernel
theorem dX10_init_490 : decode cX10_init 490 = .ok (.bipush 99, 2) := by decide +kernel
theorem dX10_init_492 : decode cX10_init 492 = .ok (.iastore, 1) := by decide +kernel
theorem dX10_init_493 : decode cX10_init 493 = .ok (.iinc 1 1, 3) := by decide +kernel
theorem dX10_init_496 : decode cX10_init 496 = .ok (.goto (-24), 3) := by decide +kernel
theorem dX10_init_499 : decode cX10_init 499 = .ok (.iconst 0, 1) := by decide +kernel
theorem dX10_init_500 : decode cX10_init 500 = .ok (.istore_n 1, 1) := by decide +kernel
theorem dX10_init_501 : decode cX10_init 501 = .ok (.iload_n 1, 1) := by decide +kernel
theorem dX10_init_502 : decode cX10_init 502 = .ok (.sipush 960, 3) := by decide +kernel
theorem dX10_init_505 : decode cX10_init 505 = .ok (.if_icmp .ge 16, 3) := by decide +kernel
theorem dX10_init_508 : decode cX10_init 508 = .ok (.aload_n 0, 1) := by decide +kernel
theorem dX10_init_509 : decode cX10_init 509 = .ok (.getfield 141, 3) := by decide +kernel
theorem dX10_init_512 : decode cX10_init 512 = .ok (.iload_n 1, 1) := by decide +kernel
theorem dX10_init_513 : decode cX10_init 513 = .ok (.iconst (-1), 1) := by decide +kernel
theorem dX10_init_514 : decode cX10_init 514 = .ok (.iastore, 1) := by decide +kernel
theorem dX10_init_515 : decode cX10_init 515 = .ok (.iinc 1 1, 3) := by decide +kernel
theorem dX10_init_518 : decode cX10_init 518 = .ok (.goto (-17), 3) := by decide +kernel
theorem dX10_init_521 : decode cX10_init 521 = .ok (.return_, 1) := by decide +kernel
theorem dX10_isLetter_0 : decode cX10_isLetter 0 = .ok (.iload_n 0, 1) := by decide +kernel
theorem dX10_isLetter_1 : decode cX10_isLetter 1 = .ok (.bipush 97, 2) := by decide +kernel
theorem dX10_isLetter_3 : decode cX10_isLetter 3 = .ok (.if_icmp .lt 13, 3) := by decide +kernel
theorem dX10_isLetter_6 : decode cX10_isLetter 6 = .ok (.iload_n 0, 1) := by decide +kernel
theorem dX10_isLetter_7 : decode cX10_isLetter 7 = .ok (.bipush 122, 2) := by decide +kernel
theorem dX10_isLetter_9 : decode cX10_isLetter 9 = .ok (.if_icmp .gt 7, 3) := by decide +kernel
theorem dX10_isLetter_12 : decode cX10_isLetter 12 = .ok (.iconst 1, 1) := by decide +kernel
theorem dX10_isLetter_13 : decode cX10_isLetter 13 = .ok (.goto 4, 3) := by decide +kernel
theorem dX10_isLetter_16 : decode cX10_isLetter 16 = .ok (.iconst 0, 1) := by decide +kernel
theorem dX10_isLetter_17 : decode cX10_isLetter 17 = .ok (.ireturn, 1) := by decide +kernel
theorem dX10_isDigit_0 : decode cX10_isDigit 0 = .ok (.iload_n 0, 1) := by decide +kernel
theorem dX10_isDigit_1 : decode cX10_isDigit 1 = .ok (.bipush 48, 2) := by decide +kernel
theorem dX10_isDigit_3 : decode cX10_isDigit 3 = .ok (.if_icmp .lt 13, 3) := by decide +kernel
theorem dX10_isDigit_6 : decode cX10_isDigit 6 = .ok (.iload_n 0, 1) := by decide +kernel
theorem dX10_isDigit_7 : decode cX10_isDigit 7 = .ok (.bipush 57, 2) := by decide +kernel
theorem dX10_isDigit_9 : decode cX10_isDigit 9 = .ok (.if_icmp .gt 7, 3) := by decide +kernel
theorem dX10_isDigit_12 : decode cX10_isDigit 12 = .ok (.iconst 1, 1) := by decide +kernel
theorem dX10_isDigit_13 : decode cX10_isDigit 13 = .ok (.goto 4, 3) := by decide +kernel
theorem dX10_isDigit_16 : decode cX10_isDigit 16 = .ok (.iconst 0, 1) := by decide +kernel
theorem dX10_isDigit_17 : decode cX10_isDigit 17 = .ok (.ireturn, 1) := by decide +kernel
theorem dX10_rank_0 : decode cX10_rank 0 = .ok (.iload_n 0, 1) := by decide +kernel
theorem dX10_rank_1 : decode cX10_rank 1 = .ok (.invokestatic 192, 3) := by decide +kernel
theorem dX10_rank_4 : decode cX10_rank 4 = .ok (.ifCond .eq 10, 3) := by decide +kernel
theorem dX10_rank_7 : decode cX10_rank 7 = .ok (.iload_n 0, 1) := by decide +kernel
theorem dX10_rank_8 : decode cX10_rank 8 = .ok (.bipush 96, 2) := by decide +kernel
theorem dX10_rank_10 : decode cX10_rank 10 = .ok (.isub, 1) := by decide +kernel
theorem dX10_rank_11 : decode cX10_rank 11 = .ok (.goto 7, 3) := by decide +kernel
theorem dX10_rank_14 : decode cX10_rank 14 = .ok (.iload_n 0, 1) := by decide +kernel
theorem dX10_rank_15 : decode cX10_rank 15 = .ok (.bipush 21, 2) := by decide +kernel
theorem dX10_rank_17 : decode cX10_rank 17 = .ok (.isub, 1) := by decide +kernel
theorem dX10_rank_18 : decode cX10_rank 18 = .ok (.ireturn, 1) := by decide +kernel
theorem dX10_isSignOf_0 : decode cX10_isSignOf 0 = .ok (.iload_n 0, 1) := by decide +kernel
theorem dX10_isSignOf_1 : decode cX10_isSignOf 1 = .ok (.bipush 40, 2) := by decide +kernel
theorem dX10_isSignOf_3 : decode cX10_isSignOf 3 = .ok (.if_icmp .eq 39, 3) := by decide +kernel
theorem dX10_isSignOf_6 : decode cX10_isSignOf 6 = .ok (.iload_n 0, 1) := by decide +kernel
theorem dX10_isSignOf_7 : decode cX10_isSignOf 7 = .ok (.bipush 41, 2) := by decide +kernel
theorem dX10_isSignOf_9 : decode cX10_isSignOf 9 = .ok (.if_icmp .eq 33, 3) := by decide +kernel
theorem dX10_isSignOf_12 : decode cX10_isSignOf 12 = .ok (.iload_n 0, 1) := by decide +kernel
theorem dX10_isSignOf_13 : decode cX10_isSignOf 13 = .ok (.bipush 59, 2) := by decide +kernel
theorem dX10_isSignOf_15 : decode cX10_isSignOf 15 = .ok (.if_icmp .eq 27, 3) := by decide +kernel
theorem dX10_isSignOf_18 : decode cX10_isSignOf 18 = .ok (.iload_n 0, 1) := by decide +kernel
theorem dX10_isSignOf_19 : decode cX10_isSignOf 19 = .ok (.bipush 61, 2) := by decide +kernel
theorem dX10_isSignOf_21 : decode cX10_isSignOf 21 = .ok (.if_icmp .eq 21, 3) := by decide +kernel
theorem dX10_isSignOf_24 : decode cX10_isSignOf 24 = .ok (.iload_n 0, 1) := by decide +kernel
theorem dX10_isSignOf_25 : decode cX10_isSignOf 25 = .ok (.bipush 60, 2) := by decide +kernel
theorem dX10_isSignOf_27 : decode cX10_isSignOf 27 = .ok (.if_icmp .eq 15, 3) := by decide +kernel
theorem dX10_isSignOf_30 : decode cX10_isSignOf 30 = .ok (.iload_n 0, 1) := by decide +kernel
theorem dX10_isSignOf_31 : decode cX10_isSignOf 31 = .ok (.bipush 43, 2) := by decide +kernel
theorem dX10_isSignOf_33 : decode cX10_isSignOf 33 = .ok (.if_icmp .eq 9, 3) := by decide +kernel
theorem dX10_isSignOf_36 : decode cX10_isSignOf 36 = .ok (.iload_n 0, 1) := by decide +kernel
theorem dX10_isSignOf_37 : decode cX10_isSignOf 37 = .ok (.bipush 45, 2) := by decide +kernel
theorem dX10_isSignOf_39 : decode cX10_isSignOf 39 = .ok (.if_icmp .ne 7, 3) := by decide +kernel
theorem dX10_isSignOf_42 : decode cX10_isSignOf 42 = .ok (.iconst 1, 1) := by decide +kernel
theorem dX10_isSignOf_43 : decode cX10_isSignOf 43 = .ok (.goto 4, 3) := by decide +kernel
theorem dX10_isSignOf_46 : decode cX10_isSignOf 46 = .ok (.iconst 0, 1) := by decide +kernel
theorem dX10_isSignOf_47 : decode cX10_isSignOf 47 = .ok (.ireturn, 1) := by decide +kernel
theorem dX10_cutAll_0 : decode cX10_cutAll 0 = .ok (.aload_n 0, 1) := by decide +kernel
theorem dX10_cutAll_1 : decode cX10_cutAll 1 = .ok (.aload_n 0, 1) := by decide +kernel
theorem dX10_cutAll_2 : decode cX10_cutAll 2 = .ok (.getfield 11, 3) := by decide +kernel
theorem dX10_cutAll_5 : decode cX10_cutAll 5 = .ok (.putfield 196, 3) := by decide +kernel
theorem dX10_cutAll_8 : decode cX10_cutAll 8 = .ok (.aload_n 0, 1) := by decide +kernel
theorem dX10_cutAll_9 : decode cX10_cutAll 9 = .ok (.iconst 0, 1) := by decide +kernel
theorem dX10_cutAll_10 : decode cX10_cutAll 10 = .ok (.putfield 11, 3) := by decide +kernel
theorem dX10_cutAll_13 : decode cX10_cutAll 13 = .ok (.iconst 0, 1) := by decide +kernel
theorem dX10_cutAll_14 : decode cX10_cutAll 14 = .ok (.istore_n 1, 1) := by decide +kernel
theorem dX10_cutAll_15 : decode cX10_cutAll 15 = .ok (.iconst 0, 1) := by decide +kernel
theorem dX10_cutAll_16 : decode cX10_cutAll 16 = .ok (.istore_n 2, 1) := by decide +kernel
theorem dX10_cutAll_17 : decode cX10_cutAll 17 = .ok (.iload_n 2, 1) := by decide +kernel
theorem dX10_cutAll_18 : decode cX10_cutAll 18 = .ok (.aload_n 0, 1) := by decide +kernel
theorem dX10_cutAll_19 : decode cX10_cutAll 19 = .ok (.getfield 196, 3) := by decide +kernel
theorem dX10_cutAll_22 : decode cX10_cutAll 22 = .ok (.if_icmp .ge 257, 3) := by decide +kernel
theorem dX10_cutAll_25 : decode cX10_cutAll 25 = .ok (.aload_n 0, 1) := by decide +kernel
theorem dX10_cutAll_26 : decode cX10_cutAll 26 = .ok (.getfield 14, 3) := by decide +kernel
theorem dX10_cutAll_29 : decode cX10_cutAll 29 = .ok (.iload_n 2, 1) := by decide +kernel
theorem dX10_cutAll_30 : decode cX10_cutAll 30 = .ok (.iaload, 1) := by decide +kernel
theorem dX10_cutAll_31 : decode cX10_cutAll 31 = .ok (.istore_n 3, 1) := by decide +kernel
theorem dX10_cutAll_32 : decode cX10_cutAll 32 = .ok (.iload_n 3, 1) := by decide +kernel
theorem dX10_cutAll_33 : decode cX10_cutAll 33 = .ok (.bipush 10, 2) := by decide +kernel
theorem dX10_cutAll_35 : decode cX10_cutAll 35 = .ok (.if_icmp .eq 9, 3) := by decide +kernel
theorem dX10_cutAll_38 : decode cX10_cutAll 38 = .ok (.iload_n 3, 1) := by decide +kernel
theorem dX10_cutAll_39 : decode cX10_cutAll 39 = .ok (.bipush 32, 2) := by decide +kernel
theorem dX10_cutAll_41 : decode cX10_cutAll 41 = .ok (.if_icmp .ne 9, 3) := by decide +kernel
theorem dX10_cutAll_44 : decode cX10_cutAll 44 = .ok (.iinc 2 1, 3) := by decide +kernel
theorem dX10_cutAll_47 : decode cX10_cutAll 47 = .ok (.goto (-30), 3) := by decide +kernel
theorem dX10_cutAll_50 : decode cX10_cutAll 50 = .ok (.iload_n 2, 1) := by decide +kernel
theorem dX10_cutAll_51 : decode cX10_cutAll 51 = .ok (.istore 4, 2) := by decide +kernel
theorem dX10_cutAll_53 : decode cX10_cutAll 53 = .ok (.lconst 0, 1) := by decide +kernel
theorem dX10_cutAll_54 : decode cX10_cutAll 54 = .ok (.lstore 5, 2) := by decide +kernel
theorem dX10_cutAll_56 : decode cX10_cutAll 56 = .ok (.aload_n 0, 1) := by decide +kernel
theorem dX10_cutAll_57 : decode cX10_cutAll 57 = .ok (.getfield 27, 3) := by decide +kernel
theorem dX10_cutAll_60 : decode cX10_cutAll 60 = .ok (.iload_n 1, 1) := by decide +kernel
theorem dX10_cutAll_61 : decode cX10_cutAll 61 = .ok (.iload_n 2, 1) := by decide +kernel
theorem dX10_cutAll_62 : decode cX10_cutAll 62 = .ok (.iastore, 1) := by decide +kernel
theorem dX10_cutAll_63 : decode cX10_cutAll 63 = .ok (.iload_n 3, 1) := by decide +kernel
theorem dX10_cutAll_64 : decode cX10_cutAll 64 = .ok (.invokestatic 192, 3) := by decide +kernel
theorem dX10_cutAll_67 : decode cX10_cutAll 67 = .ok (.ifCond .eq 85, 3) := by decide +kernel
theorem dX10_cutAll_70 : decode cX10_cutAll 70 = .ok (.iload_n 2, 1) := by decide +kernel
theorem dX10_cutAll_71 : decode cX10_cutAll 71 = .ok (.aload_n 0, 1) := by decide +kernel
theorem dX10_cutAll_72 : decode cX10_cutAll 72 = .ok (.getfield 196, 3) := by decide +kernel
theorem dX10_cutAll_75 : decode cX10_cutAll 75 = .ok (.if_icmp .ge 54, 3) := by decide +kernel
theorem dX10_cutAll_78 : decode cX10_cutAll 78 = .ok (.aload_n 0, 1) := by decide +kernel
theorem dX10_cutAll_79 : decode cX10_cutAll 79 = .ok (.getfield 14, 3) := by decide +kernel
theorem dX10_cutAll_82 : decode cX10_cutAll 82 = .ok (.iload_n 2, 1) := by decide +kernel
theorem dX10_cutAll_83 : decode cX10_cutAll 83 = .ok (.iaload, 1) := by decide +kernel
theorem dX10_cutAll_84 : decode cX10_cutAll 84 = .ok (.invokestatic 192, 3) := by decide +kernel
theorem dX10_cutAll_87 : decode cX10_cutAll 87 = .ok (.ifCond .eq 42, 3) := by decide +kernel
theorem dX10_cutAll_90 : decode cX10_cutAll 90 = .ok (.iload_n 2, 1) := by decide +kernel
theorem dX10_cutAll_91 : decode cX10_cutAll 91 = .ok (.iload 4, 2) := by decide +kernel
theorem dX10_cutAll_93 : decode cX10_cutAll 93 = .ok (.isub, 1) := by decide +kernel
theorem dX10_cutAll_94 : decode cX10_cutAll 94 = .ok (.bipush 8, 2) := by decide +kernel
theorem dX10_cutAll_96 : decode cX10_cutAll 96 = .ok (.if_icmp .ge 23, 3) := by decide +kernel
theorem dX10_cutAll_99 : decode cX10_cutAll 99 = .ok (.ldc2_w 199, 3) := by decide +kernel
theorem dX10_cutAll_102 : decode cX10_cutAll 102 = .ok (.lload 5, 2) := by decide +kernel
theorem dX10_cutAll_104 : decode cX10_cutAll 104 = .ok (.lmul, 1) := by decide +kernel
theorem dX10_cutAll_105 : decode cX10_cutAll 105 = .ok (.aload_n 0, 1) := by decide +kernel
theorem dX10_cutAll_106 : decode cX10_cutAll 106 = .ok (.getfield 14, 3) := by decide +kernel
theorem dX10_cutAll_109 : decode cX10_cutAll 109 = .ok (.iload_n 2, 1) := by decide +kernel
theorem dX10_cutAll_110 : decode cX10_cutAll 110 = .ok (.iaload, 1) := by decide +kernel
theorem dX10_cutAll_111 : decode cX10_cutAll 111 = .ok (.invokestatic 201, 3) := by decide +kernel
theorem dX10_cutAll_114 : decode cX10_cutAll 114 = .ok (.i2l, 1) := by decide +kernel
theorem dX10_cutAll_115 : decode cX10_cutAll 115 = .ok (.ladd, 1) := by decide +kernel
theorem dX10_cutAll_116 : decode cX10_cutAll 116 = .ok (.goto 5, 3) := by decide +kernel
theorem dX10_cutAll_119 : decode cX10_cutAll 119 = .ok (.lload 5, 2) := by decide +kernel
theorem dX10_cutAll_121 : decode cX10_cutAll 121 = .ok (.lstore 5, 2) := by decide +kernel
theorem dX10_cutAll_123 : decode cX10_cutAll 123 = .ok (.iinc 2 1, 3) := by decide +kernel
theorem dX10_cutAll_126 : decode cX10_cutAll 126 = .ok (.goto (-56), 3) := by decide +kernel
theorem dX10_cutAll_129 : decode cX10_cutAll 129 = .ok (.aload_n 0, 1) := by decide +kernel
theorem dX10_cutAll_130 : decode cX10_cutAll 130 = .ok (.getfield 24, 3) := by decide +kernel
theorem dX10_cutAll_133 : decode cX10_cutAll 133 = .ok (.iload_n 1, 1) := by decide +kernel
theorem dX10_cutAll_134 : decode cX10_cutAll 134 = .ok (.iload_n 2, 1) := by decide +kernel
theorem dX10_cutAll_135 : decode cX10_cutAll 135 = .ok (.iload 4, 2) := by decide +kernel
theorem dX10_cutAll_137 : decode cX10_cutAll 137 = .ok (.isub, 1) := by decide +kernel
theorem dX10_cutAll_138 : decode cX10_cutAll 138 = .ok (.bipush 8, 2) := by decide +kernel
theorem dX10_cutAll_140 : decode cX10_cutAll 140 = .ok (.if_icmp .le 7, 3) := by decide +kernel
theorem dX10_cutAll_143 : decode cX10_cutAll 143 = .ok (.iconst 4, 1) := by decide +kernel
theorem dX10_cutAll_144 : decode cX10_cutAll 144 = .ok (.goto 4, 3) := by decide +kernel
theorem dX10_cutAll_147 : decode cX10_cutAll 147 = .ok (.iconst 1, 1) := by decide +kernel
theorem dX10_cutAll_148 : decode cX10_cutAll 148 = .ok (.iastore, 1) := by decide +kernel
theorem dX10_cutAll_149 : decode cX10_cutAll 149 = .ok (.goto 116, 3) := by decide +kernel
theorem dX10_cutAll_152 : decode cX10_cutAll 152 = .ok (.iload_n 3, 1) := by decide +kernel
theorem dX10_cutAll_153 : decode cX10_cutAll 153 = .ok (.invokestatic 205, 3) := by decide +kernel
theorem dX10_cutAll_156 : decode cX10_cutAll 156 = .ok (.ifCond .eq 84, 3) := by decide +kernel
theorem dX10_cutAll_159 : decode cX10_cutAll 159 = .ok (.iload_n 2, 1) := by decide +kernel
theorem dX10_cutAll_160 : decode cX10_cutAll 160 = .ok (.aload_n 0, 1) := by decide +kernel
theorem dX10_cutAll_161 : decode cX10_cutAll 161 = .ok (.getfield 196, 3) := by decide +kernel
theorem dX10_cutAll_164 : decode cX10_cutAll 164 = .ok (.if_icmp .ge 54, 3) := by decide +kernel
theorem dX10_cutAll_167 : decode cX10_cutAll 167 = .ok (.aload_n 0, 1) := by decide +kernel
theorem dX10_cutAll_168 : decode cX10_cutAll 168 = .ok (.getfield 14, 3) := by decide +kernel
theorem dX10_cutAll_171 : decode cX10_cutAll 171 = .ok (.iload_n 2, 1) := by decide +kernel
theorem dX10_cutAll_172 : decode cX10_cutAll 172 = .ok (.iaload, 1) := by decide +kernel
theorem dX10_cutAll_173 : decode cX10_cutAll 173 = .ok (.invokestatic 205, 3) := by decide +kernel
theorem dX10_cutAll_176 : decode cX10_cutAll 176 = .ok (.ifCond .eq 42, 3) := by decide +kernel
theorem dX10_cutAll_179 : decode cX10_cutAll 179 = .ok (.iload_n 2, 1) := by decide +kernel
theorem dX10_cutAll_180 : decode cX10_cutAll 180 = .ok (.iload 4, 2) := by decide +kernel
theorem dX10_cutAll_182 : decode cX10_cutAll 182 = .ok (.isub, 1) := by decide +kernel
theorem dX10_cutAll_183 : decode cX10_cutAll 183 = .ok (.iconst 4, 1) := by decide +kernel
theorem dX10_cutAll_184 : decode cX10_cutAll 184 = .ok (.if_icmp .ge 24, 3) := by decide +kernel
theorem dX10_cutAll_187 : decode cX10_cutAll 187 = .ok (.ldc2_w 208, 3) := by decide +kernel
theorem dX10_cutAll_190 : decode cX10_cutAll 190 = .ok (.lload 5, 2) := by decide +kernel
theorem dX10_cutAll_192 : decode cX10_cutAll 192 = .ok (.lmul, 1) := by decide +kernel
theorem dX10_cutAll_193 : decode cX10_cutAll 193 = .ok (.aload_n 0, 1) := by decide +kernel
theorem dX10_cutAll_194 : decode cX10_cutAll 194 = .ok (.getfield 14, 3) := by decide +kernel
theorem dX10_cutAll_197 : decode cX10_cutAll 197 = .ok (.iload_n 2, 1) := by decide +kernel
theorem dX10_cutAll_198 : decode cX10_cutAll 198 = .ok (.iaload, 1) := by decide +kernel
theorem dX10_cutAll_199 : decode cX10_cutAll 199 = .ok (.i2l, 1) := by decide +kernel
theorem dX10_cutAll_200 : decode cX10_cutAll 200 = .ok (.ladd, 1) := by decide +kernel
theorem dX10_cutAll_201 : decode cX10_cutAll 201 = .ok (.ldc2_w 210, 3) := by decide +kernel
theorem dX10_cutAll_204 : decode cX10_cutAll 204 = .ok (.lsub, 1) := by decide +kernel
theorem dX10_cutAll_205 : decode cX10_cutAll 205 = .ok (.goto 5, 3) := by decide +kernel
theorem dX10_cutAll_208 : decode cX10_cutAll 208 = .ok (.lload 5, 2) := by decide +kernel
theorem dX10_cutAll_210 : decode cX10_cutAll 210 = .ok (.lstore 5, 2) := by decide +kernel
theorem dX10_cutAll_212 : decode cX10_cutAll 212 = .ok (.iinc 2 1, 3) := by decide +kernel
theorem dX10_cutAll_215 : decode cX10_cutAll 215 = .ok (.goto (-56), 3) := by decide +kernel
theorem dX10_cutAll_218 : decode cX10_cutAll 218 = .ok (.aload_n 0, 1) := by decide +kernel
theorem dX10_cutAll_219 : decode cX10_cutAll 219 = .ok (.getfield 24, 3) := by decide +kernel
theorem dX10_cutAll_222 : decode cX10_cutAll 222 = .ok (.iload_n 1, 1) := by decide +kernel
theorem dX10_cutAll_223 : decode cX10_cutAll 223 = .ok (.iload_n 2, 1) := by decide +kernel
theorem dX10_cutAll_224 : decode cX10_cutAll 224 = .ok (.iload 4, 2) := by decide +kernel
theorem dX10_cutAll_226 : decode cX10_cutAll 226 = .ok (.isub, 1) := by decide +kernel
theorem dX10_cutAll_227 : decode cX10_cutAll 227 = .ok (.iconst 4, 1) := by decide +kernel
theorem dX10_cutAll_228 : decode cX10_cutAll 228 = .ok (.if_icmp .le 7, 3) := by decide +kernel
theorem dX10_cutAll_231 : decode cX10_cutAll 231 = .ok (.iconst 4, 1) := by decide +kernel
theorem dX10_cutAll_232 : decode cX10_cutAll 232 = .ok (.goto 4, 3) := by decide +kernel
theorem dX10_cutAll_235 : decode cX10_cutAll 235 = .ok (.iconst 2, 1) := by decide +kernel
theorem dX10_cutAll_236 : decode cX10_cutAll 236 = .ok (.iastore, 1) := by decide +kernel
theorem dX10_cutAll_237 : decode cX10_cutAll 237 = .ok (.goto 28, 3) := by decide +kernel
theorem dX10_cutAll_240 : decode cX10_cutAll 240 = .ok (.iload_n 3, 1) := by decide +kernel
theorem dX10_cutAll_241 : decode cX10_cutAll 241 = .ok (.i2l, 1) := by decide +kernel
theorem dX10_cutAll_242 : decode cX10_cutAll 242 = .ok (.lstore 5, 2) := by decide +kernel
theorem dX10_cutAll_244 : decode cX10_cutAll 244 = .ok (.aload_n 0, 1) := by decide +kernel
theorem dX10_cutAll_245 : decode cX10_cutAll 245 = .ok (.getfield 24, 3) := by decide +kernel
theorem dX10_cutAll_248 : decode cX10_cutAll 248 = .ok (.iload_n 1, 1) := by decide +kernel
theorem dX10_cutAll_249 : decode cX10_cutAll 249 = .ok (.iload_n 3, 1) := by decide +kernel
theorem dX10_cutAll_250 : decode cX10_cutAll 250 = .ok (.invokestatic 212, 3) := by decide +kernel
theorem dX10_cutAll_253 : decode cX10_cutAll 253 = .ok (.ifCond .eq 7, 3) := by decide +kernel
theorem dX10_cutAll_256 : decode cX10_cutAll 256 = .ok (.iconst 3, 1) := by decide +kernel
theorem dX10_cutAll_257 : decode cX10_cutAll 257 = .ok (.goto 4, 3) := by decide +kernel
theorem dX10_cutAll_260 : decode cX10_cutAll 260 = .ok (.iconst 4, 1) := by decide +kernel
theorem dX10_cutAll_261 : decode cX10_cutAll 261 = .ok (.iastore, 1) := by decide +kernel
theorem dX10_cutAll_262 : decode cX10_cutAll 262 = .ok (.iinc 2 1, 3) := by decide +kernel
theorem dX10_cutAll_265 : decode cX10_cutAll 265 = .ok (.aload_n 0, 1) := by decide +kernel
theorem dX10_cutAll_266 : decode cX10_cutAll 266 = .ok (.getfield 30, 3) := by decide +kernel
theorem dX10_cutAll_269 : decode cX10_cutAll 269 = .ok (.iload_n 1, 1) := by decide +kernel
theorem dX10_cutAll_270 : decode cX10_cutAll 270 = .ok (.lload 5, 2) := by decide +kernel
theorem dX10_cutAll_272 : decode cX10_cutAll 272 = .ok (.lastore, 1) := by decide +kernel
theorem dX10_cutAll_273 : decode cX10_cutAll 273 = .ok (.iinc 1 1, 3) := by decide +kernel
theorem dX10_cutAll_276 : decode cX10_cutAll 276 = .ok (.goto (-259), 3) := by decide +kernel
theorem dX10_cutAll_279 : decode cX10_cutAll 279 = .ok (.aload_n 0, 1) := by decide +kernel
theorem dX10_cutAll_280 : decode cX10_cutAll 280 = .ok (.getfield 24, 3) := by decide +kernel
theorem dX10_cutAll_283 : decode cX10_cutAll 283 = .ok (.iload_n 1, 1) := by decide +kernel
theorem dX10_cutAll_284 : decode cX10_cutAll 284 = .ok (.iconst 0, 1) := by decide +kernel
theorem dX10_cutAll_285 : decode cX10_cutAll 285 = .ok (.iastore, 1) := by decide +kernel
theorem dX10_cutAll_286 : decode cX10_cutAll 286 = .ok (.aload_n 0, 1) := by decide +kernel
theorem dX10_cutAll_287 : decode cX10_cutAll 287 = .ok (.getfield 27, 3) := by decide +kernel
theorem dX10_cutAll_290 : decode cX10_cutAll 290 = .ok (.iload_n 1, 1) := by decide +kernel
theorem dX10_cutAll_291 : decode cX10_cutAll 291 = .ok (.aload_n 0, 1) := by decide +kernel
theorem dX10_cutAll_292 : decode cX10_cutAll 292 = .ok (.getfield 196, 3) := by decide +kernel
theorem dX10_cutAll_295 : decode cX10_cutAll 295 = .ok (.iastore, 1) := by decide +kernel
theorem dX10_cutAll_296 : decode cX10_cutAll 296 = .ok (.aload_n 0, 1) := by decide +kernel
theorem dX10_cutAll_297 : decode cX10_cutAll 297 = .ok (.iconst 0, 1) := by decide +kernel
theorem dX10_cutAll_298 : decode cX10_cutAll 298 = .ok (.putfield 215, 3) := by decide +kernel
theorem dX10_cutAll_301 : decode cX10_cutAll 301 = .ok (.aload_n 0, 1) := by decide +kernel
theorem dX10_cutAll_302 : decode cX10_cutAll 302 = .ok (.iconst 0, 1) := by decide +kernel
theorem dX10_cutAll_303 : decode cX10_cutAll 303 = .ok (.putfield 218, 3) := by decide +kernel
theorem dX10_cutAll_306 : decode cX10_cutAll 306 = .ok (.return_, 1) := by decide +kernel
theorem dX10_wrong_0 : decode cX10_wrong 0 = .ok (.aload_n 0, 1) := by decide +kernel
theorem dX10_wrong_1 : decode cX10_wrong 1 = .ok (.getfield 218, 3) := by decide +kernel
theorem dX10_wrong_4 : decode cX10_wrong 4 = .ok (.ifCond .ne 21, 3) := by decide +kernel
theorem dX10_wrong_7 : decode cX10_wrong 7 = .ok (.aload_n 0, 1) := by decide +kernel
theorem dX10_wrong_8 : decode cX10_wrong 8 = .ok (.iload_n 1, 1) := by decide +kernel
theorem dX10_wrong_9 : decode cX10_wrong 9 = .ok (.bipush 16, 2) := by decide +kernel
theorem dX10_wrong_11 : decode cX10_wrong 11 = .ok (.aload_n 0, 1) := by decide +kernel
theorem dX10_wrong_12 : decode cX10_wrong 12 = .ok (.getfield 27, 3) := by decide +kernel
theorem dX10_wrong_15 : decode cX10_wrong 15 = .ok (.aload_n 0, 1) := by decide +kernel
theorem dX10_wrong_16 : decode cX10_wrong 16 = .ok (.getfield 215, 3) := by decide +kernel
theorem dX10_wrong_19 : decode cX10_wrong 19 = .ok (.iaload, 1) := by decide +kernel
theorem dX10_wrong_20 : decode cX10_wrong 20 = .ok (.imul, 1) := by decide +kernel
theorem dX10_wrong_21 : decode cX10_wrong 21 = .ok (.iadd, 1) := by decide +kernel
theorem dX10_wrong_22 : decode cX10_wrong 22 = .ok (.putfield 218, 3) := by decide +kernel
theorem dX10_wrong_25 : decode cX10_wrong 25 = .ok (.return_, 1) := by decide +kernel
theorem dX10_isSign_0 : decode cX10_isSign 0 = .ok (.aload_n 0, 1) := by decide +kernel
theorem dX10_isSign_1 : decode cX10_isSign 1 = .ok (.getfield 218, 3) := by decide +kernel
theorem dX10_isSign_4 : decode cX10_isSign 4 = .ok (.ifCond .ne 35, 3) := by decide +kernel
theorem dX10_isSign_7 : decode cX10_isSign 7 = .ok (.aload_n 0, 1) := by decide +kernel
theorem dX10_isSign_8 : decode cX10_isSign 8 = .ok (.getfield 24, 3) := by decide +kernel
theorem dX10_isSign_11 : decode cX10_isSign 11 = .ok (.aload_n 0, 1) := by decide +kernel
theorem dX10_isSign_12 : decode cX10_isSign 12 = .ok (.getfield 215, 3) := by decide +kernel
theorem dX10_isSign_15 : decode cX10_isSign 15 = .ok (.iaload, 1) := by decide +kernel
theorem dX10_isSign_16 : decode cX10_isSign 16 = .ok (.iconst 3, 1) := by decide +kernel
theorem dX10_isSign_17 : decode cX10_isSign 17 = .ok (.if_icmp .ne 22, 3) := by decide +kernel
theorem dX10_isSign_20 : decode cX10_isSign 20 = .ok (.aload_n 0, 1) := by decide +kernel
theorem dX10_isSign_21 : decode cX10_isSign 21 = .ok (.getfield 30, 3) := by decide +kernel
theorem dX10_isSign_24 : decode cX10_isSign 24 = .ok (.aload_n 0, 1) := by decide +kernel
theorem dX10_isSign_25 : decode cX10_isSign 25 = .ok (.getfield 215, 3) := by decide +kernel
theorem dX10_isSign_28 : decode cX10_isSign 28 = .ok (.laload, 1) := by decide +kernel
theorem dX10_isSign_29 : decode cX10_isSign 29 = .ok (.iload_n 1, 1) := by decide +kernel
theorem dX10_isSign_30 : decode cX10_isSign 30 = .ok (.i2l, 1) := by decide +kernel
theorem dX10_isSign_31 : decode cX10_isSign 31 = .ok (.lcmp, 1) := by decide +kernel
theorem dX10_isSign_32 : decode cX10_isSign 32 = .ok (.ifCond .ne 7, 3) := by decide +kernel
theorem dX10_isSign_35 : decode cX10_isSign 35 = .ok (.iconst 1, 1) := by decide +kernel
theorem dX10_isSign_36 : decode cX10_isSign 36 = .ok (.goto 4, 3) := by decide +kernel
theorem dX10_isSign_39 : decode cX10_isSign 39 = .ok (.iconst 0, 1) := by decide +kernel
theorem dX10_isSign_40 : decode cX10_isSign 40 = .ok (.ireturn, 1) := by decide +kernel
theorem dX10_isWord_0 : decode cX10_isWord 0 = .ok (.aload_n 0, 1) := by decide +kernel
theorem dX10_isWord_1 : decode cX10_isWord 1 = .ok (.getfield 218, 3) := by decide +kernel
theorem dX10_isWord_4 : decode cX10_isWord 4 = .ok (.ifCond .ne 39, 3) := by decide +kernel
theorem dX10_isWord_7 : decode cX10_isWord 7 = .ok (.aload_n 0, 1) := by decide +kernel
theorem dX10_isWord_8 : decode cX10_isWord 8 = .ok (.getfield 24, 3) := by decide +kernel
theorem dX10_isWord_11 : decode cX10_isWord 11 = .ok (.aload_n 0, 1) := by decide +kernel
theorem dX10_isWord_12 : decode cX10_isWord 12 = .ok (.getfield 215, 3) := by decide +kernel
theorem dX10_isWord_15 : decode cX10_isWord 15 = .ok (.iaload, 1) := by decide +kernel
theorem dX10_isWord_16 : decode cX10_isWord 16 = .ok (.iconst 1, 1) := by decide +kernel
theorem dX10_isWord_17 : decode cX10_isWord 17 = .ok (.if_icmp .ne 26, 3) := by decide +kernel
theorem dX10_isWord_20 : decode cX10_isWord 20 = .ok (.aload_n 0, 1) := by decide +kernel
theorem dX10_isWord_21 : decode cX10_isWord 21 = .ok (.getfield 30, 3) := by decide +kernel
theorem dX10_isWord_24 : decode cX10_isWord 24 = .ok (.aload_n 0, 1) := by decide +kernel
theorem dX10_isWord_25 : decode cX10_isWord 25 = .ok (.getfield 215, 3) := by decide +kernel
theorem dX10_isWord_28 : decode cX10_isWord 28 = .ok (.laload, 1) := by decide +kernel
theorem dX10_isWord_29 : decode cX10_isWord 29 = .ok (.aload_n 0, 1) := by decide +kernel
theorem dX10_isWord_30 : decode cX10_isWord 30 = .ok (.getfield 68, 3) := by decide +kernel
theorem dX10_isWord_33 : decode cX10_isWord 33 = .ok (.iload_n 1, 1) := by decide +kernel
theorem dX10_isWord_34 : decode cX10_isWord 34 = .ok (.laload, 1) := by decide +kernel
theorem dX10_isWord_35 : decode cX10_isWord 35 = .ok (.lcmp, 1) := by decide +kernel
theorem dX10_isWord_36 : decode cX10_isWord 36 = .ok (.ifCond .ne 7, 3) := by decide +kernel
theorem dX10_isWord_39 : decode cX10_isWord 39 = .ok (.iconst 1, 1) := by decide +kernel
theorem dX10_isWord_40 : decode cX10_isWord 40 = .ok (.goto 4, 3) := by decide +kernel
theorem dX10_isWord_43 : decode cX10_isWord 43 = .ok (.iconst 0, 1) := by decide +kernel
theorem dX10_isWord_44 : decode cX10_isWord 44 = .ok (.ireturn, 1) := by decide +kernel
theorem dX10_takeSign_0 : decode cX10_takeSign 0 = .ok (.aload_n 0, 1) := by decide +kernel
theorem dX10_takeSign_1 : decode cX10_takeSign 1 = .ok (.iload_n 1, 1) := by decide +kernel
theorem dX10_takeSign_2 : decode cX10_takeSign 2 = .ok (.invokevirtual 221, 3) := by decide +kernel
theorem dX10_takeSign_5 : decode cX10_takeSign 5 = .ok (.ifCond .eq 16, 3) := by decide +kernel
theorem dX10_takeSign_8 : decode cX10_takeSign 8 = .ok (.aload_n 0, 1) := by decide +kernel
theorem dX10_takeSign_9 : decode cX10_takeSign 9 = .ok (.dup, 1) := by decide +kernel
theorem dX10_takeSign_10 : decode cX10_takeSign 10 = .ok (.getfield 215, 3) := by decide +kernel
theorem dX10_takeSign_13 : decode cX10_takeSign 13 = .ok (.iconst 1, 1) := by decide +kernel
theorem dX10_takeSign_14 : decode cX10_takeSign 14 = .ok (.iadd, 1) := by decide +kernel
theorem dX10_takeSign_15 : decode cX10_takeSign 15 = .ok (.putfield 215, 3) := by decide +kernel
theorem dX10_takeSign_18 : decode cX10_takeSign 18 = .ok (.goto 8, 3) := by decide +kernel
theorem dX10_takeSign_21 : decode cX10_takeSign 21 = .ok (.aload_n 0, 1) := by decide +kernel
theorem dX10_takeSign_22 : decode cX10_takeSign 22 = .ok (.iconst 1, 1) := by decide +kernel
theorem dX10_takeSign_23 : decode cX10_takeSign 23 = .ok (.invokevirtual 224, 3) := by decide +kernel
theorem dX10_takeSign_26 : decode cX10_takeSign 26 = .ok (.return_, 1) := by decide +kernel
theorem dX10_hasSign_0 : decode cX10_hasSign 0 = .ok (.aload_n 0, 1) := by decide +kernel
theorem dX10_hasSign_1 : decode cX10_hasSign 1 = .ok (.iload_n 1, 1) := by decide +kernel
theorem dX10_hasSign_2 : decode cX10_hasSign 2 = .ok (.invokevirtual 221, 3) := by decide +kernel
theorem dX10_hasSign_5 : decode cX10_hasSign 5 = .ok (.istore_n 2, 1) := by decide +kernel
theorem dX10_hasSign_6 : decode cX10_hasSign 6 = .ok (.aload_n 0, 1) := by decide +kernel
theorem dX10_hasSign_7 : decode cX10_hasSign 7 = .ok (.dup, 1) := by decide +kernel
theorem dX10_hasSign_8 : decode cX10_hasSign 8 = .ok (.getfield 215, 3) := by decide +kernel
theorem dX10_hasSign_11 : decode cX10_hasSign 11 = .ok (.iload_n 2, 1) := by decide +kernel
theorem dX10_hasSign_12 : decode cX10_hasSign 12 = .ok (.ifCond .eq 7, 3) := by decide +kernel
theorem dX10_hasSign_15 : decode cX10_hasSign 15 = .ok (.iconst 1, 1) := by decide +kernel
theorem dX10_hasSign_16 : decode cX10_hasSign 16 = .ok (.goto 4, 3) := by decide +kernel
theorem dX10_hasSign_19 : decode cX10_hasSign 19 = .ok (.iconst 0, 1) := by decide +kernel
theorem dX10_hasSign_20 : decode cX10_hasSign 20 = .ok (.iadd, 1) := by decide +kernel
theorem dX10_hasSign_21 : decode cX10_hasSign 21 = .ok (.putfield 215, 3) := by decide +kernel
theorem dX10_hasSign_24 : decode cX10_hasSign 24 = .ok (.iload_n 2, 1) := by decide +kernel
theorem dX10_hasSign_25 : decode cX10_hasSign 25 = .ok (.ireturn, 1) := by decide +kernel
theorem dX10_hasWord_0 : decode cX10_hasWord 0 = .ok (.aload_n 0, 1) := by decide +kernel
theorem dX10_hasWord_1 : decode cX10_hasWord 1 = .ok (.iload_n 1, 1) := by decide +kernel
theorem dX10_hasWord_2 : decode cX10_hasWord 2 = .ok (.invokevirtual 228, 3) := by decide +kernel
theorem dX10_hasWord_5 : decode cX10_hasWord 5 = .ok (.istore_n 2, 1) := by decide +kernel
theorem dX10_hasWord_6 : decode cX10_hasWord 6 = .ok (.aload_n 0, 1) := by decide +kernel
theorem dX10_hasWord_7 : decode cX10_hasWord 7 = .ok (.dup, 1) := by decide +kernel
theorem dX10_hasWord_8 : decode cX10_hasWord 8 = .ok (.getfield 215, 3) := by decide +kernel
theorem dX10_hasWord_11 : decode cX10_hasWord 11 = .ok (.iload_n 2, 1) := by decide +kernel
theorem dX10_hasWord_12 : decode cX10_hasWord 12 = .ok (.ifCond .eq 7, 3) := by decide +kernel
theorem dX10_hasWord_15 : decode cX10_hasWord 15 = .ok (.iconst 1, 1) := by decide +kernel
theorem dX10_hasWord_16 : decode cX10_hasWord 16 = .ok (.goto 4, 3) := by decide +kernel
theorem dX10_hasWord_19 : decode cX10_hasWord 19 = .ok (.iconst 0, 1) := by decide +kernel
theorem dX10_hasWord_20 : decode cX10_hasWord 20 = .ok (.iadd, 1) := by decide +kernel
theorem dX10_hasWord_21 : decode cX10_hasWord 21 = .ok (.putfield 215, 3) := by decide +kernel
theorem dX10_hasWord_24 : decode cX10_hasWord 24 = .ok (.iload_n 2, 1) := by decide +kernel
theorem dX10_hasWord_25 : decode cX10_hasWord 25 = .ok (.ireturn, 1) := by decide +kernel
theorem dX10_emit_0 : decode cX10_emit 0 = .ok (.aload_n 0, 1) := by decide +kernel
theorem dX10_emit_1 : decode cX10_emit 1 = .ok (.getfield 96, 3) := by decide +kernel
theorem dX10_emit_4 : decode cX10_emit 4 = .ok (.sipush 4240, 3) := by decide +kernel
theorem dX10_emit_7 : decode cX10_emit 7 = .ok (.aload_n 0, 1) := by decide +kernel
theorem dX10_emit_8 : decode cX10_emit 8 = .ok (.getfield 234, 3) := by decide +kernel
theorem dX10_emit_11 : decode cX10_emit 11 = .ok (.iadd, 1) := by decide +kernel
theorem dX10_emit_12 : decode cX10_emit 12 = .ok (.iload_n 1, 1) := by decide +kernel
theorem dX10_emit_13 : decode cX10_emit 13 = .ok (.iastore, 1) := by decide +kernel
theorem dX10_emit_14 : decode cX10_emit 14 = .ok (.aload_n 0, 1) := by decide +kernel
theorem dX10_emit_15 : decode cX10_emit 15 = .ok (.getfield 99, 3) := by decide +kernel
theorem dX10_emit_18 : decode cX10_emit 18 = .ok (.sipush 4240, 3) := by decide +kernel
theorem dX10_emit_21 : decode cX10_emit 21 = .ok (.aload_n 0, 1) := by decide +kernel
theorem dX10_emit_22 : decode cX10_emit 22 = .ok (.getfield 234, 3) := by decide +kernel
theorem dX10_emit_25 : decode cX10_emit 25 = .ok (.iadd, 1) := by decide +kernel
theorem dX10_emit_26 : decode cX10_emit 26 = .ok (.iload_n 2, 1) := by decide +kernel
theorem dX10_emit_27 : decode cX10_emit 27 = .ok (.iastore, 1) := by decide +kernel
theorem dX10_emit_28 : decode cX10_emit 28 = .ok (.aload_n 0, 1) := by decide +kernel
theorem dX10_emit_29 : decode cX10_emit 29 = .ok (.dup, 1) := by decide +kernel
theorem dX10_emit_30 : decode cX10_emit 30 = .ok (.getfield 234, 3) := by decide +kernel
theorem dX10_emit_33 : decode cX10_emit 33 = .ok (.iconst 1, 1) := by decide +kernel
theorem dX10_emit_34 : decode cX10_emit 34 = .ok (.iadd, 1) := by decide +kernel
theorem dX10_emit_35 : decode cX10_emit 35 = .ok (.putfield 234, 3) := by decide +kernel
theorem dX10_emit_38 : decode cX10_emit 38 = .ok (.return_, 1) := by decide +kernel
theorem dX10_rules_0 : decode cX10_rules 0 = .ok (.aload_n 0, 1) := by decide +kernel
theorem dX10_rules_1 : decode cX10_rules 1 = .ok (.iconst 0, 1) := by decide +kernel
theorem dX10_rules_2 : decode cX10_rules 2 = .ok (.putfield 1, 3) := by decide +kernel
theorem dX10_rules_5 : decode cX10_rules 5 = .ok (.aload_n 0, 1) := by decide +kernel
theorem dX10_rules_6 : decode cX10_rules 6 = .ok (.invokevirtual 237, 3) := by decide +kernel
theorem dX10_rules_9 : decode cX10_rules 9 = .ok (.aload_n 0, 1) := by decide +kernel
theorem dX10_rules_10 : decode cX10_rules 10 = .ok (.getfield 80, 3) := by decide +kernel
theorem dX10_rules_13 : decode cX10_rules 13 = .ok (.iconst 4, 1) := by decide +kernel
theorem dX10_rules_14 : decode cX10_rules 14 = .ok (.iconst 0, 1) := by decide +kernel
theorem dX10_rules_15 : decode cX10_rules 15 = .ok (.iastore, 1) := by decide +kernel
theorem dX10_rules_16 : decode cX10_rules 16 = .ok (.aload_n 0, 1) := by decide +kernel
theorem dX10_rules_17 : decode cX10_rules 17 = .ok (.iconst 0, 1) := by decide +kernel
theorem dX10_rules_18 : decode cX10_rules 18 = .ok (.putfield 234, 3) := by decide +kernel
theorem dX10_rules_21 : decode cX10_rules 21 = .ok (.aload_n 0, 1) := by decide +kernel
theorem dX10_rules_22 : decode cX10_rules 22 = .ok (.getfield 218, 3) := by decide +kernel
theorem dX10_rules_25 : decode cX10_rules 25 = .ok (.ifCond .ne 22, 3) := by decide +kernel
theorem dX10_rules_28 : decode cX10_rules 28 = .ok (.aload_n 0, 1) := by decide +kernel
theorem dX10_rules_29 : decode cX10_rules 29 = .ok (.getfield 24, 3) := by decide +kernel
theorem dX10_rules_32 : decode cX10_rules 32 = .ok (.aload_n 0, 1) := by decide +kernel
theorem dX10_rules_33 : decode cX10_rules 33 = .ok (.getfield 215, 3) := by decide +kernel
theorem dX10_rules_36 : decode cX10_rules 36 = .ok (.iaload, 1) := by decide +kernel
theorem dX10_rules_37 : decode cX10_rules 37 = .ok (.ifCond .eq 10, 3) := by decide +kernel
theorem dX10_rules_40 : decode cX10_rules 40 = .ok (.aload_n 0, 1) := by decide +kernel
theorem dX10_rules_41 : decode cX10_rules 41 = .ok (.invokevirtual 240, 3) := by decide +kernel
theorem dX10_rules_44 : decode cX10_rules 44 = .ok (.goto (-23), 3) := by decide +kernel
theorem dX10_rules_47 : decode cX10_rules 47 = .ok (.aload_n 0, 1) := by decide +kernel
theorem dX10_rules_48 : decode cX10_rules 48 = .ok (.getfield 218, 3) := by decide +kernel
theorem dX10_rules_51 : decode cX10_rules 51 = .ok (.ifCond .ne 7, 3) := by decide +kernel
theorem dX10_rules_54 : decode cX10_rules 54 = .ok (.aload_n 0, 1) := by decide +kernel
theorem dX10_rules_55 : decode cX10_rules 55 = .ok (.invokevirtual 243, 3) := by decide +kernel
theorem dX10_rules_58 : decode cX10_rules 58 = .ok (.aload_n 0, 1) := by decide +kernel
theorem dX10_rules_59 : decode cX10_rules 59 = .ok (.getfield 218, 3) := by decide +kernel
theorem dX10_rules_62 : decode cX10_rules 62 = .ok (.ireturn, 1) := by decide +kernel
theorem dX10_keeps_0 : decode cX10_keeps 0 = .ok (.iconst 0, 1) := by decide +kernel
theorem dX10_keeps_1 : decode cX10_keeps 1 = .ok (.istore_n 1, 1) := by decide +kernel
theorem dX10_keeps_2 : decode cX10_keeps 2 = .ok (.iload_n 1, 1) := by decide +kernel
theorem dX10_keeps_3 : decode cX10_keeps 3 = .ok (.bipush 24, 2) := by decide +kernel
theorem dX10_keeps_5 : decode cX10_keeps 5 = .ok (.if_icmp .ge 101, 3) := by decide +kernel
theorem dX10_keeps_8 : decode cX10_keeps 8 = .ok (.aload_n 0, 1) := by decide +kernel
theorem dX10_keeps_9 : decode cX10_keeps 9 = .ok (.getfield 83, 3) := by decide +kernel
theorem dX10_keeps_12 : decode cX10_keeps 12 = .ok (.bipush 24, 2) := by decide +kernel
theorem dX10_keeps_14 : decode cX10_keeps 14 = .ok (.aload_n 0, 1) := by decide +kernel
theorem dX10_keeps_15 : decode cX10_keeps 15 = .ok (.getfield 246, 3) := by decide +kernel
theorem dX10_keeps_18 : decode cX10_keeps 18 = .ok (.imul, 1) := by decide +kernel
theorem dX10_keeps_19 : decode cX10_keeps 19 = .ok (.iload_n 1, 1) := by decide +kernel
theorem dX10_keeps_20 : decode cX10_keeps 20 = .ok (.iadd, 1) := by decide +kernel
theorem dX10_keeps_21 : decode cX10_keeps 21 = .ok (.aload_n 0, 1) := by decide +kernel
theorem dX10_keeps_22 : decode cX10_keeps 22 = .ok (.getfield 83, 3) := by decide +kernel
theorem dX10_keeps_25 : decode cX10_keeps 25 = .ok (.bipush 96, 2) := by decide +kernel
theorem dX10_keeps_27 : decode cX10_keeps 27 = .ok (.iload_n 1, 1) := by decide +kernel
theorem dX10_keeps_28 : decode cX10_keeps 28 = .ok (.iadd, 1) := by decide +kernel
theorem dX10_keeps_29 : decode cX10_keeps 29 = .ok (.baload, 1) := by decide +kernel
theorem dX10_keeps_30 : decode cX10_keeps 30 = .ok (.bastore, 1) := by decide +kernel
theorem dX10_keeps_31 : decode cX10_keeps 31 = .ok (.aload_n 0, 1) := by decide +kernel
theorem dX10_keeps_32 : decode cX10_keeps 32 = .ok (.getfield 87, 3) := by decide +kernel
theorem dX10_keeps_35 : decode cX10_keeps 35 = .ok (.bipush 24, 2) := by decide +kernel
theorem dX10_keeps_37 : decode cX10_keeps 37 = .ok (.aload_n 0, 1) := by decide +kernel
theorem dX10_keeps_38 : decode cX10_keeps 38 = .ok (.getfield 246, 3) := by decide +kernel
theorem dX10_keeps_41 : decode cX10_keeps 41 = .ok (.imul, 1) := by decide +kernel
theorem dX10_keeps_42 : decode cX10_keeps 42 = .ok (.iload_n 1, 1) := by decide +kernel
theorem dX10_keeps_43 : decode cX10_keeps 43 = .ok (.iadd, 1) := by decide +kernel
theorem dX10_keeps_44 : decode cX10_keeps 44 = .ok (.aload_n 0, 1) := by decide +kernel
theorem dX10_keeps_45 : decode cX10_keeps 45 = .ok (.getfield 87, 3) := by decide +kernel
theorem dX10_keeps_48 : decode cX10_keeps 48 = .ok (.bipush 96, 2) := by decide +kernel
theorem dX10_keeps_50 : decode cX10_keeps 50 = .ok (.iload_n 1, 1) := by decide +kernel
theorem dX10_keeps_51 : decode cX10_keeps 51 = .ok (.iadd, 1) := by decide +kernel
theorem dX10_keeps_52 : decode cX10_keeps 52 = .ok (.iaload, 1) := by decide +kernel
theorem dX10_keeps_53 : decode cX10_keeps 53 = .ok (.iastore, 1) := by decide +kernel
theorem dX10_keeps_54 : decode cX10_keeps 54 = .ok (.aload_n 0, 1) := by decide +kernel
theorem dX10_keeps_55 : decode cX10_keeps 55 = .ok (.getfield 90, 3) := by decide +kernel
theorem dX10_keeps_58 : decode cX10_keeps 58 = .ok (.bipush 24, 2) := by decide +kernel
theorem dX10_keeps_60 : decode cX10_keeps 60 = .ok (.aload_n 0, 1) := by decide +kernel
theorem dX10_keeps_61 : decode cX10_keeps 61 = .ok (.getfield 246, 3) := by decide +kernel
theorem dX10_keeps_64 : decode cX10_keeps 64 = .ok (.imul, 1) := by decide +kernel
theorem dX10_keeps_65 : decode cX10_keeps 65 = .ok (.iload_n 1, 1) := by decide +kernel
theorem dX10_keeps_66 : decode cX10_keeps 66 = .ok (.iadd, 1) := by decide +kernel
theorem dX10_keeps_67 : decode cX10_keeps 67 = .ok (.aload_n 0, 1) := by decide +kernel
theorem dX10_keeps_68 : decode cX10_keeps 68 = .ok (.getfield 90, 3) := by decide +kernel
theorem dX10_keeps_71 : decode cX10_keeps 71 = .ok (.bipush 96, 2) := by decide +kernel
theorem dX10_keeps_73 : decode cX10_keeps 73 = .ok (.iload_n 1, 1) := by decide +kernel
theorem dX10_keeps_74 : decode cX10_keeps 74 = .ok (.iadd, 1) := by decide +kernel
theorem dX10_keeps_75 : decode cX10_keeps 75 = .ok (.iaload, 1) := by decide +kernel
theorem dX10_keeps_76 : decode cX10_keeps 76 = .ok (.iastore, 1) := by decide +kernel
theorem dX10_keeps_77 : decode cX10_keeps 77 = .ok (.aload_n 0, 1) := by decide +kernel
theorem dX10_keeps_78 : decode cX10_keeps 78 = .ok (.getfield 93, 3) := by decide +kernel
theorem dX10_keeps_81 : decode cX10_keeps 81 = .ok (.bipush 24, 2) := by decide +kernel
theorem dX10_keeps_83 : decode cX10_keeps 83 = .ok (.aload_n 0, 1) := by decide +kernel
theorem dX10_keeps_84 : decode cX10_keeps 84 = .ok (.getfield 246, 3) := by decide +kernel
theorem dX10_keeps_87 : decode cX10_keeps 87 = .ok (.imul, 1) := by decide +kernel
theorem dX10_keeps_88 : decode cX10_keeps 88 = .ok (.iload_n 1, 1) := by decide +kernel
theorem dX10_keeps_89 : decode cX10_keeps 89 = .ok (.iadd, 1) := by decide +kernel
theorem dX10_keeps_90 : decode cX10_keeps 90 = .ok (.aload_n 0, 1) := by decide +kernel
theorem dX10_keeps_91 : decode cX10_keeps 91 = .ok (.getfield 93, 3) := by decide +kernel
theorem dX10_keeps_94 : decode cX10_keeps 94 = .ok (.bipush 96, 2) := by decide +kernel
theorem dX10_keeps_96 : decode cX10_keeps 96 = .ok (.iload_n 1, 1) := by decide +kernel
theorem dX10_keeps_97 : decode cX10_keeps 97 = .ok (.iadd, 1) := by decide +kernel
theorem dX10_keeps_98 : decode cX10_keeps 98 = .ok (.iaload, 1) := by decide +kernel
theorem dX10_keeps_99 : decode cX10_keeps 99 = .ok (.iastore, 1) := by decide +kernel
theorem dX10_keeps_100 : decode cX10_keeps 100 = .ok (.iinc 1 1, 3) := by decide +kernel
theorem dX10_keeps_103 : decode cX10_keeps 103 = .ok (.goto (-101), 3) := by decide +kernel
theorem dX10_keeps_106 : decode cX10_keeps 106 = .ok (.iconst 0, 1) := by decide +kernel
theorem dX10_keeps_107 : decode cX10_keeps 107 = .ok (.istore_n 1, 1) := by decide +kernel
theorem dX10_keeps_108 : decode cX10_keeps 108 = .ok (.iload_n 1, 1) := by decide +kernel
theorem dX10_keeps_109 : decode cX10_keeps 109 = .ok (.aload_n 0, 1) := by decide +kernel
theorem dX10_keeps_110 : decode cX10_keeps 110 = .ok (.getfield 234, 3) := by decide +kernel
theorem dX10_keeps_113 : decode cX10_keeps 113 = .ok (.if_icmp .ge 59, 3) := by decide +kernel
theorem dX10_keeps_116 : decode cX10_keeps 116 = .ok (.aload_n 0, 1) := by decide +kernel
theorem dX10_keeps_117 : decode cX10_keeps 117 = .ok (.getfield 96, 3) := by decide +kernel
theorem dX10_keeps_120 : decode cX10_keeps 120 = .ok (.sipush 1060, 3) := by decide +kernel
theorem dX10_keeps_123 : decode cX10_keeps 123 = .ok (.aload_n 0, 1) := by decide +kernel
theorem dX10_keeps_124 : decode cX10_keeps 124 = .ok (.getfield 246, 3) := by decide +kernel
theorem dX10_keeps_127 : decode cX10_keeps 127 = .ok (.imul, 1) := by decide +kernel
theorem dX10_keeps_128 : decode cX10_keeps 128 = .ok (.iload_n 1, 1) := by decide +kernel
theorem dX10_keeps_129 : decode cX10_keeps 129 = .ok (.iadd, 1) := by decide +kernel
theorem dX10_keeps_130 : decode cX10_keeps 130 = .ok (.aload_n 0, 1) := by decide +kernel
theorem dX10_keeps_131 : decode cX10_keeps 131 = .ok (.getfield 96, 3) := by decide +kernel
theorem dX10_keeps_134 : decode cX10_keeps 134 = .ok (.sipush 4240, 3) := by decide +kernel
theorem dX10_keeps_137 : decode cX10_keeps 137 = .ok (.iload_n 1, 1) := by decide +kernel
theorem dX10_keeps_138 : decode cX10_keeps 138 = .ok (.iadd, 1) := by decide +kernel
theorem dX10_keeps_139 : decode cX10_keeps 139 = .ok (.iaload, 1) := by decide +kernel
theorem dX10_keeps_140 : decode cX10_keeps 140 = .ok (.iastore, 1) := by decide +kernel
theorem dX10_keeps_141 : decode cX10_keeps 141 = .ok (.aload_n 0, 1) := by decide +kernel
theorem dX10_keeps_142 : decode cX10_keeps 142 = .ok (.getfield 99, 3) := by decide +kernel
theorem dX10_keeps_145 : decode cX10_keeps 145 = .ok (.sipush 1060, 3) := by decide +kernel
theorem dX10_keeps_148 : decode cX10_keeps 148 = .ok (.aload_n 0, 1) := by decide +kernel
theorem dX10_keeps_149 : decode cX10_keeps 149 = .ok (.getfield 246, 3) := by decide +kernel
theorem dX10_keeps_152 : decode cX10_keeps 152 = .ok (.imul, 1) := by decide +kernel
theorem dX10_keeps_153 : decode cX10_keeps 153 = .ok (.iload_n 1, 1) := by decide +kernel
theorem dX10_keeps_154 : decode cX10_keeps 154 = .ok (.iadd, 1) := by decide +kernel
theorem dX10_keeps_155 : decode cX10_keeps 155 = .ok (.aload_n 0, 1) := by decide +kernel
theorem dX10_keeps_156 : decode cX10_keeps 156 = .ok (.getfield 99, 3) := by decide +kernel
theorem dX10_keeps_159 : decode cX10_keeps 159 = .ok (.sipush 4240, 3) := by decide +kernel
theorem dX10_keeps_162 : decode cX10_keeps 162 = .ok (.iload_n 1, 1) := by decide +kernel
theorem dX10_keeps_163 : decode cX10_keeps 163 = .ok (.iadd, 1) := by decide +kernel
theorem dX10_keeps_164 : decode cX10_keeps 164 = .ok (.iaload, 1) := by decide +kernel
theorem dX10_keeps_165 : decode cX10_keeps 165 = .ok (.iastore, 1) := by decide +kernel
theorem dX10_keeps_166 : decode cX10_keeps 166 = .ok (.iinc 1 1, 3) := by decide +kernel
theorem dX10_keeps_169 : decode cX10_keeps 169 = .ok (.goto (-61), 3) := by decide +kernel
theorem dX10_keeps_172 : decode cX10_keeps 172 = .ok (.aload_n 0, 1) := by decide +kernel
theorem dX10_keeps_173 : decode cX10_keeps 173 = .ok (.getfield 80, 3) := by decide +kernel
theorem dX10_keeps_176 : decode cX10_keeps 176 = .ok (.aload_n 0, 1) := by decide +kernel
theorem dX10_keeps_177 : decode cX10_keeps 177 = .ok (.getfield 246, 3) := by decide +kernel
theorem dX10_keeps_180 : decode cX10_keeps 180 = .ok (.aload_n 0, 1) := by decide +kernel
theorem dX10_keeps_181 : decode cX10_keeps 181 = .ok (.getfield 80, 3) := by decide +kernel
theorem dX10_keeps_184 : decode cX10_keeps 184 = .ok (.iconst 4, 1) := by decide +kernel
theorem dX10_keeps_185 : decode cX10_keeps 185 = .ok (.iaload, 1) := by decide +kernel
theorem dX10_keeps_186 : decode cX10_keeps 186 = .ok (.iastore, 1) := by decide +kernel
theorem dX10_keeps_187 : decode cX10_keeps 187 = .ok (.return_, 1) := by decide +kernel
theorem dX10_line_0 : decode cX10_line 0 = .ok (.aload_n 0, 1) := by decide +kernel
theorem dX10_line_1 : decode cX10_line 1 = .ok (.iconst 1, 1) := by decide +kernel
theorem dX10_line_2 : decode cX10_line 2 = .ok (.invokevirtual 228, 3) := by decide +kernel
theorem dX10_line_5 : decode cX10_line 5 = .ok (.istore_n 1, 1) := by decide +kernel
theorem dX10_line_6 : decode cX10_line 6 = .ok (.iload_n 1, 1) := by decide +kernel
theorem dX10_line_7 : decode cX10_line 7 = .ok (.ifCond .ne 19, 3) := by decide +kernel
theorem dX10_line_10 : decode cX10_line 10 = .ok (.aload_n 0, 1) := by decide +kernel
theorem dX10_line_11 : decode cX10_line 11 = .ok (.iconst 0, 1) := by decide +kernel
theorem dX10_line_12 : decode cX10_line 12 = .ok (.invokevirtual 228, 3) := by decide +kernel
theorem dX10_line_15 : decode cX10_line 15 = .ok (.ifCond .ne 11, 3) := by decide +kernel
theorem dX10_line_18 : decode cX10_line 18 = .ok (.aload_n 0, 1) := by decide +kernel
theorem dX10_line_19 : decode cX10_line 19 = .ok (.iconst 1, 1) := by decide +kernel
theorem dX10_line_20 : decode cX10_line 20 = .ok (.invokevirtual 224, 3) := by decide +kernel
theorem dX10_line_23 : decode cX10_line 23 = .ok (.goto 19, 3) := by decide +kernel
theorem dX10_line_26 : decode cX10_line 26 = .ok (.aload_n 0, 1) := by decide +kernel
theorem dX10_line_27 : decode cX10_line 27 = .ok (.getfield 80, 3) := by decide +kernel
theorem dX10_line_30 : decode cX10_line 30 = .ok (.iconst 4, 1) := by decide +kernel
theorem dX10_line_31 : decode cX10_line 31 = .ok (.iaload, 1) := by decide +kernel
theorem dX10_line_32 : decode cX10_line 32 = .ok (.bipush 24, 2) := by decide +kernel
theorem dX10_line_34 : decode cX10_line 34 = .ok (.if_icmp .ne 8, 3) := by decide +kernel
theorem dX10_line_37 : decode cX10_line 37 = .ok (.aload_n 0, 1) := by decide +kernel
theorem dX10_line_38 : decode cX10_line 38 = .ok (.iconst 5, 1) := by decide +kernel
theorem dX10_line_39 : decode cX10_line 39 = .ok (.invokevirtual 224, 3) := by decide +kernel
theorem dX10_line_42 : decode cX10_line 42 = .ok (.aload_n 0, 1) := by decide +kernel
theorem dX10_line_43 : decode cX10_line 43 = .ok (.getfield 218, 3) := by decide +kernel
theorem dX10_line_46 : decode cX10_line 46 = .ok (.ifCond .le 4, 3) := by decide +kernel
theorem dX10_line_49 : decode cX10_line 49 = .ok (.return_, 1) := by decide +kernel
theorem dX10_line_50 : decode cX10_line 50 = .ok (.aload_n 0, 1) := by decide +kernel
theorem dX10_line_51 : decode cX10_line 51 = .ok (.dup, 1) := by decide +kernel
theorem dX10_line_52 : decode cX10_line 52 = .ok (.getfield 215, 3) := by decide +kernel
theorem dX10_line_55 : decode cX10_line 55 = .ok (.iconst 1, 1) := by decide +kernel
theorem dX10_line_56 : decode cX10_line 56 = .ok (.iadd, 1) := by decide +kernel
theorem dX10_line_57 : decode cX10_line 57 = .ok (.putfield 215, 3) := by decide +kernel
theorem dX10_line_60 : decode cX10_line 60 = .ok (.bipush 96, 2) := by decide +kernel
theorem dX10_line_62 : decode cX10_line 62 = .ok (.aload_n 0, 1) := by decide +kernel
theorem dX10_line_63 : decode cX10_line 63 = .ok (.getfield 80, 3) := by decide +kernel
theorem dX10_line_66 : decode cX10_line 66 = .ok (.iconst 4, 1) := by decide +kernel
theorem dX10_line_67 : decode cX10_line 67 = .ok (.iaload, 1) := by decide +kernel
theorem dX10_line_68 : decode cX10_line 68 = .ok (.iadd, 1) := by decide +kernel
theorem dX10_line_69 : decode cX10_line 69 = .ok (.istore_n 2, 1) := by decide +kernel
theorem dX10_line_70 : decode cX10_line 70 = .ok (.aload_n 0, 1) := by decide +kernel
theorem dX10_line_71 : decode cX10_line 71 = .ok (.getfield 83, 3) := by decide +kernel
theorem dX10_line_74 : decode cX10_line 74 = .ok (.iload_n 2, 1) := by decide +kernel
theorem dX10_line_75 : decode cX10_line 75 = .ok (.iload_n 1, 1) := by decide +kernel
theorem dX10_line_76 : decode cX10_line 76 = .ok (.bastore, 1) := by decide +kernel
theorem dX10_line_77 : decode cX10_line 77 = .ok (.aload_n 0, 1) := by decide +kernel
theorem dX10_line_78 : decode cX10_line 78 = .ok (.invokevirtual 249, 3) := by decide +kernel
theorem dX10_line_81 : decode cX10_line 81 = .ok (.istore_n 3, 1) := by decide +kernel
theorem dX10_line_82 : decode cX10_line 82 = .ok (.iload_n 3, 1) := by decide +kernel
theorem dX10_line_83 : decode cX10_line 83 = .ok (.ifCond .lt 8, 3) := by decide +kernel
theorem dX10_line_86 : decode cX10_line 86 = .ok (.iload_n 3, 1) := by decide +kernel
theorem dX10_line_87 : decode cX10_line 87 = .ok (.iconst 2, 1) := by decide +kernel
theorem dX10_line_88 : decode cX10_line 88 = .ok (.if_icmp .le 9, 3) := by decide +kernel
theorem dX10_line_91 : decode cX10_line 91 = .ok (.aload_n 0, 1) := by decide +kernel
theorem dX10_line_92 : decode cX10_line 92 = .ok (.iconst 1, 1) := by decide +kernel
theorem dX10_line_93 : decode cX10_line 93 = .ok (.invokevirtual 224, 3) := by decide +kernel
theorem dX10_line_96 : decode cX10_line 96 = .ok (.return_, 1) := by decide +kernel
theorem dX10_line_97 : decode cX10_line 97 = .ok (.aload_n 0, 1) := by decide +kernel
theorem dX10_line_98 : decode cX10_line 98 = .ok (.getfield 87, 3) := by decide +kernel
theorem dX10_line_101 : decode cX10_line 101 = .ok (.iload_n 2, 1) := by decide +kernel
theorem dX10_line_102 : decode cX10_line 102 = .ok (.iload_n 3, 1) := by decide +kernel
theorem dX10_line_103 : decode cX10_line 103 = .ok (.iastore, 1) := by decide +kernel
theorem dX10_line_104 : decode cX10_line 104 = .ok (.aload_n 0, 1) := by decide +kernel
theorem dX10_line_105 : decode cX10_line 105 = .ok (.dup, 1) := by decide +kernel
theorem dX10_line_106 : decode cX10_line 106 = .ok (.getfield 215, 3) := by decide +kernel
theorem dX10_line_109 : decode cX10_line 109 = .ok (.iconst 1, 1) := by decide +kernel
theorem dX10_line_110 : decode cX10_line 110 = .ok (.iadd, 1) := by decide +kernel
theorem dX10_line_111 : decode cX10_line 111 = .ok (.putfield 215, 3) := by decide +kernel
theorem dX10_line_114 : decode cX10_line 114 = .ok (.aload_n 0, 1) := by decide +kernel
theorem dX10_line_115 : decode cX10_line 115 = .ok (.getfield 90, 3) := by decide +kernel
theorem dX10_line_118 : decode cX10_line 118 = .ok (.iload_n 2, 1) := by decide +kernel
theorem dX10_line_119 : decode cX10_line 119 = .ok (.aload_n 0, 1) := by decide +kernel
theorem dX10_line_120 : decode cX10_line 120 = .ok (.getfield 234, 3) := by decide +kernel
theorem dX10_line_123 : decode cX10_line 123 = .ok (.iastore, 1) := by decide +kernel
theorem dX10_line_124 : decode cX10_line 124 = .ok (.aload_n 0, 1) := by decide +kernel
theorem dX10_line_125 : decode cX10_line 125 = .ok (.invokevirtual 253, 3) := by decide +kernel
theorem dX10_line_128 : decode cX10_line 128 = .ok (.aload_n 0, 1) := by decide +kernel
theorem dX10_line_129 : decode cX10_line 129 = .ok (.getfield 93, 3) := by decide +kernel
theorem dX10_line_132 : decode cX10_line 132 = .ok (.iload_n 2, 1) := by decide +kernel
theorem dX10_line_133 : decode cX10_line 133 = .ok (.iconst (-1), 1) := by decide +kernel
theorem dX10_line_134 : decode cX10_line 134 = .ok (.iastore, 1) := by decide +kernel
theorem dX10_line_135 : decode cX10_line 135 = .ok (.aload_n 0, 1) := by decide +kernel
theorem dX10_line_136 : decode cX10_line 136 = .ok (.iconst 2, 1) := by decide +kernel
theorem dX10_line_137 : decode cX10_line 137 = .ok (.invokevirtual 231, 3) := by decide +kernel
theorem dX10_line_140 : decode cX10_line 140 = .ok (.ifCond .eq 17, 3) := by decide +kernel
theorem dX10_line_143 : decode cX10_line 143 = .ok (.aload_n 0, 1) := by decide +kernel
theorem dX10_line_144 : decode cX10_line 144 = .ok (.getfield 93, 3) := by decide +kernel
theorem dX10_line_147 : decode cX10_line 147 = .ok (.iload_n 2, 1) := by decide +kernel
theorem dX10_line_148 : decode cX10_line 148 = .ok (.aload_n 0, 1) := by decide +kernel
theorem dX10_line_149 : decode cX10_line 149 = .ok (.getfield 234, 3) := by decide +kernel
theorem dX10_line_152 : decode cX10_line 152 = .ok (.iastore, 1) := by decide +kernel
theorem dX10_line_153 : decode cX10_line 153 = .ok (.aload_n 0, 1) := by decide +kernel
theorem dX10_line_154 : decode cX10_line 154 = .ok (.invokevirtual 253, 3) := by decide +kernel
theorem dX10_line_157 : decode cX10_line 157 = .ok (.aload_n 0, 1) := by decide +kernel
theorem dX10_line_158 : decode cX10_line 158 = .ok (.bipush 59, 2) := by decide +kernel
theorem dX10_line_160 : decode cX10_line 160 = .ok (.invokevirtual 256, 3) := by decide +kernel
theorem dX10_line_163 : decode cX10_line 163 = .ok (.aload_n 0, 1) := by decide +kernel
theorem dX10_line_164 : decode cX10_line 164 = .ok (.getfield 80, 3) := by decide +kernel
theorem dX10_line_167 : decode cX10_line 167 = .ok (.iconst 4, 1) := by decide +kernel
theorem dX10_line_168 : decode cX10_line 168 = .ok (.dup2, 1) := by decide +kernel
theorem dX10_line_169 : decode cX10_line 169 = .ok (.iaload, 1) := by decide +kernel
theorem dX10_line_170 : decode cX10_line 170 = .ok (.iconst 1, 1) := by decide +kernel
theorem dX10_line_171 : decode cX10_line 171 = .ok (.iadd, 1) := by decide +kernel
theorem dX10_line_172 : decode cX10_line 172 = .ok (.iastore, 1) := by decide +kernel
theorem dX10_line_173 : decode cX10_line 173 = .ok (.return_, 1) := by decide +kernel
theorem dX10_expression_0 : decode cX10_expression 0 = .ok (.aload_n 0, 1) := by decide +kernel
theorem dX10_expression_1 : decode cX10_expression 1 = .ok (.iconst 0, 1) := by decide +kernel
theorem dX10_expression_2 : decode cX10_expression 2 = .ok (.putfield 259, 3) := by decide +kernel
theorem dX10_expression_5 : decode cX10_expression 5 = .ok (.aload_n 0, 1) := by decide +kernel
theorem dX10_expression_6 : decode cX10_expression 6 = .ok (.invokevirtual 262, 3) := by decide +kernel
theorem dX10_expression_9 : decode cX10_expression 9 = .ok (.iconst 1, 1) := by decide +kernel
theorem dX10_expression_10 : decode cX10_expression 10 = .ok (.istore_n 1, 1) := by decide +kernel
theorem dX10_expression_11 : decode cX10_expression 11 = .ok (.iload_n 1, 1) := by decide +kernel
theorem dX10_expression_12 : decode cX10_expression 12 = .ok (.ifCond .eq 33, 3) := by decide +kernel
theorem dX10_expression_15 : decode cX10_expression 15 = .ok (.aload_n 0, 1) := by decide +kernel
theorem dX10_expression_16 : decode cX10_expression 16 = .ok (.getfield 218, 3) := by decide +kernel
theorem dX10_expression_19 : decode cX10_expression 19 = .ok (.ifCond .ne 26, 3) := by decide +kernel
theorem dX10_expression_22 : decode cX10_expression 22 = .ok (.aload_n 0, 1) := by decide +kernel
theorem dX10_expression_23 : decode cX10_expression 23 = .ok (.invokevirtual 265, 3) := by decide +kernel
theorem dX10_expression_26 : decode cX10_expression 26 = .ok (.ifCond .ne 10, 3) := by decide +kernel
theorem dX10_expression_29 : decode cX10_expression 29 = .ok (.aload_n 0, 1) := by decide +kernel
theorem dX10_expression_30 : decode cX10_expression 30 = .ok (.invokevirtual 269, 3) := by decide +kernel
theorem dX10_expression_33 : decode cX10_expression 33 = .ok (.ifCond .eq 7, 3) := by decide +kernel
theorem dX10_expression_36 : decode cX10_expression 36 = .ok (.iconst 1, 1) := by decide +kernel
theorem dX10_expression_37 : decode cX10_expression 37 = .ok (.goto 4, 3) := by decide +kernel
theorem dX10_expression_40 : decode cX10_expression 40 = .ok (.iconst 0, 1) := by decide +kernel
theorem dX10_expression_41 : decode cX10_expression 41 = .ok (.istore_n 1, 1) := by decide +kernel
theorem dX10_expression_42 : decode cX10_expression 42 = .ok (.goto (-31), 3) := by decide +kernel
theorem dX10_expression_45 : decode cX10_expression 45 = .ok (.aload_n 0, 1) := by decide +kernel
theorem dX10_expression_46 : decode cX10_expression 46 = .ok (.iconst 0, 1) := by decide +kernel
theorem dX10_expression_47 : decode cX10_expression 47 = .ok (.iconst 0, 1) := by decide +kernel
theorem dX10_expression_48 : decode cX10_expression 48 = .ok (.invokevirtual 272, 3) := by decide +kernel
theorem dX10_expression_51 : decode cX10_expression 51 = .ok (.return_, 1) := by decide +kernel
theorem dX10_opens_0 : decode cX10_opens 0 = .ok (.aload_n 0, 1) := by decide +kernel
theorem dX10_opens_1 : decode cX10_opens 1 = .ok (.getfield 102, 3) := by decide +kernel
theorem dX10_opens_4 : decode cX10_opens 4 = .ok (.aload_n 0, 1) := by decide +kernel
theorem dX10_opens_5 : decode cX10_opens 5 = .ok (.getfield 259, 3) := by decide +kernel
theorem dX10_opens_8 : decode cX10_opens 8 = .ok (.iconst 0, 1) := by decide +kernel
theorem dX10_opens_9 : decode cX10_opens 9 = .ok (.iastore, 1) := by decide +kernel
theorem dX10_opens_10 : decode cX10_opens 10 = .ok (.aload_n 0, 1) := by decide +kernel
theorem dX10_opens_11 : decode cX10_opens 11 = .ok (.getfield 105, 3) := by decide +kernel
theorem dX10_opens_14 : decode cX10_opens 14 = .ok (.aload_n 0, 1) := by decide +kernel
theorem dX10_opens_15 : decode cX10_opens 15 = .ok (.getfield 259, 3) := by decide +kernel
theorem dX10_opens_18 : decode cX10_opens 18 = .ok (.iconst 0, 1) := by decide +kernel
theorem dX10_opens_19 : decode cX10_opens 19 = .ok (.iastore, 1) := by decide +kernel
theorem dX10_opens_20 : decode cX10_opens 20 = .ok (.aload_n 0, 1) := by decide +kernel
theorem dX10_opens_21 : decode cX10_opens 21 = .ok (.getfield 108, 3) := by decide +kernel
theorem dX10_opens_24 : decode cX10_opens 24 = .ok (.aload_n 0, 1) := by decide +kernel
theorem dX10_opens_25 : decode cX10_opens 25 = .ok (.getfield 259, 3) := by decide +kernel
theorem dX10_opens_28 : decode cX10_opens 28 = .ok (.iconst 0, 1) := by decide +kernel
theorem dX10_opens_29 : decode cX10_opens 29 = .ok (.iastore, 1) := by decide +kernel
theorem dX10_opens_30 : decode cX10_opens 30 = .ok (.return_, 1) := by decide +kernel
theorem dX10_partWord_0 : decode cX10_partWord 0 = .ok (.iconst 0, 1) := by decide +kernel
theorem dX10_partWord_1 : decode cX10_partWord 1 = .ok (.istore_n 1, 1) := by decide +kernel
theorem dX10_partWord_2 : decode cX10_partWord 2 = .ok (.iload_n 1, 1) := by decide +kernel
theorem dX10_partWord_3 : decode cX10_partWord 3 = .ok (.bipush 13, 2) := by decide +kernel
theorem dX10_partWord_5 : decode cX10_partWord 5 = .ok (.if_icmp .ge 21, 3) := by decide +kernel
theorem dX10_partWord_8 : decode cX10_partWord 8 = .ok (.aload_n 0, 1) := by decide +kernel
theorem dX10_partWord_9 : decode cX10_partWord 9 = .ok (.iconst 4, 1) := by decide +kernel
theorem dX10_partWord_10 : decode cX10_partWord 10 = .ok (.iload_n 1, 1) := by decide +kernel
theorem dX10_partWord_11 : decode cX10_partWord 11 = .ok (.iadd, 1) := by decide +kernel
theorem dX10_partWord_12 : decode cX10_partWord 12 = .ok (.invokevirtual 228, 3) := by decide +kernel
theorem dX10_partWord_15 : decode cX10_partWord 15 = .ok (.ifCond .eq 5, 3) := by decide +kernel
theorem dX10_partWord_18 : decode cX10_partWord 18 = .ok (.iload_n 1, 1) := by decide +kernel
theorem dX10_partWord_19 : decode cX10_partWord 19 = .ok (.ireturn, 1) := by decide +kernel
theorem dX10_partWord_20 : decode cX10_partWord 20 = .ok (.iinc 1 1, 3) := by decide +kernel
theorem dX10_partWord_23 : decode cX10_partWord 23 = .ok (.goto (-21), 3) := by decide +kernel
theorem dX10_partWord_26 : decode cX10_partWord 26 = .ok (.iconst (-1), 1) := by decide +kernel
theorem dX10_partWord_27 : decode cX10_partWord 27 = .ok (.ireturn, 1) := by decide +kernel
theorem dX10_part_0 : decode cX10_part 0 = .ok (.aload_n 0, 1) := by decide +kernel
theorem dX10_part_1 : decode cX10_part 1 = .ok (.invokevirtual 249, 3) := by decide +kernel
theorem dX10_part_4 : decode cX10_part 4 = .ok (.istore_n 1, 1) := by decide +kernel
theorem dX10_part_5 : decode cX10_part 5 = .ok (.aload_n 0, 1) := by decide +kernel
theorem dX10_part_6 : decode cX10_part 6 = .ok (.getfield 218, 3) := by decide +kernel
theorem dX10_part_9 : decode cX10_part 9 = .ok (.ifCond .ne 37, 3) := by decide +kernel
theorem dX10_part_12 : decode cX10_part 12 = .ok (.aload_n 0, 1) := by decide +kernel
theorem dX10_part_13 : decode cX10_part 13 = .ok (.getfield 24, 3) := by decide +kernel
theorem dX10_part_16 : decode cX10_part 16 = .ok (.aload_n 0, 1) := by decide +kernel
theorem dX10_part_17 : decode cX10_part 17 = .ok (.getfield 215, 3) := by decide +kernel
theorem dX10_part_20 : decode cX10_part 20 = .ok (.iaload, 1) := by decide +kernel
theorem dX10_part_21 : decode cX10_part 21 = .ok (.iconst 2, 1) := by decide +kernel
theorem dX10_part_22 : decode cX10_part 22 = .ok (.if_icmp .eq 24, 3) := by decide +kernel
theorem dX10_part_25 : decode cX10_part 25 = .ok (.aload_n 0, 1) := by decide +kernel
theorem dX10_part_26 : decode cX10_part 26 = .ok (.bipush 40, 2) := by decide +kernel
theorem dX10_part_28 : decode cX10_part 28 = .ok (.invokevirtual 221, 3) := by decide +kernel
theorem dX10_part_31 : decode cX10_part 31 = .ok (.ifCond .ne 15, 3) := by decide +kernel
theorem dX10_part_34 : decode cX10_part 34 = .ok (.iload_n 1, 1) := by decide +kernel
theorem dX10_part_35 : decode cX10_part 35 = .ok (.ifCond .ge 11, 3) := by decide +kernel
theorem dX10_part_38 : decode cX10_part 38 = .ok (.aload_n 0, 1) := by decide +kernel
theorem dX10_part_39 : decode cX10_part 39 = .ok (.iconst 1, 1) := by decide +kernel
theorem dX10_part_40 : decode cX10_part 40 = .ok (.invokevirtual 224, 3) := by decide +kernel
theorem dX10_part_43 : decode cX10_part 43 = .ok (.goto 16, 3) := by decide +kernel
theorem dX10_part_46 : decode cX10_part 46 = .ok (.aload_n 0, 1) := by decide +kernel
theorem dX10_part_47 : decode cX10_part 47 = .ok (.getfield 259, 3) := by decide +kernel
theorem dX10_part_50 : decode cX10_part 50 = .ok (.iconst 5, 1) := by decide +kernel
theorem dX10_part_51 : decode cX10_part 51 = .ok (.if_icmp .ne 8, 3) := by decide +kernel
theorem dX10_part_54 : decode cX10_part 54 = .ok (.aload_n 0, 1) := by decide +kernel
theorem dX10_part_55 : decode cX10_part 55 = .ok (.iconst 5, 1) := by decide +kernel
theorem dX10_part_56 : decode cX10_part 56 = .ok (.invokevirtual 224, 3) := by decide +kernel
theorem dX10_part_59 : decode cX10_part 59 = .ok (.aload_n 0, 1) := by decide +kernel
theorem dX10_part_60 : decode cX10_part 60 = .ok (.getfield 218, 3) := by decide +kernel
theorem dX10_part_63 : decode cX10_part 63 = .ok (.ifCond .le 5, 3) := by decide +kernel
theorem dX10_part_66 : decode cX10_part 66 = .ok (.iconst 0, 1) := by decide +kernel
theorem dX10_part_67 : decode cX10_part 67 = .ok (.ireturn, 1) := by decide +kernel
theorem dX10_part_68 : decode cX10_part 68 = .ok (.aload_n 0, 1) := by decide +kernel
theorem dX10_part_69 : decode cX10_part 69 = .ok (.bipush 40, 2) := by decide +kernel
theorem dX10_part_71 : decode cX10_part 71 = .ok (.invokevirtual 276, 3) := by decide +kernel
theorem dX10_part_74 : decode cX10_part 74 = .ok (.ifCond .eq 19, 3) := by decide +kernel
theorem dX10_part_77 : decode cX10_part 77 = .ok (.aload_n 0, 1) := by decide +kernel
theorem dX10_part_78 : decode cX10_part 78 = .ok (.dup, 1) := by decide +kernel
theorem dX10_part_79 : decode cX10_part 79 = .ok (.getfield 259, 3) := by decide +kernel
theorem dX10_part_82 : decode cX10_part 82 = .ok (.iconst 1, 1) := by decide +kernel
theorem dX10_part_83 : decode cX10_part 83 = .ok (.iadd, 1) := by decide +kernel
theorem dX10_part_84 : decode cX10_part 84 = .ok (.putfield 259, 3) := by decide +kernel
theorem dX10_part_87 : decode cX10_part 87 = .ok (.aload_n 0, 1) := by decide +kernel
theorem dX10_part_88 : decode cX10_part 88 = .ok (.invokevirtual 262, 3) := by decide +kernel
theorem dX10_part_91 : decode cX10_part 91 = .ok (.iconst 1, 1) := by decide +kernel
theorem dX10_part_92 : decode cX10_part 92 = .ok (.ireturn, 1) := by decide +kernel
theorem dX10_part_93 : decode cX10_part 93 = .ok (.aload_n 0, 1) := by decide +kernel
theorem dX10_part_94 : decode cX10_part 94 = .ok (.iload_n 1, 1) := by decide +kernel
theorem dX10_part_95 : decode cX10_part 95 = .ok (.ifCond .ge 7, 3) := by decide +kernel
theorem dX10_part_98 : decode cX10_part 98 = .ok (.iconst 1, 1) := by decide +kernel
theorem dX10_part_99 : decode cX10_part 99 = .ok (.goto 4, 3) := by decide +kernel
theorem dX10_part_102 : decode cX10_part 102 = .ok (.iconst 2, 1) := by decide +kernel
theorem dX10_part_103 : decode cX10_part 103 = .ok (.iload_n 1, 1) := by decide +kernel
theorem dX10_part_104 : decode cX10_part 104 = .ok (.ifCond .ge 16, 3) := by decide +kernel
theorem dX10_part_107 : decode cX10_part 107 = .ok (.aload_n 0, 1) := by decide +kernel
theorem dX10_part_108 : decode cX10_part 108 = .ok (.getfield 30, 3) := by decide +kernel
theorem dX10_part_111 : decode cX10_part 111 = .ok (.aload_n 0, 1) := by decide +kernel
theorem dX10_part_112 : decode cX10_part 112 = .ok (.getfield 215, 3) := by decide +kernel
theorem dX10_part_115 : decode cX10_part 115 = .ok (.laload, 1) := by decide +kernel
theorem dX10_part_116 : decode cX10_part 116 = .ok (.l2i, 1) := by decide +kernel
theorem dX10_part_117 : decode cX10_part 117 = .ok (.goto 4, 3) := by decide +kernel
theorem dX10_part_120 : decode cX10_part 120 = .ok (.iload_n 1, 1) := by decide +kernel
theorem dX10_part_121 : decode cX10_part 121 = .ok (.invokevirtual 272, 3) := by decide +kernel
theorem dX10_part_124 : decode cX10_part 124 = .ok (.aload_n 0, 1) := by decide +kernel
theorem dX10_part_125 : decode cX10_part 125 = .ok (.dup, 1) := by decide +kernel
theorem dX10_part_126 : decode cX10_part 126 = .ok (.getfield 215, 3) := by decide +kernel
theorem dX10_part_129 : decode cX10_part 129 = .ok (.iconst 1, 1) := by decide +kernel
theorem dX10_part_130 : decode cX10_part 130 = .ok (.iadd, 1) := by decide +kernel
theorem dX10_part_131 : decode cX10_part 131 = .ok (.putfield 215, 3) := by decide +kernel
theorem dX10_part_134 : decode cX10_part 134 = .ok (.iconst 0, 1) := by decide +kernel
theorem dX10_part_135 : decode cX10_part 135 = .ok (.ireturn, 1) := by decide +kernel
theorem dX10_goesOnBehind_0 : decode cX10_goesOnBehind 0 = .ok (.aload_n 0, 1) := by decide +kernel
