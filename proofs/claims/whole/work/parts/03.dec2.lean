theorem dX0_init_0 : decode cX0_init 0 = .ok (.aload_n 0, 1) := by decide +kernel
theorem dX0_init_1 : decode cX0_init 1 = .ok (.invokespecial 3, 3) := by decide +kernel
theorem dX0_init_4 : decode cX0_init 4 = .ok (.aload_n 0, 1) := by decide +kernel
theorem dX0_init_5 : decode cX0_init 5 = .ok (.iconst 0, 1) := by decide +kernel
theorem dX0_init_6 : decode cX0_init 6 = .ok (.putfield 9, 3) := by decide +kernel
theorem dX0_init_9 : decode cX0_init 9 = .ok (.aload_n 0, 1) := by decide +kernel
theorem dX0_init_10 : decode cX0_init 10 = .ok (.dconst 0, 1) := by decide +kernel
theorem dX0_init_11 : decode cX0_init 11 = .ok (.putfield 15, 3) := by decide +kernel
theorem dX0_init_14 : decode cX0_init 14 = .ok (.aload_n 0, 1) := by decide +kernel
theorem dX0_init_15 : decode cX0_init 15 = .ok (.dconst 0, 1) := by decide +kernel
theorem dX0_init_16 : decode cX0_init 16 = .ok (.putfield 19, 3) := by decide +kernel
theorem dX0_init_19 : decode cX0_init 19 = .ok (.aload_n 0, 1) := by decide +kernel
theorem dX0_init_20 : decode cX0_init 20 = .ok (.iconst 0, 1) := by decide +kernel
theorem dX0_init_21 : decode cX0_init 21 = .ok (.putfield 22, 3) := by decide +kernel
theorem dX0_init_24 : decode cX0_init 24 = .ok (.aload_n 0, 1) := by decide +kernel
theorem dX0_init_25 : decode cX0_init 25 = .ok (.iconst (-1), 1) := by decide +kernel
theorem dX0_init_26 : decode cX0_init 26 = .ok (.putfield 25, 3) := by decide +kernel
theorem dX0_init_29 : decode cX0_init 29 = .ok (.aload_n 0, 1) := by decide +kernel
theorem dX0_init_30 : decode cX0_init 30 = .ok (.iload_n 1, 1) := by decide +kernel
theorem dX0_init_31 : decode cX0_init 31 = .ok (.putfield 28, 3) := by decide +kernel
theorem dX0_init_34 : decode cX0_init 34 = .ok (.aload_n 0, 1) := by decide +kernel
theorem dX0_init_35 : decode cX0_init 35 = .ok (.ldc2_w 31, 3) := by decide +kernel
theorem dX0_init_38 : decode cX0_init 38 = .ok (.iload_n 2, 1) := by decide +kernel
theorem dX0_init_39 : decode cX0_init 39 = .ok (.i2d, 1) := by decide +kernel
theorem dX0_init_40 : decode cX0_init 40 = .ok (.dmul, 1) := by decide +kernel
theorem dX0_init_41 : decode cX0_init 41 = .ok (.putfield 33, 3) := by decide +kernel
theorem dX0_init_44 : decode cX0_init 44 = .ok (.aload_n 0, 1) := by decide +kernel
theorem dX0_init_45 : decode cX0_init 45 = .ok (.iload_n 2, 1) := by decide +kernel
theorem dX0_init_46 : decode cX0_init 46 = .ok (.iload_n 3, 1) := by decide +kernel
theorem dX0_init_47 : decode cX0_init 47 = .ok (.imul, 1) := by decide +kernel
theorem dX0_init_48 : decode cX0_init 48 = .ok (.i2d, 1) := by decide +kernel
theorem dX0_init_49 : decode cX0_init 49 = .ok (.putfield 36, 3) := by decide +kernel
theorem dX0_init_52 : decode cX0_init 52 = .ok (.aload_n 0, 1) := by decide +kernel
theorem dX0_init_53 : decode cX0_init 53 = .ok (.dload 4, 2) := by decide +kernel
theorem dX0_init_55 : decode cX0_init 55 = .ok (.putfield 39, 3) := by decide +kernel
theorem dX0_init_58 : decode cX0_init 58 = .ok (.aload_n 0, 1) := by decide +kernel
theorem dX0_init_59 : decode cX0_init 59 = .ok (.bipush 7, 2) := by decide +kernel
theorem dX0_init_61 : decode cX0_init 61 = .ok (.iload 6, 2) := by decide +kernel
theorem dX0_init_63 : decode cX0_init 63 = .ok (.iadd, 1) := by decide +kernel
theorem dX0_init_64 : decode cX0_init 64 = .ok (.putfield 42, 3) := by decide +kernel
theorem dX0_init_67 : decode cX0_init 67 = .ok (.return_, 1) := by decide +kernel
theorem dX0_rear_0 : decode cX0_rear 0 = .ok (.aload_n 0, 1) := by decide +kernel
theorem dX0_rear_1 : decode cX0_rear 1 = .ok (.getfield 15, 3) := by decide +kernel
theorem dX0_rear_4 : decode cX0_rear 4 = .ok (.aload_n 0, 1) := by decide +kernel
theorem dX0_rear_5 : decode cX0_rear 5 = .ok (.getfield 33, 3) := by decide +kernel
theorem dX0_rear_8 : decode cX0_rear 8 = .ok (.dsub, 1) := by decide +kernel
theorem dX0_rear_9 : decode cX0_rear 9 = .ok (.dreturn, 1) := by decide +kernel
theorem dX0_isBoundFor_0 : decode cX0_isBoundFor 0 = .ok (.aload_n 0, 1) := by decide +kernel
theorem dX0_isBoundFor_1 : decode cX0_isBoundFor 1 = .ok (.getfield 22, 3) := by decide +kernel
theorem dX0_isBoundFor_4 : decode cX0_isBoundFor 4 = .ok (.iload_n 1, 1) := by decide +kernel
theorem dX0_isBoundFor_5 : decode cX0_isBoundFor 5 = .ok (.invokestatic 45, 3) := by decide +kernel
theorem dX0_isBoundFor_8 : decode cX0_isBoundFor 8 = .ok (.ifCond .eq 18, 3) := by decide +kernel
theorem dX0_isBoundFor_11 : decode cX0_isBoundFor 11 = .ok (.iload_n 1, 1) := by decide +kernel
theorem dX0_isBoundFor_12 : decode cX0_isBoundFor 12 = .ok (.aload_n 0, 1) := by decide +kernel
theorem dX0_isBoundFor_13 : decode cX0_isBoundFor 13 = .ok (.getfield 42, 3) := by decide +kernel
theorem dX0_isBoundFor_16 : decode cX0_isBoundFor 16 = .ok (.invokestatic 45, 3) := by decide +kernel
theorem dX0_isBoundFor_19 : decode cX0_isBoundFor 19 = .ok (.ifCond .eq 7, 3) := by decide +kernel
theorem dX0_isBoundFor_22 : decode cX0_isBoundFor 22 = .ok (.iconst 1, 1) := by decide +kernel
theorem dX0_isBoundFor_23 : decode cX0_isBoundFor 23 = .ok (.goto 4, 3) := by decide +kernel
theorem dX0_isBoundFor_26 : decode cX0_isBoundFor 26 = .ok (.iconst 0, 1) := by decide +kernel
theorem dX0_isBoundFor_27 : decode cX0_isBoundFor 27 = .ok (.ireturn, 1) := by decide +kernel
theorem dX0_wishedSide_0 : decode cX0_wishedSide 0 = .ok (.iload_n 1, 1) := by decide +kernel
theorem dX0_wishedSide_1 : decode cX0_wishedSide 1 = .ok (.iconst 1, 1) := by decide +kernel
theorem dX0_wishedSide_2 : decode cX0_wishedSide 2 = .ok (.invokestatic 49, 3) := by decide +kernel
theorem dX0_wishedSide_5 : decode cX0_wishedSide 5 = .ok (.aload_n 0, 1) := by decide +kernel
theorem dX0_wishedSide_6 : decode cX0_wishedSide 6 = .ok (.getfield 42, 3) := by decide +kernel
theorem dX0_wishedSide_9 : decode cX0_wishedSide 9 = .ok (.invokestatic 45, 3) := by decide +kernel
theorem dX0_wishedSide_12 : decode cX0_wishedSide 12 = .ok (.ifCond .eq 7, 3) := by decide +kernel
theorem dX0_wishedSide_15 : decode cX0_wishedSide 15 = .ok (.iconst 1, 1) := by decide +kernel
theorem dX0_wishedSide_16 : decode cX0_wishedSide 16 = .ok (.goto 4, 3) := by decide +kernel
theorem dX0_wishedSide_19 : decode cX0_wishedSide 19 = .ok (.iconst 0, 1) := by decide +kernel
theorem dX0_wishedSide_20 : decode cX0_wishedSide 20 = .ok (.ireturn, 1) := by decide +kernel
theorem dX1_init_0 : decode cX1_init 0 = .ok (.aload_n 0, 1) := by decide +kernel
theorem dX1_init_1 : decode cX1_init 1 = .ok (.invokespecial 3, 3) := by decide +kernel
theorem dX1_init_4 : decode cX1_init 4 = .ok (.aload_n 0, 1) := by decide +kernel
theorem dX1_init_5 : decode cX1_init 5 = .ok (.sipush 800, 3) := by decide +kernel
theorem dX1_init_8 : decode cX1_init 8 = .ok (.newarray .int, 2) := by decide +kernel
theorem dX1_init_10 : decode cX1_init 10 = .ok (.putfield 9, 3) := by decide +kernel
theorem dX1_init_13 : decode cX1_init 13 = .ok (.aload_n 0, 1) := by decide +kernel
theorem dX1_init_14 : decode cX1_init 14 = .ok (.iconst 0, 1) := by decide +kernel
theorem dX1_init_15 : decode cX1_init 15 = .ok (.putfield 15, 3) := by decide +kernel
theorem dX1_init_18 : decode cX1_init 18 = .ok (.return_, 1) := by decide +kernel
theorem dX1_note_0 : decode cX1_note 0 = .ok (.aload_n 0, 1) := by decide +kernel
theorem dX1_note_1 : decode cX1_note 1 = .ok (.getfield 15, 3) := by decide +kernel
theorem dX1_note_4 : decode cX1_note 4 = .ok (.sipush 200, 3) := by decide +kernel
theorem dX1_note_7 : decode cX1_note 7 = .ok (.invokestatic 19, 3) := by decide +kernel
theorem dX1_note_10 : decode cX1_note 10 = .ok (.iconst 4, 1) := by decide +kernel
theorem dX1_note_11 : decode cX1_note 11 = .ok (.imul, 1) := by decide +kernel
theorem dX1_note_12 : decode cX1_note 12 = .ok (.istore 5, 2) := by decide +kernel
theorem dX1_note_14 : decode cX1_note 14 = .ok (.aload_n 0, 1) := by decide +kernel
theorem dX1_note_15 : decode cX1_note 15 = .ok (.getfield 9, 3) := by decide +kernel
theorem dX1_note_18 : decode cX1_note 18 = .ok (.iload 5, 2) := by decide +kernel
theorem dX1_note_20 : decode cX1_note 20 = .ok (.iload_n 1, 1) := by decide +kernel
theorem dX1_note_21 : decode cX1_note 21 = .ok (.iastore, 1) := by decide +kernel
theorem dX1_note_22 : decode cX1_note 22 = .ok (.aload_n 0, 1) := by decide +kernel
theorem dX1_note_23 : decode cX1_note 23 = .ok (.getfield 9, 3) := by decide +kernel
theorem dX1_note_26 : decode cX1_note 26 = .ok (.iload 5, 2) := by decide +kernel
theorem dX1_note_28 : decode cX1_note 28 = .ok (.iconst 1, 1) := by decide +kernel
theorem dX1_note_29 : decode cX1_note 29 = .ok (.iadd, 1) := by decide +kernel
theorem dX1_note_30 : decode cX1_note 30 = .ok (.iload_n 2, 1) := by decide +kernel
theorem dX1_note_31 : decode cX1_note 31 = .ok (.iastore, 1) := by decide +kernel
theorem dX1_note_32 : decode cX1_note 32 = .ok (.aload_n 0, 1) := by decide +kernel
theorem dX1_note_33 : decode cX1_note 33 = .ok (.getfield 9, 3) := by decide +kernel
theorem dX1_note_36 : decode cX1_note 36 = .ok (.iload 5, 2) := by decide +kernel
theorem dX1_note_38 : decode cX1_note 38 = .ok (.iconst 2, 1) := by decide +kernel
theorem dX1_note_39 : decode cX1_note 39 = .ok (.iadd, 1) := by decide +kernel
theorem dX1_note_40 : decode cX1_note 40 = .ok (.iload_n 3, 1) := by decide +kernel
theorem dX1_note_41 : decode cX1_note 41 = .ok (.iastore, 1) := by decide +kernel
theorem dX1_note_42 : decode cX1_note 42 = .ok (.aload_n 0, 1) := by decide +kernel
theorem dX1_note_43 : decode cX1_note 43 = .ok (.getfield 9, 3) := by decide +kernel
theorem dX1_note_46 : decode cX1_note 46 = .ok (.iload 5, 2) := by decide +kernel
theorem dX1_note_48 : decode cX1_note 48 = .ok (.iconst 3, 1) := by decide +kernel
theorem dX1_note_49 : decode cX1_note 49 = .ok (.iadd, 1) := by decide +kernel
theorem dX1_note_50 : decode cX1_note 50 = .ok (.iload 4, 2) := by decide +kernel
theorem dX1_note_52 : decode cX1_note 52 = .ok (.iastore, 1) := by decide +kernel
theorem dX1_note_53 : decode cX1_note 53 = .ok (.aload_n 0, 1) := by decide +kernel
theorem dX1_note_54 : decode cX1_note 54 = .ok (.dup, 1) := by decide +kernel
theorem dX1_note_55 : decode cX1_note 55 = .ok (.getfield 15, 3) := by decide +kernel
theorem dX1_note_58 : decode cX1_note 58 = .ok (.iconst 1, 1) := by decide +kernel
theorem dX1_note_59 : decode cX1_note 59 = .ok (.iadd, 1) := by decide +kernel
theorem dX1_note_60 : decode cX1_note 60 = .ok (.putfield 15, 3) := by decide +kernel
theorem dX1_note_63 : decode cX1_note 63 = .ok (.return_, 1) := by decide +kernel
theorem dX1_keeps_0 : decode cX1_keeps 0 = .ok (.iload_n 1, 1) := by decide +kernel
theorem dX1_keeps_1 : decode cX1_keeps 1 = .ok (.ifCond .lt 22, 3) := by decide +kernel
theorem dX1_keeps_4 : decode cX1_keeps 4 = .ok (.iload_n 1, 1) := by decide +kernel
theorem dX1_keeps_5 : decode cX1_keeps 5 = .ok (.sipush 200, 3) := by decide +kernel
theorem dX1_keeps_8 : decode cX1_keeps 8 = .ok (.if_icmp .ge 15, 3) := by decide +kernel
theorem dX1_keeps_11 : decode cX1_keeps 11 = .ok (.iload_n 1, 1) := by decide +kernel
theorem dX1_keeps_12 : decode cX1_keeps 12 = .ok (.aload_n 0, 1) := by decide +kernel
theorem dX1_keeps_13 : decode cX1_keeps 13 = .ok (.getfield 15, 3) := by decide +kernel
theorem dX1_keeps_16 : decode cX1_keeps 16 = .ok (.if_icmp .ge 7, 3) := by decide +kernel
theorem dX1_keeps_19 : decode cX1_keeps 19 = .ok (.iconst 1, 1) := by decide +kernel
theorem dX1_keeps_20 : decode cX1_keeps 20 = .ok (.goto 4, 3) := by decide +kernel
theorem dX1_keeps_23 : decode cX1_keeps 23 = .ok (.iconst 0, 1) := by decide +kernel
theorem dX1_keeps_24 : decode cX1_keeps 24 = .ok (.ireturn, 1) := by decide +kernel
theorem dX1_number_0 : decode cX1_number 0 = .ok (.aload_n 0, 1) := by decide +kernel
theorem dX1_number_1 : decode cX1_number 1 = .ok (.getfield 9, 3) := by decide +kernel
theorem dX1_number_4 : decode cX1_number 4 = .ok (.aload_n 0, 1) := by decide +kernel
theorem dX1_number_5 : decode cX1_number 5 = .ok (.getfield 15, 3) := by decide +kernel
theorem dX1_number_8 : decode cX1_number 8 = .ok (.iconst 1, 1) := by decide +kernel
theorem dX1_number_9 : decode cX1_number 9 = .ok (.isub, 1) := by decide +kernel
theorem dX1_number_10 : decode cX1_number 10 = .ok (.iload_n 1, 1) := by decide +kernel
theorem dX1_number_11 : decode cX1_number 11 = .ok (.isub, 1) := by decide +kernel
theorem dX1_number_12 : decode cX1_number 12 = .ok (.sipush 200, 3) := by decide +kernel
theorem dX1_number_15 : decode cX1_number 15 = .ok (.invokestatic 19, 3) := by decide +kernel
theorem dX1_number_18 : decode cX1_number 18 = .ok (.iconst 4, 1) := by decide +kernel
theorem dX1_number_19 : decode cX1_number 19 = .ok (.imul, 1) := by decide +kernel
theorem dX1_number_20 : decode cX1_number 20 = .ok (.iload_n 2, 1) := by decide +kernel
theorem dX1_number_21 : decode cX1_number 21 = .ok (.iadd, 1) := by decide +kernel
theorem dX1_number_22 : decode cX1_number 22 = .ok (.iaload, 1) := by decide +kernel
theorem dX1_number_23 : decode cX1_number 23 = .ok (.ireturn, 1) := by decide +kernel
theorem dX2_init_0 : decode cX2_init 0 = .ok (.aload_n 0, 1) := by decide +kernel
theorem dX2_init_1 : decode cX2_init 1 = .ok (.invokespecial 1, 3) := by decide +kernel
theorem dX2_init_4 : decode cX2_init 4 = .ok (.aload_n 0, 1) := by decide +kernel
theorem dX2_init_5 : decode cX2_init 5 = .ok (.new 7, 3) := by decide +kernel
theorem dX2_init_8 : decode cX2_init 8 = .ok (.dup, 1) := by decide +kernel
theorem dX2_init_9 : decode cX2_init 9 = .ok (.invokespecial 9, 3) := by decide +kernel
theorem dX2_init_12 : decode cX2_init 12 = .ok (.putfield 10, 3) := by decide +kernel
theorem dX2_init_15 : decode cX2_init 15 = .ok (.aload_n 0, 1) := by decide +kernel
theorem dX2_init_16 : decode cX2_init 16 = .ok (.new 7, 3) := by decide +kernel
theorem dX2_init_19 : decode cX2_init 19 = .ok (.dup, 1) := by decide +kernel
theorem dX2_init_20 : decode cX2_init 20 = .ok (.invokespecial 9, 3) := by decide +kernel
theorem dX2_init_23 : decode cX2_init 23 = .ok (.putfield 16, 3) := by decide +kernel
theorem dX2_init_26 : decode cX2_init 26 = .ok (.aload_n 0, 1) := by decide +kernel
theorem dX2_init_27 : decode cX2_init 27 = .ok (.new 19, 3) := by decide +kernel
theorem dX2_init_30 : decode cX2_init 30 = .ok (.dup, 1) := by decide +kernel
theorem dX2_init_31 : decode cX2_init 31 = .ok (.invokespecial 21, 3) := by decide +kernel
theorem dX2_init_34 : decode cX2_init 34 = .ok (.putfield 22, 3) := by decide +kernel
theorem dX2_init_37 : decode cX2_init 37 = .ok (.aload_n 0, 1) := by decide +kernel
theorem dX2_init_38 : decode cX2_init 38 = .ok (.bipush 7, 2) := by decide +kernel
theorem dX2_init_40 : decode cX2_init 40 = .ok (.newarray .int, 2) := by decide +kernel
theorem dX2_init_42 : decode cX2_init 42 = .ok (.putfield 26, 3) := by decide +kernel
theorem dX2_init_45 : decode cX2_init 45 = .ok (.aload_n 0, 1) := by decide +kernel
theorem dX2_init_46 : decode cX2_init 46 = .ok (.bipush 7, 2) := by decide +kernel
theorem dX2_init_48 : decode cX2_init 48 = .ok (.newarray .int, 2) := by decide +kernel
theorem dX2_init_50 : decode cX2_init 50 = .ok (.putfield 30, 3) := by decide +kernel
theorem dX2_init_53 : decode cX2_init 53 = .ok (.aload_n 0, 1) := by decide +kernel
theorem dX2_init_54 : decode cX2_init 54 = .ok (.bipush 7, 2) := by decide +kernel
theorem dX2_init_56 : decode cX2_init 56 = .ok (.newarray .boolean, 2) := by decide +kernel
theorem dX2_init_58 : decode cX2_init 58 = .ok (.putfield 33, 3) := by decide +kernel
theorem dX2_init_61 : decode cX2_init 61 = .ok (.aload_n 0, 1) := by decide +kernel
theorem dX2_init_62 : decode cX2_init 62 = .ok (.bipush 9, 2) := by decide +kernel
theorem dX2_init_64 : decode cX2_init 64 = .ok (.newarray .double, 2) := by decide +kernel
theorem dX2_init_66 : decode cX2_init 66 = .ok (.putfield 37, 3) := by decide +kernel
theorem dX2_init_69 : decode cX2_init 69 = .ok (.aload_n 0, 1) := by decide +kernel
theorem dX2_init_70 : decode cX2_init 70 = .ok (.bipush 8, 2) := by decide +kernel
theorem dX2_init_72 : decode cX2_init 72 = .ok (.newarray .double, 2) := by decide +kernel
theorem dX2_init_74 : decode cX2_init 74 = .ok (.putfield 41, 3) := by decide +kernel
theorem dX2_init_77 : decode cX2_init 77 = .ok (.aload_n 0, 1) := by decide +kernel
theorem dX2_init_78 : decode cX2_init 78 = .ok (.bipush 8, 2) := by decide +kernel
theorem dX2_init_80 : decode cX2_init 80 = .ok (.newarray .int, 2) := by decide +kernel
theorem dX2_init_82 : decode cX2_init 82 = .ok (.putfield 44, 3) := by decide +kernel
theorem dX2_init_85 : decode cX2_init 85 = .ok (.aload_n 0, 1) := by decide +kernel
theorem dX2_init_86 : decode cX2_init 86 = .ok (.sipush 480, 3) := by decide +kernel
theorem dX2_init_89 : decode cX2_init 89 = .ok (.newarray .int, 2) := by decide +kernel
theorem dX2_init_91 : decode cX2_init 91 = .ok (.putfield 47, 3) := by decide +kernel
theorem dX2_init_94 : decode cX2_init 94 = .ok (.aload_n 0, 1) := by decide +kernel
theorem dX2_init_95 : decode cX2_init 95 = .ok (.dconst 0, 1) := by decide +kernel
theorem dX2_init_96 : decode cX2_init 96 = .ok (.putfield 50, 3) := by decide +kernel
theorem dX2_init_99 : decode cX2_init 99 = .ok (.aload_n 0, 1) := by decide +kernel
theorem dX2_init_100 : decode cX2_init 100 = .ok (.dconst 0, 1) := by decide +kernel
theorem dX2_init_101 : decode cX2_init 101 = .ok (.putfield 54, 3) := by decide +kernel
theorem dX2_init_104 : decode cX2_init 104 = .ok (.aload_n 0, 1) := by decide +kernel
theorem dX2_init_105 : decode cX2_init 105 = .ok (.iconst 0, 1) := by decide +kernel
theorem dX2_init_106 : decode cX2_init 106 = .ok (.putfield 57, 3) := by decide +kernel
theorem dX2_init_109 : decode cX2_init 109 = .ok (.aload_n 0, 1) := by decide +kernel
theorem dX2_init_110 : decode cX2_init 110 = .ok (.iconst 0, 1) := by decide +kernel
theorem dX2_init_111 : decode cX2_init 111 = .ok (.putfield 61, 3) := by decide +kernel
theorem dX2_init_114 : decode cX2_init 114 = .ok (.aload_n 0, 1) := by decide +kernel
theorem dX2_init_115 : decode cX2_init 115 = .ok (.iconst 0, 1) := by decide +kernel
theorem dX2_init_116 : decode cX2_init 116 = .ok (.putfield 64, 3) := by decide +kernel
theorem dX2_init_119 : decode cX2_init 119 = .ok (.aload_n 0, 1) := by decide +kernel
theorem dX2_init_120 : decode cX2_init 120 = .ok (.iconst 0, 1) := by decide +kernel
theorem dX2_init_121 : decode cX2_init 121 = .ok (.putfield 67, 3) := by decide +kernel
theorem dX2_init_124 : decode cX2_init 124 = .ok (.aload_n 0, 1) := by decide +kernel
theorem dX2_init_125 : decode cX2_init 125 = .ok (.getfield 37, 3) := by decide +kernel
theorem dX2_init_128 : decode cX2_init 128 = .ok (.ldc2_w 70, 3) := by decide +kernel
theorem dX2_init_131 : decode cX2_init 131 = .ok (.invokestatic 72, 3) := by decide +kernel
theorem dX2_init_134 : decode cX2_init 134 = .ok (.aload_n 0, 1) := by decide +kernel
theorem dX2_init_135 : decode cX2_init 135 = .ok (.getfield 41, 3) := by decide +kernel
theorem dX2_init_138 : decode cX2_init 138 = .ok (.ldc2_w 78, 3) := by decide +kernel
theorem dX2_init_141 : decode cX2_init 141 = .ok (.invokestatic 72, 3) := by decide +kernel
theorem dX2_init_144 : decode cX2_init 144 = .ok (.return_, 1) := by decide +kernel
theorem dX2_cut_0 : decode cX2_cut 0 = .ok (.iload_n 1, 1) := by decide +kernel
theorem dX2_cut_1 : decode cX2_cut 1 = .ok (.iconst 1, 1) := by decide +kernel
theorem dX2_cut_2 : decode cX2_cut 2 = .ok (.if_icmp .lt 9, 3) := by decide +kernel
theorem dX2_cut_5 : decode cX2_cut 5 = .ok (.iload_n 1, 1) := by decide +kernel
theorem dX2_cut_6 : decode cX2_cut 6 = .ok (.bipush 20, 2) := by decide +kernel
theorem dX2_cut_8 : decode cX2_cut 8 = .ok (.if_icmp .le 13, 3) := by decide +kernel
theorem dX2_cut_11 : decode cX2_cut 11 = .ok (.new 80, 3) := by decide +kernel
theorem dX2_cut_14 : decode cX2_cut 14 = .ok (.dup, 1) := by decide +kernel
theorem dX2_cut_15 : decode cX2_cut 15 = .ok (.ldc 82, 2) := by decide +kernel
theorem dX2_cut_17 : decode cX2_cut 17 = .ok (.invokespecial 84, 3) := by decide +kernel
theorem dX2_cut_20 : decode cX2_cut 20 = .ok (.athrow, 1) := by decide +kernel
theorem dX2_cut_21 : decode cX2_cut 21 = .ok (.iload_n 2, 1) := by decide +kernel
theorem dX2_cut_22 : decode cX2_cut 22 = .ok (.iconst 1, 1) := by decide +kernel
theorem dX2_cut_23 : decode cX2_cut 23 = .ok (.if_icmp .lt 9, 3) := by decide +kernel
theorem dX2_cut_26 : decode cX2_cut 26 = .ok (.iload_n 2, 1) := by decide +kernel
theorem dX2_cut_27 : decode cX2_cut 27 = .ok (.bipush 90, 2) := by decide +kernel
theorem dX2_cut_29 : decode cX2_cut 29 = .ok (.if_icmp .le 13, 3) := by decide +kernel
theorem dX2_cut_32 : decode cX2_cut 32 = .ok (.new 80, 3) := by decide +kernel
theorem dX2_cut_35 : decode cX2_cut 35 = .ok (.dup, 1) := by decide +kernel
theorem dX2_cut_36 : decode cX2_cut 36 = .ok (.ldc 87, 2) := by decide +kernel
theorem dX2_cut_38 : decode cX2_cut 38 = .ok (.invokespecial 84, 3) := by decide +kernel
theorem dX2_cut_41 : decode cX2_cut 41 = .ok (.athrow, 1) := by decide +kernel
theorem dX2_cut_42 : decode cX2_cut 42 = .ok (.dload_n 3, 1) := by decide +kernel
theorem dX2_cut_43 : decode cX2_cut 43 = .ok (.bipush 16, 2) := by decide +kernel
theorem dX2_cut_45 : decode cX2_cut 45 = .ok (.invokestatic 89, 3) := by decide +kernel
theorem dX2_cut_48 : decode cX2_cut 48 = .ok (.ifCond .ne 13, 3) := by decide +kernel
theorem dX2_cut_51 : decode cX2_cut 51 = .ok (.new 80, 3) := by decide +kernel
theorem dX2_cut_54 : decode cX2_cut 54 = .ok (.dup, 1) := by decide +kernel
theorem dX2_cut_55 : decode cX2_cut 55 = .ok (.ldc 93, 2) := by decide +kernel
theorem dX2_cut_57 : decode cX2_cut 57 = .ok (.invokespecial 84, 3) := by decide +kernel
theorem dX2_cut_60 : decode cX2_cut 60 = .ok (.athrow, 1) := by decide +kernel
theorem dX2_cut_61 : decode cX2_cut 61 = .ok (.iload 5, 2) := by decide +kernel
theorem dX2_cut_63 : decode cX2_cut 63 = .ok (.invokestatic 95, 3) := by decide +kernel
theorem dX2_cut_66 : decode cX2_cut 66 = .ok (.ifCond .ne 13, 3) := by decide +kernel
theorem dX2_cut_69 : decode cX2_cut 69 = .ok (.new 80, 3) := by decide +kernel
theorem dX2_cut_72 : decode cX2_cut 72 = .ok (.dup, 1) := by decide +kernel
theorem dX2_cut_73 : decode cX2_cut 73 = .ok (.ldc 99, 2) := by decide +kernel
theorem dX2_cut_75 : decode cX2_cut 75 = .ok (.invokespecial 84, 3) := by decide +kernel
theorem dX2_cut_78 : decode cX2_cut 78 = .ok (.athrow, 1) := by decide +kernel
theorem dX2_cut_79 : decode cX2_cut 79 = .ok (.aload_n 0, 1) := by decide +kernel
theorem dX2_cut_80 : decode cX2_cut 80 = .ok (.getfield 10, 3) := by decide +kernel
theorem dX2_cut_83 : decode cX2_cut 83 = .ok (.invokevirtual 101, 3) := by decide +kernel
theorem dX2_cut_86 : decode cX2_cut 86 = .ok (.bipush 60, 2) := by decide +kernel
theorem dX2_cut_88 : decode cX2_cut 88 = .ok (.if_icmp .lt 13, 3) := by decide +kernel
theorem dX2_cut_91 : decode cX2_cut 91 = .ok (.new 105, 3) := by decide +kernel
theorem dX2_cut_94 : decode cX2_cut 94 = .ok (.dup, 1) := by decide +kernel
theorem dX2_cut_95 : decode cX2_cut 95 = .ok (.ldc 107, 2) := by decide +kernel
theorem dX2_cut_97 : decode cX2_cut 97 = .ok (.invokespecial 109, 3) := by decide +kernel
theorem dX2_cut_100 : decode cX2_cut 100 = .ok (.athrow, 1) := by decide +kernel
theorem dX2_cut_101 : decode cX2_cut 101 = .ok (.new 110, 3) := by decide +kernel
theorem dX2_cut_104 : decode cX2_cut 104 = .ok (.dup, 1) := by decide +kernel
theorem dX2_cut_105 : decode cX2_cut 105 = .ok (.aload_n 0, 1) := by decide +kernel
theorem dX2_cut_106 : decode cX2_cut 106 = .ok (.getfield 10, 3) := by decide +kernel
theorem dX2_cut_109 : decode cX2_cut 109 = .ok (.invokevirtual 101, 3) := by decide +kernel
theorem dX2_cut_112 : decode cX2_cut 112 = .ok (.iload_n 1, 1) := by decide +kernel
theorem dX2_cut_113 : decode cX2_cut 113 = .ok (.iload_n 2, 1) := by decide +kernel
theorem dX2_cut_114 : decode cX2_cut 114 = .ok (.dload_n 3, 1) := by decide +kernel
theorem dX2_cut_115 : decode cX2_cut 115 = .ok (.iload 5, 2) := by decide +kernel
theorem dX2_cut_117 : decode cX2_cut 117 = .ok (.invokespecial 112, 3) := by decide +kernel
theorem dX2_cut_120 : decode cX2_cut 120 = .ok (.astore 6, 2) := by decide +kernel
theorem dX2_cut_122 : decode cX2_cut 122 = .ok (.aload_n 0, 1) := by decide +kernel
theorem dX2_cut_123 : decode cX2_cut 123 = .ok (.getfield 10, 3) := by decide +kernel
theorem dX2_cut_126 : decode cX2_cut 126 = .ok (.aload 6, 2) := by decide +kernel
theorem dX2_cut_128 : decode cX2_cut 128 = .ok (.invokevirtual 115, 3) := by decide +kernel
theorem dX2_cut_131 : decode cX2_cut 131 = .ok (.pop, 1) := by decide +kernel
theorem dX2_cut_132 : decode cX2_cut 132 = .ok (.aload 6, 2) := by decide +kernel
theorem dX2_cut_134 : decode cX2_cut 134 = .ok (.getfield 119, 3) := by decide +kernel
theorem dX2_cut_137 : decode cX2_cut 137 = .ok (.ireturn, 1) := by decide +kernel
theorem dX2_push_0 : decode cX2_push 0 = .ok (.dload_n 1, 1) := by decide +kernel
theorem dX2_push_1 : decode cX2_push 1 = .ok (.iconst 4, 1) := by decide +kernel
theorem dX2_push_2 : decode cX2_push 2 = .ok (.invokestatic 89, 3) := by decide +kernel
theorem dX2_push_5 : decode cX2_push 5 = .ok (.ifCond .ne 13, 3) := by decide +kernel
theorem dX2_push_8 : decode cX2_push 8 = .ok (.new 80, 3) := by decide +kernel
theorem dX2_push_11 : decode cX2_push 11 = .ok (.dup, 1) := by decide +kernel
theorem dX2_push_12 : decode cX2_push 12 = .ok (.ldc 122, 2) := by decide +kernel
theorem dX2_push_14 : decode cX2_push 14 = .ok (.invokespecial 84, 3) := by decide +kernel
theorem dX2_push_17 : decode cX2_push 17 = .ok (.athrow, 1) := by decide +kernel
theorem dX2_push_18 : decode cX2_push 18 = .ok (.aload_n 0, 1) := by decide +kernel
theorem dX2_push_19 : decode cX2_push 19 = .ok (.getfield 50, 3) := by decide +kernel
theorem dX2_push_22 : decode cX2_push 22 = .ok (.dstore_n 3, 1) := by decide +kernel
theorem dX2_push_23 : decode cX2_push 23 = .ok (.aload_n 0, 1) := by decide +kernel
theorem dX2_push_24 : decode cX2_push 24 = .ok (.dload_n 1, 1) := by decide +kernel
theorem dX2_push_25 : decode cX2_push 25 = .ok (.putfield 50, 3) := by decide +kernel
theorem dX2_push_28 : decode cX2_push 28 = .ok (.dload_n 3, 1) := by decide +kernel
theorem dX2_push_29 : decode cX2_push 29 = .ok (.dreturn, 1) := by decide +kernel
theorem dX2_wish_0 : decode cX2_wish 0 = .ok (.iload_n 1, 1) := by decide +kernel
theorem dX2_wish_1 : decode cX2_wish 1 = .ok (.ifCond .lt 9, 3) := by decide +kernel
theorem dX2_wish_4 : decode cX2_wish 4 = .ok (.iload_n 1, 1) := by decide +kernel
theorem dX2_wish_5 : decode cX2_wish 5 = .ok (.bipush 9, 2) := by decide +kernel
theorem dX2_wish_7 : decode cX2_wish 7 = .ok (.if_icmp .lt 13, 3) := by decide +kernel
theorem dX2_wish_10 : decode cX2_wish 10 = .ok (.new 124, 3) := by decide +kernel
theorem dX2_wish_13 : decode cX2_wish 13 = .ok (.dup, 1) := by decide +kernel
theorem dX2_wish_14 : decode cX2_wish 14 = .ok (.ldc 126, 2) := by decide +kernel
theorem dX2_wish_16 : decode cX2_wish 16 = .ok (.invokespecial 128, 3) := by decide +kernel
theorem dX2_wish_19 : decode cX2_wish 19 = .ok (.athrow, 1) := by decide +kernel
theorem dX2_wish_20 : decode cX2_wish 20 = .ok (.dload_n 2, 1) := by decide +kernel
theorem dX2_wish_21 : decode cX2_wish 21 = .ok (.bipush 20, 2) := by decide +kernel
theorem dX2_wish_23 : decode cX2_wish 23 = .ok (.invokestatic 89, 3) := by decide +kernel
theorem dX2_wish_26 : decode cX2_wish 26 = .ok (.ifCond .ne 13, 3) := by decide +kernel
theorem dX2_wish_29 : decode cX2_wish 29 = .ok (.new 80, 3) := by decide +kernel
theorem dX2_wish_32 : decode cX2_wish 32 = .ok (.dup, 1) := by decide +kernel
theorem dX2_wish_33 : decode cX2_wish 33 = .ok (.ldc 129, 2) := by decide +kernel
theorem dX2_wish_35 : decode cX2_wish 35 = .ok (.invokespecial 84, 3) := by decide +kernel
theorem dX2_wish_38 : decode cX2_wish 38 = .ok (.athrow, 1) := by decide +kernel
theorem dX2_wish_39 : decode cX2_wish 39 = .ok (.aload_n 0, 1) := by decide +kernel
theorem dX2_wish_40 : decode cX2_wish 40 = .ok (.getfield 37, 3) := by decide +kernel
theorem dX2_wish_43 : decode cX2_wish 43 = .ok (.iload_n 1, 1) := by decide +kernel
theorem dX2_wish_44 : decode cX2_wish 44 = .ok (.daload, 1) := by decide +kernel
theorem dX2_wish_45 : decode cX2_wish 45 = .ok (.dstore 4, 2) := by decide +kernel
theorem dX2_wish_47 : decode cX2_wish 47 = .ok (.aload_n 0, 1) := by decide +kernel
theorem dX2_wish_48 : decode cX2_wish 48 = .ok (.getfield 37, 3) := by decide +kernel
theorem dX2_wish_51 : decode cX2_wish 51 = .ok (.iload_n 1, 1) := by decide +kernel
theorem dX2_wish_52 : decode cX2_wish 52 = .ok (.dload_n 2, 1) := by decide +kernel
theorem dX2_wish_53 : decode cX2_wish 53 = .ok (.dastore, 1) := by decide +kernel
theorem dX2_wish_54 : decode cX2_wish 54 = .ok (.dload 4, 2) := by decide +kernel
theorem dX2_wish_56 : decode cX2_wish 56 = .ok (.dreturn, 1) := by decide +kernel
theorem dX2_stick_0 : decode cX2_stick 0 = .ok (.iload_n 1, 1) := by decide +kernel
theorem dX2_stick_1 : decode cX2_stick 1 = .ok (.invokestatic 131, 3) := by decide +kernel
theorem dX2_stick_4 : decode cX2_stick 4 = .ok (.ifCond .ne 13, 3) := by decide +kernel
theorem dX2_stick_7 : decode cX2_stick 7 = .ok (.new 124, 3) := by decide +kernel
theorem dX2_stick_10 : decode cX2_stick 10 = .ok (.dup, 1) := by decide +kernel
theorem dX2_stick_11 : decode cX2_stick 11 = .ok (.ldc 134, 2) := by decide +kernel
theorem dX2_stick_13 : decode cX2_stick 13 = .ok (.invokespecial 128, 3) := by decide +kernel
theorem dX2_stick_16 : decode cX2_stick 16 = .ok (.athrow, 1) := by decide +kernel
theorem dX2_stick_17 : decode cX2_stick 17 = .ok (.aload_n 0, 1) := by decide +kernel
theorem dX2_stick_18 : decode cX2_stick 18 = .ok (.getfield 33, 3) := by decide +kernel
theorem dX2_stick_21 : decode cX2_stick 21 = .ok (.iload_n 1, 1) := by decide +kernel
theorem dX2_stick_22 : decode cX2_stick 22 = .ok (.baload, 1) := by decide +kernel
theorem dX2_stick_23 : decode cX2_stick 23 = .ok (.istore_n 3, 1) := by decide +kernel
theorem dX2_stick_24 : decode cX2_stick 24 = .ok (.aload_n 0, 1) := by decide +kernel
theorem dX2_stick_25 : decode cX2_stick 25 = .ok (.getfield 33, 3) := by decide +kernel
theorem dX2_stick_28 : decode cX2_stick 28 = .ok (.iload_n 1, 1) := by decide +kernel
theorem dX2_stick_29 : decode cX2_stick 29 = .ok (.iload_n 2, 1) := by decide +kernel
theorem dX2_stick_30 : decode cX2_stick 30 = .ok (.bastore, 1) := by decide +kernel
theorem dX2_stick_31 : decode cX2_stick 31 = .ok (.iload_n 3, 1) := by decide +kernel
theorem dX2_stick_32 : decode cX2_stick 32 = .ok (.ireturn, 1) := by decide +kernel
theorem dX2_fill_0 : decode cX2_fill 0 = .ok (.iload_n 1, 1) := by decide +kernel
theorem dX2_fill_1 : decode cX2_fill 1 = .ok (.invokestatic 95, 3) := by decide +kernel
theorem dX2_fill_4 : decode cX2_fill 4 = .ok (.ifCond .ne 13, 3) := by decide +kernel
theorem dX2_fill_7 : decode cX2_fill 7 = .ok (.new 124, 3) := by decide +kernel
theorem dX2_fill_10 : decode cX2_fill 10 = .ok (.dup, 1) := by decide +kernel
theorem dX2_fill_11 : decode cX2_fill 11 = .ok (.ldc 99, 2) := by decide +kernel
theorem dX2_fill_13 : decode cX2_fill 13 = .ok (.invokespecial 128, 3) := by decide +kernel
theorem dX2_fill_16 : decode cX2_fill 16 = .ok (.athrow, 1) := by decide +kernel
theorem dX2_fill_17 : decode cX2_fill 17 = .ok (.dload_n 2, 1) := by decide +kernel
theorem dX2_fill_18 : decode cX2_fill 18 = .ok (.sipush 800, 3) := by decide +kernel
theorem dX2_fill_21 : decode cX2_fill 21 = .ok (.invokestatic 89, 3) := by decide +kernel
theorem dX2_fill_24 : decode cX2_fill 24 = .ok (.ifCond .ne 13, 3) := by decide +kernel
theorem dX2_fill_27 : decode cX2_fill 27 = .ok (.new 80, 3) := by decide +kernel
theorem dX2_fill_30 : decode cX2_fill 30 = .ok (.dup, 1) := by decide +kernel
theorem dX2_fill_31 : decode cX2_fill 31 = .ok (.ldc 136, 2) := by decide +kernel
theorem dX2_fill_33 : decode cX2_fill 33 = .ok (.invokespecial 84, 3) := by decide +kernel
theorem dX2_fill_36 : decode cX2_fill 36 = .ok (.athrow, 1) := by decide +kernel
theorem dX2_fill_37 : decode cX2_fill 37 = .ok (.aload_n 0, 1) := by decide +kernel
theorem dX2_fill_38 : decode cX2_fill 38 = .ok (.getfield 41, 3) := by decide +kernel
theorem dX2_fill_41 : decode cX2_fill 41 = .ok (.iload_n 1, 1) := by decide +kernel
theorem dX2_fill_42 : decode cX2_fill 42 = .ok (.daload, 1) := by decide +kernel
theorem dX2_fill_43 : decode cX2_fill 43 = .ok (.dstore 4, 2) := by decide +kernel
theorem dX2_fill_45 : decode cX2_fill 45 = .ok (.aload_n 0, 1) := by decide +kernel
theorem dX2_fill_46 : decode cX2_fill 46 = .ok (.getfield 41, 3) := by decide +kernel
theorem dX2_fill_49 : decode cX2_fill 49 = .ok (.iload_n 1, 1) := by decide +kernel
theorem dX2_fill_50 : decode cX2_fill 50 = .ok (.dload_n 2, 1) := by decide +kernel
theorem dX2_fill_51 : decode cX2_fill 51 = .ok (.dastore, 1) := by decide +kernel
theorem dX2_fill_52 : decode cX2_fill 52 = .ok (.dload 4, 2) := by decide +kernel
theorem dX2_fill_54 : decode cX2_fill 54 = .ok (.dreturn, 1) := by decide +kernel
theorem dX2_tick_0 : decode cX2_tick 0 = .ok (.iload_n 1, 1) := by decide +kernel
theorem dX2_tick_1 : decode cX2_tick 1 = .ok (.iconst 1, 1) := by decide +kernel
theorem dX2_tick_2 : decode cX2_tick 2 = .ok (.if_icmp .lt 10, 3) := by decide +kernel
theorem dX2_tick_5 : decode cX2_tick 5 = .ok (.iload_n 1, 1) := by decide +kernel
theorem dX2_tick_6 : decode cX2_tick 6 = .ok (.sipush 400, 3) := by decide +kernel
theorem dX2_tick_9 : decode cX2_tick 9 = .ok (.if_icmp .le 13, 3) := by decide +kernel
theorem dX2_tick_12 : decode cX2_tick 12 = .ok (.new 80, 3) := by decide +kernel
theorem dX2_tick_15 : decode cX2_tick 15 = .ok (.dup, 1) := by decide +kernel
theorem dX2_tick_16 : decode cX2_tick 16 = .ok (.ldc 138, 2) := by decide +kernel
theorem dX2_tick_18 : decode cX2_tick 18 = .ok (.invokespecial 84, 3) := by decide +kernel
theorem dX2_tick_21 : decode cX2_tick 21 = .ok (.athrow, 1) := by decide +kernel
theorem dX2_tick_22 : decode cX2_tick 22 = .ok (.aload_n 0, 1) := by decide +kernel
theorem dX2_tick_23 : decode cX2_tick 23 = .ok (.getfield 22, 3) := by decide +kernel
theorem dX2_tick_26 : decode cX2_tick 26 = .ok (.getfield 140, 3) := by decide +kernel
theorem dX2_tick_29 : decode cX2_tick 29 = .ok (.istore_n 2, 1) := by decide +kernel
theorem dX2_tick_30 : decode cX2_tick 30 = .ok (.iconst 0, 1) := by decide +kernel
theorem dX2_tick_31 : decode cX2_tick 31 = .ok (.istore_n 3, 1) := by decide +kernel
theorem dX2_tick_32 : decode cX2_tick 32 = .ok (.iload_n 3, 1) := by decide +kernel
theorem dX2_tick_33 : decode cX2_tick 33 = .ok (.iload_n 1, 1) := by decide +kernel
theorem dX2_tick_34 : decode cX2_tick 34 = .ok (.if_icmp .ge 43, 3) := by decide +kernel
theorem dX2_tick_37 : decode cX2_tick 37 = .ok (.aload_n 0, 1) := by decide +kernel
theorem dX2_tick_38 : decode cX2_tick 38 = .ok (.dup, 1) := by decide +kernel
theorem dX2_tick_39 : decode cX2_tick 39 = .ok (.getfield 67, 3) := by decide +kernel
theorem dX2_tick_42 : decode cX2_tick 42 = .ok (.iconst 1, 1) := by decide +kernel
theorem dX2_tick_43 : decode cX2_tick 43 = .ok (.iadd, 1) := by decide +kernel
theorem dX2_tick_44 : decode cX2_tick 44 = .ok (.putfield 67, 3) := by decide +kernel
theorem dX2_tick_47 : decode cX2_tick 47 = .ok (.aload_n 0, 1) := by decide +kernel
theorem dX2_tick_48 : decode cX2_tick 48 = .ok (.invokevirtual 143, 3) := by decide +kernel
theorem dX2_tick_51 : decode cX2_tick 51 = .ok (.aload_n 0, 1) := by decide +kernel
theorem dX2_tick_52 : decode cX2_tick 52 = .ok (.invokevirtual 146, 3) := by decide +kernel
theorem dX2_tick_55 : decode cX2_tick 55 = .ok (.aload_n 0, 1) := by decide +kernel
theorem dX2_tick_56 : decode cX2_tick 56 = .ok (.invokevirtual 149, 3) := by decide +kernel
theorem dX2_tick_59 : decode cX2_tick 59 = .ok (.aload_n 0, 1) := by decide +kernel
theorem dX2_tick_60 : decode cX2_tick 60 = .ok (.invokevirtual 152, 3) := by decide +kernel
theorem dX2_tick_63 : decode cX2_tick 63 = .ok (.aload_n 0, 1) := by decide +kernel
theorem dX2_tick_64 : decode cX2_tick 64 = .ok (.invokevirtual 155, 3) := by decide +kernel
theorem dX2_tick_67 : decode cX2_tick 67 = .ok (.aload_n 0, 1) := by decide +kernel
theorem dX2_tick_68 : decode cX2_tick 68 = .ok (.invokevirtual 158, 3) := by decide +kernel
theorem dX2_tick_71 : decode cX2_tick 71 = .ok (.iinc 3 1, 3) := by decide +kernel
theorem dX2_tick_74 : decode cX2_tick 74 = .ok (.goto (-42), 3) := by decide +kernel
theorem dX2_tick_77 : decode cX2_tick 77 = .ok (.aload_n 0, 1) := by decide +kernel
theorem dX2_tick_78 : decode cX2_tick 78 = .ok (.getfield 22, 3) := by decide +kernel
theorem dX2_tick_81 : decode cX2_tick 81 = .ok (.getfield 140, 3) := by decide +kernel
theorem dX2_tick_84 : decode cX2_tick 84 = .ok (.iload_n 2, 1) := by decide +kernel
theorem dX2_tick_85 : decode cX2_tick 85 = .ok (.isub, 1) := by decide +kernel
theorem dX2_tick_86 : decode cX2_tick 86 = .ok (.ireturn, 1) := by decide +kernel
theorem dX2_place_0 : decode cX2_place 0 = .ok (.aload_n 0, 1) := by decide +kernel
theorem dX2_place_1 : decode cX2_place 1 = .ok (.iload_n 1, 1) := by decide +kernel
theorem dX2_place_2 : decode cX2_place 2 = .ok (.invokevirtual 161, 3) := by decide +kernel
theorem dX2_place_5 : decode cX2_place 5 = .ok (.getfield 165, 3) := by decide +kernel
theorem dX2_place_8 : decode cX2_place 8 = .ok (.dreturn, 1) := by decide +kernel
theorem dX2_speed_0 : decode cX2_speed 0 = .ok (.aload_n 0, 1) := by decide +kernel
theorem dX2_speed_1 : decode cX2_speed 1 = .ok (.iload_n 1, 1) := by decide +kernel
theorem dX2_speed_2 : decode cX2_speed 2 = .ok (.invokevirtual 161, 3) := by decide +kernel
theorem dX2_speed_5 : decode cX2_speed 5 = .ok (.getfield 168, 3) := by decide +kernel
theorem dX2_speed_8 : decode cX2_speed 8 = .ok (.dreturn, 1) := by decide +kernel
theorem dX2_told_0 : decode cX2_told 0 = .ok (.aload_n 0, 1) := by decide +kernel
theorem dX2_told_1 : decode cX2_told 1 = .ok (.iload_n 1, 1) := by decide +kernel
theorem dX2_told_2 : decode cX2_told 2 = .ok (.invokevirtual 161, 3) := by decide +kernel
theorem dX2_told_5 : decode cX2_told 5 = .ok (.astore_n 3, 1) := by decide +kernel
theorem dX2_told_6 : decode cX2_told 6 = .ok (.iload_n 2, 1) := by decide +kernel
theorem dX2_told_7 : decode cX2_told 7 = .ok (.tableswitch 55 0 3 #[29, 34, 42, 50], 29) := by decide +kernel
theorem dX2_told_36 : decode cX2_told 36 = .ok (.aload_n 3, 1) := by decide +kernel
theorem dX2_told_37 : decode cX2_told 37 = .ok (.getfield 171, 3) := by decide +kernel
theorem dX2_told_40 : decode cX2_told 40 = .ok (.ireturn, 1) := by decide +kernel
theorem dX2_told_41 : decode cX2_told 41 = .ok (.aload_n 3, 1) := by decide +kernel
theorem dX2_told_42 : decode cX2_told 42 = .ok (.getfield 174, 3) := by decide +kernel
theorem dX2_told_45 : decode cX2_told 45 = .ok (.invokestatic 177, 3) := by decide +kernel
theorem dX2_told_48 : decode cX2_told 48 = .ok (.ireturn, 1) := by decide +kernel
theorem dX2_told_49 : decode cX2_told 49 = .ok (.aload_n 3, 1) := by decide +kernel
theorem dX2_told_50 : decode cX2_told 50 = .ok (.getfield 174, 3) := by decide +kernel
theorem dX2_told_53 : decode cX2_told 53 = .ok (.invokestatic 181, 3) := by decide +kernel
theorem dX2_told_56 : decode cX2_told 56 = .ok (.ireturn, 1) := by decide +kernel
theorem dX2_told_57 : decode cX2_told 57 = .ok (.aload_n 3, 1) := by decide +kernel
theorem dX2_told_58 : decode cX2_told 58 = .ok (.getfield 184, 3) := by decide +kernel
theorem dX2_told_61 : decode cX2_told 61 = .ok (.ireturn, 1) := by decide +kernel
theorem dX2_told_62 : decode cX2_told 62 = .ok (.new 80, 3) := by decide +kernel
theorem dX2_told_65 : decode cX2_told 65 = .ok (.dup, 1) := by decide +kernel
theorem dX2_told_66 : decode cX2_told 66 = .ok (.ldc 187, 2) := by decide +kernel
theorem dX2_told_68 : decode cX2_told 68 = .ok (.invokespecial 84, 3) := by decide +kernel
theorem dX2_told_71 : decode cX2_told 71 = .ok (.athrow, 1) := by decide +kernel
theorem dX2_point_0 : decode cX2_point 0 = .ok (.iload_n 1, 1) := by decide +kernel
theorem dX2_point_1 : decode cX2_point 1 = .ok (.invokestatic 131, 3) := by decide +kernel
theorem dX2_point_4 : decode cX2_point 4 = .ok (.ifCond .ne 13, 3) := by decide +kernel
theorem dX2_point_7 : decode cX2_point 7 = .ok (.new 124, 3) := by decide +kernel
theorem dX2_point_10 : decode cX2_point 10 = .ok (.dup, 1) := by decide +kernel
theorem dX2_point_11 : decode cX2_point 11 = .ok (.ldc 134, 2) := by decide +kernel
theorem dX2_point_13 : decode cX2_point 13 = .ok (.invokespecial 128, 3) := by decide +kernel
theorem dX2_point_16 : decode cX2_point 16 = .ok (.athrow, 1) := by decide +kernel
theorem dX2_point_17 : decode cX2_point 17 = .ok (.iload_n 2, 1) := by decide +kernel
theorem dX2_point_18 : decode cX2_point 18 = .ok (.tableswitch 54 0 2 #[26, 33, 40], 26) := by decide +kernel
theorem dX2_point_44 : decode cX2_point 44 = .ok (.aload_n 0, 1) := by decide +kernel
theorem dX2_point_45 : decode cX2_point 45 = .ok (.getfield 26, 3) := by decide +kernel
theorem dX2_point_48 : decode cX2_point 48 = .ok (.iload_n 1, 1) := by decide +kernel
theorem dX2_point_49 : decode cX2_point 49 = .ok (.iaload, 1) := by decide +kernel
theorem dX2_point_50 : decode cX2_point 50 = .ok (.ireturn, 1) := by decide +kernel
theorem dX2_point_51 : decode cX2_point 51 = .ok (.aload_n 0, 1) := by decide +kernel
theorem dX2_point_52 : decode cX2_point 52 = .ok (.getfield 30, 3) := by decide +kernel
theorem dX2_point_55 : decode cX2_point 55 = .ok (.iload_n 1, 1) := by decide +kernel
theorem dX2_point_56 : decode cX2_point 56 = .ok (.iaload, 1) := by decide +kernel
theorem dX2_point_57 : decode cX2_point 57 = .ok (.ireturn, 1) := by decide +kernel
theorem dX2_point_58 : decode cX2_point 58 = .ok (.aload_n 0, 1) := by decide +kernel
theorem dX2_point_59 : decode cX2_point 59 = .ok (.iload_n 1, 1) := by decide +kernel
theorem dX2_point_60 : decode cX2_point 60 = .ok (.invokevirtual 189, 3) := by decide +kernel
theorem dX2_point_63 : decode cX2_point 63 = .ok (.ifCond .eq 7, 3) := by decide +kernel
theorem dX2_point_66 : decode cX2_point 66 = .ok (.iconst 1, 1) := by decide +kernel
theorem dX2_point_67 : decode cX2_point 67 = .ok (.goto 4, 3) := by decide +kernel
theorem dX2_point_70 : decode cX2_point 70 = .ok (.iconst 0, 1) := by decide +kernel
theorem dX2_point_71 : decode cX2_point 71 = .ok (.ireturn, 1) := by decide +kernel
theorem dX2_point_72 : decode cX2_point 72 = .ok (.new 80, 3) := by decide +kernel
theorem dX2_point_75 : decode cX2_point 75 = .ok (.dup, 1) := by decide +kernel
theorem dX2_point_76 : decode cX2_point 76 = .ok (.ldc 192, 2) := by decide +kernel
theorem dX2_point_78 : decode cX2_point 78 = .ok (.invokespecial 84, 3) := by decide +kernel
theorem dX2_point_81 : decode cX2_point 81 = .ok (.athrow, 1) := by decide +kernel
theorem dX2_siding_0 : decode cX2_siding 0 = .ok (.iload_n 1, 1) := by decide +kernel
theorem dX2_siding_1 : decode cX2_siding 1 = .ok (.invokestatic 95, 3) := by decide +kernel
theorem dX2_siding_4 : decode cX2_siding 4 = .ok (.ifCond .ne 13, 3) := by decide +kernel
theorem dX2_siding_7 : decode cX2_siding 7 = .ok (.new 124, 3) := by decide +kernel
theorem dX2_siding_10 : decode cX2_siding 10 = .ok (.dup, 1) := by decide +kernel
theorem dX2_siding_11 : decode cX2_siding 11 = .ok (.ldc 99, 2) := by decide +kernel
theorem dX2_siding_13 : decode cX2_siding 13 = .ok (.invokespecial 128, 3) := by decide +kernel
theorem dX2_siding_16 : decode cX2_siding 16 = .ok (.athrow, 1) := by decide +kernel
theorem dX2_siding_17 : decode cX2_siding 17 = .ok (.iload_n 2, 1) := by decide +kernel
theorem dX2_siding_18 : decode cX2_siding 18 = .ok (.ifCond .lt 23, 3) := by decide +kernel
theorem dX2_siding_21 : decode cX2_siding 21 = .ok (.iload_n 2, 1) := by decide +kernel
theorem dX2_siding_22 : decode cX2_siding 22 = .ok (.aload_n 0, 1) := by decide +kernel
theorem dX2_siding_23 : decode cX2_siding 23 = .ok (.getfield 44, 3) := by decide +kernel
theorem dX2_siding_26 : decode cX2_siding 26 = .ok (.iload_n 1, 1) := by decide +kernel
theorem dX2_siding_27 : decode cX2_siding 27 = .ok (.iaload, 1) := by decide +kernel
theorem dX2_siding_28 : decode cX2_siding 28 = .ok (.if_icmp .ge 13, 3) := by decide +kernel
theorem dX2_siding_31 : decode cX2_siding 31 = .ok (.iload_n 2, 1) := by decide +kernel
theorem dX2_siding_32 : decode cX2_siding 32 = .ok (.bipush 60, 2) := by decide +kernel
theorem dX2_siding_34 : decode cX2_siding 34 = .ok (.if_icmp .ge 7, 3) := by decide +kernel
theorem dX2_siding_37 : decode cX2_siding 37 = .ok (.iconst 1, 1) := by decide +kernel
theorem dX2_siding_38 : decode cX2_siding 38 = .ok (.goto 4, 3) := by decide +kernel
theorem dX2_siding_41 : decode cX2_siding 41 = .ok (.iconst 0, 1) := by decide +kernel
theorem dX2_siding_42 : decode cX2_siding 42 = .ok (.istore_n 3, 1) := by decide +kernel
theorem dX2_siding_43 : decode cX2_siding 43 = .ok (.iload_n 3, 1) := by decide +kernel
theorem dX2_siding_44 : decode cX2_siding 44 = .ok (.ifCond .eq 17, 3) := by decide +kernel
theorem dX2_siding_47 : decode cX2_siding 47 = .ok (.aload_n 0, 1) := by decide +kernel
theorem dX2_siding_48 : decode cX2_siding 48 = .ok (.getfield 47, 3) := by decide +kernel
theorem dX2_siding_51 : decode cX2_siding 51 = .ok (.iload_n 1, 1) := by decide +kernel
theorem dX2_siding_52 : decode cX2_siding 52 = .ok (.bipush 60, 2) := by decide +kernel
theorem dX2_siding_54 : decode cX2_siding 54 = .ok (.imul, 1) := by decide +kernel
theorem dX2_siding_55 : decode cX2_siding 55 = .ok (.iload_n 2, 1) := by decide +kernel
theorem dX2_siding_56 : decode cX2_siding 56 = .ok (.iadd, 1) := by decide +kernel
theorem dX2_siding_57 : decode cX2_siding 57 = .ok (.iaload, 1) := by decide +kernel
theorem dX2_siding_58 : decode cX2_siding 58 = .ok (.goto 4, 3) := by decide +kernel
theorem dX2_siding_61 : decode cX2_siding 61 = .ok (.iconst (-1), 1) := by decide +kernel
theorem dX2_siding_62 : decode cX2_siding 62 = .ok (.ireturn, 1) := by decide +kernel
theorem dX2_event_0 : decode cX2_event 0 = .ok (.aload_n 0, 1) := by decide +kernel
theorem dX2_event_1 : decode cX2_event 1 = .ok (.getfield 22, 3) := by decide +kernel
theorem dX2_event_4 : decode cX2_event 4 = .ok (.iload_n 1, 1) := by decide +kernel
theorem dX2_event_5 : decode cX2_event 5 = .ok (.invokevirtual 194, 3) := by decide +kernel
theorem dX2_event_8 : decode cX2_event 8 = .ok (.ifCond .ne 13, 3) := by decide +kernel
theorem dX2_event_11 : decode cX2_event 11 = .ok (.new 124, 3) := by decide +kernel
theorem dX2_event_14 : decode cX2_event 14 = .ok (.dup, 1) := by decide +kernel
theorem dX2_event_15 : decode cX2_event 15 = .ok (.ldc 197, 2) := by decide +kernel
theorem dX2_event_17 : decode cX2_event 17 = .ok (.invokespecial 128, 3) := by decide +kernel
theorem dX2_event_20 : decode cX2_event 20 = .ok (.athrow, 1) := by decide +kernel
theorem dX2_event_21 : decode cX2_event 21 = .ok (.iload_n 2, 1) := by decide +kernel
theorem dX2_event_22 : decode cX2_event 22 = .ok (.ifCond .lt 8, 3) := by decide +kernel
theorem dX2_event_25 : decode cX2_event 25 = .ok (.iload_n 2, 1) := by decide +kernel
theorem dX2_event_26 : decode cX2_event 26 = .ok (.iconst 4, 1) := by decide +kernel
theorem dX2_event_27 : decode cX2_event 27 = .ok (.if_icmp .lt 13, 3) := by decide +kernel
theorem dX2_event_30 : decode cX2_event 30 = .ok (.new 80, 3) := by decide +kernel
theorem dX2_event_33 : decode cX2_event 33 = .ok (.dup, 1) := by decide +kernel
theorem dX2_event_34 : decode cX2_event 34 = .ok (.ldc 199, 2) := by decide +kernel
theorem dX2_event_36 : decode cX2_event 36 = .ok (.invokespecial 84, 3) := by decide +kernel
theorem dX2_event_39 : decode cX2_event 39 = .ok (.athrow, 1) := by decide +kernel
theorem dX2_event_40 : decode cX2_event 40 = .ok (.aload_n 0, 1) := by decide +kernel
theorem dX2_event_41 : decode cX2_event 41 = .ok (.getfield 22, 3) := by decide +kernel
theorem dX2_event_44 : decode cX2_event 44 = .ok (.iload_n 1, 1) := by decide +kernel
theorem dX2_event_45 : decode cX2_event 45 = .ok (.iload_n 2, 1) := by decide +kernel
theorem dX2_event_46 : decode cX2_event 46 = .ok (.invokevirtual 201, 3) := by decide +kernel
theorem dX2_event_49 : decode cX2_event 49 = .ok (.ireturn, 1) := by decide +kernel
theorem dX2_about_0 : decode cX2_about 0 = .ok (.iload_n 1, 1) := by decide +kernel
theorem dX2_about_1 : decode cX2_about 1 = .ok (.tableswitch 95 0 6 #[43, 51, 64, 72, 77, 82, 90], 43) := by decide +kernel
theorem dX2_about_44 : decode cX2_about 44 = .ok (.aload_n 0, 1) := by decide +kernel
theorem dX2_about_45 : decode cX2_about 45 = .ok (.getfield 10, 3) := by decide +kernel
theorem dX2_about_48 : decode cX2_about 48 = .ok (.invokevirtual 101, 3) := by decide +kernel
theorem dX2_about_51 : decode cX2_about 51 = .ok (.ireturn, 1) := by decide +kernel
theorem dX2_about_52 : decode cX2_about 52 = .ok (.aload_n 0, 1) := by decide +kernel
theorem dX2_about_53 : decode cX2_about 53 = .ok (.getfield 10, 3) := by decide +kernel
theorem dX2_about_56 : decode cX2_about 56 = .ok (.invokevirtual 101, 3) := by decide +kernel
theorem dX2_about_59 : decode cX2_about 59 = .ok (.aload_n 0, 1) := by decide +kernel
theorem dX2_about_60 : decode cX2_about 60 = .ok (.getfield 57, 3) := by decide +kernel
theorem dX2_about_63 : decode cX2_about 63 = .ok (.isub, 1) := by decide +kernel
theorem dX2_about_64 : decode cX2_about 64 = .ok (.ireturn, 1) := by decide +kernel
theorem dX2_about_65 : decode cX2_about 65 = .ok (.aload_n 0, 1) := by decide +kernel
theorem dX2_about_66 : decode cX2_about 66 = .ok (.getfield 16, 3) := by decide +kernel
theorem dX2_about_69 : decode cX2_about 69 = .ok (.invokevirtual 101, 3) := by decide +kernel
theorem dX2_about_72 : decode cX2_about 72 = .ok (.ireturn, 1) := by decide +kernel
theorem dX2_about_73 : decode cX2_about 73 = .ok (.aload_n 0, 1) := by decide +kernel
theorem dX2_about_74 : decode cX2_about 74 = .ok (.getfield 61, 3) := by decide +kernel
theorem dX2_about_77 : decode cX2_about 77 = .ok (.ireturn, 1) := by decide +kernel
theorem dX2_about_78 : decode cX2_about 78 = .ok (.aload_n 0, 1) := by decide +kernel
theorem dX2_about_79 : decode cX2_about 79 = .ok (.getfield 64, 3) := by decide +kernel
theorem dX2_about_82 : decode cX2_about 82 = .ok (.ireturn, 1) := by decide +kernel
theorem dX2_about_83 : decode cX2_about 83 = .ok (.aload_n 0, 1) := by decide +kernel
theorem dX2_about_84 : decode cX2_about 84 = .ok (.getfield 22, 3) := by decide +kernel
theorem dX2_about_87 : decode cX2_about 87 = .ok (.getfield 140, 3) := by decide +kernel
theorem dX2_about_90 : decode cX2_about 90 = .ok (.ireturn, 1) := by decide +kernel
theorem dX2_about_91 : decode cX2_about 91 = .ok (.aload_n 0, 1) := by decide +kernel
theorem dX2_about_92 : decode cX2_about 92 = .ok (.getfield 67, 3) := by decide +kernel
theorem dX2_about_95 : decode cX2_about 95 = .ok (.ireturn, 1) := by decide +kernel
theorem dX2_about_96 : decode cX2_about 96 = .ok (.new 80, 3) := by decide +kernel
theorem dX2_about_99 : decode cX2_about 99 = .ok (.dup, 1) := by decide +kernel
theorem dX2_about_100 : decode cX2_about 100 = .ok (.ldc 204, 2) := by decide +kernel
theorem dX2_about_102 : decode cX2_about 102 = .ok (.invokespecial 84, 3) := by decide +kernel
theorem dX2_about_105 : decode cX2_about 105 = .ok (.athrow, 1) := by decide +kernel
theorem dX2_fastest_0 : decode cX2_fastest 0 = .ok (.aload_n 0, 1) := by decide +kernel
theorem dX2_fastest_1 : decode cX2_fastest 1 = .ok (.getfield 54, 3) := by decide +kernel
theorem dX2_fastest_4 : decode cX2_fastest 4 = .ok (.dreturn, 1) := by decide +kernel
theorem dX2_cutOf_0 : decode cX2_cutOf 0 = .ok (.iload_n 1, 1) := by decide +kernel
theorem dX2_cutOf_1 : decode cX2_cutOf 1 = .ok (.ifCond .lt 14, 3) := by decide +kernel
theorem dX2_cutOf_4 : decode cX2_cutOf 4 = .ok (.iload_n 1, 1) := by decide +kernel
theorem dX2_cutOf_5 : decode cX2_cutOf 5 = .ok (.aload_n 0, 1) := by decide +kernel
theorem dX2_cutOf_6 : decode cX2_cutOf 6 = .ok (.getfield 10, 3) := by decide +kernel
theorem dX2_cutOf_9 : decode cX2_cutOf 9 = .ok (.invokevirtual 101, 3) := by decide +kernel
theorem dX2_cutOf_12 : decode cX2_cutOf 12 = .ok (.if_icmp .lt 13, 3) := by decide +kernel
theorem dX2_cutOf_15 : decode cX2_cutOf 15 = .ok (.new 124, 3) := by decide +kernel
theorem dX2_cutOf_18 : decode cX2_cutOf 18 = .ok (.dup, 1) := by decide +kernel
theorem dX2_cutOf_19 : decode cX2_cutOf 19 = .ok (.ldc 206, 2) := by decide +kernel
theorem dX2_cutOf_21 : decode cX2_cutOf 21 = .ok (.invokespecial 128, 3) := by decide +kernel
theorem dX2_cutOf_24 : decode cX2_cutOf 24 = .ok (.athrow, 1) := by decide +kernel
theorem dX2_cutOf_25 : decode cX2_cutOf 25 = .ok (.aload_n 0, 1) := by decide +kernel
theorem dX2_cutOf_26 : decode cX2_cutOf 26 = .ok (.getfield 10, 3) := by decide +kernel
theorem dX2_cutOf_29 : decode cX2_cutOf 29 = .ok (.iload_n 1, 1) := by decide +kernel
theorem dX2_cutOf_30 : decode cX2_cutOf 30 = .ok (.invokevirtual 208, 3) := by decide +kernel
theorem dX2_cutOf_33 : decode cX2_cutOf 33 = .ok (.checkcast 110, 3) := by decide +kernel
theorem dX2_cutOf_36 : decode cX2_cutOf 36 = .ok (.areturn, 1) := by decide +kernel
theorem dX2_isWithin_0 : decode cX2_isWithin 0 = .ok (.dload_n 0, 1) := by decide +kernel
theorem dX2_isWithin_1 : decode cX2_isWithin 1 = .ok (.dconst 0, 1) := by decide +kernel
theorem dX2_isWithin_2 : decode cX2_isWithin 2 = .ok (.dcmp .l, 1) := by decide +kernel
theorem dX2_isWithin_3 : decode cX2_isWithin 3 = .ok (.ifCond .lt 14, 3) := by decide +kernel
theorem dX2_isWithin_6 : decode cX2_isWithin 6 = .ok (.dload_n 0, 1) := by decide +kernel
theorem dX2_isWithin_7 : decode cX2_isWithin 7 = .ok (.iload_n 2, 1) := by decide +kernel
theorem dX2_isWithin_8 : decode cX2_isWithin 8 = .ok (.i2d, 1) := by decide +kernel
theorem dX2_isWithin_9 : decode cX2_isWithin 9 = .ok (.dcmp .g, 1) := by decide +kernel
theorem dX2_isWithin_10 : decode cX2_isWithin 10 = .ok (.ifCond .gt 7, 3) := by decide +kernel
theorem dX2_isWithin_13 : decode cX2_isWithin 13 = .ok (.iconst 1, 1) := by decide +kernel
theorem dX2_isWithin_14 : decode cX2_isWithin 14 = .ok (.goto 4, 3) := by decide +kernel
theorem dX2_isWithin_17 : decode cX2_isWithin 17 = .ok (.iconst 0, 1) := by decide +kernel
theorem dX2_isWithin_18 : decode cX2_isWithin 18 = .ok (.ireturn, 1) := by decide +kernel
theorem dX2_isTrack_0 : decode cX2_isTrack 0 = .ok (.iload_n 0, 1) := by decide +kernel
theorem dX2_isTrack_1 : decode cX2_isTrack 1 = .ok (.ifCond .lt 13, 3) := by decide +kernel
theorem dX2_isTrack_4 : decode cX2_isTrack 4 = .ok (.iload_n 0, 1) := by decide +kernel
theorem dX2_isTrack_5 : decode cX2_isTrack 5 = .ok (.bipush 8, 2) := by decide +kernel
theorem dX2_isTrack_7 : decode cX2_isTrack 7 = .ok (.if_icmp .ge 7, 3) := by decide +kernel
theorem dX2_isTrack_10 : decode cX2_isTrack 10 = .ok (.iconst 1, 1) := by decide +kernel
theorem dX2_isTrack_11 : decode cX2_isTrack 11 = .ok (.goto 4, 3) := by decide +kernel
theorem dX2_isTrack_14 : decode cX2_isTrack 14 = .ok (.iconst 0, 1) := by decide +kernel
theorem dX2_isTrack_15 : decode cX2_isTrack 15 = .ok (.ireturn, 1) := by decide +kernel
theorem dX2_isPoint_0 : decode cX2_isPoint 0 = .ok (.iload_n 0, 1) := by decide +kernel
theorem dX2_isPoint_1 : decode cX2_isPoint 1 = .ok (.ifCond .lt 13, 3) := by decide +kernel
theorem dX2_isPoint_4 : decode cX2_isPoint 4 = .ok (.iload_n 0, 1) := by decide +kernel
theorem dX2_isPoint_5 : decode cX2_isPoint 5 = .ok (.bipush 7, 2) := by decide +kernel
theorem dX2_isPoint_7 : decode cX2_isPoint 7 = .ok (.if_icmp .ge 7, 3) := by decide +kernel
theorem dX2_isPoint_10 : decode cX2_isPoint 10 = .ok (.iconst 1, 1) := by decide +kernel
theorem dX2_isPoint_11 : decode cX2_isPoint 11 = .ok (.goto 4, 3) := by decide +kernel
theorem dX2_isPoint_14 : decode cX2_isPoint 14 = .ok (.iconst 0, 1) := by decide +kernel
theorem dX2_isPoint_15 : decode cX2_isPoint 15 = .ok (.ireturn, 1) := by decide +kernel
theorem dX2_nodeBehind_0 : decode cX2_nodeBehind 0 = .ok (.iconst 2, 1) := by decide +kernel
theorem dX2_nodeBehind_1 : decode cX2_nodeBehind 1 = .ok (.iload_n 0, 1) := by decide +kernel
theorem dX2_nodeBehind_2 : decode cX2_nodeBehind 2 = .ok (.imul, 1) := by decide +kernel
theorem dX2_nodeBehind_3 : decode cX2_nodeBehind 3 = .ok (.iconst 1, 1) := by decide +kernel
theorem dX2_nodeBehind_4 : decode cX2_nodeBehind 4 = .ok (.iadd, 1) := by decide +kernel
theorem dX2_nodeBehind_5 : decode cX2_nodeBehind 5 = .ok (.iload_n 1, 1) := by decide +kernel
theorem dX2_nodeBehind_6 : decode cX2_nodeBehind 6 = .ok (.iadd, 1) := by decide +kernel
theorem dX2_nodeBehind_7 : decode cX2_nodeBehind 7 = .ok (.ireturn, 1) := by decide +kernel
theorem dX2_trackOf_0 : decode cX2_trackOf 0 = .ok (.iload_n 0, 1) := by decide +kernel
theorem dX2_trackOf_1 : decode cX2_trackOf 1 = .ok (.bipush 7, 2) := by decide +kernel
theorem dX2_trackOf_3 : decode cX2_trackOf 3 = .ok (.isub, 1) := by decide +kernel
theorem dX2_trackOf_4 : decode cX2_trackOf 4 = .ok (.istore_n 1, 1) := by decide +kernel
theorem dX2_trackOf_5 : decode cX2_trackOf 5 = .ok (.iload_n 1, 1) := by decide +kernel
theorem dX2_trackOf_6 : decode cX2_trackOf 6 = .ok (.invokestatic 95, 3) := by decide +kernel
theorem dX2_trackOf_9 : decode cX2_trackOf 9 = .ok (.ifCond .eq 7, 3) := by decide +kernel
theorem dX2_trackOf_12 : decode cX2_trackOf 12 = .ok (.iload_n 1, 1) := by decide +kernel
theorem dX2_trackOf_13 : decode cX2_trackOf 13 = .ok (.goto 4, 3) := by decide +kernel
theorem dX2_trackOf_16 : decode cX2_trackOf 16 = .ok (.iconst (-1), 1) := by decide +kernel
theorem dX2_trackOf_17 : decode cX2_trackOf 17 = .ok (.ireturn, 1) := by decide +kernel
theorem dX2_levelOf_0 : decode cX2_levelOf 0 = .ok (.iload_n 0, 1) := by decide +kernel
theorem dX2_levelOf_1 : decode cX2_levelOf 1 = .ok (.iconst 1, 1) := by decide +kernel
theorem dX2_levelOf_2 : decode cX2_levelOf 2 = .ok (.if_icmp .ge 5, 3) := by decide +kernel
theorem dX2_levelOf_5 : decode cX2_levelOf 5 = .ok (.iconst 0, 1) := by decide +kernel
theorem dX2_levelOf_6 : decode cX2_levelOf 6 = .ok (.ireturn, 1) := by decide +kernel
theorem dX2_levelOf_7 : decode cX2_levelOf 7 = .ok (.iload_n 0, 1) := by decide +kernel
theorem dX2_levelOf_8 : decode cX2_levelOf 8 = .ok (.iconst 3, 1) := by decide +kernel
theorem dX2_levelOf_9 : decode cX2_levelOf 9 = .ok (.if_icmp .ge 5, 3) := by decide +kernel
theorem dX2_levelOf_12 : decode cX2_levelOf 12 = .ok (.iconst 1, 1) := by decide +kernel
theorem dX2_levelOf_13 : decode cX2_levelOf 13 = .ok (.ireturn, 1) := by decide +kernel
theorem dX2_levelOf_14 : decode cX2_levelOf 14 = .ok (.iload_n 0, 1) := by decide +kernel
theorem dX2_levelOf_15 : decode cX2_levelOf 15 = .ok (.bipush 7, 2) := by decide +kernel
theorem dX2_levelOf_17 : decode cX2_levelOf 17 = .ok (.if_icmp .ge 7, 3) := by decide +kernel
theorem dX2_levelOf_20 : decode cX2_levelOf 20 = .ok (.iconst 2, 1) := by decide +kernel
theorem dX2_levelOf_21 : decode cX2_levelOf 21 = .ok (.goto 4, 3) := by decide +kernel
theorem dX2_levelOf_24 : decode cX2_levelOf 24 = .ok (.iconst 3, 1) := by decide +kernel
theorem dX2_levelOf_25 : decode cX2_levelOf 25 = .ok (.ireturn, 1) := by decide +kernel
theorem dX2_pointPlace_0 : decode cX2_pointPlace 0 = .ok (.bipush 80, 2) := by decide +kernel
theorem dX2_pointPlace_2 : decode cX2_pointPlace 2 = .ok (.bipush 40, 2) := by decide +kernel
theorem dX2_pointPlace_4 : decode cX2_pointPlace 4 = .ok (.iload_n 0, 1) := by decide +kernel
theorem dX2_pointPlace_5 : decode cX2_pointPlace 5 = .ok (.invokestatic 181, 3) := by decide +kernel
theorem dX2_pointPlace_8 : decode cX2_pointPlace 8 = .ok (.imul, 1) := by decide +kernel
theorem dX2_pointPlace_9 : decode cX2_pointPlace 9 = .ok (.iadd, 1) := by decide +kernel
theorem dX2_pointPlace_10 : decode cX2_pointPlace 10 = .ok (.ireturn, 1) := by decide +kernel
theorem dX2_leadsTo_0 : decode cX2_leadsTo 0 = .ok (.iload_n 1, 1) := by decide +kernel
theorem dX2_leadsTo_1 : decode cX2_leadsTo 1 = .ok (.istore_n 2, 1) := by decide +kernel
theorem dX2_leadsTo_2 : decode cX2_leadsTo 2 = .ok (.iconst 0, 1) := by decide +kernel
theorem dX2_leadsTo_3 : decode cX2_leadsTo 3 = .ok (.istore_n 3, 1) := by decide +kernel
theorem dX2_leadsTo_4 : decode cX2_leadsTo 4 = .ok (.iload_n 3, 1) := by decide +kernel
theorem dX2_leadsTo_5 : decode cX2_leadsTo 5 = .ok (.iconst 3, 1) := by decide +kernel
theorem dX2_leadsTo_6 : decode cX2_leadsTo 6 = .ok (.if_icmp .ge 20, 3) := by decide +kernel
theorem dX2_leadsTo_9 : decode cX2_leadsTo 9 = .ok (.iload_n 2, 1) := by decide +kernel
theorem dX2_leadsTo_10 : decode cX2_leadsTo 10 = .ok (.iload_n 0, 1) := by decide +kernel
theorem dX2_leadsTo_11 : decode cX2_leadsTo 11 = .ok (.if_icmp .le 15, 3) := by decide +kernel
theorem dX2_leadsTo_14 : decode cX2_leadsTo 14 = .ok (.iload_n 2, 1) := by decide +kernel
theorem dX2_leadsTo_15 : decode cX2_leadsTo 15 = .ok (.iconst 1, 1) := by decide +kernel
theorem dX2_leadsTo_16 : decode cX2_leadsTo 16 = .ok (.isub, 1) := by decide +kernel
theorem dX2_leadsTo_17 : decode cX2_leadsTo 17 = .ok (.iconst 2, 1) := by decide +kernel
theorem dX2_leadsTo_18 : decode cX2_leadsTo 18 = .ok (.idiv, 1) := by decide +kernel
theorem dX2_leadsTo_19 : decode cX2_leadsTo 19 = .ok (.istore_n 2, 1) := by decide +kernel
theorem dX2_leadsTo_20 : decode cX2_leadsTo 20 = .ok (.iinc 3 1, 3) := by decide +kernel
theorem dX2_leadsTo_23 : decode cX2_leadsTo 23 = .ok (.goto (-19), 3) := by decide +kernel
theorem dX2_leadsTo_26 : decode cX2_leadsTo 26 = .ok (.iload_n 2, 1) := by decide +kernel
theorem dX2_leadsTo_27 : decode cX2_leadsTo 27 = .ok (.iload_n 0, 1) := by decide +kernel
theorem dX2_leadsTo_28 : decode cX2_leadsTo 28 = .ok (.if_icmp .ne 7, 3) := by decide +kernel
theorem dX2_leadsTo_31 : decode cX2_leadsTo 31 = .ok (.iconst 1, 1) := by decide +kernel
theorem dX2_leadsTo_32 : decode cX2_leadsTo 32 = .ok (.goto 4, 3) := by decide +kernel
theorem dX2_leadsTo_35 : decode cX2_leadsTo 35 = .ok (.iconst 0, 1) := by decide +kernel
theorem dX2_leadsTo_36 : decode cX2_leadsTo 36 = .ok (.ireturn, 1) := by decide +kernel
theorem dX2_isOneWay_0 : decode cX2_isOneWay 0 = .ok (.iload_n 0, 1) := by decide +kernel
theorem dX2_isOneWay_1 : decode cX2_isOneWay 1 = .ok (.iload_n 1, 1) := by decide +kernel
theorem dX2_isOneWay_2 : decode cX2_isOneWay 2 = .ok (.invokestatic 212, 3) := by decide +kernel
theorem dX2_isOneWay_5 : decode cX2_isOneWay 5 = .ok (.ifCond .ne 11, 3) := by decide +kernel
theorem dX2_isOneWay_8 : decode cX2_isOneWay 8 = .ok (.iload_n 1, 1) := by decide +kernel
theorem dX2_isOneWay_9 : decode cX2_isOneWay 9 = .ok (.iload_n 0, 1) := by decide +kernel
theorem dX2_isOneWay_10 : decode cX2_isOneWay 10 = .ok (.invokestatic 212, 3) := by decide +kernel
theorem dX2_isOneWay_13 : decode cX2_isOneWay 13 = .ok (.ifCond .eq 7, 3) := by decide +kernel
theorem dX2_isOneWay_16 : decode cX2_isOneWay 16 = .ok (.iconst 1, 1) := by decide +kernel
theorem dX2_isOneWay_17 : decode cX2_isOneWay 17 = .ok (.goto 4, 3) := by decide +kernel
theorem dX2_isOneWay_20 : decode cX2_isOneWay 20 = .ok (.iconst 0, 1) := by decide +kernel
theorem dX2_isOneWay_21 : decode cX2_isOneWay 21 = .ok (.ireturn, 1) := by decide +kernel
theorem dX2_goOnTurning_0 : decode cX2_goOnTurning 0 = .ok (.iconst 0, 1) := by decide +kernel
theorem dX2_goOnTurning_1 : decode cX2_goOnTurning 1 = .ok (.istore_n 1, 1) := by decide +kernel
theorem dX2_goOnTurning_2 : decode cX2_goOnTurning 2 = .ok (.iload_n 1, 1) := by decide +kernel
theorem dX2_goOnTurning_3 : decode cX2_goOnTurning 3 = .ok (.bipush 7, 2) := by decide +kernel
theorem dX2_goOnTurning_5 : decode cX2_goOnTurning 5 = .ok (.if_icmp .ge 60, 3) := by decide +kernel
theorem dX2_goOnTurning_8 : decode cX2_goOnTurning 8 = .ok (.aload_n 0, 1) := by decide +kernel
theorem dX2_goOnTurning_9 : decode cX2_goOnTurning 9 = .ok (.getfield 30, 3) := by decide +kernel
theorem dX2_goOnTurning_12 : decode cX2_goOnTurning 12 = .ok (.iload_n 1, 1) := by decide +kernel
theorem dX2_goOnTurning_13 : decode cX2_goOnTurning 13 = .ok (.iaload, 1) := by decide +kernel
theorem dX2_goOnTurning_14 : decode cX2_goOnTurning 14 = .ok (.ifCond .le 45, 3) := by decide +kernel
theorem dX2_goOnTurning_17 : decode cX2_goOnTurning 17 = .ok (.aload_n 0, 1) := by decide +kernel
theorem dX2_goOnTurning_18 : decode cX2_goOnTurning 18 = .ok (.getfield 33, 3) := by decide +kernel
theorem dX2_goOnTurning_21 : decode cX2_goOnTurning 21 = .ok (.iload_n 1, 1) := by decide +kernel
theorem dX2_goOnTurning_22 : decode cX2_goOnTurning 22 = .ok (.baload, 1) := by decide +kernel
theorem dX2_goOnTurning_23 : decode cX2_goOnTurning 23 = .ok (.ifCond .ne 36, 3) := by decide +kernel
theorem dX2_goOnTurning_26 : decode cX2_goOnTurning 26 = .ok (.aload_n 0, 1) := by decide +kernel
theorem dX2_goOnTurning_27 : decode cX2_goOnTurning 27 = .ok (.getfield 30, 3) := by decide +kernel
theorem dX2_goOnTurning_30 : decode cX2_goOnTurning 30 = .ok (.iload_n 1, 1) := by decide +kernel
theorem dX2_goOnTurning_31 : decode cX2_goOnTurning 31 = .ok (.dup2, 1) := by decide +kernel
theorem dX2_goOnTurning_32 : decode cX2_goOnTurning 32 = .ok (.iaload, 1) := by decide +kernel
theorem dX2_goOnTurning_33 : decode cX2_goOnTurning 33 = .ok (.iconst 1, 1) := by decide +kernel
theorem dX2_goOnTurning_34 : decode cX2_goOnTurning 34 = .ok (.isub, 1) := by decide +kernel
theorem dX2_goOnTurning_35 : decode cX2_goOnTurning 35 = .ok (.iastore, 1) := by decide +kernel
theorem dX2_goOnTurning_36 : decode cX2_goOnTurning 36 = .ok (.aload_n 0, 1) := by decide +kernel
theorem dX2_goOnTurning_37 : decode cX2_goOnTurning 37 = .ok (.getfield 30, 3) := by decide +kernel
theorem dX2_goOnTurning_40 : decode cX2_goOnTurning 40 = .ok (.iload_n 1, 1) := by decide +kernel
theorem dX2_goOnTurning_41 : decode cX2_goOnTurning 41 = .ok (.iaload, 1) := by decide +kernel
theorem dX2_goOnTurning_42 : decode cX2_goOnTurning 42 = .ok (.ifCond .ne 17, 3) := by decide +kernel
theorem dX2_goOnTurning_45 : decode cX2_goOnTurning 45 = .ok (.aload_n 0, 1) := by decide +kernel
theorem dX2_goOnTurning_46 : decode cX2_goOnTurning 46 = .ok (.getfield 26, 3) := by decide +kernel
theorem dX2_goOnTurning_49 : decode cX2_goOnTurning 49 = .ok (.iload_n 1, 1) := by decide +kernel
theorem dX2_goOnTurning_50 : decode cX2_goOnTurning 50 = .ok (.iconst 1, 1) := by decide +kernel
theorem dX2_goOnTurning_51 : decode cX2_goOnTurning 51 = .ok (.aload_n 0, 1) := by decide +kernel
theorem dX2_goOnTurning_52 : decode cX2_goOnTurning 52 = .ok (.getfield 26, 3) := by decide +kernel
theorem dX2_goOnTurning_55 : decode cX2_goOnTurning 55 = .ok (.iload_n 1, 1) := by decide +kernel
theorem dX2_goOnTurning_56 : decode cX2_goOnTurning 56 = .ok (.iaload, 1) := by decide +kernel
theorem dX2_goOnTurning_57 : decode cX2_goOnTurning 57 = .ok (.isub, 1) := by decide +kernel
theorem dX2_goOnTurning_58 : decode cX2_goOnTurning 58 = .ok (.iastore, 1) := by decide +kernel
theorem dX2_goOnTurning_59 : decode cX2_goOnTurning 59 = .ok (.iinc 1 1, 3) := by decide +kernel
theorem dX2_goOnTurning_62 : decode cX2_goOnTurning 62 = .ok (.goto (-60), 3) := by decide +kernel
theorem dX2_goOnTurning_65 : decode cX2_goOnTurning 65 = .ok (.return_, 1) := by decide +kernel
theorem dX2_beginTurning_0 : decode cX2_beginTurning 0 = .ok (.iconst 0, 1) := by decide +kernel
theorem dX2_beginTurning_1 : decode cX2_beginTurning 1 = .ok (.istore_n 1, 1) := by decide +kernel
theorem dX2_beginTurning_2 : decode cX2_beginTurning 2 = .ok (.iload_n 1, 1) := by decide +kernel
theorem dX2_beginTurning_3 : decode cX2_beginTurning 3 = .ok (.bipush 7, 2) := by decide +kernel
theorem dX2_beginTurning_5 : decode cX2_beginTurning 5 = .ok (.if_icmp .ge 66, 3) := by decide +kernel
theorem dX2_beginTurning_8 : decode cX2_beginTurning 8 = .ok (.aload_n 0, 1) := by decide +kernel
theorem dX2_beginTurning_9 : decode cX2_beginTurning 9 = .ok (.getfield 30, 3) := by decide +kernel
theorem dX2_beginTurning_12 : decode cX2_beginTurning 12 = .ok (.iload_n 1, 1) := by decide +kernel
theorem dX2_beginTurning_13 : decode cX2_beginTurning 13 = .ok (.iaload, 1) := by decide +kernel
theorem dX2_beginTurning_14 : decode cX2_beginTurning 14 = .ok (.ifCond .ne 51, 3) := by decide +kernel
theorem dX2_beginTurning_17 : decode cX2_beginTurning 17 = .ok (.aload_n 0, 1) := by decide +kernel
theorem dX2_beginTurning_18 : decode cX2_beginTurning 18 = .ok (.getfield 33, 3) := by decide +kernel
theorem dX2_beginTurning_21 : decode cX2_beginTurning 21 = .ok (.iload_n 1, 1) := by decide +kernel
theorem dX2_beginTurning_22 : decode cX2_beginTurning 22 = .ok (.baload, 1) := by decide +kernel
theorem dX2_beginTurning_23 : decode cX2_beginTurning 23 = .ok (.ifCond .ne 42, 3) := by decide +kernel
theorem dX2_beginTurning_26 : decode cX2_beginTurning 26 = .ok (.aload_n 0, 1) := by decide +kernel
theorem dX2_beginTurning_27 : decode cX2_beginTurning 27 = .ok (.iload_n 1, 1) := by decide +kernel
theorem dX2_beginTurning_28 : decode cX2_beginTurning 28 = .ok (.invokevirtual 189, 3) := by decide +kernel
theorem dX2_beginTurning_31 : decode cX2_beginTurning 31 = .ok (.ifCond .ne 34, 3) := by decide +kernel
theorem dX2_beginTurning_34 : decode cX2_beginTurning 34 = .ok (.aload_n 0, 1) := by decide +kernel
theorem dX2_beginTurning_35 : decode cX2_beginTurning 35 = .ok (.iload_n 1, 1) := by decide +kernel
theorem dX2_beginTurning_36 : decode cX2_beginTurning 36 = .ok (.invokevirtual 216, 3) := by decide +kernel
theorem dX2_beginTurning_39 : decode cX2_beginTurning 39 = .ok (.astore_n 2, 1) := by decide +kernel
theorem dX2_beginTurning_40 : decode cX2_beginTurning 40 = .ok (.aload_n 2, 1) := by decide +kernel
theorem dX2_beginTurning_41 : decode cX2_beginTurning 41 = .ok (.ifnull 24, 3) := by decide +kernel
theorem dX2_beginTurning_44 : decode cX2_beginTurning 44 = .ok (.aload_n 2, 1) := by decide +kernel
theorem dX2_beginTurning_45 : decode cX2_beginTurning 45 = .ok (.iload_n 1, 1) := by decide +kernel
theorem dX2_beginTurning_46 : decode cX2_beginTurning 46 = .ok (.invokevirtual 219, 3) := by decide +kernel
theorem dX2_beginTurning_49 : decode cX2_beginTurning 49 = .ok (.aload_n 0, 1) := by decide +kernel
theorem dX2_beginTurning_50 : decode cX2_beginTurning 50 = .ok (.getfield 26, 3) := by decide +kernel
theorem dX2_beginTurning_53 : decode cX2_beginTurning 53 = .ok (.iload_n 1, 1) := by decide +kernel
theorem dX2_beginTurning_54 : decode cX2_beginTurning 54 = .ok (.iaload, 1) := by decide +kernel
theorem dX2_beginTurning_55 : decode cX2_beginTurning 55 = .ok (.if_icmp .eq 10, 3) := by decide +kernel
theorem dX2_beginTurning_58 : decode cX2_beginTurning 58 = .ok (.aload_n 0, 1) := by decide +kernel
theorem dX2_beginTurning_59 : decode cX2_beginTurning 59 = .ok (.getfield 30, 3) := by decide +kernel
theorem dX2_beginTurning_62 : decode cX2_beginTurning 62 = .ok (.iload_n 1, 1) := by decide +kernel
theorem dX2_beginTurning_63 : decode cX2_beginTurning 63 = .ok (.iconst 4, 1) := by decide +kernel
theorem dX2_beginTurning_64 : decode cX2_beginTurning 64 = .ok (.iastore, 1) := by decide +kernel
theorem dX2_beginTurning_65 : decode cX2_beginTurning 65 = .ok (.iinc 1 1, 3) := by decide +kernel
theorem dX2_beginTurning_68 : decode cX2_beginTurning 68 = .ok (.goto (-66), 3) := by decide +kernel
theorem dX2_beginTurning_71 : decode cX2_beginTurning 71 = .ok (.return_, 1) := by decide +kernel
theorem dX2_isBusy_0 : decode cX2_isBusy 0 = .ok (.iload_n 1, 1) := by decide +kernel
theorem dX2_isBusy_1 : decode cX2_isBusy 1 = .ok (.invokestatic 222, 3) := by decide +kernel
theorem dX2_isBusy_4 : decode cX2_isBusy 4 = .ok (.istore_n 2, 1) := by decide +kernel
theorem dX2_isBusy_5 : decode cX2_isBusy 5 = .ok (.iconst 0, 1) := by decide +kernel
theorem dX2_isBusy_6 : decode cX2_isBusy 6 = .ok (.istore_n 3, 1) := by decide +kernel
theorem dX2_isBusy_7 : decode cX2_isBusy 7 = .ok (.iload_n 3, 1) := by decide +kernel
theorem dX2_isBusy_8 : decode cX2_isBusy 8 = .ok (.aload_n 0, 1) := by decide +kernel
theorem dX2_isBusy_9 : decode cX2_isBusy 9 = .ok (.getfield 16, 3) := by decide +kernel
theorem dX2_isBusy_12 : decode cX2_isBusy 12 = .ok (.invokevirtual 101, 3) := by decide +kernel
theorem dX2_isBusy_15 : decode cX2_isBusy 15 = .ok (.if_icmp .ge 65, 3) := by decide +kernel
theorem dX2_isBusy_18 : decode cX2_isBusy 18 = .ok (.aload_n 0, 1) := by decide +kernel
theorem dX2_isBusy_19 : decode cX2_isBusy 19 = .ok (.getfield 16, 3) := by decide +kernel
theorem dX2_isBusy_22 : decode cX2_isBusy 22 = .ok (.iload_n 3, 1) := by decide +kernel
theorem dX2_isBusy_23 : decode cX2_isBusy 23 = .ok (.invokevirtual 208, 3) := by decide +kernel
theorem dX2_isBusy_26 : decode cX2_isBusy 26 = .ok (.checkcast 110, 3) := by decide +kernel
theorem dX2_isBusy_29 : decode cX2_isBusy 29 = .ok (.astore 4, 2) := by decide +kernel
theorem dX2_isBusy_31 : decode cX2_isBusy 31 = .ok (.aload 4, 2) := by decide +kernel
theorem dX2_isBusy_33 : decode cX2_isBusy 33 = .ok (.getfield 165, 3) := by decide +kernel
theorem dX2_isBusy_36 : decode cX2_isBusy 36 = .ok (.iload_n 2, 1) := by decide +kernel
theorem dX2_isBusy_37 : decode cX2_isBusy 37 = .ok (.bipush 15, 2) := by decide +kernel
theorem dX2_isBusy_39 : decode cX2_isBusy 39 = .ok (.isub, 1) := by decide +kernel
theorem dX2_isBusy_40 : decode cX2_isBusy 40 = .ok (.i2d, 1) := by decide +kernel
theorem dX2_isBusy_41 : decode cX2_isBusy 41 = .ok (.dcmp .l, 1) := by decide +kernel
theorem dX2_isBusy_42 : decode cX2_isBusy 42 = .ok (.ifCond .lt 32, 3) := by decide +kernel
theorem dX2_isBusy_45 : decode cX2_isBusy 45 = .ok (.aload 4, 2) := by decide +kernel
theorem dX2_isBusy_47 : decode cX2_isBusy 47 = .ok (.invokevirtual 225, 3) := by decide +kernel
theorem dX2_isBusy_50 : decode cX2_isBusy 50 = .ok (.iload_n 2, 1) := by decide +kernel
theorem dX2_isBusy_51 : decode cX2_isBusy 51 = .ok (.i2d, 1) := by decide +kernel
theorem dX2_isBusy_52 : decode cX2_isBusy 52 = .ok (.ldc2_w 229, 3) := by decide +kernel
theorem dX2_isBusy_55 : decode cX2_isBusy 55 = .ok (.dadd, 1) := by decide +kernel
theorem dX2_isBusy_56 : decode cX2_isBusy 56 = .ok (.dcmp .g, 1) := by decide +kernel
theorem dX2_isBusy_57 : decode cX2_isBusy 57 = .ok (.ifCond .gt 17, 3) := by decide +kernel
theorem dX2_isBusy_60 : decode cX2_isBusy 60 = .ok (.aload 4, 2) := by decide +kernel
theorem dX2_isBusy_62 : decode cX2_isBusy 62 = .ok (.getfield 174, 3) := by decide +kernel
theorem dX2_isBusy_65 : decode cX2_isBusy 65 = .ok (.iload_n 1, 1) := by decide +kernel
theorem dX2_isBusy_66 : decode cX2_isBusy 66 = .ok (.invokestatic 231, 3) := by decide +kernel
theorem dX2_isBusy_69 : decode cX2_isBusy 69 = .ok (.ifCond .eq 5, 3) := by decide +kernel
theorem dX2_isBusy_72 : decode cX2_isBusy 72 = .ok (.iconst 1, 1) := by decide +kernel
theorem dX2_isBusy_73 : decode cX2_isBusy 73 = .ok (.ireturn, 1) := by decide +kernel
theorem dX2_isBusy_74 : decode cX2_isBusy 74 = .ok (.iinc 3 1, 3) := by decide +kernel
theorem dX2_isBusy_77 : decode cX2_isBusy 77 = .ok (.goto (-70), 3) := by decide +kernel
theorem dX2_isBusy_80 : decode cX2_isBusy 80 = .ok (.iconst 0, 1) := by decide +kernel
theorem dX2_isBusy_81 : decode cX2_isBusy 81 = .ok (.ireturn, 1) := by decide +kernel
theorem dX2_firstBoundFor_0 : decode cX2_firstBoundFor 0 = .ok (.aconst_null, 1) := by decide +kernel
theorem dX2_firstBoundFor_1 : decode cX2_firstBoundFor 1 = .ok (.astore_n 2, 1) := by decide +kernel
theorem dX2_firstBoundFor_2 : decode cX2_firstBoundFor 2 = .ok (.iconst 0, 1) := by decide +kernel
theorem dX2_firstBoundFor_3 : decode cX2_firstBoundFor 3 = .ok (.istore_n 3, 1) := by decide +kernel
theorem dX2_firstBoundFor_4 : decode cX2_firstBoundFor 4 = .ok (.iload_n 3, 1) := by decide +kernel
theorem dX2_firstBoundFor_5 : decode cX2_firstBoundFor 5 = .ok (.aload_n 0, 1) := by decide +kernel
theorem dX2_firstBoundFor_6 : decode cX2_firstBoundFor 6 = .ok (.getfield 16, 3) := by decide +kernel
theorem dX2_firstBoundFor_9 : decode cX2_firstBoundFor 9 = .ok (.invokevirtual 101, 3) := by decide +kernel
theorem dX2_firstBoundFor_12 : decode cX2_firstBoundFor 12 = .ok (.if_icmp .ge 51, 3) := by decide +kernel
theorem dX2_firstBoundFor_15 : decode cX2_firstBoundFor 15 = .ok (.aload_n 0, 1) := by decide +kernel
theorem dX2_firstBoundFor_16 : decode cX2_firstBoundFor 16 = .ok (.getfield 16, 3) := by decide +kernel
theorem dX2_firstBoundFor_19 : decode cX2_firstBoundFor 19 = .ok (.iload_n 3, 1) := by decide +kernel
theorem dX2_firstBoundFor_20 : decode cX2_firstBoundFor 20 = .ok (.invokevirtual 208, 3) := by decide +kernel
theorem dX2_firstBoundFor_23 : decode cX2_firstBoundFor 23 = .ok (.checkcast 110, 3) := by decide +kernel
theorem dX2_firstBoundFor_26 : decode cX2_firstBoundFor 26 = .ok (.astore 4, 2) := by decide +kernel
theorem dX2_firstBoundFor_28 : decode cX2_firstBoundFor 28 = .ok (.aload 4, 2) := by decide +kernel
theorem dX2_firstBoundFor_30 : decode cX2_firstBoundFor 30 = .ok (.iload_n 1, 1) := by decide +kernel
theorem dX2_firstBoundFor_31 : decode cX2_firstBoundFor 31 = .ok (.invokevirtual 234, 3) := by decide +kernel
theorem dX2_firstBoundFor_34 : decode cX2_firstBoundFor 34 = .ok (.ifCond .eq 23, 3) := by decide +kernel
theorem dX2_firstBoundFor_37 : decode cX2_firstBoundFor 37 = .ok (.aload_n 2, 1) := by decide +kernel
theorem dX2_firstBoundFor_38 : decode cX2_firstBoundFor 38 = .ok (.ifnull 16, 3) := by decide +kernel
theorem dX2_firstBoundFor_41 : decode cX2_firstBoundFor 41 = .ok (.aload 4, 2) := by decide +kernel
theorem dX2_firstBoundFor_43 : decode cX2_firstBoundFor 43 = .ok (.getfield 165, 3) := by decide +kernel
theorem dX2_firstBoundFor_46 : decode cX2_firstBoundFor 46 = .ok (.aload_n 2, 1) := by decide +kernel
theorem dX2_firstBoundFor_47 : decode cX2_firstBoundFor 47 = .ok (.getfield 165, 3) := by decide +kernel
theorem dX2_firstBoundFor_50 : decode cX2_firstBoundFor 50 = .ok (.dcmp .l, 1) := by decide +kernel
theorem dX2_firstBoundFor_51 : decode cX2_firstBoundFor 51 = .ok (.ifCond .le 6, 3) := by decide +kernel
theorem dX2_firstBoundFor_54 : decode cX2_firstBoundFor 54 = .ok (.aload 4, 2) := by decide +kernel
theorem dX2_firstBoundFor_56 : decode cX2_firstBoundFor 56 = .ok (.astore_n 2, 1) := by decide +kernel
theorem dX2_firstBoundFor_57 : decode cX2_firstBoundFor 57 = .ok (.iinc 3 1, 3) := by decide +kernel
theorem dX2_firstBoundFor_60 : decode cX2_firstBoundFor 60 = .ok (.goto (-56), 3) := by decide +kernel
theorem dX2_firstBoundFor_63 : decode cX2_firstBoundFor 63 = .ok (.aload_n 2, 1) := by decide +kernel
theorem dX2_firstBoundFor_64 : decode cX2_firstBoundFor 64 = .ok (.areturn, 1) := by decide +kernel
theorem dX2_rollAll_0 : decode cX2_rollAll 0 = .ok (.iconst 0, 1) := by decide +kernel
theorem dX2_rollAll_1 : decode cX2_rollAll 1 = .ok (.istore_n 1, 1) := by decide +kernel
theorem dX2_rollAll_2 : decode cX2_rollAll 2 = .ok (.iload_n 1, 1) := by decide +kernel
theorem dX2_rollAll_3 : decode cX2_rollAll 3 = .ok (.aload_n 0, 1) := by decide +kernel
theorem dX2_rollAll_4 : decode cX2_rollAll 4 = .ok (.getfield 16, 3) := by decide +kernel
theorem dX2_rollAll_7 : decode cX2_rollAll 7 = .ok (.invokevirtual 101, 3) := by decide +kernel
theorem dX2_rollAll_10 : decode cX2_rollAll 10 = .ok (.if_icmp .ge 79, 3) := by decide +kernel
theorem dX2_rollAll_13 : decode cX2_rollAll 13 = .ok (.aload_n 0, 1) := by decide +kernel
theorem dX2_rollAll_14 : decode cX2_rollAll 14 = .ok (.getfield 16, 3) := by decide +kernel
theorem dX2_rollAll_17 : decode cX2_rollAll 17 = .ok (.iload_n 1, 1) := by decide +kernel
theorem dX2_rollAll_18 : decode cX2_rollAll 18 = .ok (.invokevirtual 208, 3) := by decide +kernel
theorem dX2_rollAll_21 : decode cX2_rollAll 21 = .ok (.checkcast 110, 3) := by decide +kernel
theorem dX2_rollAll_24 : decode cX2_rollAll 24 = .ok (.astore_n 2, 1) := by decide +kernel
theorem dX2_rollAll_25 : decode cX2_rollAll 25 = .ok (.aload_n 2, 1) := by decide +kernel
theorem dX2_rollAll_26 : decode cX2_rollAll 26 = .ok (.getfield 165, 3) := by decide +kernel
theorem dX2_rollAll_29 : decode cX2_rollAll 29 = .ok (.dstore_n 3, 1) := by decide +kernel
theorem dX2_rollAll_30 : decode cX2_rollAll 30 = .ok (.aload_n 2, 1) := by decide +kernel
theorem dX2_rollAll_31 : decode cX2_rollAll 31 = .ok (.getfield 168, 3) := by decide +kernel
theorem dX2_rollAll_34 : decode cX2_rollAll 34 = .ok (.aload_n 0, 1) := by decide +kernel
theorem dX2_rollAll_35 : decode cX2_rollAll 35 = .ok (.aload_n 2, 1) := by decide +kernel
theorem dX2_rollAll_36 : decode cX2_rollAll 36 = .ok (.invokevirtual 237, 3) := by decide +kernel
theorem dX2_rollAll_39 : decode cX2_rollAll 39 = .ok (.ldc2_w 241, 3) := by decide +kernel
theorem dX2_rollAll_42 : decode cX2_rollAll 42 = .ok (.dmul, 1) := by decide +kernel
theorem dX2_rollAll_43 : decode cX2_rollAll 43 = .ok (.dadd, 1) := by decide +kernel
theorem dX2_rollAll_44 : decode cX2_rollAll 44 = .ok (.dstore 5, 2) := by decide +kernel
theorem dX2_rollAll_46 : decode cX2_rollAll 46 = .ok (.aload_n 2, 1) := by decide +kernel
theorem dX2_rollAll_47 : decode cX2_rollAll 47 = .ok (.dload 5, 2) := by decide +kernel
theorem dX2_rollAll_49 : decode cX2_rollAll 49 = .ok (.dconst 0, 1) := by decide +kernel
theorem dX2_rollAll_50 : decode cX2_rollAll 50 = .ok (.dcmp .g, 1) := by decide +kernel
theorem dX2_rollAll_51 : decode cX2_rollAll 51 = .ok (.ifCond .ge 7, 3) := by decide +kernel
theorem dX2_rollAll_54 : decode cX2_rollAll 54 = .ok (.dconst 0, 1) := by decide +kernel
theorem dX2_rollAll_55 : decode cX2_rollAll 55 = .ok (.goto 5, 3) := by decide +kernel
theorem dX2_rollAll_58 : decode cX2_rollAll 58 = .ok (.dload 5, 2) := by decide +kernel
theorem dX2_rollAll_60 : decode cX2_rollAll 60 = .ok (.putfield 168, 3) := by decide +kernel
theorem dX2_rollAll_63 : decode cX2_rollAll 63 = .ok (.aload_n 2, 1) := by decide +kernel
theorem dX2_rollAll_64 : decode cX2_rollAll 64 = .ok (.dload_n 3, 1) := by decide +kernel
theorem dX2_rollAll_65 : decode cX2_rollAll 65 = .ok (.aload_n 2, 1) := by decide +kernel
theorem dX2_rollAll_66 : decode cX2_rollAll 66 = .ok (.getfield 168, 3) := by decide +kernel
theorem dX2_rollAll_69 : decode cX2_rollAll 69 = .ok (.ldc2_w 241, 3) := by decide +kernel
theorem dX2_rollAll_72 : decode cX2_rollAll 72 = .ok (.dmul, 1) := by decide +kernel
theorem dX2_rollAll_73 : decode cX2_rollAll 73 = .ok (.dadd, 1) := by decide +kernel
theorem dX2_rollAll_74 : decode cX2_rollAll 74 = .ok (.putfield 165, 3) := by decide +kernel
theorem dX2_rollAll_77 : decode cX2_rollAll 77 = .ok (.aload_n 0, 1) := by decide +kernel
theorem dX2_rollAll_78 : decode cX2_rollAll 78 = .ok (.aload_n 2, 1) := by decide +kernel
theorem dX2_rollAll_79 : decode cX2_rollAll 79 = .ok (.dload_n 3, 1) := by decide +kernel
theorem dX2_rollAll_80 : decode cX2_rollAll 80 = .ok (.invokevirtual 243, 3) := by decide +kernel
theorem dX2_rollAll_83 : decode cX2_rollAll 83 = .ok (.iinc 1 1, 3) := by decide +kernel
theorem dX2_rollAll_86 : decode cX2_rollAll 86 = .ok (.goto (-84), 3) := by decide +kernel
theorem dX2_rollAll_89 : decode cX2_rollAll 89 = .ok (.return_, 1) := by decide +kernel
theorem dX2_acceleration_0 : decode cX2_acceleration 0 = .ok (.ldc2_w 247, 3) := by decide +kernel
theorem dX2_acceleration_3 : decode cX2_acceleration 3 = .ok (.aload_n 1, 1) := by decide +kernel
theorem dX2_acceleration_4 : decode cX2_acceleration 4 = .ok (.getfield 165, 3) := by decide +kernel
theorem dX2_acceleration_7 : decode cX2_acceleration 7 = .ok (.invokestatic 249, 3) := by decide +kernel
theorem dX2_acceleration_10 : decode cX2_acceleration 10 = .ok (.aload_n 1, 1) := by decide +kernel
theorem dX2_acceleration_11 : decode cX2_acceleration 11 = .ok (.getfield 253, 3) := by decide +kernel
theorem dX2_acceleration_14 : decode cX2_acceleration 14 = .ok (.ldc2_w 256, 3) := by decide +kernel
theorem dX2_acceleration_17 : decode cX2_acceleration 17 = .ok (.ddiv, 1) := by decide +kernel
theorem dX2_acceleration_18 : decode cX2_acceleration 18 = .ok (.dsub, 1) := by decide +kernel
theorem dX2_acceleration_19 : decode cX2_acceleration 19 = .ok (.dmul, 1) := by decide +kernel
theorem dX2_acceleration_20 : decode cX2_acceleration 20 = .ok (.dstore_n 2, 1) := by decide +kernel
theorem dX2_acceleration_21 : decode cX2_acceleration 21 = .ok (.dload_n 2, 1) := by decide +kernel
theorem dX2_acceleration_22 : decode cX2_acceleration 22 = .ok (.ldc2_w 258, 3) := by decide +kernel
theorem dX2_acceleration_25 : decode cX2_acceleration 25 = .ok (.aload_n 0, 1) := by decide +kernel
theorem dX2_acceleration_26 : decode cX2_acceleration 26 = .ok (.aload_n 1, 1) := by decide +kernel
theorem dX2_acceleration_27 : decode cX2_acceleration 27 = .ok (.iconst 0, 1) := by decide +kernel
theorem dX2_acceleration_28 : decode cX2_acceleration 28 = .ok (.bipush 30, 2) := by decide +kernel
theorem dX2_acceleration_30 : decode cX2_acceleration 30 = .ok (.invokevirtual 260, 3) := by decide +kernel
theorem dX2_acceleration_33 : decode cX2_acceleration 33 = .ok (.i2d, 1) := by decide +kernel
theorem dX2_acceleration_34 : decode cX2_acceleration 34 = .ok (.dmul, 1) := by decide +kernel
theorem dX2_acceleration_35 : decode cX2_acceleration 35 = .ok (.dsub, 1) := by decide +kernel
theorem dX2_acceleration_36 : decode cX2_acceleration 36 = .ok (.dstore_n 2, 1) := by decide +kernel
theorem dX2_acceleration_37 : decode cX2_acceleration 37 = .ok (.aload_n 1, 1) := by decide +kernel
theorem dX2_acceleration_38 : decode cX2_acceleration 38 = .ok (.getfield 174, 3) := by decide +kernel
theorem dX2_acceleration_41 : decode cX2_acceleration 41 = .ok (.invokestatic 177, 3) := by decide +kernel
theorem dX2_acceleration_44 : decode cX2_acceleration 44 = .ok (.istore 4, 2) := by decide +kernel
theorem dX2_acceleration_46 : decode cX2_acceleration 46 = .ok (.iload 4, 2) := by decide +kernel
theorem dX2_acceleration_48 : decode cX2_acceleration 48 = .ok (.iconst (-1), 1) := by decide +kernel
theorem dX2_acceleration_49 : decode cX2_acceleration 49 = .ok (.if_icmp .eq 23, 3) := by decide +kernel
theorem dX2_acceleration_52 : decode cX2_acceleration 52 = .ok (.dload_n 2, 1) := by decide +kernel
theorem dX2_acceleration_53 : decode cX2_acceleration 53 = .ok (.ldc2_w 258, 3) := by decide +kernel
theorem dX2_acceleration_56 : decode cX2_acceleration 56 = .ok (.aload_n 0, 1) := by decide +kernel
theorem dX2_acceleration_57 : decode cX2_acceleration 57 = .ok (.aload_n 1, 1) := by decide +kernel
theorem dX2_acceleration_58 : decode cX2_acceleration 58 = .ok (.iconst 1, 1) := by decide +kernel
theorem dX2_acceleration_59 : decode cX2_acceleration 59 = .ok (.iload 4, 2) := by decide +kernel
theorem dX2_acceleration_61 : decode cX2_acceleration 61 = .ok (.iadd, 1) := by decide +kernel
theorem dX2_acceleration_62 : decode cX2_acceleration 62 = .ok (.sipush 210, 3) := by decide +kernel
theorem dX2_acceleration_65 : decode cX2_acceleration 65 = .ok (.invokevirtual 260, 3) := by decide +kernel
theorem dX2_acceleration_68 : decode cX2_acceleration 68 = .ok (.i2d, 1) := by decide +kernel
theorem dX2_acceleration_69 : decode cX2_acceleration 69 = .ok (.dmul, 1) := by decide +kernel
theorem dX2_acceleration_70 : decode cX2_acceleration 70 = .ok (.dsub, 1) := by decide +kernel
theorem dX2_acceleration_71 : decode cX2_acceleration 71 = .ok (.dstore_n 2, 1) := by decide +kernel
theorem dX2_acceleration_72 : decode cX2_acceleration 72 = .ok (.dload_n 2, 1) := by decide +kernel
theorem dX2_acceleration_73 : decode cX2_acceleration 73 = .ok (.dreturn, 1) := by decide +kernel
theorem dX2_grade_0 : decode cX2_grade 0 = .ok (.dload_n 0, 1) := by decide +kernel
theorem dX2_grade_1 : decode cX2_grade 1 = .ok (.ldc2_w 264, 3) := by decide +kernel
theorem dX2_grade_4 : decode cX2_grade 4 = .ok (.dcmp .g, 1) := by decide +kernel
theorem dX2_grade_5 : decode cX2_grade 5 = .ok (.ifCond .ge 7, 3) := by decide +kernel
theorem dX2_grade_8 : decode cX2_grade 8 = .ok (.ldc2_w 266, 3) := by decide +kernel
theorem dX2_grade_11 : decode cX2_grade 11 = .ok (.dreturn, 1) := by decide +kernel
theorem dX2_grade_12 : decode cX2_grade 12 = .ok (.dload_n 0, 1) := by decide +kernel
theorem dX2_grade_13 : decode cX2_grade 13 = .ok (.ldc2_w 268, 3) := by decide +kernel
theorem dX2_grade_16 : decode cX2_grade 16 = .ok (.dcmp .g, 1) := by decide +kernel
theorem dX2_grade_17 : decode cX2_grade 17 = .ok (.ifCond .ge 9, 3) := by decide +kernel
theorem dX2_grade_20 : decode cX2_grade 20 = .ok (.ldc2_w 270, 3) := by decide +kernel
theorem dX2_grade_23 : decode cX2_grade 23 = .ok (.goto 6, 3) := by decide +kernel
theorem dX2_grade_26 : decode cX2_grade 26 = .ok (.ldc2_w 272, 3) := by decide +kernel
theorem dX2_grade_29 : decode cX2_grade 29 = .ok (.dreturn, 1) := by decide +kernel
theorem dX2_brakeSteps_0 : decode cX2_brakeSteps 0 = .ok (.iload_n 2, 1) := by decide +kernel
theorem dX2_brakeSteps_1 : decode cX2_brakeSteps 1 = .ok (.ifCond .lt 9, 3) := by decide +kernel
theorem dX2_brakeSteps_4 : decode cX2_brakeSteps 4 = .ok (.iload_n 2, 1) := by decide +kernel
theorem dX2_brakeSteps_5 : decode cX2_brakeSteps 5 = .ok (.bipush 9, 2) := by decide +kernel
theorem dX2_brakeSteps_7 : decode cX2_brakeSteps 7 = .ok (.if_icmp .lt 5, 3) := by decide +kernel
theorem dX2_brakeSteps_10 : decode cX2_brakeSteps 10 = .ok (.iconst 0, 1) := by decide +kernel
theorem dX2_brakeSteps_11 : decode cX2_brakeSteps 11 = .ok (.ireturn, 1) := by decide +kernel
theorem dX2_brakeSteps_12 : decode cX2_brakeSteps 12 = .ok (.aload_n 0, 1) := by decide +kernel
theorem dX2_brakeSteps_13 : decode cX2_brakeSteps 13 = .ok (.getfield 37, 3) := by decide +kernel
theorem dX2_brakeSteps_16 : decode cX2_brakeSteps 16 = .ok (.iload_n 2, 1) := by decide +kernel
theorem dX2_brakeSteps_17 : decode cX2_brakeSteps 17 = .ok (.daload, 1) := by decide +kernel
theorem dX2_brakeSteps_18 : decode cX2_brakeSteps 18 = .ok (.dstore 4, 2) := by decide +kernel
theorem dX2_brakeSteps_20 : decode cX2_brakeSteps 20 = .ok (.aload_n 1, 1) := by decide +kernel
theorem dX2_brakeSteps_21 : decode cX2_brakeSteps 21 = .ok (.getfield 165, 3) := by decide +kernel
theorem dX2_brakeSteps_24 : decode cX2_brakeSteps 24 = .ok (.iload_n 3, 1) := by decide +kernel
theorem dX2_brakeSteps_25 : decode cX2_brakeSteps 25 = .ok (.i2d, 1) := by decide +kernel
theorem dX2_brakeSteps_26 : decode cX2_brakeSteps 26 = .ok (.dcmp .l, 1) := by decide +kernel
theorem dX2_brakeSteps_27 : decode cX2_brakeSteps 27 = .ok (.ifCond .lt 20, 3) := by decide +kernel
theorem dX2_brakeSteps_30 : decode cX2_brakeSteps 30 = .ok (.aload_n 1, 1) := by decide +kernel
theorem dX2_brakeSteps_31 : decode cX2_brakeSteps 31 = .ok (.invokevirtual 225, 3) := by decide +kernel
theorem dX2_brakeSteps_34 : decode cX2_brakeSteps 34 = .ok (.iload_n 3, 1) := by decide +kernel
theorem dX2_brakeSteps_35 : decode cX2_brakeSteps 35 = .ok (.bipush 20, 2) := by decide +kernel
theorem dX2_brakeSteps_37 : decode cX2_brakeSteps 37 = .ok (.iadd, 1) := by decide +kernel
theorem dX2_brakeSteps_38 : decode cX2_brakeSteps 38 = .ok (.i2d, 1) := by decide +kernel
theorem dX2_brakeSteps_39 : decode cX2_brakeSteps 39 = .ok (.dcmp .g, 1) := by decide +kernel
theorem dX2_brakeSteps_40 : decode cX2_brakeSteps 40 = .ok (.ifCond .gt 7, 3) := by decide +kernel
theorem dX2_brakeSteps_43 : decode cX2_brakeSteps 43 = .ok (.iconst 1, 1) := by decide +kernel
theorem dX2_brakeSteps_44 : decode cX2_brakeSteps 44 = .ok (.goto 4, 3) := by decide +kernel
theorem dX2_brakeSteps_47 : decode cX2_brakeSteps 47 = .ok (.iconst 0, 1) := by decide +kernel
theorem dX2_brakeSteps_48 : decode cX2_brakeSteps 48 = .ok (.istore 6, 2) := by decide +kernel
theorem dX2_brakeSteps_50 : decode cX2_brakeSteps 50 = .ok (.iload 6, 2) := by decide +kernel
theorem dX2_brakeSteps_52 : decode cX2_brakeSteps 52 = .ok (.ifCond .eq 13, 3) := by decide +kernel
theorem dX2_brakeSteps_55 : decode cX2_brakeSteps 55 = .ok (.aload_n 1, 1) := by decide +kernel
theorem dX2_brakeSteps_56 : decode cX2_brakeSteps 56 = .ok (.getfield 168, 3) := by decide +kernel
theorem dX2_brakeSteps_59 : decode cX2_brakeSteps 59 = .ok (.dload 4, 2) := by decide +kernel
theorem dX2_brakeSteps_61 : decode cX2_brakeSteps 61 = .ok (.dcmp .g, 1) := by decide +kernel
theorem dX2_brakeSteps_62 : decode cX2_brakeSteps 62 = .ok (.ifCond .gt 5, 3) := by decide +kernel
theorem dX2_brakeSteps_65 : decode cX2_brakeSteps 65 = .ok (.iconst 0, 1) := by decide +kernel
theorem dX2_brakeSteps_66 : decode cX2_brakeSteps 66 = .ok (.ireturn, 1) := by decide +kernel
theorem dX2_brakeSteps_67 : decode cX2_brakeSteps 67 = .ok (.aload_n 1, 1) := by decide +kernel
theorem dX2_brakeSteps_68 : decode cX2_brakeSteps 68 = .ok (.getfield 168, 3) := by decide +kernel
theorem dX2_brakeSteps_71 : decode cX2_brakeSteps 71 = .ok (.dload 4, 2) := by decide +kernel
theorem dX2_brakeSteps_73 : decode cX2_brakeSteps 73 = .ok (.dsub, 1) := by decide +kernel
theorem dX2_brakeSteps_74 : decode cX2_brakeSteps 74 = .ok (.ldc2_w 274, 3) := by decide +kernel
theorem dX2_brakeSteps_77 : decode cX2_brakeSteps 77 = .ok (.dmul, 1) := by decide +kernel
theorem dX2_brakeSteps_78 : decode cX2_brakeSteps 78 = .ok (.d2i, 1) := by decide +kernel
theorem dX2_brakeSteps_79 : decode cX2_brakeSteps 79 = .ok (.iconst 1, 1) := by decide +kernel
theorem dX2_brakeSteps_80 : decode cX2_brakeSteps 80 = .ok (.iadd, 1) := by decide +kernel
theorem dX2_brakeSteps_81 : decode cX2_brakeSteps 81 = .ok (.bipush 15, 2) := by decide +kernel
theorem dX2_brakeSteps_83 : decode cX2_brakeSteps 83 = .ok (.invokestatic 276, 3) := by decide +kernel
theorem dX2_brakeSteps_86 : decode cX2_brakeSteps 86 = .ok (.ireturn, 1) := by decide +kernel
theorem dX2_passPoints_0 : decode cX2_passPoints 0 = .ok (.iconst 0, 1) := by decide +kernel
theorem dX2_passPoints_1 : decode cX2_passPoints 1 = .ok (.istore 4, 2) := by decide +kernel
theorem dX2_passPoints_3 : decode cX2_passPoints 3 = .ok (.iload 4, 2) := by decide +kernel
theorem dX2_passPoints_5 : decode cX2_passPoints 5 = .ok (.iconst 3, 1) := by decide +kernel
theorem dX2_passPoints_6 : decode cX2_passPoints 6 = .ok (.if_icmp .ge 56, 3) := by decide +kernel
theorem dX2_passPoints_9 : decode cX2_passPoints 9 = .ok (.aload_n 1, 1) := by decide +kernel
theorem dX2_passPoints_10 : decode cX2_passPoints 10 = .ok (.getfield 174, 3) := by decide +kernel
theorem dX2_passPoints_13 : decode cX2_passPoints 13 = .ok (.invokestatic 131, 3) := by decide +kernel
theorem dX2_passPoints_16 : decode cX2_passPoints 16 = .ok (.ifCond .eq 46, 3) := by decide +kernel
theorem dX2_passPoints_19 : decode cX2_passPoints 19 = .ok (.aload_n 1, 1) := by decide +kernel
theorem dX2_passPoints_20 : decode cX2_passPoints 20 = .ok (.getfield 174, 3) := by decide +kernel
theorem dX2_passPoints_23 : decode cX2_passPoints 23 = .ok (.invokestatic 222, 3) := by decide +kernel
theorem dX2_passPoints_26 : decode cX2_passPoints 26 = .ok (.istore 5, 2) := by decide +kernel
theorem dX2_passPoints_28 : decode cX2_passPoints 28 = .ok (.dload_n 2, 1) := by decide +kernel
theorem dX2_passPoints_29 : decode cX2_passPoints 29 = .ok (.iload 5, 2) := by decide +kernel
theorem dX2_passPoints_31 : decode cX2_passPoints 31 = .ok (.i2d, 1) := by decide +kernel
theorem dX2_passPoints_32 : decode cX2_passPoints 32 = .ok (.dcmp .g, 1) := by decide +kernel
theorem dX2_passPoints_33 : decode cX2_passPoints 33 = .ok (.ifCond .ge 23, 3) := by decide +kernel
theorem dX2_passPoints_36 : decode cX2_passPoints 36 = .ok (.aload_n 1, 1) := by decide +kernel
theorem dX2_passPoints_37 : decode cX2_passPoints 37 = .ok (.getfield 165, 3) := by decide +kernel
theorem dX2_passPoints_40 : decode cX2_passPoints 40 = .ok (.iload 5, 2) := by decide +kernel
theorem dX2_passPoints_42 : decode cX2_passPoints 42 = .ok (.i2d, 1) := by decide +kernel
theorem dX2_passPoints_43 : decode cX2_passPoints 43 = .ok (.dcmp .l, 1) := by decide +kernel
theorem dX2_passPoints_44 : decode cX2_passPoints 44 = .ok (.ifCond .lt 12, 3) := by decide +kernel
theorem dX2_passPoints_47 : decode cX2_passPoints 47 = .ok (.aload_n 0, 1) := by decide +kernel
theorem dX2_passPoints_48 : decode cX2_passPoints 48 = .ok (.aload_n 1, 1) := by decide +kernel
theorem dX2_passPoints_49 : decode cX2_passPoints 49 = .ok (.aload_n 1, 1) := by decide +kernel
theorem dX2_passPoints_50 : decode cX2_passPoints 50 = .ok (.getfield 174, 3) := by decide +kernel
theorem dX2_passPoints_53 : decode cX2_passPoints 53 = .ok (.invokevirtual 281, 3) := by decide +kernel
theorem dX2_passPoints_56 : decode cX2_passPoints 56 = .ok (.iinc 4 1, 3) := by decide +kernel
theorem dX2_passPoints_59 : decode cX2_passPoints 59 = .ok (.goto (-56), 3) := by decide +kernel
theorem dX2_passPoints_62 : decode cX2_passPoints 62 = .ok (.return_, 1) := by decide +kernel
theorem dX2_pass_0 : decode cX2_pass 0 = .ok (.aload_n 0, 1) := by decide +kernel
theorem dX2_pass_1 : decode cX2_pass 1 = .ok (.getfield 26, 3) := by decide +kernel
theorem dX2_pass_4 : decode cX2_pass 4 = .ok (.iload_n 2, 1) := by decide +kernel
theorem dX2_pass_5 : decode cX2_pass 5 = .ok (.iaload, 1) := by decide +kernel
theorem dX2_pass_6 : decode cX2_pass 6 = .ok (.istore_n 3, 1) := by decide +kernel
theorem dX2_pass_7 : decode cX2_pass 7 = .ok (.iload_n 2, 1) := by decide +kernel
theorem dX2_pass_8 : decode cX2_pass 8 = .ok (.aload_n 1, 1) := by decide +kernel
theorem dX2_pass_9 : decode cX2_pass 9 = .ok (.getfield 285, 3) := by decide +kernel
theorem dX2_pass_12 : decode cX2_pass 12 = .ok (.invokestatic 212, 3) := by decide +kernel
theorem dX2_pass_15 : decode cX2_pass 15 = .ok (.ifCond .eq 29, 3) := by decide +kernel
theorem dX2_pass_18 : decode cX2_pass 18 = .ok (.aload_n 1, 1) := by decide +kernel
theorem dX2_pass_19 : decode cX2_pass 19 = .ok (.iload_n 2, 1) := by decide +kernel
theorem dX2_pass_20 : decode cX2_pass 20 = .ok (.invokevirtual 219, 3) := by decide +kernel
theorem dX2_pass_23 : decode cX2_pass 23 = .ok (.iload_n 3, 1) := by decide +kernel
theorem dX2_pass_24 : decode cX2_pass 24 = .ok (.if_icmp .eq 20, 3) := by decide +kernel
theorem dX2_pass_27 : decode cX2_pass 27 = .ok (.aload_n 0, 1) := by decide +kernel
theorem dX2_pass_28 : decode cX2_pass 28 = .ok (.getfield 22, 3) := by decide +kernel
theorem dX2_pass_31 : decode cX2_pass 31 = .ok (.iconst 0, 1) := by decide +kernel
theorem dX2_pass_32 : decode cX2_pass 32 = .ok (.aload_n 1, 1) := by decide +kernel
theorem dX2_pass_33 : decode cX2_pass 33 = .ok (.getfield 119, 3) := by decide +kernel
theorem dX2_pass_36 : decode cX2_pass 36 = .ok (.iload_n 2, 1) := by decide +kernel
theorem dX2_pass_37 : decode cX2_pass 37 = .ok (.aload_n 0, 1) := by decide +kernel
theorem dX2_pass_38 : decode cX2_pass 38 = .ok (.getfield 67, 3) := by decide +kernel
theorem dX2_pass_41 : decode cX2_pass 41 = .ok (.invokevirtual 288, 3) := by decide +kernel
theorem dX2_pass_44 : decode cX2_pass 44 = .ok (.aload_n 1, 1) := by decide +kernel
theorem dX2_pass_45 : decode cX2_pass 45 = .ok (.iload_n 2, 1) := by decide +kernel
theorem dX2_pass_46 : decode cX2_pass 46 = .ok (.iload_n 3, 1) := by decide +kernel
theorem dX2_pass_47 : decode cX2_pass 47 = .ok (.invokestatic 292, 3) := by decide +kernel
theorem dX2_pass_50 : decode cX2_pass 50 = .ok (.putfield 174, 3) := by decide +kernel
theorem dX2_pass_53 : decode cX2_pass 53 = .ok (.return_, 1) := by decide +kernel
theorem dX2_catchAll_0 : decode cX2_catchAll 0 = .ok (.iconst 0, 1) := by decide +kernel
theorem dX2_catchAll_1 : decode cX2_catchAll 1 = .ok (.istore_n 1, 1) := by decide +kernel
theorem dX2_catchAll_2 : decode cX2_catchAll 2 = .ok (.iload_n 1, 1) := by decide +kernel
theorem dX2_catchAll_3 : decode cX2_catchAll 3 = .ok (.aload_n 0, 1) := by decide +kernel
theorem dX2_catchAll_4 : decode cX2_catchAll 4 = .ok (.getfield 16, 3) := by decide +kernel
theorem dX2_catchAll_7 : decode cX2_catchAll 7 = .ok (.invokevirtual 101, 3) := by decide +kernel
theorem dX2_catchAll_10 : decode cX2_catchAll 10 = .ok (.if_icmp .ge 50, 3) := by decide +kernel
theorem dX2_catchAll_13 : decode cX2_catchAll 13 = .ok (.aload_n 0, 1) := by decide +kernel
theorem dX2_catchAll_14 : decode cX2_catchAll 14 = .ok (.getfield 16, 3) := by decide +kernel
theorem dX2_catchAll_17 : decode cX2_catchAll 17 = .ok (.iload_n 1, 1) := by decide +kernel
theorem dX2_catchAll_18 : decode cX2_catchAll 18 = .ok (.invokevirtual 208, 3) := by decide +kernel
theorem dX2_catchAll_21 : decode cX2_catchAll 21 = .ok (.checkcast 110, 3) := by decide +kernel
theorem dX2_catchAll_24 : decode cX2_catchAll 24 = .ok (.astore_n 2, 1) := by decide +kernel
theorem dX2_catchAll_25 : decode cX2_catchAll 25 = .ok (.aload_n 0, 1) := by decide +kernel
theorem dX2_catchAll_26 : decode cX2_catchAll 26 = .ok (.iload_n 1, 1) := by decide +kernel
theorem dX2_catchAll_27 : decode cX2_catchAll 27 = .ok (.aload_n 2, 1) := by decide +kernel
theorem dX2_catchAll_28 : decode cX2_catchAll 28 = .ok (.invokevirtual 295, 3) := by decide +kernel
theorem dX2_catchAll_31 : decode cX2_catchAll 31 = .ok (.astore_n 3, 1) := by decide +kernel
theorem dX2_catchAll_32 : decode cX2_catchAll 32 = .ok (.aload_n 3, 1) := by decide +kernel
theorem dX2_catchAll_33 : decode cX2_catchAll 33 = .ok (.ifnull 21, 3) := by decide +kernel
theorem dX2_catchAll_36 : decode cX2_catchAll 36 = .ok (.aload_n 2, 1) := by decide +kernel
theorem dX2_catchAll_37 : decode cX2_catchAll 37 = .ok (.getfield 165, 3) := by decide +kernel
theorem dX2_catchAll_40 : decode cX2_catchAll 40 = .ok (.aload_n 3, 1) := by decide +kernel
theorem dX2_catchAll_41 : decode cX2_catchAll 41 = .ok (.invokevirtual 225, 3) := by decide +kernel
theorem dX2_catchAll_44 : decode cX2_catchAll 44 = .ok (.dcmp .l, 1) := by decide +kernel
theorem dX2_catchAll_45 : decode cX2_catchAll 45 = .ok (.ifCond .lt 9, 3) := by decide +kernel
theorem dX2_catchAll_48 : decode cX2_catchAll 48 = .ok (.aload_n 0, 1) := by decide +kernel
theorem dX2_catchAll_49 : decode cX2_catchAll 49 = .ok (.aload_n 2, 1) := by decide +kernel
theorem dX2_catchAll_50 : decode cX2_catchAll 50 = .ok (.aload_n 3, 1) := by decide +kernel
theorem dX2_catchAll_51 : decode cX2_catchAll 51 = .ok (.invokevirtual 299, 3) := by decide +kernel
theorem dX2_catchAll_54 : decode cX2_catchAll 54 = .ok (.iinc 1 1, 3) := by decide +kernel
theorem dX2_catchAll_57 : decode cX2_catchAll 57 = .ok (.goto (-55), 3) := by decide +kernel
theorem dX2_catchAll_60 : decode cX2_catchAll 60 = .ok (.return_, 1) := by decide +kernel
theorem dX2_aheadOf_0 : decode cX2_aheadOf 0 = .ok (.iload_n 1, 1) := by decide +kernel
theorem dX2_aheadOf_1 : decode cX2_aheadOf 1 = .ok (.iconst 1, 1) := by decide +kernel
theorem dX2_aheadOf_2 : decode cX2_aheadOf 2 = .ok (.isub, 1) := by decide +kernel
theorem dX2_aheadOf_3 : decode cX2_aheadOf 3 = .ok (.istore_n 3, 1) := by decide +kernel
theorem dX2_aheadOf_4 : decode cX2_aheadOf 4 = .ok (.iload_n 3, 1) := by decide +kernel
theorem dX2_aheadOf_5 : decode cX2_aheadOf 5 = .ok (.ifCond .lt 40, 3) := by decide +kernel
theorem dX2_aheadOf_8 : decode cX2_aheadOf 8 = .ok (.aload_n 0, 1) := by decide +kernel
theorem dX2_aheadOf_9 : decode cX2_aheadOf 9 = .ok (.getfield 16, 3) := by decide +kernel
theorem dX2_aheadOf_12 : decode cX2_aheadOf 12 = .ok (.iload_n 3, 1) := by decide +kernel
theorem dX2_aheadOf_13 : decode cX2_aheadOf 13 = .ok (.invokevirtual 208, 3) := by decide +kernel
theorem dX2_aheadOf_16 : decode cX2_aheadOf 16 = .ok (.checkcast 110, 3) := by decide +kernel
theorem dX2_aheadOf_19 : decode cX2_aheadOf 19 = .ok (.astore 4, 2) := by decide +kernel
theorem dX2_aheadOf_21 : decode cX2_aheadOf 21 = .ok (.aload_n 2, 1) := by decide +kernel
theorem dX2_aheadOf_22 : decode cX2_aheadOf 22 = .ok (.getfield 174, 3) := by decide +kernel
theorem dX2_aheadOf_25 : decode cX2_aheadOf 25 = .ok (.aload 4, 2) := by decide +kernel
theorem dX2_aheadOf_27 : decode cX2_aheadOf 27 = .ok (.getfield 174, 3) := by decide +kernel
theorem dX2_aheadOf_30 : decode cX2_aheadOf 30 = .ok (.invokestatic 231, 3) := by decide +kernel
theorem dX2_aheadOf_33 : decode cX2_aheadOf 33 = .ok (.ifCond .eq 6, 3) := by decide +kernel
theorem dX2_aheadOf_36 : decode cX2_aheadOf 36 = .ok (.aload 4, 2) := by decide +kernel
theorem dX2_aheadOf_38 : decode cX2_aheadOf 38 = .ok (.areturn, 1) := by decide +kernel
theorem dX2_aheadOf_39 : decode cX2_aheadOf 39 = .ok (.iinc 3 (-1), 3) := by decide +kernel
theorem dX2_aheadOf_42 : decode cX2_aheadOf 42 = .ok (.goto (-38), 3) := by decide +kernel
theorem dX2_aheadOf_45 : decode cX2_aheadOf 45 = .ok (.aconst_null, 1) := by decide +kernel
theorem dX2_aheadOf_46 : decode cX2_aheadOf 46 = .ok (.areturn, 1) := by decide +kernel
theorem dX2_catchUp_0 : decode cX2_catchUp 0 = .ok (.aload_n 1, 1) := by decide +kernel
theorem dX2_catchUp_1 : decode cX2_catchUp 1 = .ok (.getfield 303, 3) := by decide +kernel
theorem dX2_catchUp_4 : decode cX2_catchUp 4 = .ok (.aload_n 1, 1) := by decide +kernel
theorem dX2_catchUp_5 : decode cX2_catchUp 5 = .ok (.getfield 168, 3) := by decide +kernel
theorem dX2_catchUp_8 : decode cX2_catchUp 8 = .ok (.dmul, 1) := by decide +kernel
theorem dX2_catchUp_9 : decode cX2_catchUp 9 = .ok (.aload_n 2, 1) := by decide +kernel
theorem dX2_catchUp_10 : decode cX2_catchUp 10 = .ok (.getfield 303, 3) := by decide +kernel
theorem dX2_catchUp_13 : decode cX2_catchUp 13 = .ok (.aload_n 2, 1) := by decide +kernel
theorem dX2_catchUp_14 : decode cX2_catchUp 14 = .ok (.getfield 168, 3) := by decide +kernel
theorem dX2_catchUp_17 : decode cX2_catchUp 17 = .ok (.dmul, 1) := by decide +kernel
theorem dX2_catchUp_18 : decode cX2_catchUp 18 = .ok (.dadd, 1) := by decide +kernel
theorem dX2_catchUp_19 : decode cX2_catchUp 19 = .ok (.aload_n 1, 1) := by decide +kernel
theorem dX2_catchUp_20 : decode cX2_catchUp 20 = .ok (.getfield 303, 3) := by decide +kernel
theorem dX2_catchUp_23 : decode cX2_catchUp 23 = .ok (.aload_n 2, 1) := by decide +kernel
theorem dX2_catchUp_24 : decode cX2_catchUp 24 = .ok (.getfield 303, 3) := by decide +kernel
theorem dX2_catchUp_27 : decode cX2_catchUp 27 = .ok (.dadd, 1) := by decide +kernel
theorem dX2_catchUp_28 : decode cX2_catchUp 28 = .ok (.ddiv, 1) := by decide +kernel
theorem dX2_catchUp_29 : decode cX2_catchUp 29 = .ok (.dstore_n 3, 1) := by decide +kernel
theorem dX2_catchUp_30 : decode cX2_catchUp 30 = .ok (.aload_n 1, 1) := by decide +kernel
theorem dX2_catchUp_31 : decode cX2_catchUp 31 = .ok (.aload_n 2, 1) := by decide +kernel
theorem dX2_catchUp_32 : decode cX2_catchUp 32 = .ok (.invokevirtual 225, 3) := by decide +kernel
theorem dX2_catchUp_35 : decode cX2_catchUp 35 = .ok (.putfield 165, 3) := by decide +kernel
theorem dX2_catchUp_38 : decode cX2_catchUp 38 = .ok (.aload_n 1, 1) := by decide +kernel
theorem dX2_catchUp_39 : decode cX2_catchUp 39 = .ok (.dload_n 3, 1) := by decide +kernel
theorem dX2_catchUp_40 : decode cX2_catchUp 40 = .ok (.putfield 168, 3) := by decide +kernel
theorem dX2_catchUp_43 : decode cX2_catchUp 43 = .ok (.aload_n 2, 1) := by decide +kernel
theorem dX2_catchUp_44 : decode cX2_catchUp 44 = .ok (.dload_n 3, 1) := by decide +kernel
theorem dX2_catchUp_45 : decode cX2_catchUp 45 = .ok (.putfield 168, 3) := by decide +kernel
theorem dX2_catchUp_48 : decode cX2_catchUp 48 = .ok (.aload_n 1, 1) := by decide +kernel
theorem dX2_catchUp_49 : decode cX2_catchUp 49 = .ok (.getfield 184, 3) := by decide +kernel
theorem dX2_catchUp_52 : decode cX2_catchUp 52 = .ok (.aload_n 2, 1) := by decide +kernel
theorem dX2_catchUp_53 : decode cX2_catchUp 53 = .ok (.getfield 119, 3) := by decide +kernel
theorem dX2_catchUp_56 : decode cX2_catchUp 56 = .ok (.if_icmp .eq 31, 3) := by decide +kernel
theorem dX2_catchUp_59 : decode cX2_catchUp 59 = .ok (.aload_n 1, 1) := by decide +kernel
theorem dX2_catchUp_60 : decode cX2_catchUp 60 = .ok (.aload_n 2, 1) := by decide +kernel
theorem dX2_catchUp_61 : decode cX2_catchUp 61 = .ok (.getfield 119, 3) := by decide +kernel
theorem dX2_catchUp_64 : decode cX2_catchUp 64 = .ok (.putfield 184, 3) := by decide +kernel
theorem dX2_catchUp_67 : decode cX2_catchUp 67 = .ok (.aload_n 0, 1) := by decide +kernel
theorem dX2_catchUp_68 : decode cX2_catchUp 68 = .ok (.getfield 22, 3) := by decide +kernel
theorem dX2_catchUp_71 : decode cX2_catchUp 71 = .ok (.iconst 1, 1) := by decide +kernel
theorem dX2_catchUp_72 : decode cX2_catchUp 72 = .ok (.aload_n 1, 1) := by decide +kernel
theorem dX2_catchUp_73 : decode cX2_catchUp 73 = .ok (.getfield 119, 3) := by decide +kernel
theorem dX2_catchUp_76 : decode cX2_catchUp 76 = .ok (.aload_n 2, 1) := by decide +kernel
theorem dX2_catchUp_77 : decode cX2_catchUp 77 = .ok (.getfield 119, 3) := by decide +kernel
theorem dX2_catchUp_80 : decode cX2_catchUp 80 = .ok (.aload_n 0, 1) := by decide +kernel
theorem dX2_catchUp_81 : decode cX2_catchUp 81 = .ok (.getfield 67, 3) := by decide +kernel
theorem dX2_catchUp_84 : decode cX2_catchUp 84 = .ok (.invokevirtual 288, 3) := by decide +kernel
theorem dX2_catchUp_87 : decode cX2_catchUp 87 = .ok (.return_, 1) := by decide +kernel
theorem dX2_endAll_0 : decode cX2_endAll 0 = .ok (.iconst 0, 1) := by decide +kernel
theorem dX2_endAll_1 : decode cX2_endAll 1 = .ok (.istore_n 1, 1) := by decide +kernel
theorem dX2_endAll_2 : decode cX2_endAll 2 = .ok (.iload_n 1, 1) := by decide +kernel
theorem dX2_endAll_3 : decode cX2_endAll 3 = .ok (.aload_n 0, 1) := by decide +kernel
theorem dX2_endAll_4 : decode cX2_endAll 4 = .ok (.getfield 16, 3) := by decide +kernel
theorem dX2_endAll_7 : decode cX2_endAll 7 = .ok (.invokevirtual 101, 3) := by decide +kernel
theorem dX2_endAll_10 : decode cX2_endAll 10 = .ok (.if_icmp .ge 51, 3) := by decide +kernel
theorem dX2_endAll_13 : decode cX2_endAll 13 = .ok (.aload_n 0, 1) := by decide +kernel
theorem dX2_endAll_14 : decode cX2_endAll 14 = .ok (.getfield 16, 3) := by decide +kernel
theorem dX2_endAll_17 : decode cX2_endAll 17 = .ok (.iload_n 1, 1) := by decide +kernel
theorem dX2_endAll_18 : decode cX2_endAll 18 = .ok (.invokevirtual 208, 3) := by decide +kernel
theorem dX2_endAll_21 : decode cX2_endAll 21 = .ok (.checkcast 110, 3) := by decide +kernel
theorem dX2_endAll_24 : decode cX2_endAll 24 = .ok (.astore_n 2, 1) := by decide +kernel
theorem dX2_endAll_25 : decode cX2_endAll 25 = .ok (.aload_n 2, 1) := by decide +kernel
theorem dX2_endAll_26 : decode cX2_endAll 26 = .ok (.getfield 174, 3) := by decide +kernel
theorem dX2_endAll_29 : decode cX2_endAll 29 = .ok (.invokestatic 177, 3) := by decide +kernel
theorem dX2_endAll_32 : decode cX2_endAll 32 = .ok (.istore_n 3, 1) := by decide +kernel
theorem dX2_endAll_33 : decode cX2_endAll 33 = .ok (.iload_n 3, 1) := by decide +kernel
theorem dX2_endAll_34 : decode cX2_endAll 34 = .ok (.iconst (-1), 1) := by decide +kernel
theorem dX2_endAll_35 : decode cX2_endAll 35 = .ok (.if_icmp .eq 20, 3) := by decide +kernel
theorem dX2_endAll_38 : decode cX2_endAll 38 = .ok (.aload_n 2, 1) := by decide +kernel
theorem dX2_endAll_39 : decode cX2_endAll 39 = .ok (.getfield 165, 3) := by decide +kernel
theorem dX2_endAll_42 : decode cX2_endAll 42 = .ok (.ldc2_w 268, 3) := by decide +kernel
theorem dX2_endAll_45 : decode cX2_endAll 45 = .ok (.dcmp .l, 1) := by decide +kernel
theorem dX2_endAll_46 : decode cX2_endAll 46 = .ok (.ifCond .lt 9, 3) := by decide +kernel
theorem dX2_endAll_49 : decode cX2_endAll 49 = .ok (.aload_n 0, 1) := by decide +kernel
theorem dX2_endAll_50 : decode cX2_endAll 50 = .ok (.aload_n 2, 1) := by decide +kernel
theorem dX2_endAll_51 : decode cX2_endAll 51 = .ok (.iload_n 3, 1) := by decide +kernel
theorem dX2_endAll_52 : decode cX2_endAll 52 = .ok (.invokevirtual 306, 3) := by decide +kernel
theorem dX2_endAll_55 : decode cX2_endAll 55 = .ok (.iinc 1 1, 3) := by decide +kernel
theorem dX2_endAll_58 : decode cX2_endAll 58 = .ok (.goto (-56), 3) := by decide +kernel
theorem dX2_endAll_61 : decode cX2_endAll 61 = .ok (.aload_n 0, 1) := by decide +kernel
theorem dX2_endAll_62 : decode cX2_endAll 62 = .ok (.getfield 16, 3) := by decide +kernel
theorem dX2_endAll_65 : decode cX2_endAll 65 = .ok (.invokevirtual 101, 3) := by decide +kernel
theorem dX2_endAll_68 : decode cX2_endAll 68 = .ok (.iconst 1, 1) := by decide +kernel
theorem dX2_endAll_69 : decode cX2_endAll 69 = .ok (.isub, 1) := by decide +kernel
theorem dX2_endAll_70 : decode cX2_endAll 70 = .ok (.istore_n 1, 1) := by decide +kernel
theorem dX2_endAll_71 : decode cX2_endAll 71 = .ok (.iload_n 1, 1) := by decide +kernel
theorem dX2_endAll_72 : decode cX2_endAll 72 = .ok (.ifCond .lt 36, 3) := by decide +kernel
theorem dX2_endAll_75 : decode cX2_endAll 75 = .ok (.aload_n 0, 1) := by decide +kernel
theorem dX2_endAll_76 : decode cX2_endAll 76 = .ok (.getfield 16, 3) := by decide +kernel
theorem dX2_endAll_79 : decode cX2_endAll 79 = .ok (.iload_n 1, 1) := by decide +kernel
theorem dX2_endAll_80 : decode cX2_endAll 80 = .ok (.invokevirtual 208, 3) := by decide +kernel
theorem dX2_endAll_83 : decode cX2_endAll 83 = .ok (.checkcast 110, 3) := by decide +kernel
theorem dX2_endAll_86 : decode cX2_endAll 86 = .ok (.getfield 171, 3) := by decide +kernel
theorem dX2_endAll_89 : decode cX2_endAll 89 = .ok (.iconst 1, 1) := by decide +kernel
theorem dX2_endAll_90 : decode cX2_endAll 90 = .ok (.if_icmp .eq 12, 3) := by decide +kernel
theorem dX2_endAll_93 : decode cX2_endAll 93 = .ok (.aload_n 0, 1) := by decide +kernel
theorem dX2_endAll_94 : decode cX2_endAll 94 = .ok (.getfield 16, 3) := by decide +kernel
theorem dX2_endAll_97 : decode cX2_endAll 97 = .ok (.iload_n 1, 1) := by decide +kernel
theorem dX2_endAll_98 : decode cX2_endAll 98 = .ok (.invokevirtual 309, 3) := by decide +kernel
theorem dX2_endAll_101 : decode cX2_endAll 101 = .ok (.pop, 1) := by decide +kernel
theorem dX2_endAll_102 : decode cX2_endAll 102 = .ok (.iinc 1 (-1), 3) := by decide +kernel
theorem dX2_endAll_105 : decode cX2_endAll 105 = .ok (.goto (-34), 3) := by decide +kernel
theorem dX2_endAll_108 : decode cX2_endAll 108 = .ok (.return_, 1) := by decide +kernel
theorem dX2_endOnTrack_0 : decode cX2_endOnTrack 0 = .ok (.aload_n 1, 1) := by decide +kernel
theorem dX2_endOnTrack_1 : decode cX2_endOnTrack 1 = .ok (.getfield 165, 3) := by decide +kernel
theorem dX2_endOnTrack_4 : decode cX2_endOnTrack 4 = .ok (.ldc2_w 268, 3) := by decide +kernel
theorem dX2_endOnTrack_7 : decode cX2_endOnTrack 7 = .ok (.aload_n 0, 1) := by decide +kernel
theorem dX2_endOnTrack_8 : decode cX2_endOnTrack 8 = .ok (.getfield 41, 3) := by decide +kernel
theorem dX2_endOnTrack_11 : decode cX2_endOnTrack 11 = .ok (.iload_n 2, 1) := by decide +kernel
theorem dX2_endOnTrack_12 : decode cX2_endOnTrack 12 = .ok (.daload, 1) := by decide +kernel
theorem dX2_endOnTrack_13 : decode cX2_endOnTrack 13 = .ok (.dadd, 1) := by decide +kernel
theorem dX2_endOnTrack_14 : decode cX2_endOnTrack 14 = .ok (.dcmp .l, 1) := by decide +kernel
theorem dX2_endOnTrack_15 : decode cX2_endOnTrack 15 = .ok (.ifCond .lt 12, 3) := by decide +kernel
theorem dX2_endOnTrack_18 : decode cX2_endOnTrack 18 = .ok (.aload_n 0, 1) := by decide +kernel
theorem dX2_endOnTrack_19 : decode cX2_endOnTrack 19 = .ok (.aload_n 1, 1) := by decide +kernel
theorem dX2_endOnTrack_20 : decode cX2_endOnTrack 20 = .ok (.iload_n 2, 1) := by decide +kernel
theorem dX2_endOnTrack_21 : decode cX2_endOnTrack 21 = .ok (.invokevirtual 312, 3) := by decide +kernel
theorem dX2_endOnTrack_24 : decode cX2_endOnTrack 24 = .ok (.goto 29, 3) := by decide +kernel
theorem dX2_endOnTrack_27 : decode cX2_endOnTrack 27 = .ok (.aload_n 1, 1) := by decide +kernel
theorem dX2_endOnTrack_28 : decode cX2_endOnTrack 28 = .ok (.getfield 168, 3) := by decide +kernel
theorem dX2_endOnTrack_31 : decode cX2_endOnTrack 31 = .ok (.dconst 0, 1) := by decide +kernel
theorem dX2_endOnTrack_32 : decode cX2_endOnTrack 32 = .ok (.dcmp .l, 1) := by decide +kernel
theorem dX2_endOnTrack_33 : decode cX2_endOnTrack 33 = .ok (.ifCond .ne 20, 3) := by decide +kernel
theorem dX2_endOnTrack_36 : decode cX2_endOnTrack 36 = .ok (.aload_n 1, 1) := by decide +kernel
theorem dX2_endOnTrack_37 : decode cX2_endOnTrack 37 = .ok (.invokevirtual 225, 3) := by decide +kernel
theorem dX2_endOnTrack_40 : decode cX2_endOnTrack 40 = .ok (.ldc2_w 268, 3) := by decide +kernel
theorem dX2_endOnTrack_43 : decode cX2_endOnTrack 43 = .ok (.dcmp .l, 1) := by decide +kernel
theorem dX2_endOnTrack_44 : decode cX2_endOnTrack 44 = .ok (.ifCond .lt 9, 3) := by decide +kernel
theorem dX2_endOnTrack_47 : decode cX2_endOnTrack 47 = .ok (.aload_n 0, 1) := by decide +kernel
theorem dX2_endOnTrack_48 : decode cX2_endOnTrack 48 = .ok (.aload_n 1, 1) := by decide +kernel
theorem dX2_endOnTrack_49 : decode cX2_endOnTrack 49 = .ok (.iload_n 2, 1) := by decide +kernel
theorem dX2_endOnTrack_50 : decode cX2_endOnTrack 50 = .ok (.invokevirtual 315, 3) := by decide +kernel
theorem dX2_endOnTrack_53 : decode cX2_endOnTrack 53 = .ok (.return_, 1) := by decide +kernel
theorem dX2_land_0 : decode cX2_land 0 = .ok (.aload_n 0, 1) := by decide +kernel
theorem dX2_land_1 : decode cX2_land 1 = .ok (.getfield 41, 3) := by decide +kernel
theorem dX2_land_4 : decode cX2_land 4 = .ok (.iload_n 2, 1) := by decide +kernel
theorem dX2_land_5 : decode cX2_land 5 = .ok (.daload, 1) := by decide +kernel
theorem dX2_land_6 : decode cX2_land 6 = .ok (.aload_n 1, 1) := by decide +kernel
theorem dX2_land_7 : decode cX2_land 7 = .ok (.getfield 318, 3) := by decide +kernel
theorem dX2_land_10 : decode cX2_land 10 = .ok (.dsub, 1) := by decide +kernel
theorem dX2_land_11 : decode cX2_land 11 = .ok (.dstore_n 3, 1) := by decide +kernel
theorem dX2_land_12 : decode cX2_land 12 = .ok (.aload_n 0, 1) := by decide +kernel
theorem dX2_land_13 : decode cX2_land 13 = .ok (.getfield 41, 3) := by decide +kernel
theorem dX2_land_16 : decode cX2_land 16 = .ok (.iload_n 2, 1) := by decide +kernel
theorem dX2_land_17 : decode cX2_land 17 = .ok (.dload_n 3, 1) := by decide +kernel
theorem dX2_land_18 : decode cX2_land 18 = .ok (.dconst 0, 1) := by decide +kernel
theorem dX2_land_19 : decode cX2_land 19 = .ok (.dcmp .g, 1) := by decide +kernel
theorem dX2_land_20 : decode cX2_land 20 = .ok (.ifCond .ge 7, 3) := by decide +kernel
theorem dX2_land_23 : decode cX2_land 23 = .ok (.dconst 0, 1) := by decide +kernel
theorem dX2_land_24 : decode cX2_land 24 = .ok (.goto 4, 3) := by decide +kernel
theorem dX2_land_27 : decode cX2_land 27 = .ok (.dload_n 3, 1) := by decide +kernel
theorem dX2_land_28 : decode cX2_land 28 = .ok (.dastore, 1) := by decide +kernel
theorem dX2_land_29 : decode cX2_land 29 = .ok (.aload_n 0, 1) := by decide +kernel
theorem dX2_land_30 : decode cX2_land 30 = .ok (.aload_n 1, 1) := by decide +kernel
theorem dX2_land_31 : decode cX2_land 31 = .ok (.getfield 168, 3) := by decide +kernel
theorem dX2_land_34 : decode cX2_land 34 = .ok (.aload_n 0, 1) := by decide +kernel
theorem dX2_land_35 : decode cX2_land 35 = .ok (.getfield 54, 3) := by decide +kernel
theorem dX2_land_38 : decode cX2_land 38 = .ok (.dcmp .l, 1) := by decide +kernel
theorem dX2_land_39 : decode cX2_land 39 = .ok (.ifCond .le 10, 3) := by decide +kernel
theorem dX2_land_42 : decode cX2_land 42 = .ok (.aload_n 1, 1) := by decide +kernel
theorem dX2_land_43 : decode cX2_land 43 = .ok (.getfield 168, 3) := by decide +kernel
theorem dX2_land_46 : decode cX2_land 46 = .ok (.goto 7, 3) := by decide +kernel
theorem dX2_land_49 : decode cX2_land 49 = .ok (.aload_n 0, 1) := by decide +kernel
theorem dX2_land_50 : decode cX2_land 50 = .ok (.getfield 54, 3) := by decide +kernel
theorem dX2_land_53 : decode cX2_land 53 = .ok (.putfield 54, 3) := by decide +kernel
theorem dX2_land_56 : decode cX2_land 56 = .ok (.aload_n 1, 1) := by decide +kernel
theorem dX2_land_57 : decode cX2_land 57 = .ok (.iconst 2, 1) := by decide +kernel
theorem dX2_land_58 : decode cX2_land 58 = .ok (.putfield 171, 3) := by decide +kernel
theorem dX2_land_61 : decode cX2_land 61 = .ok (.aload_n 0, 1) := by decide +kernel
theorem dX2_land_62 : decode cX2_land 62 = .ok (.dup, 1) := by decide +kernel
theorem dX2_land_63 : decode cX2_land 63 = .ok (.getfield 61, 3) := by decide +kernel
theorem dX2_land_66 : decode cX2_land 66 = .ok (.iconst 1, 1) := by decide +kernel
theorem dX2_land_67 : decode cX2_land 67 = .ok (.iadd, 1) := by decide +kernel
theorem dX2_land_68 : decode cX2_land 68 = .ok (.putfield 61, 3) := by decide +kernel
theorem dX2_land_71 : decode cX2_land 71 = .ok (.aload_n 0, 1) := by decide +kernel
theorem dX2_land_72 : decode cX2_land 72 = .ok (.aload_n 1, 1) := by decide +kernel
theorem dX2_land_73 : decode cX2_land 73 = .ok (.iload_n 2, 1) := by decide +kernel
theorem dX2_land_74 : decode cX2_land 74 = .ok (.invokevirtual 321, 3) := by decide +kernel
theorem dX2_land_77 : decode cX2_land 77 = .ok (.aload_n 0, 1) := by decide +kernel
theorem dX2_land_78 : decode cX2_land 78 = .ok (.getfield 22, 3) := by decide +kernel
theorem dX2_land_81 : decode cX2_land 81 = .ok (.iconst 2, 1) := by decide +kernel
theorem dX2_land_82 : decode cX2_land 82 = .ok (.aload_n 1, 1) := by decide +kernel
theorem dX2_land_83 : decode cX2_land 83 = .ok (.getfield 119, 3) := by decide +kernel
theorem dX2_land_86 : decode cX2_land 86 = .ok (.iload_n 2, 1) := by decide +kernel
theorem dX2_land_87 : decode cX2_land 87 = .ok (.aload_n 0, 1) := by decide +kernel
theorem dX2_land_88 : decode cX2_land 88 = .ok (.getfield 67, 3) := by decide +kernel
theorem dX2_land_91 : decode cX2_land 91 = .ok (.invokevirtual 288, 3) := by decide +kernel
theorem dX2_land_94 : decode cX2_land 94 = .ok (.return_, 1) := by decide +kernel
theorem dX2_stand_0 : decode cX2_stand 0 = .ok (.aload_n 0, 1) := by decide +kernel
theorem dX2_stand_1 : decode cX2_stand 1 = .ok (.getfield 41, 3) := by decide +kernel
theorem dX2_stand_4 : decode cX2_stand 4 = .ok (.iload_n 2, 1) := by decide +kernel
theorem dX2_stand_5 : decode cX2_stand 5 = .ok (.aload_n 1, 1) := by decide +kernel
theorem dX2_stand_6 : decode cX2_stand 6 = .ok (.invokevirtual 225, 3) := by decide +kernel
theorem dX2_stand_9 : decode cX2_stand 9 = .ok (.ldc2_w 268, 3) := by decide +kernel
theorem dX2_stand_12 : decode cX2_stand 12 = .ok (.dsub, 1) := by decide +kernel
theorem dX2_stand_13 : decode cX2_stand 13 = .ok (.dastore, 1) := by decide +kernel
theorem dX2_stand_14 : decode cX2_stand 14 = .ok (.aload_n 1, 1) := by decide +kernel
theorem dX2_stand_15 : decode cX2_stand 15 = .ok (.iconst 3, 1) := by decide +kernel
theorem dX2_stand_16 : decode cX2_stand 16 = .ok (.putfield 171, 3) := by decide +kernel
theorem dX2_stand_19 : decode cX2_stand 19 = .ok (.aload_n 0, 1) := by decide +kernel
theorem dX2_stand_20 : decode cX2_stand 20 = .ok (.dup, 1) := by decide +kernel
theorem dX2_stand_21 : decode cX2_stand 21 = .ok (.getfield 64, 3) := by decide +kernel
theorem dX2_stand_24 : decode cX2_stand 24 = .ok (.iconst 1, 1) := by decide +kernel
theorem dX2_stand_25 : decode cX2_stand 25 = .ok (.iadd, 1) := by decide +kernel
theorem dX2_stand_26 : decode cX2_stand 26 = .ok (.putfield 64, 3) := by decide +kernel
theorem dX2_stand_29 : decode cX2_stand 29 = .ok (.aload_n 0, 1) := by decide +kernel
theorem dX2_stand_30 : decode cX2_stand 30 = .ok (.aload_n 1, 1) := by decide +kernel
theorem dX2_stand_31 : decode cX2_stand 31 = .ok (.iload_n 2, 1) := by decide +kernel
theorem dX2_stand_32 : decode cX2_stand 32 = .ok (.invokevirtual 321, 3) := by decide +kernel
theorem dX2_stand_35 : decode cX2_stand 35 = .ok (.aload_n 0, 1) := by decide +kernel
theorem dX2_stand_36 : decode cX2_stand 36 = .ok (.getfield 22, 3) := by decide +kernel
theorem dX2_stand_39 : decode cX2_stand 39 = .ok (.iconst 3, 1) := by decide +kernel
theorem dX2_stand_40 : decode cX2_stand 40 = .ok (.aload_n 1, 1) := by decide +kernel
theorem dX2_stand_41 : decode cX2_stand 41 = .ok (.getfield 119, 3) := by decide +kernel
theorem dX2_stand_44 : decode cX2_stand 44 = .ok (.iload_n 2, 1) := by decide +kernel
theorem dX2_stand_45 : decode cX2_stand 45 = .ok (.aload_n 0, 1) := by decide +kernel
theorem dX2_stand_46 : decode cX2_stand 46 = .ok (.getfield 67, 3) := by decide +kernel
theorem dX2_stand_49 : decode cX2_stand 49 = .ok (.invokevirtual 288, 3) := by decide +kernel
theorem dX2_stand_52 : decode cX2_stand 52 = .ok (.return_, 1) := by decide +kernel
theorem dX2_enterSiding_0 : decode cX2_enterSiding 0 = .ok (.aload_n 0, 1) := by decide +kernel
theorem dX2_enterSiding_1 : decode cX2_enterSiding 1 = .ok (.getfield 44, 3) := by decide +kernel
theorem dX2_enterSiding_4 : decode cX2_enterSiding 4 = .ok (.iload_n 2, 1) := by decide +kernel
theorem dX2_enterSiding_5 : decode cX2_enterSiding 5 = .ok (.iaload, 1) := by decide +kernel
theorem dX2_enterSiding_6 : decode cX2_enterSiding 6 = .ok (.istore_n 3, 1) := by decide +kernel
theorem dX2_enterSiding_7 : decode cX2_enterSiding 7 = .ok (.iload_n 3, 1) := by decide +kernel
theorem dX2_enterSiding_8 : decode cX2_enterSiding 8 = .ok (.bipush 60, 2) := by decide +kernel
theorem dX2_enterSiding_10 : decode cX2_enterSiding 10 = .ok (.if_icmp .ge 27, 3) := by decide +kernel
theorem dX2_enterSiding_13 : decode cX2_enterSiding 13 = .ok (.aload_n 0, 1) := by decide +kernel
theorem dX2_enterSiding_14 : decode cX2_enterSiding 14 = .ok (.getfield 47, 3) := by decide +kernel
theorem dX2_enterSiding_17 : decode cX2_enterSiding 17 = .ok (.iload_n 2, 1) := by decide +kernel
theorem dX2_enterSiding_18 : decode cX2_enterSiding 18 = .ok (.bipush 60, 2) := by decide +kernel
theorem dX2_enterSiding_20 : decode cX2_enterSiding 20 = .ok (.imul, 1) := by decide +kernel
theorem dX2_enterSiding_21 : decode cX2_enterSiding 21 = .ok (.iload_n 3, 1) := by decide +kernel
theorem dX2_enterSiding_22 : decode cX2_enterSiding 22 = .ok (.iadd, 1) := by decide +kernel
theorem dX2_enterSiding_23 : decode cX2_enterSiding 23 = .ok (.aload_n 1, 1) := by decide +kernel
theorem dX2_enterSiding_24 : decode cX2_enterSiding 24 = .ok (.getfield 119, 3) := by decide +kernel
theorem dX2_enterSiding_27 : decode cX2_enterSiding 27 = .ok (.iastore, 1) := by decide +kernel
theorem dX2_enterSiding_28 : decode cX2_enterSiding 28 = .ok (.aload_n 0, 1) := by decide +kernel
theorem dX2_enterSiding_29 : decode cX2_enterSiding 29 = .ok (.getfield 44, 3) := by decide +kernel
theorem dX2_enterSiding_32 : decode cX2_enterSiding 32 = .ok (.iload_n 2, 1) := by decide +kernel
theorem dX2_enterSiding_33 : decode cX2_enterSiding 33 = .ok (.iload_n 3, 1) := by decide +kernel
theorem dX2_enterSiding_34 : decode cX2_enterSiding 34 = .ok (.iconst 1, 1) := by decide +kernel
theorem dX2_enterSiding_35 : decode cX2_enterSiding 35 = .ok (.iadd, 1) := by decide +kernel
theorem dX2_enterSiding_36 : decode cX2_enterSiding 36 = .ok (.iastore, 1) := by decide +kernel
theorem dX2_enterSiding_37 : decode cX2_enterSiding 37 = .ok (.return_, 1) := by decide +kernel
theorem dX2_pushNext_0 : decode cX2_pushNext 0 = .ok (.aload_n 0, 1) := by decide +kernel
theorem dX2_pushNext_1 : decode cX2_pushNext 1 = .ok (.getfield 50, 3) := by decide +kernel
theorem dX2_pushNext_4 : decode cX2_pushNext 4 = .ok (.dconst 0, 1) := by decide +kernel
theorem dX2_pushNext_5 : decode cX2_pushNext 5 = .ok (.dcmp .l, 1) := by decide +kernel
theorem dX2_pushNext_6 : decode cX2_pushNext 6 = .ok (.ifCond .le 76, 3) := by decide +kernel
theorem dX2_pushNext_9 : decode cX2_pushNext 9 = .ok (.aload_n 0, 1) := by decide +kernel
theorem dX2_pushNext_10 : decode cX2_pushNext 10 = .ok (.getfield 57, 3) := by decide +kernel
theorem dX2_pushNext_13 : decode cX2_pushNext 13 = .ok (.aload_n 0, 1) := by decide +kernel
theorem dX2_pushNext_14 : decode cX2_pushNext 14 = .ok (.getfield 10, 3) := by decide +kernel
theorem dX2_pushNext_17 : decode cX2_pushNext 17 = .ok (.invokevirtual 101, 3) := by decide +kernel
theorem dX2_pushNext_20 : decode cX2_pushNext 20 = .ok (.if_icmp .ge 62, 3) := by decide +kernel
theorem dX2_pushNext_23 : decode cX2_pushNext 23 = .ok (.aload_n 0, 1) := by decide +kernel
theorem dX2_pushNext_24 : decode cX2_pushNext 24 = .ok (.invokevirtual 324, 3) := by decide +kernel
theorem dX2_pushNext_27 : decode cX2_pushNext 27 = .ok (.ifCond .eq 55, 3) := by decide +kernel
theorem dX2_pushNext_30 : decode cX2_pushNext 30 = .ok (.aload_n 0, 1) := by decide +kernel
theorem dX2_pushNext_31 : decode cX2_pushNext 31 = .ok (.getfield 10, 3) := by decide +kernel
theorem dX2_pushNext_34 : decode cX2_pushNext 34 = .ok (.aload_n 0, 1) := by decide +kernel
theorem dX2_pushNext_35 : decode cX2_pushNext 35 = .ok (.getfield 57, 3) := by decide +kernel
theorem dX2_pushNext_38 : decode cX2_pushNext 38 = .ok (.invokevirtual 208, 3) := by decide +kernel
theorem dX2_pushNext_41 : decode cX2_pushNext 41 = .ok (.checkcast 110, 3) := by decide +kernel
theorem dX2_pushNext_44 : decode cX2_pushNext 44 = .ok (.astore_n 1, 1) := by decide +kernel
theorem dX2_pushNext_45 : decode cX2_pushNext 45 = .ok (.aload_n 0, 1) := by decide +kernel
theorem dX2_pushNext_46 : decode cX2_pushNext 46 = .ok (.dup, 1) := by decide +kernel
theorem dX2_pushNext_47 : decode cX2_pushNext 47 = .ok (.getfield 57, 3) := by decide +kernel
theorem dX2_pushNext_50 : decode cX2_pushNext 50 = .ok (.iconst 1, 1) := by decide +kernel
theorem dX2_pushNext_51 : decode cX2_pushNext 51 = .ok (.iadd, 1) := by decide +kernel
theorem dX2_pushNext_52 : decode cX2_pushNext 52 = .ok (.putfield 57, 3) := by decide +kernel
theorem dX2_pushNext_55 : decode cX2_pushNext 55 = .ok (.aload_n 1, 1) := by decide +kernel
theorem dX2_pushNext_56 : decode cX2_pushNext 56 = .ok (.iconst 1, 1) := by decide +kernel
theorem dX2_pushNext_57 : decode cX2_pushNext 57 = .ok (.putfield 171, 3) := by decide +kernel
theorem dX2_pushNext_60 : decode cX2_pushNext 60 = .ok (.aload_n 1, 1) := by decide +kernel
theorem dX2_pushNext_61 : decode cX2_pushNext 61 = .ok (.dconst 0, 1) := by decide +kernel
theorem dX2_pushNext_62 : decode cX2_pushNext 62 = .ok (.putfield 165, 3) := by decide +kernel
theorem dX2_pushNext_65 : decode cX2_pushNext 65 = .ok (.aload_n 1, 1) := by decide +kernel
theorem dX2_pushNext_66 : decode cX2_pushNext 66 = .ok (.aload_n 0, 1) := by decide +kernel
theorem dX2_pushNext_67 : decode cX2_pushNext 67 = .ok (.getfield 50, 3) := by decide +kernel
theorem dX2_pushNext_70 : decode cX2_pushNext 70 = .ok (.putfield 168, 3) := by decide +kernel
theorem dX2_pushNext_73 : decode cX2_pushNext 73 = .ok (.aload_n 0, 1) := by decide +kernel
theorem dX2_pushNext_74 : decode cX2_pushNext 74 = .ok (.getfield 16, 3) := by decide +kernel
theorem dX2_pushNext_77 : decode cX2_pushNext 77 = .ok (.aload_n 1, 1) := by decide +kernel
theorem dX2_pushNext_78 : decode cX2_pushNext 78 = .ok (.invokevirtual 115, 3) := by decide +kernel
theorem dX2_pushNext_81 : decode cX2_pushNext 81 = .ok (.pop, 1) := by decide +kernel
theorem dX2_pushNext_82 : decode cX2_pushNext 82 = .ok (.return_, 1) := by decide +kernel
theorem dX2_isCrestClear_0 : decode cX2_isCrestClear 0 = .ok (.iconst 0, 1) := by decide +kernel
theorem dX2_isCrestClear_1 : decode cX2_isCrestClear 1 = .ok (.istore_n 1, 1) := by decide +kernel
theorem dX2_isCrestClear_2 : decode cX2_isCrestClear 2 = .ok (.iload_n 1, 1) := by decide +kernel
theorem dX2_isCrestClear_3 : decode cX2_isCrestClear 3 = .ok (.aload_n 0, 1) := by decide +kernel
theorem dX2_isCrestClear_4 : decode cX2_isCrestClear 4 = .ok (.getfield 16, 3) := by decide +kernel
theorem dX2_isCrestClear_7 : decode cX2_isCrestClear 7 = .ok (.invokevirtual 101, 3) := by decide +kernel
theorem dX2_isCrestClear_10 : decode cX2_isCrestClear 10 = .ok (.if_icmp .ge 32, 3) := by decide +kernel
theorem dX2_isCrestClear_13 : decode cX2_isCrestClear 13 = .ok (.aload_n 0, 1) := by decide +kernel
theorem dX2_isCrestClear_14 : decode cX2_isCrestClear 14 = .ok (.getfield 16, 3) := by decide +kernel
theorem dX2_isCrestClear_17 : decode cX2_isCrestClear 17 = .ok (.iload_n 1, 1) := by decide +kernel
theorem dX2_isCrestClear_18 : decode cX2_isCrestClear 18 = .ok (.invokevirtual 208, 3) := by decide +kernel
theorem dX2_isCrestClear_21 : decode cX2_isCrestClear 21 = .ok (.checkcast 110, 3) := by decide +kernel
theorem dX2_isCrestClear_24 : decode cX2_isCrestClear 24 = .ok (.invokevirtual 225, 3) := by decide +kernel
theorem dX2_isCrestClear_27 : decode cX2_isCrestClear 27 = .ok (.ldc2_w 229, 3) := by decide +kernel
theorem dX2_isCrestClear_30 : decode cX2_isCrestClear 30 = .ok (.dcmp .g, 1) := by decide +kernel
theorem dX2_isCrestClear_31 : decode cX2_isCrestClear 31 = .ok (.ifCond .ge 5, 3) := by decide +kernel
theorem dX2_isCrestClear_34 : decode cX2_isCrestClear 34 = .ok (.iconst 0, 1) := by decide +kernel
theorem dX2_isCrestClear_35 : decode cX2_isCrestClear 35 = .ok (.ireturn, 1) := by decide +kernel
theorem dX2_isCrestClear_36 : decode cX2_isCrestClear 36 = .ok (.iinc 1 1, 3) := by decide +kernel
theorem dX2_isCrestClear_39 : decode cX2_isCrestClear 39 = .ok (.goto (-37), 3) := by decide +kernel
theorem dX2_isCrestClear_42 : decode cX2_isCrestClear 42 = .ok (.iconst 1, 1) := by decide +kernel
theorem dX2_isCrestClear_43 : decode cX2_isCrestClear 43 = .ok (.ireturn, 1) := by decide +kernel
theorem dJ9_floorMod_7cf53_0 : decode cJ9_floorMod_7cf53 0 = .ok (.iload_n 0, 1) := by decide +kernel
theorem dJ9_floorMod_7cf53_1 : decode cJ9_floorMod_7cf53 1 = .ok (.iload_n 1, 1) := by decide +kernel
theorem dJ9_floorMod_7cf53_2 : decode cJ9_floorMod_7cf53 2 = .ok (.irem, 1) := by decide +kernel
theorem dJ9_floorMod_7cf53_3 : decode cJ9_floorMod_7cf53 3 = .ok (.istore_n 2, 1) := by decide +kernel
theorem dJ9_floorMod_7cf53_4 : decode cJ9_floorMod_7cf53 4 = .ok (.iload_n 0, 1) := by decide +kernel
theorem dJ9_floorMod_7cf53_5 : decode cJ9_floorMod_7cf53 5 = .ok (.iload_n 1, 1) := by decide +kernel
theorem dJ9_floorMod_7cf53_6 : decode cJ9_floorMod_7cf53 6 = .ok (.ixor, 1) := by decide +kernel
theorem dJ9_floorMod_7cf53_7 : decode cJ9_floorMod_7cf53 7 = .ok (.ifCond .ge 11, 3) := by decide +kernel
theorem dJ9_floorMod_7cf53_10 : decode cJ9_floorMod_7cf53 10 = .ok (.iload_n 2, 1) := by decide +kernel
theorem dJ9_floorMod_7cf53_11 : decode cJ9_floorMod_7cf53 11 = .ok (.ifCond .eq 7, 3) := by decide +kernel
theorem dJ9_floorMod_7cf53_14 : decode cJ9_floorMod_7cf53 14 = .ok (.iload_n 2, 1) := by decide +kernel
theorem dJ9_floorMod_7cf53_15 : decode cJ9_floorMod_7cf53 15 = .ok (.iload_n 1, 1) := by decide +kernel
theorem dJ9_floorMod_7cf53_16 : decode cJ9_floorMod_7cf53 16 = .ok (.iadd, 1) := by decide +kernel
theorem dJ9_floorMod_7cf53_17 : decode cJ9_floorMod_7cf53 17 = .ok (.ireturn, 1) := by decide +kernel
theorem dJ9_floorMod_7cf53_18 : decode cJ9_floorMod_7cf53 18 = .ok (.iload_n 2, 1) := by decide +kernel
theorem dJ9_floorMod_7cf53_19 : decode cJ9_floorMod_7cf53 19 = .ok (.ireturn, 1) := by decide +kernel
theorem dJ9_max_7cf53_0 : decode cJ9_max_7cf53 0 = .ok (.iload_n 0, 1) := by decide +kernel
theorem dJ9_max_7cf53_1 : decode cJ9_max_7cf53 1 = .ok (.iload_n 1, 1) := by decide +kernel
theorem dJ9_max_7cf53_2 : decode cJ9_max_7cf53 2 = .ok (.if_icmp .lt 7, 3) := by decide +kernel
theorem dJ9_max_7cf53_5 : decode cJ9_max_7cf53 5 = .ok (.iload_n 0, 1) := by decide +kernel
theorem dJ9_max_7cf53_6 : decode cJ9_max_7cf53 6 = .ok (.goto 4, 3) := by decide +kernel
theorem dJ9_max_7cf53_9 : decode cJ9_max_7cf53 9 = .ok (.iload_n 1, 1) := by decide +kernel
theorem dJ9_max_7cf53_10 : decode cJ9_max_7cf53 10 = .ok (.ireturn, 1) := by decide +kernel
theorem dJ9_min_7cf53_0 : decode cJ9_min_7cf53 0 = .ok (.iload_n 0, 1) := by decide +kernel
theorem dJ9_min_7cf53_1 : decode cJ9_min_7cf53 1 = .ok (.iload_n 1, 1) := by decide +kernel
theorem dJ9_min_7cf53_2 : decode cJ9_min_7cf53 2 = .ok (.if_icmp .gt 7, 3) := by decide +kernel
theorem dJ9_min_7cf53_5 : decode cJ9_min_7cf53 5 = .ok (.iload_n 0, 1) := by decide +kernel
theorem dJ9_min_7cf53_6 : decode cJ9_min_7cf53 6 = .ok (.goto 4, 3) := by decide +kernel
theorem dJ9_min_7cf53_9 : decode cJ9_min_7cf53 9 = .ok (.iload_n 1, 1) := by decide +kernel
theorem dJ9_min_7cf53_10 : decode cJ9_min_7cf53 10 = .ok (.ireturn, 1) := by decide +kernel
theorem dJxa1e45_init_da8c8_0 : decode cJxa1e45_init_da8c8 0 = .ok (.aload_n 0, 1) := by decide +kernel
theorem dJxa1e45_init_da8c8_1 : decode cJxa1e45_init_da8c8 1 = .ok (.invokespecial 1, 3) := by decide +kernel
theorem dJxa1e45_init_da8c8_4 : decode cJxa1e45_init_da8c8 4 = .ok (.return_, 1) := by decide +kernel
theorem dJxc12de_init_da8c8_0 : decode cJxc12de_init_da8c8 0 = .ok (.aload_n 0, 1) := by decide +kernel
theorem dJxc12de_init_da8c8_1 : decode cJxc12de_init_da8c8 1 = .ok (.invokespecial 1, 3) := by decide +kernel
theorem dJxc12de_init_da8c8_4 : decode cJxc12de_init_da8c8 4 = .ok (.aload_n 0, 1) := by decide +kernel
theorem dJxc12de_init_da8c8_5 : decode cJxc12de_init_da8c8 5 = .ok (.iconst 0, 1) := by decide +kernel
theorem dJxc12de_init_da8c8_6 : decode cJxc12de_init_da8c8 6 = .ok (.putfield 7, 3) := by decide +kernel
theorem dJxc12de_init_da8c8_9 : decode cJxc12de_init_da8c8 9 = .ok (.return_, 1) := by decide +kernel
theorem dJx4a65c_init_da8c8_0 : decode cJx4a65c_init_da8c8 0 = .ok (.aload_n 0, 1) := by decide +kernel
theorem dJx4a65c_init_da8c8_1 : decode cJx4a65c_init_da8c8 1 = .ok (.invokespecial 1, 3) := by decide +kernel
theorem dJx4a65c_init_da8c8_4 : decode cJx4a65c_init_da8c8 4 = .ok (.aload_n 0, 1) := by decide +kernel
theorem dJx4a65c_init_da8c8_5 : decode cJx4a65c_init_da8c8 5 = .ok (.getstatic 39, 3) := by decide +kernel
theorem dJx4a65c_init_da8c8_8 : decode cJx4a65c_init_da8c8 8 = .ok (.putfield 9, 3) := by decide +kernel
theorem dJx4a65c_init_da8c8_11 : decode cJx4a65c_init_da8c8 11 = .ok (.return_, 1) := by decide +kernel
theorem dJx4a65c_grow_92f84_0 : decode cJx4a65c_grow_92f84 0 = .ok (.aload_n 0, 1) := by decide +kernel
theorem dJx4a65c_grow_92f84_1 : decode cJx4a65c_grow_92f84 1 = .ok (.getfield 9, 3) := by decide +kernel
theorem dJx4a65c_grow_92f84_4 : decode cJx4a65c_grow_92f84 4 = .ok (.arraylength, 1) := by decide +kernel
theorem dJx4a65c_grow_92f84_5 : decode cJx4a65c_grow_92f84 5 = .ok (.istore_n 2, 1) := by decide +kernel
theorem dJx4a65c_grow_92f84_6 : decode cJx4a65c_grow_92f84 6 = .ok (.iload_n 2, 1) := by decide +kernel
theorem dJx4a65c_grow_92f84_7 : decode cJx4a65c_grow_92f84 7 = .ok (.ifCond .gt 13, 3) := by decide +kernel
theorem dJx4a65c_grow_92f84_10 : decode cJx4a65c_grow_92f84 10 = .ok (.aload_n 0, 1) := by decide +kernel
theorem dJx4a65c_grow_92f84_11 : decode cJx4a65c_grow_92f84 11 = .ok (.getfield 9, 3) := by decide +kernel
theorem dJx4a65c_grow_92f84_14 : decode cJx4a65c_grow_92f84 14 = .ok (.getstatic 39, 3) := by decide +kernel
theorem dJx4a65c_grow_92f84_17 : decode cJx4a65c_grow_92f84 17 = .ok (.if_acmp .eq 28, 3) := by decide +kernel
theorem dJx4a65c_grow_92f84_20 : decode cJx4a65c_grow_92f84 20 = .ok (.iload_n 2, 1) := by decide +kernel
theorem dJx4a65c_grow_92f84_21 : decode cJx4a65c_grow_92f84 21 = .ok (.iload_n 1, 1) := by decide +kernel
theorem dJx4a65c_grow_92f84_22 : decode cJx4a65c_grow_92f84 22 = .ok (.iload_n 2, 1) := by decide +kernel
theorem dJx4a65c_grow_92f84_23 : decode cJx4a65c_grow_92f84 23 = .ok (.isub, 1) := by decide +kernel
theorem dJx4a65c_grow_92f84_24 : decode cJx4a65c_grow_92f84 24 = .ok (.iload_n 2, 1) := by decide +kernel
theorem dJx4a65c_grow_92f84_25 : decode cJx4a65c_grow_92f84 25 = .ok (.iconst 1, 1) := by decide +kernel
theorem dJx4a65c_grow_92f84_26 : decode cJx4a65c_grow_92f84 26 = .ok (.ishr, 1) := by decide +kernel
theorem dJx4a65c_grow_92f84_27 : decode cJx4a65c_grow_92f84 27 = .ok (.invokestatic 73, 3) := by decide +kernel
theorem dJx4a65c_grow_92f84_30 : decode cJx4a65c_grow_92f84 30 = .ok (.istore_n 3, 1) := by decide +kernel
theorem dJx4a65c_grow_92f84_31 : decode cJx4a65c_grow_92f84 31 = .ok (.aload_n 0, 1) := by decide +kernel
theorem dJx4a65c_grow_92f84_32 : decode cJx4a65c_grow_92f84 32 = .ok (.aload_n 0, 1) := by decide +kernel
theorem dJx4a65c_grow_92f84_33 : decode cJx4a65c_grow_92f84 33 = .ok (.getfield 9, 3) := by decide +kernel
theorem dJx4a65c_grow_92f84_36 : decode cJx4a65c_grow_92f84 36 = .ok (.iload_n 3, 1) := by decide +kernel
theorem dJx4a65c_grow_92f84_37 : decode cJx4a65c_grow_92f84 37 = .ok (.invokestatic 66, 3) := by decide +kernel
theorem dJx4a65c_grow_92f84_40 : decode cJx4a65c_grow_92f84 40 = .ok (.dup_x1, 1) := by decide +kernel
theorem dJx4a65c_grow_92f84_41 : decode cJx4a65c_grow_92f84 41 = .ok (.putfield 9, 3) := by decide +kernel
theorem dJx4a65c_grow_92f84_44 : decode cJx4a65c_grow_92f84 44 = .ok (.areturn, 1) := by decide +kernel
theorem dJx4a65c_grow_92f84_45 : decode cJx4a65c_grow_92f84 45 = .ok (.aload_n 0, 1) := by decide +kernel
theorem dJx4a65c_grow_92f84_46 : decode cJx4a65c_grow_92f84 46 = .ok (.bipush 10, 2) := by decide +kernel
theorem dJx4a65c_grow_92f84_48 : decode cJx4a65c_grow_92f84 48 = .ok (.iload_n 1, 1) := by decide +kernel
theorem dJx4a65c_grow_92f84_49 : decode cJx4a65c_grow_92f84 49 = .ok (.invokestatic 79, 3) := by decide +kernel
theorem dJx4a65c_grow_92f84_52 : decode cJx4a65c_grow_92f84 52 = .ok (.anewarray 7, 3) := by decide +kernel
theorem dJx4a65c_grow_92f84_55 : decode cJx4a65c_grow_92f84 55 = .ok (.dup_x1, 1) := by decide +kernel
theorem dJx4a65c_grow_92f84_56 : decode cJx4a65c_grow_92f84 56 = .ok (.putfield 9, 3) := by decide +kernel
theorem dJx4a65c_grow_92f84_59 : decode cJx4a65c_grow_92f84 59 = .ok (.areturn, 1) := by decide +kernel
theorem dJx4a65c_grow_d5877_0 : decode cJx4a65c_grow_d5877 0 = .ok (.aload_n 0, 1) := by decide +kernel
theorem dJx4a65c_grow_d5877_1 : decode cJx4a65c_grow_d5877 1 = .ok (.aload_n 0, 1) := by decide +kernel
theorem dJx4a65c_grow_d5877_2 : decode cJx4a65c_grow_d5877 2 = .ok (.getfield 48, 3) := by decide +kernel
theorem dJx4a65c_grow_d5877_5 : decode cJx4a65c_grow_d5877 5 = .ok (.iconst 1, 1) := by decide +kernel
theorem dJx4a65c_grow_d5877_6 : decode cJx4a65c_grow_d5877 6 = .ok (.iadd, 1) := by decide +kernel
theorem dJx4a65c_grow_d5877_7 : decode cJx4a65c_grow_d5877 7 = .ok (.invokevirtual 69, 3) := by decide +kernel
theorem dJx4a65c_grow_d5877_10 : decode cJx4a65c_grow_d5877 10 = .ok (.areturn, 1) := by decide +kernel
theorem dJx4a65c_size_8abf5_0 : decode cJx4a65c_size_8abf5 0 = .ok (.aload_n 0, 1) := by decide +kernel
theorem dJx4a65c_size_8abf5_1 : decode cJx4a65c_size_8abf5 1 = .ok (.getfield 48, 3) := by decide +kernel
theorem dJx4a65c_size_8abf5_4 : decode cJx4a65c_size_8abf5 4 = .ok (.ireturn, 1) := by decide +kernel
theorem dJx4a65c_elementData_915e3_0 : decode cJx4a65c_elementData_915e3 0 = .ok (.aload_n 0, 1) := by decide +kernel
theorem dJx4a65c_elementData_915e3_1 : decode cJx4a65c_elementData_915e3 1 = .ok (.getfield 9, 3) := by decide +kernel
theorem dJx4a65c_elementData_915e3_4 : decode cJx4a65c_elementData_915e3 4 = .ok (.iload_n 1, 1) := by decide +kernel
theorem dJx4a65c_elementData_915e3_5 : decode cJx4a65c_elementData_915e3 5 = .ok (.aaload, 1) := by decide +kernel
theorem dJx4a65c_elementData_915e3_6 : decode cJx4a65c_elementData_915e3 6 = .ok (.areturn, 1) := by decide +kernel
theorem dJx4a65c_get_915e3_0 : decode cJx4a65c_get_915e3 0 = .ok (.iload_n 1, 1) := by decide +kernel
theorem dJx4a65c_get_915e3_1 : decode cJx4a65c_get_915e3 1 = .ok (.aload_n 0, 1) := by decide +kernel
theorem dJx4a65c_get_915e3_2 : decode cJx4a65c_get_915e3 2 = .ok (.getfield 48, 3) := by decide +kernel
theorem dJx4a65c_get_915e3_5 : decode cJx4a65c_get_915e3 5 = .ok (.invokestatic 118, 3) := by decide +kernel
theorem dJx4a65c_get_915e3_8 : decode cJx4a65c_get_915e3 8 = .ok (.pop, 1) := by decide +kernel
theorem dJx4a65c_get_915e3_9 : decode cJx4a65c_get_915e3 9 = .ok (.aload_n 0, 1) := by decide +kernel
theorem dJx4a65c_get_915e3_10 : decode cJx4a65c_get_915e3 10 = .ok (.iload_n 1, 1) := by decide +kernel
theorem dJx4a65c_get_915e3_11 : decode cJx4a65c_get_915e3 11 = .ok (.invokevirtual 123, 3) := by decide +kernel
theorem dJx4a65c_get_915e3_14 : decode cJx4a65c_get_915e3 14 = .ok (.areturn, 1) := by decide +kernel
theorem dJx4a65c_add_72be8_0 : decode cJx4a65c_add_72be8 0 = .ok (.iload_n 3, 1) := by decide +kernel
theorem dJx4a65c_add_72be8_1 : decode cJx4a65c_add_72be8 1 = .ok (.aload_n 2, 1) := by decide +kernel
theorem dJx4a65c_add_72be8_2 : decode cJx4a65c_add_72be8 2 = .ok (.arraylength, 1) := by decide +kernel
theorem dJx4a65c_add_72be8_3 : decode cJx4a65c_add_72be8 3 = .ok (.if_icmp .ne 8, 3) := by decide +kernel
theorem dJx4a65c_add_72be8_6 : decode cJx4a65c_add_72be8 6 = .ok (.aload_n 0, 1) := by decide +kernel
theorem dJx4a65c_add_72be8_7 : decode cJx4a65c_add_72be8 7 = .ok (.invokevirtual 129, 3) := by decide +kernel
theorem dJx4a65c_add_72be8_10 : decode cJx4a65c_add_72be8 10 = .ok (.astore_n 2, 1) := by decide +kernel
theorem dJx4a65c_add_72be8_11 : decode cJx4a65c_add_72be8 11 = .ok (.aload_n 2, 1) := by decide +kernel
theorem dJx4a65c_add_72be8_12 : decode cJx4a65c_add_72be8 12 = .ok (.iload_n 3, 1) := by decide +kernel
theorem dJx4a65c_add_72be8_13 : decode cJx4a65c_add_72be8 13 = .ok (.aload_n 1, 1) := by decide +kernel
theorem dJx4a65c_add_72be8_14 : decode cJx4a65c_add_72be8 14 = .ok (.aastore, 1) := by decide +kernel
theorem dJx4a65c_add_72be8_15 : decode cJx4a65c_add_72be8 15 = .ok (.aload_n 0, 1) := by decide +kernel
theorem dJx4a65c_add_72be8_16 : decode cJx4a65c_add_72be8 16 = .ok (.iload_n 3, 1) := by decide +kernel
theorem dJx4a65c_add_72be8_17 : decode cJx4a65c_add_72be8 17 = .ok (.iconst 1, 1) := by decide +kernel
theorem dJx4a65c_add_72be8_18 : decode cJx4a65c_add_72be8 18 = .ok (.iadd, 1) := by decide +kernel
theorem dJx4a65c_add_72be8_19 : decode cJx4a65c_add_72be8 19 = .ok (.putfield 48, 3) := by decide +kernel
theorem dJx4a65c_add_72be8_22 : decode cJx4a65c_add_72be8 22 = .ok (.return_, 1) := by decide +kernel
theorem dJx4a65c_add_9ea2d_0 : decode cJx4a65c_add_9ea2d 0 = .ok (.aload_n 0, 1) := by decide +kernel
theorem dJx4a65c_add_9ea2d_1 : decode cJx4a65c_add_9ea2d 1 = .ok (.dup, 1) := by decide +kernel
theorem dJx4a65c_add_9ea2d_2 : decode cJx4a65c_add_9ea2d 2 = .ok (.getfield 63, 3) := by decide +kernel
theorem dJx4a65c_add_9ea2d_5 : decode cJx4a65c_add_9ea2d 5 = .ok (.iconst 1, 1) := by decide +kernel
theorem dJx4a65c_add_9ea2d_6 : decode cJx4a65c_add_9ea2d 6 = .ok (.iadd, 1) := by decide +kernel
theorem dJx4a65c_add_9ea2d_7 : decode cJx4a65c_add_9ea2d 7 = .ok (.putfield 63, 3) := by decide +kernel
theorem dJx4a65c_add_9ea2d_10 : decode cJx4a65c_add_9ea2d 10 = .ok (.aload_n 0, 1) := by decide +kernel
theorem dJx4a65c_add_9ea2d_11 : decode cJx4a65c_add_9ea2d 11 = .ok (.aload_n 1, 1) := by decide +kernel
theorem dJx4a65c_add_9ea2d_12 : decode cJx4a65c_add_9ea2d 12 = .ok (.aload_n 0, 1) := by decide +kernel
theorem dJx4a65c_add_9ea2d_13 : decode cJx4a65c_add_9ea2d 13 = .ok (.getfield 9, 3) := by decide +kernel
theorem dJx4a65c_add_9ea2d_16 : decode cJx4a65c_add_9ea2d 16 = .ok (.aload_n 0, 1) := by decide +kernel
theorem dJx4a65c_add_9ea2d_17 : decode cJx4a65c_add_9ea2d 17 = .ok (.getfield 48, 3) := by decide +kernel
theorem dJx4a65c_add_9ea2d_20 : decode cJx4a65c_add_9ea2d 20 = .ok (.invokevirtual 131, 3) := by decide +kernel
theorem dJx4a65c_add_9ea2d_23 : decode cJx4a65c_add_9ea2d 23 = .ok (.iconst 1, 1) := by decide +kernel
theorem dJx4a65c_add_9ea2d_24 : decode cJx4a65c_add_9ea2d 24 = .ok (.ireturn, 1) := by decide +kernel
theorem dJx4a65c_remove_915e3_0 : decode cJx4a65c_remove_915e3 0 = .ok (.iload_n 1, 1) := by decide +kernel
theorem dJx4a65c_remove_915e3_1 : decode cJx4a65c_remove_915e3 1 = .ok (.aload_n 0, 1) := by decide +kernel
theorem dJx4a65c_remove_915e3_2 : decode cJx4a65c_remove_915e3 2 = .ok (.getfield 48, 3) := by decide +kernel
theorem dJx4a65c_remove_915e3_5 : decode cJx4a65c_remove_915e3 5 = .ok (.invokestatic 118, 3) := by decide +kernel
theorem dJx4a65c_remove_915e3_8 : decode cJx4a65c_remove_915e3 8 = .ok (.pop, 1) := by decide +kernel
theorem dJx4a65c_remove_915e3_9 : decode cJx4a65c_remove_915e3 9 = .ok (.aload_n 0, 1) := by decide +kernel
theorem dJx4a65c_remove_915e3_10 : decode cJx4a65c_remove_915e3 10 = .ok (.getfield 9, 3) := by decide +kernel
theorem dJx4a65c_remove_915e3_13 : decode cJx4a65c_remove_915e3 13 = .ok (.astore_n 2, 1) := by decide +kernel
theorem dJx4a65c_remove_915e3_14 : decode cJx4a65c_remove_915e3 14 = .ok (.aload_n 2, 1) := by decide +kernel
theorem dJx4a65c_remove_915e3_15 : decode cJx4a65c_remove_915e3 15 = .ok (.iload_n 1, 1) := by decide +kernel
theorem dJx4a65c_remove_915e3_16 : decode cJx4a65c_remove_915e3 16 = .ok (.aaload, 1) := by decide +kernel
theorem dJx4a65c_remove_915e3_17 : decode cJx4a65c_remove_915e3 17 = .ok (.astore_n 3, 1) := by decide +kernel
theorem dJx4a65c_remove_915e3_18 : decode cJx4a65c_remove_915e3 18 = .ok (.aload_n 0, 1) := by decide +kernel
theorem dJx4a65c_remove_915e3_19 : decode cJx4a65c_remove_915e3 19 = .ok (.aload_n 2, 1) := by decide +kernel
theorem dJx4a65c_remove_915e3_20 : decode cJx4a65c_remove_915e3 20 = .ok (.iload_n 1, 1) := by decide +kernel
theorem dJx4a65c_remove_915e3_21 : decode cJx4a65c_remove_915e3 21 = .ok (.invokevirtual 144, 3) := by decide +kernel
theorem dJx4a65c_remove_915e3_24 : decode cJx4a65c_remove_915e3 24 = .ok (.aload_n 3, 1) := by decide +kernel
theorem dJx4a65c_remove_915e3_25 : decode cJx4a65c_remove_915e3 25 = .ok (.areturn, 1) := by decide +kernel
theorem dJx4a65c_fastRemove_b59b0_0 : decode cJx4a65c_fastRemove_b59b0 0 = .ok (.aload_n 0, 1) := by decide +kernel
theorem dJx4a65c_fastRemove_b59b0_1 : decode cJx4a65c_fastRemove_b59b0 1 = .ok (.dup, 1) := by decide +kernel
theorem dJx4a65c_fastRemove_b59b0_2 : decode cJx4a65c_fastRemove_b59b0 2 = .ok (.getfield 63, 3) := by decide +kernel
theorem dJx4a65c_fastRemove_b59b0_5 : decode cJx4a65c_fastRemove_b59b0 5 = .ok (.iconst 1, 1) := by decide +kernel
theorem dJx4a65c_fastRemove_b59b0_6 : decode cJx4a65c_fastRemove_b59b0 6 = .ok (.iadd, 1) := by decide +kernel
theorem dJx4a65c_fastRemove_b59b0_7 : decode cJx4a65c_fastRemove_b59b0 7 = .ok (.putfield 63, 3) := by decide +kernel
theorem dJx4a65c_fastRemove_b59b0_10 : decode cJx4a65c_fastRemove_b59b0 10 = .ok (.aload_n 0, 1) := by decide +kernel
theorem dJx4a65c_fastRemove_b59b0_11 : decode cJx4a65c_fastRemove_b59b0 11 = .ok (.getfield 48, 3) := by decide +kernel
theorem dJx4a65c_fastRemove_b59b0_14 : decode cJx4a65c_fastRemove_b59b0 14 = .ok (.iconst 1, 1) := by decide +kernel
theorem dJx4a65c_fastRemove_b59b0_15 : decode cJx4a65c_fastRemove_b59b0 15 = .ok (.isub, 1) := by decide +kernel
theorem dJx4a65c_fastRemove_b59b0_16 : decode cJx4a65c_fastRemove_b59b0 16 = .ok (.dup, 1) := by decide +kernel
theorem dJx4a65c_fastRemove_b59b0_17 : decode cJx4a65c_fastRemove_b59b0 17 = .ok (.istore_n 3, 1) := by decide +kernel
theorem dJx4a65c_fastRemove_b59b0_18 : decode cJx4a65c_fastRemove_b59b0 18 = .ok (.iload_n 2, 1) := by decide +kernel
theorem dJx4a65c_fastRemove_b59b0_19 : decode cJx4a65c_fastRemove_b59b0 19 = .ok (.if_icmp .le 15, 3) := by decide +kernel
theorem dJx4a65c_fastRemove_b59b0_22 : decode cJx4a65c_fastRemove_b59b0 22 = .ok (.aload_n 1, 1) := by decide +kernel
theorem dJx4a65c_fastRemove_b59b0_23 : decode cJx4a65c_fastRemove_b59b0 23 = .ok (.iload_n 2, 1) := by decide +kernel
theorem dJx4a65c_fastRemove_b59b0_24 : decode cJx4a65c_fastRemove_b59b0 24 = .ok (.iconst 1, 1) := by decide +kernel
theorem dJx4a65c_fastRemove_b59b0_25 : decode cJx4a65c_fastRemove_b59b0 25 = .ok (.iadd, 1) := by decide +kernel
theorem dJx4a65c_fastRemove_b59b0_26 : decode cJx4a65c_fastRemove_b59b0 26 = .ok (.aload_n 1, 1) := by decide +kernel
theorem dJx4a65c_fastRemove_b59b0_27 : decode cJx4a65c_fastRemove_b59b0 27 = .ok (.iload_n 2, 1) := by decide +kernel
theorem dJx4a65c_fastRemove_b59b0_28 : decode cJx4a65c_fastRemove_b59b0 28 = .ok (.iload_n 3, 1) := by decide +kernel
theorem dJx4a65c_fastRemove_b59b0_29 : decode cJx4a65c_fastRemove_b59b0 29 = .ok (.iload_n 2, 1) := by decide +kernel
theorem dJx4a65c_fastRemove_b59b0_30 : decode cJx4a65c_fastRemove_b59b0 30 = .ok (.isub, 1) := by decide +kernel
theorem dJx4a65c_fastRemove_b59b0_31 : decode cJx4a65c_fastRemove_b59b0 31 = .ok (.invokestatic 112, 3) := by decide +kernel
theorem dJx4a65c_fastRemove_b59b0_34 : decode cJx4a65c_fastRemove_b59b0 34 = .ok (.aload_n 1, 1) := by decide +kernel
theorem dJx4a65c_fastRemove_b59b0_35 : decode cJx4a65c_fastRemove_b59b0 35 = .ok (.aload_n 0, 1) := by decide +kernel
theorem dJx4a65c_fastRemove_b59b0_36 : decode cJx4a65c_fastRemove_b59b0 36 = .ok (.iload_n 3, 1) := by decide +kernel
theorem dJx4a65c_fastRemove_b59b0_37 : decode cJx4a65c_fastRemove_b59b0 37 = .ok (.dup_x1, 1) := by decide +kernel
theorem dJx4a65c_fastRemove_b59b0_38 : decode cJx4a65c_fastRemove_b59b0 38 = .ok (.putfield 48, 3) := by decide +kernel
theorem dJx4a65c_fastRemove_b59b0_41 : decode cJx4a65c_fastRemove_b59b0 41 = .ok (.aconst_null, 1) := by decide +kernel
theorem dJx4a65c_fastRemove_b59b0_42 : decode cJx4a65c_fastRemove_b59b0 42 = .ok (.aastore, 1) := by decide +kernel
theorem dJx4a65c_fastRemove_b59b0_43 : decode cJx4a65c_fastRemove_b59b0 43 = .ok (.return_, 1) := by decide +kernel
theorem dJ7_fill_7f8df_0 : decode cJ7_fill_7f8df 0 = .ok (.iconst 0, 1) := by decide +kernel
theorem dJ7_fill_7f8df_1 : decode cJ7_fill_7f8df 1 = .ok (.istore_n 3, 1) := by decide +kernel
theorem dJ7_fill_7f8df_2 : decode cJ7_fill_7f8df 2 = .ok (.aload_n 0, 1) := by decide +kernel
theorem dJ7_fill_7f8df_3 : decode cJ7_fill_7f8df 3 = .ok (.arraylength, 1) := by decide +kernel
theorem dJ7_fill_7f8df_4 : decode cJ7_fill_7f8df 4 = .ok (.istore 4, 2) := by decide +kernel
theorem dJ7_fill_7f8df_6 : decode cJ7_fill_7f8df 6 = .ok (.iload_n 3, 1) := by decide +kernel
theorem dJ7_fill_7f8df_7 : decode cJ7_fill_7f8df 7 = .ok (.iload 4, 2) := by decide +kernel
theorem dJ7_fill_7f8df_9 : decode cJ7_fill_7f8df 9 = .ok (.if_icmp .ge 13, 3) := by decide +kernel
theorem dJ7_fill_7f8df_12 : decode cJ7_fill_7f8df 12 = .ok (.aload_n 0, 1) := by decide +kernel
theorem dJ7_fill_7f8df_13 : decode cJ7_fill_7f8df 13 = .ok (.iload_n 3, 1) := by decide +kernel
theorem dJ7_fill_7f8df_14 : decode cJ7_fill_7f8df 14 = .ok (.dload_n 1, 1) := by decide +kernel
theorem dJ7_fill_7f8df_15 : decode cJ7_fill_7f8df 15 = .ok (.dastore, 1) := by decide +kernel
theorem dJ7_fill_7f8df_16 : decode cJ7_fill_7f8df 16 = .ok (.iinc 3 1, 3) := by decide +kernel
theorem dJ7_fill_7f8df_19 : decode cJ7_fill_7f8df 19 = .ok (.goto (-13), 3) := by decide +kernel
theorem dJ7_fill_7f8df_22 : decode cJ7_fill_7f8df 22 = .ok (.return_, 1) := by decide +kernel
theorem dJ7_copyOf_1904c_0 : decode cJ7_copyOf_1904c 0 = .ok (.aload_n 0, 1) := by decide +kernel
theorem dJ7_copyOf_1904c_1 : decode cJ7_copyOf_1904c 1 = .ok (.iload_n 1, 1) := by decide +kernel
theorem dJ7_copyOf_1904c_2 : decode cJ7_copyOf_1904c 2 = .ok (.aload_n 0, 1) := by decide +kernel
theorem dJ7_copyOf_1904c_3 : decode cJ7_copyOf_1904c 3 = .ok (.invokevirtual 86, 3) := by decide +kernel
theorem dJ7_copyOf_1904c_6 : decode cJ7_copyOf_1904c 6 = .ok (.invokestatic 300, 3) := by decide +kernel
theorem dJ7_copyOf_1904c_9 : decode cJ7_copyOf_1904c 9 = .ok (.areturn, 1) := by decide +kernel
theorem dJ7_copyOf_6403c_0 : decode cJ7_copyOf_6403c 0 = .ok (.aload_n 2, 1) := by decide +kernel
theorem dJ7_copyOf_6403c_1 : decode cJ7_copyOf_6403c 1 = .ok (.ldc 110, 2) := by decide +kernel
theorem dJ7_copyOf_6403c_3 : decode cJ7_copyOf_6403c 3 = .ok (.if_acmp .ne 10, 3) := by decide +kernel
theorem dJ7_copyOf_6403c_6 : decode cJ7_copyOf_6403c 6 = .ok (.iload_n 1, 1) := by decide +kernel
theorem dJ7_copyOf_6403c_7 : decode cJ7_copyOf_6403c 7 = .ok (.anewarray 2, 3) := by decide +kernel
theorem dJ7_copyOf_6403c_10 : decode cJ7_copyOf_6403c 10 = .ok (.goto 14, 3) := by decide +kernel
theorem dJ7_copyOf_6403c_13 : decode cJ7_copyOf_6403c 13 = .ok (.aload_n 2, 1) := by decide +kernel
theorem dJ7_copyOf_6403c_14 : decode cJ7_copyOf_6403c 14 = .ok (.invokevirtual 90, 3) := by decide +kernel
theorem dJ7_copyOf_6403c_17 : decode cJ7_copyOf_6403c 17 = .ok (.iload_n 1, 1) := by decide +kernel
theorem dJ7_copyOf_6403c_18 : decode cJ7_copyOf_6403c 18 = .ok (.invokestatic 95, 3) := by decide +kernel
theorem dJ7_copyOf_6403c_21 : decode cJ7_copyOf_6403c 21 = .ok (.checkcast 110, 3) := by decide +kernel
theorem dJ7_copyOf_6403c_24 : decode cJ7_copyOf_6403c 24 = .ok (.astore_n 3, 1) := by decide +kernel
theorem dJ7_copyOf_6403c_25 : decode cJ7_copyOf_6403c 25 = .ok (.aload_n 0, 1) := by decide +kernel
theorem dJ7_copyOf_6403c_26 : decode cJ7_copyOf_6403c 26 = .ok (.iconst 0, 1) := by decide +kernel
theorem dJ7_copyOf_6403c_27 : decode cJ7_copyOf_6403c 27 = .ok (.aload_n 3, 1) := by decide +kernel
theorem dJ7_copyOf_6403c_28 : decode cJ7_copyOf_6403c 28 = .ok (.iconst 0, 1) := by decide +kernel
theorem dJ7_copyOf_6403c_29 : decode cJ7_copyOf_6403c 29 = .ok (.aload_n 0, 1) := by decide +kernel
theorem dJ7_copyOf_6403c_30 : decode cJ7_copyOf_6403c 30 = .ok (.arraylength, 1) := by decide +kernel
theorem dJ7_copyOf_6403c_31 : decode cJ7_copyOf_6403c 31 = .ok (.iload_n 1, 1) := by decide +kernel
theorem dJ7_copyOf_6403c_32 : decode cJ7_copyOf_6403c 32 = .ok (.invokestatic 304, 3) := by decide +kernel
theorem dJ7_copyOf_6403c_35 : decode cJ7_copyOf_6403c 35 = .ok (.invokestatic 150, 3) := by decide +kernel
theorem dJ7_copyOf_6403c_38 : decode cJ7_copyOf_6403c 38 = .ok (.aload_n 3, 1) := by decide +kernel
theorem dJ7_copyOf_6403c_39 : decode cJ7_copyOf_6403c 39 = .ok (.areturn, 1) := by decide +kernel
theorem dJ15_checkIndex_7cf53_0 : decode cJ15_checkIndex_7cf53 0 = .ok (.iload_n 0, 1) := by decide +kernel
theorem dJ15_checkIndex_7cf53_1 : decode cJ15_checkIndex_7cf53 1 = .ok (.iload_n 1, 1) := by decide +kernel
theorem dJ15_checkIndex_7cf53_2 : decode cJ15_checkIndex_7cf53 2 = .ok (.aconst_null, 1) := by decide +kernel
theorem dJ15_checkIndex_7cf53_3 : decode cJ15_checkIndex_7cf53 3 = .ok (.invokestatic 105, 3) := by decide +kernel
theorem dJ15_checkIndex_7cf53_6 : decode cJ15_checkIndex_7cf53 6 = .ok (.ireturn, 1) := by decide +kernel
theorem dJ8_newLength_cabcc_0 : decode cJ8_newLength_cabcc 0 = .ok (.iload_n 0, 1) := by decide +kernel
theorem dJ8_newLength_cabcc_1 : decode cJ8_newLength_cabcc 1 = .ok (.iload_n 1, 1) := by decide +kernel
theorem dJ8_newLength_cabcc_2 : decode cJ8_newLength_cabcc 2 = .ok (.iload_n 2, 1) := by decide +kernel
theorem dJ8_newLength_cabcc_3 : decode cJ8_newLength_cabcc 3 = .ok (.invokestatic 194, 3) := by decide +kernel
theorem dJ8_newLength_cabcc_6 : decode cJ8_newLength_cabcc 6 = .ok (.iadd, 1) := by decide +kernel
theorem dJ8_newLength_cabcc_7 : decode cJ8_newLength_cabcc 7 = .ok (.istore_n 3, 1) := by decide +kernel
theorem dJ8_newLength_cabcc_8 : decode cJ8_newLength_cabcc 8 = .ok (.iconst 0, 1) := by decide +kernel
theorem dJ8_newLength_cabcc_9 : decode cJ8_newLength_cabcc 9 = .ok (.iload_n 3, 1) := by decide +kernel
theorem dJ8_newLength_cabcc_10 : decode cJ8_newLength_cabcc 10 = .ok (.if_icmp .ge 11, 3) := by decide +kernel
theorem dJ8_newLength_cabcc_13 : decode cJ8_newLength_cabcc 13 = .ok (.iload_n 3, 1) := by decide +kernel
theorem dJ8_newLength_cabcc_14 : decode cJ8_newLength_cabcc 14 = .ok (.ldc 200, 2) := by decide +kernel
theorem dJ8_newLength_cabcc_16 : decode cJ8_newLength_cabcc 16 = .ok (.if_icmp .gt 5, 3) := by decide +kernel
theorem dJ8_newLength_cabcc_19 : decode cJ8_newLength_cabcc 19 = .ok (.iload_n 3, 1) := by decide +kernel
theorem dJ8_newLength_cabcc_20 : decode cJ8_newLength_cabcc 20 = .ok (.ireturn, 1) := by decide +kernel
theorem dJ8_newLength_cabcc_21 : decode cJ8_newLength_cabcc 21 = .ok (.iload_n 0, 1) := by decide +kernel
theorem dJ8_newLength_cabcc_22 : decode cJ8_newLength_cabcc 22 = .ok (.iload_n 1, 1) := by decide +kernel
theorem dJ8_newLength_cabcc_23 : decode cJ8_newLength_cabcc 23 = .ok (.invokestatic 201, 3) := by decide +kernel
theorem dJ8_newLength_cabcc_26 : decode cJ8_newLength_cabcc 26 = .ok (.ireturn, 1) := by decide +kernel
theorem dJ8_hugeLength_7cf53_0 : decode cJ8_hugeLength_7cf53 0 = .ok (.iload_n 0, 1) := by decide +kernel
theorem dJ8_hugeLength_7cf53_1 : decode cJ8_hugeLength_7cf53 1 = .ok (.iload_n 1, 1) := by decide +kernel
theorem dJ8_hugeLength_7cf53_2 : decode cJ8_hugeLength_7cf53 2 = .ok (.iadd, 1) := by decide +kernel
theorem dJ8_hugeLength_7cf53_3 : decode cJ8_hugeLength_7cf53 3 = .ok (.istore_n 2, 1) := by decide +kernel
theorem dJ8_hugeLength_7cf53_4 : decode cJ8_hugeLength_7cf53 4 = .ok (.iload_n 2, 1) := by decide +kernel
theorem dJ8_hugeLength_7cf53_5 : decode cJ8_hugeLength_7cf53 5 = .ok (.ifCond .ge 44, 3) := by decide +kernel
theorem dJ8_hugeLength_7cf53_8 : decode cJ8_hugeLength_7cf53 8 = .ok (.new 204, 3) := by decide +kernel
theorem dJ8_hugeLength_7cf53_11 : decode cJ8_hugeLength_7cf53 11 = .ok (.dup, 1) := by decide +kernel
theorem dJ8_hugeLength_7cf53_12 : decode cJ8_hugeLength_7cf53 12 = .ok (.new 89, 3) := by decide +kernel
theorem dJ8_hugeLength_7cf53_15 : decode cJ8_hugeLength_7cf53 15 = .ok (.dup, 1) := by decide +kernel
theorem dJ8_hugeLength_7cf53_16 : decode cJ8_hugeLength_7cf53 16 = .ok (.invokespecial 91, 3) := by decide +kernel
theorem dJ8_hugeLength_7cf53_19 : decode cJ8_hugeLength_7cf53 19 = .ok (.ldc 206, 2) := by decide +kernel
theorem dJ8_hugeLength_7cf53_21 : decode cJ8_hugeLength_7cf53 21 = .ok (.invokevirtual 94, 3) := by decide +kernel
theorem dJ8_hugeLength_7cf53_24 : decode cJ8_hugeLength_7cf53 24 = .ok (.iload_n 0, 1) := by decide +kernel
theorem dJ8_hugeLength_7cf53_25 : decode cJ8_hugeLength_7cf53 25 = .ok (.invokevirtual 98, 3) := by decide +kernel
theorem dJ8_hugeLength_7cf53_28 : decode cJ8_hugeLength_7cf53 28 = .ok (.ldc 208, 2) := by decide +kernel
theorem dJ8_hugeLength_7cf53_30 : decode cJ8_hugeLength_7cf53 30 = .ok (.invokevirtual 94, 3) := by decide +kernel
theorem dJ8_hugeLength_7cf53_33 : decode cJ8_hugeLength_7cf53 33 = .ok (.iload_n 1, 1) := by decide +kernel
theorem dJ8_hugeLength_7cf53_34 : decode cJ8_hugeLength_7cf53 34 = .ok (.invokevirtual 98, 3) := by decide +kernel
theorem dJ8_hugeLength_7cf53_37 : decode cJ8_hugeLength_7cf53 37 = .ok (.ldc 210, 2) := by decide +kernel
theorem dJ8_hugeLength_7cf53_39 : decode cJ8_hugeLength_7cf53 39 = .ok (.invokevirtual 94, 3) := by decide +kernel
theorem dJ8_hugeLength_7cf53_42 : decode cJ8_hugeLength_7cf53 42 = .ok (.invokevirtual 101, 3) := by decide +kernel
theorem dJ8_hugeLength_7cf53_45 : decode cJ8_hugeLength_7cf53 45 = .ok (.invokespecial 212, 3) := by decide +kernel
theorem dJ8_hugeLength_7cf53_48 : decode cJ8_hugeLength_7cf53 48 = .ok (.athrow, 1) := by decide +kernel
theorem dJ8_hugeLength_7cf53_49 : decode cJ8_hugeLength_7cf53 49 = .ok (.iload_n 2, 1) := by decide +kernel
theorem dJ8_hugeLength_7cf53_50 : decode cJ8_hugeLength_7cf53 50 = .ok (.ldc 200, 2) := by decide +kernel
theorem dJ8_hugeLength_7cf53_52 : decode cJ8_hugeLength_7cf53 52 = .ok (.if_icmp .gt 6, 3) := by decide +kernel
theorem dJ8_hugeLength_7cf53_55 : decode cJ8_hugeLength_7cf53 55 = .ok (.ldc 200, 2) := by decide +kernel
theorem dJ8_hugeLength_7cf53_57 : decode cJ8_hugeLength_7cf53 57 = .ok (.ireturn, 1) := by decide +kernel
theorem dJ8_hugeLength_7cf53_58 : decode cJ8_hugeLength_7cf53 58 = .ok (.iload_n 2, 1) := by decide +kernel
theorem dJ8_hugeLength_7cf53_59 : decode cJ8_hugeLength_7cf53 59 = .ok (.ireturn, 1) := by decide +kernel
theorem dJ3_checkIndex_8e157_0 : decode cJ3_checkIndex_8e157 0 = .ok (.iload_n 0, 1) := by decide +kernel
theorem dJ3_checkIndex_8e157_1 : decode cJ3_checkIndex_8e157 1 = .ok (.ifCond .lt 8, 3) := by decide +kernel
theorem dJ3_checkIndex_8e157_4 : decode cJ3_checkIndex_8e157 4 = .ok (.iload_n 0, 1) := by decide +kernel
theorem dJ3_checkIndex_8e157_5 : decode cJ3_checkIndex_8e157 5 = .ok (.iload_n 1, 1) := by decide +kernel
theorem dJ3_checkIndex_8e157_6 : decode cJ3_checkIndex_8e157 6 = .ok (.if_icmp .lt 10, 3) := by decide +kernel
theorem dJ3_checkIndex_8e157_9 : decode cJ3_checkIndex_8e157 9 = .ok (.aload_n 2, 1) := by decide +kernel
theorem dJ3_checkIndex_8e157_10 : decode cJ3_checkIndex_8e157 10 = .ok (.iload_n 0, 1) := by decide +kernel
theorem dJ3_checkIndex_8e157_11 : decode cJ3_checkIndex_8e157 11 = .ok (.iload_n 1, 1) := by decide +kernel
theorem dJ3_checkIndex_8e157_12 : decode cJ3_checkIndex_8e157 12 = .ok (.invokestatic 95, 3) := by decide +kernel
theorem dJ3_checkIndex_8e157_15 : decode cJ3_checkIndex_8e157 15 = .ok (.athrow, 1) := by decide +kernel
theorem dJ3_checkIndex_8e157_16 : decode cJ3_checkIndex_8e157 16 = .ok (.iload_n 0, 1) := by decide +kernel
theorem dJ3_checkIndex_8e157_17 : decode cJ3_checkIndex_8e157 17 = .ok (.ireturn, 1) := by decide +kernel
theorem dL_cut_0 : decode cL_cut 0 = .ok (.aload 6, 2) := by decide +kernel
theorem dL_cut_2 : decode cL_cut 2 = .ok (.iconst 0, 1) := by decide +kernel
theorem dL_cut_3 : decode cL_cut 3 = .ok (.aload_n 0, 1) := by decide +kernel
theorem dL_cut_4 : decode cL_cut 4 = .ok (.iload_n 1, 1) := by decide +kernel
theorem dL_cut_5 : decode cL_cut 5 = .ok (.iload_n 2, 1) := by decide +kernel
theorem dL_cut_6 : decode cL_cut 6 = .ok (.dload_n 3, 1) := by decide +kernel
theorem dL_cut_7 : decode cL_cut 7 = .ok (.iload 5, 2) := by decide +kernel
theorem dL_cut_9 : decode cL_cut 9 = .ok (.invokevirtual 7, 3) := by decide +kernel
theorem dL_cut_12 : decode cL_cut 12 = .ok (.i2l, 1) := by decide +kernel
theorem dL_cut_13 : decode cL_cut 13 = .ok (.lastore, 1) := by decide +kernel
theorem dL_cut_14 : decode cL_cut 14 = .ok (.goto 11, 3) := by decide +kernel
theorem dL_cut_17 : decode cL_cut 17 = .ok (.astore 7, 2) := by decide +kernel
theorem dL_cut_19 : decode cL_cut 19 = .ok (.iconst 1, 1) := by decide +kernel
theorem dL_cut_20 : decode cL_cut 20 = .ok (.ireturn, 1) := by decide +kernel
theorem dL_cut_21 : decode cL_cut 21 = .ok (.astore 7, 2) := by decide +kernel
theorem dL_cut_23 : decode cL_cut 23 = .ok (.iconst 2, 1) := by decide +kernel
theorem dL_cut_24 : decode cL_cut 24 = .ok (.ireturn, 1) := by decide +kernel
theorem dL_cut_25 : decode cL_cut 25 = .ok (.iconst 0, 1) := by decide +kernel
theorem dL_cut_26 : decode cL_cut 26 = .ok (.ireturn, 1) := by decide +kernel
theorem dL_push_0 : decode cL_push 0 = .ok (.aload_n 3, 1) := by decide +kernel
theorem dL_push_1 : decode cL_push 1 = .ok (.iconst 0, 1) := by decide +kernel
theorem dL_push_2 : decode cL_push 2 = .ok (.aload_n 0, 1) := by decide +kernel
theorem dL_push_3 : decode cL_push 3 = .ok (.dload_n 1, 1) := by decide +kernel
theorem dL_push_4 : decode cL_push 4 = .ok (.invokevirtual 17, 3) := by decide +kernel
theorem dL_push_7 : decode cL_push 7 = .ok (.dastore, 1) := by decide +kernel
theorem dL_push_8 : decode cL_push 8 = .ok (.goto 7, 3) := by decide +kernel
theorem dL_push_11 : decode cL_push 11 = .ok (.astore 4, 2) := by decide +kernel
theorem dL_push_13 : decode cL_push 13 = .ok (.iconst 1, 1) := by decide +kernel
theorem dL_push_14 : decode cL_push 14 = .ok (.ireturn, 1) := by decide +kernel
theorem dL_push_15 : decode cL_push 15 = .ok (.iconst 0, 1) := by decide +kernel
theorem dL_push_16 : decode cL_push 16 = .ok (.ireturn, 1) := by decide +kernel
theorem dL_wish_0 : decode cL_wish 0 = .ok (.aload 4, 2) := by decide +kernel
theorem dL_wish_2 : decode cL_wish 2 = .ok (.iconst 0, 1) := by decide +kernel
theorem dL_wish_3 : decode cL_wish 3 = .ok (.aload_n 0, 1) := by decide +kernel
theorem dL_wish_4 : decode cL_wish 4 = .ok (.iload_n 1, 1) := by decide +kernel
theorem dL_wish_5 : decode cL_wish 5 = .ok (.dload_n 2, 1) := by decide +kernel
theorem dL_wish_6 : decode cL_wish 6 = .ok (.invokevirtual 21, 3) := by decide +kernel
theorem dL_wish_9 : decode cL_wish 9 = .ok (.dastore, 1) := by decide +kernel
theorem dL_wish_10 : decode cL_wish 10 = .ok (.goto 11, 3) := by decide +kernel
theorem dL_wish_13 : decode cL_wish 13 = .ok (.astore 5, 2) := by decide +kernel
theorem dL_wish_15 : decode cL_wish 15 = .ok (.iconst 1, 1) := by decide +kernel
theorem dL_wish_16 : decode cL_wish 16 = .ok (.ireturn, 1) := by decide +kernel
theorem dL_wish_17 : decode cL_wish 17 = .ok (.astore 5, 2) := by decide +kernel
theorem dL_wish_19 : decode cL_wish 19 = .ok (.iconst 2, 1) := by decide +kernel
theorem dL_wish_20 : decode cL_wish 20 = .ok (.ireturn, 1) := by decide +kernel
theorem dL_wish_21 : decode cL_wish 21 = .ok (.iconst 0, 1) := by decide +kernel
theorem dL_wish_22 : decode cL_wish 22 = .ok (.ireturn, 1) := by decide +kernel
theorem dL_stick_0 : decode cL_stick 0 = .ok (.aload_n 3, 1) := by decide +kernel
theorem dL_stick_1 : decode cL_stick 1 = .ok (.iconst 0, 1) := by decide +kernel
theorem dL_stick_2 : decode cL_stick 2 = .ok (.aload_n 0, 1) := by decide +kernel
theorem dL_stick_3 : decode cL_stick 3 = .ok (.iload_n 1, 1) := by decide +kernel
theorem dL_stick_4 : decode cL_stick 4 = .ok (.iload_n 2, 1) := by decide +kernel
theorem dL_stick_5 : decode cL_stick 5 = .ok (.invokevirtual 27, 3) := by decide +kernel
theorem dL_stick_8 : decode cL_stick 8 = .ok (.ifCond .eq 7, 3) := by decide +kernel
theorem dL_stick_11 : decode cL_stick 11 = .ok (.lconst 1, 1) := by decide +kernel
theorem dL_stick_12 : decode cL_stick 12 = .ok (.goto 4, 3) := by decide +kernel
theorem dL_stick_15 : decode cL_stick 15 = .ok (.lconst 0, 1) := by decide +kernel
theorem dL_stick_16 : decode cL_stick 16 = .ok (.lastore, 1) := by decide +kernel
theorem dL_stick_17 : decode cL_stick 17 = .ok (.goto 7, 3) := by decide +kernel
theorem dL_stick_20 : decode cL_stick 20 = .ok (.astore 4, 2) := by decide +kernel
theorem dL_stick_22 : decode cL_stick 22 = .ok (.iconst 1, 1) := by decide +kernel
theorem dL_stick_23 : decode cL_stick 23 = .ok (.ireturn, 1) := by decide +kernel
theorem dL_stick_24 : decode cL_stick 24 = .ok (.iconst 0, 1) := by decide +kernel
theorem dL_stick_25 : decode cL_stick 25 = .ok (.ireturn, 1) := by decide +kernel
theorem dL_fill_0 : decode cL_fill 0 = .ok (.aload 4, 2) := by decide +kernel
theorem dL_fill_2 : decode cL_fill 2 = .ok (.iconst 0, 1) := by decide +kernel
theorem dL_fill_3 : decode cL_fill 3 = .ok (.aload_n 0, 1) := by decide +kernel
theorem dL_fill_4 : decode cL_fill 4 = .ok (.iload_n 1, 1) := by decide +kernel
theorem dL_fill_5 : decode cL_fill 5 = .ok (.dload_n 2, 1) := by decide +kernel
theorem dL_fill_6 : decode cL_fill 6 = .ok (.invokevirtual 31, 3) := by decide +kernel
theorem dL_fill_9 : decode cL_fill 9 = .ok (.dastore, 1) := by decide +kernel
theorem dL_fill_10 : decode cL_fill 10 = .ok (.goto 11, 3) := by decide +kernel
theorem dL_fill_13 : decode cL_fill 13 = .ok (.astore 5, 2) := by decide +kernel
theorem dL_fill_15 : decode cL_fill 15 = .ok (.iconst 1, 1) := by decide +kernel
theorem dL_fill_16 : decode cL_fill 16 = .ok (.ireturn, 1) := by decide +kernel
theorem dL_fill_17 : decode cL_fill 17 = .ok (.astore 5, 2) := by decide +kernel
theorem dL_fill_19 : decode cL_fill 19 = .ok (.iconst 2, 1) := by decide +kernel
theorem dL_fill_20 : decode cL_fill 20 = .ok (.ireturn, 1) := by decide +kernel
theorem dL_fill_21 : decode cL_fill 21 = .ok (.iconst 0, 1) := by decide +kernel
theorem dL_fill_22 : decode cL_fill 22 = .ok (.ireturn, 1) := by decide +kernel
theorem dL_tick_0 : decode cL_tick 0 = .ok (.aload_n 2, 1) := by decide +kernel
theorem dL_tick_1 : decode cL_tick 1 = .ok (.iconst 0, 1) := by decide +kernel
theorem dL_tick_2 : decode cL_tick 2 = .ok (.aload_n 0, 1) := by decide +kernel
theorem dL_tick_3 : decode cL_tick 3 = .ok (.iload_n 1, 1) := by decide +kernel
theorem dL_tick_4 : decode cL_tick 4 = .ok (.invokevirtual 34, 3) := by decide +kernel
theorem dL_tick_7 : decode cL_tick 7 = .ok (.i2l, 1) := by decide +kernel
theorem dL_tick_8 : decode cL_tick 8 = .ok (.lastore, 1) := by decide +kernel
theorem dL_tick_9 : decode cL_tick 9 = .ok (.goto 6, 3) := by decide +kernel
theorem dL_tick_12 : decode cL_tick 12 = .ok (.astore_n 3, 1) := by decide +kernel
theorem dL_tick_13 : decode cL_tick 13 = .ok (.iconst 1, 1) := by decide +kernel
theorem dL_tick_14 : decode cL_tick 14 = .ok (.ireturn, 1) := by decide +kernel
theorem dL_tick_15 : decode cL_tick 15 = .ok (.iconst 0, 1) := by decide +kernel
theorem dL_tick_16 : decode cL_tick 16 = .ok (.ireturn, 1) := by decide +kernel
theorem dL_place_0 : decode cL_place 0 = .ok (.aload_n 2, 1) := by decide +kernel
theorem dL_place_1 : decode cL_place 1 = .ok (.iconst 0, 1) := by decide +kernel
theorem dL_place_2 : decode cL_place 2 = .ok (.aload_n 0, 1) := by decide +kernel
theorem dL_place_3 : decode cL_place 3 = .ok (.iload_n 1, 1) := by decide +kernel
theorem dL_place_4 : decode cL_place 4 = .ok (.invokevirtual 38, 3) := by decide +kernel
theorem dL_place_7 : decode cL_place 7 = .ok (.dastore, 1) := by decide +kernel
theorem dL_place_8 : decode cL_place 8 = .ok (.goto 6, 3) := by decide +kernel
theorem dL_place_11 : decode cL_place 11 = .ok (.astore_n 3, 1) := by decide +kernel
theorem dL_place_12 : decode cL_place 12 = .ok (.iconst 1, 1) := by decide +kernel
theorem dL_place_13 : decode cL_place 13 = .ok (.ireturn, 1) := by decide +kernel
theorem dL_place_14 : decode cL_place 14 = .ok (.iconst 0, 1) := by decide +kernel
theorem dL_place_15 : decode cL_place 15 = .ok (.ireturn, 1) := by decide +kernel
theorem dL_speed_0 : decode cL_speed 0 = .ok (.aload_n 2, 1) := by decide +kernel
theorem dL_speed_1 : decode cL_speed 1 = .ok (.iconst 0, 1) := by decide +kernel
theorem dL_speed_2 : decode cL_speed 2 = .ok (.aload_n 0, 1) := by decide +kernel
theorem dL_speed_3 : decode cL_speed 3 = .ok (.iload_n 1, 1) := by decide +kernel
theorem dL_speed_4 : decode cL_speed 4 = .ok (.invokevirtual 42, 3) := by decide +kernel
theorem dL_speed_7 : decode cL_speed 7 = .ok (.dastore, 1) := by decide +kernel
theorem dL_speed_8 : decode cL_speed 8 = .ok (.goto 6, 3) := by decide +kernel
theorem dL_speed_11 : decode cL_speed 11 = .ok (.astore_n 3, 1) := by decide +kernel
theorem dL_speed_12 : decode cL_speed 12 = .ok (.iconst 1, 1) := by decide +kernel
theorem dL_speed_13 : decode cL_speed 13 = .ok (.ireturn, 1) := by decide +kernel
theorem dL_speed_14 : decode cL_speed 14 = .ok (.iconst 0, 1) := by decide +kernel
theorem dL_speed_15 : decode cL_speed 15 = .ok (.ireturn, 1) := by decide +kernel
theorem dL_told_0 : decode cL_told 0 = .ok (.aload_n 3, 1) := by decide +kernel
theorem dL_told_1 : decode cL_told 1 = .ok (.iconst 0, 1) := by decide +kernel
theorem dL_told_2 : decode cL_told 2 = .ok (.aload_n 0, 1) := by decide +kernel
theorem dL_told_3 : decode cL_told 3 = .ok (.iload_n 1, 1) := by decide +kernel
theorem dL_told_4 : decode cL_told 4 = .ok (.iload_n 2, 1) := by decide +kernel
theorem dL_told_5 : decode cL_told 5 = .ok (.invokevirtual 45, 3) := by decide +kernel
theorem dL_told_8 : decode cL_told 8 = .ok (.i2l, 1) := by decide +kernel
theorem dL_told_9 : decode cL_told 9 = .ok (.lastore, 1) := by decide +kernel
theorem dL_told_10 : decode cL_told 10 = .ok (.goto 11, 3) := by decide +kernel
theorem dL_told_13 : decode cL_told 13 = .ok (.astore 4, 2) := by decide +kernel
theorem dL_told_15 : decode cL_told 15 = .ok (.iconst 1, 1) := by decide +kernel
theorem dL_told_16 : decode cL_told 16 = .ok (.ireturn, 1) := by decide +kernel
theorem dL_told_17 : decode cL_told 17 = .ok (.astore 4, 2) := by decide +kernel
theorem dL_told_19 : decode cL_told 19 = .ok (.iconst 2, 1) := by decide +kernel
theorem dL_told_20 : decode cL_told 20 = .ok (.ireturn, 1) := by decide +kernel
theorem dL_told_21 : decode cL_told 21 = .ok (.iconst 0, 1) := by decide +kernel
theorem dL_told_22 : decode cL_told 22 = .ok (.ireturn, 1) := by decide +kernel
theorem dL_point_0 : decode cL_point 0 = .ok (.aload_n 3, 1) := by decide +kernel
theorem dL_point_1 : decode cL_point 1 = .ok (.iconst 0, 1) := by decide +kernel
theorem dL_point_2 : decode cL_point 2 = .ok (.aload_n 0, 1) := by decide +kernel
theorem dL_point_3 : decode cL_point 3 = .ok (.iload_n 1, 1) := by decide +kernel
theorem dL_point_4 : decode cL_point 4 = .ok (.iload_n 2, 1) := by decide +kernel
theorem dL_point_5 : decode cL_point 5 = .ok (.invokevirtual 49, 3) := by decide +kernel
theorem dL_point_8 : decode cL_point 8 = .ok (.i2l, 1) := by decide +kernel
theorem dL_point_9 : decode cL_point 9 = .ok (.lastore, 1) := by decide +kernel
theorem dL_point_10 : decode cL_point 10 = .ok (.goto 11, 3) := by decide +kernel
theorem dL_point_13 : decode cL_point 13 = .ok (.astore 4, 2) := by decide +kernel
theorem dL_point_15 : decode cL_point 15 = .ok (.iconst 1, 1) := by decide +kernel
theorem dL_point_16 : decode cL_point 16 = .ok (.ireturn, 1) := by decide +kernel
theorem dL_point_17 : decode cL_point 17 = .ok (.astore 4, 2) := by decide +kernel
theorem dL_point_19 : decode cL_point 19 = .ok (.iconst 2, 1) := by decide +kernel
theorem dL_point_20 : decode cL_point 20 = .ok (.ireturn, 1) := by decide +kernel
theorem dL_point_21 : decode cL_point 21 = .ok (.iconst 0, 1) := by decide +kernel
theorem dL_point_22 : decode cL_point 22 = .ok (.ireturn, 1) := by decide +kernel
theorem dL_siding_0 : decode cL_siding 0 = .ok (.aload_n 3, 1) := by decide +kernel
theorem dL_siding_1 : decode cL_siding 1 = .ok (.iconst 0, 1) := by decide +kernel
theorem dL_siding_2 : decode cL_siding 2 = .ok (.aload_n 0, 1) := by decide +kernel
theorem dL_siding_3 : decode cL_siding 3 = .ok (.iload_n 1, 1) := by decide +kernel
theorem dL_siding_4 : decode cL_siding 4 = .ok (.iload_n 2, 1) := by decide +kernel
theorem dL_siding_5 : decode cL_siding 5 = .ok (.invokevirtual 52, 3) := by decide +kernel
theorem dL_siding_8 : decode cL_siding 8 = .ok (.i2l, 1) := by decide +kernel
theorem dL_siding_9 : decode cL_siding 9 = .ok (.lastore, 1) := by decide +kernel
theorem dL_siding_10 : decode cL_siding 10 = .ok (.goto 7, 3) := by decide +kernel
theorem dL_siding_13 : decode cL_siding 13 = .ok (.astore 4, 2) := by decide +kernel
theorem dL_siding_15 : decode cL_siding 15 = .ok (.iconst 1, 1) := by decide +kernel
theorem dL_siding_16 : decode cL_siding 16 = .ok (.ireturn, 1) := by decide +kernel
theorem dL_siding_17 : decode cL_siding 17 = .ok (.iconst 0, 1) := by decide +kernel
theorem dL_siding_18 : decode cL_siding 18 = .ok (.ireturn, 1) := by decide +kernel
theorem dL_event_0 : decode cL_event 0 = .ok (.aload_n 3, 1) := by decide +kernel
theorem dL_event_1 : decode cL_event 1 = .ok (.iconst 0, 1) := by decide +kernel
theorem dL_event_2 : decode cL_event 2 = .ok (.aload_n 0, 1) := by decide +kernel
theorem dL_event_3 : decode cL_event 3 = .ok (.iload_n 1, 1) := by decide +kernel
theorem dL_event_4 : decode cL_event 4 = .ok (.iload_n 2, 1) := by decide +kernel
theorem dL_event_5 : decode cL_event 5 = .ok (.invokevirtual 55, 3) := by decide +kernel
theorem dL_event_8 : decode cL_event 8 = .ok (.i2l, 1) := by decide +kernel
theorem dL_event_9 : decode cL_event 9 = .ok (.lastore, 1) := by decide +kernel
theorem dL_event_10 : decode cL_event 10 = .ok (.goto 11, 3) := by decide +kernel
theorem dL_event_13 : decode cL_event 13 = .ok (.astore 4, 2) := by decide +kernel
theorem dL_event_15 : decode cL_event 15 = .ok (.iconst 1, 1) := by decide +kernel
theorem dL_event_16 : decode cL_event 16 = .ok (.ireturn, 1) := by decide +kernel
theorem dL_event_17 : decode cL_event 17 = .ok (.astore 4, 2) := by decide +kernel
theorem dL_event_19 : decode cL_event 19 = .ok (.iconst 2, 1) := by decide +kernel
theorem dL_event_20 : decode cL_event 20 = .ok (.ireturn, 1) := by decide +kernel
theorem dL_event_21 : decode cL_event 21 = .ok (.iconst 0, 1) := by decide +kernel
theorem dL_event_22 : decode cL_event 22 = .ok (.ireturn, 1) := by decide +kernel
theorem dL_about_0 : decode cL_about 0 = .ok (.aload_n 2, 1) := by decide +kernel
theorem dL_about_1 : decode cL_about 1 = .ok (.iconst 0, 1) := by decide +kernel
theorem dL_about_2 : decode cL_about 2 = .ok (.aload_n 0, 1) := by decide +kernel
theorem dL_about_3 : decode cL_about 3 = .ok (.iload_n 1, 1) := by decide +kernel
theorem dL_about_4 : decode cL_about 4 = .ok (.invokevirtual 58, 3) := by decide +kernel
theorem dL_about_7 : decode cL_about 7 = .ok (.i2l, 1) := by decide +kernel
theorem dL_about_8 : decode cL_about 8 = .ok (.lastore, 1) := by decide +kernel
theorem dL_about_9 : decode cL_about 9 = .ok (.goto 6, 3) := by decide +kernel
theorem dL_about_12 : decode cL_about 12 = .ok (.astore_n 3, 1) := by decide +kernel
theorem dL_about_13 : decode cL_about 13 = .ok (.iconst 1, 1) := by decide +kernel
theorem dL_about_14 : decode cL_about 14 = .ok (.ireturn, 1) := by decide +kernel
theorem dL_about_15 : decode cL_about 15 = .ok (.iconst 0, 1) := by decide +kernel
theorem dL_about_16 : decode cL_about 16 = .ok (.ireturn, 1) := by decide +kernel
