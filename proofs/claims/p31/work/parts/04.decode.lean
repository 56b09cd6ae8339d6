theorem dX0_init_0 : decode cX0_init 0 = .ok (.aload_n 0, 1) := by decide +kernel
theorem dX0_init_1 : decode cX0_init 1 = .ok (.invokespecial 3, 3) := by decide +kernel
theorem dX0_init_4 : decode cX0_init 4 = .ok (.aload_n 0, 1) := by decide +kernel
theorem dX0_init_5 : decode cX0_init 5 = .ok (.bipush 16, 2) := by decide +kernel
theorem dX0_init_7 : decode cX0_init 7 = .ok (.newarray .int, 2) := by decide +kernel
theorem dX0_init_9 : decode cX0_init 9 = .ok (.putfield 9, 3) := by decide +kernel
theorem dX0_init_12 : decode cX0_init 12 = .ok (.aload_n 0, 1) := by decide +kernel
theorem dX0_init_13 : decode cX0_init 13 = .ok (.bipush 16, 2) := by decide +kernel
theorem dX0_init_15 : decode cX0_init 15 = .ok (.newarray .int, 2) := by decide +kernel
theorem dX0_init_17 : decode cX0_init 17 = .ok (.putfield 15, 3) := by decide +kernel
theorem dX0_init_20 : decode cX0_init 20 = .ok (.aload_n 0, 1) := by decide +kernel
theorem dX0_init_21 : decode cX0_init 21 = .ok (.sipush 608, 3) := by decide +kernel
theorem dX0_init_24 : decode cX0_init 24 = .ok (.newarray .byte, 2) := by decide +kernel
theorem dX0_init_26 : decode cX0_init 26 = .ok (.putfield 18, 3) := by decide +kernel
theorem dX0_init_29 : decode cX0_init 29 = .ok (.aload_n 0, 1) := by decide +kernel
theorem dX0_init_30 : decode cX0_init 30 = .ok (.aload_n 1, 1) := by decide +kernel
theorem dX0_init_31 : decode cX0_init 31 = .ok (.putfield 22, 3) := by decide +kernel
theorem dX0_init_34 : decode cX0_init 34 = .ok (.return_, 1) := by decide +kernel
theorem dX0_workOut_0 : decode cX0_workOut 0 = .ok (.iconst 0, 1) := by decide +kernel
theorem dX0_workOut_1 : decode cX0_workOut 1 = .ok (.istore_n 1, 1) := by decide +kernel
theorem dX0_workOut_2 : decode cX0_workOut 2 = .ok (.iload_n 1, 1) := by decide +kernel
theorem dX0_workOut_3 : decode cX0_workOut 3 = .ok (.aload_n 0, 1) := by decide +kernel
theorem dX0_workOut_4 : decode cX0_workOut 4 = .ok (.getfield 22, 3) := by decide +kernel
theorem dX0_workOut_7 : decode cX0_workOut 7 = .ok (.getfield 26, 3) := by decide +kernel
theorem dX0_workOut_10 : decode cX0_workOut 10 = .ok (.if_icmp .ge 14, 3) := by decide +kernel
theorem dX0_workOut_13 : decode cX0_workOut 13 = .ok (.aload_n 0, 1) := by decide +kernel
theorem dX0_workOut_14 : decode cX0_workOut 14 = .ok (.iload_n 1, 1) := by decide +kernel
theorem dX0_workOut_15 : decode cX0_workOut 15 = .ok (.invokevirtual 32, 3) := by decide +kernel
theorem dX0_workOut_18 : decode cX0_workOut 18 = .ok (.iinc 1 1, 3) := by decide +kernel
theorem dX0_workOut_21 : decode cX0_workOut 21 = .ok (.goto (-19), 3) := by decide +kernel
theorem dX0_workOut_24 : decode cX0_workOut 24 = .ok (.aload_n 0, 1) := by decide +kernel
theorem dX0_workOut_25 : decode cX0_workOut 25 = .ok (.iconst 0, 1) := by decide +kernel
theorem dX0_workOut_26 : decode cX0_workOut 26 = .ok (.putfield 36, 3) := by decide +kernel
theorem dX0_workOut_29 : decode cX0_workOut 29 = .ok (.iconst 0, 1) := by decide +kernel
theorem dX0_workOut_30 : decode cX0_workOut 30 = .ok (.istore_n 1, 1) := by decide +kernel
theorem dX0_workOut_31 : decode cX0_workOut 31 = .ok (.iload_n 1, 1) := by decide +kernel
theorem dX0_workOut_32 : decode cX0_workOut 32 = .ok (.aload_n 0, 1) := by decide +kernel
theorem dX0_workOut_33 : decode cX0_workOut 33 = .ok (.getfield 22, 3) := by decide +kernel
theorem dX0_workOut_36 : decode cX0_workOut 36 = .ok (.getfield 26, 3) := by decide +kernel
theorem dX0_workOut_39 : decode cX0_workOut 39 = .ok (.if_icmp .ge 47, 3) := by decide +kernel
theorem dX0_workOut_42 : decode cX0_workOut 42 = .ok (.aload_n 0, 1) := by decide +kernel
theorem dX0_workOut_43 : decode cX0_workOut 43 = .ok (.getfield 15, 3) := by decide +kernel
theorem dX0_workOut_46 : decode cX0_workOut 46 = .ok (.aload_n 0, 1) := by decide +kernel
theorem dX0_workOut_47 : decode cX0_workOut 47 = .ok (.getfield 9, 3) := by decide +kernel
theorem dX0_workOut_50 : decode cX0_workOut 50 = .ok (.iload_n 1, 1) := by decide +kernel
theorem dX0_workOut_51 : decode cX0_workOut 51 = .ok (.iaload, 1) := by decide +kernel
theorem dX0_workOut_52 : decode cX0_workOut 52 = .ok (.iload_n 1, 1) := by decide +kernel
theorem dX0_workOut_53 : decode cX0_workOut 53 = .ok (.iastore, 1) := by decide +kernel
theorem dX0_workOut_54 : decode cX0_workOut 54 = .ok (.iload_n 1, 1) := by decide +kernel
theorem dX0_workOut_55 : decode cX0_workOut 55 = .ok (.ifCond .le 15, 3) := by decide +kernel
theorem dX0_workOut_58 : decode cX0_workOut 58 = .ok (.aload_n 0, 1) := by decide +kernel
theorem dX0_workOut_59 : decode cX0_workOut 59 = .ok (.bipush 44, 2) := by decide +kernel
theorem dX0_workOut_61 : decode cX0_workOut 61 = .ok (.invokevirtual 39, 3) := by decide +kernel
theorem dX0_workOut_64 : decode cX0_workOut 64 = .ok (.aload_n 0, 1) := by decide +kernel
theorem dX0_workOut_65 : decode cX0_workOut 65 = .ok (.bipush 32, 2) := by decide +kernel
theorem dX0_workOut_67 : decode cX0_workOut 67 = .ok (.invokevirtual 39, 3) := by decide +kernel
theorem dX0_workOut_70 : decode cX0_workOut 70 = .ok (.aload_n 0, 1) := by decide +kernel
theorem dX0_workOut_71 : decode cX0_workOut 71 = .ok (.aload_n 0, 1) := by decide +kernel
theorem dX0_workOut_72 : decode cX0_workOut 72 = .ok (.getfield 9, 3) := by decide +kernel
theorem dX0_workOut_75 : decode cX0_workOut 75 = .ok (.iload_n 1, 1) := by decide +kernel
theorem dX0_workOut_76 : decode cX0_workOut 76 = .ok (.iaload, 1) := by decide +kernel
theorem dX0_workOut_77 : decode cX0_workOut 77 = .ok (.invokevirtual 42, 3) := by decide +kernel
theorem dX0_workOut_80 : decode cX0_workOut 80 = .ok (.iinc 1 1, 3) := by decide +kernel
theorem dX0_workOut_83 : decode cX0_workOut 83 = .ok (.goto (-52), 3) := by decide +kernel
theorem dX0_workOut_86 : decode cX0_workOut 86 = .ok (.return_, 1) := by decide +kernel
theorem dX0_variantAt_0 : decode cX0_variantAt 0 = .ok (.iload_n 1, 1) := by decide +kernel
theorem dX0_variantAt_1 : decode cX0_variantAt 1 = .ok (.ifCond .lt 23, 3) := by decide +kernel
theorem dX0_variantAt_4 : decode cX0_variantAt 4 = .ok (.iload_n 1, 1) := by decide +kernel
theorem dX0_variantAt_5 : decode cX0_variantAt 5 = .ok (.aload_n 0, 1) := by decide +kernel
theorem dX0_variantAt_6 : decode cX0_variantAt 6 = .ok (.getfield 22, 3) := by decide +kernel
theorem dX0_variantAt_9 : decode cX0_variantAt 9 = .ok (.getfield 26, 3) := by decide +kernel
theorem dX0_variantAt_12 : decode cX0_variantAt 12 = .ok (.if_icmp .ge 12, 3) := by decide +kernel
theorem dX0_variantAt_15 : decode cX0_variantAt 15 = .ok (.aload_n 0, 1) := by decide +kernel
theorem dX0_variantAt_16 : decode cX0_variantAt 16 = .ok (.getfield 9, 3) := by decide +kernel
theorem dX0_variantAt_19 : decode cX0_variantAt 19 = .ok (.iload_n 1, 1) := by decide +kernel
theorem dX0_variantAt_20 : decode cX0_variantAt 20 = .ok (.iaload, 1) := by decide +kernel
theorem dX0_variantAt_21 : decode cX0_variantAt 21 = .ok (.goto 4, 3) := by decide +kernel
theorem dX0_variantAt_24 : decode cX0_variantAt 24 = .ok (.iconst (-1), 1) := by decide +kernel
theorem dX0_variantAt_25 : decode cX0_variantAt 25 = .ok (.ireturn, 1) := by decide +kernel
theorem dX0_byteAt_0 : decode cX0_byteAt 0 = .ok (.iload_n 1, 1) := by decide +kernel
theorem dX0_byteAt_1 : decode cX0_byteAt 1 = .ok (.ifCond .lt 20, 3) := by decide +kernel
theorem dX0_byteAt_4 : decode cX0_byteAt 4 = .ok (.iload_n 1, 1) := by decide +kernel
theorem dX0_byteAt_5 : decode cX0_byteAt 5 = .ok (.aload_n 0, 1) := by decide +kernel
theorem dX0_byteAt_6 : decode cX0_byteAt 6 = .ok (.getfield 36, 3) := by decide +kernel
theorem dX0_byteAt_9 : decode cX0_byteAt 9 = .ok (.if_icmp .ge 12, 3) := by decide +kernel
theorem dX0_byteAt_12 : decode cX0_byteAt 12 = .ok (.aload_n 0, 1) := by decide +kernel
theorem dX0_byteAt_13 : decode cX0_byteAt 13 = .ok (.getfield 18, 3) := by decide +kernel
theorem dX0_byteAt_16 : decode cX0_byteAt 16 = .ok (.iload_n 1, 1) := by decide +kernel
theorem dX0_byteAt_17 : decode cX0_byteAt 17 = .ok (.baload, 1) := by decide +kernel
theorem dX0_byteAt_18 : decode cX0_byteAt 18 = .ok (.goto 4, 3) := by decide +kernel
theorem dX0_byteAt_21 : decode cX0_byteAt 21 = .ok (.iconst (-1), 1) := by decide +kernel
theorem dX0_byteAt_22 : decode cX0_byteAt 22 = .ok (.ireturn, 1) := by decide +kernel
theorem dX0_insert_0 : decode cX0_insert 0 = .ok (.iload_n 1, 1) := by decide +kernel
theorem dX0_insert_1 : decode cX0_insert 1 = .ok (.istore_n 2, 1) := by decide +kernel
theorem dX0_insert_2 : decode cX0_insert 2 = .ok (.iload_n 2, 1) := by decide +kernel
theorem dX0_insert_3 : decode cX0_insert 3 = .ok (.ifCond .le 39, 3) := by decide +kernel
theorem dX0_insert_6 : decode cX0_insert 6 = .ok (.aload_n 0, 1) := by decide +kernel
theorem dX0_insert_7 : decode cX0_insert 7 = .ok (.iload_n 1, 1) := by decide +kernel
theorem dX0_insert_8 : decode cX0_insert 8 = .ok (.aload_n 0, 1) := by decide +kernel
theorem dX0_insert_9 : decode cX0_insert 9 = .ok (.getfield 9, 3) := by decide +kernel
theorem dX0_insert_12 : decode cX0_insert 12 = .ok (.iload_n 2, 1) := by decide +kernel
theorem dX0_insert_13 : decode cX0_insert 13 = .ok (.iconst 1, 1) := by decide +kernel
theorem dX0_insert_14 : decode cX0_insert 14 = .ok (.isub, 1) := by decide +kernel
theorem dX0_insert_15 : decode cX0_insert 15 = .ok (.iaload, 1) := by decide +kernel
theorem dX0_insert_16 : decode cX0_insert 16 = .ok (.invokevirtual 45, 3) := by decide +kernel
theorem dX0_insert_19 : decode cX0_insert 19 = .ok (.ifCond .eq 23, 3) := by decide +kernel
theorem dX0_insert_22 : decode cX0_insert 22 = .ok (.aload_n 0, 1) := by decide +kernel
theorem dX0_insert_23 : decode cX0_insert 23 = .ok (.getfield 9, 3) := by decide +kernel
theorem dX0_insert_26 : decode cX0_insert 26 = .ok (.iload_n 2, 1) := by decide +kernel
theorem dX0_insert_27 : decode cX0_insert 27 = .ok (.aload_n 0, 1) := by decide +kernel
theorem dX0_insert_28 : decode cX0_insert 28 = .ok (.getfield 9, 3) := by decide +kernel
theorem dX0_insert_31 : decode cX0_insert 31 = .ok (.iload_n 2, 1) := by decide +kernel
theorem dX0_insert_32 : decode cX0_insert 32 = .ok (.iconst 1, 1) := by decide +kernel
theorem dX0_insert_33 : decode cX0_insert 33 = .ok (.isub, 1) := by decide +kernel
theorem dX0_insert_34 : decode cX0_insert 34 = .ok (.iaload, 1) := by decide +kernel
theorem dX0_insert_35 : decode cX0_insert 35 = .ok (.iastore, 1) := by decide +kernel
theorem dX0_insert_36 : decode cX0_insert 36 = .ok (.iinc 2 (-1), 3) := by decide +kernel
theorem dX0_insert_39 : decode cX0_insert 39 = .ok (.goto (-37), 3) := by decide +kernel
theorem dX0_insert_42 : decode cX0_insert 42 = .ok (.aload_n 0, 1) := by decide +kernel
theorem dX0_insert_43 : decode cX0_insert 43 = .ok (.getfield 9, 3) := by decide +kernel
theorem dX0_insert_46 : decode cX0_insert 46 = .ok (.iload_n 2, 1) := by decide +kernel
theorem dX0_insert_47 : decode cX0_insert 47 = .ok (.iload_n 1, 1) := by decide +kernel
theorem dX0_insert_48 : decode cX0_insert 48 = .ok (.iastore, 1) := by decide +kernel
theorem dX0_insert_49 : decode cX0_insert 49 = .ok (.return_, 1) := by decide +kernel
theorem dX0_isBefore_0 : decode cX0_isBefore 0 = .ok (.iconst 0, 1) := by decide +kernel
theorem dX0_isBefore_1 : decode cX0_isBefore 1 = .ok (.istore_n 3, 1) := by decide +kernel
theorem dX0_isBefore_2 : decode cX0_isBefore 2 = .ok (.iload_n 3, 1) := by decide +kernel
theorem dX0_isBefore_3 : decode cX0_isBefore 3 = .ok (.iconst 3, 1) := by decide +kernel
theorem dX0_isBefore_4 : decode cX0_isBefore 4 = .ok (.if_icmp .ge 53, 3) := by decide +kernel
theorem dX0_isBefore_7 : decode cX0_isBefore 7 = .ok (.aload_n 0, 1) := by decide +kernel
theorem dX0_isBefore_8 : decode cX0_isBefore 8 = .ok (.getfield 22, 3) := by decide +kernel
theorem dX0_isBefore_11 : decode cX0_isBefore 11 = .ok (.iload_n 1, 1) := by decide +kernel
theorem dX0_isBefore_12 : decode cX0_isBefore 12 = .ok (.iload_n 3, 1) := by decide +kernel
theorem dX0_isBefore_13 : decode cX0_isBefore 13 = .ok (.invokevirtual 49, 3) := by decide +kernel
theorem dX0_isBefore_16 : decode cX0_isBefore 16 = .ok (.lstore 4, 2) := by decide +kernel
theorem dX0_isBefore_18 : decode cX0_isBefore 18 = .ok (.aload_n 0, 1) := by decide +kernel
theorem dX0_isBefore_19 : decode cX0_isBefore 19 = .ok (.getfield 22, 3) := by decide +kernel
theorem dX0_isBefore_22 : decode cX0_isBefore 22 = .ok (.iload_n 2, 1) := by decide +kernel
theorem dX0_isBefore_23 : decode cX0_isBefore 23 = .ok (.iload_n 3, 1) := by decide +kernel
theorem dX0_isBefore_24 : decode cX0_isBefore 24 = .ok (.invokevirtual 49, 3) := by decide +kernel
theorem dX0_isBefore_27 : decode cX0_isBefore 27 = .ok (.lstore 6, 2) := by decide +kernel
theorem dX0_isBefore_29 : decode cX0_isBefore 29 = .ok (.lload 4, 2) := by decide +kernel
theorem dX0_isBefore_31 : decode cX0_isBefore 31 = .ok (.lload 6, 2) := by decide +kernel
theorem dX0_isBefore_33 : decode cX0_isBefore 33 = .ok (.lcmp, 1) := by decide +kernel
theorem dX0_isBefore_34 : decode cX0_isBefore 34 = .ok (.ifCond .eq 17, 3) := by decide +kernel
theorem dX0_isBefore_37 : decode cX0_isBefore 37 = .ok (.lload 4, 2) := by decide +kernel
theorem dX0_isBefore_39 : decode cX0_isBefore 39 = .ok (.lload 6, 2) := by decide +kernel
theorem dX0_isBefore_41 : decode cX0_isBefore 41 = .ok (.lcmp, 1) := by decide +kernel
theorem dX0_isBefore_42 : decode cX0_isBefore 42 = .ok (.ifCond .ge 7, 3) := by decide +kernel
theorem dX0_isBefore_45 : decode cX0_isBefore 45 = .ok (.iconst 1, 1) := by decide +kernel
theorem dX0_isBefore_46 : decode cX0_isBefore 46 = .ok (.goto 4, 3) := by decide +kernel
theorem dX0_isBefore_49 : decode cX0_isBefore 49 = .ok (.iconst 0, 1) := by decide +kernel
theorem dX0_isBefore_50 : decode cX0_isBefore 50 = .ok (.ireturn, 1) := by decide +kernel
theorem dX0_isBefore_51 : decode cX0_isBefore 51 = .ok (.iinc 3 1, 3) := by decide +kernel
theorem dX0_isBefore_54 : decode cX0_isBefore 54 = .ok (.goto (-52), 3) := by decide +kernel
theorem dX0_isBefore_57 : decode cX0_isBefore 57 = .ok (.iconst 0, 1) := by decide +kernel
theorem dX0_isBefore_58 : decode cX0_isBefore 58 = .ok (.ireturn, 1) := by decide +kernel
theorem dX0_putVariant_0 : decode cX0_putVariant 0 = .ok (.aload_n 0, 1) := by decide +kernel
theorem dX0_putVariant_1 : decode cX0_putVariant 1 = .ok (.aload_n 0, 1) := by decide +kernel
theorem dX0_putVariant_2 : decode cX0_putVariant 2 = .ok (.getfield 22, 3) := by decide +kernel
theorem dX0_putVariant_5 : decode cX0_putVariant 5 = .ok (.iload_n 1, 1) := by decide +kernel
theorem dX0_putVariant_6 : decode cX0_putVariant 6 = .ok (.iconst 0, 1) := by decide +kernel
theorem dX0_putVariant_7 : decode cX0_putVariant 7 = .ok (.invokevirtual 49, 3) := by decide +kernel
theorem dX0_putVariant_10 : decode cX0_putVariant 10 = .ok (.iconst 0, 1) := by decide +kernel
theorem dX0_putVariant_11 : decode cX0_putVariant 11 = .ok (.bipush 47, 2) := by decide +kernel
theorem dX0_putVariant_13 : decode cX0_putVariant 13 = .ok (.invokevirtual 53, 3) := by decide +kernel
theorem dX0_putVariant_16 : decode cX0_putVariant 16 = .ok (.aload_n 0, 1) := by decide +kernel
theorem dX0_putVariant_17 : decode cX0_putVariant 17 = .ok (.bipush 32, 2) := by decide +kernel
theorem dX0_putVariant_19 : decode cX0_putVariant 19 = .ok (.invokevirtual 39, 3) := by decide +kernel
theorem dX0_putVariant_22 : decode cX0_putVariant 22 = .ok (.aload_n 0, 1) := by decide +kernel
theorem dX0_putVariant_23 : decode cX0_putVariant 23 = .ok (.aload_n 0, 1) := by decide +kernel
theorem dX0_putVariant_24 : decode cX0_putVariant 24 = .ok (.getfield 22, 3) := by decide +kernel
theorem dX0_putVariant_27 : decode cX0_putVariant 27 = .ok (.iload_n 1, 1) := by decide +kernel
theorem dX0_putVariant_28 : decode cX0_putVariant 28 = .ok (.iconst 1, 1) := by decide +kernel
theorem dX0_putVariant_29 : decode cX0_putVariant 29 = .ok (.invokevirtual 49, 3) := by decide +kernel
theorem dX0_putVariant_32 : decode cX0_putVariant 32 = .ok (.iconst 1, 1) := by decide +kernel
theorem dX0_putVariant_33 : decode cX0_putVariant 33 = .ok (.bipush 45, 2) := by decide +kernel
theorem dX0_putVariant_35 : decode cX0_putVariant 35 = .ok (.invokevirtual 53, 3) := by decide +kernel
theorem dX0_putVariant_38 : decode cX0_putVariant 38 = .ok (.aload_n 0, 1) := by decide +kernel
theorem dX0_putVariant_39 : decode cX0_putVariant 39 = .ok (.bipush 32, 2) := by decide +kernel
theorem dX0_putVariant_41 : decode cX0_putVariant 41 = .ok (.invokevirtual 39, 3) := by decide +kernel
theorem dX0_putVariant_44 : decode cX0_putVariant 44 = .ok (.aload_n 0, 1) := by decide +kernel
theorem dX0_putVariant_45 : decode cX0_putVariant 45 = .ok (.aload_n 0, 1) := by decide +kernel
theorem dX0_putVariant_46 : decode cX0_putVariant 46 = .ok (.getfield 22, 3) := by decide +kernel
theorem dX0_putVariant_49 : decode cX0_putVariant 49 = .ok (.iload_n 1, 1) := by decide +kernel
theorem dX0_putVariant_50 : decode cX0_putVariant 50 = .ok (.iconst 2, 1) := by decide +kernel
theorem dX0_putVariant_51 : decode cX0_putVariant 51 = .ok (.invokevirtual 49, 3) := by decide +kernel
theorem dX0_putVariant_54 : decode cX0_putVariant 54 = .ok (.iconst 2, 1) := by decide +kernel
theorem dX0_putVariant_55 : decode cX0_putVariant 55 = .ok (.bipush 32, 2) := by decide +kernel
theorem dX0_putVariant_57 : decode cX0_putVariant 57 = .ok (.invokevirtual 53, 3) := by decide +kernel
theorem dX0_putVariant_60 : decode cX0_putVariant 60 = .ok (.aload_n 0, 1) := by decide +kernel
theorem dX0_putVariant_61 : decode cX0_putVariant 61 = .ok (.bipush 32, 2) := by decide +kernel
theorem dX0_putVariant_63 : decode cX0_putVariant 63 = .ok (.invokevirtual 39, 3) := by decide +kernel
theorem dX0_putVariant_66 : decode cX0_putVariant 66 = .ok (.aload_n 0, 1) := by decide +kernel
theorem dX0_putVariant_67 : decode cX0_putVariant 67 = .ok (.aload_n 0, 1) := by decide +kernel
theorem dX0_putVariant_68 : decode cX0_putVariant 68 = .ok (.getfield 22, 3) := by decide +kernel
theorem dX0_putVariant_71 : decode cX0_putVariant 71 = .ok (.getfield 57, 3) := by decide +kernel
theorem dX0_putVariant_74 : decode cX0_putVariant 74 = .ok (.iload_n 1, 1) := by decide +kernel
theorem dX0_putVariant_75 : decode cX0_putVariant 75 = .ok (.iaload, 1) := by decide +kernel
theorem dX0_putVariant_76 : decode cX0_putVariant 76 = .ok (.invokevirtual 60, 3) := by decide +kernel
theorem dX0_putVariant_79 : decode cX0_putVariant 79 = .ok (.return_, 1) := by decide +kernel
theorem dX0_putNames_0 : decode cX0_putNames 0 = .ok (.getstatic 63, 3) := by decide +kernel
theorem dX0_putNames_3 : decode cX0_putNames 3 = .ok (.iload_n 3, 1) := by decide +kernel
theorem dX0_putNames_4 : decode cX0_putNames 4 = .ok (.iaload, 1) := by decide +kernel
theorem dX0_putNames_5 : decode cX0_putNames 5 = .ok (.iconst 1, 1) := by decide +kernel
theorem dX0_putNames_6 : decode cX0_putNames 6 = .ok (.isub, 1) := by decide +kernel
theorem dX0_putNames_7 : decode cX0_putNames 7 = .ok (.istore 5, 2) := by decide +kernel
theorem dX0_putNames_9 : decode cX0_putNames 9 = .ok (.iconst 0, 1) := by decide +kernel
theorem dX0_putNames_10 : decode cX0_putNames 10 = .ok (.istore 6, 2) := by decide +kernel
theorem dX0_putNames_12 : decode cX0_putNames 12 = .ok (.iload 6, 2) := by decide +kernel
theorem dX0_putNames_14 : decode cX0_putNames 14 = .ok (.iload 5, 2) := by decide +kernel
theorem dX0_putNames_16 : decode cX0_putNames 16 = .ok (.if_icmp .gt 48, 3) := by decide +kernel
theorem dX0_putNames_19 : decode cX0_putNames 19 = .ok (.lload_n 1, 1) := by decide +kernel
theorem dX0_putNames_20 : decode cX0_putNames 20 = .ok (.bipush 20, 2) := by decide +kernel
theorem dX0_putNames_22 : decode cX0_putNames 22 = .ok (.iload 5, 2) := by decide +kernel
theorem dX0_putNames_24 : decode cX0_putNames 24 = .ok (.iload 6, 2) := by decide +kernel
theorem dX0_putNames_26 : decode cX0_putNames 26 = .ok (.isub, 1) := by decide +kernel
theorem dX0_putNames_27 : decode cX0_putNames 27 = .ok (.imul, 1) := by decide +kernel
theorem dX0_putNames_28 : decode cX0_putNames 28 = .ok (.lushr, 1) := by decide +kernel
theorem dX0_putNames_29 : decode cX0_putNames 29 = .ok (.ldc2_w 66, 3) := by decide +kernel
theorem dX0_putNames_32 : decode cX0_putNames 32 = .ok (.land, 1) := by decide +kernel
theorem dX0_putNames_33 : decode cX0_putNames 33 = .ok (.l2i, 1) := by decide +kernel
theorem dX0_putNames_34 : decode cX0_putNames 34 = .ok (.istore 7, 2) := by decide +kernel
theorem dX0_putNames_36 : decode cX0_putNames 36 = .ok (.iload 6, 2) := by decide +kernel
theorem dX0_putNames_38 : decode cX0_putNames 38 = .ok (.ifCond .le 14, 3) := by decide +kernel
theorem dX0_putNames_41 : decode cX0_putNames 41 = .ok (.iload 7, 2) := by decide +kernel
theorem dX0_putNames_43 : decode cX0_putNames 43 = .ok (.ifCond .eq 9, 3) := by decide +kernel
theorem dX0_putNames_46 : decode cX0_putNames 46 = .ok (.aload_n 0, 1) := by decide +kernel
theorem dX0_putNames_47 : decode cX0_putNames 47 = .ok (.iload 4, 2) := by decide +kernel
theorem dX0_putNames_49 : decode cX0_putNames 49 = .ok (.invokevirtual 39, 3) := by decide +kernel
theorem dX0_putNames_52 : decode cX0_putNames 52 = .ok (.aload_n 0, 1) := by decide +kernel
theorem dX0_putNames_53 : decode cX0_putNames 53 = .ok (.iload 7, 2) := by decide +kernel
theorem dX0_putNames_55 : decode cX0_putNames 55 = .ok (.invokevirtual 68, 3) := by decide +kernel
theorem dX0_putNames_58 : decode cX0_putNames 58 = .ok (.iinc 6 1, 3) := by decide +kernel
theorem dX0_putNames_61 : decode cX0_putNames 61 = .ok (.goto (-49), 3) := by decide +kernel
theorem dX0_putNames_64 : decode cX0_putNames 64 = .ok (.return_, 1) := by decide +kernel
theorem dX0_putName_0 : decode cX0_putName 0 = .ok (.iconst 3, 1) := by decide +kernel
theorem dX0_putName_1 : decode cX0_putName 1 = .ok (.istore_n 2, 1) := by decide +kernel
theorem dX0_putName_2 : decode cX0_putName 2 = .ok (.iload_n 2, 1) := by decide +kernel
theorem dX0_putName_3 : decode cX0_putName 3 = .ok (.ifCond .lt 32, 3) := by decide +kernel
theorem dX0_putName_6 : decode cX0_putName 6 = .ok (.iload_n 1, 1) := by decide +kernel
theorem dX0_putName_7 : decode cX0_putName 7 = .ok (.iconst 5, 1) := by decide +kernel
theorem dX0_putName_8 : decode cX0_putName 8 = .ok (.iload_n 2, 1) := by decide +kernel
theorem dX0_putName_9 : decode cX0_putName 9 = .ok (.imul, 1) := by decide +kernel
theorem dX0_putName_10 : decode cX0_putName 10 = .ok (.iushr, 1) := by decide +kernel
theorem dX0_putName_11 : decode cX0_putName 11 = .ok (.bipush 31, 2) := by decide +kernel
theorem dX0_putName_13 : decode cX0_putName 13 = .ok (.iand, 1) := by decide +kernel
theorem dX0_putName_14 : decode cX0_putName 14 = .ok (.istore_n 3, 1) := by decide +kernel
theorem dX0_putName_15 : decode cX0_putName 15 = .ok (.iload_n 3, 1) := by decide +kernel
theorem dX0_putName_16 : decode cX0_putName 16 = .ok (.ifCond .eq 13, 3) := by decide +kernel
theorem dX0_putName_19 : decode cX0_putName 19 = .ok (.aload_n 0, 1) := by decide +kernel
theorem dX0_putName_20 : decode cX0_putName 20 = .ok (.bipush 97, 2) := by decide +kernel
theorem dX0_putName_22 : decode cX0_putName 22 = .ok (.iload_n 3, 1) := by decide +kernel
theorem dX0_putName_23 : decode cX0_putName 23 = .ok (.iadd, 1) := by decide +kernel
theorem dX0_putName_24 : decode cX0_putName 24 = .ok (.iconst 1, 1) := by decide +kernel
theorem dX0_putName_25 : decode cX0_putName 25 = .ok (.isub, 1) := by decide +kernel
theorem dX0_putName_26 : decode cX0_putName 26 = .ok (.invokevirtual 39, 3) := by decide +kernel
theorem dX0_putName_29 : decode cX0_putName 29 = .ok (.iinc 2 (-1), 3) := by decide +kernel
theorem dX0_putName_32 : decode cX0_putName 32 = .ok (.goto (-30), 3) := by decide +kernel
theorem dX0_putName_35 : decode cX0_putName 35 = .ok (.return_, 1) := by decide +kernel
theorem dX0_putNumber_0 : decode cX0_putNumber 0 = .ok (.iconst 0, 1) := by decide +kernel
theorem dX0_putNumber_1 : decode cX0_putNumber 1 = .ok (.istore_n 2, 1) := by decide +kernel
theorem dX0_putNumber_2 : decode cX0_putNumber 2 = .ok (.ldc 71, 2) := by decide +kernel
theorem dX0_putNumber_4 : decode cX0_putNumber 4 = .ok (.istore_n 3, 1) := by decide +kernel
theorem dX0_putNumber_5 : decode cX0_putNumber 5 = .ok (.iload_n 3, 1) := by decide +kernel
theorem dX0_putNumber_6 : decode cX0_putNumber 6 = .ok (.ifCond .le 52, 3) := by decide +kernel
theorem dX0_putNumber_9 : decode cX0_putNumber 9 = .ok (.iload_n 1, 1) := by decide +kernel
theorem dX0_putNumber_10 : decode cX0_putNumber 10 = .ok (.iload_n 3, 1) := by decide +kernel
theorem dX0_putNumber_11 : decode cX0_putNumber 11 = .ok (.idiv, 1) := by decide +kernel
theorem dX0_putNumber_12 : decode cX0_putNumber 12 = .ok (.bipush 10, 2) := by decide +kernel
theorem dX0_putNumber_14 : decode cX0_putNumber 14 = .ok (.irem, 1) := by decide +kernel
theorem dX0_putNumber_15 : decode cX0_putNumber 15 = .ok (.istore 4, 2) := by decide +kernel
theorem dX0_putNumber_17 : decode cX0_putNumber 17 = .ok (.iload_n 2, 1) := by decide +kernel
theorem dX0_putNumber_18 : decode cX0_putNumber 18 = .ok (.ifCond .ne 13, 3) := by decide +kernel
theorem dX0_putNumber_21 : decode cX0_putNumber 21 = .ok (.iload 4, 2) := by decide +kernel
theorem dX0_putNumber_23 : decode cX0_putNumber 23 = .ok (.ifCond .ne 8, 3) := by decide +kernel
theorem dX0_putNumber_26 : decode cX0_putNumber 26 = .ok (.iload_n 3, 1) := by decide +kernel
theorem dX0_putNumber_27 : decode cX0_putNumber 27 = .ok (.iconst 1, 1) := by decide +kernel
theorem dX0_putNumber_28 : decode cX0_putNumber 28 = .ok (.if_icmp .ne 7, 3) := by decide +kernel
theorem dX0_putNumber_31 : decode cX0_putNumber 31 = .ok (.iconst 1, 1) := by decide +kernel
theorem dX0_putNumber_32 : decode cX0_putNumber 32 = .ok (.goto 4, 3) := by decide +kernel
theorem dX0_putNumber_35 : decode cX0_putNumber 35 = .ok (.iconst 0, 1) := by decide +kernel
theorem dX0_putNumber_36 : decode cX0_putNumber 36 = .ok (.istore_n 2, 1) := by decide +kernel
theorem dX0_putNumber_37 : decode cX0_putNumber 37 = .ok (.iload_n 2, 1) := by decide +kernel
theorem dX0_putNumber_38 : decode cX0_putNumber 38 = .ok (.ifCond .eq 12, 3) := by decide +kernel
theorem dX0_putNumber_41 : decode cX0_putNumber 41 = .ok (.aload_n 0, 1) := by decide +kernel
theorem dX0_putNumber_42 : decode cX0_putNumber 42 = .ok (.bipush 48, 2) := by decide +kernel
theorem dX0_putNumber_44 : decode cX0_putNumber 44 = .ok (.iload 4, 2) := by decide +kernel
theorem dX0_putNumber_46 : decode cX0_putNumber 46 = .ok (.iadd, 1) := by decide +kernel
theorem dX0_putNumber_47 : decode cX0_putNumber 47 = .ok (.invokevirtual 39, 3) := by decide +kernel
theorem dX0_putNumber_50 : decode cX0_putNumber 50 = .ok (.iload_n 3, 1) := by decide +kernel
theorem dX0_putNumber_51 : decode cX0_putNumber 51 = .ok (.bipush 10, 2) := by decide +kernel
theorem dX0_putNumber_53 : decode cX0_putNumber 53 = .ok (.idiv, 1) := by decide +kernel
theorem dX0_putNumber_54 : decode cX0_putNumber 54 = .ok (.istore_n 3, 1) := by decide +kernel
theorem dX0_putNumber_55 : decode cX0_putNumber 55 = .ok (.goto (-50), 3) := by decide +kernel
theorem dX0_putNumber_58 : decode cX0_putNumber 58 = .ok (.return_, 1) := by decide +kernel
theorem dX0_put_0 : decode cX0_put 0 = .ok (.aload_n 0, 1) := by decide +kernel
theorem dX0_put_1 : decode cX0_put 1 = .ok (.getfield 36, 3) := by decide +kernel
theorem dX0_put_4 : decode cX0_put 4 = .ok (.sipush 608, 3) := by decide +kernel
theorem dX0_put_7 : decode cX0_put 7 = .ok (.if_icmp .ge 24, 3) := by decide +kernel
theorem dX0_put_10 : decode cX0_put 10 = .ok (.aload_n 0, 1) := by decide +kernel
theorem dX0_put_11 : decode cX0_put 11 = .ok (.getfield 18, 3) := by decide +kernel
theorem dX0_put_14 : decode cX0_put 14 = .ok (.aload_n 0, 1) := by decide +kernel
theorem dX0_put_15 : decode cX0_put 15 = .ok (.getfield 36, 3) := by decide +kernel
theorem dX0_put_18 : decode cX0_put 18 = .ok (.iload_n 1, 1) := by decide +kernel
theorem dX0_put_19 : decode cX0_put 19 = .ok (.i2b, 1) := by decide +kernel
theorem dX0_put_20 : decode cX0_put 20 = .ok (.bastore, 1) := by decide +kernel
theorem dX0_put_21 : decode cX0_put 21 = .ok (.aload_n 0, 1) := by decide +kernel
theorem dX0_put_22 : decode cX0_put 22 = .ok (.dup, 1) := by decide +kernel
theorem dX0_put_23 : decode cX0_put 23 = .ok (.getfield 36, 3) := by decide +kernel
theorem dX0_put_26 : decode cX0_put 26 = .ok (.iconst 1, 1) := by decide +kernel
theorem dX0_put_27 : decode cX0_put 27 = .ok (.iadd, 1) := by decide +kernel
theorem dX0_put_28 : decode cX0_put 28 = .ok (.putfield 36, 3) := by decide +kernel
theorem dX0_put_31 : decode cX0_put 31 = .ok (.return_, 1) := by decide +kernel
theorem dX1_init_0 : decode cX1_init 0 = .ok (.aload_n 0, 1) := by decide +kernel
theorem dX1_init_1 : decode cX1_init 1 = .ok (.invokespecial 3, 3) := by decide +kernel
theorem dX1_init_4 : decode cX1_init 4 = .ok (.aload_n 0, 1) := by decide +kernel
theorem dX1_init_5 : decode cX1_init 5 = .ok (.bipush 10, 2) := by decide +kernel
theorem dX1_init_7 : decode cX1_init 7 = .ok (.newarray .long, 2) := by decide +kernel
theorem dX1_init_9 : decode cX1_init 9 = .ok (.putfield 9, 3) := by decide +kernel
theorem dX1_init_12 : decode cX1_init 12 = .ok (.aload_n 0, 1) := by decide +kernel
theorem dX1_init_13 : decode cX1_init 13 = .ok (.bipush 10, 2) := by decide +kernel
theorem dX1_init_15 : decode cX1_init 15 = .ok (.newarray .int, 2) := by decide +kernel
theorem dX1_init_17 : decode cX1_init 17 = .ok (.putfield 15, 3) := by decide +kernel
theorem dX1_init_20 : decode cX1_init 20 = .ok (.aload_n 0, 1) := by decide +kernel
theorem dX1_init_21 : decode cX1_init 21 = .ok (.bipush 10, 2) := by decide +kernel
theorem dX1_init_23 : decode cX1_init 23 = .ok (.newarray .int, 2) := by decide +kernel
theorem dX1_init_25 : decode cX1_init 25 = .ok (.putfield 19, 3) := by decide +kernel
theorem dX1_init_28 : decode cX1_init 28 = .ok (.aload_n 0, 1) := by decide +kernel
theorem dX1_init_29 : decode cX1_init 29 = .ok (.iconst 3, 1) := by decide +kernel
theorem dX1_init_30 : decode cX1_init 30 = .ok (.newarray .long, 2) := by decide +kernel
theorem dX1_init_32 : decode cX1_init 32 = .ok (.putfield 22, 3) := by decide +kernel
theorem dX1_init_35 : decode cX1_init 35 = .ok (.aload_n 0, 1) := by decide +kernel
theorem dX1_init_36 : decode cX1_init 36 = .ok (.aload_n 1, 1) := by decide +kernel
theorem dX1_init_37 : decode cX1_init 37 = .ok (.putfield 25, 3) := by decide +kernel
theorem dX1_init_40 : decode cX1_init 40 = .ok (.return_, 1) := by decide +kernel
theorem dX1_readList_0 : decode cX1_readList 0 = .ok (.aload_n 0, 1) := by decide +kernel
theorem dX1_readList_1 : decode cX1_readList 1 = .ok (.iconst 0, 1) := by decide +kernel
theorem dX1_readList_2 : decode cX1_readList 2 = .ok (.putfield 29, 3) := by decide +kernel
theorem dX1_readList_5 : decode cX1_readList 5 = .ok (.aload_n 0, 1) := by decide +kernel
theorem dX1_readList_6 : decode cX1_readList 6 = .ok (.iconst 0, 1) := by decide +kernel
theorem dX1_readList_7 : decode cX1_readList 7 = .ok (.putfield 33, 3) := by decide +kernel
theorem dX1_readList_10 : decode cX1_readList 10 = .ok (.aload_n 0, 1) := by decide +kernel
theorem dX1_readList_11 : decode cX1_readList 11 = .ok (.invokevirtual 36, 3) := by decide +kernel
theorem dX1_readList_14 : decode cX1_readList 14 = .ok (.aload_n 0, 1) := by decide +kernel
theorem dX1_readList_15 : decode cX1_readList 15 = .ok (.invokevirtual 39, 3) := by decide +kernel
theorem dX1_readList_18 : decode cX1_readList 18 = .ok (.ifCond .eq 5, 3) := by decide +kernel
theorem dX1_readList_21 : decode cX1_readList 21 = .ok (.iconst (-1), 1) := by decide +kernel
theorem dX1_readList_22 : decode cX1_readList 22 = .ok (.ireturn, 1) := by decide +kernel
theorem dX1_readList_23 : decode cX1_readList 23 = .ok (.iconst 0, 1) := by decide +kernel
theorem dX1_readList_24 : decode cX1_readList 24 = .ok (.istore_n 2, 1) := by decide +kernel
theorem dX1_readList_25 : decode cX1_readList 25 = .ok (.iload_n 2, 1) := by decide +kernel
theorem dX1_readList_26 : decode cX1_readList 26 = .ok (.bipush 10, 2) := by decide +kernel
theorem dX1_readList_28 : decode cX1_readList 28 = .ok (.if_icmp .ge 67, 3) := by decide +kernel
theorem dX1_readList_31 : decode cX1_readList 31 = .ok (.aload_n 0, 1) := by decide +kernel
theorem dX1_readList_32 : decode cX1_readList 32 = .ok (.iload_n 1, 1) := by decide +kernel
theorem dX1_readList_33 : decode cX1_readList 33 = .ok (.iconst 1, 1) := by decide +kernel
theorem dX1_readList_34 : decode cX1_readList 34 = .ok (.invokevirtual 43, 3) := by decide +kernel
theorem dX1_readList_37 : decode cX1_readList 37 = .ok (.ifCond .ne 8, 3) := by decide +kernel
theorem dX1_readList_40 : decode cX1_readList 40 = .ok (.aload_n 0, 1) := by decide +kernel
theorem dX1_readList_41 : decode cX1_readList 41 = .ok (.getfield 29, 3) := by decide +kernel
theorem dX1_readList_44 : decode cX1_readList 44 = .ok (.ireturn, 1) := by decide +kernel
theorem dX1_readList_45 : decode cX1_readList 45 = .ok (.aload_n 0, 1) := by decide +kernel
theorem dX1_readList_46 : decode cX1_readList 46 = .ok (.invokevirtual 47, 3) := by decide +kernel
theorem dX1_readList_49 : decode cX1_readList 49 = .ok (.istore_n 3, 1) := by decide +kernel
theorem dX1_readList_50 : decode cX1_readList 50 = .ok (.iload_n 3, 1) := by decide +kernel
theorem dX1_readList_51 : decode cX1_readList 51 = .ok (.iconst (-1), 1) := by decide +kernel
theorem dX1_readList_52 : decode cX1_readList 52 = .ok (.if_icmp .eq 5, 3) := by decide +kernel
theorem dX1_readList_55 : decode cX1_readList 55 = .ok (.iload_n 3, 1) := by decide +kernel
theorem dX1_readList_56 : decode cX1_readList 56 = .ok (.ireturn, 1) := by decide +kernel
theorem dX1_readList_57 : decode cX1_readList 57 = .ok (.aload_n 0, 1) := by decide +kernel
theorem dX1_readList_58 : decode cX1_readList 58 = .ok (.iload_n 2, 1) := by decide +kernel
theorem dX1_readList_59 : decode cX1_readList 59 = .ok (.invokevirtual 51, 3) := by decide +kernel
theorem dX1_readList_62 : decode cX1_readList 62 = .ok (.aload_n 0, 1) := by decide +kernel
theorem dX1_readList_63 : decode cX1_readList 63 = .ok (.invokevirtual 39, 3) := by decide +kernel
theorem dX1_readList_66 : decode cX1_readList 66 = .ok (.ifCond .eq 5, 3) := by decide +kernel
theorem dX1_readList_69 : decode cX1_readList 69 = .ok (.iconst (-1), 1) := by decide +kernel
theorem dX1_readList_70 : decode cX1_readList 70 = .ok (.ireturn, 1) := by decide +kernel
theorem dX1_readList_71 : decode cX1_readList 71 = .ok (.aload_n 0, 1) := by decide +kernel
theorem dX1_readList_72 : decode cX1_readList 72 = .ok (.bipush 44, 2) := by decide +kernel
theorem dX1_readList_74 : decode cX1_readList 74 = .ok (.invokevirtual 55, 3) := by decide +kernel
theorem dX1_readList_77 : decode cX1_readList 77 = .ok (.ifCond .ne 8, 3) := by decide +kernel
theorem dX1_readList_80 : decode cX1_readList 80 = .ok (.aload_n 0, 1) := by decide +kernel
theorem dX1_readList_81 : decode cX1_readList 81 = .ok (.getfield 29, 3) := by decide +kernel
theorem dX1_readList_84 : decode cX1_readList 84 = .ok (.ireturn, 1) := by decide +kernel
theorem dX1_readList_85 : decode cX1_readList 85 = .ok (.aload_n 0, 1) := by decide +kernel
theorem dX1_readList_86 : decode cX1_readList 86 = .ok (.invokevirtual 36, 3) := by decide +kernel
theorem dX1_readList_89 : decode cX1_readList 89 = .ok (.iinc 2 1, 3) := by decide +kernel
theorem dX1_readList_92 : decode cX1_readList 92 = .ok (.goto (-67), 3) := by decide +kernel
theorem dX1_readList_95 : decode cX1_readList 95 = .ok (.aload_n 0, 1) := by decide +kernel
theorem dX1_readList_96 : decode cX1_readList 96 = .ok (.getfield 29, 3) := by decide +kernel
theorem dX1_readList_99 : decode cX1_readList 99 = .ok (.ireturn, 1) := by decide +kernel
theorem dX1_readVariant_0 : decode cX1_readVariant 0 = .ok (.aload_n 0, 1) := by decide +kernel
theorem dX1_readVariant_1 : decode cX1_readVariant 1 = .ok (.iconst 0, 1) := by decide +kernel
theorem dX1_readVariant_2 : decode cX1_readVariant 2 = .ok (.putfield 29, 3) := by decide +kernel
theorem dX1_readVariant_5 : decode cX1_readVariant 5 = .ok (.aload_n 0, 1) := by decide +kernel
theorem dX1_readVariant_6 : decode cX1_readVariant 6 = .ok (.invokevirtual 36, 3) := by decide +kernel
theorem dX1_readVariant_9 : decode cX1_readVariant 9 = .ok (.iconst 0, 1) := by decide +kernel
theorem dX1_readVariant_10 : decode cX1_readVariant 10 = .ok (.istore_n 1, 1) := by decide +kernel
theorem dX1_readVariant_11 : decode cX1_readVariant 11 = .ok (.iload_n 1, 1) := by decide +kernel
theorem dX1_readVariant_12 : decode cX1_readVariant 12 = .ok (.iconst 3, 1) := by decide +kernel
theorem dX1_readVariant_13 : decode cX1_readVariant 13 = .ok (.if_icmp .ge 51, 3) := by decide +kernel
theorem dX1_readVariant_16 : decode cX1_readVariant 16 = .ok (.aload_n 0, 1) := by decide +kernel
theorem dX1_readVariant_17 : decode cX1_readVariant 17 = .ok (.iload_n 1, 1) := by decide +kernel
theorem dX1_readVariant_18 : decode cX1_readVariant 18 = .ok (.iconst 0, 1) := by decide +kernel
theorem dX1_readVariant_19 : decode cX1_readVariant 19 = .ok (.invokevirtual 43, 3) := by decide +kernel
theorem dX1_readVariant_22 : decode cX1_readVariant 22 = .ok (.ifCond .ne 8, 3) := by decide +kernel
theorem dX1_readVariant_25 : decode cX1_readVariant 25 = .ok (.aload_n 0, 1) := by decide +kernel
theorem dX1_readVariant_26 : decode cX1_readVariant 26 = .ok (.getfield 29, 3) := by decide +kernel
theorem dX1_readVariant_29 : decode cX1_readVariant 29 = .ok (.ireturn, 1) := by decide +kernel
theorem dX1_readVariant_30 : decode cX1_readVariant 30 = .ok (.aload_n 0, 1) := by decide +kernel
theorem dX1_readVariant_31 : decode cX1_readVariant 31 = .ok (.getfield 22, 3) := by decide +kernel
theorem dX1_readVariant_34 : decode cX1_readVariant 34 = .ok (.iload_n 1, 1) := by decide +kernel
theorem dX1_readVariant_35 : decode cX1_readVariant 35 = .ok (.aload_n 0, 1) := by decide +kernel
theorem dX1_readVariant_36 : decode cX1_readVariant 36 = .ok (.getfield 59, 3) := by decide +kernel
theorem dX1_readVariant_39 : decode cX1_readVariant 39 = .ok (.lastore, 1) := by decide +kernel
theorem dX1_readVariant_40 : decode cX1_readVariant 40 = .ok (.aload_n 0, 1) := by decide +kernel
theorem dX1_readVariant_41 : decode cX1_readVariant 41 = .ok (.invokevirtual 63, 3) := by decide +kernel
theorem dX1_readVariant_44 : decode cX1_readVariant 44 = .ok (.bipush 32, 2) := by decide +kernel
theorem dX1_readVariant_46 : decode cX1_readVariant 46 = .ok (.if_icmp .eq 8, 3) := by decide +kernel
theorem dX1_readVariant_49 : decode cX1_readVariant 49 = .ok (.aload_n 0, 1) := by decide +kernel
theorem dX1_readVariant_50 : decode cX1_readVariant 50 = .ok (.getfield 29, 3) := by decide +kernel
theorem dX1_readVariant_53 : decode cX1_readVariant 53 = .ok (.ireturn, 1) := by decide +kernel
theorem dX1_readVariant_54 : decode cX1_readVariant 54 = .ok (.aload_n 0, 1) := by decide +kernel
theorem dX1_readVariant_55 : decode cX1_readVariant 55 = .ok (.invokevirtual 36, 3) := by decide +kernel
theorem dX1_readVariant_58 : decode cX1_readVariant 58 = .ok (.iinc 1 1, 3) := by decide +kernel
theorem dX1_readVariant_61 : decode cX1_readVariant 61 = .ok (.goto (-50), 3) := by decide +kernel
theorem dX1_readVariant_64 : decode cX1_readVariant 64 = .ok (.aload_n 0, 1) := by decide +kernel
theorem dX1_readVariant_65 : decode cX1_readVariant 65 = .ok (.bipush 6, 2) := by decide +kernel
theorem dX1_readVariant_67 : decode cX1_readVariant 67 = .ok (.invokevirtual 66, 3) := by decide +kernel
theorem dX1_readVariant_70 : decode cX1_readVariant 70 = .ok (.ifCond .ne 8, 3) := by decide +kernel
theorem dX1_readVariant_73 : decode cX1_readVariant 73 = .ok (.aload_n 0, 1) := by decide +kernel
theorem dX1_readVariant_74 : decode cX1_readVariant 74 = .ok (.getfield 29, 3) := by decide +kernel
theorem dX1_readVariant_77 : decode cX1_readVariant 77 = .ok (.ireturn, 1) := by decide +kernel
theorem dX1_readVariant_78 : decode cX1_readVariant 78 = .ok (.aload_n 0, 1) := by decide +kernel
theorem dX1_readVariant_79 : decode cX1_readVariant 79 = .ok (.aload_n 0, 1) := by decide +kernel
theorem dX1_readVariant_80 : decode cX1_readVariant 80 = .ok (.getfield 69, 3) := by decide +kernel
theorem dX1_readVariant_83 : decode cX1_readVariant 83 = .ok (.putfield 72, 3) := by decide +kernel
theorem dX1_readVariant_86 : decode cX1_readVariant 86 = .ok (.aload_n 0, 1) := by decide +kernel
theorem dX1_readVariant_87 : decode cX1_readVariant 87 = .ok (.invokevirtual 36, 3) := by decide +kernel
theorem dX1_readVariant_90 : decode cX1_readVariant 90 = .ok (.aload_n 0, 1) := by decide +kernel
theorem dX1_readVariant_91 : decode cX1_readVariant 91 = .ok (.invokevirtual 39, 3) := by decide +kernel
theorem dX1_readVariant_94 : decode cX1_readVariant 94 = .ok (.ifCond .eq 7, 3) := by decide +kernel
theorem dX1_readVariant_97 : decode cX1_readVariant 97 = .ok (.iconst (-1), 1) := by decide +kernel
theorem dX1_readVariant_98 : decode cX1_readVariant 98 = .ok (.goto 7, 3) := by decide +kernel
theorem dX1_readVariant_101 : decode cX1_readVariant 101 = .ok (.aload_n 0, 1) := by decide +kernel
theorem dX1_readVariant_102 : decode cX1_readVariant 102 = .ok (.getfield 29, 3) := by decide +kernel
theorem dX1_readVariant_105 : decode cX1_readVariant 105 = .ok (.ireturn, 1) := by decide +kernel
theorem dX1_keepEntry_0 : decode cX1_keepEntry 0 = .ok (.aload_n 0, 1) := by decide +kernel
theorem dX1_keepEntry_1 : decode cX1_keepEntry 1 = .ok (.getfield 9, 3) := by decide +kernel
theorem dX1_keepEntry_4 : decode cX1_keepEntry 4 = .ok (.iload_n 1, 1) := by decide +kernel
theorem dX1_keepEntry_5 : decode cX1_keepEntry 5 = .ok (.aload_n 0, 1) := by decide +kernel
theorem dX1_keepEntry_6 : decode cX1_keepEntry 6 = .ok (.getfield 59, 3) := by decide +kernel
theorem dX1_keepEntry_9 : decode cX1_keepEntry 9 = .ok (.lastore, 1) := by decide +kernel
theorem dX1_keepEntry_10 : decode cX1_keepEntry 10 = .ok (.aload_n 0, 1) := by decide +kernel
theorem dX1_keepEntry_11 : decode cX1_keepEntry 11 = .ok (.getfield 15, 3) := by decide +kernel
theorem dX1_keepEntry_14 : decode cX1_keepEntry 14 = .ok (.iload_n 1, 1) := by decide +kernel
theorem dX1_keepEntry_15 : decode cX1_keepEntry 15 = .ok (.aload_n 0, 1) := by decide +kernel
theorem dX1_keepEntry_16 : decode cX1_keepEntry 16 = .ok (.getfield 75, 3) := by decide +kernel
theorem dX1_keepEntry_19 : decode cX1_keepEntry 19 = .ok (.iastore, 1) := by decide +kernel
theorem dX1_keepEntry_20 : decode cX1_keepEntry 20 = .ok (.aload_n 0, 1) := by decide +kernel
theorem dX1_keepEntry_21 : decode cX1_keepEntry 21 = .ok (.getfield 19, 3) := by decide +kernel
theorem dX1_keepEntry_24 : decode cX1_keepEntry 24 = .ok (.iload_n 1, 1) := by decide +kernel
theorem dX1_keepEntry_25 : decode cX1_keepEntry 25 = .ok (.aload_n 0, 1) := by decide +kernel
theorem dX1_keepEntry_26 : decode cX1_keepEntry 26 = .ok (.getfield 69, 3) := by decide +kernel
theorem dX1_keepEntry_29 : decode cX1_keepEntry 29 = .ok (.iastore, 1) := by decide +kernel
theorem dX1_keepEntry_30 : decode cX1_keepEntry 30 = .ok (.aload_n 0, 1) := by decide +kernel
theorem dX1_keepEntry_31 : decode cX1_keepEntry 31 = .ok (.iload_n 1, 1) := by decide +kernel
theorem dX1_keepEntry_32 : decode cX1_keepEntry 32 = .ok (.iconst 1, 1) := by decide +kernel
theorem dX1_keepEntry_33 : decode cX1_keepEntry 33 = .ok (.iadd, 1) := by decide +kernel
theorem dX1_keepEntry_34 : decode cX1_keepEntry 34 = .ok (.putfield 33, 3) := by decide +kernel
theorem dX1_keepEntry_37 : decode cX1_keepEntry 37 = .ok (.return_, 1) := by decide +kernel
theorem dX1_readWeight_0 : decode cX1_readWeight 0 = .ok (.aload_n 0, 1) := by decide +kernel
theorem dX1_readWeight_1 : decode cX1_readWeight 1 = .ok (.sipush 1000, 3) := by decide +kernel
theorem dX1_readWeight_4 : decode cX1_readWeight 4 = .ok (.putfield 69, 3) := by decide +kernel
theorem dX1_readWeight_7 : decode cX1_readWeight 7 = .ok (.aload_n 0, 1) := by decide +kernel
theorem dX1_readWeight_8 : decode cX1_readWeight 8 = .ok (.invokevirtual 36, 3) := by decide +kernel
theorem dX1_readWeight_11 : decode cX1_readWeight 11 = .ok (.aload_n 0, 1) := by decide +kernel
theorem dX1_readWeight_12 : decode cX1_readWeight 12 = .ok (.bipush 59, 2) := by decide +kernel
theorem dX1_readWeight_14 : decode cX1_readWeight 14 = .ok (.invokevirtual 55, 3) := by decide +kernel
theorem dX1_readWeight_17 : decode cX1_readWeight 17 = .ok (.ifCond .ne 5, 3) := by decide +kernel
theorem dX1_readWeight_20 : decode cX1_readWeight 20 = .ok (.iconst (-1), 1) := by decide +kernel
theorem dX1_readWeight_21 : decode cX1_readWeight 21 = .ok (.ireturn, 1) := by decide +kernel
theorem dX1_readWeight_22 : decode cX1_readWeight 22 = .ok (.aload_n 0, 1) := by decide +kernel
theorem dX1_readWeight_23 : decode cX1_readWeight 23 = .ok (.invokevirtual 36, 3) := by decide +kernel
theorem dX1_readWeight_26 : decode cX1_readWeight 26 = .ok (.aload_n 0, 1) := by decide +kernel
theorem dX1_readWeight_27 : decode cX1_readWeight 27 = .ok (.getfield 29, 3) := by decide +kernel
theorem dX1_readWeight_30 : decode cX1_readWeight 30 = .ok (.istore_n 1, 1) := by decide +kernel
theorem dX1_readWeight_31 : decode cX1_readWeight 31 = .ok (.aload_n 0, 1) := by decide +kernel
theorem dX1_readWeight_32 : decode cX1_readWeight 32 = .ok (.iconst 4, 1) := by decide +kernel
theorem dX1_readWeight_33 : decode cX1_readWeight 33 = .ok (.invokevirtual 66, 3) := by decide +kernel
theorem dX1_readWeight_36 : decode cX1_readWeight 36 = .ok (.ifCond .ne 8, 3) := by decide +kernel
theorem dX1_readWeight_39 : decode cX1_readWeight 39 = .ok (.aload_n 0, 1) := by decide +kernel
theorem dX1_readWeight_40 : decode cX1_readWeight 40 = .ok (.getfield 29, 3) := by decide +kernel
theorem dX1_readWeight_43 : decode cX1_readWeight 43 = .ok (.ireturn, 1) := by decide +kernel
theorem dX1_readWeight_44 : decode cX1_readWeight 44 = .ok (.aload_n 0, 1) := by decide +kernel
theorem dX1_readWeight_45 : decode cX1_readWeight 45 = .ok (.getfield 69, 3) := by decide +kernel
theorem dX1_readWeight_48 : decode cX1_readWeight 48 = .ok (.sipush 1000, 3) := by decide +kernel
theorem dX1_readWeight_51 : decode cX1_readWeight 51 = .ok (.if_icmp .le 22, 3) := by decide +kernel
theorem dX1_readWeight_54 : decode cX1_readWeight 54 = .ok (.aload_n 0, 1) := by decide +kernel
theorem dX1_readWeight_55 : decode cX1_readWeight 55 = .ok (.invokevirtual 63, 3) := by decide +kernel
theorem dX1_readWeight_58 : decode cX1_readWeight 58 = .ok (.invokestatic 78, 3) := by decide +kernel
theorem dX1_readWeight_61 : decode cX1_readWeight 61 = .ok (.ifCond .eq 10, 3) := by decide +kernel
theorem dX1_readWeight_64 : decode cX1_readWeight 64 = .ok (.aload_n 0, 1) := by decide +kernel
theorem dX1_readWeight_65 : decode cX1_readWeight 65 = .ok (.getfield 29, 3) := by decide +kernel
theorem dX1_readWeight_68 : decode cX1_readWeight 68 = .ok (.goto 4, 3) := by decide +kernel
theorem dX1_readWeight_71 : decode cX1_readWeight 71 = .ok (.iload_n 1, 1) := by decide +kernel
theorem dX1_readWeight_72 : decode cX1_readWeight 72 = .ok (.ireturn, 1) := by decide +kernel
theorem dX1_readWeight_73 : decode cX1_readWeight 73 = .ok (.aload_n 0, 1) := by decide +kernel
theorem dX1_readWeight_74 : decode cX1_readWeight 74 = .ok (.invokevirtual 36, 3) := by decide +kernel
theorem dX1_readWeight_77 : decode cX1_readWeight 77 = .ok (.iconst (-1), 1) := by decide +kernel
theorem dX1_readWeight_78 : decode cX1_readWeight 78 = .ok (.ireturn, 1) := by decide +kernel
theorem dX1_readKey_0 : decode cX1_readKey 0 = .ok (.aload_n 0, 1) := by decide +kernel
theorem dX1_readKey_1 : decode cX1_readKey 1 = .ok (.lconst 0, 1) := by decide +kernel
theorem dX1_readKey_2 : decode cX1_readKey 2 = .ok (.putfield 59, 3) := by decide +kernel
theorem dX1_readKey_5 : decode cX1_readKey 5 = .ok (.aload_n 0, 1) := by decide +kernel
theorem dX1_readKey_6 : decode cX1_readKey 6 = .ok (.iconst 0, 1) := by decide +kernel
theorem dX1_readKey_7 : decode cX1_readKey 7 = .ok (.putfield 75, 3) := by decide +kernel
theorem dX1_readKey_10 : decode cX1_readKey 10 = .ok (.iload_n 1, 1) := by decide +kernel
theorem dX1_readKey_11 : decode cX1_readKey 11 = .ok (.lookupswitch 37 #[(0, 25), (1, 31)], 25) := by decide +kernel
theorem dX1_readKey_36 : decode cX1_readKey 36 = .ok (.aload_n 0, 1) := by decide +kernel
theorem dX1_readKey_37 : decode cX1_readKey 37 = .ok (.iload_n 2, 1) := by decide +kernel
theorem dX1_readKey_38 : decode cX1_readKey 38 = .ok (.invokevirtual 81, 3) := by decide +kernel
theorem dX1_readKey_41 : decode cX1_readKey 41 = .ok (.ireturn, 1) := by decide +kernel
theorem dX1_readKey_42 : decode cX1_readKey 42 = .ok (.aload_n 0, 1) := by decide +kernel
theorem dX1_readKey_43 : decode cX1_readKey 43 = .ok (.iload_n 2, 1) := by decide +kernel
theorem dX1_readKey_44 : decode cX1_readKey 44 = .ok (.invokevirtual 85, 3) := by decide +kernel
theorem dX1_readKey_47 : decode cX1_readKey 47 = .ok (.ireturn, 1) := by decide +kernel
theorem dX1_readKey_48 : decode cX1_readKey 48 = .ok (.iload_n 2, 1) := by decide +kernel
theorem dX1_readKey_49 : decode cX1_readKey 49 = .ok (.ifCond .eq 12, 3) := by decide +kernel
theorem dX1_readKey_52 : decode cX1_readKey 52 = .ok (.aload_n 0, 1) := by decide +kernel
theorem dX1_readKey_53 : decode cX1_readKey 53 = .ok (.bipush 42, 2) := by decide +kernel
theorem dX1_readKey_55 : decode cX1_readKey 55 = .ok (.invokevirtual 55, 3) := by decide +kernel
theorem dX1_readKey_58 : decode cX1_readKey 58 = .ok (.ifCond .ne 11, 3) := by decide +kernel
theorem dX1_readKey_61 : decode cX1_readKey 61 = .ok (.aload_n 0, 1) := by decide +kernel
theorem dX1_readKey_62 : decode cX1_readKey 62 = .ok (.iconst 2, 1) := by decide +kernel
theorem dX1_readKey_63 : decode cX1_readKey 63 = .ok (.invokevirtual 88, 3) := by decide +kernel
theorem dX1_readKey_66 : decode cX1_readKey 66 = .ok (.ifCond .eq 7, 3) := by decide +kernel
theorem dX1_readKey_69 : decode cX1_readKey 69 = .ok (.iconst 1, 1) := by decide +kernel
theorem dX1_readKey_70 : decode cX1_readKey 70 = .ok (.goto 4, 3) := by decide +kernel
theorem dX1_readKey_73 : decode cX1_readKey 73 = .ok (.iconst 0, 1) := by decide +kernel
theorem dX1_readKey_74 : decode cX1_readKey 74 = .ok (.ireturn, 1) := by decide +kernel
theorem dX1_readType_0 : decode cX1_readType 0 = .ok (.iload_n 1, 1) := by decide +kernel
theorem dX1_readType_1 : decode cX1_readType 1 = .ok (.ifCond .eq 36, 3) := by decide +kernel
theorem dX1_readType_4 : decode cX1_readType 4 = .ok (.aload_n 0, 1) := by decide +kernel
theorem dX1_readType_5 : decode cX1_readType 5 = .ok (.bipush 42, 2) := by decide +kernel
theorem dX1_readType_7 : decode cX1_readType 7 = .ok (.invokevirtual 55, 3) := by decide +kernel
theorem dX1_readType_10 : decode cX1_readType 10 = .ok (.ifCond .eq 27, 3) := by decide +kernel
theorem dX1_readType_13 : decode cX1_readType 13 = .ok (.aload_n 0, 1) := by decide +kernel
theorem dX1_readType_14 : decode cX1_readType 14 = .ok (.bipush 47, 2) := by decide +kernel
theorem dX1_readType_16 : decode cX1_readType 16 = .ok (.invokevirtual 55, 3) := by decide +kernel
theorem dX1_readType_19 : decode cX1_readType 19 = .ok (.ifCond .eq 16, 3) := by decide +kernel
theorem dX1_readType_22 : decode cX1_readType 22 = .ok (.aload_n 0, 1) := by decide +kernel
theorem dX1_readType_23 : decode cX1_readType 23 = .ok (.bipush 42, 2) := by decide +kernel
theorem dX1_readType_25 : decode cX1_readType 25 = .ok (.invokevirtual 55, 3) := by decide +kernel
theorem dX1_readType_28 : decode cX1_readType 28 = .ok (.ifCond .eq 7, 3) := by decide +kernel
theorem dX1_readType_31 : decode cX1_readType 31 = .ok (.iconst 1, 1) := by decide +kernel
theorem dX1_readType_32 : decode cX1_readType 32 = .ok (.goto 4, 3) := by decide +kernel
theorem dX1_readType_35 : decode cX1_readType 35 = .ok (.iconst 0, 1) := by decide +kernel
theorem dX1_readType_36 : decode cX1_readType 36 = .ok (.ireturn, 1) := by decide +kernel
theorem dX1_readType_37 : decode cX1_readType 37 = .ok (.aload_n 0, 1) := by decide +kernel
theorem dX1_readType_38 : decode cX1_readType 38 = .ok (.iconst 0, 1) := by decide +kernel
theorem dX1_readType_39 : decode cX1_readType 39 = .ok (.invokevirtual 88, 3) := by decide +kernel
theorem dX1_readType_42 : decode cX1_readType 42 = .ok (.ifCond .eq 12, 3) := by decide +kernel
theorem dX1_readType_45 : decode cX1_readType 45 = .ok (.aload_n 0, 1) := by decide +kernel
theorem dX1_readType_46 : decode cX1_readType 46 = .ok (.bipush 47, 2) := by decide +kernel
theorem dX1_readType_48 : decode cX1_readType 48 = .ok (.invokevirtual 55, 3) := by decide +kernel
theorem dX1_readType_51 : decode cX1_readType 51 = .ok (.ifCond .ne 5, 3) := by decide +kernel
theorem dX1_readType_54 : decode cX1_readType 54 = .ok (.iconst 0, 1) := by decide +kernel
theorem dX1_readType_55 : decode cX1_readType 55 = .ok (.ireturn, 1) := by decide +kernel
theorem dX1_readType_56 : decode cX1_readType 56 = .ok (.iload_n 1, 1) := by decide +kernel
theorem dX1_readType_57 : decode cX1_readType 57 = .ok (.ifCond .eq 12, 3) := by decide +kernel
theorem dX1_readType_60 : decode cX1_readType 60 = .ok (.aload_n 0, 1) := by decide +kernel
theorem dX1_readType_61 : decode cX1_readType 61 = .ok (.bipush 42, 2) := by decide +kernel
theorem dX1_readType_63 : decode cX1_readType 63 = .ok (.invokevirtual 55, 3) := by decide +kernel
theorem dX1_readType_66 : decode cX1_readType 66 = .ok (.ifCond .ne 11, 3) := by decide +kernel
theorem dX1_readType_69 : decode cX1_readType 69 = .ok (.aload_n 0, 1) := by decide +kernel
theorem dX1_readType_70 : decode cX1_readType 70 = .ok (.iconst 0, 1) := by decide +kernel
theorem dX1_readType_71 : decode cX1_readType 71 = .ok (.invokevirtual 88, 3) := by decide +kernel
theorem dX1_readType_74 : decode cX1_readType 74 = .ok (.ifCond .eq 7, 3) := by decide +kernel
theorem dX1_readType_77 : decode cX1_readType 77 = .ok (.iconst 1, 1) := by decide +kernel
theorem dX1_readType_78 : decode cX1_readType 78 = .ok (.goto 4, 3) := by decide +kernel
theorem dX1_readType_81 : decode cX1_readType 81 = .ok (.iconst 0, 1) := by decide +kernel
theorem dX1_readType_82 : decode cX1_readType 82 = .ok (.ireturn, 1) := by decide +kernel
theorem dX1_readLanguage_0 : decode cX1_readLanguage 0 = .ok (.iload_n 1, 1) := by decide +kernel
theorem dX1_readLanguage_1 : decode cX1_readLanguage 1 = .ok (.ifCond .eq 14, 3) := by decide +kernel
theorem dX1_readLanguage_4 : decode cX1_readLanguage 4 = .ok (.aload_n 0, 1) := by decide +kernel
theorem dX1_readLanguage_5 : decode cX1_readLanguage 5 = .ok (.bipush 42, 2) := by decide +kernel
theorem dX1_readLanguage_7 : decode cX1_readLanguage 7 = .ok (.invokevirtual 55, 3) := by decide +kernel
theorem dX1_readLanguage_10 : decode cX1_readLanguage 10 = .ok (.ifCond .eq 5, 3) := by decide +kernel
theorem dX1_readLanguage_13 : decode cX1_readLanguage 13 = .ok (.iconst 1, 1) := by decide +kernel
theorem dX1_readLanguage_14 : decode cX1_readLanguage 14 = .ok (.ireturn, 1) := by decide +kernel
theorem dX1_readLanguage_15 : decode cX1_readLanguage 15 = .ok (.iconst 0, 1) := by decide +kernel
theorem dX1_readLanguage_16 : decode cX1_readLanguage 16 = .ok (.istore_n 2, 1) := by decide +kernel
theorem dX1_readLanguage_17 : decode cX1_readLanguage 17 = .ok (.iload_n 2, 1) := by decide +kernel
theorem dX1_readLanguage_18 : decode cX1_readLanguage 18 = .ok (.getstatic 91, 3) := by decide +kernel
theorem dX1_readLanguage_21 : decode cX1_readLanguage 21 = .ok (.iconst 1, 1) := by decide +kernel
theorem dX1_readLanguage_22 : decode cX1_readLanguage 22 = .ok (.iaload, 1) := by decide +kernel
theorem dX1_readLanguage_23 : decode cX1_readLanguage 23 = .ok (.if_icmp .ge 34, 3) := by decide +kernel
theorem dX1_readLanguage_26 : decode cX1_readLanguage 26 = .ok (.iload_n 2, 1) := by decide +kernel
theorem dX1_readLanguage_27 : decode cX1_readLanguage 27 = .ok (.ifCond .le 14, 3) := by decide +kernel
theorem dX1_readLanguage_30 : decode cX1_readLanguage 30 = .ok (.aload_n 0, 1) := by decide +kernel
theorem dX1_readLanguage_31 : decode cX1_readLanguage 31 = .ok (.bipush 45, 2) := by decide +kernel
theorem dX1_readLanguage_33 : decode cX1_readLanguage 33 = .ok (.invokevirtual 55, 3) := by decide +kernel
theorem dX1_readLanguage_36 : decode cX1_readLanguage 36 = .ok (.ifCond .ne 5, 3) := by decide +kernel
theorem dX1_readLanguage_39 : decode cX1_readLanguage 39 = .ok (.iconst 1, 1) := by decide +kernel
theorem dX1_readLanguage_40 : decode cX1_readLanguage 40 = .ok (.ireturn, 1) := by decide +kernel
theorem dX1_readLanguage_41 : decode cX1_readLanguage 41 = .ok (.aload_n 0, 1) := by decide +kernel
theorem dX1_readLanguage_42 : decode cX1_readLanguage 42 = .ok (.iconst 1, 1) := by decide +kernel
theorem dX1_readLanguage_43 : decode cX1_readLanguage 43 = .ok (.invokevirtual 88, 3) := by decide +kernel
theorem dX1_readLanguage_46 : decode cX1_readLanguage 46 = .ok (.ifCond .ne 5, 3) := by decide +kernel
theorem dX1_readLanguage_49 : decode cX1_readLanguage 49 = .ok (.iconst 0, 1) := by decide +kernel
theorem dX1_readLanguage_50 : decode cX1_readLanguage 50 = .ok (.ireturn, 1) := by decide +kernel
theorem dX1_readLanguage_51 : decode cX1_readLanguage 51 = .ok (.iinc 2 1, 3) := by decide +kernel
theorem dX1_readLanguage_54 : decode cX1_readLanguage 54 = .ok (.goto (-37), 3) := by decide +kernel
theorem dX1_readLanguage_57 : decode cX1_readLanguage 57 = .ok (.iconst 1, 1) := by decide +kernel
theorem dX1_readLanguage_58 : decode cX1_readLanguage 58 = .ok (.ireturn, 1) := by decide +kernel
theorem dX1_readName_0 : decode cX1_readName 0 = .ok (.lconst 0, 1) := by decide +kernel
theorem dX1_readName_1 : decode cX1_readName 1 = .ok (.lstore_n 2, 1) := by decide +kernel
theorem dX1_readName_2 : decode cX1_readName 2 = .ok (.iconst 0, 1) := by decide +kernel
theorem dX1_readName_3 : decode cX1_readName 3 = .ok (.istore 4, 2) := by decide +kernel
theorem dX1_readName_5 : decode cX1_readName 5 = .ok (.iload 4, 2) := by decide +kernel
theorem dX1_readName_7 : decode cX1_readName 7 = .ok (.iconst 4, 1) := by decide +kernel
theorem dX1_readName_8 : decode cX1_readName 8 = .ok (.if_icmp .ge 54, 3) := by decide +kernel
theorem dX1_readName_11 : decode cX1_readName 11 = .ok (.lload_n 2, 1) := by decide +kernel
theorem dX1_readName_12 : decode cX1_readName 12 = .ok (.iconst 5, 1) := by decide +kernel
theorem dX1_readName_13 : decode cX1_readName 13 = .ok (.lshl, 1) := by decide +kernel
theorem dX1_readName_14 : decode cX1_readName 14 = .ok (.lstore_n 2, 1) := by decide +kernel
theorem dX1_readName_15 : decode cX1_readName 15 = .ok (.aload_n 0, 1) := by decide +kernel
theorem dX1_readName_16 : decode cX1_readName 16 = .ok (.invokevirtual 63, 3) := by decide +kernel
theorem dX1_readName_19 : decode cX1_readName 19 = .ok (.istore 5, 2) := by decide +kernel
theorem dX1_readName_21 : decode cX1_readName 21 = .ok (.iload 5, 2) := by decide +kernel
theorem dX1_readName_23 : decode cX1_readName 23 = .ok (.bipush 97, 2) := by decide +kernel
theorem dX1_readName_25 : decode cX1_readName 25 = .ok (.if_icmp .lt 31, 3) := by decide +kernel
theorem dX1_readName_28 : decode cX1_readName 28 = .ok (.iload 5, 2) := by decide +kernel
theorem dX1_readName_30 : decode cX1_readName 30 = .ok (.bipush 122, 2) := by decide +kernel
theorem dX1_readName_32 : decode cX1_readName 32 = .ok (.if_icmp .gt 24, 3) := by decide +kernel
theorem dX1_readName_35 : decode cX1_readName 35 = .ok (.lload_n 2, 1) := by decide +kernel
theorem dX1_readName_36 : decode cX1_readName 36 = .ok (.iload 5, 2) := by decide +kernel
theorem dX1_readName_38 : decode cX1_readName 38 = .ok (.bipush 97, 2) := by decide +kernel
theorem dX1_readName_40 : decode cX1_readName 40 = .ok (.isub, 1) := by decide +kernel
theorem dX1_readName_41 : decode cX1_readName 41 = .ok (.iconst 1, 1) := by decide +kernel
theorem dX1_readName_42 : decode cX1_readName 42 = .ok (.iadd, 1) := by decide +kernel
theorem dX1_readName_43 : decode cX1_readName 43 = .ok (.i2l, 1) := by decide +kernel
theorem dX1_readName_44 : decode cX1_readName 44 = .ok (.ladd, 1) := by decide +kernel
theorem dX1_readName_45 : decode cX1_readName 45 = .ok (.lstore_n 2, 1) := by decide +kernel
theorem dX1_readName_46 : decode cX1_readName 46 = .ok (.aload_n 0, 1) := by decide +kernel
theorem dX1_readName_47 : decode cX1_readName 47 = .ok (.dup, 1) := by decide +kernel
theorem dX1_readName_48 : decode cX1_readName 48 = .ok (.getfield 29, 3) := by decide +kernel
theorem dX1_readName_51 : decode cX1_readName 51 = .ok (.iconst 1, 1) := by decide +kernel
theorem dX1_readName_52 : decode cX1_readName 52 = .ok (.iadd, 1) := by decide +kernel
theorem dX1_readName_53 : decode cX1_readName 53 = .ok (.putfield 29, 3) := by decide +kernel
theorem dX1_readName_56 : decode cX1_readName 56 = .ok (.iinc 4 1, 3) := by decide +kernel
theorem dX1_readName_59 : decode cX1_readName 59 = .ok (.goto (-54), 3) := by decide +kernel
theorem dX1_readName_62 : decode cX1_readName 62 = .ok (.lload_n 2, 1) := by decide +kernel
theorem dX1_readName_63 : decode cX1_readName 63 = .ok (.lconst 0, 1) := by decide +kernel
theorem dX1_readName_64 : decode cX1_readName 64 = .ok (.lcmp, 1) := by decide +kernel
theorem dX1_readName_65 : decode cX1_readName 65 = .ok (.ifCond .ne 5, 3) := by decide +kernel
theorem dX1_readName_68 : decode cX1_readName 68 = .ok (.iconst 0, 1) := by decide +kernel
theorem dX1_readName_69 : decode cX1_readName 69 = .ok (.ireturn, 1) := by decide +kernel
theorem dX1_readName_70 : decode cX1_readName 70 = .ok (.aload_n 0, 1) := by decide +kernel
theorem dX1_readName_71 : decode cX1_readName 71 = .ok (.dup, 1) := by decide +kernel
theorem dX1_readName_72 : decode cX1_readName 72 = .ok (.getfield 75, 3) := by decide +kernel
theorem dX1_readName_75 : decode cX1_readName 75 = .ok (.iconst 1, 1) := by decide +kernel
theorem dX1_readName_76 : decode cX1_readName 76 = .ok (.iadd, 1) := by decide +kernel
theorem dX1_readName_77 : decode cX1_readName 77 = .ok (.putfield 75, 3) := by decide +kernel
theorem dX1_readName_80 : decode cX1_readName 80 = .ok (.aload_n 0, 1) := by decide +kernel
theorem dX1_readName_81 : decode cX1_readName 81 = .ok (.dup, 1) := by decide +kernel
theorem dX1_readName_82 : decode cX1_readName 82 = .ok (.getfield 59, 3) := by decide +kernel
theorem dX1_readName_85 : decode cX1_readName 85 = .ok (.lload_n 2, 1) := by decide +kernel
theorem dX1_readName_86 : decode cX1_readName 86 = .ok (.bipush 20, 2) := by decide +kernel
theorem dX1_readName_88 : decode cX1_readName 88 = .ok (.getstatic 91, 3) := by decide +kernel
theorem dX1_readName_91 : decode cX1_readName 91 = .ok (.iload_n 1, 1) := by decide +kernel
theorem dX1_readName_92 : decode cX1_readName 92 = .ok (.iaload, 1) := by decide +kernel
theorem dX1_readName_93 : decode cX1_readName 93 = .ok (.aload_n 0, 1) := by decide +kernel
theorem dX1_readName_94 : decode cX1_readName 94 = .ok (.getfield 75, 3) := by decide +kernel
theorem dX1_readName_97 : decode cX1_readName 97 = .ok (.isub, 1) := by decide +kernel
theorem dX1_readName_98 : decode cX1_readName 98 = .ok (.imul, 1) := by decide +kernel
theorem dX1_readName_99 : decode cX1_readName 99 = .ok (.lshl, 1) := by decide +kernel
theorem dX1_readName_100 : decode cX1_readName 100 = .ok (.ladd, 1) := by decide +kernel
theorem dX1_readName_101 : decode cX1_readName 101 = .ok (.putfield 59, 3) := by decide +kernel
theorem dX1_readName_104 : decode cX1_readName 104 = .ok (.iconst 1, 1) := by decide +kernel
theorem dX1_readName_105 : decode cX1_readName 105 = .ok (.ireturn, 1) := by decide +kernel
theorem dX1_readNumber_0 : decode cX1_readNumber 0 = .ok (.aload_n 0, 1) := by decide +kernel
theorem dX1_readNumber_1 : decode cX1_readNumber 1 = .ok (.getfield 29, 3) := by decide +kernel
theorem dX1_readNumber_4 : decode cX1_readNumber 4 = .ok (.istore_n 2, 1) := by decide +kernel
theorem dX1_readNumber_5 : decode cX1_readNumber 5 = .ok (.aload_n 0, 1) := by decide +kernel
theorem dX1_readNumber_6 : decode cX1_readNumber 6 = .ok (.iconst 0, 1) := by decide +kernel
theorem dX1_readNumber_7 : decode cX1_readNumber 7 = .ok (.putfield 69, 3) := by decide +kernel
theorem dX1_readNumber_10 : decode cX1_readNumber 10 = .ok (.iconst 0, 1) := by decide +kernel
theorem dX1_readNumber_11 : decode cX1_readNumber 11 = .ok (.istore_n 3, 1) := by decide +kernel
theorem dX1_readNumber_12 : decode cX1_readNumber 12 = .ok (.iload_n 3, 1) := by decide +kernel
theorem dX1_readNumber_13 : decode cX1_readNumber 13 = .ok (.iload_n 1, 1) := by decide +kernel
theorem dX1_readNumber_14 : decode cX1_readNumber 14 = .ok (.if_icmp .ge 48, 3) := by decide +kernel
theorem dX1_readNumber_17 : decode cX1_readNumber 17 = .ok (.aload_n 0, 1) := by decide +kernel
theorem dX1_readNumber_18 : decode cX1_readNumber 18 = .ok (.invokevirtual 63, 3) := by decide +kernel
theorem dX1_readNumber_21 : decode cX1_readNumber 21 = .ok (.invokestatic 78, 3) := by decide +kernel
theorem dX1_readNumber_24 : decode cX1_readNumber 24 = .ok (.ifCond .eq 38, 3) := by decide +kernel
theorem dX1_readNumber_27 : decode cX1_readNumber 27 = .ok (.aload_n 0, 1) := by decide +kernel
theorem dX1_readNumber_28 : decode cX1_readNumber 28 = .ok (.bipush 10, 2) := by decide +kernel
theorem dX1_readNumber_30 : decode cX1_readNumber 30 = .ok (.aload_n 0, 1) := by decide +kernel
theorem dX1_readNumber_31 : decode cX1_readNumber 31 = .ok (.getfield 69, 3) := by decide +kernel
theorem dX1_readNumber_34 : decode cX1_readNumber 34 = .ok (.imul, 1) := by decide +kernel
theorem dX1_readNumber_35 : decode cX1_readNumber 35 = .ok (.aload_n 0, 1) := by decide +kernel
theorem dX1_readNumber_36 : decode cX1_readNumber 36 = .ok (.invokevirtual 63, 3) := by decide +kernel
theorem dX1_readNumber_39 : decode cX1_readNumber 39 = .ok (.iadd, 1) := by decide +kernel
theorem dX1_readNumber_40 : decode cX1_readNumber 40 = .ok (.bipush 48, 2) := by decide +kernel
theorem dX1_readNumber_42 : decode cX1_readNumber 42 = .ok (.isub, 1) := by decide +kernel
theorem dX1_readNumber_43 : decode cX1_readNumber 43 = .ok (.putfield 69, 3) := by decide +kernel
theorem dX1_readNumber_46 : decode cX1_readNumber 46 = .ok (.aload_n 0, 1) := by decide +kernel
theorem dX1_readNumber_47 : decode cX1_readNumber 47 = .ok (.dup, 1) := by decide +kernel
theorem dX1_readNumber_48 : decode cX1_readNumber 48 = .ok (.getfield 29, 3) := by decide +kernel
theorem dX1_readNumber_51 : decode cX1_readNumber 51 = .ok (.iconst 1, 1) := by decide +kernel
theorem dX1_readNumber_52 : decode cX1_readNumber 52 = .ok (.iadd, 1) := by decide +kernel
theorem dX1_readNumber_53 : decode cX1_readNumber 53 = .ok (.putfield 29, 3) := by decide +kernel
theorem dX1_readNumber_56 : decode cX1_readNumber 56 = .ok (.iinc 3 1, 3) := by decide +kernel
theorem dX1_readNumber_59 : decode cX1_readNumber 59 = .ok (.goto (-47), 3) := by decide +kernel
theorem dX1_readNumber_62 : decode cX1_readNumber 62 = .ok (.aload_n 0, 1) := by decide +kernel
theorem dX1_readNumber_63 : decode cX1_readNumber 63 = .ok (.getfield 29, 3) := by decide +kernel
theorem dX1_readNumber_66 : decode cX1_readNumber 66 = .ok (.iload_n 2, 1) := by decide +kernel
theorem dX1_readNumber_67 : decode cX1_readNumber 67 = .ok (.if_icmp .le 7, 3) := by decide +kernel
theorem dX1_readNumber_70 : decode cX1_readNumber 70 = .ok (.iconst 1, 1) := by decide +kernel
theorem dX1_readNumber_71 : decode cX1_readNumber 71 = .ok (.goto 4, 3) := by decide +kernel
theorem dX1_readNumber_74 : decode cX1_readNumber 74 = .ok (.iconst 0, 1) := by decide +kernel
theorem dX1_readNumber_75 : decode cX1_readNumber 75 = .ok (.ireturn, 1) := by decide +kernel
theorem dX1_isDigit_0 : decode cX1_isDigit 0 = .ok (.iload_n 0, 1) := by decide +kernel
theorem dX1_isDigit_1 : decode cX1_isDigit 1 = .ok (.bipush 48, 2) := by decide +kernel
theorem dX1_isDigit_3 : decode cX1_isDigit 3 = .ok (.if_icmp .lt 13, 3) := by decide +kernel
theorem dX1_isDigit_6 : decode cX1_isDigit 6 = .ok (.iload_n 0, 1) := by decide +kernel
theorem dX1_isDigit_7 : decode cX1_isDigit 7 = .ok (.bipush 57, 2) := by decide +kernel
theorem dX1_isDigit_9 : decode cX1_isDigit 9 = .ok (.if_icmp .gt 7, 3) := by decide +kernel
theorem dX1_isDigit_12 : decode cX1_isDigit 12 = .ok (.iconst 1, 1) := by decide +kernel
theorem dX1_isDigit_13 : decode cX1_isDigit 13 = .ok (.goto 4, 3) := by decide +kernel
theorem dX1_isDigit_16 : decode cX1_isDigit 16 = .ok (.iconst 0, 1) := by decide +kernel
theorem dX1_isDigit_17 : decode cX1_isDigit 17 = .ok (.ireturn, 1) := by decide +kernel
theorem dX1_peek_0 : decode cX1_peek 0 = .ok (.aload_n 0, 1) := by decide +kernel
theorem dX1_peek_1 : decode cX1_peek 1 = .ok (.getfield 25, 3) := by decide +kernel
theorem dX1_peek_4 : decode cX1_peek 4 = .ok (.aload_n 0, 1) := by decide +kernel
theorem dX1_peek_5 : decode cX1_peek 5 = .ok (.getfield 29, 3) := by decide +kernel
theorem dX1_peek_8 : decode cX1_peek 8 = .ok (.invokevirtual 94, 3) := by decide +kernel
theorem dX1_peek_11 : decode cX1_peek 11 = .ok (.ireturn, 1) := by decide +kernel
theorem dX1_atEnd_0 : decode cX1_atEnd 0 = .ok (.aload_n 0, 1) := by decide +kernel
theorem dX1_atEnd_1 : decode cX1_atEnd 1 = .ok (.getfield 29, 3) := by decide +kernel
theorem dX1_atEnd_4 : decode cX1_atEnd 4 = .ok (.aload_n 0, 1) := by decide +kernel
theorem dX1_atEnd_5 : decode cX1_atEnd 5 = .ok (.getfield 25, 3) := by decide +kernel
theorem dX1_atEnd_8 : decode cX1_atEnd 8 = .ok (.getfield 100, 3) := by decide +kernel
theorem dX1_atEnd_11 : decode cX1_atEnd 11 = .ok (.if_icmp .lt 7, 3) := by decide +kernel
theorem dX1_atEnd_14 : decode cX1_atEnd 14 = .ok (.iconst 1, 1) := by decide +kernel
theorem dX1_atEnd_15 : decode cX1_atEnd 15 = .ok (.goto 4, 3) := by decide +kernel
theorem dX1_atEnd_18 : decode cX1_atEnd 18 = .ok (.iconst 0, 1) := by decide +kernel
theorem dX1_atEnd_19 : decode cX1_atEnd 19 = .ok (.ireturn, 1) := by decide +kernel
theorem dX1_skips_0 : decode cX1_skips 0 = .ok (.aload_n 0, 1) := by decide +kernel
theorem dX1_skips_1 : decode cX1_skips 1 = .ok (.invokevirtual 63, 3) := by decide +kernel
theorem dX1_skips_4 : decode cX1_skips 4 = .ok (.iload_n 1, 1) := by decide +kernel
theorem dX1_skips_5 : decode cX1_skips 5 = .ok (.if_icmp .eq 5, 3) := by decide +kernel
theorem dX1_skips_8 : decode cX1_skips 8 = .ok (.iconst 0, 1) := by decide +kernel
theorem dX1_skips_9 : decode cX1_skips 9 = .ok (.ireturn, 1) := by decide +kernel
theorem dX1_skips_10 : decode cX1_skips 10 = .ok (.aload_n 0, 1) := by decide +kernel
theorem dX1_skips_11 : decode cX1_skips 11 = .ok (.dup, 1) := by decide +kernel
theorem dX1_skips_12 : decode cX1_skips 12 = .ok (.getfield 29, 3) := by decide +kernel
theorem dX1_skips_15 : decode cX1_skips 15 = .ok (.iconst 1, 1) := by decide +kernel
theorem dX1_skips_16 : decode cX1_skips 16 = .ok (.iadd, 1) := by decide +kernel
theorem dX1_skips_17 : decode cX1_skips 17 = .ok (.putfield 29, 3) := by decide +kernel
theorem dX1_skips_20 : decode cX1_skips 20 = .ok (.iconst 1, 1) := by decide +kernel
theorem dX1_skips_21 : decode cX1_skips 21 = .ok (.ireturn, 1) := by decide +kernel
theorem dX1_skipSpaces_0 : decode cX1_skipSpaces 0 = .ok (.aload_n 0, 1) := by decide +kernel
theorem dX1_skipSpaces_1 : decode cX1_skipSpaces 1 = .ok (.getfield 29, 3) := by decide +kernel
theorem dX1_skipSpaces_4 : decode cX1_skipSpaces 4 = .ok (.aload_n 0, 1) := by decide +kernel
theorem dX1_skipSpaces_5 : decode cX1_skipSpaces 5 = .ok (.getfield 25, 3) := by decide +kernel
theorem dX1_skipSpaces_8 : decode cX1_skipSpaces 8 = .ok (.getfield 100, 3) := by decide +kernel
theorem dX1_skipSpaces_11 : decode cX1_skipSpaces 11 = .ok (.if_icmp .ge 25, 3) := by decide +kernel
theorem dX1_skipSpaces_14 : decode cX1_skipSpaces 14 = .ok (.aload_n 0, 1) := by decide +kernel
theorem dX1_skipSpaces_15 : decode cX1_skipSpaces 15 = .ok (.invokevirtual 63, 3) := by decide +kernel
theorem dX1_skipSpaces_18 : decode cX1_skipSpaces 18 = .ok (.bipush 32, 2) := by decide +kernel
theorem dX1_skipSpaces_20 : decode cX1_skipSpaces 20 = .ok (.if_icmp .ne 16, 3) := by decide +kernel
theorem dX1_skipSpaces_23 : decode cX1_skipSpaces 23 = .ok (.aload_n 0, 1) := by decide +kernel
theorem dX1_skipSpaces_24 : decode cX1_skipSpaces 24 = .ok (.dup, 1) := by decide +kernel
theorem dX1_skipSpaces_25 : decode cX1_skipSpaces 25 = .ok (.getfield 29, 3) := by decide +kernel
theorem dX1_skipSpaces_28 : decode cX1_skipSpaces 28 = .ok (.iconst 1, 1) := by decide +kernel
theorem dX1_skipSpaces_29 : decode cX1_skipSpaces 29 = .ok (.iadd, 1) := by decide +kernel
theorem dX1_skipSpaces_30 : decode cX1_skipSpaces 30 = .ok (.putfield 29, 3) := by decide +kernel
theorem dX1_skipSpaces_33 : decode cX1_skipSpaces 33 = .ok (.goto (-33), 3) := by decide +kernel
theorem dX1_skipSpaces_36 : decode cX1_skipSpaces 36 = .ok (.return_, 1) := by decide +kernel
theorem dX2_init_0 : decode cX2_init 0 = .ok (.aload_n 0, 1) := by decide +kernel
theorem dX2_init_1 : decode cX2_init 1 = .ok (.invokespecial 3, 3) := by decide +kernel
theorem dX2_init_4 : decode cX2_init 4 = .ok (.aload_n 0, 1) := by decide +kernel
theorem dX2_init_5 : decode cX2_init 5 = .ok (.bipush 96, 2) := by decide +kernel
theorem dX2_init_7 : decode cX2_init 7 = .ok (.newarray .int, 2) := by decide +kernel
theorem dX2_init_9 : decode cX2_init 9 = .ok (.putfield 9, 3) := by decide +kernel
theorem dX2_init_12 : decode cX2_init 12 = .ok (.aload_n 0, 1) := by decide +kernel
theorem dX2_init_13 : decode cX2_init 13 = .ok (.bipush 96, 2) := by decide +kernel
theorem dX2_init_15 : decode cX2_init 15 = .ok (.newarray .int, 2) := by decide +kernel
theorem dX2_init_17 : decode cX2_init 17 = .ok (.putfield 15, 3) := by decide +kernel
theorem dX2_init_20 : decode cX2_init 20 = .ok (.aload_n 0, 1) := by decide +kernel
theorem dX2_init_21 : decode cX2_init 21 = .ok (.bipush 16, 2) := by decide +kernel
theorem dX2_init_23 : decode cX2_init 23 = .ok (.newarray .int, 2) := by decide +kernel
theorem dX2_init_25 : decode cX2_init 25 = .ok (.putfield 18, 3) := by decide +kernel
theorem dX2_init_28 : decode cX2_init 28 = .ok (.aload_n 0, 1) := by decide +kernel
theorem dX2_init_29 : decode cX2_init 29 = .ok (.bipush 16, 2) := by decide +kernel
theorem dX2_init_31 : decode cX2_init 31 = .ok (.newarray .int, 2) := by decide +kernel
theorem dX2_init_33 : decode cX2_init 33 = .ok (.putfield 21, 3) := by decide +kernel
theorem dX2_init_36 : decode cX2_init 36 = .ok (.aload_n 0, 1) := by decide +kernel
theorem dX2_init_37 : decode cX2_init 37 = .ok (.bipush 16, 2) := by decide +kernel
theorem dX2_init_39 : decode cX2_init 39 = .ok (.newarray .int, 2) := by decide +kernel
theorem dX2_init_41 : decode cX2_init 41 = .ok (.putfield 24, 3) := by decide +kernel
theorem dX2_init_44 : decode cX2_init 44 = .ok (.aload_n 0, 1) := by decide +kernel
theorem dX2_init_45 : decode cX2_init 45 = .ok (.bipush 48, 2) := by decide +kernel
theorem dX2_init_47 : decode cX2_init 47 = .ok (.newarray .int, 2) := by decide +kernel
theorem dX2_init_49 : decode cX2_init 49 = .ok (.putfield 27, 3) := by decide +kernel
theorem dX2_init_52 : decode cX2_init 52 = .ok (.aload_n 0, 1) := by decide +kernel
theorem dX2_init_53 : decode cX2_init 53 = .ok (.aload_n 1, 1) := by decide +kernel
theorem dX2_init_54 : decode cX2_init 54 = .ok (.putfield 30, 3) := by decide +kernel
theorem dX2_init_57 : decode cX2_init 57 = .ok (.return_, 1) := by decide +kernel
theorem dX2_workOut_0 : decode cX2_workOut 0 = .ok (.iconst 0, 1) := by decide +kernel
theorem dX2_workOut_1 : decode cX2_workOut 1 = .ok (.istore_n 2, 1) := by decide +kernel
theorem dX2_workOut_2 : decode cX2_workOut 2 = .ok (.iload_n 2, 1) := by decide +kernel
theorem dX2_workOut_3 : decode cX2_workOut 3 = .ok (.aload_n 0, 1) := by decide +kernel
theorem dX2_workOut_4 : decode cX2_workOut 4 = .ok (.getfield 30, 3) := by decide +kernel
theorem dX2_workOut_7 : decode cX2_workOut 7 = .ok (.getfield 34, 3) := by decide +kernel
theorem dX2_workOut_10 : decode cX2_workOut 10 = .ok (.if_icmp .ge 158, 3) := by decide +kernel
theorem dX2_workOut_13 : decode cX2_workOut 13 = .ok (.iconst 0, 1) := by decide +kernel
theorem dX2_workOut_14 : decode cX2_workOut 14 = .ok (.istore_n 3, 1) := by decide +kernel
theorem dX2_workOut_15 : decode cX2_workOut 15 = .ok (.iload_n 3, 1) := by decide +kernel
theorem dX2_workOut_16 : decode cX2_workOut 16 = .ok (.bipush 6, 2) := by decide +kernel
theorem dX2_workOut_18 : decode cX2_workOut 18 = .ok (.if_icmp .ge 87, 3) := by decide +kernel
theorem dX2_workOut_21 : decode cX2_workOut 21 = .ok (.iload_n 3, 1) := by decide +kernel
theorem dX2_workOut_22 : decode cX2_workOut 22 = .ok (.iconst 3, 1) := by decide +kernel
theorem dX2_workOut_23 : decode cX2_workOut 23 = .ok (.idiv, 1) := by decide +kernel
theorem dX2_workOut_24 : decode cX2_workOut 24 = .ok (.iload_n 1, 1) := by decide +kernel
theorem dX2_workOut_25 : decode cX2_workOut 25 = .ok (.if_icmp .ne 7, 3) := by decide +kernel
theorem dX2_workOut_28 : decode cX2_workOut 28 = .ok (.iconst 1, 1) := by decide +kernel
theorem dX2_workOut_29 : decode cX2_workOut 29 = .ok (.goto 4, 3) := by decide +kernel
theorem dX2_workOut_32 : decode cX2_workOut 32 = .ok (.iconst 0, 1) := by decide +kernel
theorem dX2_workOut_33 : decode cX2_workOut 33 = .ok (.istore 4, 2) := by decide +kernel
theorem dX2_workOut_35 : decode cX2_workOut 35 = .ok (.iload 4, 2) := by decide +kernel
theorem dX2_workOut_37 : decode cX2_workOut 37 = .ok (.ifCond .eq 7, 3) := by decide +kernel
theorem dX2_workOut_40 : decode cX2_workOut 40 = .ok (.iconst (-1), 1) := by decide +kernel
theorem dX2_workOut_41 : decode cX2_workOut 41 = .ok (.goto 12, 3) := by decide +kernel
theorem dX2_workOut_44 : decode cX2_workOut 44 = .ok (.aload_n 0, 1) := by decide +kernel
theorem dX2_workOut_45 : decode cX2_workOut 45 = .ok (.getfield 30, 3) := by decide +kernel
theorem dX2_workOut_48 : decode cX2_workOut 48 = .ok (.iload_n 3, 1) := by decide +kernel
theorem dX2_workOut_49 : decode cX2_workOut 49 = .ok (.iload_n 2, 1) := by decide +kernel
theorem dX2_workOut_50 : decode cX2_workOut 50 = .ok (.invokevirtual 40, 3) := by decide +kernel
theorem dX2_workOut_53 : decode cX2_workOut 53 = .ok (.istore 5, 2) := by decide +kernel
theorem dX2_workOut_55 : decode cX2_workOut 55 = .ok (.aload_n 0, 1) := by decide +kernel
theorem dX2_workOut_56 : decode cX2_workOut 56 = .ok (.getfield 9, 3) := by decide +kernel
theorem dX2_workOut_59 : decode cX2_workOut 59 = .ok (.iload_n 2, 1) := by decide +kernel
theorem dX2_workOut_60 : decode cX2_workOut 60 = .ok (.iload_n 3, 1) := by decide +kernel
theorem dX2_workOut_61 : decode cX2_workOut 61 = .ok (.invokestatic 44, 3) := by decide +kernel
theorem dX2_workOut_64 : decode cX2_workOut 64 = .ok (.iload 5, 2) := by decide +kernel
theorem dX2_workOut_66 : decode cX2_workOut 66 = .ok (.iastore, 1) := by decide +kernel
theorem dX2_workOut_67 : decode cX2_workOut 67 = .ok (.aload_n 0, 1) := by decide +kernel
theorem dX2_workOut_68 : decode cX2_workOut 68 = .ok (.getfield 15, 3) := by decide +kernel
theorem dX2_workOut_71 : decode cX2_workOut 71 = .ok (.iload_n 2, 1) := by decide +kernel
theorem dX2_workOut_72 : decode cX2_workOut 72 = .ok (.iload_n 3, 1) := by decide +kernel
theorem dX2_workOut_73 : decode cX2_workOut 73 = .ok (.invokestatic 44, 3) := by decide +kernel
theorem dX2_workOut_76 : decode cX2_workOut 76 = .ok (.iload 4, 2) := by decide +kernel
theorem dX2_workOut_78 : decode cX2_workOut 78 = .ok (.ifCond .eq 9, 3) := by decide +kernel
theorem dX2_workOut_81 : decode cX2_workOut 81 = .ok (.sipush 1000, 3) := by decide +kernel
theorem dX2_workOut_84 : decode cX2_workOut 84 = .ok (.goto 14, 3) := by decide +kernel
theorem dX2_workOut_87 : decode cX2_workOut 87 = .ok (.aload_n 0, 1) := by decide +kernel
theorem dX2_workOut_88 : decode cX2_workOut 88 = .ok (.getfield 30, 3) := by decide +kernel
theorem dX2_workOut_91 : decode cX2_workOut 91 = .ok (.iload_n 3, 1) := by decide +kernel
theorem dX2_workOut_92 : decode cX2_workOut 92 = .ok (.iload 5, 2) := by decide +kernel
theorem dX2_workOut_94 : decode cX2_workOut 94 = .ok (.iload_n 2, 1) := by decide +kernel
theorem dX2_workOut_95 : decode cX2_workOut 95 = .ok (.invokevirtual 47, 3) := by decide +kernel
theorem dX2_workOut_98 : decode cX2_workOut 98 = .ok (.iastore, 1) := by decide +kernel
theorem dX2_workOut_99 : decode cX2_workOut 99 = .ok (.iinc 3 1, 3) := by decide +kernel
theorem dX2_workOut_102 : decode cX2_workOut 102 = .ok (.goto (-87), 3) := by decide +kernel
theorem dX2_workOut_105 : decode cX2_workOut 105 = .ok (.aload_n 0, 1) := by decide +kernel
theorem dX2_workOut_106 : decode cX2_workOut 106 = .ok (.getfield 18, 3) := by decide +kernel
theorem dX2_workOut_109 : decode cX2_workOut 109 = .ok (.iload_n 2, 1) := by decide +kernel
theorem dX2_workOut_110 : decode cX2_workOut 110 = .ok (.aload_n 0, 1) := by decide +kernel
theorem dX2_workOut_111 : decode cX2_workOut 111 = .ok (.iload_n 2, 1) := by decide +kernel
theorem dX2_workOut_112 : decode cX2_workOut 112 = .ok (.aload_n 0, 1) := by decide +kernel
theorem dX2_workOut_113 : decode cX2_workOut 113 = .ok (.getfield 30, 3) := by decide +kernel
theorem dX2_workOut_116 : decode cX2_workOut 116 = .ok (.getfield 51, 3) := by decide +kernel
theorem dX2_workOut_119 : decode cX2_workOut 119 = .ok (.iload_n 2, 1) := by decide +kernel
theorem dX2_workOut_120 : decode cX2_workOut 120 = .ok (.iaload, 1) := by decide +kernel
theorem dX2_workOut_121 : decode cX2_workOut 121 = .ok (.invokevirtual 54, 3) := by decide +kernel
theorem dX2_workOut_124 : decode cX2_workOut 124 = .ok (.iastore, 1) := by decide +kernel
theorem dX2_workOut_125 : decode cX2_workOut 125 = .ok (.iconst 0, 1) := by decide +kernel
theorem dX2_workOut_126 : decode cX2_workOut 126 = .ok (.istore_n 3, 1) := by decide +kernel
theorem dX2_workOut_127 : decode cX2_workOut 127 = .ok (.iload_n 3, 1) := by decide +kernel
theorem dX2_workOut_128 : decode cX2_workOut 128 = .ok (.iconst 3, 1) := by decide +kernel
theorem dX2_workOut_129 : decode cX2_workOut 129 = .ok (.if_icmp .ge 33, 3) := by decide +kernel
theorem dX2_workOut_132 : decode cX2_workOut 132 = .ok (.aload_n 0, 1) := by decide +kernel
theorem dX2_workOut_133 : decode cX2_workOut 133 = .ok (.getfield 27, 3) := by decide +kernel
theorem dX2_workOut_136 : decode cX2_workOut 136 = .ok (.iload_n 2, 1) := by decide +kernel
theorem dX2_workOut_137 : decode cX2_workOut 137 = .ok (.iconst 3, 1) := by decide +kernel
theorem dX2_workOut_138 : decode cX2_workOut 138 = .ok (.imul, 1) := by decide +kernel
theorem dX2_workOut_139 : decode cX2_workOut 139 = .ok (.iload_n 3, 1) := by decide +kernel
theorem dX2_workOut_140 : decode cX2_workOut 140 = .ok (.iadd, 1) := by decide +kernel
theorem dX2_workOut_141 : decode cX2_workOut 141 = .ok (.aload_n 0, 1) := by decide +kernel
theorem dX2_workOut_142 : decode cX2_workOut 142 = .ok (.aload_n 0, 1) := by decide +kernel
theorem dX2_workOut_143 : decode cX2_workOut 143 = .ok (.getfield 30, 3) := by decide +kernel
theorem dX2_workOut_146 : decode cX2_workOut 146 = .ok (.getfield 57, 3) := by decide +kernel
theorem dX2_workOut_149 : decode cX2_workOut 149 = .ok (.iload_n 3, 1) := by decide +kernel
theorem dX2_workOut_150 : decode cX2_workOut 150 = .ok (.iaload, 1) := by decide +kernel
theorem dX2_workOut_151 : decode cX2_workOut 151 = .ok (.iload_n 2, 1) := by decide +kernel
theorem dX2_workOut_152 : decode cX2_workOut 152 = .ok (.invokevirtual 60, 3) := by decide +kernel
theorem dX2_workOut_155 : decode cX2_workOut 155 = .ok (.iastore, 1) := by decide +kernel
theorem dX2_workOut_156 : decode cX2_workOut 156 = .ok (.iinc 3 1, 3) := by decide +kernel
theorem dX2_workOut_159 : decode cX2_workOut 159 = .ok (.goto (-32), 3) := by decide +kernel
theorem dX2_workOut_162 : decode cX2_workOut 162 = .ok (.iinc 2 1, 3) := by decide +kernel
theorem dX2_workOut_165 : decode cX2_workOut 165 = .ok (.goto (-163), 3) := by decide +kernel
theorem dX2_workOut_168 : decode cX2_workOut 168 = .ok (.aload_n 0, 1) := by decide +kernel
theorem dX2_workOut_169 : decode cX2_workOut 169 = .ok (.invokevirtual 63, 3) := by decide +kernel
theorem dX2_workOut_172 : decode cX2_workOut 172 = .ok (.return_, 1) := by decide +kernel
theorem dX2_variantAt_0 : decode cX2_variantAt 0 = .ok (.iload_n 1, 1) := by decide +kernel
theorem dX2_variantAt_1 : decode cX2_variantAt 1 = .ok (.ifCond .lt 20, 3) := by decide +kernel
theorem dX2_variantAt_4 : decode cX2_variantAt 4 = .ok (.iload_n 1, 1) := by decide +kernel
theorem dX2_variantAt_5 : decode cX2_variantAt 5 = .ok (.aload_n 0, 1) := by decide +kernel
theorem dX2_variantAt_6 : decode cX2_variantAt 6 = .ok (.getfield 66, 3) := by decide +kernel
theorem dX2_variantAt_9 : decode cX2_variantAt 9 = .ok (.if_icmp .ge 12, 3) := by decide +kernel
theorem dX2_variantAt_12 : decode cX2_variantAt 12 = .ok (.aload_n 0, 1) := by decide +kernel
theorem dX2_variantAt_13 : decode cX2_variantAt 13 = .ok (.getfield 24, 3) := by decide +kernel
theorem dX2_variantAt_16 : decode cX2_variantAt 16 = .ok (.iload_n 1, 1) := by decide +kernel
theorem dX2_variantAt_17 : decode cX2_variantAt 17 = .ok (.iaload, 1) := by decide +kernel
theorem dX2_variantAt_18 : decode cX2_variantAt 18 = .ok (.goto 4, 3) := by decide +kernel
theorem dX2_variantAt_21 : decode cX2_variantAt 21 = .ok (.iconst (-1), 1) := by decide +kernel
theorem dX2_variantAt_22 : decode cX2_variantAt 22 = .ok (.ireturn, 1) := by decide +kernel
theorem dX2_servedScore_0 : decode cX2_servedScore 0 = .ok (.aload_n 0, 1) := by decide +kernel
theorem dX2_servedScore_1 : decode cX2_servedScore 1 = .ok (.getfield 66, 3) := by decide +kernel
theorem dX2_servedScore_4 : decode cX2_servedScore 4 = .ok (.ifCond .le 17, 3) := by decide +kernel
theorem dX2_servedScore_7 : decode cX2_servedScore 7 = .ok (.aload_n 0, 1) := by decide +kernel
theorem dX2_servedScore_8 : decode cX2_servedScore 8 = .ok (.getfield 18, 3) := by decide +kernel
theorem dX2_servedScore_11 : decode cX2_servedScore 11 = .ok (.aload_n 0, 1) := by decide +kernel
theorem dX2_servedScore_12 : decode cX2_servedScore 12 = .ok (.getfield 24, 3) := by decide +kernel
theorem dX2_servedScore_15 : decode cX2_servedScore 15 = .ok (.iconst 0, 1) := by decide +kernel
theorem dX2_servedScore_16 : decode cX2_servedScore 16 = .ok (.iaload, 1) := by decide +kernel
theorem dX2_servedScore_17 : decode cX2_servedScore 17 = .ok (.iaload, 1) := by decide +kernel
theorem dX2_servedScore_18 : decode cX2_servedScore 18 = .ok (.goto 4, 3) := by decide +kernel
theorem dX2_servedScore_21 : decode cX2_servedScore 21 = .ok (.iconst 0, 1) := by decide +kernel
theorem dX2_servedScore_22 : decode cX2_servedScore 22 = .ok (.ireturn, 1) := by decide +kernel
theorem dX2_reasonOf_0 : decode cX2_reasonOf 0 = .ok (.aload_n 0, 1) := by decide +kernel
theorem dX2_reasonOf_1 : decode cX2_reasonOf 1 = .ok (.getfield 18, 3) := by decide +kernel
theorem dX2_reasonOf_4 : decode cX2_reasonOf 4 = .ok (.iload_n 1, 1) := by decide +kernel
theorem dX2_reasonOf_5 : decode cX2_reasonOf 5 = .ok (.iaload, 1) := by decide +kernel
theorem dX2_reasonOf_6 : decode cX2_reasonOf 6 = .ok (.ifCond .le 5, 3) := by decide +kernel
theorem dX2_reasonOf_9 : decode cX2_reasonOf 9 = .ok (.iconst 0, 1) := by decide +kernel
theorem dX2_reasonOf_10 : decode cX2_reasonOf 10 = .ok (.ireturn, 1) := by decide +kernel
theorem dX2_reasonOf_11 : decode cX2_reasonOf 11 = .ok (.iconst 0, 1) := by decide +kernel
theorem dX2_reasonOf_12 : decode cX2_reasonOf 12 = .ok (.istore_n 2, 1) := by decide +kernel
theorem dX2_reasonOf_13 : decode cX2_reasonOf 13 = .ok (.iload_n 2, 1) := by decide +kernel
theorem dX2_reasonOf_14 : decode cX2_reasonOf 14 = .ok (.bipush 6, 2) := by decide +kernel
theorem dX2_reasonOf_16 : decode cX2_reasonOf 16 = .ok (.if_icmp .ge 26, 3) := by decide +kernel
theorem dX2_reasonOf_19 : decode cX2_reasonOf 19 = .ok (.aload_n 0, 1) := by decide +kernel
theorem dX2_reasonOf_20 : decode cX2_reasonOf 20 = .ok (.getfield 15, 3) := by decide +kernel
theorem dX2_reasonOf_23 : decode cX2_reasonOf 23 = .ok (.iload_n 1, 1) := by decide +kernel
theorem dX2_reasonOf_24 : decode cX2_reasonOf 24 = .ok (.iload_n 2, 1) := by decide +kernel
theorem dX2_reasonOf_25 : decode cX2_reasonOf 25 = .ok (.invokestatic 44, 3) := by decide +kernel
theorem dX2_reasonOf_28 : decode cX2_reasonOf 28 = .ok (.iaload, 1) := by decide +kernel
theorem dX2_reasonOf_29 : decode cX2_reasonOf 29 = .ok (.ifCond .ne 7, 3) := by decide +kernel
theorem dX2_reasonOf_32 : decode cX2_reasonOf 32 = .ok (.iconst 1, 1) := by decide +kernel
theorem dX2_reasonOf_33 : decode cX2_reasonOf 33 = .ok (.iload_n 2, 1) := by decide +kernel
theorem dX2_reasonOf_34 : decode cX2_reasonOf 34 = .ok (.iadd, 1) := by decide +kernel
theorem dX2_reasonOf_35 : decode cX2_reasonOf 35 = .ok (.ireturn, 1) := by decide +kernel
theorem dX2_reasonOf_36 : decode cX2_reasonOf 36 = .ok (.iinc 2 1, 3) := by decide +kernel
theorem dX2_reasonOf_39 : decode cX2_reasonOf 39 = .ok (.goto (-26), 3) := by decide +kernel
theorem dX2_reasonOf_42 : decode cX2_reasonOf 42 = .ok (.aload_n 0, 1) := by decide +kernel
theorem dX2_reasonOf_43 : decode cX2_reasonOf 43 = .ok (.getfield 30, 3) := by decide +kernel
theorem dX2_reasonOf_46 : decode cX2_reasonOf 46 = .ok (.getfield 51, 3) := by decide +kernel
theorem dX2_reasonOf_49 : decode cX2_reasonOf 49 = .ok (.iload_n 1, 1) := by decide +kernel
theorem dX2_reasonOf_50 : decode cX2_reasonOf 50 = .ok (.iaload, 1) := by decide +kernel
theorem dX2_reasonOf_51 : decode cX2_reasonOf 51 = .ok (.ifCond .ne 8, 3) := by decide +kernel
theorem dX2_reasonOf_54 : decode cX2_reasonOf 54 = .ok (.bipush 7, 2) := by decide +kernel
theorem dX2_reasonOf_56 : decode cX2_reasonOf 56 = .ok (.goto 5, 3) := by decide +kernel
theorem dX2_reasonOf_59 : decode cX2_reasonOf 59 = .ok (.bipush 8, 2) := by decide +kernel
theorem dX2_reasonOf_61 : decode cX2_reasonOf 61 = .ok (.ireturn, 1) := by decide +kernel
theorem dX2_countingCount_0 : decode cX2_countingCount 0 = .ok (.iconst 0, 1) := by decide +kernel
theorem dX2_countingCount_1 : decode cX2_countingCount 1 = .ok (.istore_n 3, 1) := by decide +kernel
theorem dX2_countingCount_2 : decode cX2_countingCount 2 = .ok (.iconst 0, 1) := by decide +kernel
theorem dX2_countingCount_3 : decode cX2_countingCount 3 = .ok (.istore 4, 2) := by decide +kernel
theorem dX2_countingCount_5 : decode cX2_countingCount 5 = .ok (.iload 4, 2) := by decide +kernel
theorem dX2_countingCount_7 : decode cX2_countingCount 7 = .ok (.aload_n 0, 1) := by decide +kernel
theorem dX2_countingCount_8 : decode cX2_countingCount 8 = .ok (.getfield 30, 3) := by decide +kernel
theorem dX2_countingCount_11 : decode cX2_countingCount 11 = .ok (.getfield 34, 3) := by decide +kernel
theorem dX2_countingCount_14 : decode cX2_countingCount 14 = .ok (.if_icmp .ge 27, 3) := by decide +kernel
theorem dX2_countingCount_17 : decode cX2_countingCount 17 = .ok (.aload_n 0, 1) := by decide +kernel
theorem dX2_countingCount_18 : decode cX2_countingCount 18 = .ok (.getfield 9, 3) := by decide +kernel
theorem dX2_countingCount_21 : decode cX2_countingCount 21 = .ok (.iload 4, 2) := by decide +kernel
theorem dX2_countingCount_23 : decode cX2_countingCount 23 = .ok (.iload_n 1, 1) := by decide +kernel
theorem dX2_countingCount_24 : decode cX2_countingCount 24 = .ok (.invokestatic 44, 3) := by decide +kernel
theorem dX2_countingCount_27 : decode cX2_countingCount 27 = .ok (.iaload, 1) := by decide +kernel
theorem dX2_countingCount_28 : decode cX2_countingCount 28 = .ok (.iload_n 2, 1) := by decide +kernel
theorem dX2_countingCount_29 : decode cX2_countingCount 29 = .ok (.if_icmp .ne 6, 3) := by decide +kernel
theorem dX2_countingCount_32 : decode cX2_countingCount 32 = .ok (.iinc 3 1, 3) := by decide +kernel
theorem dX2_countingCount_35 : decode cX2_countingCount 35 = .ok (.iinc 4 1, 3) := by decide +kernel
theorem dX2_countingCount_38 : decode cX2_countingCount 38 = .ok (.goto (-33), 3) := by decide +kernel
theorem dX2_countingCount_41 : decode cX2_countingCount 41 = .ok (.iload_n 3, 1) := by decide +kernel
theorem dX2_countingCount_42 : decode cX2_countingCount 42 = .ok (.ireturn, 1) := by decide +kernel
theorem dX2_leastLeadingWeight_0 : decode cX2_leastLeadingWeight 0 = .ok (.iconst 0, 1) := by decide +kernel
theorem dX2_leastLeadingWeight_1 : decode cX2_leastLeadingWeight 1 = .ok (.istore 4, 2) := by decide +kernel
theorem dX2_leastLeadingWeight_3 : decode cX2_leastLeadingWeight 3 = .ok (.iconst 0, 1) := by decide +kernel
theorem dX2_leastLeadingWeight_4 : decode cX2_leastLeadingWeight 4 = .ok (.istore 5, 2) := by decide +kernel
theorem dX2_leastLeadingWeight_6 : decode cX2_leastLeadingWeight 6 = .ok (.iload 5, 2) := by decide +kernel
theorem dX2_leastLeadingWeight_8 : decode cX2_leastLeadingWeight 8 = .ok (.sipush 1000, 3) := by decide +kernel
theorem dX2_leastLeadingWeight_11 : decode cX2_leastLeadingWeight 11 = .ok (.if_icmp .gt 46, 3) := by decide +kernel
theorem dX2_leastLeadingWeight_14 : decode cX2_leastLeadingWeight 14 = .ok (.aload_n 0, 1) := by decide +kernel
theorem dX2_leastLeadingWeight_15 : decode cX2_leastLeadingWeight 15 = .ok (.iload_n 3, 1) := by decide +kernel
theorem dX2_leastLeadingWeight_16 : decode cX2_leastLeadingWeight 16 = .ok (.iload_n 1, 1) := by decide +kernel
theorem dX2_leastLeadingWeight_17 : decode cX2_leastLeadingWeight 17 = .ok (.iload_n 2, 1) := by decide +kernel
theorem dX2_leastLeadingWeight_18 : decode cX2_leastLeadingWeight 18 = .ok (.iload 5, 2) := by decide +kernel
theorem dX2_leastLeadingWeight_20 : decode cX2_leastLeadingWeight 20 = .ok (.invokevirtual 69, 3) := by decide +kernel
theorem dX2_leastLeadingWeight_23 : decode cX2_leastLeadingWeight 23 = .ok (.istore 6, 2) := by decide +kernel
theorem dX2_leastLeadingWeight_25 : decode cX2_leastLeadingWeight 25 = .ok (.iload 6, 2) := by decide +kernel
theorem dX2_leastLeadingWeight_27 : decode cX2_leastLeadingWeight 27 = .ok (.iload 4, 2) := by decide +kernel
theorem dX2_leastLeadingWeight_29 : decode cX2_leastLeadingWeight 29 = .ok (.if_icmp .le 22, 3) := by decide +kernel
theorem dX2_leastLeadingWeight_32 : decode cX2_leastLeadingWeight 32 = .ok (.aload_n 0, 1) := by decide +kernel
theorem dX2_leastLeadingWeight_33 : decode cX2_leastLeadingWeight 33 = .ok (.iload_n 3, 1) := by decide +kernel
theorem dX2_leastLeadingWeight_34 : decode cX2_leastLeadingWeight 34 = .ok (.iload_n 1, 1) := by decide +kernel
theorem dX2_leastLeadingWeight_35 : decode cX2_leastLeadingWeight 35 = .ok (.iload_n 2, 1) := by decide +kernel
theorem dX2_leastLeadingWeight_36 : decode cX2_leastLeadingWeight 36 = .ok (.iload 5, 2) := by decide +kernel
theorem dX2_leastLeadingWeight_38 : decode cX2_leastLeadingWeight 38 = .ok (.invokevirtual 73, 3) := by decide +kernel
theorem dX2_leastLeadingWeight_41 : decode cX2_leastLeadingWeight 41 = .ok (.ifCond .eq 6, 3) := by decide +kernel
theorem dX2_leastLeadingWeight_44 : decode cX2_leastLeadingWeight 44 = .ok (.iload 5, 2) := by decide +kernel
theorem dX2_leastLeadingWeight_46 : decode cX2_leastLeadingWeight 46 = .ok (.ireturn, 1) := by decide +kernel
theorem dX2_leastLeadingWeight_47 : decode cX2_leastLeadingWeight 47 = .ok (.iload 6, 2) := by decide +kernel
theorem dX2_leastLeadingWeight_49 : decode cX2_leastLeadingWeight 49 = .ok (.istore 4, 2) := by decide +kernel
theorem dX2_leastLeadingWeight_51 : decode cX2_leastLeadingWeight 51 = .ok (.iinc 5 1, 3) := by decide +kernel
theorem dX2_leastLeadingWeight_54 : decode cX2_leastLeadingWeight 54 = .ok (.goto (-48), 3) := by decide +kernel
theorem dX2_leastLeadingWeight_57 : decode cX2_leastLeadingWeight 57 = .ok (.iconst (-1), 1) := by decide +kernel
theorem dX2_leastLeadingWeight_58 : decode cX2_leastLeadingWeight 58 = .ok (.ireturn, 1) := by decide +kernel
theorem dX2_leastLeadingQuality_0 : decode cX2_leastLeadingQuality 0 = .ok (.iconst 0, 1) := by decide +kernel
theorem dX2_leastLeadingQuality_1 : decode cX2_leastLeadingQuality 1 = .ok (.istore_n 2, 1) := by decide +kernel
theorem dX2_leastLeadingQuality_2 : decode cX2_leastLeadingQuality 2 = .ok (.sipush 512, 3) := by decide +kernel
theorem dX2_leastLeadingQuality_5 : decode cX2_leastLeadingQuality 5 = .ok (.istore_n 3, 1) := by decide +kernel
theorem dX2_leastLeadingQuality_6 : decode cX2_leastLeadingQuality 6 = .ok (.iload_n 3, 1) := by decide +kernel
theorem dX2_leastLeadingQuality_7 : decode cX2_leastLeadingQuality 7 = .ok (.ifCond .le 36, 3) := by decide +kernel
theorem dX2_leastLeadingQuality_10 : decode cX2_leastLeadingQuality 10 = .ok (.iload_n 2, 1) := by decide +kernel
theorem dX2_leastLeadingQuality_11 : decode cX2_leastLeadingQuality 11 = .ok (.iload_n 3, 1) := by decide +kernel
theorem dX2_leastLeadingQuality_12 : decode cX2_leastLeadingQuality 12 = .ok (.iadd, 1) := by decide +kernel
theorem dX2_leastLeadingQuality_13 : decode cX2_leastLeadingQuality 13 = .ok (.istore 4, 2) := by decide +kernel
theorem dX2_leastLeadingQuality_15 : decode cX2_leastLeadingQuality 15 = .ok (.iload 4, 2) := by decide +kernel
theorem dX2_leastLeadingQuality_17 : decode cX2_leastLeadingQuality 17 = .ok (.sipush 1000, 3) := by decide +kernel
theorem dX2_leastLeadingQuality_20 : decode cX2_leastLeadingQuality 20 = .ok (.if_icmp .gt 16, 3) := by decide +kernel
theorem dX2_leastLeadingQuality_23 : decode cX2_leastLeadingQuality 23 = .ok (.aload_n 0, 1) := by decide +kernel
theorem dX2_leastLeadingQuality_24 : decode cX2_leastLeadingQuality 24 = .ok (.iload_n 1, 1) := by decide +kernel
theorem dX2_leastLeadingQuality_25 : decode cX2_leastLeadingQuality 25 = .ok (.iload 4, 2) := by decide +kernel
theorem dX2_leastLeadingQuality_27 : decode cX2_leastLeadingQuality 27 = .ok (.invokevirtual 77, 3) := by decide +kernel
theorem dX2_leastLeadingQuality_30 : decode cX2_leastLeadingQuality 30 = .ok (.ifCond .ne 6, 3) := by decide +kernel
theorem dX2_leastLeadingQuality_33 : decode cX2_leastLeadingQuality 33 = .ok (.iload 4, 2) := by decide +kernel
theorem dX2_leastLeadingQuality_35 : decode cX2_leastLeadingQuality 35 = .ok (.istore_n 2, 1) := by decide +kernel
theorem dX2_leastLeadingQuality_36 : decode cX2_leastLeadingQuality 36 = .ok (.iload_n 3, 1) := by decide +kernel
theorem dX2_leastLeadingQuality_37 : decode cX2_leastLeadingQuality 37 = .ok (.iconst 2, 1) := by decide +kernel
theorem dX2_leastLeadingQuality_38 : decode cX2_leastLeadingQuality 38 = .ok (.idiv, 1) := by decide +kernel
theorem dX2_leastLeadingQuality_39 : decode cX2_leastLeadingQuality 39 = .ok (.istore_n 3, 1) := by decide +kernel
theorem dX2_leastLeadingQuality_40 : decode cX2_leastLeadingQuality 40 = .ok (.goto (-34), 3) := by decide +kernel
theorem dX2_leastLeadingQuality_43 : decode cX2_leastLeadingQuality 43 = .ok (.iload_n 2, 1) := by decide +kernel
theorem dX2_leastLeadingQuality_44 : decode cX2_leastLeadingQuality 44 = .ok (.sipush 1000, 3) := by decide +kernel
theorem dX2_leastLeadingQuality_47 : decode cX2_leastLeadingQuality 47 = .ok (.if_icmp .ge 9, 3) := by decide +kernel
theorem dX2_leastLeadingQuality_50 : decode cX2_leastLeadingQuality 50 = .ok (.iload_n 2, 1) := by decide +kernel
theorem dX2_leastLeadingQuality_51 : decode cX2_leastLeadingQuality 51 = .ok (.iconst 1, 1) := by decide +kernel
theorem dX2_leastLeadingQuality_52 : decode cX2_leastLeadingQuality 52 = .ok (.iadd, 1) := by decide +kernel
theorem dX2_leastLeadingQuality_53 : decode cX2_leastLeadingQuality 53 = .ok (.goto 4, 3) := by decide +kernel
theorem dX2_leastLeadingQuality_56 : decode cX2_leastLeadingQuality 56 = .ok (.iconst (-1), 1) := by decide +kernel
theorem dX2_leastLeadingQuality_57 : decode cX2_leastLeadingQuality 57 = .ok (.ireturn, 1) := by decide +kernel
theorem dX2_leadsAtWeight_0 : decode cX2_leadsAtWeight 0 = .ok (.aload_n 0, 1) := by decide +kernel
theorem dX2_leadsAtWeight_1 : decode cX2_leadsAtWeight 1 = .ok (.iload_n 1, 1) := by decide +kernel
theorem dX2_leadsAtWeight_2 : decode cX2_leadsAtWeight 2 = .ok (.iload_n 2, 1) := by decide +kernel
theorem dX2_leadsAtWeight_3 : decode cX2_leadsAtWeight 3 = .ok (.iload_n 3, 1) := by decide +kernel
theorem dX2_leadsAtWeight_4 : decode cX2_leadsAtWeight 4 = .ok (.iload 4, 2) := by decide +kernel
theorem dX2_leadsAtWeight_6 : decode cX2_leadsAtWeight 6 = .ok (.invokevirtual 69, 3) := by decide +kernel
theorem dX2_leadsAtWeight_9 : decode cX2_leadsAtWeight 9 = .ok (.istore 5, 2) := by decide +kernel
theorem dX2_leadsAtWeight_11 : decode cX2_leadsAtWeight 11 = .ok (.aload_n 0, 1) := by decide +kernel
theorem dX2_leadsAtWeight_12 : decode cX2_leadsAtWeight 12 = .ok (.getfield 30, 3) := by decide +kernel
theorem dX2_leadsAtWeight_15 : decode cX2_leadsAtWeight 15 = .ok (.getfield 51, 3) := by decide +kernel
theorem dX2_leadsAtWeight_18 : decode cX2_leadsAtWeight 18 = .ok (.iload_n 1, 1) := by decide +kernel
theorem dX2_leadsAtWeight_19 : decode cX2_leadsAtWeight 19 = .ok (.iaload, 1) := by decide +kernel
theorem dX2_leadsAtWeight_20 : decode cX2_leadsAtWeight 20 = .ok (.istore 6, 2) := by decide +kernel
theorem dX2_leadsAtWeight_22 : decode cX2_leadsAtWeight 22 = .ok (.iconst 0, 1) := by decide +kernel
theorem dX2_leadsAtWeight_23 : decode cX2_leadsAtWeight 23 = .ok (.istore 7, 2) := by decide +kernel
theorem dX2_leadsAtWeight_25 : decode cX2_leadsAtWeight 25 = .ok (.iload 7, 2) := by decide +kernel
theorem dX2_leadsAtWeight_27 : decode cX2_leadsAtWeight 27 = .ok (.aload_n 0, 1) := by decide +kernel
theorem dX2_leadsAtWeight_28 : decode cX2_leadsAtWeight 28 = .ok (.getfield 30, 3) := by decide +kernel
theorem dX2_leadsAtWeight_31 : decode cX2_leadsAtWeight 31 = .ok (.getfield 34, 3) := by decide +kernel
theorem dX2_leadsAtWeight_34 : decode cX2_leadsAtWeight 34 = .ok (.if_icmp .ge 45, 3) := by decide +kernel
theorem dX2_leadsAtWeight_37 : decode cX2_leadsAtWeight 37 = .ok (.aload_n 0, 1) := by decide +kernel
theorem dX2_leadsAtWeight_38 : decode cX2_leadsAtWeight 38 = .ok (.iload 7, 2) := by decide +kernel
theorem dX2_leadsAtWeight_40 : decode cX2_leadsAtWeight 40 = .ok (.iload_n 2, 1) := by decide +kernel
theorem dX2_leadsAtWeight_41 : decode cX2_leadsAtWeight 41 = .ok (.iload_n 3, 1) := by decide +kernel
theorem dX2_leadsAtWeight_42 : decode cX2_leadsAtWeight 42 = .ok (.iload 4, 2) := by decide +kernel
theorem dX2_leadsAtWeight_44 : decode cX2_leadsAtWeight 44 = .ok (.invokevirtual 69, 3) := by decide +kernel
theorem dX2_leadsAtWeight_47 : decode cX2_leadsAtWeight 47 = .ok (.istore 8, 2) := by decide +kernel
theorem dX2_leadsAtWeight_49 : decode cX2_leadsAtWeight 49 = .ok (.iload 7, 2) := by decide +kernel
theorem dX2_leadsAtWeight_51 : decode cX2_leadsAtWeight 51 = .ok (.iload_n 1, 1) := by decide +kernel
theorem dX2_leadsAtWeight_52 : decode cX2_leadsAtWeight 52 = .ok (.if_icmp .eq 21, 3) := by decide +kernel
theorem dX2_leadsAtWeight_55 : decode cX2_leadsAtWeight 55 = .ok (.aload_n 0, 1) := by decide +kernel
theorem dX2_leadsAtWeight_56 : decode cX2_leadsAtWeight 56 = .ok (.iload 7, 2) := by decide +kernel
theorem dX2_leadsAtWeight_58 : decode cX2_leadsAtWeight 58 = .ok (.iload 8, 2) := by decide +kernel
theorem dX2_leadsAtWeight_60 : decode cX2_leadsAtWeight 60 = .ok (.iload_n 1, 1) := by decide +kernel
theorem dX2_leadsAtWeight_61 : decode cX2_leadsAtWeight 61 = .ok (.iload 5, 2) := by decide +kernel
theorem dX2_leadsAtWeight_63 : decode cX2_leadsAtWeight 63 = .ok (.iload 6, 2) := by decide +kernel
theorem dX2_leadsAtWeight_65 : decode cX2_leadsAtWeight 65 = .ok (.invokevirtual 81, 3) := by decide +kernel
theorem dX2_leadsAtWeight_68 : decode cX2_leadsAtWeight 68 = .ok (.ifCond .eq 5, 3) := by decide +kernel
theorem dX2_leadsAtWeight_71 : decode cX2_leadsAtWeight 71 = .ok (.iconst 0, 1) := by decide +kernel
theorem dX2_leadsAtWeight_72 : decode cX2_leadsAtWeight 72 = .ok (.ireturn, 1) := by decide +kernel
theorem dX2_leadsAtWeight_73 : decode cX2_leadsAtWeight 73 = .ok (.iinc 7 1, 3) := by decide +kernel
theorem dX2_leadsAtWeight_76 : decode cX2_leadsAtWeight 76 = .ok (.goto (-51), 3) := by decide +kernel
theorem dX2_leadsAtWeight_79 : decode cX2_leadsAtWeight 79 = .ok (.iload 5, 2) := by decide +kernel
theorem dX2_leadsAtWeight_81 : decode cX2_leadsAtWeight 81 = .ok (.ifCond .le 7, 3) := by decide +kernel
theorem dX2_leadsAtWeight_84 : decode cX2_leadsAtWeight 84 = .ok (.iconst 1, 1) := by decide +kernel
theorem dX2_leadsAtWeight_85 : decode cX2_leadsAtWeight 85 = .ok (.goto 4, 3) := by decide +kernel
theorem dX2_leadsAtWeight_88 : decode cX2_leadsAtWeight 88 = .ok (.iconst 0, 1) := by decide +kernel
theorem dX2_leadsAtWeight_89 : decode cX2_leadsAtWeight 89 = .ok (.ireturn, 1) := by decide +kernel
theorem dX2_leadsAtQuality_0 : decode cX2_leadsAtQuality 0 = .ok (.aload_n 0, 1) := by decide +kernel
theorem dX2_leadsAtQuality_1 : decode cX2_leadsAtQuality 1 = .ok (.iload_n 1, 1) := by decide +kernel
theorem dX2_leadsAtQuality_2 : decode cX2_leadsAtQuality 2 = .ok (.iload_n 2, 1) := by decide +kernel
theorem dX2_leadsAtQuality_3 : decode cX2_leadsAtQuality 3 = .ok (.invokevirtual 54, 3) := by decide +kernel
theorem dX2_leadsAtQuality_6 : decode cX2_leadsAtQuality 6 = .ok (.istore_n 3, 1) := by decide +kernel
theorem dX2_leadsAtQuality_7 : decode cX2_leadsAtQuality 7 = .ok (.iconst 0, 1) := by decide +kernel
theorem dX2_leadsAtQuality_8 : decode cX2_leadsAtQuality 8 = .ok (.istore 4, 2) := by decide +kernel
theorem dX2_leadsAtQuality_10 : decode cX2_leadsAtQuality 10 = .ok (.iload 4, 2) := by decide +kernel
theorem dX2_leadsAtQuality_12 : decode cX2_leadsAtQuality 12 = .ok (.aload_n 0, 1) := by decide +kernel
theorem dX2_leadsAtQuality_13 : decode cX2_leadsAtQuality 13 = .ok (.getfield 30, 3) := by decide +kernel
theorem dX2_leadsAtQuality_16 : decode cX2_leadsAtQuality 16 = .ok (.getfield 34, 3) := by decide +kernel
theorem dX2_leadsAtQuality_19 : decode cX2_leadsAtQuality 19 = .ok (.if_icmp .ge 36, 3) := by decide +kernel
theorem dX2_leadsAtQuality_22 : decode cX2_leadsAtQuality 22 = .ok (.iload 4, 2) := by decide +kernel
theorem dX2_leadsAtQuality_24 : decode cX2_leadsAtQuality 24 = .ok (.iload_n 1, 1) := by decide +kernel
theorem dX2_leadsAtQuality_25 : decode cX2_leadsAtQuality 25 = .ok (.if_icmp .eq 24, 3) := by decide +kernel
theorem dX2_leadsAtQuality_28 : decode cX2_leadsAtQuality 28 = .ok (.aload_n 0, 1) := by decide +kernel
theorem dX2_leadsAtQuality_29 : decode cX2_leadsAtQuality 29 = .ok (.iload 4, 2) := by decide +kernel
theorem dX2_leadsAtQuality_31 : decode cX2_leadsAtQuality 31 = .ok (.aload_n 0, 1) := by decide +kernel
theorem dX2_leadsAtQuality_32 : decode cX2_leadsAtQuality 32 = .ok (.getfield 18, 3) := by decide +kernel
theorem dX2_leadsAtQuality_35 : decode cX2_leadsAtQuality 35 = .ok (.iload 4, 2) := by decide +kernel
theorem dX2_leadsAtQuality_37 : decode cX2_leadsAtQuality 37 = .ok (.iaload, 1) := by decide +kernel
theorem dX2_leadsAtQuality_38 : decode cX2_leadsAtQuality 38 = .ok (.iload_n 1, 1) := by decide +kernel
theorem dX2_leadsAtQuality_39 : decode cX2_leadsAtQuality 39 = .ok (.iload_n 3, 1) := by decide +kernel
theorem dX2_leadsAtQuality_40 : decode cX2_leadsAtQuality 40 = .ok (.iload_n 2, 1) := by decide +kernel
theorem dX2_leadsAtQuality_41 : decode cX2_leadsAtQuality 41 = .ok (.invokevirtual 81, 3) := by decide +kernel
theorem dX2_leadsAtQuality_44 : decode cX2_leadsAtQuality 44 = .ok (.ifCond .eq 5, 3) := by decide +kernel
theorem dX2_leadsAtQuality_47 : decode cX2_leadsAtQuality 47 = .ok (.iconst 0, 1) := by decide +kernel
theorem dX2_leadsAtQuality_48 : decode cX2_leadsAtQuality 48 = .ok (.ireturn, 1) := by decide +kernel
theorem dX2_leadsAtQuality_49 : decode cX2_leadsAtQuality 49 = .ok (.iinc 4 1, 3) := by decide +kernel
theorem dX2_leadsAtQuality_52 : decode cX2_leadsAtQuality 52 = .ok (.goto (-42), 3) := by decide +kernel
theorem dX2_leadsAtQuality_55 : decode cX2_leadsAtQuality 55 = .ok (.iload_n 3, 1) := by decide +kernel
theorem dX2_leadsAtQuality_56 : decode cX2_leadsAtQuality 56 = .ok (.ifCond .le 7, 3) := by decide +kernel
theorem dX2_leadsAtQuality_59 : decode cX2_leadsAtQuality 59 = .ok (.iconst 1, 1) := by decide +kernel
theorem dX2_leadsAtQuality_60 : decode cX2_leadsAtQuality 60 = .ok (.goto 4, 3) := by decide +kernel
theorem dX2_leadsAtQuality_63 : decode cX2_leadsAtQuality 63 = .ok (.iconst 0, 1) := by decide +kernel
theorem dX2_leadsAtQuality_64 : decode cX2_leadsAtQuality 64 = .ok (.ireturn, 1) := by decide +kernel
theorem dX2_scoreOfQuality_0 : decode cX2_scoreOfQuality 0 = .ok (.iload_n 2, 1) := by decide +kernel
theorem dX2_scoreOfQuality_1 : decode cX2_scoreOfQuality 1 = .ok (.istore_n 3, 1) := by decide +kernel
theorem dX2_scoreOfQuality_2 : decode cX2_scoreOfQuality 2 = .ok (.iconst 0, 1) := by decide +kernel
theorem dX2_scoreOfQuality_3 : decode cX2_scoreOfQuality 3 = .ok (.istore 4, 2) := by decide +kernel
theorem dX2_scoreOfQuality_5 : decode cX2_scoreOfQuality 5 = .ok (.iload 4, 2) := by decide +kernel
theorem dX2_scoreOfQuality_7 : decode cX2_scoreOfQuality 7 = .ok (.bipush 6, 2) := by decide +kernel
theorem dX2_scoreOfQuality_9 : decode cX2_scoreOfQuality 9 = .ok (.if_icmp .ge 27, 3) := by decide +kernel
theorem dX2_scoreOfQuality_12 : decode cX2_scoreOfQuality 12 = .ok (.iload_n 3, 1) := by decide +kernel
theorem dX2_scoreOfQuality_13 : decode cX2_scoreOfQuality 13 = .ok (.aload_n 0, 1) := by decide +kernel
theorem dX2_scoreOfQuality_14 : decode cX2_scoreOfQuality 14 = .ok (.getfield 15, 3) := by decide +kernel
theorem dX2_scoreOfQuality_17 : decode cX2_scoreOfQuality 17 = .ok (.iload_n 1, 1) := by decide +kernel
theorem dX2_scoreOfQuality_18 : decode cX2_scoreOfQuality 18 = .ok (.iload 4, 2) := by decide +kernel
theorem dX2_scoreOfQuality_20 : decode cX2_scoreOfQuality 20 = .ok (.invokestatic 44, 3) := by decide +kernel
theorem dX2_scoreOfQuality_23 : decode cX2_scoreOfQuality 23 = .ok (.iaload, 1) := by decide +kernel
theorem dX2_scoreOfQuality_24 : decode cX2_scoreOfQuality 24 = .ok (.imul, 1) := by decide +kernel
theorem dX2_scoreOfQuality_25 : decode cX2_scoreOfQuality 25 = .ok (.sipush 1000, 3) := by decide +kernel
theorem dX2_scoreOfQuality_28 : decode cX2_scoreOfQuality 28 = .ok (.idiv, 1) := by decide +kernel
theorem dX2_scoreOfQuality_29 : decode cX2_scoreOfQuality 29 = .ok (.istore_n 3, 1) := by decide +kernel
theorem dX2_scoreOfQuality_30 : decode cX2_scoreOfQuality 30 = .ok (.iinc 4 1, 3) := by decide +kernel
theorem dX2_scoreOfQuality_33 : decode cX2_scoreOfQuality 33 = .ok (.goto (-28), 3) := by decide +kernel
theorem dX2_scoreOfQuality_36 : decode cX2_scoreOfQuality 36 = .ok (.iload_n 3, 1) := by decide +kernel
theorem dX2_scoreOfQuality_37 : decode cX2_scoreOfQuality 37 = .ok (.ireturn, 1) := by decide +kernel
theorem dX2_scoreOfWeight_0 : decode cX2_scoreOfWeight 0 = .ok (.aload_n 0, 1) := by decide +kernel
theorem dX2_scoreOfWeight_1 : decode cX2_scoreOfWeight 1 = .ok (.getfield 9, 3) := by decide +kernel
theorem dX2_scoreOfWeight_4 : decode cX2_scoreOfWeight 4 = .ok (.iload_n 1, 1) := by decide +kernel
theorem dX2_scoreOfWeight_5 : decode cX2_scoreOfWeight 5 = .ok (.iload_n 2, 1) := by decide +kernel
theorem dX2_scoreOfWeight_6 : decode cX2_scoreOfWeight 6 = .ok (.invokestatic 44, 3) := by decide +kernel
theorem dX2_scoreOfWeight_9 : decode cX2_scoreOfWeight 9 = .ok (.iaload, 1) := by decide +kernel
theorem dX2_scoreOfWeight_10 : decode cX2_scoreOfWeight 10 = .ok (.iload_n 3, 1) := by decide +kernel
theorem dX2_scoreOfWeight_11 : decode cX2_scoreOfWeight 11 = .ok (.if_icmp .eq 10, 3) := by decide +kernel
theorem dX2_scoreOfWeight_14 : decode cX2_scoreOfWeight 14 = .ok (.aload_n 0, 1) := by decide +kernel
theorem dX2_scoreOfWeight_15 : decode cX2_scoreOfWeight 15 = .ok (.getfield 18, 3) := by decide +kernel
theorem dX2_scoreOfWeight_18 : decode cX2_scoreOfWeight 18 = .ok (.iload_n 1, 1) := by decide +kernel
theorem dX2_scoreOfWeight_19 : decode cX2_scoreOfWeight 19 = .ok (.iaload, 1) := by decide +kernel
theorem dX2_scoreOfWeight_20 : decode cX2_scoreOfWeight 20 = .ok (.ireturn, 1) := by decide +kernel
theorem dX2_scoreOfWeight_21 : decode cX2_scoreOfWeight 21 = .ok (.aload_n 0, 1) := by decide +kernel
theorem dX2_scoreOfWeight_22 : decode cX2_scoreOfWeight 22 = .ok (.getfield 30, 3) := by decide +kernel
theorem dX2_scoreOfWeight_25 : decode cX2_scoreOfWeight 25 = .ok (.getfield 51, 3) := by decide +kernel
theorem dX2_scoreOfWeight_28 : decode cX2_scoreOfWeight 28 = .ok (.iload_n 1, 1) := by decide +kernel
theorem dX2_scoreOfWeight_29 : decode cX2_scoreOfWeight 29 = .ok (.iaload, 1) := by decide +kernel
theorem dX2_scoreOfWeight_30 : decode cX2_scoreOfWeight 30 = .ok (.istore 5, 2) := by decide +kernel
theorem dX2_scoreOfWeight_32 : decode cX2_scoreOfWeight 32 = .ok (.iconst 0, 1) := by decide +kernel
theorem dX2_scoreOfWeight_33 : decode cX2_scoreOfWeight 33 = .ok (.istore 6, 2) := by decide +kernel
theorem dX2_scoreOfWeight_35 : decode cX2_scoreOfWeight 35 = .ok (.iload 6, 2) := by decide +kernel
theorem dX2_scoreOfWeight_37 : decode cX2_scoreOfWeight 37 = .ok (.bipush 6, 2) := by decide +kernel
theorem dX2_scoreOfWeight_39 : decode cX2_scoreOfWeight 39 = .ok (.if_icmp .ge 44, 3) := by decide +kernel
theorem dX2_scoreOfWeight_42 : decode cX2_scoreOfWeight 42 = .ok (.iload 6, 2) := by decide +kernel
theorem dX2_scoreOfWeight_44 : decode cX2_scoreOfWeight 44 = .ok (.iload_n 2, 1) := by decide +kernel
theorem dX2_scoreOfWeight_45 : decode cX2_scoreOfWeight 45 = .ok (.if_icmp .ne 8, 3) := by decide +kernel
theorem dX2_scoreOfWeight_48 : decode cX2_scoreOfWeight 48 = .ok (.iload 4, 2) := by decide +kernel
theorem dX2_scoreOfWeight_50 : decode cX2_scoreOfWeight 50 = .ok (.goto 14, 3) := by decide +kernel
theorem dX2_scoreOfWeight_53 : decode cX2_scoreOfWeight 53 = .ok (.aload_n 0, 1) := by decide +kernel
theorem dX2_scoreOfWeight_54 : decode cX2_scoreOfWeight 54 = .ok (.getfield 15, 3) := by decide +kernel
theorem dX2_scoreOfWeight_57 : decode cX2_scoreOfWeight 57 = .ok (.iload_n 1, 1) := by decide +kernel
theorem dX2_scoreOfWeight_58 : decode cX2_scoreOfWeight 58 = .ok (.iload 6, 2) := by decide +kernel
theorem dX2_scoreOfWeight_60 : decode cX2_scoreOfWeight 60 = .ok (.invokestatic 44, 3) := by decide +kernel
theorem dX2_scoreOfWeight_63 : decode cX2_scoreOfWeight 63 = .ok (.iaload, 1) := by decide +kernel
theorem dX2_scoreOfWeight_64 : decode cX2_scoreOfWeight 64 = .ok (.istore 7, 2) := by decide +kernel
theorem dX2_scoreOfWeight_66 : decode cX2_scoreOfWeight 66 = .ok (.iload 5, 2) := by decide +kernel
theorem dX2_scoreOfWeight_68 : decode cX2_scoreOfWeight 68 = .ok (.iload 7, 2) := by decide +kernel
theorem dX2_scoreOfWeight_70 : decode cX2_scoreOfWeight 70 = .ok (.imul, 1) := by decide +kernel
theorem dX2_scoreOfWeight_71 : decode cX2_scoreOfWeight 71 = .ok (.sipush 1000, 3) := by decide +kernel
theorem dX2_scoreOfWeight_74 : decode cX2_scoreOfWeight 74 = .ok (.idiv, 1) := by decide +kernel
theorem dX2_scoreOfWeight_75 : decode cX2_scoreOfWeight 75 = .ok (.istore 5, 2) := by decide +kernel
theorem dX2_scoreOfWeight_77 : decode cX2_scoreOfWeight 77 = .ok (.iinc 6 1, 3) := by decide +kernel
theorem dX2_scoreOfWeight_80 : decode cX2_scoreOfWeight 80 = .ok (.goto (-45), 3) := by decide +kernel
theorem dX2_scoreOfWeight_83 : decode cX2_scoreOfWeight 83 = .ok (.iload 5, 2) := by decide +kernel
theorem dX2_scoreOfWeight_85 : decode cX2_scoreOfWeight 85 = .ok (.ireturn, 1) := by decide +kernel
theorem dX2_rankAll_0 : decode cX2_rankAll 0 = .ok (.aload_n 0, 1) := by decide +kernel
theorem dX2_rankAll_1 : decode cX2_rankAll 1 = .ok (.iconst 0, 1) := by decide +kernel
theorem dX2_rankAll_2 : decode cX2_rankAll 2 = .ok (.putfield 66, 3) := by decide +kernel
theorem dX2_rankAll_5 : decode cX2_rankAll 5 = .ok (.iconst 0, 1) := by decide +kernel
theorem dX2_rankAll_6 : decode cX2_rankAll 6 = .ok (.istore_n 1, 1) := by decide +kernel
theorem dX2_rankAll_7 : decode cX2_rankAll 7 = .ok (.iload_n 1, 1) := by decide +kernel
theorem dX2_rankAll_8 : decode cX2_rankAll 8 = .ok (.aload_n 0, 1) := by decide +kernel
theorem dX2_rankAll_9 : decode cX2_rankAll 9 = .ok (.getfield 30, 3) := by decide +kernel
theorem dX2_rankAll_12 : decode cX2_rankAll 12 = .ok (.getfield 34, 3) := by decide +kernel
theorem dX2_rankAll_15 : decode cX2_rankAll 15 = .ok (.if_icmp .ge 30, 3) := by decide +kernel
theorem dX2_rankAll_18 : decode cX2_rankAll 18 = .ok (.aload_n 0, 1) := by decide +kernel
theorem dX2_rankAll_19 : decode cX2_rankAll 19 = .ok (.getfield 21, 3) := by decide +kernel
theorem dX2_rankAll_22 : decode cX2_rankAll 22 = .ok (.iload_n 1, 1) := by decide +kernel
theorem dX2_rankAll_23 : decode cX2_rankAll 23 = .ok (.iconst (-1), 1) := by decide +kernel
theorem dX2_rankAll_24 : decode cX2_rankAll 24 = .ok (.iastore, 1) := by decide +kernel
theorem dX2_rankAll_25 : decode cX2_rankAll 25 = .ok (.aload_n 0, 1) := by decide +kernel
theorem dX2_rankAll_26 : decode cX2_rankAll 26 = .ok (.getfield 18, 3) := by decide +kernel
theorem dX2_rankAll_29 : decode cX2_rankAll 29 = .ok (.iload_n 1, 1) := by decide +kernel
theorem dX2_rankAll_30 : decode cX2_rankAll 30 = .ok (.iaload, 1) := by decide +kernel
theorem dX2_rankAll_31 : decode cX2_rankAll 31 = .ok (.ifCond .le 8, 3) := by decide +kernel
theorem dX2_rankAll_34 : decode cX2_rankAll 34 = .ok (.aload_n 0, 1) := by decide +kernel
theorem dX2_rankAll_35 : decode cX2_rankAll 35 = .ok (.iload_n 1, 1) := by decide +kernel
theorem dX2_rankAll_36 : decode cX2_rankAll 36 = .ok (.invokevirtual 85, 3) := by decide +kernel
theorem dX2_rankAll_39 : decode cX2_rankAll 39 = .ok (.iinc 1 1, 3) := by decide +kernel
theorem dX2_rankAll_42 : decode cX2_rankAll 42 = .ok (.goto (-35), 3) := by decide +kernel
theorem dX2_rankAll_45 : decode cX2_rankAll 45 = .ok (.iconst 0, 1) := by decide +kernel
theorem dX2_rankAll_46 : decode cX2_rankAll 46 = .ok (.istore_n 1, 1) := by decide +kernel
theorem dX2_rankAll_47 : decode cX2_rankAll 47 = .ok (.iload_n 1, 1) := by decide +kernel
theorem dX2_rankAll_48 : decode cX2_rankAll 48 = .ok (.aload_n 0, 1) := by decide +kernel
theorem dX2_rankAll_49 : decode cX2_rankAll 49 = .ok (.getfield 66, 3) := by decide +kernel
theorem dX2_rankAll_52 : decode cX2_rankAll 52 = .ok (.if_icmp .ge 21, 3) := by decide +kernel
theorem dX2_rankAll_55 : decode cX2_rankAll 55 = .ok (.aload_n 0, 1) := by decide +kernel
theorem dX2_rankAll_56 : decode cX2_rankAll 56 = .ok (.getfield 21, 3) := by decide +kernel
theorem dX2_rankAll_59 : decode cX2_rankAll 59 = .ok (.aload_n 0, 1) := by decide +kernel
theorem dX2_rankAll_60 : decode cX2_rankAll 60 = .ok (.getfield 24, 3) := by decide +kernel
theorem dX2_rankAll_63 : decode cX2_rankAll 63 = .ok (.iload_n 1, 1) := by decide +kernel
theorem dX2_rankAll_64 : decode cX2_rankAll 64 = .ok (.iaload, 1) := by decide +kernel
theorem dX2_rankAll_65 : decode cX2_rankAll 65 = .ok (.iload_n 1, 1) := by decide +kernel
theorem dX2_rankAll_66 : decode cX2_rankAll 66 = .ok (.iastore, 1) := by decide +kernel
theorem dX2_rankAll_67 : decode cX2_rankAll 67 = .ok (.iinc 1 1, 3) := by decide +kernel
theorem dX2_rankAll_70 : decode cX2_rankAll 70 = .ok (.goto (-23), 3) := by decide +kernel
theorem dX2_rankAll_73 : decode cX2_rankAll 73 = .ok (.return_, 1) := by decide +kernel
theorem dX2_rankOne_0 : decode cX2_rankOne 0 = .ok (.aload_n 0, 1) := by decide +kernel
theorem dX2_rankOne_1 : decode cX2_rankOne 1 = .ok (.getfield 18, 3) := by decide +kernel
theorem dX2_rankOne_4 : decode cX2_rankOne 4 = .ok (.iload_n 1, 1) := by decide +kernel
theorem dX2_rankOne_5 : decode cX2_rankOne 5 = .ok (.iaload, 1) := by decide +kernel
theorem dX2_rankOne_6 : decode cX2_rankOne 6 = .ok (.istore_n 2, 1) := by decide +kernel
theorem dX2_rankOne_7 : decode cX2_rankOne 7 = .ok (.aload_n 0, 1) := by decide +kernel
theorem dX2_rankOne_8 : decode cX2_rankOne 8 = .ok (.getfield 30, 3) := by decide +kernel
theorem dX2_rankOne_11 : decode cX2_rankOne 11 = .ok (.getfield 51, 3) := by decide +kernel
theorem dX2_rankOne_14 : decode cX2_rankOne 14 = .ok (.iload_n 1, 1) := by decide +kernel
theorem dX2_rankOne_15 : decode cX2_rankOne 15 = .ok (.iaload, 1) := by decide +kernel
theorem dX2_rankOne_16 : decode cX2_rankOne 16 = .ok (.istore_n 3, 1) := by decide +kernel
theorem dX2_rankOne_17 : decode cX2_rankOne 17 = .ok (.aload_n 0, 1) := by decide +kernel
theorem dX2_rankOne_18 : decode cX2_rankOne 18 = .ok (.getfield 66, 3) := by decide +kernel
theorem dX2_rankOne_21 : decode cX2_rankOne 21 = .ok (.istore 4, 2) := by decide +kernel
theorem dX2_rankOne_23 : decode cX2_rankOne 23 = .ok (.iload 4, 2) := by decide +kernel
theorem dX2_rankOne_25 : decode cX2_rankOne 25 = .ok (.ifCond .le 58, 3) := by decide +kernel
theorem dX2_rankOne_28 : decode cX2_rankOne 28 = .ok (.aload_n 0, 1) := by decide +kernel
theorem dX2_rankOne_29 : decode cX2_rankOne 29 = .ok (.aload_n 0, 1) := by decide +kernel
theorem dX2_rankOne_30 : decode cX2_rankOne 30 = .ok (.getfield 24, 3) := by decide +kernel
theorem dX2_rankOne_33 : decode cX2_rankOne 33 = .ok (.iload 4, 2) := by decide +kernel
theorem dX2_rankOne_35 : decode cX2_rankOne 35 = .ok (.iconst 1, 1) := by decide +kernel
theorem dX2_rankOne_36 : decode cX2_rankOne 36 = .ok (.isub, 1) := by decide +kernel
theorem dX2_rankOne_37 : decode cX2_rankOne 37 = .ok (.iaload, 1) := by decide +kernel
theorem dX2_rankOne_38 : decode cX2_rankOne 38 = .ok (.aload_n 0, 1) := by decide +kernel
theorem dX2_rankOne_39 : decode cX2_rankOne 39 = .ok (.getfield 18, 3) := by decide +kernel
theorem dX2_rankOne_42 : decode cX2_rankOne 42 = .ok (.aload_n 0, 1) := by decide +kernel
theorem dX2_rankOne_43 : decode cX2_rankOne 43 = .ok (.getfield 24, 3) := by decide +kernel
theorem dX2_rankOne_46 : decode cX2_rankOne 46 = .ok (.iload 4, 2) := by decide +kernel
theorem dX2_rankOne_48 : decode cX2_rankOne 48 = .ok (.iconst 1, 1) := by decide +kernel
theorem dX2_rankOne_49 : decode cX2_rankOne 49 = .ok (.isub, 1) := by decide +kernel
theorem dX2_rankOne_50 : decode cX2_rankOne 50 = .ok (.iaload, 1) := by decide +kernel
theorem dX2_rankOne_51 : decode cX2_rankOne 51 = .ok (.iaload, 1) := by decide +kernel
theorem dX2_rankOne_52 : decode cX2_rankOne 52 = .ok (.iload_n 1, 1) := by decide +kernel
theorem dX2_rankOne_53 : decode cX2_rankOne 53 = .ok (.iload_n 2, 1) := by decide +kernel
theorem dX2_rankOne_54 : decode cX2_rankOne 54 = .ok (.iload_n 3, 1) := by decide +kernel
theorem dX2_rankOne_55 : decode cX2_rankOne 55 = .ok (.invokevirtual 81, 3) := by decide +kernel
theorem dX2_rankOne_58 : decode cX2_rankOne 58 = .ok (.ifCond .ne 25, 3) := by decide +kernel
theorem dX2_rankOne_61 : decode cX2_rankOne 61 = .ok (.aload_n 0, 1) := by decide +kernel
theorem dX2_rankOne_62 : decode cX2_rankOne 62 = .ok (.getfield 24, 3) := by decide +kernel
theorem dX2_rankOne_65 : decode cX2_rankOne 65 = .ok (.iload 4, 2) := by decide +kernel
theorem dX2_rankOne_67 : decode cX2_rankOne 67 = .ok (.aload_n 0, 1) := by decide +kernel
theorem dX2_rankOne_68 : decode cX2_rankOne 68 = .ok (.getfield 24, 3) := by decide +kernel
theorem dX2_rankOne_71 : decode cX2_rankOne 71 = .ok (.iload 4, 2) := by decide +kernel
theorem dX2_rankOne_73 : decode cX2_rankOne 73 = .ok (.iconst 1, 1) := by decide +kernel
theorem dX2_rankOne_74 : decode cX2_rankOne 74 = .ok (.isub, 1) := by decide +kernel
theorem dX2_rankOne_75 : decode cX2_rankOne 75 = .ok (.iaload, 1) := by decide +kernel
theorem dX2_rankOne_76 : decode cX2_rankOne 76 = .ok (.iastore, 1) := by decide +kernel
theorem dX2_rankOne_77 : decode cX2_rankOne 77 = .ok (.iinc 4 (-1), 3) := by decide +kernel
theorem dX2_rankOne_80 : decode cX2_rankOne 80 = .ok (.goto (-57), 3) := by decide +kernel
theorem dX2_rankOne_83 : decode cX2_rankOne 83 = .ok (.aload_n 0, 1) := by decide +kernel
theorem dX2_rankOne_84 : decode cX2_rankOne 84 = .ok (.getfield 24, 3) := by decide +kernel
theorem dX2_rankOne_87 : decode cX2_rankOne 87 = .ok (.iload 4, 2) := by decide +kernel
theorem dX2_rankOne_89 : decode cX2_rankOne 89 = .ok (.iload_n 1, 1) := by decide +kernel
theorem dX2_rankOne_90 : decode cX2_rankOne 90 = .ok (.iastore, 1) := by decide +kernel
theorem dX2_rankOne_91 : decode cX2_rankOne 91 = .ok (.aload_n 0, 1) := by decide +kernel
theorem dX2_rankOne_92 : decode cX2_rankOne 92 = .ok (.dup, 1) := by decide +kernel
theorem dX2_rankOne_93 : decode cX2_rankOne 93 = .ok (.getfield 66, 3) := by decide +kernel
theorem dX2_rankOne_96 : decode cX2_rankOne 96 = .ok (.iconst 1, 1) := by decide +kernel
theorem dX2_rankOne_97 : decode cX2_rankOne 97 = .ok (.iadd, 1) := by decide +kernel
theorem dX2_rankOne_98 : decode cX2_rankOne 98 = .ok (.putfield 66, 3) := by decide +kernel
theorem dX2_rankOne_101 : decode cX2_rankOne 101 = .ok (.return_, 1) := by decide +kernel
theorem dX2_isAhead_0 : decode cX2_isAhead 0 = .ok (.iload_n 2, 1) := by decide +kernel
theorem dX2_isAhead_1 : decode cX2_isAhead 1 = .ok (.iload 4, 2) := by decide +kernel
theorem dX2_isAhead_3 : decode cX2_isAhead 3 = .ok (.if_icmp .eq 15, 3) := by decide +kernel
theorem dX2_isAhead_6 : decode cX2_isAhead 6 = .ok (.iload_n 2, 1) := by decide +kernel
theorem dX2_isAhead_7 : decode cX2_isAhead 7 = .ok (.iload 4, 2) := by decide +kernel
theorem dX2_isAhead_9 : decode cX2_isAhead 9 = .ok (.if_icmp .le 7, 3) := by decide +kernel
theorem dX2_isAhead_12 : decode cX2_isAhead 12 = .ok (.iconst 1, 1) := by decide +kernel
theorem dX2_isAhead_13 : decode cX2_isAhead 13 = .ok (.goto 4, 3) := by decide +kernel
theorem dX2_isAhead_16 : decode cX2_isAhead 16 = .ok (.iconst 0, 1) := by decide +kernel
theorem dX2_isAhead_17 : decode cX2_isAhead 17 = .ok (.ireturn, 1) := by decide +kernel
theorem dX2_isAhead_18 : decode cX2_isAhead 18 = .ok (.iconst 0, 1) := by decide +kernel
theorem dX2_isAhead_19 : decode cX2_isAhead 19 = .ok (.istore 6, 2) := by decide +kernel
theorem dX2_isAhead_21 : decode cX2_isAhead 21 = .ok (.iload 6, 2) := by decide +kernel
theorem dX2_isAhead_23 : decode cX2_isAhead 23 = .ok (.iconst 3, 1) := by decide +kernel
theorem dX2_isAhead_24 : decode cX2_isAhead 24 = .ok (.if_icmp .ge 87, 3) := by decide +kernel
theorem dX2_isAhead_27 : decode cX2_isAhead 27 = .ok (.aload_n 0, 1) := by decide +kernel
theorem dX2_isAhead_28 : decode cX2_isAhead 28 = .ok (.getfield 30, 3) := by decide +kernel
theorem dX2_isAhead_31 : decode cX2_isAhead 31 = .ok (.getfield 57, 3) := by decide +kernel
theorem dX2_isAhead_34 : decode cX2_isAhead 34 = .ok (.iload 6, 2) := by decide +kernel
theorem dX2_isAhead_36 : decode cX2_isAhead 36 = .ok (.iaload, 1) := by decide +kernel
theorem dX2_isAhead_37 : decode cX2_isAhead 37 = .ok (.iconst 5, 1) := by decide +kernel
theorem dX2_isAhead_38 : decode cX2_isAhead 38 = .ok (.if_icmp .ne 7, 3) := by decide +kernel
theorem dX2_isAhead_41 : decode cX2_isAhead 41 = .ok (.iconst 1, 1) := by decide +kernel
theorem dX2_isAhead_42 : decode cX2_isAhead 42 = .ok (.goto 4, 3) := by decide +kernel
theorem dX2_isAhead_45 : decode cX2_isAhead 45 = .ok (.iconst 0, 1) := by decide +kernel
theorem dX2_isAhead_46 : decode cX2_isAhead 46 = .ok (.istore 7, 2) := by decide +kernel
theorem dX2_isAhead_48 : decode cX2_isAhead 48 = .ok (.aload_n 0, 1) := by decide +kernel
theorem dX2_isAhead_49 : decode cX2_isAhead 49 = .ok (.getfield 27, 3) := by decide +kernel
theorem dX2_isAhead_52 : decode cX2_isAhead 52 = .ok (.iload_n 1, 1) := by decide +kernel
theorem dX2_isAhead_53 : decode cX2_isAhead 53 = .ok (.iconst 3, 1) := by decide +kernel
theorem dX2_isAhead_54 : decode cX2_isAhead 54 = .ok (.imul, 1) := by decide +kernel
theorem dX2_isAhead_55 : decode cX2_isAhead 55 = .ok (.iload 6, 2) := by decide +kernel
theorem dX2_isAhead_57 : decode cX2_isAhead 57 = .ok (.iadd, 1) := by decide +kernel
theorem dX2_isAhead_58 : decode cX2_isAhead 58 = .ok (.iaload, 1) := by decide +kernel
theorem dX2_isAhead_59 : decode cX2_isAhead 59 = .ok (.istore 8, 2) := by decide +kernel
theorem dX2_isAhead_61 : decode cX2_isAhead 61 = .ok (.iload 7, 2) := by decide +kernel
theorem dX2_isAhead_63 : decode cX2_isAhead 63 = .ok (.ifCond .eq 9, 3) := by decide +kernel
theorem dX2_isAhead_66 : decode cX2_isAhead 66 = .ok (.iload 5, 2) := by decide +kernel
theorem dX2_isAhead_68 : decode cX2_isAhead 68 = .ok (.ineg, 1) := by decide +kernel
theorem dX2_isAhead_69 : decode cX2_isAhead 69 = .ok (.goto 14, 3) := by decide +kernel
theorem dX2_isAhead_72 : decode cX2_isAhead 72 = .ok (.aload_n 0, 1) := by decide +kernel
theorem dX2_isAhead_73 : decode cX2_isAhead 73 = .ok (.getfield 27, 3) := by decide +kernel
theorem dX2_isAhead_76 : decode cX2_isAhead 76 = .ok (.iload_n 3, 1) := by decide +kernel
theorem dX2_isAhead_77 : decode cX2_isAhead 77 = .ok (.iconst 3, 1) := by decide +kernel
theorem dX2_isAhead_78 : decode cX2_isAhead 78 = .ok (.imul, 1) := by decide +kernel
theorem dX2_isAhead_79 : decode cX2_isAhead 79 = .ok (.iload 6, 2) := by decide +kernel
theorem dX2_isAhead_81 : decode cX2_isAhead 81 = .ok (.iadd, 1) := by decide +kernel
theorem dX2_isAhead_82 : decode cX2_isAhead 82 = .ok (.iaload, 1) := by decide +kernel
theorem dX2_isAhead_83 : decode cX2_isAhead 83 = .ok (.istore 9, 2) := by decide +kernel
theorem dX2_isAhead_85 : decode cX2_isAhead 85 = .ok (.iload 8, 2) := by decide +kernel
theorem dX2_isAhead_87 : decode cX2_isAhead 87 = .ok (.iload 9, 2) := by decide +kernel
theorem dX2_isAhead_89 : decode cX2_isAhead 89 = .ok (.if_icmp .eq 16, 3) := by decide +kernel
theorem dX2_isAhead_92 : decode cX2_isAhead 92 = .ok (.iload 8, 2) := by decide +kernel
theorem dX2_isAhead_94 : decode cX2_isAhead 94 = .ok (.iload 9, 2) := by decide +kernel
theorem dX2_isAhead_96 : decode cX2_isAhead 96 = .ok (.if_icmp .ge 7, 3) := by decide +kernel
theorem dX2_isAhead_99 : decode cX2_isAhead 99 = .ok (.iconst 1, 1) := by decide +kernel
theorem dX2_isAhead_100 : decode cX2_isAhead 100 = .ok (.goto 4, 3) := by decide +kernel
theorem dX2_isAhead_103 : decode cX2_isAhead 103 = .ok (.iconst 0, 1) := by decide +kernel
theorem dX2_isAhead_104 : decode cX2_isAhead 104 = .ok (.ireturn, 1) := by decide +kernel
theorem dX2_isAhead_105 : decode cX2_isAhead 105 = .ok (.iinc 6 1, 3) := by decide +kernel
theorem dX2_isAhead_108 : decode cX2_isAhead 108 = .ok (.goto (-87), 3) := by decide +kernel
theorem dX2_isAhead_111 : decode cX2_isAhead 111 = .ok (.iload_n 1, 1) := by decide +kernel
theorem dX2_isAhead_112 : decode cX2_isAhead 112 = .ok (.iload_n 3, 1) := by decide +kernel
theorem dX2_isAhead_113 : decode cX2_isAhead 113 = .ok (.if_icmp .ge 7, 3) := by decide +kernel
theorem dX2_isAhead_116 : decode cX2_isAhead 116 = .ok (.iconst 1, 1) := by decide +kernel
theorem dX2_isAhead_117 : decode cX2_isAhead 117 = .ok (.goto 4, 3) := by decide +kernel
theorem dX2_isAhead_120 : decode cX2_isAhead 120 = .ok (.iconst 0, 1) := by decide +kernel
theorem dX2_isAhead_121 : decode cX2_isAhead 121 = .ok (.ireturn, 1) := by decide +kernel
theorem dX2_tieRank_0 : decode cX2_tieRank 0 = .ok (.iload_n 1, 1) := by decide +kernel
theorem dX2_tieRank_1 : decode cX2_tieRank 1 = .ok (.tableswitch 81 1 5 #[35, 45, 56, 63, 70], 35) := by decide +kernel
theorem dX2_tieRank_36 : decode cX2_tieRank 36 = .ok (.aload_n 0, 1) := by decide +kernel
theorem dX2_tieRank_37 : decode cX2_tieRank 37 = .ok (.getfield 30, 3) := by decide +kernel
theorem dX2_tieRank_40 : decode cX2_tieRank 40 = .ok (.getfield 89, 3) := by decide +kernel
theorem dX2_tieRank_43 : decode cX2_tieRank 43 = .ok (.iload_n 2, 1) := by decide +kernel
theorem dX2_tieRank_44 : decode cX2_tieRank 44 = .ok (.iaload, 1) := by decide +kernel
theorem dX2_tieRank_45 : decode cX2_tieRank 45 = .ok (.ireturn, 1) := by decide +kernel
theorem dX2_tieRank_46 : decode cX2_tieRank 46 = .ok (.aload_n 0, 1) := by decide +kernel
theorem dX2_tieRank_47 : decode cX2_tieRank 47 = .ok (.getfield 30, 3) := by decide +kernel
theorem dX2_tieRank_50 : decode cX2_tieRank 50 = .ok (.getfield 89, 3) := by decide +kernel
theorem dX2_tieRank_53 : decode cX2_tieRank 53 = .ok (.iload_n 2, 1) := by decide +kernel
theorem dX2_tieRank_54 : decode cX2_tieRank 54 = .ok (.iaload, 1) := by decide +kernel
theorem dX2_tieRank_55 : decode cX2_tieRank 55 = .ok (.ineg, 1) := by decide +kernel
theorem dX2_tieRank_56 : decode cX2_tieRank 56 = .ok (.ireturn, 1) := by decide +kernel
theorem dX2_tieRank_57 : decode cX2_tieRank 57 = .ok (.aload_n 0, 1) := by decide +kernel
theorem dX2_tieRank_58 : decode cX2_tieRank 58 = .ok (.iload_n 2, 1) := by decide +kernel
theorem dX2_tieRank_59 : decode cX2_tieRank 59 = .ok (.iconst 0, 1) := by decide +kernel
theorem dX2_tieRank_60 : decode cX2_tieRank 60 = .ok (.invokevirtual 92, 3) := by decide +kernel
theorem dX2_tieRank_63 : decode cX2_tieRank 63 = .ok (.ireturn, 1) := by decide +kernel
theorem dX2_tieRank_64 : decode cX2_tieRank 64 = .ok (.aload_n 0, 1) := by decide +kernel
theorem dX2_tieRank_65 : decode cX2_tieRank 65 = .ok (.iload_n 2, 1) := by decide +kernel
theorem dX2_tieRank_66 : decode cX2_tieRank 66 = .ok (.iconst 1, 1) := by decide +kernel
theorem dX2_tieRank_67 : decode cX2_tieRank 67 = .ok (.invokevirtual 92, 3) := by decide +kernel
theorem dX2_tieRank_70 : decode cX2_tieRank 70 = .ok (.ireturn, 1) := by decide +kernel
theorem dX2_tieRank_71 : decode cX2_tieRank 71 = .ok (.aload_n 0, 1) := by decide +kernel
theorem dX2_tieRank_72 : decode cX2_tieRank 72 = .ok (.getfield 30, 3) := by decide +kernel
theorem dX2_tieRank_75 : decode cX2_tieRank 75 = .ok (.getfield 51, 3) := by decide +kernel
theorem dX2_tieRank_78 : decode cX2_tieRank 78 = .ok (.iload_n 2, 1) := by decide +kernel
theorem dX2_tieRank_79 : decode cX2_tieRank 79 = .ok (.iaload, 1) := by decide +kernel
theorem dX2_tieRank_80 : decode cX2_tieRank 80 = .ok (.ineg, 1) := by decide +kernel
theorem dX2_tieRank_81 : decode cX2_tieRank 81 = .ok (.ireturn, 1) := by decide +kernel
theorem dX2_tieRank_82 : decode cX2_tieRank 82 = .ok (.iconst 0, 1) := by decide +kernel
theorem dX2_tieRank_83 : decode cX2_tieRank 83 = .ok (.ireturn, 1) := by decide +kernel
theorem dX2_placeRank_0 : decode cX2_placeRank 0 = .ok (.aload_n 0, 1) := by decide +kernel
theorem dX2_placeRank_1 : decode cX2_placeRank 1 = .ok (.getfield 9, 3) := by decide +kernel
theorem dX2_placeRank_4 : decode cX2_placeRank 4 = .ok (.iload_n 1, 1) := by decide +kernel
theorem dX2_placeRank_5 : decode cX2_placeRank 5 = .ok (.iconst 0, 1) := by decide +kernel
theorem dX2_placeRank_6 : decode cX2_placeRank 6 = .ok (.iload_n 2, 1) := by decide +kernel
theorem dX2_placeRank_7 : decode cX2_placeRank 7 = .ok (.invokestatic 95, 3) := by decide +kernel
theorem dX2_placeRank_10 : decode cX2_placeRank 10 = .ok (.invokestatic 44, 3) := by decide +kernel
theorem dX2_placeRank_13 : decode cX2_placeRank 13 = .ok (.iaload, 1) := by decide +kernel
theorem dX2_placeRank_14 : decode cX2_placeRank 14 = .ok (.istore_n 3, 1) := by decide +kernel
theorem dX2_placeRank_15 : decode cX2_placeRank 15 = .ok (.iload_n 3, 1) := by decide +kernel
theorem dX2_placeRank_16 : decode cX2_placeRank 16 = .ok (.iconst (-1), 1) := by decide +kernel
theorem dX2_placeRank_17 : decode cX2_placeRank 17 = .ok (.if_icmp .ne 8, 3) := by decide +kernel
theorem dX2_placeRank_20 : decode cX2_placeRank 20 = .ok (.bipush 100, 2) := by decide +kernel
theorem dX2_placeRank_22 : decode cX2_placeRank 22 = .ok (.goto 4, 3) := by decide +kernel
theorem dX2_placeRank_25 : decode cX2_placeRank 25 = .ok (.iload_n 3, 1) := by decide +kernel
theorem dX2_placeRank_26 : decode cX2_placeRank 26 = .ok (.ireturn, 1) := by decide +kernel
theorem dX3_init_0 : decode cX3_init 0 = .ok (.aload_n 0, 1) := by decide +kernel
theorem dX3_init_1 : decode cX3_init 1 = .ok (.invokespecial 3, 3) := by decide +kernel
theorem dX3_init_4 : decode cX3_init 4 = .ok (.aload_n 0, 1) := by decide +kernel
theorem dX3_init_5 : decode cX3_init 5 = .ok (.bipush 48, 2) := by decide +kernel
theorem dX3_init_7 : decode cX3_init 7 = .ok (.newarray .long, 2) := by decide +kernel
theorem dX3_init_9 : decode cX3_init 9 = .ok (.putfield 9, 3) := by decide +kernel
theorem dX3_init_12 : decode cX3_init 12 = .ok (.aload_n 0, 1) := by decide +kernel
theorem dX3_init_13 : decode cX3_init 13 = .ok (.bipush 16, 2) := by decide +kernel
theorem dX3_init_15 : decode cX3_init 15 = .ok (.newarray .int, 2) := by decide +kernel
theorem dX3_init_17 : decode cX3_init 17 = .ok (.putfield 15, 3) := by decide +kernel
theorem dX3_init_20 : decode cX3_init 20 = .ok (.aload_n 0, 1) := by decide +kernel
theorem dX3_init_21 : decode cX3_init 21 = .ok (.bipush 16, 2) := by decide +kernel
theorem dX3_init_23 : decode cX3_init 23 = .ok (.newarray .int, 2) := by decide +kernel
theorem dX3_init_25 : decode cX3_init 25 = .ok (.putfield 19, 3) := by decide +kernel
theorem dX3_init_28 : decode cX3_init 28 = .ok (.aload_n 0, 1) := by decide +kernel
theorem dX3_init_29 : decode cX3_init 29 = .ok (.bipush 6, 2) := by decide +kernel
theorem dX3_init_31 : decode cX3_init 31 = .ok (.newarray .int, 2) := by decide +kernel
theorem dX3_init_33 : decode cX3_init 33 = .ok (.putfield 22, 3) := by decide +kernel
theorem dX3_init_36 : decode cX3_init 36 = .ok (.aload_n 0, 1) := by decide +kernel
theorem dX3_init_37 : decode cX3_init 37 = .ok (.bipush 60, 2) := by decide +kernel
theorem dX3_init_39 : decode cX3_init 39 = .ok (.newarray .long, 2) := by decide +kernel
theorem dX3_init_41 : decode cX3_init 41 = .ok (.putfield 25, 3) := by decide +kernel
theorem dX3_init_44 : decode cX3_init 44 = .ok (.aload_n 0, 1) := by decide +kernel
theorem dX3_init_45 : decode cX3_init 45 = .ok (.bipush 60, 2) := by decide +kernel
theorem dX3_init_47 : decode cX3_init 47 = .ok (.newarray .int, 2) := by decide +kernel
theorem dX3_init_49 : decode cX3_init 49 = .ok (.putfield 28, 3) := by decide +kernel
theorem dX3_init_52 : decode cX3_init 52 = .ok (.aload_n 0, 1) := by decide +kernel
theorem dX3_init_53 : decode cX3_init 53 = .ok (.bipush 60, 2) := by decide +kernel
theorem dX3_init_55 : decode cX3_init 55 = .ok (.newarray .int, 2) := by decide +kernel
theorem dX3_init_57 : decode cX3_init 57 = .ok (.putfield 31, 3) := by decide +kernel
theorem dX3_init_60 : decode cX3_init 60 = .ok (.aload_n 0, 1) := by decide +kernel
theorem dX3_init_61 : decode cX3_init 61 = .ok (.iconst 3, 1) := by decide +kernel
theorem dX3_init_62 : decode cX3_init 62 = .ok (.newarray .int, 2) := by decide +kernel
theorem dX3_init_64 : decode cX3_init 64 = .ok (.dup, 1) := by decide +kernel
theorem dX3_init_65 : decode cX3_init 65 = .ok (.iconst 0, 1) := by decide +kernel
theorem dX3_init_66 : decode cX3_init 66 = .ok (.iconst 1, 1) := by decide +kernel
theorem dX3_init_67 : decode cX3_init 67 = .ok (.iastore, 1) := by decide +kernel
theorem dX3_init_68 : decode cX3_init 68 = .ok (.dup, 1) := by decide +kernel
theorem dX3_init_69 : decode cX3_init 69 = .ok (.iconst 1, 1) := by decide +kernel
theorem dX3_init_70 : decode cX3_init 70 = .ok (.iconst 0, 1) := by decide +kernel
theorem dX3_init_71 : decode cX3_init 71 = .ok (.iastore, 1) := by decide +kernel
theorem dX3_init_72 : decode cX3_init 72 = .ok (.dup, 1) := by decide +kernel
theorem dX3_init_73 : decode cX3_init 73 = .ok (.iconst 2, 1) := by decide +kernel
theorem dX3_init_74 : decode cX3_init 74 = .ok (.iconst 0, 1) := by decide +kernel
theorem dX3_init_75 : decode cX3_init 75 = .ok (.iastore, 1) := by decide +kernel
theorem dX3_init_76 : decode cX3_init 76 = .ok (.putfield 34, 3) := by decide +kernel
theorem dX3_init_79 : decode cX3_init 79 = .ok (.return_, 1) := by decide +kernel
theorem dX3_copyFrom_0 : decode cX3_copyFrom 0 = .ok (.aload_n 0, 1) := by decide +kernel
theorem dX3_copyFrom_1 : decode cX3_copyFrom 1 = .ok (.aload_n 1, 1) := by decide +kernel
theorem dX3_copyFrom_2 : decode cX3_copyFrom 2 = .ok (.getfield 37, 3) := by decide +kernel
theorem dX3_copyFrom_5 : decode cX3_copyFrom 5 = .ok (.putfield 37, 3) := by decide +kernel
theorem dX3_copyFrom_8 : decode cX3_copyFrom 8 = .ok (.aload_n 1, 1) := by decide +kernel
theorem dX3_copyFrom_9 : decode cX3_copyFrom 9 = .ok (.getfield 9, 3) := by decide +kernel
theorem dX3_copyFrom_12 : decode cX3_copyFrom 12 = .ok (.iconst 0, 1) := by decide +kernel
theorem dX3_copyFrom_13 : decode cX3_copyFrom 13 = .ok (.aload_n 0, 1) := by decide +kernel
theorem dX3_copyFrom_14 : decode cX3_copyFrom 14 = .ok (.getfield 9, 3) := by decide +kernel
theorem dX3_copyFrom_17 : decode cX3_copyFrom 17 = .ok (.iconst 0, 1) := by decide +kernel
theorem dX3_copyFrom_18 : decode cX3_copyFrom 18 = .ok (.bipush 48, 2) := by decide +kernel
theorem dX3_copyFrom_20 : decode cX3_copyFrom 20 = .ok (.invokestatic 41, 3) := by decide +kernel
theorem dX3_copyFrom_23 : decode cX3_copyFrom 23 = .ok (.aload_n 1, 1) := by decide +kernel
theorem dX3_copyFrom_24 : decode cX3_copyFrom 24 = .ok (.getfield 15, 3) := by decide +kernel
theorem dX3_copyFrom_27 : decode cX3_copyFrom 27 = .ok (.iconst 0, 1) := by decide +kernel
theorem dX3_copyFrom_28 : decode cX3_copyFrom 28 = .ok (.aload_n 0, 1) := by decide +kernel
theorem dX3_copyFrom_29 : decode cX3_copyFrom 29 = .ok (.getfield 15, 3) := by decide +kernel
theorem dX3_copyFrom_32 : decode cX3_copyFrom 32 = .ok (.iconst 0, 1) := by decide +kernel
theorem dX3_copyFrom_33 : decode cX3_copyFrom 33 = .ok (.bipush 16, 2) := by decide +kernel
theorem dX3_copyFrom_35 : decode cX3_copyFrom 35 = .ok (.invokestatic 41, 3) := by decide +kernel
theorem dX3_copyFrom_38 : decode cX3_copyFrom 38 = .ok (.aload_n 1, 1) := by decide +kernel
theorem dX3_copyFrom_39 : decode cX3_copyFrom 39 = .ok (.getfield 19, 3) := by decide +kernel
theorem dX3_copyFrom_42 : decode cX3_copyFrom 42 = .ok (.iconst 0, 1) := by decide +kernel
theorem dX3_copyFrom_43 : decode cX3_copyFrom 43 = .ok (.aload_n 0, 1) := by decide +kernel
theorem dX3_copyFrom_44 : decode cX3_copyFrom 44 = .ok (.getfield 19, 3) := by decide +kernel
theorem dX3_copyFrom_47 : decode cX3_copyFrom 47 = .ok (.iconst 0, 1) := by decide +kernel
theorem dX3_copyFrom_48 : decode cX3_copyFrom 48 = .ok (.bipush 16, 2) := by decide +kernel
theorem dX3_copyFrom_50 : decode cX3_copyFrom 50 = .ok (.invokestatic 41, 3) := by decide +kernel
theorem dX3_copyFrom_53 : decode cX3_copyFrom 53 = .ok (.aload_n 1, 1) := by decide +kernel
theorem dX3_copyFrom_54 : decode cX3_copyFrom 54 = .ok (.getfield 22, 3) := by decide +kernel
theorem dX3_copyFrom_57 : decode cX3_copyFrom 57 = .ok (.iconst 0, 1) := by decide +kernel
theorem dX3_copyFrom_58 : decode cX3_copyFrom 58 = .ok (.aload_n 0, 1) := by decide +kernel
theorem dX3_copyFrom_59 : decode cX3_copyFrom 59 = .ok (.getfield 22, 3) := by decide +kernel
theorem dX3_copyFrom_62 : decode cX3_copyFrom 62 = .ok (.iconst 0, 1) := by decide +kernel
theorem dX3_copyFrom_63 : decode cX3_copyFrom 63 = .ok (.bipush 6, 2) := by decide +kernel
theorem dX3_copyFrom_65 : decode cX3_copyFrom 65 = .ok (.invokestatic 41, 3) := by decide +kernel
theorem dX3_copyFrom_68 : decode cX3_copyFrom 68 = .ok (.aload_n 1, 1) := by decide +kernel
theorem dX3_copyFrom_69 : decode cX3_copyFrom 69 = .ok (.getfield 25, 3) := by decide +kernel
theorem dX3_copyFrom_72 : decode cX3_copyFrom 72 = .ok (.iconst 0, 1) := by decide +kernel
theorem dX3_copyFrom_73 : decode cX3_copyFrom 73 = .ok (.aload_n 0, 1) := by decide +kernel
theorem dX3_copyFrom_74 : decode cX3_copyFrom 74 = .ok (.getfield 25, 3) := by decide +kernel
theorem dX3_copyFrom_77 : decode cX3_copyFrom 77 = .ok (.iconst 0, 1) := by decide +kernel
theorem dX3_copyFrom_78 : decode cX3_copyFrom 78 = .ok (.bipush 60, 2) := by decide +kernel
theorem dX3_copyFrom_80 : decode cX3_copyFrom 80 = .ok (.invokestatic 41, 3) := by decide +kernel
theorem dX3_copyFrom_83 : decode cX3_copyFrom 83 = .ok (.aload_n 1, 1) := by decide +kernel
theorem dX3_copyFrom_84 : decode cX3_copyFrom 84 = .ok (.getfield 28, 3) := by decide +kernel
theorem dX3_copyFrom_87 : decode cX3_copyFrom 87 = .ok (.iconst 0, 1) := by decide +kernel
theorem dX3_copyFrom_88 : decode cX3_copyFrom 88 = .ok (.aload_n 0, 1) := by decide +kernel
theorem dX3_copyFrom_89 : decode cX3_copyFrom 89 = .ok (.getfield 28, 3) := by decide +kernel
theorem dX3_copyFrom_92 : decode cX3_copyFrom 92 = .ok (.iconst 0, 1) := by decide +kernel
theorem dX3_copyFrom_93 : decode cX3_copyFrom 93 = .ok (.bipush 60, 2) := by decide +kernel
theorem dX3_copyFrom_95 : decode cX3_copyFrom 95 = .ok (.invokestatic 41, 3) := by decide +kernel
theorem dX3_copyFrom_98 : decode cX3_copyFrom 98 = .ok (.aload_n 1, 1) := by decide +kernel
theorem dX3_copyFrom_99 : decode cX3_copyFrom 99 = .ok (.getfield 31, 3) := by decide +kernel
theorem dX3_copyFrom_102 : decode cX3_copyFrom 102 = .ok (.iconst 0, 1) := by decide +kernel
theorem dX3_copyFrom_103 : decode cX3_copyFrom 103 = .ok (.aload_n 0, 1) := by decide +kernel
theorem dX3_copyFrom_104 : decode cX3_copyFrom 104 = .ok (.getfield 31, 3) := by decide +kernel
theorem dX3_copyFrom_107 : decode cX3_copyFrom 107 = .ok (.iconst 0, 1) := by decide +kernel
theorem dX3_copyFrom_108 : decode cX3_copyFrom 108 = .ok (.bipush 60, 2) := by decide +kernel
theorem dX3_copyFrom_110 : decode cX3_copyFrom 110 = .ok (.invokestatic 41, 3) := by decide +kernel
theorem dX3_copyFrom_113 : decode cX3_copyFrom 113 = .ok (.aload_n 1, 1) := by decide +kernel
theorem dX3_copyFrom_114 : decode cX3_copyFrom 114 = .ok (.getfield 34, 3) := by decide +kernel
theorem dX3_copyFrom_117 : decode cX3_copyFrom 117 = .ok (.iconst 0, 1) := by decide +kernel
theorem dX3_copyFrom_118 : decode cX3_copyFrom 118 = .ok (.aload_n 0, 1) := by decide +kernel
theorem dX3_copyFrom_119 : decode cX3_copyFrom 119 = .ok (.getfield 34, 3) := by decide +kernel
theorem dX3_copyFrom_122 : decode cX3_copyFrom 122 = .ok (.iconst 0, 1) := by decide +kernel
theorem dX3_copyFrom_123 : decode cX3_copyFrom 123 = .ok (.iconst 3, 1) := by decide +kernel
theorem dX3_copyFrom_124 : decode cX3_copyFrom 124 = .ok (.invokestatic 41, 3) := by decide +kernel
theorem dX3_copyFrom_127 : decode cX3_copyFrom 127 = .ok (.return_, 1) := by decide +kernel
theorem dX3_hasVariant_0 : decode cX3_hasVariant 0 = .ok (.iload_n 1, 1) := by decide +kernel
theorem dX3_hasVariant_1 : decode cX3_hasVariant 1 = .ok (.ifCond .lt 15, 3) := by decide +kernel
theorem dX3_hasVariant_4 : decode cX3_hasVariant 4 = .ok (.iload_n 1, 1) := by decide +kernel
theorem dX3_hasVariant_5 : decode cX3_hasVariant 5 = .ok (.aload_n 0, 1) := by decide +kernel
theorem dX3_hasVariant_6 : decode cX3_hasVariant 6 = .ok (.getfield 37, 3) := by decide +kernel
theorem dX3_hasVariant_9 : decode cX3_hasVariant 9 = .ok (.if_icmp .ge 7, 3) := by decide +kernel
theorem dX3_hasVariant_12 : decode cX3_hasVariant 12 = .ok (.iconst 1, 1) := by decide +kernel
theorem dX3_hasVariant_13 : decode cX3_hasVariant 13 = .ok (.goto 4, 3) := by decide +kernel
theorem dX3_hasVariant_16 : decode cX3_hasVariant 16 = .ok (.iconst 0, 1) := by decide +kernel
theorem dX3_hasVariant_17 : decode cX3_hasVariant 17 = .ok (.ireturn, 1) := by decide +kernel
theorem dX3_hasPlace_0 : decode cX3_hasPlace 0 = .ok (.iload_n 2, 1) := by decide +kernel
theorem dX3_hasPlace_1 : decode cX3_hasPlace 1 = .ok (.ifCond .lt 17, 3) := by decide +kernel
theorem dX3_hasPlace_4 : decode cX3_hasPlace 4 = .ok (.iload_n 2, 1) := by decide +kernel
theorem dX3_hasPlace_5 : decode cX3_hasPlace 5 = .ok (.aload_n 0, 1) := by decide +kernel
theorem dX3_hasPlace_6 : decode cX3_hasPlace 6 = .ok (.getfield 22, 3) := by decide +kernel
theorem dX3_hasPlace_9 : decode cX3_hasPlace 9 = .ok (.iload_n 1, 1) := by decide +kernel
theorem dX3_hasPlace_10 : decode cX3_hasPlace 10 = .ok (.iaload, 1) := by decide +kernel
theorem dX3_hasPlace_11 : decode cX3_hasPlace 11 = .ok (.if_icmp .ge 7, 3) := by decide +kernel
theorem dX3_hasPlace_14 : decode cX3_hasPlace 14 = .ok (.iconst 1, 1) := by decide +kernel
theorem dX3_hasPlace_15 : decode cX3_hasPlace 15 = .ok (.goto 4, 3) := by decide +kernel
theorem dX3_hasPlace_18 : decode cX3_hasPlace 18 = .ok (.iconst 0, 1) := by decide +kernel
theorem dX3_hasPlace_19 : decode cX3_hasPlace 19 = .ok (.ireturn, 1) := by decide +kernel
theorem dX3_hasTwin_0 : decode cX3_hasTwin 0 = .ok (.iconst 0, 1) := by decide +kernel
theorem dX3_hasTwin_1 : decode cX3_hasTwin 1 = .ok (.istore_n 2, 1) := by decide +kernel
theorem dX3_hasTwin_2 : decode cX3_hasTwin 2 = .ok (.iload_n 2, 1) := by decide +kernel
theorem dX3_hasTwin_3 : decode cX3_hasTwin 3 = .ok (.aload_n 0, 1) := by decide +kernel
theorem dX3_hasTwin_4 : decode cX3_hasTwin 4 = .ok (.getfield 37, 3) := by decide +kernel
theorem dX3_hasTwin_7 : decode cX3_hasTwin 7 = .ok (.if_icmp .ge 59, 3) := by decide +kernel
theorem dX3_hasTwin_10 : decode cX3_hasTwin 10 = .ok (.aload_n 0, 1) := by decide +kernel
theorem dX3_hasTwin_11 : decode cX3_hasTwin 11 = .ok (.iload_n 2, 1) := by decide +kernel
theorem dX3_hasTwin_12 : decode cX3_hasTwin 12 = .ok (.iconst 0, 1) := by decide +kernel
theorem dX3_hasTwin_13 : decode cX3_hasTwin 13 = .ok (.invokevirtual 47, 3) := by decide +kernel
theorem dX3_hasTwin_16 : decode cX3_hasTwin 16 = .ok (.aload_n 1, 1) := by decide +kernel
theorem dX3_hasTwin_17 : decode cX3_hasTwin 17 = .ok (.getfield 51, 3) := by decide +kernel
theorem dX3_hasTwin_20 : decode cX3_hasTwin 20 = .ok (.iconst 0, 1) := by decide +kernel
theorem dX3_hasTwin_21 : decode cX3_hasTwin 21 = .ok (.laload, 1) := by decide +kernel
theorem dX3_hasTwin_22 : decode cX3_hasTwin 22 = .ok (.lcmp, 1) := by decide +kernel
theorem dX3_hasTwin_23 : decode cX3_hasTwin 23 = .ok (.ifCond .ne 37, 3) := by decide +kernel
theorem dX3_hasTwin_26 : decode cX3_hasTwin 26 = .ok (.aload_n 0, 1) := by decide +kernel
theorem dX3_hasTwin_27 : decode cX3_hasTwin 27 = .ok (.iload_n 2, 1) := by decide +kernel
theorem dX3_hasTwin_28 : decode cX3_hasTwin 28 = .ok (.iconst 1, 1) := by decide +kernel
theorem dX3_hasTwin_29 : decode cX3_hasTwin 29 = .ok (.invokevirtual 47, 3) := by decide +kernel
theorem dX3_hasTwin_32 : decode cX3_hasTwin 32 = .ok (.aload_n 1, 1) := by decide +kernel
theorem dX3_hasTwin_33 : decode cX3_hasTwin 33 = .ok (.getfield 51, 3) := by decide +kernel
theorem dX3_hasTwin_36 : decode cX3_hasTwin 36 = .ok (.iconst 1, 1) := by decide +kernel
theorem dX3_hasTwin_37 : decode cX3_hasTwin 37 = .ok (.laload, 1) := by decide +kernel
theorem dX3_hasTwin_38 : decode cX3_hasTwin 38 = .ok (.lcmp, 1) := by decide +kernel
theorem dX3_hasTwin_39 : decode cX3_hasTwin 39 = .ok (.ifCond .ne 21, 3) := by decide +kernel
theorem dX3_hasTwin_42 : decode cX3_hasTwin 42 = .ok (.aload_n 0, 1) := by decide +kernel
theorem dX3_hasTwin_43 : decode cX3_hasTwin 43 = .ok (.iload_n 2, 1) := by decide +kernel
theorem dX3_hasTwin_44 : decode cX3_hasTwin 44 = .ok (.iconst 2, 1) := by decide +kernel
theorem dX3_hasTwin_45 : decode cX3_hasTwin 45 = .ok (.invokevirtual 47, 3) := by decide +kernel
theorem dX3_hasTwin_48 : decode cX3_hasTwin 48 = .ok (.aload_n 1, 1) := by decide +kernel
theorem dX3_hasTwin_49 : decode cX3_hasTwin 49 = .ok (.getfield 51, 3) := by decide +kernel
theorem dX3_hasTwin_52 : decode cX3_hasTwin 52 = .ok (.iconst 2, 1) := by decide +kernel
theorem dX3_hasTwin_53 : decode cX3_hasTwin 53 = .ok (.laload, 1) := by decide +kernel
theorem dX3_hasTwin_54 : decode cX3_hasTwin 54 = .ok (.lcmp, 1) := by decide +kernel
theorem dX3_hasTwin_55 : decode cX3_hasTwin 55 = .ok (.ifCond .ne 5, 3) := by decide +kernel
theorem dX3_hasTwin_58 : decode cX3_hasTwin 58 = .ok (.iconst 1, 1) := by decide +kernel
theorem dX3_hasTwin_59 : decode cX3_hasTwin 59 = .ok (.ireturn, 1) := by decide +kernel
theorem dX3_hasTwin_60 : decode cX3_hasTwin 60 = .ok (.iinc 2 1, 3) := by decide +kernel
theorem dX3_hasTwin_63 : decode cX3_hasTwin 63 = .ok (.goto (-61), 3) := by decide +kernel
theorem dX3_hasTwin_66 : decode cX3_hasTwin 66 = .ok (.iconst 0, 1) := by decide +kernel
theorem dX3_hasTwin_67 : decode cX3_hasTwin 67 = .ok (.ireturn, 1) := by decide +kernel
theorem dX3_keyOf_0 : decode cX3_keyOf 0 = .ok (.aload_n 0, 1) := by decide +kernel
theorem dX3_keyOf_1 : decode cX3_keyOf 1 = .ok (.getfield 9, 3) := by decide +kernel
theorem dX3_keyOf_4 : decode cX3_keyOf 4 = .ok (.iload_n 1, 1) := by decide +kernel
theorem dX3_keyOf_5 : decode cX3_keyOf 5 = .ok (.iconst 3, 1) := by decide +kernel
theorem dX3_keyOf_6 : decode cX3_keyOf 6 = .ok (.imul, 1) := by decide +kernel
theorem dX3_keyOf_7 : decode cX3_keyOf 7 = .ok (.iload_n 2, 1) := by decide +kernel
theorem dX3_keyOf_8 : decode cX3_keyOf 8 = .ok (.iadd, 1) := by decide +kernel
theorem dX3_keyOf_9 : decode cX3_keyOf 9 = .ok (.laload, 1) := by decide +kernel
theorem dX3_keyOf_10 : decode cX3_keyOf 10 = .ok (.lreturn, 1) := by decide +kernel
theorem dX3_putVariant_0 : decode cX3_putVariant 0 = .ok (.aload_n 0, 1) := by decide +kernel
theorem dX3_putVariant_1 : decode cX3_putVariant 1 = .ok (.getfield 37, 3) := by decide +kernel
theorem dX3_putVariant_4 : decode cX3_putVariant 4 = .ok (.istore_n 2, 1) := by decide +kernel
theorem dX3_putVariant_5 : decode cX3_putVariant 5 = .ok (.iload_n 2, 1) := by decide +kernel
theorem dX3_putVariant_6 : decode cX3_putVariant 6 = .ok (.bipush 16, 2) := by decide +kernel
theorem dX3_putVariant_8 : decode cX3_putVariant 8 = .ok (.if_icmp .ge 61, 3) := by decide +kernel
theorem dX3_putVariant_11 : decode cX3_putVariant 11 = .ok (.iconst 0, 1) := by decide +kernel
theorem dX3_putVariant_12 : decode cX3_putVariant 12 = .ok (.istore_n 3, 1) := by decide +kernel
theorem dX3_putVariant_13 : decode cX3_putVariant 13 = .ok (.iload_n 3, 1) := by decide +kernel
theorem dX3_putVariant_14 : decode cX3_putVariant 14 = .ok (.iconst 3, 1) := by decide +kernel
theorem dX3_putVariant_15 : decode cX3_putVariant 15 = .ok (.if_icmp .ge 25, 3) := by decide +kernel
theorem dX3_putVariant_18 : decode cX3_putVariant 18 = .ok (.aload_n 0, 1) := by decide +kernel
theorem dX3_putVariant_19 : decode cX3_putVariant 19 = .ok (.getfield 9, 3) := by decide +kernel
theorem dX3_putVariant_22 : decode cX3_putVariant 22 = .ok (.iload_n 2, 1) := by decide +kernel
theorem dX3_putVariant_23 : decode cX3_putVariant 23 = .ok (.iconst 3, 1) := by decide +kernel
theorem dX3_putVariant_24 : decode cX3_putVariant 24 = .ok (.imul, 1) := by decide +kernel
theorem dX3_putVariant_25 : decode cX3_putVariant 25 = .ok (.iload_n 3, 1) := by decide +kernel
theorem dX3_putVariant_26 : decode cX3_putVariant 26 = .ok (.iadd, 1) := by decide +kernel
theorem dX3_putVariant_27 : decode cX3_putVariant 27 = .ok (.aload_n 1, 1) := by decide +kernel
theorem dX3_putVariant_28 : decode cX3_putVariant 28 = .ok (.getfield 51, 3) := by decide +kernel
theorem dX3_putVariant_31 : decode cX3_putVariant 31 = .ok (.iload_n 3, 1) := by decide +kernel
theorem dX3_putVariant_32 : decode cX3_putVariant 32 = .ok (.laload, 1) := by decide +kernel
theorem dX3_putVariant_33 : decode cX3_putVariant 33 = .ok (.lastore, 1) := by decide +kernel
theorem dX3_putVariant_34 : decode cX3_putVariant 34 = .ok (.iinc 3 1, 3) := by decide +kernel
theorem dX3_putVariant_37 : decode cX3_putVariant 37 = .ok (.goto (-24), 3) := by decide +kernel
theorem dX3_putVariant_40 : decode cX3_putVariant 40 = .ok (.aload_n 0, 1) := by decide +kernel
theorem dX3_putVariant_41 : decode cX3_putVariant 41 = .ok (.getfield 15, 3) := by decide +kernel
theorem dX3_putVariant_44 : decode cX3_putVariant 44 = .ok (.iload_n 2, 1) := by decide +kernel
theorem dX3_putVariant_45 : decode cX3_putVariant 45 = .ok (.aload_n 1, 1) := by decide +kernel
theorem dX3_putVariant_46 : decode cX3_putVariant 46 = .ok (.getfield 54, 3) := by decide +kernel
theorem dX3_putVariant_49 : decode cX3_putVariant 49 = .ok (.iastore, 1) := by decide +kernel
theorem dX3_putVariant_50 : decode cX3_putVariant 50 = .ok (.aload_n 0, 1) := by decide +kernel
theorem dX3_putVariant_51 : decode cX3_putVariant 51 = .ok (.getfield 19, 3) := by decide +kernel
theorem dX3_putVariant_54 : decode cX3_putVariant 54 = .ok (.iload_n 2, 1) := by decide +kernel
theorem dX3_putVariant_55 : decode cX3_putVariant 55 = .ok (.sipush 1000, 3) := by decide +kernel
theorem dX3_putVariant_58 : decode cX3_putVariant 58 = .ok (.iastore, 1) := by decide +kernel
theorem dX3_putVariant_59 : decode cX3_putVariant 59 = .ok (.aload_n 0, 1) := by decide +kernel
theorem dX3_putVariant_60 : decode cX3_putVariant 60 = .ok (.dup, 1) := by decide +kernel
theorem dX3_putVariant_61 : decode cX3_putVariant 61 = .ok (.getfield 37, 3) := by decide +kernel
theorem dX3_putVariant_64 : decode cX3_putVariant 64 = .ok (.iconst 1, 1) := by decide +kernel
theorem dX3_putVariant_65 : decode cX3_putVariant 65 = .ok (.iadd, 1) := by decide +kernel
theorem dX3_putVariant_66 : decode cX3_putVariant 66 = .ok (.putfield 37, 3) := by decide +kernel
theorem dX3_putVariant_69 : decode cX3_putVariant 69 = .ok (.iload_n 2, 1) := by decide +kernel
theorem dX3_putVariant_70 : decode cX3_putVariant 70 = .ok (.ireturn, 1) := by decide +kernel
theorem dX3_dropVariant_0 : decode cX3_dropVariant 0 = .ok (.iload_n 1, 1) := by decide +kernel
theorem dX3_dropVariant_1 : decode cX3_dropVariant 1 = .ok (.iconst 1, 1) := by decide +kernel
theorem dX3_dropVariant_2 : decode cX3_dropVariant 2 = .ok (.iadd, 1) := by decide +kernel
theorem dX3_dropVariant_3 : decode cX3_dropVariant 3 = .ok (.istore_n 2, 1) := by decide +kernel
theorem dX3_dropVariant_4 : decode cX3_dropVariant 4 = .ok (.iload_n 2, 1) := by decide +kernel
theorem dX3_dropVariant_5 : decode cX3_dropVariant 5 = .ok (.aload_n 0, 1) := by decide +kernel
theorem dX3_dropVariant_6 : decode cX3_dropVariant 6 = .ok (.getfield 37, 3) := by decide +kernel
theorem dX3_dropVariant_9 : decode cX3_dropVariant 9 = .ok (.if_icmp .ge 72, 3) := by decide +kernel
theorem dX3_dropVariant_12 : decode cX3_dropVariant 12 = .ok (.iconst 0, 1) := by decide +kernel
theorem dX3_dropVariant_13 : decode cX3_dropVariant 13 = .ok (.istore_n 3, 1) := by decide +kernel
theorem dX3_dropVariant_14 : decode cX3_dropVariant 14 = .ok (.iload_n 3, 1) := by decide +kernel
theorem dX3_dropVariant_15 : decode cX3_dropVariant 15 = .ok (.iconst 3, 1) := by decide +kernel
theorem dX3_dropVariant_16 : decode cX3_dropVariant 16 = .ok (.if_icmp .ge 31, 3) := by decide +kernel
theorem dX3_dropVariant_19 : decode cX3_dropVariant 19 = .ok (.aload_n 0, 1) := by decide +kernel
theorem dX3_dropVariant_20 : decode cX3_dropVariant 20 = .ok (.getfield 9, 3) := by decide +kernel
theorem dX3_dropVariant_23 : decode cX3_dropVariant 23 = .ok (.iload_n 2, 1) := by decide +kernel
theorem dX3_dropVariant_24 : decode cX3_dropVariant 24 = .ok (.iconst 1, 1) := by decide +kernel
theorem dX3_dropVariant_25 : decode cX3_dropVariant 25 = .ok (.isub, 1) := by decide +kernel
theorem dX3_dropVariant_26 : decode cX3_dropVariant 26 = .ok (.iconst 3, 1) := by decide +kernel
theorem dX3_dropVariant_27 : decode cX3_dropVariant 27 = .ok (.imul, 1) := by decide +kernel
theorem dX3_dropVariant_28 : decode cX3_dropVariant 28 = .ok (.iload_n 3, 1) := by decide +kernel
theorem dX3_dropVariant_29 : decode cX3_dropVariant 29 = .ok (.iadd, 1) := by decide +kernel
theorem dX3_dropVariant_30 : decode cX3_dropVariant 30 = .ok (.aload_n 0, 1) := by decide +kernel
theorem dX3_dropVariant_31 : decode cX3_dropVariant 31 = .ok (.getfield 9, 3) := by decide +kernel
theorem dX3_dropVariant_34 : decode cX3_dropVariant 34 = .ok (.iload_n 2, 1) := by decide +kernel
theorem dX3_dropVariant_35 : decode cX3_dropVariant 35 = .ok (.iconst 3, 1) := by decide +kernel
theorem dX3_dropVariant_36 : decode cX3_dropVariant 36 = .ok (.imul, 1) := by decide +kernel
theorem dX3_dropVariant_37 : decode cX3_dropVariant 37 = .ok (.iload_n 3, 1) := by decide +kernel
theorem dX3_dropVariant_38 : decode cX3_dropVariant 38 = .ok (.iadd, 1) := by decide +kernel
theorem dX3_dropVariant_39 : decode cX3_dropVariant 39 = .ok (.laload, 1) := by decide +kernel
theorem dX3_dropVariant_40 : decode cX3_dropVariant 40 = .ok (.lastore, 1) := by decide +kernel
theorem dX3_dropVariant_41 : decode cX3_dropVariant 41 = .ok (.iinc 3 1, 3) := by decide +kernel
theorem dX3_dropVariant_44 : decode cX3_dropVariant 44 = .ok (.goto (-30), 3) := by decide +kernel
theorem dX3_dropVariant_47 : decode cX3_dropVariant 47 = .ok (.aload_n 0, 1) := by decide +kernel
theorem dX3_dropVariant_48 : decode cX3_dropVariant 48 = .ok (.getfield 15, 3) := by decide +kernel
theorem dX3_dropVariant_51 : decode cX3_dropVariant 51 = .ok (.iload_n 2, 1) := by decide +kernel
theorem dX3_dropVariant_52 : decode cX3_dropVariant 52 = .ok (.iconst 1, 1) := by decide +kernel
theorem dX3_dropVariant_53 : decode cX3_dropVariant 53 = .ok (.isub, 1) := by decide +kernel
theorem dX3_dropVariant_54 : decode cX3_dropVariant 54 = .ok (.aload_n 0, 1) := by decide +kernel
theorem dX3_dropVariant_55 : decode cX3_dropVariant 55 = .ok (.getfield 15, 3) := by decide +kernel
theorem dX3_dropVariant_58 : decode cX3_dropVariant 58 = .ok (.iload_n 2, 1) := by decide +kernel
theorem dX3_dropVariant_59 : decode cX3_dropVariant 59 = .ok (.iaload, 1) := by decide +kernel
theorem dX3_dropVariant_60 : decode cX3_dropVariant 60 = .ok (.iastore, 1) := by decide +kernel
theorem dX3_dropVariant_61 : decode cX3_dropVariant 61 = .ok (.aload_n 0, 1) := by decide +kernel
theorem dX3_dropVariant_62 : decode cX3_dropVariant 62 = .ok (.getfield 19, 3) := by decide +kernel
theorem dX3_dropVariant_65 : decode cX3_dropVariant 65 = .ok (.iload_n 2, 1) := by decide +kernel
theorem dX3_dropVariant_66 : decode cX3_dropVariant 66 = .ok (.iconst 1, 1) := by decide +kernel
theorem dX3_dropVariant_67 : decode cX3_dropVariant 67 = .ok (.isub, 1) := by decide +kernel
theorem dX3_dropVariant_68 : decode cX3_dropVariant 68 = .ok (.aload_n 0, 1) := by decide +kernel
theorem dX3_dropVariant_69 : decode cX3_dropVariant 69 = .ok (.getfield 19, 3) := by decide +kernel
theorem dX3_dropVariant_72 : decode cX3_dropVariant 72 = .ok (.iload_n 2, 1) := by decide +kernel
theorem dX3_dropVariant_73 : decode cX3_dropVariant 73 = .ok (.iaload, 1) := by decide +kernel
theorem dX3_dropVariant_74 : decode cX3_dropVariant 74 = .ok (.iastore, 1) := by decide +kernel
theorem dX3_dropVariant_75 : decode cX3_dropVariant 75 = .ok (.iinc 2 1, 3) := by decide +kernel
theorem dX3_dropVariant_78 : decode cX3_dropVariant 78 = .ok (.goto (-74), 3) := by decide +kernel
theorem dX3_dropVariant_81 : decode cX3_dropVariant 81 = .ok (.aload_n 0, 1) := by decide +kernel
theorem dX3_dropVariant_82 : decode cX3_dropVariant 82 = .ok (.dup, 1) := by decide +kernel
theorem dX3_dropVariant_83 : decode cX3_dropVariant 83 = .ok (.getfield 37, 3) := by decide +kernel
theorem dX3_dropVariant_86 : decode cX3_dropVariant 86 = .ok (.iconst 1, 1) := by decide +kernel
theorem dX3_dropVariant_87 : decode cX3_dropVariant 87 = .ok (.isub, 1) := by decide +kernel
theorem dX3_dropVariant_88 : decode cX3_dropVariant 88 = .ok (.putfield 37, 3) := by decide +kernel
theorem dX3_dropVariant_91 : decode cX3_dropVariant 91 = .ok (.aload_n 0, 1) := by decide +kernel
theorem dX3_dropVariant_92 : decode cX3_dropVariant 92 = .ok (.getfield 37, 3) := by decide +kernel
theorem dX3_dropVariant_95 : decode cX3_dropVariant 95 = .ok (.ireturn, 1) := by decide +kernel
theorem dX3_putList_0 : decode cX3_putList 0 = .ok (.iconst 0, 1) := by decide +kernel
theorem dX3_putList_1 : decode cX3_putList 1 = .ok (.istore_n 3, 1) := by decide +kernel
theorem dX3_putList_2 : decode cX3_putList 2 = .ok (.iload_n 3, 1) := by decide +kernel
theorem dX3_putList_3 : decode cX3_putList 3 = .ok (.aload_n 2, 1) := by decide +kernel
theorem dX3_putList_4 : decode cX3_putList 4 = .ok (.getfield 57, 3) := by decide +kernel
theorem dX3_putList_7 : decode cX3_putList 7 = .ok (.if_icmp .ge 55, 3) := by decide +kernel
theorem dX3_putList_10 : decode cX3_putList 10 = .ok (.iload_n 1, 1) := by decide +kernel
theorem dX3_putList_11 : decode cX3_putList 11 = .ok (.iload_n 3, 1) := by decide +kernel
theorem dX3_putList_12 : decode cX3_putList 12 = .ok (.invokestatic 60, 3) := by decide +kernel
theorem dX3_putList_15 : decode cX3_putList 15 = .ok (.istore 4, 2) := by decide +kernel
theorem dX3_putList_17 : decode cX3_putList 17 = .ok (.aload_n 0, 1) := by decide +kernel
theorem dX3_putList_18 : decode cX3_putList 18 = .ok (.getfield 25, 3) := by decide +kernel
theorem dX3_putList_21 : decode cX3_putList 21 = .ok (.iload 4, 2) := by decide +kernel
theorem dX3_putList_23 : decode cX3_putList 23 = .ok (.aload_n 2, 1) := by decide +kernel
theorem dX3_putList_24 : decode cX3_putList 24 = .ok (.getfield 64, 3) := by decide +kernel
theorem dX3_putList_27 : decode cX3_putList 27 = .ok (.iload_n 3, 1) := by decide +kernel
theorem dX3_putList_28 : decode cX3_putList 28 = .ok (.laload, 1) := by decide +kernel
theorem dX3_putList_29 : decode cX3_putList 29 = .ok (.lastore, 1) := by decide +kernel
theorem dX3_putList_30 : decode cX3_putList 30 = .ok (.aload_n 0, 1) := by decide +kernel
theorem dX3_putList_31 : decode cX3_putList 31 = .ok (.getfield 28, 3) := by decide +kernel
theorem dX3_putList_34 : decode cX3_putList 34 = .ok (.iload 4, 2) := by decide +kernel
theorem dX3_putList_36 : decode cX3_putList 36 = .ok (.aload_n 2, 1) := by decide +kernel
theorem dX3_putList_37 : decode cX3_putList 37 = .ok (.getfield 65, 3) := by decide +kernel
theorem dX3_putList_40 : decode cX3_putList 40 = .ok (.iload_n 3, 1) := by decide +kernel
theorem dX3_putList_41 : decode cX3_putList 41 = .ok (.iaload, 1) := by decide +kernel
theorem dX3_putList_42 : decode cX3_putList 42 = .ok (.iastore, 1) := by decide +kernel
theorem dX3_putList_43 : decode cX3_putList 43 = .ok (.aload_n 0, 1) := by decide +kernel
theorem dX3_putList_44 : decode cX3_putList 44 = .ok (.getfield 31, 3) := by decide +kernel
theorem dX3_putList_47 : decode cX3_putList 47 = .ok (.iload 4, 2) := by decide +kernel
theorem dX3_putList_49 : decode cX3_putList 49 = .ok (.aload_n 2, 1) := by decide +kernel
theorem dX3_putList_50 : decode cX3_putList 50 = .ok (.getfield 66, 3) := by decide +kernel
theorem dX3_putList_53 : decode cX3_putList 53 = .ok (.iload_n 3, 1) := by decide +kernel
theorem dX3_putList_54 : decode cX3_putList 54 = .ok (.iaload, 1) := by decide +kernel
theorem dX3_putList_55 : decode cX3_putList 55 = .ok (.iastore, 1) := by decide +kernel
theorem dX3_putList_56 : decode cX3_putList 56 = .ok (.iinc 3 1, 3) := by decide +kernel
theorem dX3_putList_59 : decode cX3_putList 59 = .ok (.goto (-57), 3) := by decide +kernel
theorem dX3_putList_62 : decode cX3_putList 62 = .ok (.aload_n 0, 1) := by decide +kernel
theorem dX3_putList_63 : decode cX3_putList 63 = .ok (.getfield 22, 3) := by decide +kernel
theorem dX3_putList_66 : decode cX3_putList 66 = .ok (.iload_n 1, 1) := by decide +kernel
theorem dX3_putList_67 : decode cX3_putList 67 = .ok (.aload_n 2, 1) := by decide +kernel
theorem dX3_putList_68 : decode cX3_putList 68 = .ok (.getfield 57, 3) := by decide +kernel
theorem dX3_putList_71 : decode cX3_putList 71 = .ok (.iastore, 1) := by decide +kernel
theorem dX3_putList_72 : decode cX3_putList 72 = .ok (.aload_n 2, 1) := by decide +kernel
theorem dX3_putList_73 : decode cX3_putList 73 = .ok (.getfield 57, 3) := by decide +kernel
theorem dX3_putList_76 : decode cX3_putList 76 = .ok (.ireturn, 1) := by decide +kernel
theorem dX3_dropEntry_0 : decode cX3_dropEntry 0 = .ok (.iload_n 2, 1) := by decide +kernel
theorem dX3_dropEntry_1 : decode cX3_dropEntry 1 = .ok (.iconst 1, 1) := by decide +kernel
theorem dX3_dropEntry_2 : decode cX3_dropEntry 2 = .ok (.iadd, 1) := by decide +kernel
theorem dX3_dropEntry_3 : decode cX3_dropEntry 3 = .ok (.istore_n 3, 1) := by decide +kernel
theorem dX3_dropEntry_4 : decode cX3_dropEntry 4 = .ok (.iload_n 3, 1) := by decide +kernel
theorem dX3_dropEntry_5 : decode cX3_dropEntry 5 = .ok (.aload_n 0, 1) := by decide +kernel
theorem dX3_dropEntry_6 : decode cX3_dropEntry 6 = .ok (.getfield 22, 3) := by decide +kernel
theorem dX3_dropEntry_9 : decode cX3_dropEntry 9 = .ok (.iload_n 1, 1) := by decide +kernel
theorem dX3_dropEntry_10 : decode cX3_dropEntry 10 = .ok (.iaload, 1) := by decide +kernel
theorem dX3_dropEntry_11 : decode cX3_dropEntry 11 = .ok (.if_icmp .ge 64, 3) := by decide +kernel
theorem dX3_dropEntry_14 : decode cX3_dropEntry 14 = .ok (.iload_n 1, 1) := by decide +kernel
theorem dX3_dropEntry_15 : decode cX3_dropEntry 15 = .ok (.iload_n 3, 1) := by decide +kernel
theorem dX3_dropEntry_16 : decode cX3_dropEntry 16 = .ok (.invokestatic 60, 3) := by decide +kernel
theorem dX3_dropEntry_19 : decode cX3_dropEntry 19 = .ok (.istore 4, 2) := by decide +kernel
theorem dX3_dropEntry_21 : decode cX3_dropEntry 21 = .ok (.aload_n 0, 1) := by decide +kernel
theorem dX3_dropEntry_22 : decode cX3_dropEntry 22 = .ok (.getfield 25, 3) := by decide +kernel
theorem dX3_dropEntry_25 : decode cX3_dropEntry 25 = .ok (.iload 4, 2) := by decide +kernel
theorem dX3_dropEntry_27 : decode cX3_dropEntry 27 = .ok (.iconst 1, 1) := by decide +kernel
theorem dX3_dropEntry_28 : decode cX3_dropEntry 28 = .ok (.isub, 1) := by decide +kernel
theorem dX3_dropEntry_29 : decode cX3_dropEntry 29 = .ok (.aload_n 0, 1) := by decide +kernel
theorem dX3_dropEntry_30 : decode cX3_dropEntry 30 = .ok (.getfield 25, 3) := by decide +kernel
theorem dX3_dropEntry_33 : decode cX3_dropEntry 33 = .ok (.iload 4, 2) := by decide +kernel
theorem dX3_dropEntry_35 : decode cX3_dropEntry 35 = .ok (.laload, 1) := by decide +kernel
theorem dX3_dropEntry_36 : decode cX3_dropEntry 36 = .ok (.lastore, 1) := by decide +kernel
theorem dX3_dropEntry_37 : decode cX3_dropEntry 37 = .ok (.aload_n 0, 1) := by decide +kernel
theorem dX3_dropEntry_38 : decode cX3_dropEntry 38 = .ok (.getfield 28, 3) := by decide +kernel
theorem dX3_dropEntry_41 : decode cX3_dropEntry 41 = .ok (.iload 4, 2) := by decide +kernel
theorem dX3_dropEntry_43 : decode cX3_dropEntry 43 = .ok (.iconst 1, 1) := by decide +kernel
theorem dX3_dropEntry_44 : decode cX3_dropEntry 44 = .ok (.isub, 1) := by decide +kernel
theorem dX3_dropEntry_45 : decode cX3_dropEntry 45 = .ok (.aload_n 0, 1) := by decide +kernel
theorem dX3_dropEntry_46 : decode cX3_dropEntry 46 = .ok (.getfield 28, 3) := by decide +kernel
theorem dX3_dropEntry_49 : decode cX3_dropEntry 49 = .ok (.iload 4, 2) := by decide +kernel
theorem dX3_dropEntry_51 : decode cX3_dropEntry 51 = .ok (.iaload, 1) := by decide +kernel
theorem dX3_dropEntry_52 : decode cX3_dropEntry 52 = .ok (.iastore, 1) := by decide +kernel
theorem dX3_dropEntry_53 : decode cX3_dropEntry 53 = .ok (.aload_n 0, 1) := by decide +kernel
theorem dX3_dropEntry_54 : decode cX3_dropEntry 54 = .ok (.getfield 31, 3) := by decide +kernel
theorem dX3_dropEntry_57 : decode cX3_dropEntry 57 = .ok (.iload 4, 2) := by decide +kernel
theorem dX3_dropEntry_59 : decode cX3_dropEntry 59 = .ok (.iconst 1, 1) := by decide +kernel
theorem dX3_dropEntry_60 : decode cX3_dropEntry 60 = .ok (.isub, 1) := by decide +kernel
theorem dX3_dropEntry_61 : decode cX3_dropEntry 61 = .ok (.aload_n 0, 1) := by decide +kernel
theorem dX3_dropEntry_62 : decode cX3_dropEntry 62 = .ok (.getfield 31, 3) := by decide +kernel
theorem dX3_dropEntry_65 : decode cX3_dropEntry 65 = .ok (.iload 4, 2) := by decide +kernel
theorem dX3_dropEntry_67 : decode cX3_dropEntry 67 = .ok (.iaload, 1) := by decide +kernel
theorem dX3_dropEntry_68 : decode cX3_dropEntry 68 = .ok (.iastore, 1) := by decide +kernel
theorem dX3_dropEntry_69 : decode cX3_dropEntry 69 = .ok (.iinc 3 1, 3) := by decide +kernel
theorem dX3_dropEntry_72 : decode cX3_dropEntry 72 = .ok (.goto (-68), 3) := by decide +kernel
theorem dX3_dropEntry_75 : decode cX3_dropEntry 75 = .ok (.aload_n 0, 1) := by decide +kernel
theorem dX3_dropEntry_76 : decode cX3_dropEntry 76 = .ok (.getfield 22, 3) := by decide +kernel
theorem dX3_dropEntry_79 : decode cX3_dropEntry 79 = .ok (.iload_n 1, 1) := by decide +kernel
theorem dX3_dropEntry_80 : decode cX3_dropEntry 80 = .ok (.dup2, 1) := by decide +kernel
theorem dX3_dropEntry_81 : decode cX3_dropEntry 81 = .ok (.iaload, 1) := by decide +kernel
theorem dX3_dropEntry_82 : decode cX3_dropEntry 82 = .ok (.iconst 1, 1) := by decide +kernel
theorem dX3_dropEntry_83 : decode cX3_dropEntry 83 = .ok (.isub, 1) := by decide +kernel
theorem dX3_dropEntry_84 : decode cX3_dropEntry 84 = .ok (.iastore, 1) := by decide +kernel
theorem dX3_dropEntry_85 : decode cX3_dropEntry 85 = .ok (.aload_n 0, 1) := by decide +kernel
theorem dX3_dropEntry_86 : decode cX3_dropEntry 86 = .ok (.getfield 22, 3) := by decide +kernel
theorem dX3_dropEntry_89 : decode cX3_dropEntry 89 = .ok (.iload_n 1, 1) := by decide +kernel
theorem dX3_dropEntry_90 : decode cX3_dropEntry 90 = .ok (.iaload, 1) := by decide +kernel
theorem dX3_dropEntry_91 : decode cX3_dropEntry 91 = .ok (.ireturn, 1) := by decide +kernel
theorem dX3_exchangeLists_0 : decode cX3_exchangeLists 0 = .ok (.aload_n 0, 1) := by decide +kernel
theorem dX3_exchangeLists_1 : decode cX3_exchangeLists 1 = .ok (.getfield 22, 3) := by decide +kernel
theorem dX3_exchangeLists_4 : decode cX3_exchangeLists 4 = .ok (.iload_n 1, 1) := by decide +kernel
theorem dX3_exchangeLists_5 : decode cX3_exchangeLists 5 = .ok (.iaload, 1) := by decide +kernel
theorem dX3_exchangeLists_6 : decode cX3_exchangeLists 6 = .ok (.istore_n 3, 1) := by decide +kernel
theorem dX3_exchangeLists_7 : decode cX3_exchangeLists 7 = .ok (.aload_n 0, 1) := by decide +kernel
theorem dX3_exchangeLists_8 : decode cX3_exchangeLists 8 = .ok (.getfield 22, 3) := by decide +kernel
theorem dX3_exchangeLists_11 : decode cX3_exchangeLists 11 = .ok (.iload_n 1, 1) := by decide +kernel
theorem dX3_exchangeLists_12 : decode cX3_exchangeLists 12 = .ok (.aload_n 0, 1) := by decide +kernel
theorem dX3_exchangeLists_13 : decode cX3_exchangeLists 13 = .ok (.getfield 22, 3) := by decide +kernel
theorem dX3_exchangeLists_16 : decode cX3_exchangeLists 16 = .ok (.iload_n 2, 1) := by decide +kernel
theorem dX3_exchangeLists_17 : decode cX3_exchangeLists 17 = .ok (.iaload, 1) := by decide +kernel
theorem dX3_exchangeLists_18 : decode cX3_exchangeLists 18 = .ok (.iastore, 1) := by decide +kernel
theorem dX3_exchangeLists_19 : decode cX3_exchangeLists 19 = .ok (.aload_n 0, 1) := by decide +kernel
theorem dX3_exchangeLists_20 : decode cX3_exchangeLists 20 = .ok (.getfield 22, 3) := by decide +kernel
theorem dX3_exchangeLists_23 : decode cX3_exchangeLists 23 = .ok (.iload_n 2, 1) := by decide +kernel
theorem dX3_exchangeLists_24 : decode cX3_exchangeLists 24 = .ok (.iload_n 3, 1) := by decide +kernel
theorem dX3_exchangeLists_25 : decode cX3_exchangeLists 25 = .ok (.iastore, 1) := by decide +kernel
theorem dX3_exchangeLists_26 : decode cX3_exchangeLists 26 = .ok (.iconst 0, 1) := by decide +kernel
theorem dX3_exchangeLists_27 : decode cX3_exchangeLists 27 = .ok (.istore 4, 2) := by decide +kernel
theorem dX3_exchangeLists_29 : decode cX3_exchangeLists 29 = .ok (.iload 4, 2) := by decide +kernel
theorem dX3_exchangeLists_31 : decode cX3_exchangeLists 31 = .ok (.bipush 10, 2) := by decide +kernel
theorem dX3_exchangeLists_33 : decode cX3_exchangeLists 33 = .ok (.if_icmp .ge 25, 3) := by decide +kernel
theorem dX3_exchangeLists_36 : decode cX3_exchangeLists 36 = .ok (.aload_n 0, 1) := by decide +kernel
theorem dX3_exchangeLists_37 : decode cX3_exchangeLists 37 = .ok (.iload_n 1, 1) := by decide +kernel
theorem dX3_exchangeLists_38 : decode cX3_exchangeLists 38 = .ok (.iload 4, 2) := by decide +kernel
theorem dX3_exchangeLists_40 : decode cX3_exchangeLists 40 = .ok (.invokestatic 60, 3) := by decide +kernel
theorem dX3_exchangeLists_43 : decode cX3_exchangeLists 43 = .ok (.iload_n 2, 1) := by decide +kernel
theorem dX3_exchangeLists_44 : decode cX3_exchangeLists 44 = .ok (.iload 4, 2) := by decide +kernel
theorem dX3_exchangeLists_46 : decode cX3_exchangeLists 46 = .ok (.invokestatic 60, 3) := by decide +kernel
theorem dX3_exchangeLists_49 : decode cX3_exchangeLists 49 = .ok (.invokevirtual 67, 3) := by decide +kernel
theorem dX3_exchangeLists_52 : decode cX3_exchangeLists 52 = .ok (.iinc 4 1, 3) := by decide +kernel
theorem dX3_exchangeLists_55 : decode cX3_exchangeLists 55 = .ok (.goto (-26), 3) := by decide +kernel
theorem dX3_exchangeLists_58 : decode cX3_exchangeLists 58 = .ok (.return_, 1) := by decide +kernel
theorem dX3_exchangeRows_0 : decode cX3_exchangeRows 0 = .ok (.aload_n 0, 1) := by decide +kernel
theorem dX3_exchangeRows_1 : decode cX3_exchangeRows 1 = .ok (.getfield 25, 3) := by decide +kernel
theorem dX3_exchangeRows_4 : decode cX3_exchangeRows 4 = .ok (.iload_n 1, 1) := by decide +kernel
theorem dX3_exchangeRows_5 : decode cX3_exchangeRows 5 = .ok (.laload, 1) := by decide +kernel
theorem dX3_exchangeRows_6 : decode cX3_exchangeRows 6 = .ok (.lstore_n 3, 1) := by decide +kernel
theorem dX3_exchangeRows_7 : decode cX3_exchangeRows 7 = .ok (.aload_n 0, 1) := by decide +kernel
theorem dX3_exchangeRows_8 : decode cX3_exchangeRows 8 = .ok (.getfield 25, 3) := by decide +kernel
theorem dX3_exchangeRows_11 : decode cX3_exchangeRows 11 = .ok (.iload_n 1, 1) := by decide +kernel
theorem dX3_exchangeRows_12 : decode cX3_exchangeRows 12 = .ok (.aload_n 0, 1) := by decide +kernel
theorem dX3_exchangeRows_13 : decode cX3_exchangeRows 13 = .ok (.getfield 25, 3) := by decide +kernel
theorem dX3_exchangeRows_16 : decode cX3_exchangeRows 16 = .ok (.iload_n 2, 1) := by decide +kernel
theorem dX3_exchangeRows_17 : decode cX3_exchangeRows 17 = .ok (.laload, 1) := by decide +kernel
theorem dX3_exchangeRows_18 : decode cX3_exchangeRows 18 = .ok (.lastore, 1) := by decide +kernel
theorem dX3_exchangeRows_19 : decode cX3_exchangeRows 19 = .ok (.aload_n 0, 1) := by decide +kernel
theorem dX3_exchangeRows_20 : decode cX3_exchangeRows 20 = .ok (.getfield 25, 3) := by decide +kernel
theorem dX3_exchangeRows_23 : decode cX3_exchangeRows 23 = .ok (.iload_n 2, 1) := by decide +kernel
theorem dX3_exchangeRows_24 : decode cX3_exchangeRows 24 = .ok (.lload_n 3, 1) := by decide +kernel
theorem dX3_exchangeRows_25 : decode cX3_exchangeRows 25 = .ok (.lastore, 1) := by decide +kernel
theorem dX3_exchangeRows_26 : decode cX3_exchangeRows 26 = .ok (.aload_n 0, 1) := by decide +kernel
theorem dX3_exchangeRows_27 : decode cX3_exchangeRows 27 = .ok (.getfield 28, 3) := by decide +kernel
theorem dX3_exchangeRows_30 : decode cX3_exchangeRows 30 = .ok (.iload_n 1, 1) := by decide +kernel
theorem dX3_exchangeRows_31 : decode cX3_exchangeRows 31 = .ok (.iaload, 1) := by decide +kernel
theorem dX3_exchangeRows_32 : decode cX3_exchangeRows 32 = .ok (.istore 5, 2) := by decide +kernel
theorem dX3_exchangeRows_34 : decode cX3_exchangeRows 34 = .ok (.aload_n 0, 1) := by decide +kernel
theorem dX3_exchangeRows_35 : decode cX3_exchangeRows 35 = .ok (.getfield 28, 3) := by decide +kernel
theorem dX3_exchangeRows_38 : decode cX3_exchangeRows 38 = .ok (.iload_n 1, 1) := by decide +kernel
theorem dX3_exchangeRows_39 : decode cX3_exchangeRows 39 = .ok (.aload_n 0, 1) := by decide +kernel
theorem dX3_exchangeRows_40 : decode cX3_exchangeRows 40 = .ok (.getfield 28, 3) := by decide +kernel
theorem dX3_exchangeRows_43 : decode cX3_exchangeRows 43 = .ok (.iload_n 2, 1) := by decide +kernel
theorem dX3_exchangeRows_44 : decode cX3_exchangeRows 44 = .ok (.iaload, 1) := by decide +kernel
theorem dX3_exchangeRows_45 : decode cX3_exchangeRows 45 = .ok (.iastore, 1) := by decide +kernel
theorem dX3_exchangeRows_46 : decode cX3_exchangeRows 46 = .ok (.aload_n 0, 1) := by decide +kernel
theorem dX3_exchangeRows_47 : decode cX3_exchangeRows 47 = .ok (.getfield 28, 3) := by decide +kernel
theorem dX3_exchangeRows_50 : decode cX3_exchangeRows 50 = .ok (.iload_n 2, 1) := by decide +kernel
theorem dX3_exchangeRows_51 : decode cX3_exchangeRows 51 = .ok (.iload 5, 2) := by decide +kernel
theorem dX3_exchangeRows_53 : decode cX3_exchangeRows 53 = .ok (.iastore, 1) := by decide +kernel
theorem dX3_exchangeRows_54 : decode cX3_exchangeRows 54 = .ok (.aload_n 0, 1) := by decide +kernel
theorem dX3_exchangeRows_55 : decode cX3_exchangeRows 55 = .ok (.getfield 31, 3) := by decide +kernel
theorem dX3_exchangeRows_58 : decode cX3_exchangeRows 58 = .ok (.iload_n 1, 1) := by decide +kernel
theorem dX3_exchangeRows_59 : decode cX3_exchangeRows 59 = .ok (.iaload, 1) := by decide +kernel
theorem dX3_exchangeRows_60 : decode cX3_exchangeRows 60 = .ok (.istore 6, 2) := by decide +kernel
theorem dX3_exchangeRows_62 : decode cX3_exchangeRows 62 = .ok (.aload_n 0, 1) := by decide +kernel
theorem dX3_exchangeRows_63 : decode cX3_exchangeRows 63 = .ok (.getfield 31, 3) := by decide +kernel
theorem dX3_exchangeRows_66 : decode cX3_exchangeRows 66 = .ok (.iload_n 1, 1) := by decide +kernel
theorem dX3_exchangeRows_67 : decode cX3_exchangeRows 67 = .ok (.aload_n 0, 1) := by decide +kernel
theorem dX3_exchangeRows_68 : decode cX3_exchangeRows 68 = .ok (.getfield 31, 3) := by decide +kernel
theorem dX3_exchangeRows_71 : decode cX3_exchangeRows 71 = .ok (.iload_n 2, 1) := by decide +kernel
theorem dX3_exchangeRows_72 : decode cX3_exchangeRows 72 = .ok (.iaload, 1) := by decide +kernel
theorem dX3_exchangeRows_73 : decode cX3_exchangeRows 73 = .ok (.iastore, 1) := by decide +kernel
theorem dX3_exchangeRows_74 : decode cX3_exchangeRows 74 = .ok (.aload_n 0, 1) := by decide +kernel
theorem dX3_exchangeRows_75 : decode cX3_exchangeRows 75 = .ok (.getfield 31, 3) := by decide +kernel
theorem dX3_exchangeRows_78 : decode cX3_exchangeRows 78 = .ok (.iload_n 2, 1) := by decide +kernel
theorem dX3_exchangeRows_79 : decode cX3_exchangeRows 79 = .ok (.iload 6, 2) := by decide +kernel
theorem dX3_exchangeRows_81 : decode cX3_exchangeRows 81 = .ok (.iastore, 1) := by decide +kernel
theorem dX3_exchangeRows_82 : decode cX3_exchangeRows 82 = .ok (.return_, 1) := by decide +kernel
theorem dX3_entriesOf_0 : decode cX3_entriesOf 0 = .ok (.iconst 0, 1) := by decide +kernel
theorem dX3_entriesOf_1 : decode cX3_entriesOf 1 = .ok (.istore_n 2, 1) := by decide +kernel
theorem dX3_entriesOf_2 : decode cX3_entriesOf 2 = .ok (.iconst 0, 1) := by decide +kernel
theorem dX3_entriesOf_3 : decode cX3_entriesOf 3 = .ok (.istore_n 3, 1) := by decide +kernel
theorem dX3_entriesOf_4 : decode cX3_entriesOf 4 = .ok (.iload_n 3, 1) := by decide +kernel
theorem dX3_entriesOf_5 : decode cX3_entriesOf 5 = .ok (.iconst 3, 1) := by decide +kernel
theorem dX3_entriesOf_6 : decode cX3_entriesOf 6 = .ok (.if_icmp .ge 22, 3) := by decide +kernel
theorem dX3_entriesOf_9 : decode cX3_entriesOf 9 = .ok (.iload_n 2, 1) := by decide +kernel
theorem dX3_entriesOf_10 : decode cX3_entriesOf 10 = .ok (.aload_n 0, 1) := by decide +kernel
theorem dX3_entriesOf_11 : decode cX3_entriesOf 11 = .ok (.getfield 22, 3) := by decide +kernel
theorem dX3_entriesOf_14 : decode cX3_entriesOf 14 = .ok (.iload_n 1, 1) := by decide +kernel
theorem dX3_entriesOf_15 : decode cX3_entriesOf 15 = .ok (.iload_n 3, 1) := by decide +kernel
theorem dX3_entriesOf_16 : decode cX3_entriesOf 16 = .ok (.invokestatic 71, 3) := by decide +kernel
theorem dX3_entriesOf_19 : decode cX3_entriesOf 19 = .ok (.iaload, 1) := by decide +kernel
theorem dX3_entriesOf_20 : decode cX3_entriesOf 20 = .ok (.iadd, 1) := by decide +kernel
theorem dX3_entriesOf_21 : decode cX3_entriesOf 21 = .ok (.istore_n 2, 1) := by decide +kernel
theorem dX3_entriesOf_22 : decode cX3_entriesOf 22 = .ok (.iinc 3 1, 3) := by decide +kernel
theorem dX3_entriesOf_25 : decode cX3_entriesOf 25 = .ok (.goto (-21), 3) := by decide +kernel
theorem dX3_entriesOf_28 : decode cX3_entriesOf 28 = .ok (.iload_n 2, 1) := by decide +kernel
theorem dX3_entriesOf_29 : decode cX3_entriesOf 29 = .ok (.ireturn, 1) := by decide +kernel
theorem dX3_languageNames_0 : decode cX3_languageNames 0 = .ok (.aload_n 0, 1) := by decide +kernel
theorem dX3_languageNames_1 : decode cX3_languageNames 1 = .ok (.iload_n 1, 1) := by decide +kernel
theorem dX3_languageNames_2 : decode cX3_languageNames 2 = .ok (.iconst 1, 1) := by decide +kernel
theorem dX3_languageNames_3 : decode cX3_languageNames 3 = .ok (.invokevirtual 47, 3) := by decide +kernel
theorem dX3_languageNames_6 : decode cX3_languageNames 6 = .ok (.lstore_n 2, 1) := by decide +kernel
theorem dX3_languageNames_7 : decode cX3_languageNames 7 = .ok (.iconst 0, 1) := by decide +kernel
theorem dX3_languageNames_8 : decode cX3_languageNames 8 = .ok (.istore 4, 2) := by decide +kernel
theorem dX3_languageNames_10 : decode cX3_languageNames 10 = .ok (.iconst 0, 1) := by decide +kernel
theorem dX3_languageNames_11 : decode cX3_languageNames 11 = .ok (.istore 5, 2) := by decide +kernel
theorem dX3_languageNames_13 : decode cX3_languageNames 13 = .ok (.iload 5, 2) := by decide +kernel
theorem dX3_languageNames_15 : decode cX3_languageNames 15 = .ok (.getstatic 74, 3) := by decide +kernel
theorem dX3_languageNames_18 : decode cX3_languageNames 18 = .ok (.iconst 1, 1) := by decide +kernel
theorem dX3_languageNames_19 : decode cX3_languageNames 19 = .ok (.iaload, 1) := by decide +kernel
theorem dX3_languageNames_20 : decode cX3_languageNames 20 = .ok (.if_icmp .ge 28, 3) := by decide +kernel
theorem dX3_languageNames_23 : decode cX3_languageNames 23 = .ok (.lload_n 2, 1) := by decide +kernel
theorem dX3_languageNames_24 : decode cX3_languageNames 24 = .ok (.bipush 20, 2) := by decide +kernel
theorem dX3_languageNames_26 : decode cX3_languageNames 26 = .ok (.iload 5, 2) := by decide +kernel
theorem dX3_languageNames_28 : decode cX3_languageNames 28 = .ok (.imul, 1) := by decide +kernel
theorem dX3_languageNames_29 : decode cX3_languageNames 29 = .ok (.lushr, 1) := by decide +kernel
theorem dX3_languageNames_30 : decode cX3_languageNames 30 = .ok (.ldc2_w 77, 3) := by decide +kernel
theorem dX3_languageNames_33 : decode cX3_languageNames 33 = .ok (.land, 1) := by decide +kernel
theorem dX3_languageNames_34 : decode cX3_languageNames 34 = .ok (.lconst 0, 1) := by decide +kernel
theorem dX3_languageNames_35 : decode cX3_languageNames 35 = .ok (.lcmp, 1) := by decide +kernel
theorem dX3_languageNames_36 : decode cX3_languageNames 36 = .ok (.ifCond .eq 6, 3) := by decide +kernel
theorem dX3_languageNames_39 : decode cX3_languageNames 39 = .ok (.iinc 4 1, 3) := by decide +kernel
theorem dX3_languageNames_42 : decode cX3_languageNames 42 = .ok (.iinc 5 1, 3) := by decide +kernel
theorem dX3_languageNames_45 : decode cX3_languageNames 45 = .ok (.goto (-32), 3) := by decide +kernel
theorem dX3_languageNames_48 : decode cX3_languageNames 48 = .ok (.iload 4, 2) := by decide +kernel
theorem dX3_languageNames_50 : decode cX3_languageNames 50 = .ok (.ireturn, 1) := by decide +kernel
theorem dX3_matches_0 : decode cX3_matches 0 = .ok (.iload_n 1, 1) := by decide +kernel
theorem dX3_matches_1 : decode cX3_matches 1 = .ok (.iconst 3, 1) := by decide +kernel
theorem dX3_matches_2 : decode cX3_matches 2 = .ok (.irem, 1) := by decide +kernel
theorem dX3_matches_3 : decode cX3_matches 3 = .ok (.istore 4, 2) := by decide +kernel
theorem dX3_matches_5 : decode cX3_matches 5 = .ok (.iload_n 1, 1) := by decide +kernel
theorem dX3_matches_6 : decode cX3_matches 6 = .ok (.iload_n 2, 1) := by decide +kernel
theorem dX3_matches_7 : decode cX3_matches 7 = .ok (.invokestatic 60, 3) := by decide +kernel
theorem dX3_matches_10 : decode cX3_matches 10 = .ok (.istore 5, 2) := by decide +kernel
theorem dX3_matches_12 : decode cX3_matches 12 = .ok (.getstatic 74, 3) := by decide +kernel
theorem dX3_matches_15 : decode cX3_matches 15 = .ok (.iload 4, 2) := by decide +kernel
theorem dX3_matches_17 : decode cX3_matches 17 = .ok (.iaload, 1) := by decide +kernel
theorem dX3_matches_18 : decode cX3_matches 18 = .ok (.aload_n 0, 1) := by decide +kernel
theorem dX3_matches_19 : decode cX3_matches 19 = .ok (.getfield 28, 3) := by decide +kernel
theorem dX3_matches_22 : decode cX3_matches 22 = .ok (.iload 5, 2) := by decide +kernel
theorem dX3_matches_24 : decode cX3_matches 24 = .ok (.iaload, 1) := by decide +kernel
theorem dX3_matches_25 : decode cX3_matches 25 = .ok (.isub, 1) := by decide +kernel
theorem dX3_matches_26 : decode cX3_matches 26 = .ok (.istore 6, 2) := by decide +kernel
theorem dX3_matches_28 : decode cX3_matches 28 = .ok (.aload_n 0, 1) := by decide +kernel
theorem dX3_matches_29 : decode cX3_matches 29 = .ok (.iload_n 3, 1) := by decide +kernel
theorem dX3_matches_30 : decode cX3_matches 30 = .ok (.iload 4, 2) := by decide +kernel
theorem dX3_matches_32 : decode cX3_matches 32 = .ok (.invokevirtual 47, 3) := by decide +kernel
theorem dX3_matches_35 : decode cX3_matches 35 = .ok (.aload_n 0, 1) := by decide +kernel
theorem dX3_matches_36 : decode cX3_matches 36 = .ok (.getfield 25, 3) := by decide +kernel
theorem dX3_matches_39 : decode cX3_matches 39 = .ok (.iload 5, 2) := by decide +kernel
theorem dX3_matches_41 : decode cX3_matches 41 = .ok (.laload, 1) := by decide +kernel
theorem dX3_matches_42 : decode cX3_matches 42 = .ok (.lxor, 1) := by decide +kernel
theorem dX3_matches_43 : decode cX3_matches 43 = .ok (.bipush 20, 2) := by decide +kernel
theorem dX3_matches_45 : decode cX3_matches 45 = .ok (.iload 6, 2) := by decide +kernel
theorem dX3_matches_47 : decode cX3_matches 47 = .ok (.imul, 1) := by decide +kernel
theorem dX3_matches_48 : decode cX3_matches 48 = .ok (.lushr, 1) := by decide +kernel
theorem dX3_matches_49 : decode cX3_matches 49 = .ok (.lconst 0, 1) := by decide +kernel
theorem dX3_matches_50 : decode cX3_matches 50 = .ok (.lcmp, 1) := by decide +kernel
theorem dX3_matches_51 : decode cX3_matches 51 = .ok (.ifCond .ne 7, 3) := by decide +kernel
theorem dX3_matches_54 : decode cX3_matches 54 = .ok (.iconst 1, 1) := by decide +kernel
theorem dX3_matches_55 : decode cX3_matches 55 = .ok (.goto 4, 3) := by decide +kernel
theorem dX3_matches_58 : decode cX3_matches 58 = .ok (.iconst 0, 1) := by decide +kernel
theorem dX3_matches_59 : decode cX3_matches 59 = .ok (.ireturn, 1) := by decide +kernel
theorem dX3_matchCount_0 : decode cX3_matchCount 0 = .ok (.iconst 0, 1) := by decide +kernel
theorem dX3_matchCount_1 : decode cX3_matchCount 1 = .ok (.istore_n 3, 1) := by decide +kernel
theorem dX3_matchCount_2 : decode cX3_matchCount 2 = .ok (.iconst 0, 1) := by decide +kernel
theorem dX3_matchCount_3 : decode cX3_matchCount 3 = .ok (.istore 4, 2) := by decide +kernel
theorem dX3_matchCount_5 : decode cX3_matchCount 5 = .ok (.iload 4, 2) := by decide +kernel
theorem dX3_matchCount_7 : decode cX3_matchCount 7 = .ok (.aload_n 0, 1) := by decide +kernel
theorem dX3_matchCount_8 : decode cX3_matchCount 8 = .ok (.getfield 37, 3) := by decide +kernel
theorem dX3_matchCount_11 : decode cX3_matchCount 11 = .ok (.if_icmp .ge 23, 3) := by decide +kernel
theorem dX3_matchCount_14 : decode cX3_matchCount 14 = .ok (.aload_n 0, 1) := by decide +kernel
theorem dX3_matchCount_15 : decode cX3_matchCount 15 = .ok (.iload_n 1, 1) := by decide +kernel
theorem dX3_matchCount_16 : decode cX3_matchCount 16 = .ok (.iload_n 2, 1) := by decide +kernel
theorem dX3_matchCount_17 : decode cX3_matchCount 17 = .ok (.iload 4, 2) := by decide +kernel
theorem dX3_matchCount_19 : decode cX3_matchCount 19 = .ok (.invokevirtual 79, 3) := by decide +kernel
theorem dX3_matchCount_22 : decode cX3_matchCount 22 = .ok (.ifCond .eq 6, 3) := by decide +kernel
theorem dX3_matchCount_25 : decode cX3_matchCount 25 = .ok (.iinc 3 1, 3) := by decide +kernel
theorem dX3_matchCount_28 : decode cX3_matchCount 28 = .ok (.iinc 4 1, 3) := by decide +kernel
theorem dX3_matchCount_31 : decode cX3_matchCount 31 = .ok (.goto (-26), 3) := by decide +kernel
theorem dX3_matchCount_34 : decode cX3_matchCount 34 = .ok (.iload_n 3, 1) := by decide +kernel
theorem dX3_matchCount_35 : decode cX3_matchCount 35 = .ok (.ireturn, 1) := by decide +kernel
theorem dX3_placeThatCounts_0 : decode cX3_placeThatCounts 0 = .ok (.iconst (-1), 1) := by decide +kernel
theorem dX3_placeThatCounts_1 : decode cX3_placeThatCounts 1 = .ok (.istore_n 3, 1) := by decide +kernel
theorem dX3_placeThatCounts_2 : decode cX3_placeThatCounts 2 = .ok (.iconst (-1), 1) := by decide +kernel
theorem dX3_placeThatCounts_3 : decode cX3_placeThatCounts 3 = .ok (.istore 4, 2) := by decide +kernel
theorem dX3_placeThatCounts_5 : decode cX3_placeThatCounts 5 = .ok (.iconst 0, 1) := by decide +kernel
theorem dX3_placeThatCounts_6 : decode cX3_placeThatCounts 6 = .ok (.istore 5, 2) := by decide +kernel
theorem dX3_placeThatCounts_8 : decode cX3_placeThatCounts 8 = .ok (.iload 5, 2) := by decide +kernel
theorem dX3_placeThatCounts_10 : decode cX3_placeThatCounts 10 = .ok (.aload_n 0, 1) := by decide +kernel
theorem dX3_placeThatCounts_11 : decode cX3_placeThatCounts 11 = .ok (.getfield 22, 3) := by decide +kernel
theorem dX3_placeThatCounts_14 : decode cX3_placeThatCounts 14 = .ok (.iload_n 1, 1) := by decide +kernel
theorem dX3_placeThatCounts_15 : decode cX3_placeThatCounts 15 = .ok (.iaload, 1) := by decide +kernel
theorem dX3_placeThatCounts_16 : decode cX3_placeThatCounts 16 = .ok (.if_icmp .ge 47, 3) := by decide +kernel
theorem dX3_placeThatCounts_19 : decode cX3_placeThatCounts 19 = .ok (.aload_n 0, 1) := by decide +kernel
theorem dX3_placeThatCounts_20 : decode cX3_placeThatCounts 20 = .ok (.getfield 28, 3) := by decide +kernel
theorem dX3_placeThatCounts_23 : decode cX3_placeThatCounts 23 = .ok (.iload_n 1, 1) := by decide +kernel
theorem dX3_placeThatCounts_24 : decode cX3_placeThatCounts 24 = .ok (.iload 5, 2) := by decide +kernel
theorem dX3_placeThatCounts_26 : decode cX3_placeThatCounts 26 = .ok (.invokestatic 60, 3) := by decide +kernel
theorem dX3_placeThatCounts_29 : decode cX3_placeThatCounts 29 = .ok (.iaload, 1) := by decide +kernel
theorem dX3_placeThatCounts_30 : decode cX3_placeThatCounts 30 = .ok (.istore 6, 2) := by decide +kernel
theorem dX3_placeThatCounts_32 : decode cX3_placeThatCounts 32 = .ok (.iload 6, 2) := by decide +kernel
theorem dX3_placeThatCounts_34 : decode cX3_placeThatCounts 34 = .ok (.iload 4, 2) := by decide +kernel
theorem dX3_placeThatCounts_36 : decode cX3_placeThatCounts 36 = .ok (.if_icmp .le 21, 3) := by decide +kernel
theorem dX3_placeThatCounts_39 : decode cX3_placeThatCounts 39 = .ok (.aload_n 0, 1) := by decide +kernel
theorem dX3_placeThatCounts_40 : decode cX3_placeThatCounts 40 = .ok (.iload_n 1, 1) := by decide +kernel
theorem dX3_placeThatCounts_41 : decode cX3_placeThatCounts 41 = .ok (.iload 5, 2) := by decide +kernel
theorem dX3_placeThatCounts_43 : decode cX3_placeThatCounts 43 = .ok (.iload_n 2, 1) := by decide +kernel
theorem dX3_placeThatCounts_44 : decode cX3_placeThatCounts 44 = .ok (.invokevirtual 79, 3) := by decide +kernel
theorem dX3_placeThatCounts_47 : decode cX3_placeThatCounts 47 = .ok (.ifCond .eq 10, 3) := by decide +kernel
theorem dX3_placeThatCounts_50 : decode cX3_placeThatCounts 50 = .ok (.iload 5, 2) := by decide +kernel
theorem dX3_placeThatCounts_52 : decode cX3_placeThatCounts 52 = .ok (.istore_n 3, 1) := by decide +kernel
theorem dX3_placeThatCounts_53 : decode cX3_placeThatCounts 53 = .ok (.iload 6, 2) := by decide +kernel
theorem dX3_placeThatCounts_55 : decode cX3_placeThatCounts 55 = .ok (.istore 4, 2) := by decide +kernel
theorem dX3_placeThatCounts_57 : decode cX3_placeThatCounts 57 = .ok (.iinc 5 1, 3) := by decide +kernel
theorem dX3_placeThatCounts_60 : decode cX3_placeThatCounts 60 = .ok (.goto (-52), 3) := by decide +kernel
theorem dX3_placeThatCounts_63 : decode cX3_placeThatCounts 63 = .ok (.iload_n 3, 1) := by decide +kernel
theorem dX3_placeThatCounts_64 : decode cX3_placeThatCounts 64 = .ok (.ireturn, 1) := by decide +kernel
theorem dX3_weightAt_0 : decode cX3_weightAt 0 = .ok (.iload_n 2, 1) := by decide +kernel
theorem dX3_weightAt_1 : decode cX3_weightAt 1 = .ok (.iconst (-1), 1) := by decide +kernel
theorem dX3_weightAt_2 : decode cX3_weightAt 2 = .ok (.if_icmp .eq 14, 3) := by decide +kernel
theorem dX3_weightAt_5 : decode cX3_weightAt 5 = .ok (.aload_n 0, 1) := by decide +kernel
theorem dX3_weightAt_6 : decode cX3_weightAt 6 = .ok (.getfield 31, 3) := by decide +kernel
theorem dX3_weightAt_9 : decode cX3_weightAt 9 = .ok (.iload_n 1, 1) := by decide +kernel
theorem dX3_weightAt_10 : decode cX3_weightAt 10 = .ok (.iload_n 2, 1) := by decide +kernel
theorem dX3_weightAt_11 : decode cX3_weightAt 11 = .ok (.invokestatic 60, 3) := by decide +kernel
theorem dX3_weightAt_14 : decode cX3_weightAt 14 = .ok (.iaload, 1) := by decide +kernel
theorem dX3_weightAt_15 : decode cX3_weightAt 15 = .ok (.ireturn, 1) := by decide +kernel
theorem dX3_weightAt_16 : decode cX3_weightAt 16 = .ok (.aload_n 0, 1) := by decide +kernel
theorem dX3_weightAt_17 : decode cX3_weightAt 17 = .ok (.getfield 22, 3) := by decide +kernel
theorem dX3_weightAt_20 : decode cX3_weightAt 20 = .ok (.iload_n 1, 1) := by decide +kernel
theorem dX3_weightAt_21 : decode cX3_weightAt 21 = .ok (.iaload, 1) := by decide +kernel
theorem dX3_weightAt_22 : decode cX3_weightAt 22 = .ok (.ifCond .ne 7, 3) := by decide +kernel
theorem dX3_weightAt_25 : decode cX3_weightAt 25 = .ok (.sipush 1000, 3) := by decide +kernel
theorem dX3_weightAt_28 : decode cX3_weightAt 28 = .ok (.ireturn, 1) := by decide +kernel
theorem dX3_weightAt_29 : decode cX3_weightAt 29 = .ok (.iload_n 1, 1) := by decide +kernel
theorem dX3_weightAt_30 : decode cX3_weightAt 30 = .ok (.iconst 3, 1) := by decide +kernel
theorem dX3_weightAt_31 : decode cX3_weightAt 31 = .ok (.irem, 1) := by decide +kernel
theorem dX3_weightAt_32 : decode cX3_weightAt 32 = .ok (.iconst 2, 1) := by decide +kernel
theorem dX3_weightAt_33 : decode cX3_weightAt 33 = .ok (.if_icmp .ne 22, 3) := by decide +kernel
theorem dX3_weightAt_36 : decode cX3_weightAt 36 = .ok (.aload_n 0, 1) := by decide +kernel
theorem dX3_weightAt_37 : decode cX3_weightAt 37 = .ok (.iload_n 3, 1) := by decide +kernel
theorem dX3_weightAt_38 : decode cX3_weightAt 38 = .ok (.iconst 2, 1) := by decide +kernel
theorem dX3_weightAt_39 : decode cX3_weightAt 39 = .ok (.invokevirtual 47, 3) := by decide +kernel
theorem dX3_weightAt_42 : decode cX3_weightAt 42 = .ok (.ldc2_w 83, 3) := by decide +kernel
theorem dX3_weightAt_45 : decode cX3_weightAt 45 = .ok (.lcmp, 1) := by decide +kernel
theorem dX3_weightAt_46 : decode cX3_weightAt 46 = .ok (.ifCond .ne 9, 3) := by decide +kernel
theorem dX3_weightAt_49 : decode cX3_weightAt 49 = .ok (.sipush 1000, 3) := by decide +kernel
theorem dX3_weightAt_52 : decode cX3_weightAt 52 = .ok (.goto 4, 3) := by decide +kernel
theorem dX3_weightAt_55 : decode cX3_weightAt 55 = .ok (.iconst 0, 1) := by decide +kernel
theorem dX3_weightAt_56 : decode cX3_weightAt 56 = .ok (.ireturn, 1) := by decide +kernel
theorem dX4_init_0 : decode cX4_init 0 = .ok (.aload_n 0, 1) := by decide +kernel
theorem dX4_init_1 : decode cX4_init 1 = .ok (.invokespecial 3, 3) := by decide +kernel
theorem dX4_init_4 : decode cX4_init 4 = .ok (.aload_n 0, 1) := by decide +kernel
theorem dX4_init_5 : decode cX4_init 5 = .ok (.bipush 120, 2) := by decide +kernel
theorem dX4_init_7 : decode cX4_init 7 = .ok (.newarray .byte, 2) := by decide +kernel
theorem dX4_init_9 : decode cX4_init 9 = .ok (.putfield 9, 3) := by decide +kernel
theorem dX4_init_12 : decode cX4_init 12 = .ok (.return_, 1) := by decide +kernel
theorem dX4_append_0 : decode cX4_append 0 = .ok (.aload_n 0, 1) := by decide +kernel
theorem dX4_append_1 : decode cX4_append 1 = .ok (.getfield 15, 3) := by decide +kernel
theorem dX4_append_4 : decode cX4_append 4 = .ok (.bipush 120, 2) := by decide +kernel
theorem dX4_append_6 : decode cX4_append 6 = .ok (.if_icmp .ge 24, 3) := by decide +kernel
theorem dX4_append_9 : decode cX4_append 9 = .ok (.aload_n 0, 1) := by decide +kernel
theorem dX4_append_10 : decode cX4_append 10 = .ok (.getfield 9, 3) := by decide +kernel
theorem dX4_append_13 : decode cX4_append 13 = .ok (.aload_n 0, 1) := by decide +kernel
theorem dX4_append_14 : decode cX4_append 14 = .ok (.getfield 15, 3) := by decide +kernel
theorem dX4_append_17 : decode cX4_append 17 = .ok (.iload_n 1, 1) := by decide +kernel
theorem dX4_append_18 : decode cX4_append 18 = .ok (.i2b, 1) := by decide +kernel
theorem dX4_append_19 : decode cX4_append 19 = .ok (.bastore, 1) := by decide +kernel
theorem dX4_append_20 : decode cX4_append 20 = .ok (.aload_n 0, 1) := by decide +kernel
theorem dX4_append_21 : decode cX4_append 21 = .ok (.dup, 1) := by decide +kernel
theorem dX4_append_22 : decode cX4_append 22 = .ok (.getfield 15, 3) := by decide +kernel
theorem dX4_append_25 : decode cX4_append 25 = .ok (.iconst 1, 1) := by decide +kernel
theorem dX4_append_26 : decode cX4_append 26 = .ok (.iadd, 1) := by decide +kernel
theorem dX4_append_27 : decode cX4_append 27 = .ok (.putfield 15, 3) := by decide +kernel
theorem dX4_append_30 : decode cX4_append 30 = .ok (.aload_n 0, 1) := by decide +kernel
theorem dX4_append_31 : decode cX4_append 31 = .ok (.getfield 15, 3) := by decide +kernel
theorem dX4_append_34 : decode cX4_append 34 = .ok (.ireturn, 1) := by decide +kernel
theorem dX4_byteAt_0 : decode cX4_byteAt 0 = .ok (.iload_n 1, 1) := by decide +kernel
theorem dX4_byteAt_1 : decode cX4_byteAt 1 = .ok (.ifCond .lt 20, 3) := by decide +kernel
theorem dX4_byteAt_4 : decode cX4_byteAt 4 = .ok (.iload_n 1, 1) := by decide +kernel
theorem dX4_byteAt_5 : decode cX4_byteAt 5 = .ok (.aload_n 0, 1) := by decide +kernel
theorem dX4_byteAt_6 : decode cX4_byteAt 6 = .ok (.getfield 15, 3) := by decide +kernel
theorem dX4_byteAt_9 : decode cX4_byteAt 9 = .ok (.if_icmp .ge 12, 3) := by decide +kernel
theorem dX4_byteAt_12 : decode cX4_byteAt 12 = .ok (.aload_n 0, 1) := by decide +kernel
theorem dX4_byteAt_13 : decode cX4_byteAt 13 = .ok (.getfield 9, 3) := by decide +kernel
theorem dX4_byteAt_16 : decode cX4_byteAt 16 = .ok (.iload_n 1, 1) := by decide +kernel
theorem dX4_byteAt_17 : decode cX4_byteAt 17 = .ok (.baload, 1) := by decide +kernel
theorem dX4_byteAt_18 : decode cX4_byteAt 18 = .ok (.goto 4, 3) := by decide +kernel
theorem dX4_byteAt_21 : decode cX4_byteAt 21 = .ok (.iconst (-1), 1) := by decide +kernel
theorem dX4_byteAt_22 : decode cX4_byteAt 22 = .ok (.ireturn, 1) := by decide +kernel
theorem dX5_init_0 : decode cX5_init 0 = .ok (.aload_n 0, 1) := by decide +kernel
theorem dX5_init_1 : decode cX5_init 1 = .ok (.invokespecial 3, 3) := by decide +kernel
theorem dX5_init_4 : decode cX5_init 4 = .ok (.aload_n 0, 1) := by decide +kernel
theorem dX5_init_5 : decode cX5_init 5 = .ok (.new 9, 3) := by decide +kernel
theorem dX5_init_8 : decode cX5_init 8 = .ok (.dup, 1) := by decide +kernel
theorem dX5_init_9 : decode cX5_init 9 = .ok (.invokespecial 11, 3) := by decide +kernel
theorem dX5_init_12 : decode cX5_init 12 = .ok (.putfield 12, 3) := by decide +kernel
theorem dX5_init_15 : decode cX5_init 15 = .ok (.aload_n 0, 1) := by decide +kernel
theorem dX5_init_16 : decode cX5_init 16 = .ok (.new 16, 3) := by decide +kernel
theorem dX5_init_19 : decode cX5_init 19 = .ok (.dup, 1) := by decide +kernel
theorem dX5_init_20 : decode cX5_init 20 = .ok (.aload_n 0, 1) := by decide +kernel
theorem dX5_init_21 : decode cX5_init 21 = .ok (.getfield 12, 3) := by decide +kernel
theorem dX5_init_24 : decode cX5_init 24 = .ok (.invokespecial 18, 3) := by decide +kernel
theorem dX5_init_27 : decode cX5_init 27 = .ok (.putfield 21, 3) := by decide +kernel
theorem dX5_init_30 : decode cX5_init 30 = .ok (.aload_n 0, 1) := by decide +kernel
theorem dX5_init_31 : decode cX5_init 31 = .ok (.new 25, 3) := by decide +kernel
theorem dX5_init_34 : decode cX5_init 34 = .ok (.dup, 1) := by decide +kernel
theorem dX5_init_35 : decode cX5_init 35 = .ok (.invokespecial 27, 3) := by decide +kernel
theorem dX5_init_38 : decode cX5_init 38 = .ok (.putfield 28, 3) := by decide +kernel
theorem dX5_init_41 : decode cX5_init 41 = .ok (.aload_n 0, 1) := by decide +kernel
theorem dX5_init_42 : decode cX5_init 42 = .ok (.new 32, 3) := by decide +kernel
theorem dX5_init_45 : decode cX5_init 45 = .ok (.dup, 1) := by decide +kernel
theorem dX5_init_46 : decode cX5_init 46 = .ok (.aload_n 0, 1) := by decide +kernel
theorem dX5_init_47 : decode cX5_init 47 = .ok (.getfield 28, 3) := by decide +kernel
theorem dX5_init_50 : decode cX5_init 50 = .ok (.invokespecial 34, 3) := by decide +kernel
theorem dX5_init_53 : decode cX5_init 53 = .ok (.putfield 37, 3) := by decide +kernel
theorem dX5_init_56 : decode cX5_init 56 = .ok (.aload_n 0, 1) := by decide +kernel
theorem dX5_init_57 : decode cX5_init 57 = .ok (.new 32, 3) := by decide +kernel
theorem dX5_init_60 : decode cX5_init 60 = .ok (.dup, 1) := by decide +kernel
theorem dX5_init_61 : decode cX5_init 61 = .ok (.aload_n 0, 1) := by decide +kernel
theorem dX5_init_62 : decode cX5_init 62 = .ok (.getfield 28, 3) := by decide +kernel
theorem dX5_init_65 : decode cX5_init 65 = .ok (.invokespecial 34, 3) := by decide +kernel
theorem dX5_init_68 : decode cX5_init 68 = .ok (.putfield 41, 3) := by decide +kernel
theorem dX5_init_71 : decode cX5_init 71 = .ok (.aload_n 0, 1) := by decide +kernel
theorem dX5_init_72 : decode cX5_init 72 = .ok (.new 44, 3) := by decide +kernel
theorem dX5_init_75 : decode cX5_init 75 = .ok (.dup, 1) := by decide +kernel
theorem dX5_init_76 : decode cX5_init 76 = .ok (.aload_n 0, 1) := by decide +kernel
theorem dX5_init_77 : decode cX5_init 77 = .ok (.getfield 28, 3) := by decide +kernel
theorem dX5_init_80 : decode cX5_init 80 = .ok (.invokespecial 46, 3) := by decide +kernel
theorem dX5_init_83 : decode cX5_init 83 = .ok (.putfield 47, 3) := by decide +kernel
theorem dX5_init_86 : decode cX5_init 86 = .ok (.aload_n 0, 1) := by decide +kernel
theorem dX5_init_87 : decode cX5_init 87 = .ok (.iconst 4, 1) := by decide +kernel
theorem dX5_init_88 : decode cX5_init 88 = .ok (.anewarray 25, 3) := by decide +kernel
theorem dX5_init_91 : decode cX5_init 91 = .ok (.putfield 51, 3) := by decide +kernel
theorem dX5_init_94 : decode cX5_init 94 = .ok (.iconst 0, 1) := by decide +kernel
theorem dX5_init_95 : decode cX5_init 95 = .ok (.istore_n 1, 1) := by decide +kernel
theorem dX5_init_96 : decode cX5_init 96 = .ok (.iload_n 1, 1) := by decide +kernel
theorem dX5_init_97 : decode cX5_init 97 = .ok (.iconst 4, 1) := by decide +kernel
theorem dX5_init_98 : decode cX5_init 98 = .ok (.if_icmp .ge 22, 3) := by decide +kernel
theorem dX5_init_101 : decode cX5_init 101 = .ok (.aload_n 0, 1) := by decide +kernel
theorem dX5_init_102 : decode cX5_init 102 = .ok (.getfield 51, 3) := by decide +kernel
theorem dX5_init_105 : decode cX5_init 105 = .ok (.iload_n 1, 1) := by decide +kernel
theorem dX5_init_106 : decode cX5_init 106 = .ok (.new 25, 3) := by decide +kernel
theorem dX5_init_109 : decode cX5_init 109 = .ok (.dup, 1) := by decide +kernel
theorem dX5_init_110 : decode cX5_init 110 = .ok (.invokespecial 27, 3) := by decide +kernel
theorem dX5_init_113 : decode cX5_init 113 = .ok (.aastore, 1) := by decide +kernel
theorem dX5_init_114 : decode cX5_init 114 = .ok (.iinc 1 1, 3) := by decide +kernel
theorem dX5_init_117 : decode cX5_init 117 = .ok (.goto (-21), 3) := by decide +kernel
theorem dX5_init_120 : decode cX5_init 120 = .ok (.aload_n 0, 1) := by decide +kernel
theorem dX5_init_121 : decode cX5_init 121 = .ok (.iconst 0, 1) := by decide +kernel
theorem dX5_init_122 : decode cX5_init 122 = .ok (.putfield 55, 3) := by decide +kernel
theorem dX5_init_125 : decode cX5_init 125 = .ok (.aload_n 0, 1) := by decide +kernel
theorem dX5_init_126 : decode cX5_init 126 = .ok (.iconst 1, 1) := by decide +kernel
theorem dX5_init_127 : decode cX5_init 127 = .ok (.putfield 59, 3) := by decide +kernel
theorem dX5_init_130 : decode cX5_init 130 = .ok (.return_, 1) := by decide +kernel
theorem dX5_type_0 : decode cX5_type 0 = .ok (.iload_n 1, 1) := by decide +kernel
theorem dX5_type_1 : decode cX5_type 1 = .ok (.ifCond .lt 9, 3) := by decide +kernel
theorem dX5_type_4 : decode cX5_type 4 = .ok (.iload_n 1, 1) := by decide +kernel
theorem dX5_type_5 : decode cX5_type 5 = .ok (.bipush 127, 2) := by decide +kernel
theorem dX5_type_7 : decode cX5_type 7 = .ok (.if_icmp .le 13, 3) := by decide +kernel
theorem dX5_type_10 : decode cX5_type 10 = .ok (.new 63, 3) := by decide +kernel
theorem dX5_type_13 : decode cX5_type 13 = .ok (.dup, 1) := by decide +kernel
theorem dX5_type_14 : decode cX5_type 14 = .ok (.ldc 65, 2) := by decide +kernel
theorem dX5_type_16 : decode cX5_type 16 = .ok (.invokespecial 67, 3) := by decide +kernel
theorem dX5_type_19 : decode cX5_type 19 = .ok (.athrow, 1) := by decide +kernel
theorem dX5_type_20 : decode cX5_type 20 = .ok (.aload_n 0, 1) := by decide +kernel
theorem dX5_type_21 : decode cX5_type 21 = .ok (.getfield 12, 3) := by decide +kernel
theorem dX5_type_24 : decode cX5_type 24 = .ok (.getfield 70, 3) := by decide +kernel
theorem dX5_type_27 : decode cX5_type 27 = .ok (.bipush 120, 2) := by decide +kernel
theorem dX5_type_29 : decode cX5_type 29 = .ok (.if_icmp .lt 13, 3) := by decide +kernel
theorem dX5_type_32 : decode cX5_type 32 = .ok (.new 73, 3) := by decide +kernel
theorem dX5_type_35 : decode cX5_type 35 = .ok (.dup, 1) := by decide +kernel
theorem dX5_type_36 : decode cX5_type 36 = .ok (.ldc 75, 2) := by decide +kernel
theorem dX5_type_38 : decode cX5_type 38 = .ok (.invokespecial 77, 3) := by decide +kernel
theorem dX5_type_41 : decode cX5_type 41 = .ok (.athrow, 1) := by decide +kernel
theorem dX5_type_42 : decode cX5_type 42 = .ok (.aload_n 0, 1) := by decide +kernel
theorem dX5_type_43 : decode cX5_type 43 = .ok (.getfield 12, 3) := by decide +kernel
theorem dX5_type_46 : decode cX5_type 46 = .ok (.iload_n 1, 1) := by decide +kernel
theorem dX5_type_47 : decode cX5_type 47 = .ok (.invokevirtual 78, 3) := by decide +kernel
theorem dX5_type_50 : decode cX5_type 50 = .ok (.ireturn, 1) := by decide +kernel
theorem dX5_clearText_0 : decode cX5_clearText 0 = .ok (.aload_n 0, 1) := by decide +kernel
theorem dX5_clearText_1 : decode cX5_clearText 1 = .ok (.getfield 12, 3) := by decide +kernel
theorem dX5_clearText_4 : decode cX5_clearText 4 = .ok (.getfield 70, 3) := by decide +kernel
theorem dX5_clearText_7 : decode cX5_clearText 7 = .ok (.istore_n 1, 1) := by decide +kernel
theorem dX5_clearText_8 : decode cX5_clearText 8 = .ok (.aload_n 0, 1) := by decide +kernel
theorem dX5_clearText_9 : decode cX5_clearText 9 = .ok (.getfield 12, 3) := by decide +kernel
theorem dX5_clearText_12 : decode cX5_clearText 12 = .ok (.iconst 0, 1) := by decide +kernel
theorem dX5_clearText_13 : decode cX5_clearText 13 = .ok (.putfield 70, 3) := by decide +kernel
theorem dX5_clearText_16 : decode cX5_clearText 16 = .ok (.iload_n 1, 1) := by decide +kernel
theorem dX5_clearText_17 : decode cX5_clearText 17 = .ok (.ireturn, 1) := by decide +kernel
theorem dX5_listFault_0 : decode cX5_listFault 0 = .ok (.iconst 0, 1) := by decide +kernel
theorem dX5_listFault_1 : decode cX5_listFault 1 = .ok (.iload_n 1, 1) := by decide +kernel
theorem dX5_listFault_2 : decode cX5_listFault 2 = .ok (.invokestatic 82, 3) := by decide +kernel
theorem dX5_listFault_5 : decode cX5_listFault 5 = .ok (.ifCond .ne 13, 3) := by decide +kernel
theorem dX5_listFault_8 : decode cX5_listFault 8 = .ok (.new 86, 3) := by decide +kernel
theorem dX5_listFault_11 : decode cX5_listFault 11 = .ok (.dup, 1) := by decide +kernel
theorem dX5_listFault_12 : decode cX5_listFault 12 = .ok (.ldc 88, 2) := by decide +kernel
theorem dX5_listFault_14 : decode cX5_listFault 14 = .ok (.invokespecial 90, 3) := by decide +kernel
theorem dX5_listFault_17 : decode cX5_listFault 17 = .ok (.athrow, 1) := by decide +kernel
theorem dX5_listFault_18 : decode cX5_listFault 18 = .ok (.aload_n 0, 1) := by decide +kernel
theorem dX5_listFault_19 : decode cX5_listFault 19 = .ok (.getfield 21, 3) := by decide +kernel
theorem dX5_listFault_22 : decode cX5_listFault 22 = .ok (.iload_n 1, 1) := by decide +kernel
theorem dX5_listFault_23 : decode cX5_listFault 23 = .ok (.invokevirtual 91, 3) := by decide +kernel
theorem dX5_listFault_26 : decode cX5_listFault 26 = .ok (.ireturn, 1) := by decide +kernel
theorem dX5_variantFault_0 : decode cX5_variantFault 0 = .ok (.aload_n 0, 1) := by decide +kernel
theorem dX5_variantFault_1 : decode cX5_variantFault 1 = .ok (.getfield 21, 3) := by decide +kernel
theorem dX5_variantFault_4 : decode cX5_variantFault 4 = .ok (.invokevirtual 94, 3) := by decide +kernel
theorem dX5_variantFault_7 : decode cX5_variantFault 7 = .ok (.ireturn, 1) := by decide +kernel
theorem dX5_takeList_0 : decode cX5_takeList 0 = .ok (.iload_n 1, 1) := by decide +kernel
theorem dX5_takeList_1 : decode cX5_takeList 1 = .ok (.iload_n 2, 1) := by decide +kernel
theorem dX5_takeList_2 : decode cX5_takeList 2 = .ok (.invokestatic 82, 3) := by decide +kernel
theorem dX5_takeList_5 : decode cX5_takeList 5 = .ok (.ifCond .ne 13, 3) := by decide +kernel
theorem dX5_takeList_8 : decode cX5_takeList 8 = .ok (.new 86, 3) := by decide +kernel
theorem dX5_takeList_11 : decode cX5_takeList 11 = .ok (.dup, 1) := by decide +kernel
theorem dX5_takeList_12 : decode cX5_takeList 12 = .ok (.ldc 98, 2) := by decide +kernel
theorem dX5_takeList_14 : decode cX5_takeList 14 = .ok (.invokespecial 90, 3) := by decide +kernel
theorem dX5_takeList_17 : decode cX5_takeList 17 = .ok (.athrow, 1) := by decide +kernel
theorem dX5_takeList_18 : decode cX5_takeList 18 = .ok (.aload_n 0, 1) := by decide +kernel
theorem dX5_takeList_19 : decode cX5_takeList 19 = .ok (.getfield 21, 3) := by decide +kernel
theorem dX5_takeList_22 : decode cX5_takeList 22 = .ok (.iload_n 2, 1) := by decide +kernel
theorem dX5_takeList_23 : decode cX5_takeList 23 = .ok (.invokevirtual 91, 3) := by decide +kernel
theorem dX5_takeList_26 : decode cX5_takeList 26 = .ok (.istore_n 3, 1) := by decide +kernel
theorem dX5_takeList_27 : decode cX5_takeList 27 = .ok (.iload_n 3, 1) := by decide +kernel
theorem dX5_takeList_28 : decode cX5_takeList 28 = .ok (.iconst (-1), 1) := by decide +kernel
theorem dX5_takeList_29 : decode cX5_takeList 29 = .ok (.if_icmp .eq 8, 3) := by decide +kernel
theorem dX5_takeList_32 : decode cX5_takeList 32 = .ok (.bipush (-10), 2) := by decide +kernel
theorem dX5_takeList_34 : decode cX5_takeList 34 = .ok (.iload_n 3, 1) := by decide +kernel
theorem dX5_takeList_35 : decode cX5_takeList 35 = .ok (.isub, 1) := by decide +kernel
theorem dX5_takeList_36 : decode cX5_takeList 36 = .ok (.ireturn, 1) := by decide +kernel
theorem dX5_takeList_37 : decode cX5_takeList 37 = .ok (.aload_n 0, 1) := by decide +kernel
theorem dX5_takeList_38 : decode cX5_takeList 38 = .ok (.invokevirtual 100, 3) := by decide +kernel
theorem dX5_takeList_41 : decode cX5_takeList 41 = .ok (.aload_n 0, 1) := by decide +kernel
theorem dX5_takeList_42 : decode cX5_takeList 42 = .ok (.getfield 28, 3) := by decide +kernel
theorem dX5_takeList_45 : decode cX5_takeList 45 = .ok (.iload_n 1, 1) := by decide +kernel
theorem dX5_takeList_46 : decode cX5_takeList 46 = .ok (.iload_n 2, 1) := by decide +kernel
theorem dX5_takeList_47 : decode cX5_takeList 47 = .ok (.invokestatic 103, 3) := by decide +kernel
theorem dX5_takeList_50 : decode cX5_takeList 50 = .ok (.aload_n 0, 1) := by decide +kernel
theorem dX5_takeList_51 : decode cX5_takeList 51 = .ok (.getfield 21, 3) := by decide +kernel
theorem dX5_takeList_54 : decode cX5_takeList 54 = .ok (.invokevirtual 107, 3) := by decide +kernel
theorem dX5_takeList_57 : decode cX5_takeList 57 = .ok (.ireturn, 1) := by decide +kernel
theorem dX5_addVariant_0 : decode cX5_addVariant 0 = .ok (.aload_n 0, 1) := by decide +kernel
theorem dX5_addVariant_1 : decode cX5_addVariant 1 = .ok (.getfield 21, 3) := by decide +kernel
theorem dX5_addVariant_4 : decode cX5_addVariant 4 = .ok (.invokevirtual 94, 3) := by decide +kernel
theorem dX5_addVariant_7 : decode cX5_addVariant 7 = .ok (.istore_n 1, 1) := by decide +kernel
theorem dX5_addVariant_8 : decode cX5_addVariant 8 = .ok (.iload_n 1, 1) := by decide +kernel
theorem dX5_addVariant_9 : decode cX5_addVariant 9 = .ok (.iconst (-1), 1) := by decide +kernel
theorem dX5_addVariant_10 : decode cX5_addVariant 10 = .ok (.if_icmp .eq 8, 3) := by decide +kernel
theorem dX5_addVariant_13 : decode cX5_addVariant 13 = .ok (.bipush (-10), 2) := by decide +kernel
theorem dX5_addVariant_15 : decode cX5_addVariant 15 = .ok (.iload_n 1, 1) := by decide +kernel
theorem dX5_addVariant_16 : decode cX5_addVariant 16 = .ok (.isub, 1) := by decide +kernel
theorem dX5_addVariant_17 : decode cX5_addVariant 17 = .ok (.ireturn, 1) := by decide +kernel
theorem dX5_addVariant_18 : decode cX5_addVariant 18 = .ok (.aload_n 0, 1) := by decide +kernel
theorem dX5_addVariant_19 : decode cX5_addVariant 19 = .ok (.getfield 28, 3) := by decide +kernel
theorem dX5_addVariant_22 : decode cX5_addVariant 22 = .ok (.getfield 111, 3) := by decide +kernel
theorem dX5_addVariant_25 : decode cX5_addVariant 25 = .ok (.bipush 16, 2) := by decide +kernel
theorem dX5_addVariant_27 : decode cX5_addVariant 27 = .ok (.if_icmp .lt 13, 3) := by decide +kernel
theorem dX5_addVariant_30 : decode cX5_addVariant 30 = .ok (.new 73, 3) := by decide +kernel
theorem dX5_addVariant_33 : decode cX5_addVariant 33 = .ok (.dup, 1) := by decide +kernel
theorem dX5_addVariant_34 : decode cX5_addVariant 34 = .ok (.ldc 114, 2) := by decide +kernel
theorem dX5_addVariant_36 : decode cX5_addVariant 36 = .ok (.invokespecial 77, 3) := by decide +kernel
theorem dX5_addVariant_39 : decode cX5_addVariant 39 = .ok (.athrow, 1) := by decide +kernel
theorem dX5_addVariant_40 : decode cX5_addVariant 40 = .ok (.aload_n 0, 1) := by decide +kernel
theorem dX5_addVariant_41 : decode cX5_addVariant 41 = .ok (.getfield 28, 3) := by decide +kernel
theorem dX5_addVariant_44 : decode cX5_addVariant 44 = .ok (.aload_n 0, 1) := by decide +kernel
theorem dX5_addVariant_45 : decode cX5_addVariant 45 = .ok (.getfield 21, 3) := by decide +kernel
theorem dX5_addVariant_48 : decode cX5_addVariant 48 = .ok (.invokevirtual 116, 3) := by decide +kernel
theorem dX5_addVariant_51 : decode cX5_addVariant 51 = .ok (.ifCond .eq 13, 3) := by decide +kernel
theorem dX5_addVariant_54 : decode cX5_addVariant 54 = .ok (.new 73, 3) := by decide +kernel
theorem dX5_addVariant_57 : decode cX5_addVariant 57 = .ok (.dup, 1) := by decide +kernel
theorem dX5_addVariant_58 : decode cX5_addVariant 58 = .ok (.ldc 120, 2) := by decide +kernel
theorem dX5_addVariant_60 : decode cX5_addVariant 60 = .ok (.invokespecial 77, 3) := by decide +kernel
theorem dX5_addVariant_63 : decode cX5_addVariant 63 = .ok (.athrow, 1) := by decide +kernel
theorem dX5_addVariant_64 : decode cX5_addVariant 64 = .ok (.aload_n 0, 1) := by decide +kernel
theorem dX5_addVariant_65 : decode cX5_addVariant 65 = .ok (.invokevirtual 100, 3) := by decide +kernel
theorem dX5_addVariant_68 : decode cX5_addVariant 68 = .ok (.aload_n 0, 1) := by decide +kernel
theorem dX5_addVariant_69 : decode cX5_addVariant 69 = .ok (.getfield 28, 3) := by decide +kernel
theorem dX5_addVariant_72 : decode cX5_addVariant 72 = .ok (.aload_n 0, 1) := by decide +kernel
theorem dX5_addVariant_73 : decode cX5_addVariant 73 = .ok (.getfield 21, 3) := by decide +kernel
theorem dX5_addVariant_76 : decode cX5_addVariant 76 = .ok (.invokevirtual 122, 3) := by decide +kernel
theorem dX5_addVariant_79 : decode cX5_addVariant 79 = .ok (.ireturn, 1) := by decide +kernel
theorem dX5_removeVariant_0 : decode cX5_removeVariant 0 = .ok (.aload_n 0, 1) := by decide +kernel
theorem dX5_removeVariant_1 : decode cX5_removeVariant 1 = .ok (.getfield 28, 3) := by decide +kernel
theorem dX5_removeVariant_4 : decode cX5_removeVariant 4 = .ok (.iload_n 1, 1) := by decide +kernel
theorem dX5_removeVariant_5 : decode cX5_removeVariant 5 = .ok (.invokevirtual 126, 3) := by decide +kernel
theorem dX5_removeVariant_8 : decode cX5_removeVariant 8 = .ok (.ifCond .ne 13, 3) := by decide +kernel
theorem dX5_removeVariant_11 : decode cX5_removeVariant 11 = .ok (.new 86, 3) := by decide +kernel
theorem dX5_removeVariant_14 : decode cX5_removeVariant 14 = .ok (.dup, 1) := by decide +kernel
theorem dX5_removeVariant_15 : decode cX5_removeVariant 15 = .ok (.ldc 130, 2) := by decide +kernel
theorem dX5_removeVariant_17 : decode cX5_removeVariant 17 = .ok (.invokespecial 90, 3) := by decide +kernel
theorem dX5_removeVariant_20 : decode cX5_removeVariant 20 = .ok (.athrow, 1) := by decide +kernel
theorem dX5_removeVariant_21 : decode cX5_removeVariant 21 = .ok (.aload_n 0, 1) := by decide +kernel
theorem dX5_removeVariant_22 : decode cX5_removeVariant 22 = .ok (.invokevirtual 100, 3) := by decide +kernel
theorem dX5_removeVariant_25 : decode cX5_removeVariant 25 = .ok (.aload_n 0, 1) := by decide +kernel
theorem dX5_removeVariant_26 : decode cX5_removeVariant 26 = .ok (.getfield 28, 3) := by decide +kernel
theorem dX5_removeVariant_29 : decode cX5_removeVariant 29 = .ok (.iload_n 1, 1) := by decide +kernel
theorem dX5_removeVariant_30 : decode cX5_removeVariant 30 = .ok (.invokevirtual 132, 3) := by decide +kernel
theorem dX5_removeVariant_33 : decode cX5_removeVariant 33 = .ok (.ireturn, 1) := by decide +kernel
theorem dX5_setQuality_0 : decode cX5_setQuality 0 = .ok (.aload_n 0, 1) := by decide +kernel
theorem dX5_setQuality_1 : decode cX5_setQuality 1 = .ok (.getfield 28, 3) := by decide +kernel
theorem dX5_setQuality_4 : decode cX5_setQuality 4 = .ok (.iload_n 1, 1) := by decide +kernel
theorem dX5_setQuality_5 : decode cX5_setQuality 5 = .ok (.invokevirtual 126, 3) := by decide +kernel
theorem dX5_setQuality_8 : decode cX5_setQuality 8 = .ok (.ifCond .ne 13, 3) := by decide +kernel
theorem dX5_setQuality_11 : decode cX5_setQuality 11 = .ok (.new 86, 3) := by decide +kernel
theorem dX5_setQuality_14 : decode cX5_setQuality 14 = .ok (.dup, 1) := by decide +kernel
theorem dX5_setQuality_15 : decode cX5_setQuality 15 = .ok (.ldc 130, 2) := by decide +kernel
theorem dX5_setQuality_17 : decode cX5_setQuality 17 = .ok (.invokespecial 90, 3) := by decide +kernel
theorem dX5_setQuality_20 : decode cX5_setQuality 20 = .ok (.athrow, 1) := by decide +kernel
theorem dX5_setQuality_21 : decode cX5_setQuality 21 = .ok (.iload_n 2, 1) := by decide +kernel
theorem dX5_setQuality_22 : decode cX5_setQuality 22 = .ok (.ifCond .lt 10, 3) := by decide +kernel
theorem dX5_setQuality_25 : decode cX5_setQuality 25 = .ok (.iload_n 2, 1) := by decide +kernel
theorem dX5_setQuality_26 : decode cX5_setQuality 26 = .ok (.sipush 1000, 3) := by decide +kernel
theorem dX5_setQuality_29 : decode cX5_setQuality 29 = .ok (.if_icmp .le 13, 3) := by decide +kernel
theorem dX5_setQuality_32 : decode cX5_setQuality 32 = .ok (.new 63, 3) := by decide +kernel
theorem dX5_setQuality_35 : decode cX5_setQuality 35 = .ok (.dup, 1) := by decide +kernel
theorem dX5_setQuality_36 : decode cX5_setQuality 36 = .ok (.ldc 135, 2) := by decide +kernel
theorem dX5_setQuality_38 : decode cX5_setQuality 38 = .ok (.invokespecial 67, 3) := by decide +kernel
theorem dX5_setQuality_41 : decode cX5_setQuality 41 = .ok (.athrow, 1) := by decide +kernel
theorem dX5_setQuality_42 : decode cX5_setQuality 42 = .ok (.aload_n 0, 1) := by decide +kernel
theorem dX5_setQuality_43 : decode cX5_setQuality 43 = .ok (.invokevirtual 100, 3) := by decide +kernel
theorem dX5_setQuality_46 : decode cX5_setQuality 46 = .ok (.aload_n 0, 1) := by decide +kernel
theorem dX5_setQuality_47 : decode cX5_setQuality 47 = .ok (.getfield 28, 3) := by decide +kernel
theorem dX5_setQuality_50 : decode cX5_setQuality 50 = .ok (.getfield 137, 3) := by decide +kernel
theorem dX5_setQuality_53 : decode cX5_setQuality 53 = .ok (.iload_n 1, 1) := by decide +kernel
theorem dX5_setQuality_54 : decode cX5_setQuality 54 = .ok (.iaload, 1) := by decide +kernel
theorem dX5_setQuality_55 : decode cX5_setQuality 55 = .ok (.istore_n 3, 1) := by decide +kernel
theorem dX5_setQuality_56 : decode cX5_setQuality 56 = .ok (.aload_n 0, 1) := by decide +kernel
theorem dX5_setQuality_57 : decode cX5_setQuality 57 = .ok (.getfield 28, 3) := by decide +kernel
theorem dX5_setQuality_60 : decode cX5_setQuality 60 = .ok (.getfield 137, 3) := by decide +kernel
theorem dX5_setQuality_63 : decode cX5_setQuality 63 = .ok (.iload_n 1, 1) := by decide +kernel
theorem dX5_setQuality_64 : decode cX5_setQuality 64 = .ok (.iload_n 2, 1) := by decide +kernel
theorem dX5_setQuality_65 : decode cX5_setQuality 65 = .ok (.iastore, 1) := by decide +kernel
theorem dX5_setQuality_66 : decode cX5_setQuality 66 = .ok (.iload_n 3, 1) := by decide +kernel
theorem dX5_setQuality_67 : decode cX5_setQuality 67 = .ok (.ireturn, 1) := by decide +kernel
theorem dX5_setSize_0 : decode cX5_setSize 0 = .ok (.aload_n 0, 1) := by decide +kernel
theorem dX5_setSize_1 : decode cX5_setSize 1 = .ok (.getfield 28, 3) := by decide +kernel
theorem dX5_setSize_4 : decode cX5_setSize 4 = .ok (.iload_n 1, 1) := by decide +kernel
theorem dX5_setSize_5 : decode cX5_setSize 5 = .ok (.invokevirtual 126, 3) := by decide +kernel
theorem dX5_setSize_8 : decode cX5_setSize 8 = .ok (.ifCond .ne 13, 3) := by decide +kernel
theorem dX5_setSize_11 : decode cX5_setSize 11 = .ok (.new 86, 3) := by decide +kernel
theorem dX5_setSize_14 : decode cX5_setSize 14 = .ok (.dup, 1) := by decide +kernel
theorem dX5_setSize_15 : decode cX5_setSize 15 = .ok (.ldc 130, 2) := by decide +kernel
theorem dX5_setSize_17 : decode cX5_setSize 17 = .ok (.invokespecial 90, 3) := by decide +kernel
theorem dX5_setSize_20 : decode cX5_setSize 20 = .ok (.athrow, 1) := by decide +kernel
theorem dX5_setSize_21 : decode cX5_setSize 21 = .ok (.iload_n 2, 1) := by decide +kernel
theorem dX5_setSize_22 : decode cX5_setSize 22 = .ok (.ifCond .lt 9, 3) := by decide +kernel
theorem dX5_setSize_25 : decode cX5_setSize 25 = .ok (.iload_n 2, 1) := by decide +kernel
theorem dX5_setSize_26 : decode cX5_setSize 26 = .ok (.ldc 141, 2) := by decide +kernel
theorem dX5_setSize_28 : decode cX5_setSize 28 = .ok (.if_icmp .le 13, 3) := by decide +kernel
theorem dX5_setSize_31 : decode cX5_setSize 31 = .ok (.new 63, 3) := by decide +kernel
theorem dX5_setSize_34 : decode cX5_setSize 34 = .ok (.dup, 1) := by decide +kernel
theorem dX5_setSize_35 : decode cX5_setSize 35 = .ok (.ldc 142, 2) := by decide +kernel
theorem dX5_setSize_37 : decode cX5_setSize 37 = .ok (.invokespecial 67, 3) := by decide +kernel
theorem dX5_setSize_40 : decode cX5_setSize 40 = .ok (.athrow, 1) := by decide +kernel
theorem dX5_setSize_41 : decode cX5_setSize 41 = .ok (.aload_n 0, 1) := by decide +kernel
theorem dX5_setSize_42 : decode cX5_setSize 42 = .ok (.invokevirtual 100, 3) := by decide +kernel
theorem dX5_setSize_45 : decode cX5_setSize 45 = .ok (.aload_n 0, 1) := by decide +kernel
theorem dX5_setSize_46 : decode cX5_setSize 46 = .ok (.getfield 28, 3) := by decide +kernel
theorem dX5_setSize_49 : decode cX5_setSize 49 = .ok (.getfield 144, 3) := by decide +kernel
theorem dX5_setSize_52 : decode cX5_setSize 52 = .ok (.iload_n 1, 1) := by decide +kernel
theorem dX5_setSize_53 : decode cX5_setSize 53 = .ok (.iaload, 1) := by decide +kernel
theorem dX5_setSize_54 : decode cX5_setSize 54 = .ok (.istore_n 3, 1) := by decide +kernel
theorem dX5_setSize_55 : decode cX5_setSize 55 = .ok (.aload_n 0, 1) := by decide +kernel
theorem dX5_setSize_56 : decode cX5_setSize 56 = .ok (.getfield 28, 3) := by decide +kernel
theorem dX5_setSize_59 : decode cX5_setSize 59 = .ok (.getfield 144, 3) := by decide +kernel
theorem dX5_setSize_62 : decode cX5_setSize 62 = .ok (.iload_n 1, 1) := by decide +kernel
theorem dX5_setSize_63 : decode cX5_setSize 63 = .ok (.iload_n 2, 1) := by decide +kernel
theorem dX5_setSize_64 : decode cX5_setSize 64 = .ok (.iastore, 1) := by decide +kernel
theorem dX5_setSize_65 : decode cX5_setSize 65 = .ok (.iload_n 3, 1) := by decide +kernel
theorem dX5_setSize_66 : decode cX5_setSize 66 = .ok (.ireturn, 1) := by decide +kernel
theorem dX5_setWeight_0 : decode cX5_setWeight 0 = .ok (.aload_n 0, 1) := by decide +kernel
theorem dX5_setWeight_1 : decode cX5_setWeight 1 = .ok (.iload_n 1, 1) := by decide +kernel
theorem dX5_setWeight_2 : decode cX5_setWeight 2 = .ok (.iload_n 2, 1) := by decide +kernel
theorem dX5_setWeight_3 : decode cX5_setWeight 3 = .ok (.iload_n 3, 1) := by decide +kernel
theorem dX5_setWeight_4 : decode cX5_setWeight 4 = .ok (.invokevirtual 147, 3) := by decide +kernel
theorem dX5_setWeight_7 : decode cX5_setWeight 7 = .ok (.ifCond .ne 13, 3) := by decide +kernel
theorem dX5_setWeight_10 : decode cX5_setWeight 10 = .ok (.new 86, 3) := by decide +kernel
theorem dX5_setWeight_13 : decode cX5_setWeight 13 = .ok (.dup, 1) := by decide +kernel
theorem dX5_setWeight_14 : decode cX5_setWeight 14 = .ok (.ldc 151, 2) := by decide +kernel
theorem dX5_setWeight_16 : decode cX5_setWeight 16 = .ok (.invokespecial 90, 3) := by decide +kernel
theorem dX5_setWeight_19 : decode cX5_setWeight 19 = .ok (.athrow, 1) := by decide +kernel
theorem dX5_setWeight_20 : decode cX5_setWeight 20 = .ok (.iload 4, 2) := by decide +kernel
theorem dX5_setWeight_22 : decode cX5_setWeight 22 = .ok (.ifCond .lt 11, 3) := by decide +kernel
theorem dX5_setWeight_25 : decode cX5_setWeight 25 = .ok (.iload 4, 2) := by decide +kernel
theorem dX5_setWeight_27 : decode cX5_setWeight 27 = .ok (.sipush 1000, 3) := by decide +kernel
theorem dX5_setWeight_30 : decode cX5_setWeight 30 = .ok (.if_icmp .le 13, 3) := by decide +kernel
theorem dX5_setWeight_33 : decode cX5_setWeight 33 = .ok (.new 63, 3) := by decide +kernel
theorem dX5_setWeight_36 : decode cX5_setWeight 36 = .ok (.dup, 1) := by decide +kernel
theorem dX5_setWeight_37 : decode cX5_setWeight 37 = .ok (.ldc 153, 2) := by decide +kernel
theorem dX5_setWeight_39 : decode cX5_setWeight 39 = .ok (.invokespecial 67, 3) := by decide +kernel
theorem dX5_setWeight_42 : decode cX5_setWeight 42 = .ok (.athrow, 1) := by decide +kernel
theorem dX5_setWeight_43 : decode cX5_setWeight 43 = .ok (.aload_n 0, 1) := by decide +kernel
theorem dX5_setWeight_44 : decode cX5_setWeight 44 = .ok (.invokevirtual 100, 3) := by decide +kernel
theorem dX5_setWeight_47 : decode cX5_setWeight 47 = .ok (.iload_n 1, 1) := by decide +kernel
theorem dX5_setWeight_48 : decode cX5_setWeight 48 = .ok (.iload_n 2, 1) := by decide +kernel
theorem dX5_setWeight_49 : decode cX5_setWeight 49 = .ok (.invokestatic 103, 3) := by decide +kernel
theorem dX5_setWeight_52 : decode cX5_setWeight 52 = .ok (.iload_n 3, 1) := by decide +kernel
theorem dX5_setWeight_53 : decode cX5_setWeight 53 = .ok (.invokestatic 155, 3) := by decide +kernel
theorem dX5_setWeight_56 : decode cX5_setWeight 56 = .ok (.istore 5, 2) := by decide +kernel
theorem dX5_setWeight_58 : decode cX5_setWeight 58 = .ok (.aload_n 0, 1) := by decide +kernel
theorem dX5_setWeight_59 : decode cX5_setWeight 59 = .ok (.getfield 28, 3) := by decide +kernel
theorem dX5_setWeight_62 : decode cX5_setWeight 62 = .ok (.getfield 158, 3) := by decide +kernel
theorem dX5_setWeight_65 : decode cX5_setWeight 65 = .ok (.iload 5, 2) := by decide +kernel
theorem dX5_setWeight_67 : decode cX5_setWeight 67 = .ok (.iaload, 1) := by decide +kernel
theorem dX5_setWeight_68 : decode cX5_setWeight 68 = .ok (.istore 6, 2) := by decide +kernel
theorem dX5_setWeight_70 : decode cX5_setWeight 70 = .ok (.aload_n 0, 1) := by decide +kernel
theorem dX5_setWeight_71 : decode cX5_setWeight 71 = .ok (.getfield 28, 3) := by decide +kernel
theorem dX5_setWeight_74 : decode cX5_setWeight 74 = .ok (.getfield 158, 3) := by decide +kernel
theorem dX5_setWeight_77 : decode cX5_setWeight 77 = .ok (.iload 5, 2) := by decide +kernel
theorem dX5_setWeight_79 : decode cX5_setWeight 79 = .ok (.iload 4, 2) := by decide +kernel
theorem dX5_setWeight_81 : decode cX5_setWeight 81 = .ok (.iastore, 1) := by decide +kernel
theorem dX5_setWeight_82 : decode cX5_setWeight 82 = .ok (.iload 6, 2) := by decide +kernel
theorem dX5_setWeight_84 : decode cX5_setWeight 84 = .ok (.ireturn, 1) := by decide +kernel
theorem dX5_removeEntry_0 : decode cX5_removeEntry 0 = .ok (.aload_n 0, 1) := by decide +kernel
theorem dX5_removeEntry_1 : decode cX5_removeEntry 1 = .ok (.iload_n 1, 1) := by decide +kernel
theorem dX5_removeEntry_2 : decode cX5_removeEntry 2 = .ok (.iload_n 2, 1) := by decide +kernel
theorem dX5_removeEntry_3 : decode cX5_removeEntry 3 = .ok (.iload_n 3, 1) := by decide +kernel
theorem dX5_removeEntry_4 : decode cX5_removeEntry 4 = .ok (.invokevirtual 147, 3) := by decide +kernel
theorem dX5_removeEntry_7 : decode cX5_removeEntry 7 = .ok (.ifCond .ne 13, 3) := by decide +kernel
theorem dX5_removeEntry_10 : decode cX5_removeEntry 10 = .ok (.new 86, 3) := by decide +kernel
theorem dX5_removeEntry_13 : decode cX5_removeEntry 13 = .ok (.dup, 1) := by decide +kernel
theorem dX5_removeEntry_14 : decode cX5_removeEntry 14 = .ok (.ldc 151, 2) := by decide +kernel
theorem dX5_removeEntry_16 : decode cX5_removeEntry 16 = .ok (.invokespecial 90, 3) := by decide +kernel
theorem dX5_removeEntry_19 : decode cX5_removeEntry 19 = .ok (.athrow, 1) := by decide +kernel
theorem dX5_removeEntry_20 : decode cX5_removeEntry 20 = .ok (.aload_n 0, 1) := by decide +kernel
theorem dX5_removeEntry_21 : decode cX5_removeEntry 21 = .ok (.invokevirtual 100, 3) := by decide +kernel
theorem dX5_removeEntry_24 : decode cX5_removeEntry 24 = .ok (.aload_n 0, 1) := by decide +kernel
theorem dX5_removeEntry_25 : decode cX5_removeEntry 25 = .ok (.getfield 28, 3) := by decide +kernel
theorem dX5_removeEntry_28 : decode cX5_removeEntry 28 = .ok (.iload_n 1, 1) := by decide +kernel
theorem dX5_removeEntry_29 : decode cX5_removeEntry 29 = .ok (.iload_n 2, 1) := by decide +kernel
theorem dX5_removeEntry_30 : decode cX5_removeEntry 30 = .ok (.invokestatic 103, 3) := by decide +kernel
theorem dX5_removeEntry_33 : decode cX5_removeEntry 33 = .ok (.iload_n 3, 1) := by decide +kernel
theorem dX5_removeEntry_34 : decode cX5_removeEntry 34 = .ok (.invokevirtual 161, 3) := by decide +kernel
theorem dX5_removeEntry_37 : decode cX5_removeEntry 37 = .ok (.ireturn, 1) := by decide +kernel
theorem dX5_swapSides_0 : decode cX5_swapSides 0 = .ok (.aload_n 0, 1) := by decide +kernel
theorem dX5_swapSides_1 : decode cX5_swapSides 1 = .ok (.invokevirtual 100, 3) := by decide +kernel
theorem dX5_swapSides_4 : decode cX5_swapSides 4 = .ok (.iconst 0, 1) := by decide +kernel
theorem dX5_swapSides_5 : decode cX5_swapSides 5 = .ok (.istore_n 1, 1) := by decide +kernel
theorem dX5_swapSides_6 : decode cX5_swapSides 6 = .ok (.iload_n 1, 1) := by decide +kernel
theorem dX5_swapSides_7 : decode cX5_swapSides 7 = .ok (.iconst 3, 1) := by decide +kernel
theorem dX5_swapSides_8 : decode cX5_swapSides 8 = .ok (.if_icmp .ge 26, 3) := by decide +kernel
theorem dX5_swapSides_11 : decode cX5_swapSides 11 = .ok (.aload_n 0, 1) := by decide +kernel
theorem dX5_swapSides_12 : decode cX5_swapSides 12 = .ok (.getfield 28, 3) := by decide +kernel
theorem dX5_swapSides_15 : decode cX5_swapSides 15 = .ok (.iconst 0, 1) := by decide +kernel
theorem dX5_swapSides_16 : decode cX5_swapSides 16 = .ok (.iload_n 1, 1) := by decide +kernel
theorem dX5_swapSides_17 : decode cX5_swapSides 17 = .ok (.invokestatic 103, 3) := by decide +kernel
theorem dX5_swapSides_20 : decode cX5_swapSides 20 = .ok (.iconst 1, 1) := by decide +kernel
theorem dX5_swapSides_21 : decode cX5_swapSides 21 = .ok (.iload_n 1, 1) := by decide +kernel
theorem dX5_swapSides_22 : decode cX5_swapSides 22 = .ok (.invokestatic 103, 3) := by decide +kernel
theorem dX5_swapSides_25 : decode cX5_swapSides 25 = .ok (.invokevirtual 164, 3) := by decide +kernel
theorem dX5_swapSides_28 : decode cX5_swapSides 28 = .ok (.iinc 1 1, 3) := by decide +kernel
theorem dX5_swapSides_31 : decode cX5_swapSides 31 = .ok (.goto (-25), 3) := by decide +kernel
theorem dX5_swapSides_34 : decode cX5_swapSides 34 = .ok (.aload_n 0, 1) := by decide +kernel
theorem dX5_swapSides_35 : decode cX5_swapSides 35 = .ok (.getfield 28, 3) := by decide +kernel
theorem dX5_swapSides_38 : decode cX5_swapSides 38 = .ok (.iconst 0, 1) := by decide +kernel
theorem dX5_swapSides_39 : decode cX5_swapSides 39 = .ok (.invokevirtual 168, 3) := by decide +kernel
theorem dX5_swapSides_42 : decode cX5_swapSides 42 = .ok (.ireturn, 1) := by decide +kernel
theorem dX5_setTies_0 : decode cX5_setTies 0 = .ok (.iload_n 1, 1) := by decide +kernel
theorem dX5_setTies_1 : decode cX5_setTies 1 = .ok (.invokestatic 171, 3) := by decide +kernel
theorem dX5_setTies_4 : decode cX5_setTies 4 = .ok (.ifCond .eq 17, 3) := by decide +kernel
theorem dX5_setTies_7 : decode cX5_setTies 7 = .ok (.iload_n 2, 1) := by decide +kernel
theorem dX5_setTies_8 : decode cX5_setTies 8 = .ok (.invokestatic 171, 3) := by decide +kernel
theorem dX5_setTies_11 : decode cX5_setTies 11 = .ok (.ifCond .eq 10, 3) := by decide +kernel
theorem dX5_setTies_14 : decode cX5_setTies 14 = .ok (.iload_n 3, 1) := by decide +kernel
theorem dX5_setTies_15 : decode cX5_setTies 15 = .ok (.invokestatic 171, 3) := by decide +kernel
theorem dX5_setTies_18 : decode cX5_setTies 18 = .ok (.ifCond .ne 13, 3) := by decide +kernel
theorem dX5_setTies_21 : decode cX5_setTies 21 = .ok (.new 63, 3) := by decide +kernel
theorem dX5_setTies_24 : decode cX5_setTies 24 = .ok (.dup, 1) := by decide +kernel
theorem dX5_setTies_25 : decode cX5_setTies 25 = .ok (.ldc 174, 2) := by decide +kernel
theorem dX5_setTies_27 : decode cX5_setTies 27 = .ok (.invokespecial 67, 3) := by decide +kernel
theorem dX5_setTies_30 : decode cX5_setTies 30 = .ok (.athrow, 1) := by decide +kernel
theorem dX5_setTies_31 : decode cX5_setTies 31 = .ok (.aload_n 0, 1) := by decide +kernel
theorem dX5_setTies_32 : decode cX5_setTies 32 = .ok (.invokevirtual 100, 3) := by decide +kernel
theorem dX5_setTies_35 : decode cX5_setTies 35 = .ok (.bipush 100, 2) := by decide +kernel
theorem dX5_setTies_37 : decode cX5_setTies 37 = .ok (.aload_n 0, 1) := by decide +kernel
theorem dX5_setTies_38 : decode cX5_setTies 38 = .ok (.getfield 28, 3) := by decide +kernel
theorem dX5_setTies_41 : decode cX5_setTies 41 = .ok (.getfield 176, 3) := by decide +kernel
theorem dX5_setTies_44 : decode cX5_setTies 44 = .ok (.iconst 0, 1) := by decide +kernel
theorem dX5_setTies_45 : decode cX5_setTies 45 = .ok (.iaload, 1) := by decide +kernel
theorem dX5_setTies_46 : decode cX5_setTies 46 = .ok (.imul, 1) := by decide +kernel
theorem dX5_setTies_47 : decode cX5_setTies 47 = .ok (.bipush 10, 2) := by decide +kernel
theorem dX5_setTies_49 : decode cX5_setTies 49 = .ok (.aload_n 0, 1) := by decide +kernel
theorem dX5_setTies_50 : decode cX5_setTies 50 = .ok (.getfield 28, 3) := by decide +kernel
theorem dX5_setTies_53 : decode cX5_setTies 53 = .ok (.getfield 176, 3) := by decide +kernel
theorem dX5_setTies_56 : decode cX5_setTies 56 = .ok (.iconst 1, 1) := by decide +kernel
theorem dX5_setTies_57 : decode cX5_setTies 57 = .ok (.iaload, 1) := by decide +kernel
theorem dX5_setTies_58 : decode cX5_setTies 58 = .ok (.imul, 1) := by decide +kernel
theorem dX5_setTies_59 : decode cX5_setTies 59 = .ok (.iadd, 1) := by decide +kernel
theorem dX5_setTies_60 : decode cX5_setTies 60 = .ok (.aload_n 0, 1) := by decide +kernel
theorem dX5_setTies_61 : decode cX5_setTies 61 = .ok (.getfield 28, 3) := by decide +kernel
theorem dX5_setTies_64 : decode cX5_setTies 64 = .ok (.getfield 176, 3) := by decide +kernel
theorem dX5_setTies_67 : decode cX5_setTies 67 = .ok (.iconst 2, 1) := by decide +kernel
theorem dX5_setTies_68 : decode cX5_setTies 68 = .ok (.iaload, 1) := by decide +kernel
theorem dX5_setTies_69 : decode cX5_setTies 69 = .ok (.iadd, 1) := by decide +kernel
theorem dX5_setTies_70 : decode cX5_setTies 70 = .ok (.istore 4, 2) := by decide +kernel
theorem dX5_setTies_72 : decode cX5_setTies 72 = .ok (.aload_n 0, 1) := by decide +kernel
theorem dX5_setTies_73 : decode cX5_setTies 73 = .ok (.getfield 28, 3) := by decide +kernel
theorem dX5_setTies_76 : decode cX5_setTies 76 = .ok (.getfield 176, 3) := by decide +kernel
theorem dX5_setTies_79 : decode cX5_setTies 79 = .ok (.iconst 0, 1) := by decide +kernel
theorem dX5_setTies_80 : decode cX5_setTies 80 = .ok (.iload_n 1, 1) := by decide +kernel
theorem dX5_setTies_81 : decode cX5_setTies 81 = .ok (.iastore, 1) := by decide +kernel
theorem dX5_setTies_82 : decode cX5_setTies 82 = .ok (.aload_n 0, 1) := by decide +kernel
theorem dX5_setTies_83 : decode cX5_setTies 83 = .ok (.getfield 28, 3) := by decide +kernel
theorem dX5_setTies_86 : decode cX5_setTies 86 = .ok (.getfield 176, 3) := by decide +kernel
theorem dX5_setTies_89 : decode cX5_setTies 89 = .ok (.iconst 1, 1) := by decide +kernel
theorem dX5_setTies_90 : decode cX5_setTies 90 = .ok (.iload_n 2, 1) := by decide +kernel
theorem dX5_setTies_91 : decode cX5_setTies 91 = .ok (.iastore, 1) := by decide +kernel
theorem dX5_setTies_92 : decode cX5_setTies 92 = .ok (.aload_n 0, 1) := by decide +kernel
theorem dX5_setTies_93 : decode cX5_setTies 93 = .ok (.getfield 28, 3) := by decide +kernel
theorem dX5_setTies_96 : decode cX5_setTies 96 = .ok (.getfield 176, 3) := by decide +kernel
theorem dX5_setTies_99 : decode cX5_setTies 99 = .ok (.iconst 2, 1) := by decide +kernel
theorem dX5_setTies_100 : decode cX5_setTies 100 = .ok (.iload_n 3, 1) := by decide +kernel
theorem dX5_setTies_101 : decode cX5_setTies 101 = .ok (.iastore, 1) := by decide +kernel
theorem dX5_setTies_102 : decode cX5_setTies 102 = .ok (.iload 4, 2) := by decide +kernel
theorem dX5_setTies_104 : decode cX5_setTies 104 = .ok (.ireturn, 1) := by decide +kernel
theorem dX5_variant_0 : decode cX5_variant 0 = .ok (.aload_n 0, 1) := by decide +kernel
theorem dX5_variant_1 : decode cX5_variant 1 = .ok (.getfield 28, 3) := by decide +kernel
theorem dX5_variant_4 : decode cX5_variant 4 = .ok (.iload_n 1, 1) := by decide +kernel
theorem dX5_variant_5 : decode cX5_variant 5 = .ok (.invokevirtual 126, 3) := by decide +kernel
theorem dX5_variant_8 : decode cX5_variant 8 = .ok (.ifCond .ne 13, 3) := by decide +kernel
theorem dX5_variant_11 : decode cX5_variant 11 = .ok (.new 86, 3) := by decide +kernel
theorem dX5_variant_14 : decode cX5_variant 14 = .ok (.dup, 1) := by decide +kernel
theorem dX5_variant_15 : decode cX5_variant 15 = .ok (.ldc 130, 2) := by decide +kernel
theorem dX5_variant_17 : decode cX5_variant 17 = .ok (.invokespecial 90, 3) := by decide +kernel
theorem dX5_variant_20 : decode cX5_variant 20 = .ok (.athrow, 1) := by decide +kernel
theorem dX5_variant_21 : decode cX5_variant 21 = .ok (.iload_n 2, 1) := by decide +kernel
theorem dX5_variant_22 : decode cX5_variant 22 = .ok (.ifCond .lt 9, 3) := by decide +kernel
theorem dX5_variant_25 : decode cX5_variant 25 = .ok (.iload_n 2, 1) := by decide +kernel
theorem dX5_variant_26 : decode cX5_variant 26 = .ok (.bipush 6, 2) := by decide +kernel
theorem dX5_variant_28 : decode cX5_variant 28 = .ok (.if_icmp .le 13, 3) := by decide +kernel
theorem dX5_variant_31 : decode cX5_variant 31 = .ok (.new 63, 3) := by decide +kernel
theorem dX5_variant_34 : decode cX5_variant 34 = .ok (.dup, 1) := by decide +kernel
theorem dX5_variant_35 : decode cX5_variant 35 = .ok (.ldc 179, 2) := by decide +kernel
theorem dX5_variant_37 : decode cX5_variant 37 = .ok (.invokespecial 67, 3) := by decide +kernel
theorem dX5_variant_40 : decode cX5_variant 40 = .ok (.athrow, 1) := by decide +kernel
theorem dX5_variant_41 : decode cX5_variant 41 = .ok (.aload_n 0, 1) := by decide +kernel
theorem dX5_variant_42 : decode cX5_variant 42 = .ok (.invokevirtual 181, 3) := by decide +kernel
theorem dX5_variant_45 : decode cX5_variant 45 = .ok (.aload_n 0, 1) := by decide +kernel
theorem dX5_variant_46 : decode cX5_variant 46 = .ok (.iload_n 1, 1) := by decide +kernel
theorem dX5_variant_47 : decode cX5_variant 47 = .ok (.iload_n 2, 1) := by decide +kernel
theorem dX5_variant_48 : decode cX5_variant 48 = .ok (.invokevirtual 184, 3) := by decide +kernel
theorem dX5_variant_51 : decode cX5_variant 51 = .ok (.ireturn, 1) := by decide +kernel
theorem dX5_weight_0 : decode cX5_weight 0 = .ok (.iload_n 1, 1) := by decide +kernel
theorem dX5_weight_1 : decode cX5_weight 1 = .ok (.iload_n 2, 1) := by decide +kernel
theorem dX5_weight_2 : decode cX5_weight 2 = .ok (.invokestatic 82, 3) := by decide +kernel
theorem dX5_weight_5 : decode cX5_weight 5 = .ok (.ifCond .eq 14, 3) := by decide +kernel
theorem dX5_weight_8 : decode cX5_weight 8 = .ok (.aload_n 0, 1) := by decide +kernel
theorem dX5_weight_9 : decode cX5_weight 9 = .ok (.getfield 28, 3) := by decide +kernel
theorem dX5_weight_12 : decode cX5_weight 12 = .ok (.iload_n 3, 1) := by decide +kernel
theorem dX5_weight_13 : decode cX5_weight 13 = .ok (.invokevirtual 126, 3) := by decide +kernel
theorem dX5_weight_16 : decode cX5_weight 16 = .ok (.ifCond .ne 13, 3) := by decide +kernel
theorem dX5_weight_19 : decode cX5_weight 19 = .ok (.new 86, 3) := by decide +kernel
theorem dX5_weight_22 : decode cX5_weight 22 = .ok (.dup, 1) := by decide +kernel
theorem dX5_weight_23 : decode cX5_weight 23 = .ok (.ldc 187, 2) := by decide +kernel
theorem dX5_weight_25 : decode cX5_weight 25 = .ok (.invokespecial 90, 3) := by decide +kernel
theorem dX5_weight_28 : decode cX5_weight 28 = .ok (.athrow, 1) := by decide +kernel
theorem dX5_weight_29 : decode cX5_weight 29 = .ok (.aload_n 0, 1) := by decide +kernel
theorem dX5_weight_30 : decode cX5_weight 30 = .ok (.invokevirtual 181, 3) := by decide +kernel
theorem dX5_weight_33 : decode cX5_weight 33 = .ok (.aload_n 0, 1) := by decide +kernel
theorem dX5_weight_34 : decode cX5_weight 34 = .ok (.getfield 37, 3) := by decide +kernel
theorem dX5_weight_37 : decode cX5_weight 37 = .ok (.getfield 189, 3) := by decide +kernel
theorem dX5_weight_40 : decode cX5_weight 40 = .ok (.iload_n 3, 1) := by decide +kernel
theorem dX5_weight_41 : decode cX5_weight 41 = .ok (.iload_n 1, 1) := by decide +kernel
theorem dX5_weight_42 : decode cX5_weight 42 = .ok (.iload_n 2, 1) := by decide +kernel
theorem dX5_weight_43 : decode cX5_weight 43 = .ok (.invokestatic 103, 3) := by decide +kernel
theorem dX5_weight_46 : decode cX5_weight 46 = .ok (.invokestatic 190, 3) := by decide +kernel
theorem dX5_weight_49 : decode cX5_weight 49 = .ok (.iaload, 1) := by decide +kernel
theorem dX5_weight_50 : decode cX5_weight 50 = .ok (.ireturn, 1) := by decide +kernel
theorem dX5_counting_0 : decode cX5_counting 0 = .ok (.iload_n 1, 1) := by decide +kernel
theorem dX5_counting_1 : decode cX5_counting 1 = .ok (.iload_n 2, 1) := by decide +kernel
theorem dX5_counting_2 : decode cX5_counting 2 = .ok (.invokestatic 82, 3) := by decide +kernel
theorem dX5_counting_5 : decode cX5_counting 5 = .ok (.ifCond .eq 14, 3) := by decide +kernel
theorem dX5_counting_8 : decode cX5_counting 8 = .ok (.aload_n 0, 1) := by decide +kernel
theorem dX5_counting_9 : decode cX5_counting 9 = .ok (.getfield 28, 3) := by decide +kernel
theorem dX5_counting_12 : decode cX5_counting 12 = .ok (.iload_n 3, 1) := by decide +kernel
theorem dX5_counting_13 : decode cX5_counting 13 = .ok (.invokevirtual 126, 3) := by decide +kernel
theorem dX5_counting_16 : decode cX5_counting 16 = .ok (.ifCond .ne 13, 3) := by decide +kernel
theorem dX5_counting_19 : decode cX5_counting 19 = .ok (.new 86, 3) := by decide +kernel
theorem dX5_counting_22 : decode cX5_counting 22 = .ok (.dup, 1) := by decide +kernel
theorem dX5_counting_23 : decode cX5_counting 23 = .ok (.ldc 187, 2) := by decide +kernel
theorem dX5_counting_25 : decode cX5_counting 25 = .ok (.invokespecial 90, 3) := by decide +kernel
theorem dX5_counting_28 : decode cX5_counting 28 = .ok (.athrow, 1) := by decide +kernel
theorem dX5_counting_29 : decode cX5_counting 29 = .ok (.aload_n 0, 1) := by decide +kernel
theorem dX5_counting_30 : decode cX5_counting 30 = .ok (.invokevirtual 181, 3) := by decide +kernel
theorem dX5_counting_33 : decode cX5_counting 33 = .ok (.aload_n 0, 1) := by decide +kernel
theorem dX5_counting_34 : decode cX5_counting 34 = .ok (.getfield 37, 3) := by decide +kernel
theorem dX5_counting_37 : decode cX5_counting 37 = .ok (.getfield 193, 3) := by decide +kernel
theorem dX5_counting_40 : decode cX5_counting 40 = .ok (.iload_n 3, 1) := by decide +kernel
theorem dX5_counting_41 : decode cX5_counting 41 = .ok (.iload_n 1, 1) := by decide +kernel
theorem dX5_counting_42 : decode cX5_counting 42 = .ok (.iload_n 2, 1) := by decide +kernel
theorem dX5_counting_43 : decode cX5_counting 43 = .ok (.invokestatic 103, 3) := by decide +kernel
theorem dX5_counting_46 : decode cX5_counting 46 = .ok (.invokestatic 190, 3) := by decide +kernel
theorem dX5_counting_49 : decode cX5_counting 49 = .ok (.iaload, 1) := by decide +kernel
theorem dX5_counting_50 : decode cX5_counting 50 = .ok (.ireturn, 1) := by decide +kernel
theorem dX5_entry_0 : decode cX5_entry 0 = .ok (.aload_n 0, 1) := by decide +kernel
theorem dX5_entry_1 : decode cX5_entry 1 = .ok (.iload_n 1, 1) := by decide +kernel
theorem dX5_entry_2 : decode cX5_entry 2 = .ok (.iload_n 2, 1) := by decide +kernel
theorem dX5_entry_3 : decode cX5_entry 3 = .ok (.iload_n 3, 1) := by decide +kernel
theorem dX5_entry_4 : decode cX5_entry 4 = .ok (.invokevirtual 147, 3) := by decide +kernel
theorem dX5_entry_7 : decode cX5_entry 7 = .ok (.ifCond .ne 13, 3) := by decide +kernel
theorem dX5_entry_10 : decode cX5_entry 10 = .ok (.new 86, 3) := by decide +kernel
theorem dX5_entry_13 : decode cX5_entry 13 = .ok (.dup, 1) := by decide +kernel
theorem dX5_entry_14 : decode cX5_entry 14 = .ok (.ldc 151, 2) := by decide +kernel
theorem dX5_entry_16 : decode cX5_entry 16 = .ok (.invokespecial 90, 3) := by decide +kernel
theorem dX5_entry_19 : decode cX5_entry 19 = .ok (.athrow, 1) := by decide +kernel
theorem dX5_entry_20 : decode cX5_entry 20 = .ok (.iload 4, 2) := by decide +kernel
theorem dX5_entry_22 : decode cX5_entry 22 = .ok (.ifCond .lt 9, 3) := by decide +kernel
theorem dX5_entry_25 : decode cX5_entry 25 = .ok (.iload 4, 2) := by decide +kernel
theorem dX5_entry_27 : decode cX5_entry 27 = .ok (.iconst 3, 1) := by decide +kernel
theorem dX5_entry_28 : decode cX5_entry 28 = .ok (.if_icmp .le 13, 3) := by decide +kernel
theorem dX5_entry_31 : decode cX5_entry 31 = .ok (.new 63, 3) := by decide +kernel
theorem dX5_entry_34 : decode cX5_entry 34 = .ok (.dup, 1) := by decide +kernel
theorem dX5_entry_35 : decode cX5_entry 35 = .ok (.ldc 179, 2) := by decide +kernel
theorem dX5_entry_37 : decode cX5_entry 37 = .ok (.invokespecial 67, 3) := by decide +kernel
theorem dX5_entry_40 : decode cX5_entry 40 = .ok (.athrow, 1) := by decide +kernel
theorem dX5_entry_41 : decode cX5_entry 41 = .ok (.aload_n 0, 1) := by decide +kernel
theorem dX5_entry_42 : decode cX5_entry 42 = .ok (.invokevirtual 181, 3) := by decide +kernel
theorem dX5_entry_45 : decode cX5_entry 45 = .ok (.aload_n 0, 1) := by decide +kernel
theorem dX5_entry_46 : decode cX5_entry 46 = .ok (.iload_n 1, 1) := by decide +kernel
theorem dX5_entry_47 : decode cX5_entry 47 = .ok (.iload_n 2, 1) := by decide +kernel
theorem dX5_entry_48 : decode cX5_entry 48 = .ok (.invokestatic 103, 3) := by decide +kernel
theorem dX5_entry_51 : decode cX5_entry 51 = .ok (.iload_n 3, 1) := by decide +kernel
theorem dX5_entry_52 : decode cX5_entry 52 = .ok (.iload 4, 2) := by decide +kernel
theorem dX5_entry_54 : decode cX5_entry 54 = .ok (.invokevirtual 196, 3) := by decide +kernel
theorem dX5_entry_57 : decode cX5_entry 57 = .ok (.ireturn, 1) := by decide +kernel
theorem dX5_ranked_0 : decode cX5_ranked 0 = .ok (.iload_n 1, 1) := by decide +kernel
theorem dX5_ranked_1 : decode cX5_ranked 1 = .ok (.ifCond .ge 13, 3) := by decide +kernel
theorem dX5_ranked_4 : decode cX5_ranked 4 = .ok (.new 63, 3) := by decide +kernel
theorem dX5_ranked_7 : decode cX5_ranked 7 = .ok (.dup, 1) := by decide +kernel
theorem dX5_ranked_8 : decode cX5_ranked 8 = .ok (.ldc 200, 2) := by decide +kernel
theorem dX5_ranked_10 : decode cX5_ranked 10 = .ok (.invokespecial 67, 3) := by decide +kernel
theorem dX5_ranked_13 : decode cX5_ranked 13 = .ok (.athrow, 1) := by decide +kernel
theorem dX5_ranked_14 : decode cX5_ranked 14 = .ok (.aload_n 0, 1) := by decide +kernel
theorem dX5_ranked_15 : decode cX5_ranked 15 = .ok (.invokevirtual 181, 3) := by decide +kernel
theorem dX5_ranked_18 : decode cX5_ranked 18 = .ok (.aload_n 0, 1) := by decide +kernel
theorem dX5_ranked_19 : decode cX5_ranked 19 = .ok (.getfield 37, 3) := by decide +kernel
theorem dX5_ranked_22 : decode cX5_ranked 22 = .ok (.iload_n 1, 1) := by decide +kernel
theorem dX5_ranked_23 : decode cX5_ranked 23 = .ok (.invokevirtual 202, 3) := by decide +kernel
theorem dX5_ranked_26 : decode cX5_ranked 26 = .ok (.ireturn, 1) := by decide +kernel
theorem dX5_whole_0 : decode cX5_whole 0 = .ok (.iload_n 1, 1) := by decide +kernel
theorem dX5_whole_1 : decode cX5_whole 1 = .ok (.ifCond .lt 9, 3) := by decide +kernel
theorem dX5_whole_4 : decode cX5_whole 4 = .ok (.iload_n 1, 1) := by decide +kernel
theorem dX5_whole_5 : decode cX5_whole 5 = .ok (.bipush 10, 2) := by decide +kernel
theorem dX5_whole_7 : decode cX5_whole 7 = .ok (.if_icmp .le 13, 3) := by decide +kernel
theorem dX5_whole_10 : decode cX5_whole 10 = .ok (.new 63, 3) := by decide +kernel
theorem dX5_whole_13 : decode cX5_whole 13 = .ok (.dup, 1) := by decide +kernel
theorem dX5_whole_14 : decode cX5_whole 14 = .ok (.ldc 179, 2) := by decide +kernel
theorem dX5_whole_16 : decode cX5_whole 16 = .ok (.invokespecial 67, 3) := by decide +kernel
theorem dX5_whole_19 : decode cX5_whole 19 = .ok (.athrow, 1) := by decide +kernel
theorem dX5_whole_20 : decode cX5_whole 20 = .ok (.aload_n 0, 1) := by decide +kernel
theorem dX5_whole_21 : decode cX5_whole 21 = .ok (.invokevirtual 181, 3) := by decide +kernel
theorem dX5_whole_24 : decode cX5_whole 24 = .ok (.aload_n 0, 1) := by decide +kernel
theorem dX5_whole_25 : decode cX5_whole 25 = .ok (.iload_n 1, 1) := by decide +kernel
theorem dX5_whole_26 : decode cX5_whole 26 = .ok (.invokevirtual 205, 3) := by decide +kernel
theorem dX5_whole_29 : decode cX5_whole 29 = .ok (.ireturn, 1) := by decide +kernel
theorem dX5_listed_0 : decode cX5_listed 0 = .ok (.iload_n 1, 1) := by decide +kernel
theorem dX5_listed_1 : decode cX5_listed 1 = .ok (.ifCond .ge 13, 3) := by decide +kernel
theorem dX5_listed_4 : decode cX5_listed 4 = .ok (.new 63, 3) := by decide +kernel
theorem dX5_listed_7 : decode cX5_listed 7 = .ok (.dup, 1) := by decide +kernel
theorem dX5_listed_8 : decode cX5_listed 8 = .ok (.ldc 200, 2) := by decide +kernel
theorem dX5_listed_10 : decode cX5_listed 10 = .ok (.invokespecial 67, 3) := by decide +kernel
theorem dX5_listed_13 : decode cX5_listed 13 = .ok (.athrow, 1) := by decide +kernel
theorem dX5_listed_14 : decode cX5_listed 14 = .ok (.aload_n 0, 1) := by decide +kernel
theorem dX5_listed_15 : decode cX5_listed 15 = .ok (.invokevirtual 181, 3) := by decide +kernel
theorem dX5_listed_18 : decode cX5_listed 18 = .ok (.aload_n 0, 1) := by decide +kernel
theorem dX5_listed_19 : decode cX5_listed 19 = .ok (.getfield 47, 3) := by decide +kernel
theorem dX5_listed_22 : decode cX5_listed 22 = .ok (.iload_n 1, 1) := by decide +kernel
theorem dX5_listed_23 : decode cX5_listed 23 = .ok (.invokevirtual 208, 3) := by decide +kernel
theorem dX5_listed_26 : decode cX5_listed 26 = .ok (.ireturn, 1) := by decide +kernel
theorem dX5_listingByte_0 : decode cX5_listingByte 0 = .ok (.iload_n 1, 1) := by decide +kernel
theorem dX5_listingByte_1 : decode cX5_listingByte 1 = .ok (.ifCond .ge 13, 3) := by decide +kernel
theorem dX5_listingByte_4 : decode cX5_listingByte 4 = .ok (.new 63, 3) := by decide +kernel
theorem dX5_listingByte_7 : decode cX5_listingByte 7 = .ok (.dup, 1) := by decide +kernel
theorem dX5_listingByte_8 : decode cX5_listingByte 8 = .ok (.ldc 209, 2) := by decide +kernel
theorem dX5_listingByte_10 : decode cX5_listingByte 10 = .ok (.invokespecial 67, 3) := by decide +kernel
theorem dX5_listingByte_13 : decode cX5_listingByte 13 = .ok (.athrow, 1) := by decide +kernel
theorem dX5_listingByte_14 : decode cX5_listingByte 14 = .ok (.aload_n 0, 1) := by decide +kernel
theorem dX5_listingByte_15 : decode cX5_listingByte 15 = .ok (.invokevirtual 181, 3) := by decide +kernel
theorem dX5_listingByte_18 : decode cX5_listingByte 18 = .ok (.aload_n 0, 1) := by decide +kernel
theorem dX5_listingByte_19 : decode cX5_listingByte 19 = .ok (.getfield 47, 3) := by decide +kernel
theorem dX5_listingByte_22 : decode cX5_listingByte 22 = .ok (.iload_n 1, 1) := by decide +kernel
theorem dX5_listingByte_23 : decode cX5_listingByte 23 = .ok (.invokevirtual 211, 3) := by decide +kernel
theorem dX5_listingByte_26 : decode cX5_listingByte 26 = .ok (.ireturn, 1) := by decide +kernel
theorem dX5_servedFor_0 : decode cX5_servedFor 0 = .ok (.iload_n 1, 1) := by decide +kernel
theorem dX5_servedFor_1 : decode cX5_servedFor 1 = .ok (.ifCond .lt 8, 3) := by decide +kernel
theorem dX5_servedFor_4 : decode cX5_servedFor 4 = .ok (.iload_n 1, 1) := by decide +kernel
theorem dX5_servedFor_5 : decode cX5_servedFor 5 = .ok (.iconst 2, 1) := by decide +kernel
theorem dX5_servedFor_6 : decode cX5_servedFor 6 = .ok (.if_icmp .lt 13, 3) := by decide +kernel
theorem dX5_servedFor_9 : decode cX5_servedFor 9 = .ok (.new 86, 3) := by decide +kernel
theorem dX5_servedFor_12 : decode cX5_servedFor 12 = .ok (.dup, 1) := by decide +kernel
theorem dX5_servedFor_13 : decode cX5_servedFor 13 = .ok (.ldc 214, 2) := by decide +kernel
theorem dX5_servedFor_15 : decode cX5_servedFor 15 = .ok (.invokespecial 90, 3) := by decide +kernel
theorem dX5_servedFor_18 : decode cX5_servedFor 18 = .ok (.athrow, 1) := by decide +kernel
theorem dX5_servedFor_19 : decode cX5_servedFor 19 = .ok (.aload_n 0, 1) := by decide +kernel
theorem dX5_servedFor_20 : decode cX5_servedFor 20 = .ok (.iconst 1, 1) := by decide +kernel
theorem dX5_servedFor_21 : decode cX5_servedFor 21 = .ok (.iload_n 1, 1) := by decide +kernel
theorem dX5_servedFor_22 : decode cX5_servedFor 22 = .ok (.isub, 1) := by decide +kernel
theorem dX5_servedFor_23 : decode cX5_servedFor 23 = .ok (.invokevirtual 216, 3) := by decide +kernel
theorem dX5_servedFor_26 : decode cX5_servedFor 26 = .ok (.ireturn, 1) := by decide +kernel
theorem dX5_servedWithout_0 : decode cX5_servedWithout 0 = .ok (.aload_n 0, 1) := by decide +kernel
theorem dX5_servedWithout_1 : decode cX5_servedWithout 1 = .ok (.getfield 28, 3) := by decide +kernel
theorem dX5_servedWithout_4 : decode cX5_servedWithout 4 = .ok (.iload_n 1, 1) := by decide +kernel
theorem dX5_servedWithout_5 : decode cX5_servedWithout 5 = .ok (.invokevirtual 126, 3) := by decide +kernel
theorem dX5_servedWithout_8 : decode cX5_servedWithout 8 = .ok (.ifCond .ne 13, 3) := by decide +kernel
theorem dX5_servedWithout_11 : decode cX5_servedWithout 11 = .ok (.new 86, 3) := by decide +kernel
theorem dX5_servedWithout_14 : decode cX5_servedWithout 14 = .ok (.dup, 1) := by decide +kernel
theorem dX5_servedWithout_15 : decode cX5_servedWithout 15 = .ok (.ldc 130, 2) := by decide +kernel
theorem dX5_servedWithout_17 : decode cX5_servedWithout 17 = .ok (.invokespecial 90, 3) := by decide +kernel
theorem dX5_servedWithout_20 : decode cX5_servedWithout 20 = .ok (.athrow, 1) := by decide +kernel
theorem dX5_servedWithout_21 : decode cX5_servedWithout 21 = .ok (.aload_n 0, 1) := by decide +kernel
theorem dX5_servedWithout_22 : decode cX5_servedWithout 22 = .ok (.invokevirtual 181, 3) := by decide +kernel
theorem dX5_servedWithout_25 : decode cX5_servedWithout 25 = .ok (.aload_n 0, 1) := by decide +kernel
theorem dX5_servedWithout_26 : decode cX5_servedWithout 26 = .ok (.getfield 37, 3) := by decide +kernel
theorem dX5_servedWithout_29 : decode cX5_servedWithout 29 = .ok (.iconst 0, 1) := by decide +kernel
theorem dX5_servedWithout_30 : decode cX5_servedWithout 30 = .ok (.invokevirtual 202, 3) := by decide +kernel
theorem dX5_servedWithout_33 : decode cX5_servedWithout 33 = .ok (.istore_n 2, 1) := by decide +kernel
theorem dX5_servedWithout_34 : decode cX5_servedWithout 34 = .ok (.iload_n 2, 1) := by decide +kernel
theorem dX5_servedWithout_35 : decode cX5_servedWithout 35 = .ok (.iload_n 1, 1) := by decide +kernel
theorem dX5_servedWithout_36 : decode cX5_servedWithout 36 = .ok (.if_icmp .ne 14, 3) := by decide +kernel
theorem dX5_servedWithout_39 : decode cX5_servedWithout 39 = .ok (.aload_n 0, 1) := by decide +kernel
theorem dX5_servedWithout_40 : decode cX5_servedWithout 40 = .ok (.getfield 37, 3) := by decide +kernel
theorem dX5_servedWithout_43 : decode cX5_servedWithout 43 = .ok (.iconst 1, 1) := by decide +kernel
theorem dX5_servedWithout_44 : decode cX5_servedWithout 44 = .ok (.invokevirtual 202, 3) := by decide +kernel
theorem dX5_servedWithout_47 : decode cX5_servedWithout 47 = .ok (.goto 4, 3) := by decide +kernel
theorem dX5_servedWithout_50 : decode cX5_servedWithout 50 = .ok (.iload_n 2, 1) := by decide +kernel
theorem dX5_servedWithout_51 : decode cX5_servedWithout 51 = .ok (.ireturn, 1) := by decide +kernel
theorem dX5_leastWeight_0 : decode cX5_leastWeight 0 = .ok (.aload_n 0, 1) := by decide +kernel
theorem dX5_leastWeight_1 : decode cX5_leastWeight 1 = .ok (.iload_n 1, 1) := by decide +kernel
theorem dX5_leastWeight_2 : decode cX5_leastWeight 2 = .ok (.iload_n 2, 1) := by decide +kernel
theorem dX5_leastWeight_3 : decode cX5_leastWeight 3 = .ok (.iload_n 3, 1) := by decide +kernel
theorem dX5_leastWeight_4 : decode cX5_leastWeight 4 = .ok (.invokevirtual 147, 3) := by decide +kernel
theorem dX5_leastWeight_7 : decode cX5_leastWeight 7 = .ok (.ifCond .eq 15, 3) := by decide +kernel
theorem dX5_leastWeight_10 : decode cX5_leastWeight 10 = .ok (.aload_n 0, 1) := by decide +kernel
theorem dX5_leastWeight_11 : decode cX5_leastWeight 11 = .ok (.getfield 28, 3) := by decide +kernel
theorem dX5_leastWeight_14 : decode cX5_leastWeight 14 = .ok (.iload 4, 2) := by decide +kernel
theorem dX5_leastWeight_16 : decode cX5_leastWeight 16 = .ok (.invokevirtual 126, 3) := by decide +kernel
theorem dX5_leastWeight_19 : decode cX5_leastWeight 19 = .ok (.ifCond .ne 13, 3) := by decide +kernel
theorem dX5_leastWeight_22 : decode cX5_leastWeight 22 = .ok (.new 86, 3) := by decide +kernel
theorem dX5_leastWeight_25 : decode cX5_leastWeight 25 = .ok (.dup, 1) := by decide +kernel
theorem dX5_leastWeight_26 : decode cX5_leastWeight 26 = .ok (.ldc 219, 2) := by decide +kernel
theorem dX5_leastWeight_28 : decode cX5_leastWeight 28 = .ok (.invokespecial 90, 3) := by decide +kernel
theorem dX5_leastWeight_31 : decode cX5_leastWeight 31 = .ok (.athrow, 1) := by decide +kernel
theorem dX5_leastWeight_32 : decode cX5_leastWeight 32 = .ok (.aload_n 0, 1) := by decide +kernel
theorem dX5_leastWeight_33 : decode cX5_leastWeight 33 = .ok (.invokevirtual 181, 3) := by decide +kernel
theorem dX5_leastWeight_36 : decode cX5_leastWeight 36 = .ok (.aload_n 0, 1) := by decide +kernel
theorem dX5_leastWeight_37 : decode cX5_leastWeight 37 = .ok (.getfield 37, 3) := by decide +kernel
theorem dX5_leastWeight_40 : decode cX5_leastWeight 40 = .ok (.iload_n 1, 1) := by decide +kernel
theorem dX5_leastWeight_41 : decode cX5_leastWeight 41 = .ok (.iload_n 2, 1) := by decide +kernel
theorem dX5_leastWeight_42 : decode cX5_leastWeight 42 = .ok (.invokestatic 103, 3) := by decide +kernel
theorem dX5_leastWeight_45 : decode cX5_leastWeight 45 = .ok (.iload_n 3, 1) := by decide +kernel
theorem dX5_leastWeight_46 : decode cX5_leastWeight 46 = .ok (.iload 4, 2) := by decide +kernel
theorem dX5_leastWeight_48 : decode cX5_leastWeight 48 = .ok (.invokevirtual 221, 3) := by decide +kernel
theorem dX5_leastWeight_51 : decode cX5_leastWeight 51 = .ok (.ireturn, 1) := by decide +kernel
theorem dX5_leastQuality_0 : decode cX5_leastQuality 0 = .ok (.aload_n 0, 1) := by decide +kernel
theorem dX5_leastQuality_1 : decode cX5_leastQuality 1 = .ok (.getfield 28, 3) := by decide +kernel
theorem dX5_leastQuality_4 : decode cX5_leastQuality 4 = .ok (.iload_n 1, 1) := by decide +kernel
theorem dX5_leastQuality_5 : decode cX5_leastQuality 5 = .ok (.invokevirtual 126, 3) := by decide +kernel
theorem dX5_leastQuality_8 : decode cX5_leastQuality 8 = .ok (.ifCond .ne 13, 3) := by decide +kernel
theorem dX5_leastQuality_11 : decode cX5_leastQuality 11 = .ok (.new 86, 3) := by decide +kernel
theorem dX5_leastQuality_14 : decode cX5_leastQuality 14 = .ok (.dup, 1) := by decide +kernel
theorem dX5_leastQuality_15 : decode cX5_leastQuality 15 = .ok (.ldc 130, 2) := by decide +kernel
theorem dX5_leastQuality_17 : decode cX5_leastQuality 17 = .ok (.invokespecial 90, 3) := by decide +kernel
theorem dX5_leastQuality_20 : decode cX5_leastQuality 20 = .ok (.athrow, 1) := by decide +kernel
theorem dX5_leastQuality_21 : decode cX5_leastQuality 21 = .ok (.aload_n 0, 1) := by decide +kernel
theorem dX5_leastQuality_22 : decode cX5_leastQuality 22 = .ok (.invokevirtual 181, 3) := by decide +kernel
theorem dX5_leastQuality_25 : decode cX5_leastQuality 25 = .ok (.aload_n 0, 1) := by decide +kernel
theorem dX5_leastQuality_26 : decode cX5_leastQuality 26 = .ok (.getfield 37, 3) := by decide +kernel
theorem dX5_leastQuality_29 : decode cX5_leastQuality 29 = .ok (.iload_n 1, 1) := by decide +kernel
theorem dX5_leastQuality_30 : decode cX5_leastQuality 30 = .ok (.invokevirtual 224, 3) := by decide +kernel
theorem dX5_leastQuality_33 : decode cX5_leastQuality 33 = .ok (.ireturn, 1) := by decide +kernel
theorem dX5_agree_0 : decode cX5_agree 0 = .ok (.aload_n 0, 1) := by decide +kernel
theorem dX5_agree_1 : decode cX5_agree 1 = .ok (.iconst 1, 1) := by decide +kernel
theorem dX5_agree_2 : decode cX5_agree 2 = .ok (.invokevirtual 216, 3) := by decide +kernel
theorem dX5_agree_5 : decode cX5_agree 5 = .ok (.aload_n 0, 1) := by decide +kernel
theorem dX5_agree_6 : decode cX5_agree 6 = .ok (.iconst 0, 1) := by decide +kernel
theorem dX5_agree_7 : decode cX5_agree 7 = .ok (.invokevirtual 216, 3) := by decide +kernel
theorem dX5_agree_10 : decode cX5_agree 10 = .ok (.if_icmp .ne 7, 3) := by decide +kernel
theorem dX5_agree_13 : decode cX5_agree 13 = .ok (.iconst 1, 1) := by decide +kernel
theorem dX5_agree_14 : decode cX5_agree 14 = .ok (.goto 4, 3) := by decide +kernel
theorem dX5_agree_17 : decode cX5_agree 17 = .ok (.iconst 0, 1) := by decide +kernel
theorem dX5_agree_18 : decode cX5_agree 18 = .ok (.ireturn, 1) := by decide +kernel
theorem dX5_undo_0 : decode cX5_undo 0 = .ok (.aload_n 0, 1) := by decide +kernel
theorem dX5_undo_1 : decode cX5_undo 1 = .ok (.getfield 55, 3) := by decide +kernel
theorem dX5_undo_4 : decode cX5_undo 4 = .ok (.ifCond .gt 13, 3) := by decide +kernel
theorem dX5_undo_7 : decode cX5_undo 7 = .ok (.new 73, 3) := by decide +kernel
theorem dX5_undo_10 : decode cX5_undo 10 = .ok (.dup, 1) := by decide +kernel
theorem dX5_undo_11 : decode cX5_undo 11 = .ok (.ldc 227, 2) := by decide +kernel
theorem dX5_undo_13 : decode cX5_undo 13 = .ok (.invokespecial 77, 3) := by decide +kernel
theorem dX5_undo_16 : decode cX5_undo 16 = .ok (.athrow, 1) := by decide +kernel
theorem dX5_undo_17 : decode cX5_undo 17 = .ok (.aload_n 0, 1) := by decide +kernel
theorem dX5_undo_18 : decode cX5_undo 18 = .ok (.dup, 1) := by decide +kernel
theorem dX5_undo_19 : decode cX5_undo 19 = .ok (.getfield 55, 3) := by decide +kernel
theorem dX5_undo_22 : decode cX5_undo 22 = .ok (.iconst 1, 1) := by decide +kernel
theorem dX5_undo_23 : decode cX5_undo 23 = .ok (.isub, 1) := by decide +kernel
theorem dX5_undo_24 : decode cX5_undo 24 = .ok (.putfield 55, 3) := by decide +kernel
theorem dX5_undo_27 : decode cX5_undo 27 = .ok (.aload_n 0, 1) := by decide +kernel
theorem dX5_undo_28 : decode cX5_undo 28 = .ok (.getfield 28, 3) := by decide +kernel
theorem dX5_undo_31 : decode cX5_undo 31 = .ok (.aload_n 0, 1) := by decide +kernel
theorem dX5_undo_32 : decode cX5_undo 32 = .ok (.getfield 51, 3) := by decide +kernel
theorem dX5_undo_35 : decode cX5_undo 35 = .ok (.aload_n 0, 1) := by decide +kernel
theorem dX5_undo_36 : decode cX5_undo 36 = .ok (.getfield 55, 3) := by decide +kernel
theorem dX5_undo_39 : decode cX5_undo 39 = .ok (.aaload, 1) := by decide +kernel
theorem dX5_undo_40 : decode cX5_undo 40 = .ok (.invokevirtual 229, 3) := by decide +kernel
theorem dX5_undo_43 : decode cX5_undo 43 = .ok (.aload_n 0, 1) := by decide +kernel
theorem dX5_undo_44 : decode cX5_undo 44 = .ok (.iconst 1, 1) := by decide +kernel
theorem dX5_undo_45 : decode cX5_undo 45 = .ok (.putfield 59, 3) := by decide +kernel
theorem dX5_undo_48 : decode cX5_undo 48 = .ok (.aload_n 0, 1) := by decide +kernel
theorem dX5_undo_49 : decode cX5_undo 49 = .ok (.getfield 55, 3) := by decide +kernel
theorem dX5_undo_52 : decode cX5_undo 52 = .ok (.ireturn, 1) := by decide +kernel
theorem dX5_digest_0 : decode cX5_digest 0 = .ok (.aload_n 0, 1) := by decide +kernel
theorem dX5_digest_1 : decode cX5_digest 1 = .ok (.invokevirtual 181, 3) := by decide +kernel
theorem dX5_digest_4 : decode cX5_digest 4 = .ok (.ldc2_w 232, 3) := by decide +kernel
theorem dX5_digest_7 : decode cX5_digest 7 = .ok (.aload_n 0, 1) := by decide +kernel
theorem dX5_digest_8 : decode cX5_digest 8 = .ok (.getfield 55, 3) := by decide +kernel
theorem dX5_digest_11 : decode cX5_digest 11 = .ok (.invokestatic 234, 3) := by decide +kernel
theorem dX5_digest_14 : decode cX5_digest 14 = .ok (.lstore_n 1, 1) := by decide +kernel
theorem dX5_digest_15 : decode cX5_digest 15 = .ok (.iconst 0, 1) := by decide +kernel
theorem dX5_digest_16 : decode cX5_digest 16 = .ok (.istore_n 3, 1) := by decide +kernel
theorem dX5_digest_17 : decode cX5_digest 17 = .ok (.iload_n 3, 1) := by decide +kernel
theorem dX5_digest_18 : decode cX5_digest 18 = .ok (.bipush 10, 2) := by decide +kernel
theorem dX5_digest_20 : decode cX5_digest 20 = .ok (.if_icmp .gt 19, 3) := by decide +kernel
theorem dX5_digest_23 : decode cX5_digest 23 = .ok (.lload_n 1, 1) := by decide +kernel
theorem dX5_digest_24 : decode cX5_digest 24 = .ok (.aload_n 0, 1) := by decide +kernel
theorem dX5_digest_25 : decode cX5_digest 25 = .ok (.iload_n 3, 1) := by decide +kernel
theorem dX5_digest_26 : decode cX5_digest 26 = .ok (.invokevirtual 205, 3) := by decide +kernel
theorem dX5_digest_29 : decode cX5_digest 29 = .ok (.invokestatic 234, 3) := by decide +kernel
theorem dX5_digest_32 : decode cX5_digest 32 = .ok (.lstore_n 1, 1) := by decide +kernel
theorem dX5_digest_33 : decode cX5_digest 33 = .ok (.iinc 3 1, 3) := by decide +kernel
theorem dX5_digest_36 : decode cX5_digest 36 = .ok (.goto (-19), 3) := by decide +kernel
theorem dX5_digest_39 : decode cX5_digest 39 = .ok (.aload_n 0, 1) := by decide +kernel
theorem dX5_digest_40 : decode cX5_digest 40 = .ok (.lload_n 1, 1) := by decide +kernel
theorem dX5_digest_41 : decode cX5_digest 41 = .ok (.invokevirtual 238, 3) := by decide +kernel
theorem dX5_digest_44 : decode cX5_digest 44 = .ok (.lstore_n 1, 1) := by decide +kernel
theorem dX5_digest_45 : decode cX5_digest 45 = .ok (.aload_n 0, 1) := by decide +kernel
theorem dX5_digest_46 : decode cX5_digest 46 = .ok (.lload_n 1, 1) := by decide +kernel
theorem dX5_digest_47 : decode cX5_digest 47 = .ok (.invokevirtual 242, 3) := by decide +kernel
theorem dX5_digest_50 : decode cX5_digest 50 = .ok (.lstore_n 1, 1) := by decide +kernel
theorem dX5_digest_51 : decode cX5_digest 51 = .ok (.iconst 0, 1) := by decide +kernel
theorem dX5_digest_52 : decode cX5_digest 52 = .ok (.istore_n 3, 1) := by decide +kernel
theorem dX5_digest_53 : decode cX5_digest 53 = .ok (.iload_n 3, 1) := by decide +kernel
theorem dX5_digest_54 : decode cX5_digest 54 = .ok (.aload_n 0, 1) := by decide +kernel
theorem dX5_digest_55 : decode cX5_digest 55 = .ok (.getfield 37, 3) := by decide +kernel
theorem dX5_digest_58 : decode cX5_digest 58 = .ok (.getfield 245, 3) := by decide +kernel
theorem dX5_digest_61 : decode cX5_digest 61 = .ok (.if_icmp .ge 22, 3) := by decide +kernel
theorem dX5_digest_64 : decode cX5_digest 64 = .ok (.lload_n 1, 1) := by decide +kernel
theorem dX5_digest_65 : decode cX5_digest 65 = .ok (.aload_n 0, 1) := by decide +kernel
theorem dX5_digest_66 : decode cX5_digest 66 = .ok (.getfield 37, 3) := by decide +kernel
theorem dX5_digest_69 : decode cX5_digest 69 = .ok (.iload_n 3, 1) := by decide +kernel
theorem dX5_digest_70 : decode cX5_digest 70 = .ok (.invokevirtual 202, 3) := by decide +kernel
theorem dX5_digest_73 : decode cX5_digest 73 = .ok (.invokestatic 234, 3) := by decide +kernel
theorem dX5_digest_76 : decode cX5_digest 76 = .ok (.lstore_n 1, 1) := by decide +kernel
theorem dX5_digest_77 : decode cX5_digest 77 = .ok (.iinc 3 1, 3) := by decide +kernel
theorem dX5_digest_80 : decode cX5_digest 80 = .ok (.goto (-27), 3) := by decide +kernel
theorem dX5_digest_83 : decode cX5_digest 83 = .ok (.iconst 0, 1) := by decide +kernel
theorem dX5_digest_84 : decode cX5_digest 84 = .ok (.istore_n 3, 1) := by decide +kernel
theorem dX5_digest_85 : decode cX5_digest 85 = .ok (.iload_n 3, 1) := by decide +kernel
theorem dX5_digest_86 : decode cX5_digest 86 = .ok (.aload_n 0, 1) := by decide +kernel
theorem dX5_digest_87 : decode cX5_digest 87 = .ok (.getfield 47, 3) := by decide +kernel
theorem dX5_digest_90 : decode cX5_digest 90 = .ok (.getfield 248, 3) := by decide +kernel
theorem dX5_digest_93 : decode cX5_digest 93 = .ok (.if_icmp .ge 22, 3) := by decide +kernel
theorem dX5_digest_96 : decode cX5_digest 96 = .ok (.lload_n 1, 1) := by decide +kernel
theorem dX5_digest_97 : decode cX5_digest 97 = .ok (.aload_n 0, 1) := by decide +kernel
theorem dX5_digest_98 : decode cX5_digest 98 = .ok (.getfield 47, 3) := by decide +kernel
theorem dX5_digest_101 : decode cX5_digest 101 = .ok (.iload_n 3, 1) := by decide +kernel
theorem dX5_digest_102 : decode cX5_digest 102 = .ok (.invokevirtual 211, 3) := by decide +kernel
theorem dX5_digest_105 : decode cX5_digest 105 = .ok (.invokestatic 234, 3) := by decide +kernel
theorem dX5_digest_108 : decode cX5_digest 108 = .ok (.lstore_n 1, 1) := by decide +kernel
theorem dX5_digest_109 : decode cX5_digest 109 = .ok (.iinc 3 1, 3) := by decide +kernel
theorem dX5_digest_112 : decode cX5_digest 112 = .ok (.goto (-27), 3) := by decide +kernel
theorem dX5_digest_115 : decode cX5_digest 115 = .ok (.lload_n 1, 1) := by decide +kernel
theorem dX5_digest_116 : decode cX5_digest 116 = .ok (.lreturn, 1) := by decide +kernel
theorem dX5_isList_0 : decode cX5_isList 0 = .ok (.iload_n 0, 1) := by decide +kernel
theorem dX5_isList_1 : decode cX5_isList 1 = .ok (.ifCond .lt 21, 3) := by decide +kernel
theorem dX5_isList_4 : decode cX5_isList 4 = .ok (.iload_n 0, 1) := by decide +kernel
theorem dX5_isList_5 : decode cX5_isList 5 = .ok (.iconst 2, 1) := by decide +kernel
theorem dX5_isList_6 : decode cX5_isList 6 = .ok (.if_icmp .ge 16, 3) := by decide +kernel
theorem dX5_isList_9 : decode cX5_isList 9 = .ok (.iload_n 1, 1) := by decide +kernel
theorem dX5_isList_10 : decode cX5_isList 10 = .ok (.ifCond .lt 12, 3) := by decide +kernel
theorem dX5_isList_13 : decode cX5_isList 13 = .ok (.iload_n 1, 1) := by decide +kernel
theorem dX5_isList_14 : decode cX5_isList 14 = .ok (.iconst 3, 1) := by decide +kernel
theorem dX5_isList_15 : decode cX5_isList 15 = .ok (.if_icmp .ge 7, 3) := by decide +kernel
theorem dX5_isList_18 : decode cX5_isList 18 = .ok (.iconst 1, 1) := by decide +kernel
theorem dX5_isList_19 : decode cX5_isList 19 = .ok (.goto 4, 3) := by decide +kernel
theorem dX5_isList_22 : decode cX5_isList 22 = .ok (.iconst 0, 1) := by decide +kernel
theorem dX5_isList_23 : decode cX5_isList 23 = .ok (.ireturn, 1) := by decide +kernel
theorem dX5_isRule_0 : decode cX5_isRule 0 = .ok (.iload_n 0, 1) := by decide +kernel
theorem dX5_isRule_1 : decode cX5_isRule 1 = .ok (.ifCond .lt 12, 3) := by decide +kernel
theorem dX5_isRule_4 : decode cX5_isRule 4 = .ok (.iload_n 0, 1) := by decide +kernel
theorem dX5_isRule_5 : decode cX5_isRule 5 = .ok (.iconst 5, 1) := by decide +kernel
theorem dX5_isRule_6 : decode cX5_isRule 6 = .ok (.if_icmp .gt 7, 3) := by decide +kernel
theorem dX5_isRule_9 : decode cX5_isRule 9 = .ok (.iconst 1, 1) := by decide +kernel
theorem dX5_isRule_10 : decode cX5_isRule 10 = .ok (.goto 4, 3) := by decide +kernel
theorem dX5_isRule_13 : decode cX5_isRule 13 = .ok (.iconst 0, 1) := by decide +kernel
theorem dX5_isRule_14 : decode cX5_isRule 14 = .ok (.ireturn, 1) := by decide +kernel
theorem dX5_slotOf_0 : decode cX5_slotOf 0 = .ok (.iload_n 0, 1) := by decide +kernel
theorem dX5_slotOf_1 : decode cX5_slotOf 1 = .ok (.iconst 3, 1) := by decide +kernel
theorem dX5_slotOf_2 : decode cX5_slotOf 2 = .ok (.imul, 1) := by decide +kernel
theorem dX5_slotOf_3 : decode cX5_slotOf 3 = .ok (.iload_n 1, 1) := by decide +kernel
theorem dX5_slotOf_4 : decode cX5_slotOf 4 = .ok (.iadd, 1) := by decide +kernel
theorem dX5_slotOf_5 : decode cX5_slotOf 5 = .ok (.ireturn, 1) := by decide +kernel
theorem dX5_rowOf_0 : decode cX5_rowOf 0 = .ok (.iload_n 0, 1) := by decide +kernel
theorem dX5_rowOf_1 : decode cX5_rowOf 1 = .ok (.bipush 10, 2) := by decide +kernel
theorem dX5_rowOf_3 : decode cX5_rowOf 3 = .ok (.imul, 1) := by decide +kernel
theorem dX5_rowOf_4 : decode cX5_rowOf 4 = .ok (.iload_n 1, 1) := by decide +kernel
theorem dX5_rowOf_5 : decode cX5_rowOf 5 = .ok (.iadd, 1) := by decide +kernel
theorem dX5_rowOf_6 : decode cX5_rowOf 6 = .ok (.ireturn, 1) := by decide +kernel
theorem dX5_cellOf_0 : decode cX5_cellOf 0 = .ok (.iload_n 0, 1) := by decide +kernel
theorem dX5_cellOf_1 : decode cX5_cellOf 1 = .ok (.bipush 6, 2) := by decide +kernel
theorem dX5_cellOf_3 : decode cX5_cellOf 3 = .ok (.imul, 1) := by decide +kernel
theorem dX5_cellOf_4 : decode cX5_cellOf 4 = .ok (.iload_n 1, 1) := by decide +kernel
theorem dX5_cellOf_5 : decode cX5_cellOf 5 = .ok (.iadd, 1) := by decide +kernel
theorem dX5_cellOf_6 : decode cX5_cellOf 6 = .ok (.ireturn, 1) := by decide +kernel
theorem dX5_hasEntry_0 : decode cX5_hasEntry 0 = .ok (.iload_n 1, 1) := by decide +kernel
theorem dX5_hasEntry_1 : decode cX5_hasEntry 1 = .ok (.iload_n 2, 1) := by decide +kernel
theorem dX5_hasEntry_2 : decode cX5_hasEntry 2 = .ok (.invokestatic 82, 3) := by decide +kernel
theorem dX5_hasEntry_5 : decode cX5_hasEntry 5 = .ok (.ifCond .eq 23, 3) := by decide +kernel
theorem dX5_hasEntry_8 : decode cX5_hasEntry 8 = .ok (.aload_n 0, 1) := by decide +kernel
theorem dX5_hasEntry_9 : decode cX5_hasEntry 9 = .ok (.getfield 28, 3) := by decide +kernel
theorem dX5_hasEntry_12 : decode cX5_hasEntry 12 = .ok (.iload_n 1, 1) := by decide +kernel
theorem dX5_hasEntry_13 : decode cX5_hasEntry 13 = .ok (.iload_n 2, 1) := by decide +kernel
theorem dX5_hasEntry_14 : decode cX5_hasEntry 14 = .ok (.invokestatic 103, 3) := by decide +kernel
theorem dX5_hasEntry_17 : decode cX5_hasEntry 17 = .ok (.iload_n 3, 1) := by decide +kernel
theorem dX5_hasEntry_18 : decode cX5_hasEntry 18 = .ok (.invokevirtual 249, 3) := by decide +kernel
theorem dX5_hasEntry_21 : decode cX5_hasEntry 21 = .ok (.ifCond .eq 7, 3) := by decide +kernel
theorem dX5_hasEntry_24 : decode cX5_hasEntry 24 = .ok (.iconst 1, 1) := by decide +kernel
theorem dX5_hasEntry_25 : decode cX5_hasEntry 25 = .ok (.goto 4, 3) := by decide +kernel
theorem dX5_hasEntry_28 : decode cX5_hasEntry 28 = .ok (.iconst 0, 1) := by decide +kernel
theorem dX5_hasEntry_29 : decode cX5_hasEntry 29 = .ok (.ireturn, 1) := by decide +kernel
theorem dX5_save_0 : decode cX5_save 0 = .ok (.aload_n 0, 1) := by decide +kernel
theorem dX5_save_1 : decode cX5_save 1 = .ok (.getfield 55, 3) := by decide +kernel
theorem dX5_save_4 : decode cX5_save 4 = .ok (.iconst 4, 1) := by decide +kernel
theorem dX5_save_5 : decode cX5_save 5 = .ok (.if_icmp .lt 7, 3) := by decide +kernel
theorem dX5_save_8 : decode cX5_save 8 = .ok (.aload_n 0, 1) := by decide +kernel
theorem dX5_save_9 : decode cX5_save 9 = .ok (.invokevirtual 252, 3) := by decide +kernel
theorem dX5_save_12 : decode cX5_save 12 = .ok (.aload_n 0, 1) := by decide +kernel
theorem dX5_save_13 : decode cX5_save 13 = .ok (.getfield 51, 3) := by decide +kernel
theorem dX5_save_16 : decode cX5_save 16 = .ok (.aload_n 0, 1) := by decide +kernel
theorem dX5_save_17 : decode cX5_save 17 = .ok (.getfield 55, 3) := by decide +kernel
theorem dX5_save_20 : decode cX5_save 20 = .ok (.aaload, 1) := by decide +kernel
theorem dX5_save_21 : decode cX5_save 21 = .ok (.aload_n 0, 1) := by decide +kernel
theorem dX5_save_22 : decode cX5_save 22 = .ok (.getfield 28, 3) := by decide +kernel
theorem dX5_save_25 : decode cX5_save 25 = .ok (.invokevirtual 229, 3) := by decide +kernel
theorem dX5_save_28 : decode cX5_save 28 = .ok (.aload_n 0, 1) := by decide +kernel
theorem dX5_save_29 : decode cX5_save 29 = .ok (.dup, 1) := by decide +kernel
theorem dX5_save_30 : decode cX5_save 30 = .ok (.getfield 55, 3) := by decide +kernel
theorem dX5_save_33 : decode cX5_save 33 = .ok (.iconst 1, 1) := by decide +kernel
theorem dX5_save_34 : decode cX5_save 34 = .ok (.iadd, 1) := by decide +kernel
theorem dX5_save_35 : decode cX5_save 35 = .ok (.putfield 55, 3) := by decide +kernel
theorem dX5_save_38 : decode cX5_save 38 = .ok (.aload_n 0, 1) := by decide +kernel
theorem dX5_save_39 : decode cX5_save 39 = .ok (.iconst 1, 1) := by decide +kernel
theorem dX5_save_40 : decode cX5_save 40 = .ok (.putfield 59, 3) := by decide +kernel
theorem dX5_save_43 : decode cX5_save 43 = .ok (.return_, 1) := by decide +kernel
theorem dX5_dropOldest_0 : decode cX5_dropOldest 0 = .ok (.aload_n 0, 1) := by decide +kernel
theorem dX5_dropOldest_1 : decode cX5_dropOldest 1 = .ok (.getfield 51, 3) := by decide +kernel
theorem dX5_dropOldest_4 : decode cX5_dropOldest 4 = .ok (.iconst 0, 1) := by decide +kernel
theorem dX5_dropOldest_5 : decode cX5_dropOldest 5 = .ok (.aaload, 1) := by decide +kernel
theorem dX5_dropOldest_6 : decode cX5_dropOldest 6 = .ok (.astore_n 1, 1) := by decide +kernel
theorem dX5_dropOldest_7 : decode cX5_dropOldest 7 = .ok (.iconst 1, 1) := by decide +kernel
theorem dX5_dropOldest_8 : decode cX5_dropOldest 8 = .ok (.istore_n 2, 1) := by decide +kernel
theorem dX5_dropOldest_9 : decode cX5_dropOldest 9 = .ok (.iload_n 2, 1) := by decide +kernel
theorem dX5_dropOldest_10 : decode cX5_dropOldest 10 = .ok (.iconst 4, 1) := by decide +kernel
theorem dX5_dropOldest_11 : decode cX5_dropOldest 11 = .ok (.if_icmp .ge 23, 3) := by decide +kernel
theorem dX5_dropOldest_14 : decode cX5_dropOldest 14 = .ok (.aload_n 0, 1) := by decide +kernel
theorem dX5_dropOldest_15 : decode cX5_dropOldest 15 = .ok (.getfield 51, 3) := by decide +kernel
theorem dX5_dropOldest_18 : decode cX5_dropOldest 18 = .ok (.iload_n 2, 1) := by decide +kernel
theorem dX5_dropOldest_19 : decode cX5_dropOldest 19 = .ok (.iconst 1, 1) := by decide +kernel
theorem dX5_dropOldest_20 : decode cX5_dropOldest 20 = .ok (.isub, 1) := by decide +kernel
theorem dX5_dropOldest_21 : decode cX5_dropOldest 21 = .ok (.aload_n 0, 1) := by decide +kernel
theorem dX5_dropOldest_22 : decode cX5_dropOldest 22 = .ok (.getfield 51, 3) := by decide +kernel
theorem dX5_dropOldest_25 : decode cX5_dropOldest 25 = .ok (.iload_n 2, 1) := by decide +kernel
theorem dX5_dropOldest_26 : decode cX5_dropOldest 26 = .ok (.aaload, 1) := by decide +kernel
theorem dX5_dropOldest_27 : decode cX5_dropOldest 27 = .ok (.aastore, 1) := by decide +kernel
theorem dX5_dropOldest_28 : decode cX5_dropOldest 28 = .ok (.iinc 2 1, 3) := by decide +kernel
theorem dX5_dropOldest_31 : decode cX5_dropOldest 31 = .ok (.goto (-22), 3) := by decide +kernel
theorem dX5_dropOldest_34 : decode cX5_dropOldest 34 = .ok (.aload_n 0, 1) := by decide +kernel
theorem dX5_dropOldest_35 : decode cX5_dropOldest 35 = .ok (.getfield 51, 3) := by decide +kernel
theorem dX5_dropOldest_38 : decode cX5_dropOldest 38 = .ok (.iconst 3, 1) := by decide +kernel
theorem dX5_dropOldest_39 : decode cX5_dropOldest 39 = .ok (.aload_n 1, 1) := by decide +kernel
theorem dX5_dropOldest_40 : decode cX5_dropOldest 40 = .ok (.aastore, 1) := by decide +kernel
theorem dX5_dropOldest_41 : decode cX5_dropOldest 41 = .ok (.aload_n 0, 1) := by decide +kernel
theorem dX5_dropOldest_42 : decode cX5_dropOldest 42 = .ok (.iconst 3, 1) := by decide +kernel
theorem dX5_dropOldest_43 : decode cX5_dropOldest 43 = .ok (.putfield 55, 3) := by decide +kernel
theorem dX5_dropOldest_46 : decode cX5_dropOldest 46 = .ok (.return_, 1) := by decide +kernel
theorem dX5_settle_0 : decode cX5_settle 0 = .ok (.aload_n 0, 1) := by decide +kernel
theorem dX5_settle_1 : decode cX5_settle 1 = .ok (.getfield 59, 3) := by decide +kernel
theorem dX5_settle_4 : decode cX5_settle 4 = .ok (.ifCond .eq 23, 3) := by decide +kernel
theorem dX5_settle_7 : decode cX5_settle 7 = .ok (.aload_n 0, 1) := by decide +kernel
theorem dX5_settle_8 : decode cX5_settle 8 = .ok (.getfield 37, 3) := by decide +kernel
theorem dX5_settle_11 : decode cX5_settle 11 = .ok (.iconst (-1), 1) := by decide +kernel
theorem dX5_settle_12 : decode cX5_settle 12 = .ok (.invokevirtual 255, 3) := by decide +kernel
theorem dX5_settle_15 : decode cX5_settle 15 = .ok (.aload_n 0, 1) := by decide +kernel
theorem dX5_settle_16 : decode cX5_settle 16 = .ok (.getfield 47, 3) := by decide +kernel
theorem dX5_settle_19 : decode cX5_settle 19 = .ok (.invokevirtual 259, 3) := by decide +kernel
theorem dX5_settle_22 : decode cX5_settle 22 = .ok (.aload_n 0, 1) := by decide +kernel
theorem dX5_settle_23 : decode cX5_settle 23 = .ok (.iconst 0, 1) := by decide +kernel
theorem dX5_settle_24 : decode cX5_settle 24 = .ok (.putfield 59, 3) := by decide +kernel
theorem dX5_settle_27 : decode cX5_settle 27 = .ok (.return_, 1) := by decide +kernel
theorem dX5_servedWithoutSide_0 : decode cX5_servedWithoutSide 0 = .ok (.aload_n 0, 1) := by decide +kernel
theorem dX5_servedWithoutSide_1 : decode cX5_servedWithoutSide 1 = .ok (.getfield 41, 3) := by decide +kernel
theorem dX5_servedWithoutSide_4 : decode cX5_servedWithoutSide 4 = .ok (.iload_n 1, 1) := by decide +kernel
theorem dX5_servedWithoutSide_5 : decode cX5_servedWithoutSide 5 = .ok (.invokevirtual 255, 3) := by decide +kernel
theorem dX5_servedWithoutSide_8 : decode cX5_servedWithoutSide 8 = .ok (.aload_n 0, 1) := by decide +kernel
theorem dX5_servedWithoutSide_9 : decode cX5_servedWithoutSide 9 = .ok (.getfield 41, 3) := by decide +kernel
theorem dX5_servedWithoutSide_12 : decode cX5_servedWithoutSide 12 = .ok (.iconst 0, 1) := by decide +kernel
theorem dX5_servedWithoutSide_13 : decode cX5_servedWithoutSide 13 = .ok (.invokevirtual 202, 3) := by decide +kernel
theorem dX5_servedWithoutSide_16 : decode cX5_servedWithoutSide 16 = .ok (.ireturn, 1) := by decide +kernel
theorem dX5_variantValue_0 : decode cX5_variantValue 0 = .ok (.iload_n 2, 1) := by decide +kernel
theorem dX5_variantValue_1 : decode cX5_variantValue 1 = .ok (.tableswitch 98 0 5 #[39, 49, 59, 69, 78, 88], 39) := by decide +kernel
theorem dX5_variantValue_40 : decode cX5_variantValue 40 = .ok (.aload_n 0, 1) := by decide +kernel
theorem dX5_variantValue_41 : decode cX5_variantValue 41 = .ok (.getfield 28, 3) := by decide +kernel
theorem dX5_variantValue_44 : decode cX5_variantValue 44 = .ok (.getfield 144, 3) := by decide +kernel
theorem dX5_variantValue_47 : decode cX5_variantValue 47 = .ok (.iload_n 1, 1) := by decide +kernel
theorem dX5_variantValue_48 : decode cX5_variantValue 48 = .ok (.iaload, 1) := by decide +kernel
theorem dX5_variantValue_49 : decode cX5_variantValue 49 = .ok (.ireturn, 1) := by decide +kernel
theorem dX5_variantValue_50 : decode cX5_variantValue 50 = .ok (.aload_n 0, 1) := by decide +kernel
theorem dX5_variantValue_51 : decode cX5_variantValue 51 = .ok (.getfield 28, 3) := by decide +kernel
theorem dX5_variantValue_54 : decode cX5_variantValue 54 = .ok (.getfield 137, 3) := by decide +kernel
theorem dX5_variantValue_57 : decode cX5_variantValue 57 = .ok (.iload_n 1, 1) := by decide +kernel
theorem dX5_variantValue_58 : decode cX5_variantValue 58 = .ok (.iaload, 1) := by decide +kernel
theorem dX5_variantValue_59 : decode cX5_variantValue 59 = .ok (.ireturn, 1) := by decide +kernel
theorem dX5_variantValue_60 : decode cX5_variantValue 60 = .ok (.aload_n 0, 1) := by decide +kernel
theorem dX5_variantValue_61 : decode cX5_variantValue 61 = .ok (.getfield 37, 3) := by decide +kernel
theorem dX5_variantValue_64 : decode cX5_variantValue 64 = .ok (.getfield 261, 3) := by decide +kernel
theorem dX5_variantValue_67 : decode cX5_variantValue 67 = .ok (.iload_n 1, 1) := by decide +kernel
theorem dX5_variantValue_68 : decode cX5_variantValue 68 = .ok (.iaload, 1) := by decide +kernel
theorem dX5_variantValue_69 : decode cX5_variantValue 69 = .ok (.ireturn, 1) := by decide +kernel
theorem dX5_variantValue_70 : decode cX5_variantValue 70 = .ok (.aload_n 0, 1) := by decide +kernel
theorem dX5_variantValue_71 : decode cX5_variantValue 71 = .ok (.getfield 37, 3) := by decide +kernel
theorem dX5_variantValue_74 : decode cX5_variantValue 74 = .ok (.iload_n 1, 1) := by decide +kernel
theorem dX5_variantValue_75 : decode cX5_variantValue 75 = .ok (.invokevirtual 263, 3) := by decide +kernel
theorem dX5_variantValue_78 : decode cX5_variantValue 78 = .ok (.ireturn, 1) := by decide +kernel
theorem dX5_variantValue_79 : decode cX5_variantValue 79 = .ok (.aload_n 0, 1) := by decide +kernel
theorem dX5_variantValue_80 : decode cX5_variantValue 80 = .ok (.getfield 37, 3) := by decide +kernel
theorem dX5_variantValue_83 : decode cX5_variantValue 83 = .ok (.getfield 266, 3) := by decide +kernel
theorem dX5_variantValue_86 : decode cX5_variantValue 86 = .ok (.iload_n 1, 1) := by decide +kernel
theorem dX5_variantValue_87 : decode cX5_variantValue 87 = .ok (.iaload, 1) := by decide +kernel
theorem dX5_variantValue_88 : decode cX5_variantValue 88 = .ok (.ireturn, 1) := by decide +kernel
theorem dX5_variantValue_89 : decode cX5_variantValue 89 = .ok (.aload_n 0, 1) := by decide +kernel
theorem dX5_variantValue_90 : decode cX5_variantValue 90 = .ok (.getfield 47, 3) := by decide +kernel
theorem dX5_variantValue_93 : decode cX5_variantValue 93 = .ok (.getfield 269, 3) := by decide +kernel
theorem dX5_variantValue_96 : decode cX5_variantValue 96 = .ok (.iload_n 1, 1) := by decide +kernel
theorem dX5_variantValue_97 : decode cX5_variantValue 97 = .ok (.iaload, 1) := by decide +kernel
theorem dX5_variantValue_98 : decode cX5_variantValue 98 = .ok (.ireturn, 1) := by decide +kernel
theorem dX5_variantValue_99 : decode cX5_variantValue 99 = .ok (.aload_n 0, 1) := by decide +kernel
theorem dX5_variantValue_100 : decode cX5_variantValue 100 = .ok (.getfield 28, 3) := by decide +kernel
theorem dX5_variantValue_103 : decode cX5_variantValue 103 = .ok (.iload_n 1, 1) := by decide +kernel
theorem dX5_variantValue_104 : decode cX5_variantValue 104 = .ok (.invokevirtual 270, 3) := by decide +kernel
theorem dX5_variantValue_107 : decode cX5_variantValue 107 = .ok (.ireturn, 1) := by decide +kernel
theorem dX5_entryValue_0 : decode cX5_entryValue 0 = .ok (.iload_n 3, 1) := by decide +kernel
theorem dX5_entryValue_1 : decode cX5_entryValue 1 = .ok (.tableswitch 65 0 2 #[27, 41, 55], 27) := by decide +kernel
theorem dX5_entryValue_28 : decode cX5_entryValue 28 = .ok (.aload_n 0, 1) := by decide +kernel
theorem dX5_entryValue_29 : decode cX5_entryValue 29 = .ok (.getfield 28, 3) := by decide +kernel
theorem dX5_entryValue_32 : decode cX5_entryValue 32 = .ok (.getfield 158, 3) := by decide +kernel
theorem dX5_entryValue_35 : decode cX5_entryValue 35 = .ok (.iload_n 1, 1) := by decide +kernel
theorem dX5_entryValue_36 : decode cX5_entryValue 36 = .ok (.iload_n 2, 1) := by decide +kernel
theorem dX5_entryValue_37 : decode cX5_entryValue 37 = .ok (.invokestatic 155, 3) := by decide +kernel
theorem dX5_entryValue_40 : decode cX5_entryValue 40 = .ok (.iaload, 1) := by decide +kernel
theorem dX5_entryValue_41 : decode cX5_entryValue 41 = .ok (.ireturn, 1) := by decide +kernel
theorem dX5_entryValue_42 : decode cX5_entryValue 42 = .ok (.aload_n 0, 1) := by decide +kernel
theorem dX5_entryValue_43 : decode cX5_entryValue 43 = .ok (.getfield 28, 3) := by decide +kernel
theorem dX5_entryValue_46 : decode cX5_entryValue 46 = .ok (.getfield 273, 3) := by decide +kernel
theorem dX5_entryValue_49 : decode cX5_entryValue 49 = .ok (.iload_n 1, 1) := by decide +kernel
theorem dX5_entryValue_50 : decode cX5_entryValue 50 = .ok (.iload_n 2, 1) := by decide +kernel
theorem dX5_entryValue_51 : decode cX5_entryValue 51 = .ok (.invokestatic 155, 3) := by decide +kernel
theorem dX5_entryValue_54 : decode cX5_entryValue 54 = .ok (.iaload, 1) := by decide +kernel
theorem dX5_entryValue_55 : decode cX5_entryValue 55 = .ok (.ireturn, 1) := by decide +kernel
theorem dX5_entryValue_56 : decode cX5_entryValue 56 = .ok (.aload_n 0, 1) := by decide +kernel
theorem dX5_entryValue_57 : decode cX5_entryValue 57 = .ok (.getfield 28, 3) := by decide +kernel
theorem dX5_entryValue_60 : decode cX5_entryValue 60 = .ok (.iload_n 1, 1) := by decide +kernel
theorem dX5_entryValue_61 : decode cX5_entryValue 61 = .ok (.iload_n 2, 1) := by decide +kernel
theorem dX5_entryValue_62 : decode cX5_entryValue 62 = .ok (.invokevirtual 276, 3) := by decide +kernel
theorem dX5_entryValue_65 : decode cX5_entryValue 65 = .ok (.ireturn, 1) := by decide +kernel
theorem dX5_entryValue_66 : decode cX5_entryValue 66 = .ok (.aload_n 0, 1) := by decide +kernel
theorem dX5_entryValue_67 : decode cX5_entryValue 67 = .ok (.getfield 37, 3) := by decide +kernel
theorem dX5_entryValue_70 : decode cX5_entryValue 70 = .ok (.iload_n 1, 1) := by decide +kernel
theorem dX5_entryValue_71 : decode cX5_entryValue 71 = .ok (.iload_n 2, 1) := by decide +kernel
theorem dX5_entryValue_72 : decode cX5_entryValue 72 = .ok (.invokevirtual 279, 3) := by decide +kernel
theorem dX5_entryValue_75 : decode cX5_entryValue 75 = .ok (.ireturn, 1) := by decide +kernel
theorem dX5_wholeValue_0 : decode cX5_wholeValue 0 = .ok (.iload_n 1, 1) := by decide +kernel
theorem dX5_wholeValue_1 : decode cX5_wholeValue 1 = .ok (.tableswitch 127 0 9 #[55, 63, 71, 80, 88, 97, 106, 114, 114, 114], 55) := by decide +kernel
theorem dX5_wholeValue_56 : decode cX5_wholeValue 56 = .ok (.aload_n 0, 1) := by decide +kernel
theorem dX5_wholeValue_57 : decode cX5_wholeValue 57 = .ok (.getfield 28, 3) := by decide +kernel
theorem dX5_wholeValue_60 : decode cX5_wholeValue 60 = .ok (.getfield 111, 3) := by decide +kernel
theorem dX5_wholeValue_63 : decode cX5_wholeValue 63 = .ok (.ireturn, 1) := by decide +kernel
theorem dX5_wholeValue_64 : decode cX5_wholeValue 64 = .ok (.aload_n 0, 1) := by decide +kernel
theorem dX5_wholeValue_65 : decode cX5_wholeValue 65 = .ok (.getfield 37, 3) := by decide +kernel
theorem dX5_wholeValue_68 : decode cX5_wholeValue 68 = .ok (.getfield 245, 3) := by decide +kernel
theorem dX5_wholeValue_71 : decode cX5_wholeValue 71 = .ok (.ireturn, 1) := by decide +kernel
theorem dX5_wholeValue_72 : decode cX5_wholeValue 72 = .ok (.aload_n 0, 1) := by decide +kernel
theorem dX5_wholeValue_73 : decode cX5_wholeValue 73 = .ok (.getfield 37, 3) := by decide +kernel
theorem dX5_wholeValue_76 : decode cX5_wholeValue 76 = .ok (.iconst 0, 1) := by decide +kernel
theorem dX5_wholeValue_77 : decode cX5_wholeValue 77 = .ok (.invokevirtual 202, 3) := by decide +kernel
theorem dX5_wholeValue_80 : decode cX5_wholeValue 80 = .ok (.ireturn, 1) := by decide +kernel
theorem dX5_wholeValue_81 : decode cX5_wholeValue 81 = .ok (.aload_n 0, 1) := by decide +kernel
theorem dX5_wholeValue_82 : decode cX5_wholeValue 82 = .ok (.getfield 37, 3) := by decide +kernel
theorem dX5_wholeValue_85 : decode cX5_wholeValue 85 = .ok (.invokevirtual 282, 3) := by decide +kernel
theorem dX5_wholeValue_88 : decode cX5_wholeValue 88 = .ok (.ireturn, 1) := by decide +kernel
theorem dX5_wholeValue_89 : decode cX5_wholeValue 89 = .ok (.aload_n 0, 1) := by decide +kernel
theorem dX5_wholeValue_90 : decode cX5_wholeValue 90 = .ok (.getfield 28, 3) := by decide +kernel
theorem dX5_wholeValue_93 : decode cX5_wholeValue 93 = .ok (.iconst 0, 1) := by decide +kernel
theorem dX5_wholeValue_94 : decode cX5_wholeValue 94 = .ok (.invokevirtual 168, 3) := by decide +kernel
theorem dX5_wholeValue_97 : decode cX5_wholeValue 97 = .ok (.ireturn, 1) := by decide +kernel
theorem dX5_wholeValue_98 : decode cX5_wholeValue 98 = .ok (.aload_n 0, 1) := by decide +kernel
theorem dX5_wholeValue_99 : decode cX5_wholeValue 99 = .ok (.getfield 28, 3) := by decide +kernel
theorem dX5_wholeValue_102 : decode cX5_wholeValue 102 = .ok (.iconst 1, 1) := by decide +kernel
theorem dX5_wholeValue_103 : decode cX5_wholeValue 103 = .ok (.invokevirtual 168, 3) := by decide +kernel
theorem dX5_wholeValue_106 : decode cX5_wholeValue 106 = .ok (.ireturn, 1) := by decide +kernel
theorem dX5_wholeValue_107 : decode cX5_wholeValue 107 = .ok (.aload_n 0, 1) := by decide +kernel
theorem dX5_wholeValue_108 : decode cX5_wholeValue 108 = .ok (.getfield 12, 3) := by decide +kernel
theorem dX5_wholeValue_111 : decode cX5_wholeValue 111 = .ok (.getfield 70, 3) := by decide +kernel
theorem dX5_wholeValue_114 : decode cX5_wholeValue 114 = .ok (.ireturn, 1) := by decide +kernel
theorem dX5_wholeValue_115 : decode cX5_wholeValue 115 = .ok (.aload_n 0, 1) := by decide +kernel
theorem dX5_wholeValue_116 : decode cX5_wholeValue 116 = .ok (.getfield 28, 3) := by decide +kernel
theorem dX5_wholeValue_119 : decode cX5_wholeValue 119 = .ok (.getfield 176, 3) := by decide +kernel
theorem dX5_wholeValue_122 : decode cX5_wholeValue 122 = .ok (.iload_n 1, 1) := by decide +kernel
theorem dX5_wholeValue_123 : decode cX5_wholeValue 123 = .ok (.bipush 7, 2) := by decide +kernel
theorem dX5_wholeValue_125 : decode cX5_wholeValue 125 = .ok (.isub, 1) := by decide +kernel
theorem dX5_wholeValue_126 : decode cX5_wholeValue 126 = .ok (.iaload, 1) := by decide +kernel
theorem dX5_wholeValue_127 : decode cX5_wholeValue 127 = .ok (.ireturn, 1) := by decide +kernel
theorem dX5_wholeValue_128 : decode cX5_wholeValue 128 = .ok (.aload_n 0, 1) := by decide +kernel
theorem dX5_wholeValue_129 : decode cX5_wholeValue 129 = .ok (.getfield 47, 3) := by decide +kernel
theorem dX5_wholeValue_132 : decode cX5_wholeValue 132 = .ok (.getfield 248, 3) := by decide +kernel
theorem dX5_wholeValue_135 : decode cX5_wholeValue 135 = .ok (.ireturn, 1) := by decide +kernel
theorem dX5_mix_0 : decode cX5_mix 0 = .ok (.ldc2_w 285, 3) := by decide +kernel
theorem dX5_mix_3 : decode cX5_mix 3 = .ok (.lload_n 0, 1) := by decide +kernel
theorem dX5_mix_4 : decode cX5_mix 4 = .ok (.lmul, 1) := by decide +kernel
theorem dX5_mix_5 : decode cX5_mix 5 = .ok (.iload_n 2, 1) := by decide +kernel
theorem dX5_mix_6 : decode cX5_mix 6 = .ok (.i2l, 1) := by decide +kernel
theorem dX5_mix_7 : decode cX5_mix 7 = .ok (.ladd, 1) := by decide +kernel
theorem dX5_mix_8 : decode cX5_mix 8 = .ok (.lreturn, 1) := by decide +kernel
theorem dX5_mixVariants_0 : decode cX5_mixVariants 0 = .ok (.lload_n 1, 1) := by decide +kernel
theorem dX5_mixVariants_1 : decode cX5_mixVariants 1 = .ok (.lstore_n 3, 1) := by decide +kernel
theorem dX5_mixVariants_2 : decode cX5_mixVariants 2 = .ok (.iconst 0, 1) := by decide +kernel
theorem dX5_mixVariants_3 : decode cX5_mixVariants 3 = .ok (.istore 5, 2) := by decide +kernel
theorem dX5_mixVariants_5 : decode cX5_mixVariants 5 = .ok (.iload 5, 2) := by decide +kernel
theorem dX5_mixVariants_7 : decode cX5_mixVariants 7 = .ok (.aload_n 0, 1) := by decide +kernel
theorem dX5_mixVariants_8 : decode cX5_mixVariants 8 = .ok (.getfield 28, 3) := by decide +kernel
theorem dX5_mixVariants_11 : decode cX5_mixVariants 11 = .ok (.getfield 111, 3) := by decide +kernel
theorem dX5_mixVariants_14 : decode cX5_mixVariants 14 = .ok (.if_icmp .ge 74, 3) := by decide +kernel
theorem dX5_mixVariants_17 : decode cX5_mixVariants 17 = .ok (.iconst 0, 1) := by decide +kernel
theorem dX5_mixVariants_18 : decode cX5_mixVariants 18 = .ok (.istore 6, 2) := by decide +kernel
theorem dX5_mixVariants_20 : decode cX5_mixVariants 20 = .ok (.iload 6, 2) := by decide +kernel
theorem dX5_mixVariants_22 : decode cX5_mixVariants 22 = .ok (.bipush 6, 2) := by decide +kernel
theorem dX5_mixVariants_24 : decode cX5_mixVariants 24 = .ok (.if_icmp .gt 22, 3) := by decide +kernel
theorem dX5_mixVariants_27 : decode cX5_mixVariants 27 = .ok (.lload_n 3, 1) := by decide +kernel
theorem dX5_mixVariants_28 : decode cX5_mixVariants 28 = .ok (.aload_n 0, 1) := by decide +kernel
theorem dX5_mixVariants_29 : decode cX5_mixVariants 29 = .ok (.iload 5, 2) := by decide +kernel
theorem dX5_mixVariants_31 : decode cX5_mixVariants 31 = .ok (.iload 6, 2) := by decide +kernel
theorem dX5_mixVariants_33 : decode cX5_mixVariants 33 = .ok (.invokevirtual 184, 3) := by decide +kernel
theorem dX5_mixVariants_36 : decode cX5_mixVariants 36 = .ok (.invokestatic 234, 3) := by decide +kernel
theorem dX5_mixVariants_39 : decode cX5_mixVariants 39 = .ok (.lstore_n 3, 1) := by decide +kernel
theorem dX5_mixVariants_40 : decode cX5_mixVariants 40 = .ok (.iinc 6 1, 3) := by decide +kernel
theorem dX5_mixVariants_43 : decode cX5_mixVariants 43 = .ok (.goto (-23), 3) := by decide +kernel
theorem dX5_mixVariants_46 : decode cX5_mixVariants 46 = .ok (.iconst 0, 1) := by decide +kernel
theorem dX5_mixVariants_47 : decode cX5_mixVariants 47 = .ok (.istore 6, 2) := by decide +kernel
theorem dX5_mixVariants_49 : decode cX5_mixVariants 49 = .ok (.iload 6, 2) := by decide +kernel
theorem dX5_mixVariants_51 : decode cX5_mixVariants 51 = .ok (.bipush 6, 2) := by decide +kernel
theorem dX5_mixVariants_53 : decode cX5_mixVariants 53 = .ok (.if_icmp .ge 29, 3) := by decide +kernel
theorem dX5_mixVariants_56 : decode cX5_mixVariants 56 = .ok (.lload_n 3, 1) := by decide +kernel
theorem dX5_mixVariants_57 : decode cX5_mixVariants 57 = .ok (.aload_n 0, 1) := by decide +kernel
theorem dX5_mixVariants_58 : decode cX5_mixVariants 58 = .ok (.getfield 37, 3) := by decide +kernel
theorem dX5_mixVariants_61 : decode cX5_mixVariants 61 = .ok (.getfield 189, 3) := by decide +kernel
theorem dX5_mixVariants_64 : decode cX5_mixVariants 64 = .ok (.iload 5, 2) := by decide +kernel
theorem dX5_mixVariants_66 : decode cX5_mixVariants 66 = .ok (.iload 6, 2) := by decide +kernel
theorem dX5_mixVariants_68 : decode cX5_mixVariants 68 = .ok (.invokestatic 190, 3) := by decide +kernel
theorem dX5_mixVariants_71 : decode cX5_mixVariants 71 = .ok (.iaload, 1) := by decide +kernel
theorem dX5_mixVariants_72 : decode cX5_mixVariants 72 = .ok (.invokestatic 234, 3) := by decide +kernel
theorem dX5_mixVariants_75 : decode cX5_mixVariants 75 = .ok (.lstore_n 3, 1) := by decide +kernel
theorem dX5_mixVariants_76 : decode cX5_mixVariants 76 = .ok (.iinc 6 1, 3) := by decide +kernel
theorem dX5_mixVariants_79 : decode cX5_mixVariants 79 = .ok (.goto (-30), 3) := by decide +kernel
theorem dX5_mixVariants_82 : decode cX5_mixVariants 82 = .ok (.iinc 5 1, 3) := by decide +kernel
theorem dX5_mixVariants_85 : decode cX5_mixVariants 85 = .ok (.goto (-80), 3) := by decide +kernel
theorem dX5_mixVariants_88 : decode cX5_mixVariants 88 = .ok (.lload_n 3, 1) := by decide +kernel
theorem dX5_mixVariants_89 : decode cX5_mixVariants 89 = .ok (.lreturn, 1) := by decide +kernel
theorem dX5_mixEntries_0 : decode cX5_mixEntries 0 = .ok (.lload_n 1, 1) := by decide +kernel
theorem dX5_mixEntries_1 : decode cX5_mixEntries 1 = .ok (.lstore_n 3, 1) := by decide +kernel
theorem dX5_mixEntries_2 : decode cX5_mixEntries 2 = .ok (.iconst 0, 1) := by decide +kernel
theorem dX5_mixEntries_3 : decode cX5_mixEntries 3 = .ok (.istore 5, 2) := by decide +kernel
theorem dX5_mixEntries_5 : decode cX5_mixEntries 5 = .ok (.iload 5, 2) := by decide +kernel
theorem dX5_mixEntries_7 : decode cX5_mixEntries 7 = .ok (.bipush 6, 2) := by decide +kernel
theorem dX5_mixEntries_9 : decode cX5_mixEntries 9 = .ok (.if_icmp .ge 63, 3) := by decide +kernel
theorem dX5_mixEntries_12 : decode cX5_mixEntries 12 = .ok (.iconst 0, 1) := by decide +kernel
theorem dX5_mixEntries_13 : decode cX5_mixEntries 13 = .ok (.istore 6, 2) := by decide +kernel
theorem dX5_mixEntries_15 : decode cX5_mixEntries 15 = .ok (.iload 6, 2) := by decide +kernel
theorem dX5_mixEntries_17 : decode cX5_mixEntries 17 = .ok (.aload_n 0, 1) := by decide +kernel
theorem dX5_mixEntries_18 : decode cX5_mixEntries 18 = .ok (.getfield 28, 3) := by decide +kernel
theorem dX5_mixEntries_21 : decode cX5_mixEntries 21 = .ok (.getfield 287, 3) := by decide +kernel
theorem dX5_mixEntries_24 : decode cX5_mixEntries 24 = .ok (.iload 5, 2) := by decide +kernel
theorem dX5_mixEntries_26 : decode cX5_mixEntries 26 = .ok (.iaload, 1) := by decide +kernel
theorem dX5_mixEntries_27 : decode cX5_mixEntries 27 = .ok (.if_icmp .ge 39, 3) := by decide +kernel
theorem dX5_mixEntries_30 : decode cX5_mixEntries 30 = .ok (.iconst 0, 1) := by decide +kernel
theorem dX5_mixEntries_31 : decode cX5_mixEntries 31 = .ok (.istore 7, 2) := by decide +kernel
theorem dX5_mixEntries_33 : decode cX5_mixEntries 33 = .ok (.iload 7, 2) := by decide +kernel
theorem dX5_mixEntries_35 : decode cX5_mixEntries 35 = .ok (.iconst 3, 1) := by decide +kernel
theorem dX5_mixEntries_36 : decode cX5_mixEntries 36 = .ok (.if_icmp .gt 24, 3) := by decide +kernel
theorem dX5_mixEntries_39 : decode cX5_mixEntries 39 = .ok (.lload_n 3, 1) := by decide +kernel
theorem dX5_mixEntries_40 : decode cX5_mixEntries 40 = .ok (.aload_n 0, 1) := by decide +kernel
theorem dX5_mixEntries_41 : decode cX5_mixEntries 41 = .ok (.iload 5, 2) := by decide +kernel
theorem dX5_mixEntries_43 : decode cX5_mixEntries 43 = .ok (.iload 6, 2) := by decide +kernel
theorem dX5_mixEntries_45 : decode cX5_mixEntries 45 = .ok (.iload 7, 2) := by decide +kernel
theorem dX5_mixEntries_47 : decode cX5_mixEntries 47 = .ok (.invokevirtual 196, 3) := by decide +kernel
theorem dX5_mixEntries_50 : decode cX5_mixEntries 50 = .ok (.invokestatic 234, 3) := by decide +kernel
theorem dX5_mixEntries_53 : decode cX5_mixEntries 53 = .ok (.lstore_n 3, 1) := by decide +kernel
theorem dX5_mixEntries_54 : decode cX5_mixEntries 54 = .ok (.iinc 7 1, 3) := by decide +kernel
theorem dX5_mixEntries_57 : decode cX5_mixEntries 57 = .ok (.goto (-24), 3) := by decide +kernel
theorem dX5_mixEntries_60 : decode cX5_mixEntries 60 = .ok (.iinc 6 1, 3) := by decide +kernel
theorem dX5_mixEntries_63 : decode cX5_mixEntries 63 = .ok (.goto (-48), 3) := by decide +kernel
theorem dX5_mixEntries_66 : decode cX5_mixEntries 66 = .ok (.iinc 5 1, 3) := by decide +kernel
theorem dX5_mixEntries_69 : decode cX5_mixEntries 69 = .ok (.goto (-64), 3) := by decide +kernel
theorem dX5_mixEntries_72 : decode cX5_mixEntries 72 = .ok (.lload_n 3, 1) := by decide +kernel
theorem dX5_mixEntries_73 : decode cX5_mixEntries 73 = .ok (.lreturn, 1) := by decide +kernel
theorem dL_lot_0 : decode cL_lot 0 = .ok (.iload_n 1, 1) := by decide +kernel
theorem dL_lot_1 : decode cL_lot 1 = .ok (.aload_n 0, 1) := by decide +kernel
theorem dL_lot_2 : decode cL_lot 2 = .ok (.arraylength, 1) := by decide +kernel
theorem dL_lot_3 : decode cL_lot 3 = .ok (.if_icmp .ge 9, 3) := by decide +kernel
theorem dL_lot_6 : decode cL_lot 6 = .ok (.aload_n 0, 1) := by decide +kernel
theorem dL_lot_7 : decode cL_lot 7 = .ok (.iload_n 1, 1) := by decide +kernel
theorem dL_lot_8 : decode cL_lot 8 = .ok (.iaload, 1) := by decide +kernel
theorem dL_lot_9 : decode cL_lot 9 = .ok (.goto 15, 3) := by decide +kernel
theorem dL_lot_12 : decode cL_lot 12 = .ok (.ldc 7, 2) := by decide +kernel
theorem dL_lot_14 : decode cL_lot 14 = .ok (.iload_n 1, 1) := by decide +kernel
theorem dL_lot_15 : decode cL_lot 15 = .ok (.sipush 2011, 3) := by decide +kernel
theorem dL_lot_18 : decode cL_lot 18 = .ok (.iadd, 1) := by decide +kernel
theorem dL_lot_19 : decode cL_lot 19 = .ok (.imul, 1) := by decide +kernel
theorem dL_lot_20 : decode cL_lot 20 = .ok (.sipush 1811, 3) := by decide +kernel
theorem dL_lot_23 : decode cL_lot 23 = .ok (.iadd, 1) := by decide +kernel
theorem dL_lot_24 : decode cL_lot 24 = .ok (.ireturn, 1) := by decide +kernel
theorem dL_low_0 : decode cL_low 0 = .ok (.iload_n 0, 1) := by decide +kernel
theorem dL_low_1 : decode cL_low 1 = .ok (.ldc 8, 2) := by decide +kernel
theorem dL_low_3 : decode cL_low 3 = .ok (.iand, 1) := by decide +kernel
theorem dL_low_4 : decode cL_low 4 = .ok (.iload_n 1, 1) := by decide +kernel
theorem dL_low_5 : decode cL_low 5 = .ok (.irem, 1) := by decide +kernel
theorem dL_low_6 : decode cL_low 6 = .ok (.ireturn, 1) := by decide +kernel
theorem dL_type_0 : decode cL_type 0 = .ok (.aload_n 0, 1) := by decide +kernel
theorem dL_type_1 : decode cL_type 1 = .ok (.iload_n 1, 1) := by decide +kernel
theorem dL_type_2 : decode cL_type 2 = .ok (.invokevirtual 9, 3) := by decide +kernel
theorem dL_type_5 : decode cL_type 5 = .ok (.ireturn, 1) := by decide +kernel
theorem dL_type_6 : decode cL_type 6 = .ok (.astore_n 2, 1) := by decide +kernel
theorem dL_type_7 : decode cL_type 7 = .ok (.ldc 17, 2) := by decide +kernel
theorem dL_type_9 : decode cL_type 9 = .ok (.ireturn, 1) := by decide +kernel
theorem dL_type_10 : decode cL_type 10 = .ok (.astore_n 2, 1) := by decide +kernel
theorem dL_type_11 : decode cL_type 11 = .ok (.ldc 20, 2) := by decide +kernel
theorem dL_type_13 : decode cL_type 13 = .ok (.ireturn, 1) := by decide +kernel
theorem dL_listFault_0 : decode cL_listFault 0 = .ok (.aload_n 0, 1) := by decide +kernel
theorem dL_listFault_1 : decode cL_listFault 1 = .ok (.iload_n 1, 1) := by decide +kernel
theorem dL_listFault_2 : decode cL_listFault 2 = .ok (.invokevirtual 21, 3) := by decide +kernel
theorem dL_listFault_5 : decode cL_listFault 5 = .ok (.ireturn, 1) := by decide +kernel
theorem dL_listFault_6 : decode cL_listFault 6 = .ok (.astore_n 2, 1) := by decide +kernel
theorem dL_listFault_7 : decode cL_listFault 7 = .ok (.ldc 26, 2) := by decide +kernel
theorem dL_listFault_9 : decode cL_listFault 9 = .ok (.ireturn, 1) := by decide +kernel
theorem dL_takeList_0 : decode cL_takeList 0 = .ok (.aload_n 0, 1) := by decide +kernel
theorem dL_takeList_1 : decode cL_takeList 1 = .ok (.iload_n 1, 1) := by decide +kernel
theorem dL_takeList_2 : decode cL_takeList 2 = .ok (.iload_n 2, 1) := by decide +kernel
theorem dL_takeList_3 : decode cL_takeList 3 = .ok (.invokevirtual 27, 3) := by decide +kernel
theorem dL_takeList_6 : decode cL_takeList 6 = .ok (.ireturn, 1) := by decide +kernel
theorem dL_takeList_7 : decode cL_takeList 7 = .ok (.astore_n 3, 1) := by decide +kernel
theorem dL_takeList_8 : decode cL_takeList 8 = .ok (.ldc 26, 2) := by decide +kernel
theorem dL_takeList_10 : decode cL_takeList 10 = .ok (.ireturn, 1) := by decide +kernel
theorem dL_addVariant_0 : decode cL_addVariant 0 = .ok (.aload_n 0, 1) := by decide +kernel
theorem dL_addVariant_1 : decode cL_addVariant 1 = .ok (.invokevirtual 31, 3) := by decide +kernel
theorem dL_addVariant_4 : decode cL_addVariant 4 = .ok (.ireturn, 1) := by decide +kernel
theorem dL_addVariant_5 : decode cL_addVariant 5 = .ok (.astore_n 1, 1) := by decide +kernel
theorem dL_addVariant_6 : decode cL_addVariant 6 = .ok (.ldc 20, 2) := by decide +kernel
theorem dL_addVariant_8 : decode cL_addVariant 8 = .ok (.ireturn, 1) := by decide +kernel
theorem dL_removeVariant_0 : decode cL_removeVariant 0 = .ok (.aload_n 0, 1) := by decide +kernel
theorem dL_removeVariant_1 : decode cL_removeVariant 1 = .ok (.iload_n 1, 1) := by decide +kernel
theorem dL_removeVariant_2 : decode cL_removeVariant 2 = .ok (.invokevirtual 35, 3) := by decide +kernel
theorem dL_removeVariant_5 : decode cL_removeVariant 5 = .ok (.ireturn, 1) := by decide +kernel
theorem dL_removeVariant_6 : decode cL_removeVariant 6 = .ok (.astore_n 2, 1) := by decide +kernel
theorem dL_removeVariant_7 : decode cL_removeVariant 7 = .ok (.ldc 26, 2) := by decide +kernel
theorem dL_removeVariant_9 : decode cL_removeVariant 9 = .ok (.ireturn, 1) := by decide +kernel
theorem dL_setQuality_0 : decode cL_setQuality 0 = .ok (.aload_n 0, 1) := by decide +kernel
theorem dL_setQuality_1 : decode cL_setQuality 1 = .ok (.iload_n 1, 1) := by decide +kernel
theorem dL_setQuality_2 : decode cL_setQuality 2 = .ok (.iload_n 2, 1) := by decide +kernel
theorem dL_setQuality_3 : decode cL_setQuality 3 = .ok (.invokevirtual 38, 3) := by decide +kernel
theorem dL_setQuality_6 : decode cL_setQuality 6 = .ok (.ireturn, 1) := by decide +kernel
theorem dL_setQuality_7 : decode cL_setQuality 7 = .ok (.astore_n 3, 1) := by decide +kernel
theorem dL_setQuality_8 : decode cL_setQuality 8 = .ok (.ldc 26, 2) := by decide +kernel
theorem dL_setQuality_10 : decode cL_setQuality 10 = .ok (.ireturn, 1) := by decide +kernel
theorem dL_setQuality_11 : decode cL_setQuality 11 = .ok (.astore_n 3, 1) := by decide +kernel
theorem dL_setQuality_12 : decode cL_setQuality 12 = .ok (.ldc 17, 2) := by decide +kernel
theorem dL_setQuality_14 : decode cL_setQuality 14 = .ok (.ireturn, 1) := by decide +kernel
theorem dL_setSize_0 : decode cL_setSize 0 = .ok (.aload_n 0, 1) := by decide +kernel
theorem dL_setSize_1 : decode cL_setSize 1 = .ok (.iload_n 1, 1) := by decide +kernel
theorem dL_setSize_2 : decode cL_setSize 2 = .ok (.iload_n 2, 1) := by decide +kernel
theorem dL_setSize_3 : decode cL_setSize 3 = .ok (.invokevirtual 41, 3) := by decide +kernel
theorem dL_setSize_6 : decode cL_setSize 6 = .ok (.ireturn, 1) := by decide +kernel
theorem dL_setSize_7 : decode cL_setSize 7 = .ok (.astore_n 3, 1) := by decide +kernel
theorem dL_setSize_8 : decode cL_setSize 8 = .ok (.ldc 26, 2) := by decide +kernel
theorem dL_setSize_10 : decode cL_setSize 10 = .ok (.ireturn, 1) := by decide +kernel
theorem dL_setSize_11 : decode cL_setSize 11 = .ok (.astore_n 3, 1) := by decide +kernel
theorem dL_setSize_12 : decode cL_setSize 12 = .ok (.ldc 17, 2) := by decide +kernel
theorem dL_setSize_14 : decode cL_setSize 14 = .ok (.ireturn, 1) := by decide +kernel
theorem dL_setWeight_0 : decode cL_setWeight 0 = .ok (.aload_n 0, 1) := by decide +kernel
theorem dL_setWeight_1 : decode cL_setWeight 1 = .ok (.iload_n 1, 1) := by decide +kernel
theorem dL_setWeight_2 : decode cL_setWeight 2 = .ok (.iload_n 2, 1) := by decide +kernel
theorem dL_setWeight_3 : decode cL_setWeight 3 = .ok (.iload_n 3, 1) := by decide +kernel
theorem dL_setWeight_4 : decode cL_setWeight 4 = .ok (.iload 4, 2) := by decide +kernel
theorem dL_setWeight_6 : decode cL_setWeight 6 = .ok (.invokevirtual 44, 3) := by decide +kernel
theorem dL_setWeight_9 : decode cL_setWeight 9 = .ok (.ireturn, 1) := by decide +kernel
theorem dL_setWeight_10 : decode cL_setWeight 10 = .ok (.astore 5, 2) := by decide +kernel
theorem dL_setWeight_12 : decode cL_setWeight 12 = .ok (.ldc 26, 2) := by decide +kernel
theorem dL_setWeight_14 : decode cL_setWeight 14 = .ok (.ireturn, 1) := by decide +kernel
theorem dL_setWeight_15 : decode cL_setWeight 15 = .ok (.astore 5, 2) := by decide +kernel
theorem dL_setWeight_17 : decode cL_setWeight 17 = .ok (.ldc 17, 2) := by decide +kernel
theorem dL_setWeight_19 : decode cL_setWeight 19 = .ok (.ireturn, 1) := by decide +kernel
theorem dL_removeEntry_0 : decode cL_removeEntry 0 = .ok (.aload_n 0, 1) := by decide +kernel
theorem dL_removeEntry_1 : decode cL_removeEntry 1 = .ok (.iload_n 1, 1) := by decide +kernel
theorem dL_removeEntry_2 : decode cL_removeEntry 2 = .ok (.iload_n 2, 1) := by decide +kernel
theorem dL_removeEntry_3 : decode cL_removeEntry 3 = .ok (.iload_n 3, 1) := by decide +kernel
theorem dL_removeEntry_4 : decode cL_removeEntry 4 = .ok (.invokevirtual 48, 3) := by decide +kernel
theorem dL_removeEntry_7 : decode cL_removeEntry 7 = .ok (.ireturn, 1) := by decide +kernel
theorem dL_removeEntry_8 : decode cL_removeEntry 8 = .ok (.astore 4, 2) := by decide +kernel
theorem dL_removeEntry_10 : decode cL_removeEntry 10 = .ok (.ldc 26, 2) := by decide +kernel
theorem dL_removeEntry_12 : decode cL_removeEntry 12 = .ok (.ireturn, 1) := by decide +kernel
theorem dL_setTies_0 : decode cL_setTies 0 = .ok (.aload_n 0, 1) := by decide +kernel
theorem dL_setTies_1 : decode cL_setTies 1 = .ok (.iload_n 1, 1) := by decide +kernel
theorem dL_setTies_2 : decode cL_setTies 2 = .ok (.iload_n 2, 1) := by decide +kernel
theorem dL_setTies_3 : decode cL_setTies 3 = .ok (.iload_n 3, 1) := by decide +kernel
theorem dL_setTies_4 : decode cL_setTies 4 = .ok (.invokevirtual 52, 3) := by decide +kernel
theorem dL_setTies_7 : decode cL_setTies 7 = .ok (.ireturn, 1) := by decide +kernel
theorem dL_setTies_8 : decode cL_setTies 8 = .ok (.astore 4, 2) := by decide +kernel
theorem dL_setTies_10 : decode cL_setTies 10 = .ok (.ldc 17, 2) := by decide +kernel
theorem dL_setTies_12 : decode cL_setTies 12 = .ok (.ireturn, 1) := by decide +kernel
theorem dL_variant_0 : decode cL_variant 0 = .ok (.aload_n 0, 1) := by decide +kernel
theorem dL_variant_1 : decode cL_variant 1 = .ok (.iload_n 1, 1) := by decide +kernel
theorem dL_variant_2 : decode cL_variant 2 = .ok (.iload_n 2, 1) := by decide +kernel
theorem dL_variant_3 : decode cL_variant 3 = .ok (.invokevirtual 55, 3) := by decide +kernel
theorem dL_variant_6 : decode cL_variant 6 = .ok (.ireturn, 1) := by decide +kernel
theorem dL_variant_7 : decode cL_variant 7 = .ok (.astore_n 3, 1) := by decide +kernel
theorem dL_variant_8 : decode cL_variant 8 = .ok (.ldc 26, 2) := by decide +kernel
theorem dL_variant_10 : decode cL_variant 10 = .ok (.ireturn, 1) := by decide +kernel
theorem dL_variant_11 : decode cL_variant 11 = .ok (.astore_n 3, 1) := by decide +kernel
theorem dL_variant_12 : decode cL_variant 12 = .ok (.ldc 17, 2) := by decide +kernel
theorem dL_variant_14 : decode cL_variant 14 = .ok (.ireturn, 1) := by decide +kernel
theorem dL_weight_0 : decode cL_weight 0 = .ok (.aload_n 0, 1) := by decide +kernel
theorem dL_weight_1 : decode cL_weight 1 = .ok (.iload_n 1, 1) := by decide +kernel
theorem dL_weight_2 : decode cL_weight 2 = .ok (.iload_n 2, 1) := by decide +kernel
theorem dL_weight_3 : decode cL_weight 3 = .ok (.iload_n 3, 1) := by decide +kernel
theorem dL_weight_4 : decode cL_weight 4 = .ok (.invokevirtual 58, 3) := by decide +kernel
theorem dL_weight_7 : decode cL_weight 7 = .ok (.ireturn, 1) := by decide +kernel
theorem dL_weight_8 : decode cL_weight 8 = .ok (.astore 4, 2) := by decide +kernel
theorem dL_weight_10 : decode cL_weight 10 = .ok (.ldc 26, 2) := by decide +kernel
theorem dL_weight_12 : decode cL_weight 12 = .ok (.ireturn, 1) := by decide +kernel
theorem dL_counting_0 : decode cL_counting 0 = .ok (.aload_n 0, 1) := by decide +kernel
theorem dL_counting_1 : decode cL_counting 1 = .ok (.iload_n 1, 1) := by decide +kernel
theorem dL_counting_2 : decode cL_counting 2 = .ok (.iload_n 2, 1) := by decide +kernel
theorem dL_counting_3 : decode cL_counting 3 = .ok (.iload_n 3, 1) := by decide +kernel
theorem dL_counting_4 : decode cL_counting 4 = .ok (.invokevirtual 61, 3) := by decide +kernel
theorem dL_counting_7 : decode cL_counting 7 = .ok (.ireturn, 1) := by decide +kernel
theorem dL_counting_8 : decode cL_counting 8 = .ok (.astore 4, 2) := by decide +kernel
theorem dL_counting_10 : decode cL_counting 10 = .ok (.ldc 26, 2) := by decide +kernel
theorem dL_counting_12 : decode cL_counting 12 = .ok (.ireturn, 1) := by decide +kernel
theorem dL_entry_0 : decode cL_entry 0 = .ok (.aload_n 0, 1) := by decide +kernel
theorem dL_entry_1 : decode cL_entry 1 = .ok (.iload_n 1, 1) := by decide +kernel
theorem dL_entry_2 : decode cL_entry 2 = .ok (.iload_n 2, 1) := by decide +kernel
theorem dL_entry_3 : decode cL_entry 3 = .ok (.iload_n 3, 1) := by decide +kernel
theorem dL_entry_4 : decode cL_entry 4 = .ok (.iload 4, 2) := by decide +kernel
theorem dL_entry_6 : decode cL_entry 6 = .ok (.invokevirtual 64, 3) := by decide +kernel
theorem dL_entry_9 : decode cL_entry 9 = .ok (.ireturn, 1) := by decide +kernel
theorem dL_entry_10 : decode cL_entry 10 = .ok (.astore 5, 2) := by decide +kernel
theorem dL_entry_12 : decode cL_entry 12 = .ok (.ldc 26, 2) := by decide +kernel
theorem dL_entry_14 : decode cL_entry 14 = .ok (.ireturn, 1) := by decide +kernel
theorem dL_entry_15 : decode cL_entry 15 = .ok (.astore 5, 2) := by decide +kernel
theorem dL_entry_17 : decode cL_entry 17 = .ok (.ldc 17, 2) := by decide +kernel
theorem dL_entry_19 : decode cL_entry 19 = .ok (.ireturn, 1) := by decide +kernel
theorem dL_ranked_0 : decode cL_ranked 0 = .ok (.aload_n 0, 1) := by decide +kernel
theorem dL_ranked_1 : decode cL_ranked 1 = .ok (.iload_n 1, 1) := by decide +kernel
theorem dL_ranked_2 : decode cL_ranked 2 = .ok (.invokevirtual 67, 3) := by decide +kernel
theorem dL_ranked_5 : decode cL_ranked 5 = .ok (.ireturn, 1) := by decide +kernel
theorem dL_ranked_6 : decode cL_ranked 6 = .ok (.astore_n 2, 1) := by decide +kernel
theorem dL_ranked_7 : decode cL_ranked 7 = .ok (.ldc 17, 2) := by decide +kernel
theorem dL_ranked_9 : decode cL_ranked 9 = .ok (.ireturn, 1) := by decide +kernel
theorem dL_whole_0 : decode cL_whole 0 = .ok (.aload_n 0, 1) := by decide +kernel
theorem dL_whole_1 : decode cL_whole 1 = .ok (.iload_n 1, 1) := by decide +kernel
theorem dL_whole_2 : decode cL_whole 2 = .ok (.invokevirtual 70, 3) := by decide +kernel
theorem dL_whole_5 : decode cL_whole 5 = .ok (.ireturn, 1) := by decide +kernel
theorem dL_whole_6 : decode cL_whole 6 = .ok (.astore_n 2, 1) := by decide +kernel
theorem dL_whole_7 : decode cL_whole 7 = .ok (.ldc 17, 2) := by decide +kernel
theorem dL_whole_9 : decode cL_whole 9 = .ok (.ireturn, 1) := by decide +kernel
theorem dL_listed_0 : decode cL_listed 0 = .ok (.aload_n 0, 1) := by decide +kernel
theorem dL_listed_1 : decode cL_listed 1 = .ok (.iload_n 1, 1) := by decide +kernel
theorem dL_listed_2 : decode cL_listed 2 = .ok (.invokevirtual 73, 3) := by decide +kernel
theorem dL_listed_5 : decode cL_listed 5 = .ok (.ireturn, 1) := by decide +kernel
theorem dL_listed_6 : decode cL_listed 6 = .ok (.astore_n 2, 1) := by decide +kernel
theorem dL_listed_7 : decode cL_listed 7 = .ok (.ldc 17, 2) := by decide +kernel
theorem dL_listed_9 : decode cL_listed 9 = .ok (.ireturn, 1) := by decide +kernel
theorem dL_listingByte_0 : decode cL_listingByte 0 = .ok (.aload_n 0, 1) := by decide +kernel
theorem dL_listingByte_1 : decode cL_listingByte 1 = .ok (.iload_n 1, 1) := by decide +kernel
theorem dL_listingByte_2 : decode cL_listingByte 2 = .ok (.invokevirtual 76, 3) := by decide +kernel
theorem dL_listingByte_5 : decode cL_listingByte 5 = .ok (.ireturn, 1) := by decide +kernel
theorem dL_listingByte_6 : decode cL_listingByte 6 = .ok (.astore_n 2, 1) := by decide +kernel
theorem dL_listingByte_7 : decode cL_listingByte 7 = .ok (.ldc 17, 2) := by decide +kernel
theorem dL_listingByte_9 : decode cL_listingByte 9 = .ok (.ireturn, 1) := by decide +kernel
theorem dL_servedFor_0 : decode cL_servedFor 0 = .ok (.aload_n 0, 1) := by decide +kernel
theorem dL_servedFor_1 : decode cL_servedFor 1 = .ok (.iload_n 1, 1) := by decide +kernel
theorem dL_servedFor_2 : decode cL_servedFor 2 = .ok (.invokevirtual 79, 3) := by decide +kernel
theorem dL_servedFor_5 : decode cL_servedFor 5 = .ok (.ireturn, 1) := by decide +kernel
theorem dL_servedFor_6 : decode cL_servedFor 6 = .ok (.astore_n 2, 1) := by decide +kernel
theorem dL_servedFor_7 : decode cL_servedFor 7 = .ok (.ldc 26, 2) := by decide +kernel
theorem dL_servedFor_9 : decode cL_servedFor 9 = .ok (.ireturn, 1) := by decide +kernel
theorem dL_servedWithout_0 : decode cL_servedWithout 0 = .ok (.aload_n 0, 1) := by decide +kernel
theorem dL_servedWithout_1 : decode cL_servedWithout 1 = .ok (.iload_n 1, 1) := by decide +kernel
theorem dL_servedWithout_2 : decode cL_servedWithout 2 = .ok (.invokevirtual 82, 3) := by decide +kernel
theorem dL_servedWithout_5 : decode cL_servedWithout 5 = .ok (.ireturn, 1) := by decide +kernel
theorem dL_servedWithout_6 : decode cL_servedWithout 6 = .ok (.astore_n 2, 1) := by decide +kernel
theorem dL_servedWithout_7 : decode cL_servedWithout 7 = .ok (.ldc 26, 2) := by decide +kernel
theorem dL_servedWithout_9 : decode cL_servedWithout 9 = .ok (.ireturn, 1) := by decide +kernel
theorem dL_leastWeight_0 : decode cL_leastWeight 0 = .ok (.aload_n 0, 1) := by decide +kernel
theorem dL_leastWeight_1 : decode cL_leastWeight 1 = .ok (.iload_n 1, 1) := by decide +kernel
theorem dL_leastWeight_2 : decode cL_leastWeight 2 = .ok (.iload_n 2, 1) := by decide +kernel
theorem dL_leastWeight_3 : decode cL_leastWeight 3 = .ok (.iload_n 3, 1) := by decide +kernel
theorem dL_leastWeight_4 : decode cL_leastWeight 4 = .ok (.iload 4, 2) := by decide +kernel
theorem dL_leastWeight_6 : decode cL_leastWeight 6 = .ok (.invokevirtual 85, 3) := by decide +kernel
theorem dL_leastWeight_9 : decode cL_leastWeight 9 = .ok (.ireturn, 1) := by decide +kernel
theorem dL_leastWeight_10 : decode cL_leastWeight 10 = .ok (.astore 5, 2) := by decide +kernel
theorem dL_leastWeight_12 : decode cL_leastWeight 12 = .ok (.ldc 26, 2) := by decide +kernel
theorem dL_leastWeight_14 : decode cL_leastWeight 14 = .ok (.ireturn, 1) := by decide +kernel
theorem dL_leastQuality_0 : decode cL_leastQuality 0 = .ok (.aload_n 0, 1) := by decide +kernel
theorem dL_leastQuality_1 : decode cL_leastQuality 1 = .ok (.iload_n 1, 1) := by decide +kernel
theorem dL_leastQuality_2 : decode cL_leastQuality 2 = .ok (.invokevirtual 88, 3) := by decide +kernel
theorem dL_leastQuality_5 : decode cL_leastQuality 5 = .ok (.ireturn, 1) := by decide +kernel
theorem dL_leastQuality_6 : decode cL_leastQuality 6 = .ok (.astore_n 2, 1) := by decide +kernel
theorem dL_leastQuality_7 : decode cL_leastQuality 7 = .ok (.ldc 26, 2) := by decide +kernel
theorem dL_leastQuality_9 : decode cL_leastQuality 9 = .ok (.ireturn, 1) := by decide +kernel
theorem dL_undo_0 : decode cL_undo 0 = .ok (.aload_n 0, 1) := by decide +kernel
theorem dL_undo_1 : decode cL_undo 1 = .ok (.invokevirtual 91, 3) := by decide +kernel
theorem dL_undo_4 : decode cL_undo 4 = .ok (.ireturn, 1) := by decide +kernel
theorem dL_undo_5 : decode cL_undo 5 = .ok (.astore_n 1, 1) := by decide +kernel
theorem dL_undo_6 : decode cL_undo 6 = .ok (.ldc 20, 2) := by decide +kernel
theorem dL_undo_8 : decode cL_undo 8 = .ok (.ireturn, 1) := by decide +kernel
theorem dL_sound_0 : decode cL_sound 0 = .ok (.aload_n 0, 1) := by decide +kernel
theorem dL_sound_1 : decode cL_sound 1 = .ok (.iconst 0, 1) := by decide +kernel
theorem dL_sound_2 : decode cL_sound 2 = .ok (.invokestatic 94, 3) := by decide +kernel
theorem dL_sound_5 : decode cL_sound 5 = .ok (.istore_n 1, 1) := by decide +kernel
theorem dL_sound_6 : decode cL_sound 6 = .ok (.iconst 0, 1) := by decide +kernel
theorem dL_sound_7 : decode cL_sound 7 = .ok (.istore_n 2, 1) := by decide +kernel
theorem dL_sound_8 : decode cL_sound 8 = .ok (.iconst 0, 1) := by decide +kernel
theorem dL_sound_9 : decode cL_sound 9 = .ok (.istore_n 3, 1) := by decide +kernel
theorem dL_sound_10 : decode cL_sound 10 = .ok (.iload_n 3, 1) := by decide +kernel
theorem dL_sound_11 : decode cL_sound 11 = .ok (.iload_n 1, 1) := by decide +kernel
theorem dL_sound_12 : decode cL_sound 12 = .ok (.if_icmp .ge 319, 3) := by decide +kernel
theorem dL_sound_15 : decode cL_sound 15 = .ok (.aload_n 0, 1) := by decide +kernel
theorem dL_sound_16 : decode cL_sound 16 = .ok (.iload_n 3, 1) := by decide +kernel
theorem dL_sound_17 : decode cL_sound 17 = .ok (.iconst 1, 1) := by decide +kernel
theorem dL_sound_18 : decode cL_sound 18 = .ok (.invokestatic 99, 3) := by decide +kernel
theorem dL_sound_21 : decode cL_sound 21 = .ok (.istore 4, 2) := by decide +kernel
theorem dL_sound_23 : decode cL_sound 23 = .ok (.iconst 0, 1) := by decide +kernel
theorem dL_sound_24 : decode cL_sound 24 = .ok (.istore 5, 2) := by decide +kernel
theorem dL_sound_26 : decode cL_sound 26 = .ok (.iconst 0, 1) := by decide +kernel
theorem dL_sound_27 : decode cL_sound 27 = .ok (.istore 6, 2) := by decide +kernel
theorem dL_sound_29 : decode cL_sound 29 = .ok (.iload 6, 2) := by decide +kernel
theorem dL_sound_31 : decode cL_sound 31 = .ok (.bipush 6, 2) := by decide +kernel
theorem dL_sound_33 : decode cL_sound 33 = .ok (.if_icmp .ge 135, 3) := by decide +kernel
theorem dL_sound_36 : decode cL_sound 36 = .ok (.aload_n 0, 1) := by decide +kernel
theorem dL_sound_37 : decode cL_sound 37 = .ok (.iload 6, 2) := by decide +kernel
theorem dL_sound_39 : decode cL_sound 39 = .ok (.iconst 3, 1) := by decide +kernel
theorem dL_sound_40 : decode cL_sound 40 = .ok (.idiv, 1) := by decide +kernel
theorem dL_sound_41 : decode cL_sound 41 = .ok (.iload 6, 2) := by decide +kernel
theorem dL_sound_43 : decode cL_sound 43 = .ok (.iconst 3, 1) := by decide +kernel
theorem dL_sound_44 : decode cL_sound 44 = .ok (.irem, 1) := by decide +kernel
theorem dL_sound_45 : decode cL_sound 45 = .ok (.iload_n 3, 1) := by decide +kernel
theorem dL_sound_46 : decode cL_sound 46 = .ok (.invokestatic 102, 3) := by decide +kernel
theorem dL_sound_49 : decode cL_sound 49 = .ok (.istore 7, 2) := by decide +kernel
theorem dL_sound_51 : decode cL_sound 51 = .ok (.aload_n 0, 1) := by decide +kernel
theorem dL_sound_52 : decode cL_sound 52 = .ok (.iload 6, 2) := by decide +kernel
theorem dL_sound_54 : decode cL_sound 54 = .ok (.iconst 3, 1) := by decide +kernel
theorem dL_sound_55 : decode cL_sound 55 = .ok (.idiv, 1) := by decide +kernel
theorem dL_sound_56 : decode cL_sound 56 = .ok (.iload 6, 2) := by decide +kernel
theorem dL_sound_58 : decode cL_sound 58 = .ok (.iconst 3, 1) := by decide +kernel
theorem dL_sound_59 : decode cL_sound 59 = .ok (.irem, 1) := by decide +kernel
theorem dL_sound_60 : decode cL_sound 60 = .ok (.iload_n 3, 1) := by decide +kernel
theorem dL_sound_61 : decode cL_sound 61 = .ok (.invokestatic 105, 3) := by decide +kernel
theorem dL_sound_64 : decode cL_sound 64 = .ok (.istore 8, 2) := by decide +kernel
theorem dL_sound_66 : decode cL_sound 66 = .ok (.iload 4, 2) := by decide +kernel
theorem dL_sound_68 : decode cL_sound 68 = .ok (.iload 7, 2) := by decide +kernel
theorem dL_sound_70 : decode cL_sound 70 = .ok (.imul, 1) := by decide +kernel
theorem dL_sound_71 : decode cL_sound 71 = .ok (.sipush 1000, 3) := by decide +kernel
theorem dL_sound_74 : decode cL_sound 74 = .ok (.idiv, 1) := by decide +kernel
theorem dL_sound_75 : decode cL_sound 75 = .ok (.istore 4, 2) := by decide +kernel
theorem dL_sound_77 : decode cL_sound 77 = .ok (.iload 5, 2) := by decide +kernel
theorem dL_sound_79 : decode cL_sound 79 = .ok (.ifCond .ne 15, 3) := by decide +kernel
theorem dL_sound_82 : decode cL_sound 82 = .ok (.iload 7, 2) := by decide +kernel
theorem dL_sound_84 : decode cL_sound 84 = .ok (.ifCond .ne 10, 3) := by decide +kernel
theorem dL_sound_87 : decode cL_sound 87 = .ok (.iconst 1, 1) := by decide +kernel
theorem dL_sound_88 : decode cL_sound 88 = .ok (.iload 6, 2) := by decide +kernel
theorem dL_sound_90 : decode cL_sound 90 = .ok (.iadd, 1) := by decide +kernel
theorem dL_sound_91 : decode cL_sound 91 = .ok (.goto 5, 3) := by decide +kernel
theorem dL_sound_94 : decode cL_sound 94 = .ok (.iload 5, 2) := by decide +kernel
theorem dL_sound_96 : decode cL_sound 96 = .ok (.istore 5, 2) := by decide +kernel
theorem dL_sound_98 : decode cL_sound 98 = .ok (.iload 7, 2) := by decide +kernel
theorem dL_sound_100 : decode cL_sound 100 = .ok (.ifCond .lt 60, 3) := by decide +kernel
theorem dL_sound_103 : decode cL_sound 103 = .ok (.iload 7, 2) := by decide +kernel
theorem dL_sound_105 : decode cL_sound 105 = .ok (.sipush 1000, 3) := by decide +kernel
theorem dL_sound_108 : decode cL_sound 108 = .ok (.if_icmp .gt 52, 3) := by decide +kernel
theorem dL_sound_111 : decode cL_sound 111 = .ok (.iload 8, 2) := by decide +kernel
theorem dL_sound_113 : decode cL_sound 113 = .ok (.ifCond .lt 23, 3) := by decide +kernel
theorem dL_sound_116 : decode cL_sound 116 = .ok (.aload_n 0, 1) := by decide +kernel
theorem dL_sound_117 : decode cL_sound 117 = .ok (.iload 6, 2) := by decide +kernel
theorem dL_sound_119 : decode cL_sound 119 = .ok (.iconst 3, 1) := by decide +kernel
theorem dL_sound_120 : decode cL_sound 120 = .ok (.idiv, 1) := by decide +kernel
theorem dL_sound_121 : decode cL_sound 121 = .ok (.iload 6, 2) := by decide +kernel
theorem dL_sound_123 : decode cL_sound 123 = .ok (.iconst 3, 1) := by decide +kernel
theorem dL_sound_124 : decode cL_sound 124 = .ok (.irem, 1) := by decide +kernel
theorem dL_sound_125 : decode cL_sound 125 = .ok (.iload 8, 2) := by decide +kernel
theorem dL_sound_127 : decode cL_sound 127 = .ok (.iconst 0, 1) := by decide +kernel
theorem dL_sound_128 : decode cL_sound 128 = .ok (.invokestatic 107, 3) := by decide +kernel
theorem dL_sound_131 : decode cL_sound 131 = .ok (.iload 7, 2) := by decide +kernel
theorem dL_sound_133 : decode cL_sound 133 = .ok (.if_icmp .ne 27, 3) := by decide +kernel
theorem dL_sound_136 : decode cL_sound 136 = .ok (.iload 8, 2) := by decide +kernel
theorem dL_sound_138 : decode cL_sound 138 = .ok (.ifCond .ge 24, 3) := by decide +kernel
theorem dL_sound_141 : decode cL_sound 141 = .ok (.iload 8, 2) := by decide +kernel
theorem dL_sound_143 : decode cL_sound 143 = .ok (.iconst (-1), 1) := by decide +kernel
theorem dL_sound_144 : decode cL_sound 144 = .ok (.if_icmp .ne 16, 3) := by decide +kernel
theorem dL_sound_147 : decode cL_sound 147 = .ok (.iload 7, 2) := by decide +kernel
theorem dL_sound_149 : decode cL_sound 149 = .ok (.ifCond .eq 13, 3) := by decide +kernel
theorem dL_sound_152 : decode cL_sound 152 = .ok (.iload 7, 2) := by decide +kernel
theorem dL_sound_154 : decode cL_sound 154 = .ok (.sipush 1000, 3) := by decide +kernel
theorem dL_sound_157 : decode cL_sound 157 = .ok (.if_icmp .eq 5, 3) := by decide +kernel
theorem dL_sound_160 : decode cL_sound 160 = .ok (.iconst 0, 1) := by decide +kernel
theorem dL_sound_161 : decode cL_sound 161 = .ok (.ireturn, 1) := by decide +kernel
theorem dL_sound_162 : decode cL_sound 162 = .ok (.iinc 6 1, 3) := by decide +kernel
theorem dL_sound_165 : decode cL_sound 165 = .ok (.goto (-136), 3) := by decide +kernel
theorem dL_sound_168 : decode cL_sound 168 = .ok (.iload 4, 2) := by decide +kernel
theorem dL_sound_170 : decode cL_sound 170 = .ok (.ifCond .le 7, 3) := by decide +kernel
theorem dL_sound_173 : decode cL_sound 173 = .ok (.iconst 0, 1) := by decide +kernel
theorem dL_sound_174 : decode cL_sound 174 = .ok (.goto 29, 3) := by decide +kernel
theorem dL_sound_177 : decode cL_sound 177 = .ok (.iload 5, 2) := by decide +kernel
theorem dL_sound_179 : decode cL_sound 179 = .ok (.ifCond .le 8, 3) := by decide +kernel
theorem dL_sound_182 : decode cL_sound 182 = .ok (.iload 5, 2) := by decide +kernel
theorem dL_sound_184 : decode cL_sound 184 = .ok (.goto 19, 3) := by decide +kernel
theorem dL_sound_187 : decode cL_sound 187 = .ok (.aload_n 0, 1) := by decide +kernel
theorem dL_sound_188 : decode cL_sound 188 = .ok (.iload_n 3, 1) := by decide +kernel
theorem dL_sound_189 : decode cL_sound 189 = .ok (.iconst 1, 1) := by decide +kernel
theorem dL_sound_190 : decode cL_sound 190 = .ok (.invokestatic 99, 3) := by decide +kernel
theorem dL_sound_193 : decode cL_sound 193 = .ok (.ifCond .ne 8, 3) := by decide +kernel
theorem dL_sound_196 : decode cL_sound 196 = .ok (.bipush 7, 2) := by decide +kernel
theorem dL_sound_198 : decode cL_sound 198 = .ok (.goto 5, 3) := by decide +kernel
theorem dL_sound_201 : decode cL_sound 201 = .ok (.bipush 8, 2) := by decide +kernel
theorem dL_sound_203 : decode cL_sound 203 = .ok (.istore 5, 2) := by decide +kernel
theorem dL_sound_205 : decode cL_sound 205 = .ok (.aload_n 0, 1) := by decide +kernel
theorem dL_sound_206 : decode cL_sound 206 = .ok (.iload_n 3, 1) := by decide +kernel
theorem dL_sound_207 : decode cL_sound 207 = .ok (.iconst 4, 1) := by decide +kernel
theorem dL_sound_208 : decode cL_sound 208 = .ok (.invokestatic 99, 3) := by decide +kernel
theorem dL_sound_211 : decode cL_sound 211 = .ok (.istore 6, 2) := by decide +kernel
theorem dL_sound_213 : decode cL_sound 213 = .ok (.iload_n 2, 1) := by decide +kernel
theorem dL_sound_214 : decode cL_sound 214 = .ok (.iload 4, 2) := by decide +kernel
theorem dL_sound_216 : decode cL_sound 216 = .ok (.ifCond .le 7, 3) := by decide +kernel
theorem dL_sound_219 : decode cL_sound 219 = .ok (.iconst 1, 1) := by decide +kernel
theorem dL_sound_220 : decode cL_sound 220 = .ok (.goto 4, 3) := by decide +kernel
theorem dL_sound_223 : decode cL_sound 223 = .ok (.iconst 0, 1) := by decide +kernel
theorem dL_sound_224 : decode cL_sound 224 = .ok (.iadd, 1) := by decide +kernel
theorem dL_sound_225 : decode cL_sound 225 = .ok (.istore_n 2, 1) := by decide +kernel
theorem dL_sound_226 : decode cL_sound 226 = .ok (.aload_n 0, 1) := by decide +kernel
theorem dL_sound_227 : decode cL_sound 227 = .ok (.iload_n 3, 1) := by decide +kernel
theorem dL_sound_228 : decode cL_sound 228 = .ok (.iconst 2, 1) := by decide +kernel
theorem dL_sound_229 : decode cL_sound 229 = .ok (.invokestatic 99, 3) := by decide +kernel
theorem dL_sound_232 : decode cL_sound 232 = .ok (.iload 4, 2) := by decide +kernel
theorem dL_sound_234 : decode cL_sound 234 = .ok (.if_icmp .ne 89, 3) := by decide +kernel
theorem dL_sound_237 : decode cL_sound 237 = .ok (.aload_n 0, 1) := by decide +kernel
theorem dL_sound_238 : decode cL_sound 238 = .ok (.iload_n 3, 1) := by decide +kernel
theorem dL_sound_239 : decode cL_sound 239 = .ok (.iconst 3, 1) := by decide +kernel
theorem dL_sound_240 : decode cL_sound 240 = .ok (.invokestatic 99, 3) := by decide +kernel
theorem dL_sound_243 : decode cL_sound 243 = .ok (.iload 5, 2) := by decide +kernel
theorem dL_sound_245 : decode cL_sound 245 = .ok (.if_icmp .ne 78, 3) := by decide +kernel
theorem dL_sound_248 : decode cL_sound 248 = .ok (.iload 6, 2) := by decide +kernel
theorem dL_sound_250 : decode cL_sound 250 = .ok (.iconst (-1), 1) := by decide +kernel
theorem dL_sound_251 : decode cL_sound 251 = .ok (.if_icmp .ne 7, 3) := by decide +kernel
theorem dL_sound_254 : decode cL_sound 254 = .ok (.iconst 1, 1) := by decide +kernel
theorem dL_sound_255 : decode cL_sound 255 = .ok (.goto 4, 3) := by decide +kernel
theorem dL_sound_258 : decode cL_sound 258 = .ok (.iconst 0, 1) := by decide +kernel
theorem dL_sound_259 : decode cL_sound 259 = .ok (.iload 4, 2) := by decide +kernel
theorem dL_sound_261 : decode cL_sound 261 = .ok (.ifCond .ne 7, 3) := by decide +kernel
theorem dL_sound_264 : decode cL_sound 264 = .ok (.iconst 1, 1) := by decide +kernel
theorem dL_sound_265 : decode cL_sound 265 = .ok (.goto 4, 3) := by decide +kernel
theorem dL_sound_268 : decode cL_sound 268 = .ok (.iconst 0, 1) := by decide +kernel
theorem dL_sound_269 : decode cL_sound 269 = .ok (.if_icmp .ne 54, 3) := by decide +kernel
theorem dL_sound_272 : decode cL_sound 272 = .ok (.iload 6, 2) := by decide +kernel
theorem dL_sound_274 : decode cL_sound 274 = .ok (.ifCond .lt 13, 3) := by decide +kernel
theorem dL_sound_277 : decode cL_sound 277 = .ok (.aload_n 0, 1) := by decide +kernel
theorem dL_sound_278 : decode cL_sound 278 = .ok (.iload 6, 2) := by decide +kernel
theorem dL_sound_280 : decode cL_sound 280 = .ok (.invokestatic 110, 3) := by decide +kernel
theorem dL_sound_283 : decode cL_sound 283 = .ok (.iload_n 3, 1) := by decide +kernel
theorem dL_sound_284 : decode cL_sound 284 = .ok (.if_icmp .ne 39, 3) := by decide +kernel
theorem dL_sound_287 : decode cL_sound 287 = .ok (.aload_n 0, 1) := by decide +kernel
theorem dL_sound_288 : decode cL_sound 288 = .ok (.aload_n 0, 1) := by decide +kernel
theorem dL_sound_289 : decode cL_sound 289 = .ok (.iload_n 3, 1) := by decide +kernel
theorem dL_sound_290 : decode cL_sound 290 = .ok (.iconst 5, 1) := by decide +kernel
theorem dL_sound_291 : decode cL_sound 291 = .ok (.invokestatic 99, 3) := by decide +kernel
theorem dL_sound_294 : decode cL_sound 294 = .ok (.invokestatic 112, 3) := by decide +kernel
theorem dL_sound_297 : decode cL_sound 297 = .ok (.iload_n 3, 1) := by decide +kernel
theorem dL_sound_298 : decode cL_sound 298 = .ok (.if_icmp .ne 25, 3) := by decide +kernel
theorem dL_sound_301 : decode cL_sound 301 = .ok (.aload_n 0, 1) := by decide +kernel
theorem dL_sound_302 : decode cL_sound 302 = .ok (.iload_n 3, 1) := by decide +kernel
theorem dL_sound_303 : decode cL_sound 303 = .ok (.bipush 6, 2) := by decide +kernel
theorem dL_sound_305 : decode cL_sound 305 = .ok (.invokestatic 99, 3) := by decide +kernel
theorem dL_sound_308 : decode cL_sound 308 = .ok (.iconst 1, 1) := by decide +kernel
theorem dL_sound_309 : decode cL_sound 309 = .ok (.if_icmp .lt 14, 3) := by decide +kernel
theorem dL_sound_312 : decode cL_sound 312 = .ok (.aload_n 0, 1) := by decide +kernel
theorem dL_sound_313 : decode cL_sound 313 = .ok (.iload_n 3, 1) := by decide +kernel
theorem dL_sound_314 : decode cL_sound 314 = .ok (.bipush 6, 2) := by decide +kernel
theorem dL_sound_316 : decode cL_sound 316 = .ok (.invokestatic 99, 3) := by decide +kernel
theorem dL_sound_319 : decode cL_sound 319 = .ok (.iconst 3, 1) := by decide +kernel
theorem dL_sound_320 : decode cL_sound 320 = .ok (.if_icmp .le 5, 3) := by decide +kernel
theorem dL_sound_323 : decode cL_sound 323 = .ok (.iconst 0, 1) := by decide +kernel
theorem dL_sound_324 : decode cL_sound 324 = .ok (.ireturn, 1) := by decide +kernel
theorem dL_sound_325 : decode cL_sound 325 = .ok (.iinc 3 1, 3) := by decide +kernel
theorem dL_sound_328 : decode cL_sound 328 = .ok (.goto (-318), 3) := by decide +kernel
theorem dL_sound_331 : decode cL_sound 331 = .ok (.iconst 1, 1) := by decide +kernel
theorem dL_sound_332 : decode cL_sound 332 = .ok (.istore_n 3, 1) := by decide +kernel
theorem dL_sound_333 : decode cL_sound 333 = .ok (.iload_n 3, 1) := by decide +kernel
theorem dL_sound_334 : decode cL_sound 334 = .ok (.iload_n 2, 1) := by decide +kernel
theorem dL_sound_335 : decode cL_sound 335 = .ok (.if_icmp .ge 221, 3) := by decide +kernel
theorem dL_sound_338 : decode cL_sound 338 = .ok (.aload_n 0, 1) := by decide +kernel
theorem dL_sound_339 : decode cL_sound 339 = .ok (.iload_n 3, 1) := by decide +kernel
theorem dL_sound_340 : decode cL_sound 340 = .ok (.iconst 1, 1) := by decide +kernel
theorem dL_sound_341 : decode cL_sound 341 = .ok (.isub, 1) := by decide +kernel
theorem dL_sound_342 : decode cL_sound 342 = .ok (.invokestatic 110, 3) := by decide +kernel
theorem dL_sound_345 : decode cL_sound 345 = .ok (.istore 4, 2) := by decide +kernel
theorem dL_sound_347 : decode cL_sound 347 = .ok (.aload_n 0, 1) := by decide +kernel
theorem dL_sound_348 : decode cL_sound 348 = .ok (.iload_n 3, 1) := by decide +kernel
theorem dL_sound_349 : decode cL_sound 349 = .ok (.invokestatic 110, 3) := by decide +kernel
theorem dL_sound_352 : decode cL_sound 352 = .ok (.istore 5, 2) := by decide +kernel
theorem dL_sound_354 : decode cL_sound 354 = .ok (.aload_n 0, 1) := by decide +kernel
theorem dL_sound_355 : decode cL_sound 355 = .ok (.iload 4, 2) := by decide +kernel
theorem dL_sound_357 : decode cL_sound 357 = .ok (.iconst 2, 1) := by decide +kernel
theorem dL_sound_358 : decode cL_sound 358 = .ok (.invokestatic 99, 3) := by decide +kernel
theorem dL_sound_361 : decode cL_sound 361 = .ok (.aload_n 0, 1) := by decide +kernel
theorem dL_sound_362 : decode cL_sound 362 = .ok (.iload 5, 2) := by decide +kernel
theorem dL_sound_364 : decode cL_sound 364 = .ok (.iconst 2, 1) := by decide +kernel
theorem dL_sound_365 : decode cL_sound 365 = .ok (.invokestatic 99, 3) := by decide +kernel
theorem dL_sound_368 : decode cL_sound 368 = .ok (.if_icmp .ne 7, 3) := by decide +kernel
theorem dL_sound_371 : decode cL_sound 371 = .ok (.iconst 1, 1) := by decide +kernel
theorem dL_sound_372 : decode cL_sound 372 = .ok (.goto 4, 3) := by decide +kernel
theorem dL_sound_375 : decode cL_sound 375 = .ok (.iconst 0, 1) := by decide +kernel
theorem dL_sound_376 : decode cL_sound 376 = .ok (.istore 6, 2) := by decide +kernel
theorem dL_sound_378 : decode cL_sound 378 = .ok (.aload_n 0, 1) := by decide +kernel
theorem dL_sound_379 : decode cL_sound 379 = .ok (.bipush 7, 2) := by decide +kernel
theorem dL_sound_381 : decode cL_sound 381 = .ok (.invokestatic 94, 3) := by decide +kernel
theorem dL_sound_384 : decode cL_sound 384 = .ok (.istore 7, 2) := by decide +kernel
theorem dL_sound_386 : decode cL_sound 386 = .ok (.iload 7, 2) := by decide +kernel
theorem dL_sound_388 : decode cL_sound 388 = .ok (.iconst 1, 1) := by decide +kernel
theorem dL_sound_389 : decode cL_sound 389 = .ok (.if_icmp .ne 21, 3) := by decide +kernel
theorem dL_sound_392 : decode cL_sound 392 = .ok (.aload_n 0, 1) := by decide +kernel
theorem dL_sound_393 : decode cL_sound 393 = .ok (.iload 4, 2) := by decide +kernel
theorem dL_sound_395 : decode cL_sound 395 = .ok (.iconst 0, 1) := by decide +kernel
theorem dL_sound_396 : decode cL_sound 396 = .ok (.invokestatic 99, 3) := by decide +kernel
theorem dL_sound_399 : decode cL_sound 399 = .ok (.aload_n 0, 1) := by decide +kernel
theorem dL_sound_400 : decode cL_sound 400 = .ok (.iload 5, 2) := by decide +kernel
theorem dL_sound_402 : decode cL_sound 402 = .ok (.iconst 0, 1) := by decide +kernel
theorem dL_sound_403 : decode cL_sound 403 = .ok (.invokestatic 99, 3) := by decide +kernel
theorem dL_sound_406 : decode cL_sound 406 = .ok (.isub, 1) := by decide +kernel
theorem dL_sound_407 : decode cL_sound 407 = .ok (.goto 77, 3) := by decide +kernel
theorem dL_sound_410 : decode cL_sound 410 = .ok (.iload 7, 2) := by decide +kernel
theorem dL_sound_412 : decode cL_sound 412 = .ok (.iconst 2, 1) := by decide +kernel
theorem dL_sound_413 : decode cL_sound 413 = .ok (.if_icmp .ne 21, 3) := by decide +kernel
theorem dL_sound_416 : decode cL_sound 416 = .ok (.aload_n 0, 1) := by decide +kernel
theorem dL_sound_417 : decode cL_sound 417 = .ok (.iload 5, 2) := by decide +kernel
theorem dL_sound_419 : decode cL_sound 419 = .ok (.iconst 0, 1) := by decide +kernel
theorem dL_sound_420 : decode cL_sound 420 = .ok (.invokestatic 99, 3) := by decide +kernel
theorem dL_sound_423 : decode cL_sound 423 = .ok (.aload_n 0, 1) := by decide +kernel
theorem dL_sound_424 : decode cL_sound 424 = .ok (.iload 4, 2) := by decide +kernel
theorem dL_sound_426 : decode cL_sound 426 = .ok (.iconst 0, 1) := by decide +kernel
theorem dL_sound_427 : decode cL_sound 427 = .ok (.invokestatic 99, 3) := by decide +kernel
theorem dL_sound_430 : decode cL_sound 430 = .ok (.isub, 1) := by decide +kernel
theorem dL_sound_431 : decode cL_sound 431 = .ok (.goto 53, 3) := by decide +kernel
theorem dL_sound_434 : decode cL_sound 434 = .ok (.iload 7, 2) := by decide +kernel
theorem dL_sound_436 : decode cL_sound 436 = .ok (.iconst 5, 1) := by decide +kernel
theorem dL_sound_437 : decode cL_sound 437 = .ok (.if_icmp .ne 21, 3) := by decide +kernel
theorem dL_sound_440 : decode cL_sound 440 = .ok (.aload_n 0, 1) := by decide +kernel
theorem dL_sound_441 : decode cL_sound 441 = .ok (.iload 5, 2) := by decide +kernel
theorem dL_sound_443 : decode cL_sound 443 = .ok (.iconst 1, 1) := by decide +kernel
theorem dL_sound_444 : decode cL_sound 444 = .ok (.invokestatic 99, 3) := by decide +kernel
theorem dL_sound_447 : decode cL_sound 447 = .ok (.aload_n 0, 1) := by decide +kernel
theorem dL_sound_448 : decode cL_sound 448 = .ok (.iload 4, 2) := by decide +kernel
theorem dL_sound_450 : decode cL_sound 450 = .ok (.iconst 1, 1) := by decide +kernel
theorem dL_sound_451 : decode cL_sound 451 = .ok (.invokestatic 99, 3) := by decide +kernel
theorem dL_sound_454 : decode cL_sound 454 = .ok (.isub, 1) := by decide +kernel
theorem dL_sound_455 : decode cL_sound 455 = .ok (.goto 29, 3) := by decide +kernel
theorem dL_sound_458 : decode cL_sound 458 = .ok (.iload 7, 2) := by decide +kernel
theorem dL_sound_460 : decode cL_sound 460 = .ok (.ifCond .ne 7, 3) := by decide +kernel
theorem dL_sound_463 : decode cL_sound 463 = .ok (.iconst 0, 1) := by decide +kernel
theorem dL_sound_464 : decode cL_sound 464 = .ok (.goto 20, 3) := by decide +kernel
theorem dL_sound_467 : decode cL_sound 467 = .ok (.aload_n 0, 1) := by decide +kernel
theorem dL_sound_468 : decode cL_sound 468 = .ok (.iload 7, 2) := by decide +kernel
theorem dL_sound_470 : decode cL_sound 470 = .ok (.iload 4, 2) := by decide +kernel
theorem dL_sound_472 : decode cL_sound 472 = .ok (.invokestatic 114, 3) := by decide +kernel
theorem dL_sound_475 : decode cL_sound 475 = .ok (.aload_n 0, 1) := by decide +kernel
theorem dL_sound_476 : decode cL_sound 476 = .ok (.iload 7, 2) := by decide +kernel
theorem dL_sound_478 : decode cL_sound 478 = .ok (.iload 5, 2) := by decide +kernel
theorem dL_sound_480 : decode cL_sound 480 = .ok (.invokestatic 114, 3) := by decide +kernel
theorem dL_sound_483 : decode cL_sound 483 = .ok (.isub, 1) := by decide +kernel
theorem dL_sound_484 : decode cL_sound 484 = .ok (.istore 8, 2) := by decide +kernel
theorem dL_sound_486 : decode cL_sound 486 = .ok (.aload_n 0, 1) := by decide +kernel
theorem dL_sound_487 : decode cL_sound 487 = .ok (.iload 4, 2) := by decide +kernel
theorem dL_sound_489 : decode cL_sound 489 = .ok (.iconst 2, 1) := by decide +kernel
theorem dL_sound_490 : decode cL_sound 490 = .ok (.invokestatic 99, 3) := by decide +kernel
theorem dL_sound_493 : decode cL_sound 493 = .ok (.aload_n 0, 1) := by decide +kernel
theorem dL_sound_494 : decode cL_sound 494 = .ok (.iload 5, 2) := by decide +kernel
theorem dL_sound_496 : decode cL_sound 496 = .ok (.iconst 2, 1) := by decide +kernel
theorem dL_sound_497 : decode cL_sound 497 = .ok (.invokestatic 99, 3) := by decide +kernel
theorem dL_sound_500 : decode cL_sound 500 = .ok (.if_icmp .lt 48, 3) := by decide +kernel
theorem dL_sound_503 : decode cL_sound 503 = .ok (.iload 6, 2) := by decide +kernel
theorem dL_sound_505 : decode cL_sound 505 = .ok (.ifCond .eq 8, 3) := by decide +kernel
theorem dL_sound_508 : decode cL_sound 508 = .ok (.iload 8, 2) := by decide +kernel
theorem dL_sound_510 : decode cL_sound 510 = .ok (.ifCond .gt 38, 3) := by decide +kernel
theorem dL_sound_513 : decode cL_sound 513 = .ok (.iload 6, 2) := by decide +kernel
theorem dL_sound_515 : decode cL_sound 515 = .ok (.ifCond .eq 35, 3) := by decide +kernel
theorem dL_sound_518 : decode cL_sound 518 = .ok (.iload 8, 2) := by decide +kernel
theorem dL_sound_520 : decode cL_sound 520 = .ok (.ifCond .ne 30, 3) := by decide +kernel
theorem dL_sound_523 : decode cL_sound 523 = .ok (.aload_n 0, 1) := by decide +kernel
theorem dL_sound_524 : decode cL_sound 524 = .ok (.bipush 8, 2) := by decide +kernel
theorem dL_sound_526 : decode cL_sound 526 = .ok (.invokestatic 94, 3) := by decide +kernel
theorem dL_sound_529 : decode cL_sound 529 = .ok (.ifCond .ne 21, 3) := by decide +kernel
theorem dL_sound_532 : decode cL_sound 532 = .ok (.aload_n 0, 1) := by decide +kernel
theorem dL_sound_533 : decode cL_sound 533 = .ok (.bipush 9, 2) := by decide +kernel
theorem dL_sound_535 : decode cL_sound 535 = .ok (.invokestatic 94, 3) := by decide +kernel
theorem dL_sound_538 : decode cL_sound 538 = .ok (.ifCond .ne 12, 3) := by decide +kernel
theorem dL_sound_541 : decode cL_sound 541 = .ok (.iload 4, 2) := by decide +kernel
theorem dL_sound_543 : decode cL_sound 543 = .ok (.iload 5, 2) := by decide +kernel
theorem dL_sound_545 : decode cL_sound 545 = .ok (.if_icmp .le 5, 3) := by decide +kernel
theorem dL_sound_548 : decode cL_sound 548 = .ok (.iconst 0, 1) := by decide +kernel
theorem dL_sound_549 : decode cL_sound 549 = .ok (.ireturn, 1) := by decide +kernel
theorem dL_sound_550 : decode cL_sound 550 = .ok (.iinc 3 1, 3) := by decide +kernel
theorem dL_sound_553 : decode cL_sound 553 = .ok (.goto (-220), 3) := by decide +kernel
theorem dL_sound_556 : decode cL_sound 556 = .ok (.aload_n 0, 1) := by decide +kernel
theorem dL_sound_557 : decode cL_sound 557 = .ok (.iconst 2, 1) := by decide +kernel
theorem dL_sound_558 : decode cL_sound 558 = .ok (.invokestatic 94, 3) := by decide +kernel
theorem dL_sound_561 : decode cL_sound 561 = .ok (.istore_n 3, 1) := by decide +kernel
theorem dL_sound_562 : decode cL_sound 562 = .ok (.aload_n 0, 1) := by decide +kernel
theorem dL_sound_563 : decode cL_sound 563 = .ok (.iconst 1, 1) := by decide +kernel
theorem dL_sound_564 : decode cL_sound 564 = .ok (.invokestatic 94, 3) := by decide +kernel
theorem dL_sound_567 : decode cL_sound 567 = .ok (.iload_n 2, 1) := by decide +kernel
theorem dL_sound_568 : decode cL_sound 568 = .ok (.if_icmp .ne 81, 3) := by decide +kernel
theorem dL_sound_571 : decode cL_sound 571 = .ok (.aload_n 0, 1) := by decide +kernel
theorem dL_sound_572 : decode cL_sound 572 = .ok (.iload_n 2, 1) := by decide +kernel
theorem dL_sound_573 : decode cL_sound 573 = .ok (.invokestatic 110, 3) := by decide +kernel
theorem dL_sound_576 : decode cL_sound 576 = .ok (.iconst (-1), 1) := by decide +kernel
theorem dL_sound_577 : decode cL_sound 577 = .ok (.if_icmp .ne 72, 3) := by decide +kernel
theorem dL_sound_580 : decode cL_sound 580 = .ok (.aload_n 0, 1) := by decide +kernel
theorem dL_sound_581 : decode cL_sound 581 = .ok (.iload_n 1, 1) := by decide +kernel
theorem dL_sound_582 : decode cL_sound 582 = .ok (.invokestatic 112, 3) := by decide +kernel
theorem dL_sound_585 : decode cL_sound 585 = .ok (.iconst (-1), 1) := by decide +kernel
theorem dL_sound_586 : decode cL_sound 586 = .ok (.if_icmp .ne 63, 3) := by decide +kernel
theorem dL_sound_589 : decode cL_sound 589 = .ok (.iload_n 3, 1) := by decide +kernel
theorem dL_sound_590 : decode cL_sound 590 = .ok (.aload_n 0, 1) := by decide +kernel
theorem dL_sound_591 : decode cL_sound 591 = .ok (.iconst 0, 1) := by decide +kernel
theorem dL_sound_592 : decode cL_sound 592 = .ok (.invokestatic 110, 3) := by decide +kernel
theorem dL_sound_595 : decode cL_sound 595 = .ok (.if_icmp .ne 54, 3) := by decide +kernel
theorem dL_sound_598 : decode cL_sound 598 = .ok (.aload_n 0, 1) := by decide +kernel
theorem dL_sound_599 : decode cL_sound 599 = .ok (.iconst 3, 1) := by decide +kernel
theorem dL_sound_600 : decode cL_sound 600 = .ok (.invokestatic 94, 3) := by decide +kernel
theorem dL_sound_603 : decode cL_sound 603 = .ok (.iload_n 3, 1) := by decide +kernel
theorem dL_sound_604 : decode cL_sound 604 = .ok (.ifCond .ge 7, 3) := by decide +kernel
theorem dL_sound_607 : decode cL_sound 607 = .ok (.iconst 0, 1) := by decide +kernel
theorem dL_sound_608 : decode cL_sound 608 = .ok (.goto 9, 3) := by decide +kernel
theorem dL_sound_611 : decode cL_sound 611 = .ok (.aload_n 0, 1) := by decide +kernel
theorem dL_sound_612 : decode cL_sound 612 = .ok (.iload_n 3, 1) := by decide +kernel
theorem dL_sound_613 : decode cL_sound 613 = .ok (.iconst 2, 1) := by decide +kernel
theorem dL_sound_614 : decode cL_sound 614 = .ok (.invokestatic 99, 3) := by decide +kernel
theorem dL_sound_617 : decode cL_sound 617 = .ok (.if_icmp .ne 32, 3) := by decide +kernel
theorem dL_sound_620 : decode cL_sound 620 = .ok (.aload_n 0, 1) := by decide +kernel
theorem dL_sound_621 : decode cL_sound 621 = .ok (.invokevirtual 117, 3) := by decide +kernel
theorem dL_sound_624 : decode cL_sound 624 = .ok (.aload_n 0, 1) := by decide +kernel
theorem dL_sound_625 : decode cL_sound 625 = .ok (.iconst 0, 1) := by decide +kernel
theorem dL_sound_626 : decode cL_sound 626 = .ok (.invokestatic 121, 3) := by decide +kernel
theorem dL_sound_629 : decode cL_sound 629 = .ok (.aload_n 0, 1) := by decide +kernel
theorem dL_sound_630 : decode cL_sound 630 = .ok (.iconst 1, 1) := by decide +kernel
theorem dL_sound_631 : decode cL_sound 631 = .ok (.invokestatic 121, 3) := by decide +kernel
theorem dL_sound_634 : decode cL_sound 634 = .ok (.if_icmp .ne 7, 3) := by decide +kernel
theorem dL_sound_637 : decode cL_sound 637 = .ok (.iconst 1, 1) := by decide +kernel
theorem dL_sound_638 : decode cL_sound 638 = .ok (.goto 4, 3) := by decide +kernel
theorem dL_sound_641 : decode cL_sound 641 = .ok (.iconst 0, 1) := by decide +kernel
theorem dL_sound_642 : decode cL_sound 642 = .ok (.if_icmp .ne 7, 3) := by decide +kernel
theorem dL_sound_645 : decode cL_sound 645 = .ok (.iconst 1, 1) := by decide +kernel
theorem dL_sound_646 : decode cL_sound 646 = .ok (.goto 4, 3) := by decide +kernel
theorem dL_sound_649 : decode cL_sound 649 = .ok (.iconst 0, 1) := by decide +kernel
theorem dL_sound_650 : decode cL_sound 650 = .ok (.ireturn, 1) := by decide +kernel
theorem dL_place_0 : decode cL_place 0 = .ok (.aload_n 0, 1) := by decide +kernel
theorem dL_place_1 : decode cL_place 1 = .ok (.iconst 0, 1) := by decide +kernel
theorem dL_place_2 : decode cL_place 2 = .ok (.iload_n 1, 1) := by decide +kernel
theorem dL_place_3 : decode cL_place 3 = .ok (.iconst 3, 1) := by decide +kernel
theorem dL_place_4 : decode cL_place 4 = .ok (.isub, 1) := by decide +kernel
theorem dL_place_5 : decode cL_place 5 = .ok (.iload_n 2, 1) := by decide +kernel
theorem dL_place_6 : decode cL_place 6 = .ok (.invokestatic 105, 3) := by decide +kernel
theorem dL_place_9 : decode cL_place 9 = .ok (.istore_n 3, 1) := by decide +kernel
theorem dL_place_10 : decode cL_place 10 = .ok (.iload_n 3, 1) := by decide +kernel
theorem dL_place_11 : decode cL_place 11 = .ok (.ifCond .ge 8, 3) := by decide +kernel
theorem dL_place_14 : decode cL_place 14 = .ok (.bipush 100, 2) := by decide +kernel
theorem dL_place_16 : decode cL_place 16 = .ok (.goto 4, 3) := by decide +kernel
theorem dL_place_19 : decode cL_place 19 = .ok (.iload_n 3, 1) := by decide +kernel
theorem dL_place_20 : decode cL_place 20 = .ok (.ireturn, 1) := by decide +kernel
theorem dL_lists_0 : decode cL_lists 0 = .ok (.aload_n 0, 1) := by decide +kernel
theorem dL_lists_1 : decode cL_lists 1 = .ok (.iconst 0, 1) := by decide +kernel
theorem dL_lists_2 : decode cL_lists 2 = .ok (.invokestatic 94, 3) := by decide +kernel
theorem dL_lists_5 : decode cL_lists 5 = .ok (.istore_n 1, 1) := by decide +kernel
theorem dL_lists_6 : decode cL_lists 6 = .ok (.iconst 0, 1) := by decide +kernel
theorem dL_lists_7 : decode cL_lists 7 = .ok (.istore_n 2, 1) := by decide +kernel
theorem dL_lists_8 : decode cL_lists 8 = .ok (.iload_n 2, 1) := by decide +kernel
theorem dL_lists_9 : decode cL_lists 9 = .ok (.bipush 6, 2) := by decide +kernel
theorem dL_lists_11 : decode cL_lists 11 = .ok (.if_icmp .ge 298, 3) := by decide +kernel
theorem dL_lists_14 : decode cL_lists 14 = .ok (.iconst 0, 1) := by decide +kernel
theorem dL_lists_15 : decode cL_lists 15 = .ok (.istore_n 3, 1) := by decide +kernel
theorem dL_lists_16 : decode cL_lists 16 = .ok (.iconst 0, 1) := by decide +kernel
theorem dL_lists_17 : decode cL_lists 17 = .ok (.istore 4, 2) := by decide +kernel
theorem dL_lists_19 : decode cL_lists 19 = .ok (.iconst 0, 1) := by decide +kernel
theorem dL_lists_20 : decode cL_lists 20 = .ok (.istore 5, 2) := by decide +kernel
theorem dL_lists_22 : decode cL_lists 22 = .ok (.aload_n 0, 1) := by decide +kernel
theorem dL_lists_23 : decode cL_lists 23 = .ok (.iload_n 2, 1) := by decide +kernel
theorem dL_lists_24 : decode cL_lists 24 = .ok (.iconst 3, 1) := by decide +kernel
theorem dL_lists_25 : decode cL_lists 25 = .ok (.idiv, 1) := by decide +kernel
theorem dL_lists_26 : decode cL_lists 26 = .ok (.iload_n 2, 1) := by decide +kernel
theorem dL_lists_27 : decode cL_lists 27 = .ok (.iconst 3, 1) := by decide +kernel
theorem dL_lists_28 : decode cL_lists 28 = .ok (.irem, 1) := by decide +kernel
theorem dL_lists_29 : decode cL_lists 29 = .ok (.iload 5, 2) := by decide +kernel
theorem dL_lists_31 : decode cL_lists 31 = .ok (.iconst 0, 1) := by decide +kernel
theorem dL_lists_32 : decode cL_lists 32 = .ok (.invokestatic 107, 3) := by decide +kernel
theorem dL_lists_35 : decode cL_lists 35 = .ok (.ifCond .lt 187, 3) := by decide +kernel
theorem dL_lists_38 : decode cL_lists 38 = .ok (.aload_n 0, 1) := by decide +kernel
theorem dL_lists_39 : decode cL_lists 39 = .ok (.iload_n 2, 1) := by decide +kernel
theorem dL_lists_40 : decode cL_lists 40 = .ok (.iconst 3, 1) := by decide +kernel
theorem dL_lists_41 : decode cL_lists 41 = .ok (.idiv, 1) := by decide +kernel
theorem dL_lists_42 : decode cL_lists 42 = .ok (.iload_n 2, 1) := by decide +kernel
theorem dL_lists_43 : decode cL_lists 43 = .ok (.iconst 3, 1) := by decide +kernel
theorem dL_lists_44 : decode cL_lists 44 = .ok (.irem, 1) := by decide +kernel
theorem dL_lists_45 : decode cL_lists 45 = .ok (.iload 5, 2) := by decide +kernel
theorem dL_lists_47 : decode cL_lists 47 = .ok (.iconst 2, 1) := by decide +kernel
theorem dL_lists_48 : decode cL_lists 48 = .ok (.invokestatic 107, 3) := by decide +kernel
theorem dL_lists_51 : decode cL_lists 51 = .ok (.istore 6, 2) := by decide +kernel
theorem dL_lists_53 : decode cL_lists 53 = .ok (.aload_n 0, 1) := by decide +kernel
theorem dL_lists_54 : decode cL_lists 54 = .ok (.iload_n 2, 1) := by decide +kernel
theorem dL_lists_55 : decode cL_lists 55 = .ok (.iconst 3, 1) := by decide +kernel
theorem dL_lists_56 : decode cL_lists 56 = .ok (.idiv, 1) := by decide +kernel
theorem dL_lists_57 : decode cL_lists 57 = .ok (.iload_n 2, 1) := by decide +kernel
theorem dL_lists_58 : decode cL_lists 58 = .ok (.iconst 3, 1) := by decide +kernel
theorem dL_lists_59 : decode cL_lists 59 = .ok (.irem, 1) := by decide +kernel
theorem dL_lists_60 : decode cL_lists 60 = .ok (.iload 5, 2) := by decide +kernel
theorem dL_lists_62 : decode cL_lists 62 = .ok (.iconst 3, 1) := by decide +kernel
theorem dL_lists_63 : decode cL_lists 63 = .ok (.invokestatic 107, 3) := by decide +kernel
theorem dL_lists_66 : decode cL_lists 66 = .ok (.istore 7, 2) := by decide +kernel
theorem dL_lists_68 : decode cL_lists 68 = .ok (.aload_n 0, 1) := by decide +kernel
theorem dL_lists_69 : decode cL_lists 69 = .ok (.iload_n 2, 1) := by decide +kernel
theorem dL_lists_70 : decode cL_lists 70 = .ok (.iconst 3, 1) := by decide +kernel
theorem dL_lists_71 : decode cL_lists 71 = .ok (.idiv, 1) := by decide +kernel
theorem dL_lists_72 : decode cL_lists 72 = .ok (.iload_n 2, 1) := by decide +kernel
theorem dL_lists_73 : decode cL_lists 73 = .ok (.iconst 3, 1) := by decide +kernel
theorem dL_lists_74 : decode cL_lists 74 = .ok (.irem, 1) := by decide +kernel
theorem dL_lists_75 : decode cL_lists 75 = .ok (.iload 5, 2) := by decide +kernel
theorem dL_lists_77 : decode cL_lists 77 = .ok (.iconst 1, 1) := by decide +kernel
theorem dL_lists_78 : decode cL_lists 78 = .ok (.invokestatic 107, 3) := by decide +kernel
theorem dL_lists_81 : decode cL_lists 81 = .ok (.istore 8, 2) := by decide +kernel
theorem dL_lists_83 : decode cL_lists 83 = .ok (.iconst 0, 1) := by decide +kernel
theorem dL_lists_84 : decode cL_lists 84 = .ok (.istore 9, 2) := by decide +kernel
theorem dL_lists_86 : decode cL_lists 86 = .ok (.iconst 0, 1) := by decide +kernel
theorem dL_lists_87 : decode cL_lists 87 = .ok (.istore 10, 2) := by decide +kernel
theorem dL_lists_89 : decode cL_lists 89 = .ok (.iload 10, 2) := by decide +kernel
theorem dL_lists_91 : decode cL_lists 91 = .ok (.iload_n 1, 1) := by decide +kernel
theorem dL_lists_92 : decode cL_lists 92 = .ok (.if_icmp .ge 36, 3) := by decide +kernel
theorem dL_lists_95 : decode cL_lists 95 = .ok (.iload 9, 2) := by decide +kernel
theorem dL_lists_97 : decode cL_lists 97 = .ok (.aload_n 0, 1) := by decide +kernel
theorem dL_lists_98 : decode cL_lists 98 = .ok (.iload_n 2, 1) := by decide +kernel
theorem dL_lists_99 : decode cL_lists 99 = .ok (.iconst 3, 1) := by decide +kernel
theorem dL_lists_100 : decode cL_lists 100 = .ok (.idiv, 1) := by decide +kernel
theorem dL_lists_101 : decode cL_lists 101 = .ok (.iload_n 2, 1) := by decide +kernel
theorem dL_lists_102 : decode cL_lists 102 = .ok (.iconst 3, 1) := by decide +kernel
theorem dL_lists_103 : decode cL_lists 103 = .ok (.irem, 1) := by decide +kernel
theorem dL_lists_104 : decode cL_lists 104 = .ok (.iload 10, 2) := by decide +kernel
theorem dL_lists_106 : decode cL_lists 106 = .ok (.invokestatic 105, 3) := by decide +kernel
theorem dL_lists_109 : decode cL_lists 109 = .ok (.iload 5, 2) := by decide +kernel
theorem dL_lists_111 : decode cL_lists 111 = .ok (.if_icmp .ne 7, 3) := by decide +kernel
theorem dL_lists_114 : decode cL_lists 114 = .ok (.iconst 1, 1) := by decide +kernel
theorem dL_lists_115 : decode cL_lists 115 = .ok (.goto 4, 3) := by decide +kernel
theorem dL_lists_118 : decode cL_lists 118 = .ok (.iconst 0, 1) := by decide +kernel
theorem dL_lists_119 : decode cL_lists 119 = .ok (.iadd, 1) := by decide +kernel
theorem dL_lists_120 : decode cL_lists 120 = .ok (.istore 9, 2) := by decide +kernel
theorem dL_lists_122 : decode cL_lists 122 = .ok (.iinc 10 1, 3) := by decide +kernel
theorem dL_lists_125 : decode cL_lists 125 = .ok (.goto (-36), 3) := by decide +kernel
theorem dL_lists_128 : decode cL_lists 128 = .ok (.iload 7, 2) := by decide +kernel
theorem dL_lists_130 : decode cL_lists 130 = .ok (.iload 6, 2) := by decide +kernel
theorem dL_lists_132 : decode cL_lists 132 = .ok (.if_icmp .gt 77, 3) := by decide +kernel
theorem dL_lists_135 : decode cL_lists 135 = .ok (.iload 6, 2) := by decide +kernel
theorem dL_lists_137 : decode cL_lists 137 = .ok (.iload_n 1, 1) := by decide +kernel
theorem dL_lists_138 : decode cL_lists 138 = .ok (.if_icmp .gt 71, 3) := by decide +kernel
theorem dL_lists_141 : decode cL_lists 141 = .ok (.iload 7, 2) := by decide +kernel
theorem dL_lists_143 : decode cL_lists 143 = .ok (.iload 9, 2) := by decide +kernel
theorem dL_lists_145 : decode cL_lists 145 = .ok (.if_icmp .ne 64, 3) := by decide +kernel
theorem dL_lists_148 : decode cL_lists 148 = .ok (.iload 8, 2) := by decide +kernel
theorem dL_lists_150 : decode cL_lists 150 = .ok (.ifCond .lt 59, 3) := by decide +kernel
theorem dL_lists_153 : decode cL_lists 153 = .ok (.iload 8, 2) := by decide +kernel
theorem dL_lists_155 : decode cL_lists 155 = .ok (.iload_n 2, 1) := by decide +kernel
theorem dL_lists_156 : decode cL_lists 156 = .ok (.iconst 3, 1) := by decide +kernel
theorem dL_lists_157 : decode cL_lists 157 = .ok (.irem, 1) := by decide +kernel
theorem dL_lists_158 : decode cL_lists 158 = .ok (.ifCond .ne 7, 3) := by decide +kernel
theorem dL_lists_161 : decode cL_lists 161 = .ok (.iconst 2, 1) := by decide +kernel
theorem dL_lists_162 : decode cL_lists 162 = .ok (.goto 15, 3) := by decide +kernel
theorem dL_lists_165 : decode cL_lists 165 = .ok (.iload_n 2, 1) := by decide +kernel
theorem dL_lists_166 : decode cL_lists 166 = .ok (.iconst 3, 1) := by decide +kernel
theorem dL_lists_167 : decode cL_lists 167 = .ok (.irem, 1) := by decide +kernel
theorem dL_lists_168 : decode cL_lists 168 = .ok (.iconst 1, 1) := by decide +kernel
theorem dL_lists_169 : decode cL_lists 169 = .ok (.if_icmp .ne 7, 3) := by decide +kernel
theorem dL_lists_172 : decode cL_lists 172 = .ok (.iconst 3, 1) := by decide +kernel
theorem dL_lists_173 : decode cL_lists 173 = .ok (.goto 4, 3) := by decide +kernel
theorem dL_lists_176 : decode cL_lists 176 = .ok (.iconst 1, 1) := by decide +kernel
theorem dL_lists_177 : decode cL_lists 177 = .ok (.if_icmp .gt 32, 3) := by decide +kernel
theorem dL_lists_180 : decode cL_lists 180 = .ok (.iload 8, 2) := by decide +kernel
theorem dL_lists_182 : decode cL_lists 182 = .ok (.ifCond .ne 9, 3) := by decide +kernel
theorem dL_lists_185 : decode cL_lists 185 = .ok (.iload 6, 2) := by decide +kernel
theorem dL_lists_187 : decode cL_lists 187 = .ok (.iload_n 1, 1) := by decide +kernel
theorem dL_lists_188 : decode cL_lists 188 = .ok (.if_icmp .ne 21, 3) := by decide +kernel
theorem dL_lists_191 : decode cL_lists 191 = .ok (.aload_n 0, 1) := by decide +kernel
theorem dL_lists_192 : decode cL_lists 192 = .ok (.iload_n 2, 1) := by decide +kernel
theorem dL_lists_193 : decode cL_lists 193 = .ok (.iconst 3, 1) := by decide +kernel
theorem dL_lists_194 : decode cL_lists 194 = .ok (.idiv, 1) := by decide +kernel
theorem dL_lists_195 : decode cL_lists 195 = .ok (.iload_n 2, 1) := by decide +kernel
theorem dL_lists_196 : decode cL_lists 196 = .ok (.iconst 3, 1) := by decide +kernel
theorem dL_lists_197 : decode cL_lists 197 = .ok (.irem, 1) := by decide +kernel
theorem dL_lists_198 : decode cL_lists 198 = .ok (.iload 5, 2) := by decide +kernel
theorem dL_lists_200 : decode cL_lists 200 = .ok (.iconst 4, 1) := by decide +kernel
theorem dL_lists_201 : decode cL_lists 201 = .ok (.invokestatic 107, 3) := by decide +kernel
theorem dL_lists_204 : decode cL_lists 204 = .ok (.ldc 17, 2) := by decide +kernel
theorem dL_lists_206 : decode cL_lists 206 = .ok (.if_icmp .eq 5, 3) := by decide +kernel
theorem dL_lists_209 : decode cL_lists 209 = .ok (.iconst 0, 1) := by decide +kernel
theorem dL_lists_210 : decode cL_lists 210 = .ok (.ireturn, 1) := by decide +kernel
theorem dL_lists_211 : decode cL_lists 211 = .ok (.iload_n 3, 1) := by decide +kernel
theorem dL_lists_212 : decode cL_lists 212 = .ok (.iload 7, 2) := by decide +kernel
theorem dL_lists_214 : decode cL_lists 214 = .ok (.iadd, 1) := by decide +kernel
theorem dL_lists_215 : decode cL_lists 215 = .ok (.istore_n 3, 1) := by decide +kernel
theorem dL_lists_216 : decode cL_lists 216 = .ok (.iinc 5 1, 3) := by decide +kernel
theorem dL_lists_219 : decode cL_lists 219 = .ok (.goto (-197), 3) := by decide +kernel
theorem dL_lists_222 : decode cL_lists 222 = .ok (.iconst 0, 1) := by decide +kernel
theorem dL_lists_223 : decode cL_lists 223 = .ok (.istore 6, 2) := by decide +kernel
theorem dL_lists_225 : decode cL_lists 225 = .ok (.iload 6, 2) := by decide +kernel
theorem dL_lists_227 : decode cL_lists 227 = .ok (.iload_n 1, 1) := by decide +kernel
theorem dL_lists_228 : decode cL_lists 228 = .ok (.if_icmp .ge 60, 3) := by decide +kernel
theorem dL_lists_231 : decode cL_lists 231 = .ok (.iload 4, 2) := by decide +kernel
theorem dL_lists_233 : decode cL_lists 233 = .ok (.aload_n 0, 1) := by decide +kernel
theorem dL_lists_234 : decode cL_lists 234 = .ok (.iload_n 2, 1) := by decide +kernel
theorem dL_lists_235 : decode cL_lists 235 = .ok (.iconst 3, 1) := by decide +kernel
theorem dL_lists_236 : decode cL_lists 236 = .ok (.idiv, 1) := by decide +kernel
theorem dL_lists_237 : decode cL_lists 237 = .ok (.iload_n 2, 1) := by decide +kernel
theorem dL_lists_238 : decode cL_lists 238 = .ok (.iconst 3, 1) := by decide +kernel
theorem dL_lists_239 : decode cL_lists 239 = .ok (.irem, 1) := by decide +kernel
theorem dL_lists_240 : decode cL_lists 240 = .ok (.iload 6, 2) := by decide +kernel
theorem dL_lists_242 : decode cL_lists 242 = .ok (.invokestatic 105, 3) := by decide +kernel
theorem dL_lists_245 : decode cL_lists 245 = .ok (.iconst (-1), 1) := by decide +kernel
theorem dL_lists_246 : decode cL_lists 246 = .ok (.if_icmp .ne 7, 3) := by decide +kernel
theorem dL_lists_249 : decode cL_lists 249 = .ok (.iconst 0, 1) := by decide +kernel
theorem dL_lists_250 : decode cL_lists 250 = .ok (.goto 4, 3) := by decide +kernel
theorem dL_lists_253 : decode cL_lists 253 = .ok (.iconst 1, 1) := by decide +kernel
theorem dL_lists_254 : decode cL_lists 254 = .ok (.iadd, 1) := by decide +kernel
theorem dL_lists_255 : decode cL_lists 255 = .ok (.istore 4, 2) := by decide +kernel
theorem dL_lists_257 : decode cL_lists 257 = .ok (.iload 5, 2) := by decide +kernel
theorem dL_lists_259 : decode cL_lists 259 = .ok (.ifCond .ne 23, 3) := by decide +kernel
theorem dL_lists_262 : decode cL_lists 262 = .ok (.aload_n 0, 1) := by decide +kernel
theorem dL_lists_263 : decode cL_lists 263 = .ok (.iload_n 2, 1) := by decide +kernel
theorem dL_lists_264 : decode cL_lists 264 = .ok (.iconst 3, 1) := by decide +kernel
theorem dL_lists_265 : decode cL_lists 265 = .ok (.idiv, 1) := by decide +kernel
theorem dL_lists_266 : decode cL_lists 266 = .ok (.iload_n 2, 1) := by decide +kernel
theorem dL_lists_267 : decode cL_lists 267 = .ok (.iconst 3, 1) := by decide +kernel
theorem dL_lists_268 : decode cL_lists 268 = .ok (.irem, 1) := by decide +kernel
theorem dL_lists_269 : decode cL_lists 269 = .ok (.iload 6, 2) := by decide +kernel
theorem dL_lists_271 : decode cL_lists 271 = .ok (.invokestatic 102, 3) := by decide +kernel
theorem dL_lists_274 : decode cL_lists 274 = .ok (.sipush 1000, 3) := by decide +kernel
theorem dL_lists_277 : decode cL_lists 277 = .ok (.if_icmp .eq 5, 3) := by decide +kernel
theorem dL_lists_280 : decode cL_lists 280 = .ok (.iconst 0, 1) := by decide +kernel
theorem dL_lists_281 : decode cL_lists 281 = .ok (.ireturn, 1) := by decide +kernel
theorem dL_lists_282 : decode cL_lists 282 = .ok (.iinc 6 1, 3) := by decide +kernel
theorem dL_lists_285 : decode cL_lists 285 = .ok (.goto (-60), 3) := by decide +kernel
theorem dL_lists_288 : decode cL_lists 288 = .ok (.iload_n 3, 1) := by decide +kernel
theorem dL_lists_289 : decode cL_lists 289 = .ok (.iload 4, 2) := by decide +kernel
theorem dL_lists_291 : decode cL_lists 291 = .ok (.if_icmp .ne 10, 3) := by decide +kernel
theorem dL_lists_294 : decode cL_lists 294 = .ok (.iload 5, 2) := by decide +kernel
theorem dL_lists_296 : decode cL_lists 296 = .ok (.bipush 10, 2) := by decide +kernel
theorem dL_lists_298 : decode cL_lists 298 = .ok (.if_icmp .le 5, 3) := by decide +kernel
theorem dL_lists_301 : decode cL_lists 301 = .ok (.iconst 0, 1) := by decide +kernel
theorem dL_lists_302 : decode cL_lists 302 = .ok (.ireturn, 1) := by decide +kernel
theorem dL_lists_303 : decode cL_lists 303 = .ok (.iinc 2 1, 3) := by decide +kernel
theorem dL_lists_306 : decode cL_lists 306 = .ok (.goto (-298), 3) := by decide +kernel
theorem dL_lists_309 : decode cL_lists 309 = .ok (.iconst 1, 1) := by decide +kernel
theorem dL_lists_310 : decode cL_lists 310 = .ok (.ireturn, 1) := by decide +kernel
theorem dL_listing_0 : decode cL_listing 0 = .ok (.aload_n 0, 1) := by decide +kernel
theorem dL_listing_1 : decode cL_listing 1 = .ok (.bipush 10, 2) := by decide +kernel
theorem dL_listing_3 : decode cL_listing 3 = .ok (.invokestatic 94, 3) := by decide +kernel
theorem dL_listing_6 : decode cL_listing 6 = .ok (.istore_n 1, 1) := by decide +kernel
theorem dL_listing_7 : decode cL_listing 7 = .ok (.iconst 0, 1) := by decide +kernel
theorem dL_listing_8 : decode cL_listing 8 = .ok (.istore_n 2, 1) := by decide +kernel
theorem dL_listing_9 : decode cL_listing 9 = .ok (.iconst 0, 1) := by decide +kernel
theorem dL_listing_10 : decode cL_listing 10 = .ok (.istore_n 3, 1) := by decide +kernel
theorem dL_listing_11 : decode cL_listing 11 = .ok (.iconst 0, 1) := by decide +kernel
theorem dL_listing_12 : decode cL_listing 12 = .ok (.istore 4, 2) := by decide +kernel
theorem dL_listing_14 : decode cL_listing 14 = .ok (.iconst 0, 1) := by decide +kernel
theorem dL_listing_15 : decode cL_listing 15 = .ok (.istore 5, 2) := by decide +kernel
theorem dL_listing_17 : decode cL_listing 17 = .ok (.iload 5, 2) := by decide +kernel
theorem dL_listing_19 : decode cL_listing 19 = .ok (.iload_n 1, 1) := by decide +kernel
theorem dL_listing_20 : decode cL_listing 20 = .ok (.if_icmp .ge 154, 3) := by decide +kernel
theorem dL_listing_23 : decode cL_listing 23 = .ok (.aload_n 0, 1) := by decide +kernel
theorem dL_listing_24 : decode cL_listing 24 = .ok (.iload 5, 2) := by decide +kernel
theorem dL_listing_26 : decode cL_listing 26 = .ok (.invokestatic 123, 3) := by decide +kernel
theorem dL_listing_29 : decode cL_listing 29 = .ok (.istore 6, 2) := by decide +kernel
theorem dL_listing_31 : decode cL_listing 31 = .ok (.iload_n 2, 1) := by decide +kernel
theorem dL_listing_32 : decode cL_listing 32 = .ok (.iload 6, 2) := by decide +kernel
theorem dL_listing_34 : decode cL_listing 34 = .ok (.bipush 44, 2) := by decide +kernel
theorem dL_listing_36 : decode cL_listing 36 = .ok (.if_icmp .ne 7, 3) := by decide +kernel
theorem dL_listing_39 : decode cL_listing 39 = .ok (.iconst 1, 1) := by decide +kernel
theorem dL_listing_40 : decode cL_listing 40 = .ok (.goto 4, 3) := by decide +kernel
theorem dL_listing_43 : decode cL_listing 43 = .ok (.iconst 0, 1) := by decide +kernel
theorem dL_listing_44 : decode cL_listing 44 = .ok (.iadd, 1) := by decide +kernel
theorem dL_listing_45 : decode cL_listing 45 = .ok (.istore_n 2, 1) := by decide +kernel
theorem dL_listing_46 : decode cL_listing 46 = .ok (.iload_n 3, 1) := by decide +kernel
theorem dL_listing_47 : decode cL_listing 47 = .ok (.iload 6, 2) := by decide +kernel
theorem dL_listing_49 : decode cL_listing 49 = .ok (.bipush 47, 2) := by decide +kernel
theorem dL_listing_51 : decode cL_listing 51 = .ok (.if_icmp .ne 7, 3) := by decide +kernel
theorem dL_listing_54 : decode cL_listing 54 = .ok (.iconst 1, 1) := by decide +kernel
theorem dL_listing_55 : decode cL_listing 55 = .ok (.goto 4, 3) := by decide +kernel
theorem dL_listing_58 : decode cL_listing 58 = .ok (.iconst 0, 1) := by decide +kernel
theorem dL_listing_59 : decode cL_listing 59 = .ok (.iadd, 1) := by decide +kernel
theorem dL_listing_60 : decode cL_listing 60 = .ok (.istore_n 3, 1) := by decide +kernel
theorem dL_listing_61 : decode cL_listing 61 = .ok (.iload 4, 2) := by decide +kernel
theorem dL_listing_63 : decode cL_listing 63 = .ok (.iload 6, 2) := by decide +kernel
theorem dL_listing_65 : decode cL_listing 65 = .ok (.bipush 32, 2) := by decide +kernel
theorem dL_listing_67 : decode cL_listing 67 = .ok (.if_icmp .ne 7, 3) := by decide +kernel
theorem dL_listing_70 : decode cL_listing 70 = .ok (.iconst 1, 1) := by decide +kernel
theorem dL_listing_71 : decode cL_listing 71 = .ok (.goto 4, 3) := by decide +kernel
theorem dL_listing_74 : decode cL_listing 74 = .ok (.iconst 0, 1) := by decide +kernel
theorem dL_listing_75 : decode cL_listing 75 = .ok (.iadd, 1) := by decide +kernel
theorem dL_listing_76 : decode cL_listing 76 = .ok (.istore 4, 2) := by decide +kernel
theorem dL_listing_78 : decode cL_listing 78 = .ok (.iload 6, 2) := by decide +kernel
theorem dL_listing_80 : decode cL_listing 80 = .ok (.bipush 44, 2) := by decide +kernel
theorem dL_listing_82 : decode cL_listing 82 = .ok (.if_icmp .eq 52, 3) := by decide +kernel
theorem dL_listing_85 : decode cL_listing 85 = .ok (.iload 6, 2) := by decide +kernel
theorem dL_listing_87 : decode cL_listing 87 = .ok (.bipush 47, 2) := by decide +kernel
theorem dL_listing_89 : decode cL_listing 89 = .ok (.if_icmp .eq 45, 3) := by decide +kernel
theorem dL_listing_92 : decode cL_listing 92 = .ok (.iload 6, 2) := by decide +kernel
theorem dL_listing_94 : decode cL_listing 94 = .ok (.bipush 32, 2) := by decide +kernel
theorem dL_listing_96 : decode cL_listing 96 = .ok (.if_icmp .eq 38, 3) := by decide +kernel
theorem dL_listing_99 : decode cL_listing 99 = .ok (.iload 6, 2) := by decide +kernel
theorem dL_listing_101 : decode cL_listing 101 = .ok (.bipush 45, 2) := by decide +kernel
theorem dL_listing_103 : decode cL_listing 103 = .ok (.if_icmp .eq 31, 3) := by decide +kernel
theorem dL_listing_106 : decode cL_listing 106 = .ok (.iload 6, 2) := by decide +kernel
theorem dL_listing_108 : decode cL_listing 108 = .ok (.bipush 48, 2) := by decide +kernel
theorem dL_listing_110 : decode cL_listing 110 = .ok (.if_icmp .lt 10, 3) := by decide +kernel
theorem dL_listing_113 : decode cL_listing 113 = .ok (.iload 6, 2) := by decide +kernel
theorem dL_listing_115 : decode cL_listing 115 = .ok (.bipush 57, 2) := by decide +kernel
theorem dL_listing_117 : decode cL_listing 117 = .ok (.if_icmp .le 17, 3) := by decide +kernel
theorem dL_listing_120 : decode cL_listing 120 = .ok (.iload 6, 2) := by decide +kernel
theorem dL_listing_122 : decode cL_listing 122 = .ok (.bipush 97, 2) := by decide +kernel
theorem dL_listing_124 : decode cL_listing 124 = .ok (.if_icmp .lt 14, 3) := by decide +kernel
theorem dL_listing_127 : decode cL_listing 127 = .ok (.iload 6, 2) := by decide +kernel
theorem dL_listing_129 : decode cL_listing 129 = .ok (.bipush 122, 2) := by decide +kernel
theorem dL_listing_131 : decode cL_listing 131 = .ok (.if_icmp .gt 7, 3) := by decide +kernel
theorem dL_listing_134 : decode cL_listing 134 = .ok (.iconst 1, 1) := by decide +kernel
theorem dL_listing_135 : decode cL_listing 135 = .ok (.goto 4, 3) := by decide +kernel
theorem dL_listing_138 : decode cL_listing 138 = .ok (.iconst 0, 1) := by decide +kernel
theorem dL_listing_139 : decode cL_listing 139 = .ok (.istore 7, 2) := by decide +kernel
theorem dL_listing_141 : decode cL_listing 141 = .ok (.iload 7, 2) := by decide +kernel
theorem dL_listing_143 : decode cL_listing 143 = .ok (.ifCond .eq 23, 3) := by decide +kernel
theorem dL_listing_146 : decode cL_listing 146 = .ok (.iload 6, 2) := by decide +kernel
theorem dL_listing_148 : decode cL_listing 148 = .ok (.bipush 44, 2) := by decide +kernel
theorem dL_listing_150 : decode cL_listing 150 = .ok (.if_icmp .ne 18, 3) := by decide +kernel
theorem dL_listing_153 : decode cL_listing 153 = .ok (.aload_n 0, 1) := by decide +kernel
theorem dL_listing_154 : decode cL_listing 154 = .ok (.iload 5, 2) := by decide +kernel
theorem dL_listing_156 : decode cL_listing 156 = .ok (.iconst 1, 1) := by decide +kernel
theorem dL_listing_157 : decode cL_listing 157 = .ok (.iadd, 1) := by decide +kernel
theorem dL_listing_158 : decode cL_listing 158 = .ok (.invokestatic 123, 3) := by decide +kernel
theorem dL_listing_161 : decode cL_listing 161 = .ok (.bipush 32, 2) := by decide +kernel
theorem dL_listing_163 : decode cL_listing 163 = .ok (.if_icmp .eq 5, 3) := by decide +kernel
theorem dL_listing_166 : decode cL_listing 166 = .ok (.iconst 0, 1) := by decide +kernel
theorem dL_listing_167 : decode cL_listing 167 = .ok (.ireturn, 1) := by decide +kernel
theorem dL_listing_168 : decode cL_listing 168 = .ok (.iinc 5 1, 3) := by decide +kernel
theorem dL_listing_171 : decode cL_listing 171 = .ok (.goto (-154), 3) := by decide +kernel
theorem dL_listing_174 : decode cL_listing 174 = .ok (.aload_n 0, 1) := by decide +kernel
theorem dL_listing_175 : decode cL_listing 175 = .ok (.iconst 0, 1) := by decide +kernel
theorem dL_listing_176 : decode cL_listing 176 = .ok (.invokestatic 94, 3) := by decide +kernel
theorem dL_listing_179 : decode cL_listing 179 = .ok (.istore 5, 2) := by decide +kernel
theorem dL_listing_181 : decode cL_listing 181 = .ok (.aload_n 0, 1) := by decide +kernel
theorem dL_listing_182 : decode cL_listing 182 = .ok (.iload_n 1, 1) := by decide +kernel
theorem dL_listing_183 : decode cL_listing 183 = .ok (.invokestatic 123, 3) := by decide +kernel
theorem dL_listing_186 : decode cL_listing 186 = .ok (.iconst (-1), 1) := by decide +kernel
theorem dL_listing_187 : decode cL_listing 187 = .ok (.if_icmp .ne 50, 3) := by decide +kernel
theorem dL_listing_190 : decode cL_listing 190 = .ok (.iload_n 3, 1) := by decide +kernel
theorem dL_listing_191 : decode cL_listing 191 = .ok (.iload 5, 2) := by decide +kernel
theorem dL_listing_193 : decode cL_listing 193 = .ok (.if_icmp .ne 44, 3) := by decide +kernel
theorem dL_listing_196 : decode cL_listing 196 = .ok (.iload_n 2, 1) := by decide +kernel
theorem dL_listing_197 : decode cL_listing 197 = .ok (.iload 5, 2) := by decide +kernel
theorem dL_listing_199 : decode cL_listing 199 = .ok (.ifCond .ne 7, 3) := by decide +kernel
theorem dL_listing_202 : decode cL_listing 202 = .ok (.iconst 0, 1) := by decide +kernel
theorem dL_listing_203 : decode cL_listing 203 = .ok (.goto 7, 3) := by decide +kernel
theorem dL_listing_206 : decode cL_listing 206 = .ok (.iload 5, 2) := by decide +kernel
theorem dL_listing_208 : decode cL_listing 208 = .ok (.iconst 1, 1) := by decide +kernel
theorem dL_listing_209 : decode cL_listing 209 = .ok (.isub, 1) := by decide +kernel
theorem dL_listing_210 : decode cL_listing 210 = .ok (.if_icmp .ne 27, 3) := by decide +kernel
theorem dL_listing_213 : decode cL_listing 213 = .ok (.iload 4, 2) := by decide +kernel
theorem dL_listing_215 : decode cL_listing 215 = .ok (.iload 5, 2) := by decide +kernel
theorem dL_listing_217 : decode cL_listing 217 = .ok (.ifCond .ne 7, 3) := by decide +kernel
theorem dL_listing_220 : decode cL_listing 220 = .ok (.iconst 0, 1) := by decide +kernel
theorem dL_listing_221 : decode cL_listing 221 = .ok (.goto 9, 3) := by decide +kernel
theorem dL_listing_224 : decode cL_listing 224 = .ok (.iconst 4, 1) := by decide +kernel
theorem dL_listing_225 : decode cL_listing 225 = .ok (.iload 5, 2) := by decide +kernel
theorem dL_listing_227 : decode cL_listing 227 = .ok (.imul, 1) := by decide +kernel
theorem dL_listing_228 : decode cL_listing 228 = .ok (.iconst 1, 1) := by decide +kernel
theorem dL_listing_229 : decode cL_listing 229 = .ok (.isub, 1) := by decide +kernel
theorem dL_listing_230 : decode cL_listing 230 = .ok (.if_icmp .ne 7, 3) := by decide +kernel
theorem dL_listing_233 : decode cL_listing 233 = .ok (.iconst 1, 1) := by decide +kernel
theorem dL_listing_234 : decode cL_listing 234 = .ok (.goto 4, 3) := by decide +kernel
theorem dL_listing_237 : decode cL_listing 237 = .ok (.iconst 0, 1) := by decide +kernel
theorem dL_listing_238 : decode cL_listing 238 = .ok (.ireturn, 1) := by decide +kernel
theorem dL_thoughts_0 : decode cL_thoughts 0 = .ok (.aload_n 0, 1) := by decide +kernel
theorem dL_thoughts_1 : decode cL_thoughts 1 = .ok (.invokevirtual 125, 3) := by decide +kernel
theorem dL_thoughts_4 : decode cL_thoughts 4 = .ok (.lstore_n 2, 1) := by decide +kernel
theorem dL_thoughts_5 : decode cL_thoughts 5 = .ok (.aload_n 0, 1) := by decide +kernel
theorem dL_thoughts_6 : decode cL_thoughts 6 = .ok (.iconst 0, 1) := by decide +kernel
theorem dL_thoughts_7 : decode cL_thoughts 7 = .ok (.invokestatic 94, 3) := by decide +kernel
theorem dL_thoughts_10 : decode cL_thoughts 10 = .ok (.istore 4, 2) := by decide +kernel
theorem dL_thoughts_12 : decode cL_thoughts 12 = .ok (.iload 4, 2) := by decide +kernel
theorem dL_thoughts_14 : decode cL_thoughts 14 = .ok (.ifCond .ne 54, 3) := by decide +kernel
theorem dL_thoughts_17 : decode cL_thoughts 17 = .ok (.aload_n 0, 1) := by decide +kernel
theorem dL_thoughts_18 : decode cL_thoughts 18 = .ok (.iconst 2, 1) := by decide +kernel
theorem dL_thoughts_19 : decode cL_thoughts 19 = .ok (.invokestatic 94, 3) := by decide +kernel
theorem dL_thoughts_22 : decode cL_thoughts 22 = .ok (.iconst (-1), 1) := by decide +kernel
theorem dL_thoughts_23 : decode cL_thoughts 23 = .ok (.if_icmp .ne 43, 3) := by decide +kernel
theorem dL_thoughts_26 : decode cL_thoughts 26 = .ok (.aload_n 0, 1) := by decide +kernel
theorem dL_thoughts_27 : decode cL_thoughts 27 = .ok (.iconst 0, 1) := by decide +kernel
theorem dL_thoughts_28 : decode cL_thoughts 28 = .ok (.invokestatic 121, 3) := by decide +kernel
theorem dL_thoughts_31 : decode cL_thoughts 31 = .ok (.iconst (-1), 1) := by decide +kernel
theorem dL_thoughts_32 : decode cL_thoughts 32 = .ok (.if_icmp .ne 34, 3) := by decide +kernel
theorem dL_thoughts_35 : decode cL_thoughts 35 = .ok (.aload_n 0, 1) := by decide +kernel
theorem dL_thoughts_36 : decode cL_thoughts 36 = .ok (.iconst 0, 1) := by decide +kernel
theorem dL_thoughts_37 : decode cL_thoughts 37 = .ok (.invokestatic 129, 3) := by decide +kernel
theorem dL_thoughts_40 : decode cL_thoughts 40 = .ok (.ldc 26, 2) := by decide +kernel
theorem dL_thoughts_42 : decode cL_thoughts 42 = .ok (.if_icmp .ne 24, 3) := by decide +kernel
theorem dL_thoughts_45 : decode cL_thoughts 45 = .ok (.aload_n 0, 1) := by decide +kernel
theorem dL_thoughts_46 : decode cL_thoughts 46 = .ok (.iconst 0, 1) := by decide +kernel
theorem dL_thoughts_47 : decode cL_thoughts 47 = .ok (.invokestatic 131, 3) := by decide +kernel
theorem dL_thoughts_50 : decode cL_thoughts 50 = .ok (.ldc 26, 2) := by decide +kernel
theorem dL_thoughts_52 : decode cL_thoughts 52 = .ok (.if_icmp .ne 14, 3) := by decide +kernel
theorem dL_thoughts_55 : decode cL_thoughts 55 = .ok (.aload_n 0, 1) := by decide +kernel
theorem dL_thoughts_56 : decode cL_thoughts 56 = .ok (.invokevirtual 117, 3) := by decide +kernel
theorem dL_thoughts_59 : decode cL_thoughts 59 = .ok (.ifCond .eq 7, 3) := by decide +kernel
theorem dL_thoughts_62 : decode cL_thoughts 62 = .ok (.iconst 1, 1) := by decide +kernel
theorem dL_thoughts_63 : decode cL_thoughts 63 = .ok (.goto 4, 3) := by decide +kernel
theorem dL_thoughts_66 : decode cL_thoughts 66 = .ok (.iconst 0, 1) := by decide +kernel
theorem dL_thoughts_67 : decode cL_thoughts 67 = .ok (.ireturn, 1) := by decide +kernel
theorem dL_thoughts_68 : decode cL_thoughts 68 = .ok (.iload_n 1, 1) := by decide +kernel
theorem dL_thoughts_69 : decode cL_thoughts 69 = .ok (.iload 4, 2) := by decide +kernel
theorem dL_thoughts_71 : decode cL_thoughts 71 = .ok (.invokestatic 133, 3) := by decide +kernel
theorem dL_thoughts_74 : decode cL_thoughts 74 = .ok (.istore 5, 2) := by decide +kernel
theorem dL_thoughts_76 : decode cL_thoughts 76 = .ok (.aload_n 0, 1) := by decide +kernel
theorem dL_thoughts_77 : decode cL_thoughts 77 = .ok (.iconst 2, 1) := by decide +kernel
theorem dL_thoughts_78 : decode cL_thoughts 78 = .ok (.invokestatic 94, 3) := by decide +kernel
theorem dL_thoughts_81 : decode cL_thoughts 81 = .ok (.istore 6, 2) := by decide +kernel
theorem dL_thoughts_83 : decode cL_thoughts 83 = .ok (.aload_n 0, 1) := by decide +kernel
theorem dL_thoughts_84 : decode cL_thoughts 84 = .ok (.iload 5, 2) := by decide +kernel
theorem dL_thoughts_86 : decode cL_thoughts 86 = .ok (.invokestatic 129, 3) := by decide +kernel
theorem dL_thoughts_89 : decode cL_thoughts 89 = .ok (.istore 7, 2) := by decide +kernel
theorem dL_thoughts_91 : decode cL_thoughts 91 = .ok (.aload_n 0, 1) := by decide +kernel
theorem dL_thoughts_92 : decode cL_thoughts 92 = .ok (.iload 5, 2) := by decide +kernel
theorem dL_thoughts_94 : decode cL_thoughts 94 = .ok (.invokestatic 131, 3) := by decide +kernel
theorem dL_thoughts_97 : decode cL_thoughts 97 = .ok (.istore 8, 2) := by decide +kernel
theorem dL_thoughts_99 : decode cL_thoughts 99 = .ok (.aload_n 0, 1) := by decide +kernel
theorem dL_thoughts_100 : decode cL_thoughts 100 = .ok (.invokevirtual 125, 3) := by decide +kernel
theorem dL_thoughts_103 : decode cL_thoughts 103 = .ok (.lload_n 2, 1) := by decide +kernel
theorem dL_thoughts_104 : decode cL_thoughts 104 = .ok (.lcmp, 1) := by decide +kernel
theorem dL_thoughts_105 : decode cL_thoughts 105 = .ok (.ifCond .ne 70, 3) := by decide +kernel
theorem dL_thoughts_108 : decode cL_thoughts 108 = .ok (.iload 6, 2) := by decide +kernel
theorem dL_thoughts_110 : decode cL_thoughts 110 = .ok (.iload 5, 2) := by decide +kernel
theorem dL_thoughts_112 : decode cL_thoughts 112 = .ok (.if_icmp .eq 10, 3) := by decide +kernel
theorem dL_thoughts_115 : decode cL_thoughts 115 = .ok (.iload 7, 2) := by decide +kernel
theorem dL_thoughts_117 : decode cL_thoughts 117 = .ok (.iload 6, 2) := by decide +kernel
theorem dL_thoughts_119 : decode cL_thoughts 119 = .ok (.if_icmp .ne 56, 3) := by decide +kernel
theorem dL_thoughts_122 : decode cL_thoughts 122 = .ok (.iload 7, 2) := by decide +kernel
theorem dL_thoughts_124 : decode cL_thoughts 124 = .ok (.iload 5, 2) := by decide +kernel
theorem dL_thoughts_126 : decode cL_thoughts 126 = .ok (.if_icmp .eq 49, 3) := by decide +kernel
theorem dL_thoughts_129 : decode cL_thoughts 129 = .ok (.iload 6, 2) := by decide +kernel
theorem dL_thoughts_131 : decode cL_thoughts 131 = .ok (.iload 5, 2) := by decide +kernel
theorem dL_thoughts_133 : decode cL_thoughts 133 = .ok (.if_icmp .ne 15, 3) := by decide +kernel
theorem dL_thoughts_136 : decode cL_thoughts 136 = .ok (.iload 8, 2) := by decide +kernel
theorem dL_thoughts_138 : decode cL_thoughts 138 = .ok (.aload_n 0, 1) := by decide +kernel
theorem dL_thoughts_139 : decode cL_thoughts 139 = .ok (.iload 5, 2) := by decide +kernel
theorem dL_thoughts_141 : decode cL_thoughts 141 = .ok (.iconst 1, 1) := by decide +kernel
theorem dL_thoughts_142 : decode cL_thoughts 142 = .ok (.invokestatic 99, 3) := by decide +kernel
theorem dL_thoughts_145 : decode cL_thoughts 145 = .ok (.if_icmp .gt 30, 3) := by decide +kernel
theorem dL_thoughts_148 : decode cL_thoughts 148 = .ok (.iload 8, 2) := by decide +kernel
theorem dL_thoughts_150 : decode cL_thoughts 150 = .ok (.iconst (-1), 1) := by decide +kernel
theorem dL_thoughts_151 : decode cL_thoughts 151 = .ok (.if_icmp .lt 24, 3) := by decide +kernel
theorem dL_thoughts_154 : decode cL_thoughts 154 = .ok (.iload 8, 2) := by decide +kernel
theorem dL_thoughts_156 : decode cL_thoughts 156 = .ok (.sipush 1000, 3) := by decide +kernel
theorem dL_thoughts_159 : decode cL_thoughts 159 = .ok (.if_icmp .gt 16, 3) := by decide +kernel
theorem dL_thoughts_162 : decode cL_thoughts 162 = .ok (.iload 6, 2) := by decide +kernel
theorem dL_thoughts_164 : decode cL_thoughts 164 = .ok (.iload 5, 2) := by decide +kernel
theorem dL_thoughts_166 : decode cL_thoughts 166 = .ok (.if_icmp .ne 11, 3) := by decide +kernel
theorem dL_thoughts_169 : decode cL_thoughts 169 = .ok (.iload 8, 2) := by decide +kernel
theorem dL_thoughts_171 : decode cL_thoughts 171 = .ok (.iconst 1, 1) := by decide +kernel
theorem dL_thoughts_172 : decode cL_thoughts 172 = .ok (.if_icmp .ge 5, 3) := by decide +kernel
theorem dL_thoughts_175 : decode cL_thoughts 175 = .ok (.iconst 0, 1) := by decide +kernel
theorem dL_thoughts_176 : decode cL_thoughts 176 = .ok (.ireturn, 1) := by decide +kernel
theorem dL_thoughts_177 : decode cL_thoughts 177 = .ok (.iload 8, 2) := by decide +kernel
theorem dL_thoughts_179 : decode cL_thoughts 179 = .ok (.ifCond .lt 66, 3) := by decide +kernel
theorem dL_thoughts_182 : decode cL_thoughts 182 = .ok (.aload_n 0, 1) := by decide +kernel
theorem dL_thoughts_183 : decode cL_thoughts 183 = .ok (.iload 5, 2) := by decide +kernel
theorem dL_thoughts_185 : decode cL_thoughts 185 = .ok (.iconst 1, 1) := by decide +kernel
theorem dL_thoughts_186 : decode cL_thoughts 186 = .ok (.invokestatic 99, 3) := by decide +kernel
theorem dL_thoughts_189 : decode cL_thoughts 189 = .ok (.istore 9, 2) := by decide +kernel
theorem dL_thoughts_191 : decode cL_thoughts 191 = .ok (.aload_n 0, 1) := by decide +kernel
theorem dL_thoughts_192 : decode cL_thoughts 192 = .ok (.iload 5, 2) := by decide +kernel
theorem dL_thoughts_194 : decode cL_thoughts 194 = .ok (.iload 8, 2) := by decide +kernel
theorem dL_thoughts_196 : decode cL_thoughts 196 = .ok (.invokestatic 136, 3) := by decide +kernel
theorem dL_thoughts_199 : decode cL_thoughts 199 = .ok (.iload 9, 2) := by decide +kernel
theorem dL_thoughts_201 : decode cL_thoughts 201 = .ok (.if_icmp .ne 42, 3) := by decide +kernel
theorem dL_thoughts_204 : decode cL_thoughts 204 = .ok (.aload_n 0, 1) := by decide +kernel
theorem dL_thoughts_205 : decode cL_thoughts 205 = .ok (.iconst 2, 1) := by decide +kernel
theorem dL_thoughts_206 : decode cL_thoughts 206 = .ok (.invokestatic 94, 3) := by decide +kernel
theorem dL_thoughts_209 : decode cL_thoughts 209 = .ok (.iload 5, 2) := by decide +kernel
theorem dL_thoughts_211 : decode cL_thoughts 211 = .ok (.if_icmp .ne 32, 3) := by decide +kernel
theorem dL_thoughts_214 : decode cL_thoughts 214 = .ok (.aload_n 0, 1) := by decide +kernel
theorem dL_thoughts_215 : decode cL_thoughts 215 = .ok (.invokestatic 138, 3) := by decide +kernel
theorem dL_thoughts_218 : decode cL_thoughts 218 = .ok (.ifCond .lt 25, 3) := by decide +kernel
theorem dL_thoughts_221 : decode cL_thoughts 221 = .ok (.aload_n 0, 1) := by decide +kernel
theorem dL_thoughts_222 : decode cL_thoughts 222 = .ok (.iload 5, 2) := by decide +kernel
theorem dL_thoughts_224 : decode cL_thoughts 224 = .ok (.iconst 1, 1) := by decide +kernel
theorem dL_thoughts_225 : decode cL_thoughts 225 = .ok (.invokestatic 99, 3) := by decide +kernel
theorem dL_thoughts_228 : decode cL_thoughts 228 = .ok (.iload 9, 2) := by decide +kernel
theorem dL_thoughts_230 : decode cL_thoughts 230 = .ok (.if_icmp .ne 13, 3) := by decide +kernel
theorem dL_thoughts_233 : decode cL_thoughts 233 = .ok (.aload_n 0, 1) := by decide +kernel
theorem dL_thoughts_234 : decode cL_thoughts 234 = .ok (.iconst 2, 1) := by decide +kernel
theorem dL_thoughts_235 : decode cL_thoughts 235 = .ok (.invokestatic 94, 3) := by decide +kernel
theorem dL_thoughts_238 : decode cL_thoughts 238 = .ok (.iload 6, 2) := by decide +kernel
theorem dL_thoughts_240 : decode cL_thoughts 240 = .ok (.if_icmp .eq 5, 3) := by decide +kernel
theorem dL_thoughts_243 : decode cL_thoughts 243 = .ok (.iconst 0, 1) := by decide +kernel
theorem dL_thoughts_244 : decode cL_thoughts 244 = .ok (.ireturn, 1) := by decide +kernel
theorem dL_thoughts_245 : decode cL_thoughts 245 = .ok (.iload_n 1, 1) := by decide +kernel
theorem dL_thoughts_246 : decode cL_thoughts 246 = .ok (.iconst 4, 1) := by decide +kernel
theorem dL_thoughts_247 : decode cL_thoughts 247 = .ok (.ishr, 1) := by decide +kernel
theorem dL_thoughts_248 : decode cL_thoughts 248 = .ok (.iconst 2, 1) := by decide +kernel
theorem dL_thoughts_249 : decode cL_thoughts 249 = .ok (.invokestatic 133, 3) := by decide +kernel
theorem dL_thoughts_252 : decode cL_thoughts 252 = .ok (.istore 9, 2) := by decide +kernel
theorem dL_thoughts_254 : decode cL_thoughts 254 = .ok (.iload_n 1, 1) := by decide +kernel
theorem dL_thoughts_255 : decode cL_thoughts 255 = .ok (.iconst 5, 1) := by decide +kernel
theorem dL_thoughts_256 : decode cL_thoughts 256 = .ok (.ishr, 1) := by decide +kernel
theorem dL_thoughts_257 : decode cL_thoughts 257 = .ok (.iconst 3, 1) := by decide +kernel
theorem dL_thoughts_258 : decode cL_thoughts 258 = .ok (.invokestatic 133, 3) := by decide +kernel
theorem dL_thoughts_261 : decode cL_thoughts 261 = .ok (.istore 10, 2) := by decide +kernel
theorem dL_thoughts_263 : decode cL_thoughts 263 = .ok (.aload_n 0, 1) := by decide +kernel
theorem dL_thoughts_264 : decode cL_thoughts 264 = .ok (.iload 9, 2) := by decide +kernel
theorem dL_thoughts_266 : decode cL_thoughts 266 = .ok (.iload 10, 2) := by decide +kernel
theorem dL_thoughts_268 : decode cL_thoughts 268 = .ok (.iconst 0, 1) := by decide +kernel
theorem dL_thoughts_269 : decode cL_thoughts 269 = .ok (.iconst 0, 1) := by decide +kernel
theorem dL_thoughts_270 : decode cL_thoughts 270 = .ok (.invokestatic 107, 3) := by decide +kernel
theorem dL_thoughts_273 : decode cL_thoughts 273 = .ok (.istore 11, 2) := by decide +kernel
theorem dL_thoughts_275 : decode cL_thoughts 275 = .ok (.iload 11, 2) := by decide +kernel
theorem dL_thoughts_277 : decode cL_thoughts 277 = .ok (.ifCond .ge 25, 3) := by decide +kernel
theorem dL_thoughts_280 : decode cL_thoughts 280 = .ok (.aload_n 0, 1) := by decide +kernel
theorem dL_thoughts_281 : decode cL_thoughts 281 = .ok (.iload 9, 2) := by decide +kernel
theorem dL_thoughts_283 : decode cL_thoughts 283 = .ok (.iload 10, 2) := by decide +kernel
theorem dL_thoughts_285 : decode cL_thoughts 285 = .ok (.iconst 0, 1) := by decide +kernel
theorem dL_thoughts_286 : decode cL_thoughts 286 = .ok (.iload 5, 2) := by decide +kernel
theorem dL_thoughts_288 : decode cL_thoughts 288 = .ok (.invokestatic 141, 3) := by decide +kernel
theorem dL_thoughts_291 : decode cL_thoughts 291 = .ok (.ldc 26, 2) := by decide +kernel
theorem dL_thoughts_293 : decode cL_thoughts 293 = .ok (.if_icmp .ne 7, 3) := by decide +kernel
theorem dL_thoughts_296 : decode cL_thoughts 296 = .ok (.iconst 1, 1) := by decide +kernel
theorem dL_thoughts_297 : decode cL_thoughts 297 = .ok (.goto 4, 3) := by decide +kernel
theorem dL_thoughts_300 : decode cL_thoughts 300 = .ok (.iconst 0, 1) := by decide +kernel
theorem dL_thoughts_301 : decode cL_thoughts 301 = .ok (.ireturn, 1) := by decide +kernel
theorem dL_thoughts_302 : decode cL_thoughts 302 = .ok (.aload_n 0, 1) := by decide +kernel
theorem dL_thoughts_303 : decode cL_thoughts 303 = .ok (.invokevirtual 125, 3) := by decide +kernel
theorem dL_thoughts_306 : decode cL_thoughts 306 = .ok (.lstore 12, 2) := by decide +kernel
theorem dL_thoughts_308 : decode cL_thoughts 308 = .ok (.aload_n 0, 1) := by decide +kernel
theorem dL_thoughts_309 : decode cL_thoughts 309 = .ok (.iload 9, 2) := by decide +kernel
theorem dL_thoughts_311 : decode cL_thoughts 311 = .ok (.iload 10, 2) := by decide +kernel
theorem dL_thoughts_313 : decode cL_thoughts 313 = .ok (.iconst 0, 1) := by decide +kernel
theorem dL_thoughts_314 : decode cL_thoughts 314 = .ok (.iload 5, 2) := by decide +kernel
theorem dL_thoughts_316 : decode cL_thoughts 316 = .ok (.invokestatic 141, 3) := by decide +kernel
theorem dL_thoughts_319 : decode cL_thoughts 319 = .ok (.istore 14, 2) := by decide +kernel
theorem dL_thoughts_321 : decode cL_thoughts 321 = .ok (.iload 14, 2) := by decide +kernel
theorem dL_thoughts_323 : decode cL_thoughts 323 = .ok (.iconst (-1), 1) := by decide +kernel
theorem dL_thoughts_324 : decode cL_thoughts 324 = .ok (.if_icmp .lt 40, 3) := by decide +kernel
theorem dL_thoughts_327 : decode cL_thoughts 327 = .ok (.iload 14, 2) := by decide +kernel
theorem dL_thoughts_329 : decode cL_thoughts 329 = .ok (.sipush 1000, 3) := by decide +kernel
theorem dL_thoughts_332 : decode cL_thoughts 332 = .ok (.if_icmp .gt 32, 3) := by decide +kernel
theorem dL_thoughts_335 : decode cL_thoughts 335 = .ok (.iload 6, 2) := by decide +kernel
theorem dL_thoughts_337 : decode cL_thoughts 337 = .ok (.iload 5, 2) := by decide +kernel
theorem dL_thoughts_339 : decode cL_thoughts 339 = .ok (.if_icmp .ne 15, 3) := by decide +kernel
theorem dL_thoughts_342 : decode cL_thoughts 342 = .ok (.iload 14, 2) := by decide +kernel
theorem dL_thoughts_344 : decode cL_thoughts 344 = .ok (.ifCond .lt 20, 3) := by decide +kernel
theorem dL_thoughts_347 : decode cL_thoughts 347 = .ok (.iload 14, 2) := by decide +kernel
theorem dL_thoughts_349 : decode cL_thoughts 349 = .ok (.iload 11, 2) := by decide +kernel
theorem dL_thoughts_351 : decode cL_thoughts 351 = .ok (.if_icmp .gt 13, 3) := by decide +kernel
theorem dL_thoughts_354 : decode cL_thoughts 354 = .ok (.aload_n 0, 1) := by decide +kernel
theorem dL_thoughts_355 : decode cL_thoughts 355 = .ok (.invokevirtual 125, 3) := by decide +kernel
theorem dL_thoughts_358 : decode cL_thoughts 358 = .ok (.lload 12, 2) := by decide +kernel
theorem dL_thoughts_360 : decode cL_thoughts 360 = .ok (.lcmp, 1) := by decide +kernel
theorem dL_thoughts_361 : decode cL_thoughts 361 = .ok (.ifCond .eq 5, 3) := by decide +kernel
theorem dL_thoughts_364 : decode cL_thoughts 364 = .ok (.iconst 0, 1) := by decide +kernel
theorem dL_thoughts_365 : decode cL_thoughts 365 = .ok (.ireturn, 1) := by decide +kernel
theorem dL_thoughts_366 : decode cL_thoughts 366 = .ok (.iload 14, 2) := by decide +kernel
theorem dL_thoughts_368 : decode cL_thoughts 368 = .ok (.ifCond .lt 46, 3) := by decide +kernel
theorem dL_thoughts_371 : decode cL_thoughts 371 = .ok (.aload_n 0, 1) := by decide +kernel
theorem dL_thoughts_372 : decode cL_thoughts 372 = .ok (.iload 9, 2) := by decide +kernel
theorem dL_thoughts_374 : decode cL_thoughts 374 = .ok (.iload 10, 2) := by decide +kernel
theorem dL_thoughts_376 : decode cL_thoughts 376 = .ok (.iconst 0, 1) := by decide +kernel
theorem dL_thoughts_377 : decode cL_thoughts 377 = .ok (.iload 14, 2) := by decide +kernel
theorem dL_thoughts_379 : decode cL_thoughts 379 = .ok (.invokestatic 143, 3) := by decide +kernel
theorem dL_thoughts_382 : decode cL_thoughts 382 = .ok (.iload 11, 2) := by decide +kernel
theorem dL_thoughts_384 : decode cL_thoughts 384 = .ok (.if_icmp .ne 34, 3) := by decide +kernel
theorem dL_thoughts_387 : decode cL_thoughts 387 = .ok (.aload_n 0, 1) := by decide +kernel
theorem dL_thoughts_388 : decode cL_thoughts 388 = .ok (.iconst 2, 1) := by decide +kernel
theorem dL_thoughts_389 : decode cL_thoughts 389 = .ok (.invokestatic 94, 3) := by decide +kernel
theorem dL_thoughts_392 : decode cL_thoughts 392 = .ok (.iload 5, 2) := by decide +kernel
theorem dL_thoughts_394 : decode cL_thoughts 394 = .ok (.if_icmp .ne 24, 3) := by decide +kernel
theorem dL_thoughts_397 : decode cL_thoughts 397 = .ok (.aload_n 0, 1) := by decide +kernel
theorem dL_thoughts_398 : decode cL_thoughts 398 = .ok (.invokestatic 138, 3) := by decide +kernel
theorem dL_thoughts_401 : decode cL_thoughts 401 = .ok (.ifCond .lt 17, 3) := by decide +kernel
theorem dL_thoughts_404 : decode cL_thoughts 404 = .ok (.aload_n 0, 1) := by decide +kernel
theorem dL_thoughts_405 : decode cL_thoughts 405 = .ok (.iconst 2, 1) := by decide +kernel
theorem dL_thoughts_406 : decode cL_thoughts 406 = .ok (.invokestatic 94, 3) := by decide +kernel
theorem dL_thoughts_409 : decode cL_thoughts 409 = .ok (.iload 6, 2) := by decide +kernel
theorem dL_thoughts_411 : decode cL_thoughts 411 = .ok (.if_icmp .ne 7, 3) := by decide +kernel
theorem dL_thoughts_414 : decode cL_thoughts 414 = .ok (.iconst 1, 1) := by decide +kernel
theorem dL_thoughts_415 : decode cL_thoughts 415 = .ok (.goto 4, 3) := by decide +kernel
theorem dL_thoughts_418 : decode cL_thoughts 418 = .ok (.iconst 0, 1) := by decide +kernel
theorem dL_thoughts_419 : decode cL_thoughts 419 = .ok (.ireturn, 1) := by decide +kernel
theorem dL_put_0 : decode cL_put 0 = .ok (.aload_n 0, 1) := by decide +kernel
theorem dL_put_1 : decode cL_put 1 = .ok (.iload_n 1, 1) := by decide +kernel
theorem dL_put_2 : decode cL_put 2 = .ok (.invokestatic 145, 3) := by decide +kernel
theorem dL_put_5 : decode cL_put 5 = .ok (.ifCond .le 7, 3) := by decide +kernel
theorem dL_put_8 : decode cL_put 8 = .ok (.iconst 1, 1) := by decide +kernel
theorem dL_put_9 : decode cL_put 9 = .ok (.goto 6, 3) := by decide +kernel
theorem dL_put_12 : decode cL_put 12 = .ok (.sipush 1000, 3) := by decide +kernel
theorem dL_put_15 : decode cL_put 15 = .ok (.ireturn, 1) := by decide +kernel
theorem dL_name_0 : decode cL_name 0 = .ok (.iconst 0, 1) := by decide +kernel
theorem dL_name_1 : decode cL_name 1 = .ok (.istore_n 2, 1) := by decide +kernel
theorem dL_name_2 : decode cL_name 2 = .ok (.iconst 0, 1) := by decide +kernel
theorem dL_name_3 : decode cL_name 3 = .ok (.istore_n 3, 1) := by decide +kernel
theorem dL_name_4 : decode cL_name 4 = .ok (.iload_n 3, 1) := by decide +kernel
theorem dL_name_5 : decode cL_name 5 = .ok (.iconst 1, 1) := by decide +kernel
theorem dL_name_6 : decode cL_name 6 = .ok (.iload_n 1, 1) := by decide +kernel
theorem dL_name_7 : decode cL_name 7 = .ok (.iconst 4, 1) := by decide +kernel
theorem dL_name_8 : decode cL_name 8 = .ok (.ishr, 1) := by decide +kernel
theorem dL_name_9 : decode cL_name 9 = .ok (.iconst 2, 1) := by decide +kernel
theorem dL_name_10 : decode cL_name 10 = .ok (.invokestatic 133, 3) := by decide +kernel
theorem dL_name_13 : decode cL_name 13 = .ok (.iadd, 1) := by decide +kernel
theorem dL_name_14 : decode cL_name 14 = .ok (.if_icmp .ge 28, 3) := by decide +kernel
theorem dL_name_17 : decode cL_name 17 = .ok (.iload_n 2, 1) := by decide +kernel
theorem dL_name_18 : decode cL_name 18 = .ok (.aload_n 0, 1) := by decide +kernel
theorem dL_name_19 : decode cL_name 19 = .ok (.bipush 97, 2) := by decide +kernel
theorem dL_name_21 : decode cL_name 21 = .ok (.iload_n 1, 1) := by decide +kernel
theorem dL_name_22 : decode cL_name 22 = .ok (.iconst 2, 1) := by decide +kernel
theorem dL_name_23 : decode cL_name 23 = .ok (.iload_n 3, 1) := by decide +kernel
theorem dL_name_24 : decode cL_name 24 = .ok (.imul, 1) := by decide +kernel
theorem dL_name_25 : decode cL_name 25 = .ok (.ishr, 1) := by decide +kernel
theorem dL_name_26 : decode cL_name 26 = .ok (.iconst 3, 1) := by decide +kernel
theorem dL_name_27 : decode cL_name 27 = .ok (.invokestatic 133, 3) := by decide +kernel
theorem dL_name_30 : decode cL_name 30 = .ok (.iadd, 1) := by decide +kernel
theorem dL_name_31 : decode cL_name 31 = .ok (.invokestatic 147, 3) := by decide +kernel
theorem dL_name_34 : decode cL_name 34 = .ok (.iadd, 1) := by decide +kernel
theorem dL_name_35 : decode cL_name 35 = .ok (.istore_n 2, 1) := by decide +kernel
theorem dL_name_36 : decode cL_name 36 = .ok (.iinc 3 1, 3) := by decide +kernel
theorem dL_name_39 : decode cL_name 39 = .ok (.goto (-35), 3) := by decide +kernel
theorem dL_name_42 : decode cL_name 42 = .ok (.iload_n 2, 1) := by decide +kernel
theorem dL_name_43 : decode cL_name 43 = .ok (.ireturn, 1) := by decide +kernel
theorem dL_adds_0 : decode cL_adds 0 = .ok (.aload_n 0, 1) := by decide +kernel
theorem dL_adds_1 : decode cL_adds 1 = .ok (.invokevirtual 150, 3) := by decide +kernel
theorem dL_adds_4 : decode cL_adds 4 = .ok (.pop, 1) := by decide +kernel
theorem dL_adds_5 : decode cL_adds 5 = .ok (.aload_n 0, 1) := by decide +kernel
theorem dL_adds_6 : decode cL_adds 6 = .ok (.iload_n 1, 1) := by decide +kernel
theorem dL_adds_7 : decode cL_adds 7 = .ok (.invokestatic 153, 3) := by decide +kernel
theorem dL_adds_10 : decode cL_adds 10 = .ok (.aload_n 0, 1) := by decide +kernel
theorem dL_adds_11 : decode cL_adds 11 = .ok (.bipush 47, 2) := by decide +kernel
theorem dL_adds_13 : decode cL_adds 13 = .ok (.invokestatic 147, 3) := by decide +kernel
theorem dL_adds_16 : decode cL_adds 16 = .ok (.iadd, 1) := by decide +kernel
theorem dL_adds_17 : decode cL_adds 17 = .ok (.aload_n 0, 1) := by decide +kernel
theorem dL_adds_18 : decode cL_adds 18 = .ok (.iload_n 1, 1) := by decide +kernel
theorem dL_adds_19 : decode cL_adds 19 = .ok (.iconst 3, 1) := by decide +kernel
theorem dL_adds_20 : decode cL_adds 20 = .ok (.ishr, 1) := by decide +kernel
theorem dL_adds_21 : decode cL_adds 21 = .ok (.invokestatic 153, 3) := by decide +kernel
theorem dL_adds_24 : decode cL_adds 24 = .ok (.iadd, 1) := by decide +kernel
theorem dL_adds_25 : decode cL_adds 25 = .ok (.aload_n 0, 1) := by decide +kernel
theorem dL_adds_26 : decode cL_adds 26 = .ok (.bipush 32, 2) := by decide +kernel
theorem dL_adds_28 : decode cL_adds 28 = .ok (.invokestatic 147, 3) := by decide +kernel
theorem dL_adds_31 : decode cL_adds 31 = .ok (.iadd, 1) := by decide +kernel
theorem dL_adds_32 : decode cL_adds 32 = .ok (.aload_n 0, 1) := by decide +kernel
theorem dL_adds_33 : decode cL_adds 33 = .ok (.iload_n 1, 1) := by decide +kernel
theorem dL_adds_34 : decode cL_adds 34 = .ok (.bipush 6, 2) := by decide +kernel
theorem dL_adds_36 : decode cL_adds 36 = .ok (.ishr, 1) := by decide +kernel
theorem dL_adds_37 : decode cL_adds 37 = .ok (.invokestatic 153, 3) := by decide +kernel
theorem dL_adds_40 : decode cL_adds 40 = .ok (.iadd, 1) := by decide +kernel
theorem dL_adds_41 : decode cL_adds 41 = .ok (.aload_n 0, 1) := by decide +kernel
theorem dL_adds_42 : decode cL_adds 42 = .ok (.bipush 45, 2) := by decide +kernel
theorem dL_adds_44 : decode cL_adds 44 = .ok (.invokestatic 147, 3) := by decide +kernel
theorem dL_adds_47 : decode cL_adds 47 = .ok (.iadd, 1) := by decide +kernel
theorem dL_adds_48 : decode cL_adds 48 = .ok (.aload_n 0, 1) := by decide +kernel
theorem dL_adds_49 : decode cL_adds 49 = .ok (.iload_n 1, 1) := by decide +kernel
theorem dL_adds_50 : decode cL_adds 50 = .ok (.bipush 9, 2) := by decide +kernel
theorem dL_adds_52 : decode cL_adds 52 = .ok (.ishr, 1) := by decide +kernel
theorem dL_adds_53 : decode cL_adds 53 = .ok (.invokestatic 153, 3) := by decide +kernel
theorem dL_adds_56 : decode cL_adds 56 = .ok (.iadd, 1) := by decide +kernel
theorem dL_adds_57 : decode cL_adds 57 = .ok (.aload_n 0, 1) := by decide +kernel
theorem dL_adds_58 : decode cL_adds 58 = .ok (.bipush 32, 2) := by decide +kernel
theorem dL_adds_60 : decode cL_adds 60 = .ok (.invokestatic 147, 3) := by decide +kernel
theorem dL_adds_63 : decode cL_adds 63 = .ok (.iadd, 1) := by decide +kernel
theorem dL_adds_64 : decode cL_adds 64 = .ok (.aload_n 0, 1) := by decide +kernel
theorem dL_adds_65 : decode cL_adds 65 = .ok (.iload_n 1, 1) := by decide +kernel
theorem dL_adds_66 : decode cL_adds 66 = .ok (.bipush 12, 2) := by decide +kernel
theorem dL_adds_68 : decode cL_adds 68 = .ok (.ishr, 1) := by decide +kernel
theorem dL_adds_69 : decode cL_adds 69 = .ok (.invokestatic 153, 3) := by decide +kernel
theorem dL_adds_72 : decode cL_adds 72 = .ok (.iadd, 1) := by decide +kernel
theorem dL_adds_73 : decode cL_adds 73 = .ok (.aload_n 0, 1) := by decide +kernel
theorem dL_adds_74 : decode cL_adds 74 = .ok (.bipush 32, 2) := by decide +kernel
theorem dL_adds_76 : decode cL_adds 76 = .ok (.invokestatic 147, 3) := by decide +kernel
theorem dL_adds_79 : decode cL_adds 79 = .ok (.iadd, 1) := by decide +kernel
theorem dL_adds_80 : decode cL_adds 80 = .ok (.aload_n 0, 1) := by decide +kernel
theorem dL_adds_81 : decode cL_adds 81 = .ok (.bipush 49, 2) := by decide +kernel
theorem dL_adds_83 : decode cL_adds 83 = .ok (.iload_n 2, 1) := by decide +kernel
theorem dL_adds_84 : decode cL_adds 84 = .ok (.bipush 9, 2) := by decide +kernel
theorem dL_adds_86 : decode cL_adds 86 = .ok (.invokestatic 133, 3) := by decide +kernel
theorem dL_adds_89 : decode cL_adds 89 = .ok (.iadd, 1) := by decide +kernel
theorem dL_adds_90 : decode cL_adds 90 = .ok (.invokestatic 147, 3) := by decide +kernel
theorem dL_adds_93 : decode cL_adds 93 = .ok (.iadd, 1) := by decide +kernel
theorem dL_adds_94 : decode cL_adds 94 = .ok (.aload_n 0, 1) := by decide +kernel
theorem dL_adds_95 : decode cL_adds 95 = .ok (.bipush 48, 2) := by decide +kernel
theorem dL_adds_97 : decode cL_adds 97 = .ok (.iload_n 2, 1) := by decide +kernel
theorem dL_adds_98 : decode cL_adds 98 = .ok (.iconst 4, 1) := by decide +kernel
theorem dL_adds_99 : decode cL_adds 99 = .ok (.ishr, 1) := by decide +kernel
theorem dL_adds_100 : decode cL_adds 100 = .ok (.bipush 10, 2) := by decide +kernel
theorem dL_adds_102 : decode cL_adds 102 = .ok (.invokestatic 133, 3) := by decide +kernel
theorem dL_adds_105 : decode cL_adds 105 = .ok (.iadd, 1) := by decide +kernel
theorem dL_adds_106 : decode cL_adds 106 = .ok (.invokestatic 147, 3) := by decide +kernel
theorem dL_adds_109 : decode cL_adds 109 = .ok (.iadd, 1) := by decide +kernel
theorem dL_adds_110 : decode cL_adds 110 = .ok (.istore_n 3, 1) := by decide +kernel
theorem dL_adds_111 : decode cL_adds 111 = .ok (.aload_n 0, 1) := by decide +kernel
theorem dL_adds_112 : decode cL_adds 112 = .ok (.iconst 0, 1) := by decide +kernel
theorem dL_adds_113 : decode cL_adds 113 = .ok (.invokestatic 94, 3) := by decide +kernel
theorem dL_adds_116 : decode cL_adds 116 = .ok (.istore 4, 2) := by decide +kernel
theorem dL_adds_118 : decode cL_adds 118 = .ok (.aload_n 0, 1) := by decide +kernel
theorem dL_adds_119 : decode cL_adds 119 = .ok (.invokevirtual 156, 3) := by decide +kernel
theorem dL_adds_122 : decode cL_adds 122 = .ok (.iconst (-1), 1) := by decide +kernel
theorem dL_adds_123 : decode cL_adds 123 = .ok (.if_icmp .ne 21, 3) := by decide +kernel
theorem dL_adds_126 : decode cL_adds 126 = .ok (.aload_n 0, 1) := by decide +kernel
theorem dL_adds_127 : decode cL_adds 127 = .ok (.bipush 6, 2) := by decide +kernel
theorem dL_adds_129 : decode cL_adds 129 = .ok (.invokestatic 94, 3) := by decide +kernel
theorem dL_adds_132 : decode cL_adds 132 = .ok (.iload_n 3, 1) := by decide +kernel
theorem dL_adds_133 : decode cL_adds 133 = .ok (.if_icmp .ne 11, 3) := by decide +kernel
theorem dL_adds_136 : decode cL_adds 136 = .ok (.aload_n 0, 1) := by decide +kernel
theorem dL_adds_137 : decode cL_adds 137 = .ok (.iconst 0, 1) := by decide +kernel
theorem dL_adds_138 : decode cL_adds 138 = .ok (.invokestatic 159, 3) := by decide +kernel
theorem dL_adds_141 : decode cL_adds 141 = .ok (.ifCond .ge 5, 3) := by decide +kernel
theorem dL_adds_144 : decode cL_adds 144 = .ok (.iconst 0, 1) := by decide +kernel
theorem dL_adds_145 : decode cL_adds 145 = .ok (.ireturn, 1) := by decide +kernel
theorem dL_adds_146 : decode cL_adds 146 = .ok (.aload_n 0, 1) := by decide +kernel
theorem dL_adds_147 : decode cL_adds 147 = .ok (.invokestatic 161, 3) := by decide +kernel
theorem dL_adds_150 : decode cL_adds 150 = .ok (.istore 5, 2) := by decide +kernel
theorem dL_adds_152 : decode cL_adds 152 = .ok (.iload 5, 2) := by decide +kernel
theorem dL_adds_154 : decode cL_adds 154 = .ok (.ldc 20, 2) := by decide +kernel
theorem dL_adds_156 : decode cL_adds 156 = .ok (.if_icmp .ne 19, 3) := by decide +kernel
theorem dL_adds_159 : decode cL_adds 159 = .ok (.aload_n 0, 1) := by decide +kernel
theorem dL_adds_160 : decode cL_adds 160 = .ok (.iconst 0, 1) := by decide +kernel
theorem dL_adds_161 : decode cL_adds 161 = .ok (.invokestatic 94, 3) := by decide +kernel
theorem dL_adds_164 : decode cL_adds 164 = .ok (.iload 4, 2) := by decide +kernel
theorem dL_adds_166 : decode cL_adds 166 = .ok (.if_icmp .ne 7, 3) := by decide +kernel
theorem dL_adds_169 : decode cL_adds 169 = .ok (.iconst 1, 1) := by decide +kernel
theorem dL_adds_170 : decode cL_adds 170 = .ok (.goto 4, 3) := by decide +kernel
theorem dL_adds_173 : decode cL_adds 173 = .ok (.iconst 0, 1) := by decide +kernel
theorem dL_adds_174 : decode cL_adds 174 = .ok (.ireturn, 1) := by decide +kernel
theorem dL_adds_175 : decode cL_adds 175 = .ok (.iload 5, 2) := by decide +kernel
theorem dL_adds_177 : decode cL_adds 177 = .ok (.iload 4, 2) := by decide +kernel
theorem dL_adds_179 : decode cL_adds 179 = .ok (.if_icmp .ne 78, 3) := by decide +kernel
theorem dL_adds_182 : decode cL_adds 182 = .ok (.iload 4, 2) := by decide +kernel
theorem dL_adds_184 : decode cL_adds 184 = .ok (.bipush 16, 2) := by decide +kernel
theorem dL_adds_186 : decode cL_adds 186 = .ok (.if_icmp .ge 71, 3) := by decide +kernel
theorem dL_adds_189 : decode cL_adds 189 = .ok (.aload_n 0, 1) := by decide +kernel
theorem dL_adds_190 : decode cL_adds 190 = .ok (.iload 5, 2) := by decide +kernel
theorem dL_adds_192 : decode cL_adds 192 = .ok (.iconst 0, 1) := by decide +kernel
theorem dL_adds_193 : decode cL_adds 193 = .ok (.invokestatic 99, 3) := by decide +kernel
theorem dL_adds_196 : decode cL_adds 196 = .ok (.bipush 10, 2) := by decide +kernel
theorem dL_adds_198 : decode cL_adds 198 = .ok (.iconst 1, 1) := by decide +kernel
theorem dL_adds_199 : decode cL_adds 199 = .ok (.iload_n 2, 1) := by decide +kernel
theorem dL_adds_200 : decode cL_adds 200 = .ok (.bipush 9, 2) := by decide +kernel
theorem dL_adds_202 : decode cL_adds 202 = .ok (.invokestatic 133, 3) := by decide +kernel
theorem dL_adds_205 : decode cL_adds 205 = .ok (.iadd, 1) := by decide +kernel
theorem dL_adds_206 : decode cL_adds 206 = .ok (.imul, 1) := by decide +kernel
theorem dL_adds_207 : decode cL_adds 207 = .ok (.iload_n 2, 1) := by decide +kernel
theorem dL_adds_208 : decode cL_adds 208 = .ok (.iconst 4, 1) := by decide +kernel
theorem dL_adds_209 : decode cL_adds 209 = .ok (.ishr, 1) := by decide +kernel
theorem dL_adds_210 : decode cL_adds 210 = .ok (.bipush 10, 2) := by decide +kernel
theorem dL_adds_212 : decode cL_adds 212 = .ok (.invokestatic 133, 3) := by decide +kernel
theorem dL_adds_215 : decode cL_adds 215 = .ok (.iadd, 1) := by decide +kernel
theorem dL_adds_216 : decode cL_adds 216 = .ok (.if_icmp .ne 41, 3) := by decide +kernel
theorem dL_adds_219 : decode cL_adds 219 = .ok (.aload_n 0, 1) := by decide +kernel
theorem dL_adds_220 : decode cL_adds 220 = .ok (.iload 5, 2) := by decide +kernel
theorem dL_adds_222 : decode cL_adds 222 = .ok (.iconst 1, 1) := by decide +kernel
theorem dL_adds_223 : decode cL_adds 223 = .ok (.invokestatic 99, 3) := by decide +kernel
theorem dL_adds_226 : decode cL_adds 226 = .ok (.sipush 1000, 3) := by decide +kernel
theorem dL_adds_229 : decode cL_adds 229 = .ok (.if_icmp .ne 28, 3) := by decide +kernel
theorem dL_adds_232 : decode cL_adds 232 = .ok (.aload_n 0, 1) := by decide +kernel
theorem dL_adds_233 : decode cL_adds 233 = .ok (.iload 5, 2) := by decide +kernel
theorem dL_adds_235 : decode cL_adds 235 = .ok (.bipush 6, 2) := by decide +kernel
theorem dL_adds_237 : decode cL_adds 237 = .ok (.invokestatic 99, 3) := by decide +kernel
theorem dL_adds_240 : decode cL_adds 240 = .ok (.iconst 2, 1) := by decide +kernel
theorem dL_adds_241 : decode cL_adds 241 = .ok (.if_icmp .ne 16, 3) := by decide +kernel
theorem dL_adds_244 : decode cL_adds 244 = .ok (.aload_n 0, 1) := by decide +kernel
theorem dL_adds_245 : decode cL_adds 245 = .ok (.invokestatic 161, 3) := by decide +kernel
theorem dL_adds_248 : decode cL_adds 248 = .ok (.ldc 20, 2) := by decide +kernel
theorem dL_adds_250 : decode cL_adds 250 = .ok (.if_icmp .ne 7, 3) := by decide +kernel
theorem dL_adds_253 : decode cL_adds 253 = .ok (.iconst 1, 1) := by decide +kernel
theorem dL_adds_254 : decode cL_adds 254 = .ok (.goto 4, 3) := by decide +kernel
theorem dL_adds_257 : decode cL_adds 257 = .ok (.iconst 0, 1) := by decide +kernel
theorem dL_adds_258 : decode cL_adds 258 = .ok (.ireturn, 1) := by decide +kernel
theorem dL_takes_0 : decode cL_takes 0 = .ok (.aload_n 0, 1) := by decide +kernel
theorem dL_takes_1 : decode cL_takes 1 = .ok (.invokevirtual 150, 3) := by decide +kernel
theorem dL_takes_4 : decode cL_takes 4 = .ok (.pop, 1) := by decide +kernel
theorem dL_takes_5 : decode cL_takes 5 = .ok (.iload_n 3, 1) := by decide +kernel
theorem dL_takes_6 : decode cL_takes 6 = .ok (.iconst 5, 1) := by decide +kernel
theorem dL_takes_7 : decode cL_takes 7 = .ok (.invokestatic 133, 3) := by decide +kernel
theorem dL_takes_10 : decode cL_takes 10 = .ok (.istore 4, 2) := by decide +kernel
theorem dL_takes_12 : decode cL_takes 12 = .ok (.aload_n 0, 1) := by decide +kernel
theorem dL_takes_13 : decode cL_takes 13 = .ok (.iconst 4, 1) := by decide +kernel
theorem dL_takes_14 : decode cL_takes 14 = .ok (.iload_n 1, 1) := by decide +kernel
theorem dL_takes_15 : decode cL_takes 15 = .ok (.iadd, 1) := by decide +kernel
theorem dL_takes_16 : decode cL_takes 16 = .ok (.invokestatic 94, 3) := by decide +kernel
theorem dL_takes_19 : decode cL_takes 19 = .ok (.istore 5, 2) := by decide +kernel
theorem dL_takes_21 : decode cL_takes 21 = .ok (.iconst 0, 1) := by decide +kernel
theorem dL_takes_22 : decode cL_takes 22 = .ok (.istore 6, 2) := by decide +kernel
theorem dL_takes_24 : decode cL_takes 24 = .ok (.aload_n 0, 1) := by decide +kernel
theorem dL_takes_25 : decode cL_takes 25 = .ok (.iload_n 1, 1) := by decide +kernel
theorem dL_takes_26 : decode cL_takes 26 = .ok (.iload_n 2, 1) := by decide +kernel
theorem dL_takes_27 : decode cL_takes 27 = .ok (.iload 6, 2) := by decide +kernel
theorem dL_takes_29 : decode cL_takes 29 = .ok (.iconst 0, 1) := by decide +kernel
theorem dL_takes_30 : decode cL_takes 30 = .ok (.invokestatic 107, 3) := by decide +kernel
theorem dL_takes_33 : decode cL_takes 33 = .ok (.ifCond .lt 9, 3) := by decide +kernel
theorem dL_takes_36 : decode cL_takes 36 = .ok (.iinc 6 1, 3) := by decide +kernel
theorem dL_takes_39 : decode cL_takes 39 = .ok (.goto (-15), 3) := by decide +kernel
theorem dL_takes_42 : decode cL_takes 42 = .ok (.iconst 0, 1) := by decide +kernel
theorem dL_takes_43 : decode cL_takes 43 = .ok (.istore 7, 2) := by decide +kernel
theorem dL_takes_45 : decode cL_takes 45 = .ok (.iconst 0, 1) := by decide +kernel
theorem dL_takes_46 : decode cL_takes 46 = .ok (.istore 8, 2) := by decide +kernel
theorem dL_takes_48 : decode cL_takes 48 = .ok (.iload 8, 2) := by decide +kernel
theorem dL_takes_50 : decode cL_takes 50 = .ok (.iload 4, 2) := by decide +kernel
theorem dL_takes_52 : decode cL_takes 52 = .ok (.if_icmp .ge 250, 3) := by decide +kernel
theorem dL_takes_55 : decode cL_takes 55 = .ok (.iload_n 3, 1) := by decide +kernel
theorem dL_takes_56 : decode cL_takes 56 = .ok (.iconst 3, 1) := by decide +kernel
theorem dL_takes_57 : decode cL_takes 57 = .ok (.iconst 3, 1) := by decide +kernel
theorem dL_takes_58 : decode cL_takes 58 = .ok (.iload 8, 2) := by decide +kernel
theorem dL_takes_60 : decode cL_takes 60 = .ok (.imul, 1) := by decide +kernel
theorem dL_takes_61 : decode cL_takes 61 = .ok (.iadd, 1) := by decide +kernel
theorem dL_takes_62 : decode cL_takes 62 = .ok (.ishr, 1) := by decide +kernel
theorem dL_takes_63 : decode cL_takes 63 = .ok (.istore 9, 2) := by decide +kernel
theorem dL_takes_65 : decode cL_takes 65 = .ok (.iload 7, 2) := by decide +kernel
theorem dL_takes_67 : decode cL_takes 67 = .ok (.iload 8, 2) := by decide +kernel
theorem dL_takes_69 : decode cL_takes 69 = .ok (.ifCond .le 19, 3) := by decide +kernel
theorem dL_takes_72 : decode cL_takes 72 = .ok (.aload_n 0, 1) := by decide +kernel
theorem dL_takes_73 : decode cL_takes 73 = .ok (.bipush 44, 2) := by decide +kernel
theorem dL_takes_75 : decode cL_takes 75 = .ok (.invokestatic 147, 3) := by decide +kernel
theorem dL_takes_78 : decode cL_takes 78 = .ok (.aload_n 0, 1) := by decide +kernel
theorem dL_takes_79 : decode cL_takes 79 = .ok (.bipush 32, 2) := by decide +kernel
theorem dL_takes_81 : decode cL_takes 81 = .ok (.invokestatic 147, 3) := by decide +kernel
theorem dL_takes_84 : decode cL_takes 84 = .ok (.iadd, 1) := by decide +kernel
theorem dL_takes_85 : decode cL_takes 85 = .ok (.goto 4, 3) := by decide +kernel
theorem dL_takes_88 : decode cL_takes 88 = .ok (.iconst 0, 1) := by decide +kernel
theorem dL_takes_89 : decode cL_takes 89 = .ok (.iadd, 1) := by decide +kernel
theorem dL_takes_90 : decode cL_takes 90 = .ok (.istore 7, 2) := by decide +kernel
theorem dL_takes_92 : decode cL_takes 92 = .ok (.iload_n 2, 1) := by decide +kernel
theorem dL_takes_93 : decode cL_takes 93 = .ok (.ifCond .ne 90, 3) := by decide +kernel
theorem dL_takes_96 : decode cL_takes 96 = .ok (.iload 7, 2) := by decide +kernel
theorem dL_takes_98 : decode cL_takes 98 = .ok (.iload 9, 2) := by decide +kernel
theorem dL_takes_100 : decode cL_takes 100 = .ok (.iconst 4, 1) := by decide +kernel
theorem dL_takes_101 : decode cL_takes 101 = .ok (.invokestatic 133, 3) := by decide +kernel
theorem dL_takes_104 : decode cL_takes 104 = .ok (.ifCond .ne 12, 3) := by decide +kernel
theorem dL_takes_107 : decode cL_takes 107 = .ok (.aload_n 0, 1) := by decide +kernel
theorem dL_takes_108 : decode cL_takes 108 = .ok (.bipush 42, 2) := by decide +kernel
theorem dL_takes_110 : decode cL_takes 110 = .ok (.invokestatic 147, 3) := by decide +kernel
theorem dL_takes_113 : decode cL_takes 113 = .ok (.goto 12, 3) := by decide +kernel
theorem dL_takes_116 : decode cL_takes 116 = .ok (.aload_n 0, 1) := by decide +kernel
theorem dL_takes_117 : decode cL_takes 117 = .ok (.iload 9, 2) := by decide +kernel
theorem dL_takes_119 : decode cL_takes 119 = .ok (.bipush 31, 2) := by decide +kernel
theorem dL_takes_121 : decode cL_takes 121 = .ok (.iand, 1) := by decide +kernel
theorem dL_takes_122 : decode cL_takes 122 = .ok (.invokestatic 153, 3) := by decide +kernel
theorem dL_takes_125 : decode cL_takes 125 = .ok (.iadd, 1) := by decide +kernel
theorem dL_takes_126 : decode cL_takes 126 = .ok (.istore 7, 2) := by decide +kernel
theorem dL_takes_128 : decode cL_takes 128 = .ok (.iload 7, 2) := by decide +kernel
theorem dL_takes_130 : decode cL_takes 130 = .ok (.aload_n 0, 1) := by decide +kernel
theorem dL_takes_131 : decode cL_takes 131 = .ok (.bipush 47, 2) := by decide +kernel
theorem dL_takes_133 : decode cL_takes 133 = .ok (.invokestatic 147, 3) := by decide +kernel
theorem dL_takes_136 : decode cL_takes 136 = .ok (.iload 9, 2) := by decide +kernel
theorem dL_takes_138 : decode cL_takes 138 = .ok (.iconst 4, 1) := by decide +kernel
theorem dL_takes_139 : decode cL_takes 139 = .ok (.invokestatic 133, 3) := by decide +kernel
theorem dL_takes_142 : decode cL_takes 142 = .ok (.ifCond .eq 14, 3) := by decide +kernel
theorem dL_takes_145 : decode cL_takes 145 = .ok (.iload 9, 2) := by decide +kernel
theorem dL_takes_147 : decode cL_takes 147 = .ok (.iconst 3, 1) := by decide +kernel
theorem dL_takes_148 : decode cL_takes 148 = .ok (.ishr, 1) := by decide +kernel
theorem dL_takes_149 : decode cL_takes 149 = .ok (.iconst 3, 1) := by decide +kernel
theorem dL_takes_150 : decode cL_takes 150 = .ok (.invokestatic 133, 3) := by decide +kernel
theorem dL_takes_153 : decode cL_takes 153 = .ok (.ifCond .ne 12, 3) := by decide +kernel
theorem dL_takes_156 : decode cL_takes 156 = .ok (.aload_n 0, 1) := by decide +kernel
theorem dL_takes_157 : decode cL_takes 157 = .ok (.bipush 42, 2) := by decide +kernel
theorem dL_takes_159 : decode cL_takes 159 = .ok (.invokestatic 147, 3) := by decide +kernel
theorem dL_takes_162 : decode cL_takes 162 = .ok (.goto 14, 3) := by decide +kernel
theorem dL_takes_165 : decode cL_takes 165 = .ok (.aload_n 0, 1) := by decide +kernel
theorem dL_takes_166 : decode cL_takes 166 = .ok (.iload 9, 2) := by decide +kernel
theorem dL_takes_168 : decode cL_takes 168 = .ok (.iconst 2, 1) := by decide +kernel
theorem dL_takes_169 : decode cL_takes 169 = .ok (.ishr, 1) := by decide +kernel
theorem dL_takes_170 : decode cL_takes 170 = .ok (.bipush 31, 2) := by decide +kernel
theorem dL_takes_172 : decode cL_takes 172 = .ok (.iand, 1) := by decide +kernel
theorem dL_takes_173 : decode cL_takes 173 = .ok (.invokestatic 153, 3) := by decide +kernel
theorem dL_takes_176 : decode cL_takes 176 = .ok (.iadd, 1) := by decide +kernel
theorem dL_takes_177 : decode cL_takes 177 = .ok (.iadd, 1) := by decide +kernel
theorem dL_takes_178 : decode cL_takes 178 = .ok (.istore 7, 2) := by decide +kernel
theorem dL_takes_180 : decode cL_takes 180 = .ok (.goto 35, 3) := by decide +kernel
theorem dL_takes_183 : decode cL_takes 183 = .ok (.iload 7, 2) := by decide +kernel
theorem dL_takes_185 : decode cL_takes 185 = .ok (.iload 9, 2) := by decide +kernel
theorem dL_takes_187 : decode cL_takes 187 = .ok (.iconst 4, 1) := by decide +kernel
theorem dL_takes_188 : decode cL_takes 188 = .ok (.invokestatic 133, 3) := by decide +kernel
theorem dL_takes_191 : decode cL_takes 191 = .ok (.ifCond .ne 12, 3) := by decide +kernel
theorem dL_takes_194 : decode cL_takes 194 = .ok (.aload_n 0, 1) := by decide +kernel
theorem dL_takes_195 : decode cL_takes 195 = .ok (.bipush 42, 2) := by decide +kernel
theorem dL_takes_197 : decode cL_takes 197 = .ok (.invokestatic 147, 3) := by decide +kernel
theorem dL_takes_200 : decode cL_takes 200 = .ok (.goto 12, 3) := by decide +kernel
theorem dL_takes_203 : decode cL_takes 203 = .ok (.aload_n 0, 1) := by decide +kernel
theorem dL_takes_204 : decode cL_takes 204 = .ok (.iload 9, 2) := by decide +kernel
theorem dL_takes_206 : decode cL_takes 206 = .ok (.bipush 31, 2) := by decide +kernel
theorem dL_takes_208 : decode cL_takes 208 = .ok (.iand, 1) := by decide +kernel
theorem dL_takes_209 : decode cL_takes 209 = .ok (.invokestatic 153, 3) := by decide +kernel
theorem dL_takes_212 : decode cL_takes 212 = .ok (.iadd, 1) := by decide +kernel
theorem dL_takes_213 : decode cL_takes 213 = .ok (.istore 7, 2) := by decide +kernel
theorem dL_takes_215 : decode cL_takes 215 = .ok (.iload 7, 2) := by decide +kernel
theorem dL_takes_217 : decode cL_takes 217 = .ok (.iload 9, 2) := by decide +kernel
theorem dL_takes_219 : decode cL_takes 219 = .ok (.iconst 4, 1) := by decide +kernel
theorem dL_takes_220 : decode cL_takes 220 = .ok (.ishr, 1) := by decide +kernel
theorem dL_takes_221 : decode cL_takes 221 = .ok (.iconst 3, 1) := by decide +kernel
theorem dL_takes_222 : decode cL_takes 222 = .ok (.invokestatic 133, 3) := by decide +kernel
theorem dL_takes_225 : decode cL_takes 225 = .ok (.ifCond .ne 7, 3) := by decide +kernel
theorem dL_takes_228 : decode cL_takes 228 = .ok (.iconst 0, 1) := by decide +kernel
theorem dL_takes_229 : decode cL_takes 229 = .ok (.goto 64, 3) := by decide +kernel
theorem dL_takes_232 : decode cL_takes 232 = .ok (.aload_n 0, 1) := by decide +kernel
theorem dL_takes_233 : decode cL_takes 233 = .ok (.bipush 32, 2) := by decide +kernel
theorem dL_takes_235 : decode cL_takes 235 = .ok (.invokestatic 147, 3) := by decide +kernel
theorem dL_takes_238 : decode cL_takes 238 = .ok (.aload_n 0, 1) := by decide +kernel
theorem dL_takes_239 : decode cL_takes 239 = .ok (.bipush 59, 2) := by decide +kernel
theorem dL_takes_241 : decode cL_takes 241 = .ok (.invokestatic 147, 3) := by decide +kernel
theorem dL_takes_244 : decode cL_takes 244 = .ok (.iadd, 1) := by decide +kernel
theorem dL_takes_245 : decode cL_takes 245 = .ok (.aload_n 0, 1) := by decide +kernel
theorem dL_takes_246 : decode cL_takes 246 = .ok (.bipush 48, 2) := by decide +kernel
theorem dL_takes_248 : decode cL_takes 248 = .ok (.invokestatic 147, 3) := by decide +kernel
theorem dL_takes_251 : decode cL_takes 251 = .ok (.iadd, 1) := by decide +kernel
theorem dL_takes_252 : decode cL_takes 252 = .ok (.aload_n 0, 1) := by decide +kernel
theorem dL_takes_253 : decode cL_takes 253 = .ok (.bipush 48, 2) := by decide +kernel
theorem dL_takes_255 : decode cL_takes 255 = .ok (.iload 9, 2) := by decide +kernel
theorem dL_takes_257 : decode cL_takes 257 = .ok (.iconst 5, 1) := by decide +kernel
theorem dL_takes_258 : decode cL_takes 258 = .ok (.ishr, 1) := by decide +kernel
theorem dL_takes_259 : decode cL_takes 259 = .ok (.bipush 10, 2) := by decide +kernel
theorem dL_takes_261 : decode cL_takes 261 = .ok (.invokestatic 133, 3) := by decide +kernel
theorem dL_takes_264 : decode cL_takes 264 = .ok (.iadd, 1) := by decide +kernel
theorem dL_takes_265 : decode cL_takes 265 = .ok (.invokestatic 147, 3) := by decide +kernel
theorem dL_takes_268 : decode cL_takes 268 = .ok (.iadd, 1) := by decide +kernel
theorem dL_takes_269 : decode cL_takes 269 = .ok (.aload_n 0, 1) := by decide +kernel
theorem dL_takes_270 : decode cL_takes 270 = .ok (.bipush 48, 2) := by decide +kernel
theorem dL_takes_272 : decode cL_takes 272 = .ok (.iload 9, 2) := by decide +kernel
theorem dL_takes_274 : decode cL_takes 274 = .ok (.iconst 2, 1) := by decide +kernel
theorem dL_takes_275 : decode cL_takes 275 = .ok (.ishr, 1) := by decide +kernel
theorem dL_takes_276 : decode cL_takes 276 = .ok (.bipush 10, 2) := by decide +kernel
theorem dL_takes_278 : decode cL_takes 278 = .ok (.invokestatic 133, 3) := by decide +kernel
theorem dL_takes_281 : decode cL_takes 281 = .ok (.iadd, 1) := by decide +kernel
theorem dL_takes_282 : decode cL_takes 282 = .ok (.invokestatic 147, 3) := by decide +kernel
theorem dL_takes_285 : decode cL_takes 285 = .ok (.iadd, 1) := by decide +kernel
theorem dL_takes_286 : decode cL_takes 286 = .ok (.aload_n 0, 1) := by decide +kernel
theorem dL_takes_287 : decode cL_takes 287 = .ok (.bipush 48, 2) := by decide +kernel
theorem dL_takes_289 : decode cL_takes 289 = .ok (.invokestatic 147, 3) := by decide +kernel
theorem dL_takes_292 : decode cL_takes 292 = .ok (.iadd, 1) := by decide +kernel
theorem dL_takes_293 : decode cL_takes 293 = .ok (.iadd, 1) := by decide +kernel
theorem dL_takes_294 : decode cL_takes 294 = .ok (.istore 7, 2) := by decide +kernel
theorem dL_takes_296 : decode cL_takes 296 = .ok (.iinc 8 1, 3) := by decide +kernel
theorem dL_takes_299 : decode cL_takes 299 = .ok (.goto (-251), 3) := by decide +kernel
theorem dL_takes_302 : decode cL_takes 302 = .ok (.aload_n 0, 1) := by decide +kernel
theorem dL_takes_303 : decode cL_takes 303 = .ok (.iload_n 2, 1) := by decide +kernel
theorem dL_takes_304 : decode cL_takes 304 = .ok (.invokestatic 159, 3) := by decide +kernel
theorem dL_takes_307 : decode cL_takes 307 = .ok (.iconst (-1), 1) := by decide +kernel
theorem dL_takes_308 : decode cL_takes 308 = .ok (.if_icmp .ne 57, 3) := by decide +kernel
theorem dL_takes_311 : decode cL_takes 311 = .ok (.aload_n 0, 1) := by decide +kernel
theorem dL_takes_312 : decode cL_takes 312 = .ok (.bipush 6, 2) := by decide +kernel
theorem dL_takes_314 : decode cL_takes 314 = .ok (.invokestatic 94, 3) := by decide +kernel
theorem dL_takes_317 : decode cL_takes 317 = .ok (.iload 7, 2) := by decide +kernel
theorem dL_takes_319 : decode cL_takes 319 = .ok (.if_icmp .ne 46, 3) := by decide +kernel
theorem dL_takes_322 : decode cL_takes 322 = .ok (.aload_n 0, 1) := by decide +kernel
theorem dL_takes_323 : decode cL_takes 323 = .ok (.iload_n 1, 1) := by decide +kernel
theorem dL_takes_324 : decode cL_takes 324 = .ok (.iload_n 2, 1) := by decide +kernel
theorem dL_takes_325 : decode cL_takes 325 = .ok (.invokestatic 163, 3) := by decide +kernel
theorem dL_takes_328 : decode cL_takes 328 = .ok (.iload 4, 2) := by decide +kernel
theorem dL_takes_330 : decode cL_takes 330 = .ok (.if_icmp .ne 35, 3) := by decide +kernel
theorem dL_takes_333 : decode cL_takes 333 = .ok (.aload_n 0, 1) := by decide +kernel
theorem dL_takes_334 : decode cL_takes 334 = .ok (.iconst 4, 1) := by decide +kernel
theorem dL_takes_335 : decode cL_takes 335 = .ok (.iload_n 1, 1) := by decide +kernel
theorem dL_takes_336 : decode cL_takes 336 = .ok (.iadd, 1) := by decide +kernel
theorem dL_takes_337 : decode cL_takes 337 = .ok (.invokestatic 94, 3) := by decide +kernel
theorem dL_takes_340 : decode cL_takes 340 = .ok (.iload 5, 2) := by decide +kernel
theorem dL_takes_342 : decode cL_takes 342 = .ok (.iload 6, 2) := by decide +kernel
theorem dL_takes_344 : decode cL_takes 344 = .ok (.isub, 1) := by decide +kernel
theorem dL_takes_345 : decode cL_takes 345 = .ok (.iload 4, 2) := by decide +kernel
theorem dL_takes_347 : decode cL_takes 347 = .ok (.iadd, 1) := by decide +kernel
theorem dL_takes_348 : decode cL_takes 348 = .ok (.if_icmp .ne 17, 3) := by decide +kernel
theorem dL_takes_351 : decode cL_takes 351 = .ok (.aload_n 0, 1) := by decide +kernel
theorem dL_takes_352 : decode cL_takes 352 = .ok (.iload_n 1, 1) := by decide +kernel
theorem dL_takes_353 : decode cL_takes 353 = .ok (.iload_n 2, 1) := by decide +kernel
theorem dL_takes_354 : decode cL_takes 354 = .ok (.iload 4, 2) := by decide +kernel
theorem dL_takes_356 : decode cL_takes 356 = .ok (.iconst 0, 1) := by decide +kernel
theorem dL_takes_357 : decode cL_takes 357 = .ok (.invokestatic 107, 3) := by decide +kernel
theorem dL_takes_360 : decode cL_takes 360 = .ok (.ldc 26, 2) := by decide +kernel
theorem dL_takes_362 : decode cL_takes 362 = .ok (.if_icmp .eq 5, 3) := by decide +kernel
theorem dL_takes_365 : decode cL_takes 365 = .ok (.iconst 0, 1) := by decide +kernel
theorem dL_takes_366 : decode cL_takes 366 = .ok (.ireturn, 1) := by decide +kernel
theorem dL_takes_367 : decode cL_takes 367 = .ok (.iload_n 3, 1) := by decide +kernel
theorem dL_takes_368 : decode cL_takes 368 = .ok (.bipush 20, 2) := by decide +kernel
theorem dL_takes_370 : decode cL_takes 370 = .ok (.ishr, 1) := by decide +kernel
theorem dL_takes_371 : decode cL_takes 371 = .ok (.iconst 4, 1) := by decide +kernel
theorem dL_takes_372 : decode cL_takes 372 = .ok (.invokestatic 133, 3) := by decide +kernel
theorem dL_takes_375 : decode cL_takes 375 = .ok (.ifCond .gt 33, 3) := by decide +kernel
theorem dL_takes_378 : decode cL_takes 378 = .ok (.aload_n 0, 1) := by decide +kernel
theorem dL_takes_379 : decode cL_takes 379 = .ok (.invokestatic 138, 3) := by decide +kernel
theorem dL_takes_382 : decode cL_takes 382 = .ok (.ifCond .lt 30, 3) := by decide +kernel
theorem dL_takes_385 : decode cL_takes 385 = .ok (.aload_n 0, 1) := by decide +kernel
theorem dL_takes_386 : decode cL_takes 386 = .ok (.iconst 4, 1) := by decide +kernel
theorem dL_takes_387 : decode cL_takes 387 = .ok (.iload_n 1, 1) := by decide +kernel
theorem dL_takes_388 : decode cL_takes 388 = .ok (.iadd, 1) := by decide +kernel
theorem dL_takes_389 : decode cL_takes 389 = .ok (.invokestatic 94, 3) := by decide +kernel
theorem dL_takes_392 : decode cL_takes 392 = .ok (.iload 5, 2) := by decide +kernel
theorem dL_takes_394 : decode cL_takes 394 = .ok (.if_icmp .ne 18, 3) := by decide +kernel
theorem dL_takes_397 : decode cL_takes 397 = .ok (.aload_n 0, 1) := by decide +kernel
theorem dL_takes_398 : decode cL_takes 398 = .ok (.bipush 6, 2) := by decide +kernel
theorem dL_takes_400 : decode cL_takes 400 = .ok (.invokestatic 94, 3) := by decide +kernel
theorem dL_takes_403 : decode cL_takes 403 = .ok (.iload 7, 2) := by decide +kernel
theorem dL_takes_405 : decode cL_takes 405 = .ok (.if_icmp .ne 7, 3) := by decide +kernel
theorem dL_takes_408 : decode cL_takes 408 = .ok (.iconst 1, 1) := by decide +kernel
theorem dL_takes_409 : decode cL_takes 409 = .ok (.goto 4, 3) := by decide +kernel
theorem dL_takes_412 : decode cL_takes 412 = .ok (.iconst 0, 1) := by decide +kernel
theorem dL_takes_413 : decode cL_takes 413 = .ok (.ireturn, 1) := by decide +kernel
theorem dL_refuses_0 : decode cL_refuses 0 = .ok (.aload_n 0, 1) := by decide +kernel
theorem dL_refuses_1 : decode cL_refuses 1 = .ok (.invokevirtual 125, 3) := by decide +kernel
theorem dL_refuses_4 : decode cL_refuses 4 = .ok (.lstore_n 1, 1) := by decide +kernel
theorem dL_refuses_5 : decode cL_refuses 5 = .ok (.aload_n 0, 1) := by decide +kernel
theorem dL_refuses_6 : decode cL_refuses 6 = .ok (.iconst 0, 1) := by decide +kernel
theorem dL_refuses_7 : decode cL_refuses 7 = .ok (.invokestatic 94, 3) := by decide +kernel
theorem dL_refuses_10 : decode cL_refuses 10 = .ok (.istore_n 3, 1) := by decide +kernel
theorem dL_refuses_11 : decode cL_refuses 11 = .ok (.aload_n 0, 1) := by decide +kernel
theorem dL_refuses_12 : decode cL_refuses 12 = .ok (.sipush 128, 3) := by decide +kernel
theorem dL_refuses_15 : decode cL_refuses 15 = .ok (.invokestatic 145, 3) := by decide +kernel
theorem dL_refuses_18 : decode cL_refuses 18 = .ok (.ldc 17, 2) := by decide +kernel
theorem dL_refuses_20 : decode cL_refuses 20 = .ok (.if_icmp .ne 139, 3) := by decide +kernel
theorem dL_refuses_23 : decode cL_refuses 23 = .ok (.aload_n 0, 1) := by decide +kernel
theorem dL_refuses_24 : decode cL_refuses 24 = .ok (.iconst 3, 1) := by decide +kernel
theorem dL_refuses_25 : decode cL_refuses 25 = .ok (.invokestatic 159, 3) := by decide +kernel
theorem dL_refuses_28 : decode cL_refuses 28 = .ok (.ldc 26, 2) := by decide +kernel
theorem dL_refuses_30 : decode cL_refuses 30 = .ok (.if_icmp .ne 129, 3) := by decide +kernel
theorem dL_refuses_33 : decode cL_refuses 33 = .ok (.aload_n 0, 1) := by decide +kernel
theorem dL_refuses_34 : decode cL_refuses 34 = .ok (.iconst 2, 1) := by decide +kernel
theorem dL_refuses_35 : decode cL_refuses 35 = .ok (.iconst 0, 1) := by decide +kernel
theorem dL_refuses_36 : decode cL_refuses 36 = .ok (.invokestatic 163, 3) := by decide +kernel
theorem dL_refuses_39 : decode cL_refuses 39 = .ok (.ldc 26, 2) := by decide +kernel
theorem dL_refuses_41 : decode cL_refuses 41 = .ok (.if_icmp .ne 118, 3) := by decide +kernel
theorem dL_refuses_44 : decode cL_refuses 44 = .ok (.aload_n 0, 1) := by decide +kernel
theorem dL_refuses_45 : decode cL_refuses 45 = .ok (.iconst 0, 1) := by decide +kernel
theorem dL_refuses_46 : decode cL_refuses 46 = .ok (.iconst (-1), 1) := by decide +kernel
theorem dL_refuses_47 : decode cL_refuses 47 = .ok (.invokestatic 163, 3) := by decide +kernel
theorem dL_refuses_50 : decode cL_refuses 50 = .ok (.ldc 26, 2) := by decide +kernel
theorem dL_refuses_52 : decode cL_refuses 52 = .ok (.if_icmp .ne 107, 3) := by decide +kernel
theorem dL_refuses_55 : decode cL_refuses 55 = .ok (.aload_n 0, 1) := by decide +kernel
theorem dL_refuses_56 : decode cL_refuses 56 = .ok (.iload_n 3, 1) := by decide +kernel
theorem dL_refuses_57 : decode cL_refuses 57 = .ok (.invokestatic 165, 3) := by decide +kernel
theorem dL_refuses_60 : decode cL_refuses 60 = .ok (.ldc 26, 2) := by decide +kernel
theorem dL_refuses_62 : decode cL_refuses 62 = .ok (.if_icmp .ne 97, 3) := by decide +kernel
theorem dL_refuses_65 : decode cL_refuses 65 = .ok (.aload_n 0, 1) := by decide +kernel
theorem dL_refuses_66 : decode cL_refuses 66 = .ok (.iload_n 3, 1) := by decide +kernel
theorem dL_refuses_67 : decode cL_refuses 67 = .ok (.sipush 9999, 3) := by decide +kernel
theorem dL_refuses_70 : decode cL_refuses 70 = .ok (.invokestatic 136, 3) := by decide +kernel
theorem dL_refuses_73 : decode cL_refuses 73 = .ok (.ldc 26, 2) := by decide +kernel
theorem dL_refuses_75 : decode cL_refuses 75 = .ok (.if_icmp .ne 84, 3) := by decide +kernel
theorem dL_refuses_78 : decode cL_refuses 78 = .ok (.aload_n 0, 1) := by decide +kernel
theorem dL_refuses_79 : decode cL_refuses 79 = .ok (.iconst (-1), 1) := by decide +kernel
theorem dL_refuses_80 : decode cL_refuses 80 = .ok (.iconst 0, 1) := by decide +kernel
theorem dL_refuses_81 : decode cL_refuses 81 = .ok (.invokestatic 167, 3) := by decide +kernel
theorem dL_refuses_84 : decode cL_refuses 84 = .ok (.ldc 26, 2) := by decide +kernel
theorem dL_refuses_86 : decode cL_refuses 86 = .ok (.if_icmp .ne 73, 3) := by decide +kernel
theorem dL_refuses_89 : decode cL_refuses 89 = .ok (.aload_n 0, 1) := by decide +kernel
theorem dL_refuses_90 : decode cL_refuses 90 = .ok (.iconst 0, 1) := by decide +kernel
theorem dL_refuses_91 : decode cL_refuses 91 = .ok (.iconst 0, 1) := by decide +kernel
theorem dL_refuses_92 : decode cL_refuses 92 = .ok (.bipush 10, 2) := by decide +kernel
theorem dL_refuses_94 : decode cL_refuses 94 = .ok (.sipush 9999, 3) := by decide +kernel
theorem dL_refuses_97 : decode cL_refuses 97 = .ok (.invokestatic 143, 3) := by decide +kernel
theorem dL_refuses_100 : decode cL_refuses 100 = .ok (.ldc 26, 2) := by decide +kernel
theorem dL_refuses_102 : decode cL_refuses 102 = .ok (.if_icmp .ne 57, 3) := by decide +kernel
theorem dL_refuses_105 : decode cL_refuses 105 = .ok (.aload_n 0, 1) := by decide +kernel
theorem dL_refuses_106 : decode cL_refuses 106 = .ok (.iconst (-1), 1) := by decide +kernel
theorem dL_refuses_107 : decode cL_refuses 107 = .ok (.iconst 0, 1) := by decide +kernel
theorem dL_refuses_108 : decode cL_refuses 108 = .ok (.iconst 0, 1) := by decide +kernel
theorem dL_refuses_109 : decode cL_refuses 109 = .ok (.iconst 0, 1) := by decide +kernel
theorem dL_refuses_110 : decode cL_refuses 110 = .ok (.invokestatic 143, 3) := by decide +kernel
theorem dL_refuses_113 : decode cL_refuses 113 = .ok (.ldc 26, 2) := by decide +kernel
theorem dL_refuses_115 : decode cL_refuses 115 = .ok (.if_icmp .ne 44, 3) := by decide +kernel
theorem dL_refuses_118 : decode cL_refuses 118 = .ok (.aload_n 0, 1) := by decide +kernel
theorem dL_refuses_119 : decode cL_refuses 119 = .ok (.iconst 0, 1) := by decide +kernel
theorem dL_refuses_120 : decode cL_refuses 120 = .ok (.iconst 3, 1) := by decide +kernel
theorem dL_refuses_121 : decode cL_refuses 121 = .ok (.iconst 0, 1) := by decide +kernel
theorem dL_refuses_122 : decode cL_refuses 122 = .ok (.invokestatic 169, 3) := by decide +kernel
theorem dL_refuses_125 : decode cL_refuses 125 = .ok (.ldc 26, 2) := by decide +kernel
theorem dL_refuses_127 : decode cL_refuses 127 = .ok (.if_icmp .ne 32, 3) := by decide +kernel
theorem dL_refuses_130 : decode cL_refuses 130 = .ok (.aload_n 0, 1) := by decide +kernel
theorem dL_refuses_131 : decode cL_refuses 131 = .ok (.iconst 0, 1) := by decide +kernel
theorem dL_refuses_132 : decode cL_refuses 132 = .ok (.bipush 6, 2) := by decide +kernel
theorem dL_refuses_134 : decode cL_refuses 134 = .ok (.iconst 0, 1) := by decide +kernel
theorem dL_refuses_135 : decode cL_refuses 135 = .ok (.invokestatic 171, 3) := by decide +kernel
theorem dL_refuses_138 : decode cL_refuses 138 = .ok (.ldc 17, 2) := by decide +kernel
theorem dL_refuses_140 : decode cL_refuses 140 = .ok (.if_icmp .ne 19, 3) := by decide +kernel
theorem dL_refuses_143 : decode cL_refuses 143 = .ok (.aload_n 0, 1) := by decide +kernel
theorem dL_refuses_144 : decode cL_refuses 144 = .ok (.iconst (-1), 1) := by decide +kernel
theorem dL_refuses_145 : decode cL_refuses 145 = .ok (.iconst 0, 1) := by decide +kernel
theorem dL_refuses_146 : decode cL_refuses 146 = .ok (.iconst 0, 1) := by decide +kernel
theorem dL_refuses_147 : decode cL_refuses 147 = .ok (.invokestatic 171, 3) := by decide +kernel
theorem dL_refuses_150 : decode cL_refuses 150 = .ok (.ldc 17, 2) := by decide +kernel
theorem dL_refuses_152 : decode cL_refuses 152 = .ok (.if_icmp .ne 7, 3) := by decide +kernel
theorem dL_refuses_155 : decode cL_refuses 155 = .ok (.iconst 1, 1) := by decide +kernel
theorem dL_refuses_156 : decode cL_refuses 156 = .ok (.goto 4, 3) := by decide +kernel
theorem dL_refuses_159 : decode cL_refuses 159 = .ok (.iconst 0, 1) := by decide +kernel
theorem dL_refuses_160 : decode cL_refuses 160 = .ok (.istore 4, 2) := by decide +kernel
theorem dL_refuses_162 : decode cL_refuses 162 = .ok (.iload 4, 2) := by decide +kernel
theorem dL_refuses_164 : decode cL_refuses 164 = .ok (.ifCond .eq 143, 3) := by decide +kernel
theorem dL_refuses_167 : decode cL_refuses 167 = .ok (.aload_n 0, 1) := by decide +kernel
theorem dL_refuses_168 : decode cL_refuses 168 = .ok (.iload_n 3, 1) := by decide +kernel
theorem dL_refuses_169 : decode cL_refuses 169 = .ok (.bipush 99, 2) := by decide +kernel
theorem dL_refuses_171 : decode cL_refuses 171 = .ok (.invokestatic 99, 3) := by decide +kernel
theorem dL_refuses_174 : decode cL_refuses 174 = .ok (.ldc 26, 2) := by decide +kernel
theorem dL_refuses_176 : decode cL_refuses 176 = .ok (.if_icmp .ne 131, 3) := by decide +kernel
theorem dL_refuses_179 : decode cL_refuses 179 = .ok (.aload_n 0, 1) := by decide +kernel
theorem dL_refuses_180 : decode cL_refuses 180 = .ok (.iconst 0, 1) := by decide +kernel
theorem dL_refuses_181 : decode cL_refuses 181 = .ok (.iconst 0, 1) := by decide +kernel
theorem dL_refuses_182 : decode cL_refuses 182 = .ok (.iload_n 3, 1) := by decide +kernel
theorem dL_refuses_183 : decode cL_refuses 183 = .ok (.invokestatic 102, 3) := by decide +kernel
theorem dL_refuses_186 : decode cL_refuses 186 = .ok (.ldc 26, 2) := by decide +kernel
theorem dL_refuses_188 : decode cL_refuses 188 = .ok (.if_icmp .ne 119, 3) := by decide +kernel
theorem dL_refuses_191 : decode cL_refuses 191 = .ok (.aload_n 0, 1) := by decide +kernel
theorem dL_refuses_192 : decode cL_refuses 192 = .ok (.iconst 2, 1) := by decide +kernel
theorem dL_refuses_193 : decode cL_refuses 193 = .ok (.iconst 0, 1) := by decide +kernel
theorem dL_refuses_194 : decode cL_refuses 194 = .ok (.iload_n 3, 1) := by decide +kernel
theorem dL_refuses_195 : decode cL_refuses 195 = .ok (.invokestatic 105, 3) := by decide +kernel
theorem dL_refuses_198 : decode cL_refuses 198 = .ok (.ldc 26, 2) := by decide +kernel
theorem dL_refuses_200 : decode cL_refuses 200 = .ok (.if_icmp .ne 107, 3) := by decide +kernel
theorem dL_refuses_203 : decode cL_refuses 203 = .ok (.aload_n 0, 1) := by decide +kernel
theorem dL_refuses_204 : decode cL_refuses 204 = .ok (.iconst 0, 1) := by decide +kernel
theorem dL_refuses_205 : decode cL_refuses 205 = .ok (.iconst 0, 1) := by decide +kernel
theorem dL_refuses_206 : decode cL_refuses 206 = .ok (.bipush 10, 2) := by decide +kernel
theorem dL_refuses_208 : decode cL_refuses 208 = .ok (.bipush 99, 2) := by decide +kernel
theorem dL_refuses_210 : decode cL_refuses 210 = .ok (.invokestatic 107, 3) := by decide +kernel
theorem dL_refuses_213 : decode cL_refuses 213 = .ok (.ldc 26, 2) := by decide +kernel
theorem dL_refuses_215 : decode cL_refuses 215 = .ok (.if_icmp .ne 92, 3) := by decide +kernel
theorem dL_refuses_218 : decode cL_refuses 218 = .ok (.aload_n 0, 1) := by decide +kernel
theorem dL_refuses_219 : decode cL_refuses 219 = .ok (.iconst (-1), 1) := by decide +kernel
theorem dL_refuses_220 : decode cL_refuses 220 = .ok (.invokestatic 110, 3) := by decide +kernel
theorem dL_refuses_223 : decode cL_refuses 223 = .ok (.ldc 17, 2) := by decide +kernel
theorem dL_refuses_225 : decode cL_refuses 225 = .ok (.if_icmp .ne 82, 3) := by decide +kernel
theorem dL_refuses_228 : decode cL_refuses 228 = .ok (.aload_n 0, 1) := by decide +kernel
theorem dL_refuses_229 : decode cL_refuses 229 = .ok (.bipush 11, 2) := by decide +kernel
theorem dL_refuses_231 : decode cL_refuses 231 = .ok (.invokestatic 94, 3) := by decide +kernel
theorem dL_refuses_234 : decode cL_refuses 234 = .ok (.ldc 17, 2) := by decide +kernel
theorem dL_refuses_236 : decode cL_refuses 236 = .ok (.if_icmp .ne 71, 3) := by decide +kernel
theorem dL_refuses_239 : decode cL_refuses 239 = .ok (.aload_n 0, 1) := by decide +kernel
theorem dL_refuses_240 : decode cL_refuses 240 = .ok (.iconst (-1), 1) := by decide +kernel
theorem dL_refuses_241 : decode cL_refuses 241 = .ok (.invokestatic 112, 3) := by decide +kernel
theorem dL_refuses_244 : decode cL_refuses 244 = .ok (.ldc 17, 2) := by decide +kernel
theorem dL_refuses_246 : decode cL_refuses 246 = .ok (.if_icmp .ne 61, 3) := by decide +kernel
theorem dL_refuses_249 : decode cL_refuses 249 = .ok (.aload_n 0, 1) := by decide +kernel
theorem dL_refuses_250 : decode cL_refuses 250 = .ok (.iconst (-1), 1) := by decide +kernel
theorem dL_refuses_251 : decode cL_refuses 251 = .ok (.invokestatic 123, 3) := by decide +kernel
theorem dL_refuses_254 : decode cL_refuses 254 = .ok (.ldc 17, 2) := by decide +kernel
theorem dL_refuses_256 : decode cL_refuses 256 = .ok (.if_icmp .ne 51, 3) := by decide +kernel
theorem dL_refuses_259 : decode cL_refuses 259 = .ok (.aload_n 0, 1) := by decide +kernel
theorem dL_refuses_260 : decode cL_refuses 260 = .ok (.iconst (-1), 1) := by decide +kernel
theorem dL_refuses_261 : decode cL_refuses 261 = .ok (.invokestatic 121, 3) := by decide +kernel
theorem dL_refuses_264 : decode cL_refuses 264 = .ok (.ldc 26, 2) := by decide +kernel
theorem dL_refuses_266 : decode cL_refuses 266 = .ok (.if_icmp .ne 41, 3) := by decide +kernel
theorem dL_refuses_269 : decode cL_refuses 269 = .ok (.aload_n 0, 1) := by decide +kernel
theorem dL_refuses_270 : decode cL_refuses 270 = .ok (.iload_n 3, 1) := by decide +kernel
theorem dL_refuses_271 : decode cL_refuses 271 = .ok (.invokestatic 129, 3) := by decide +kernel
theorem dL_refuses_274 : decode cL_refuses 274 = .ok (.ldc 26, 2) := by decide +kernel
theorem dL_refuses_276 : decode cL_refuses 276 = .ok (.if_icmp .ne 31, 3) := by decide +kernel
theorem dL_refuses_279 : decode cL_refuses 279 = .ok (.aload_n 0, 1) := by decide +kernel
theorem dL_refuses_280 : decode cL_refuses 280 = .ok (.iconst 0, 1) := by decide +kernel
theorem dL_refuses_281 : decode cL_refuses 281 = .ok (.iconst 0, 1) := by decide +kernel
theorem dL_refuses_282 : decode cL_refuses 282 = .ok (.bipush 10, 2) := by decide +kernel
theorem dL_refuses_284 : decode cL_refuses 284 = .ok (.iconst 0, 1) := by decide +kernel
theorem dL_refuses_285 : decode cL_refuses 285 = .ok (.invokestatic 141, 3) := by decide +kernel
theorem dL_refuses_288 : decode cL_refuses 288 = .ok (.ldc 26, 2) := by decide +kernel
theorem dL_refuses_290 : decode cL_refuses 290 = .ok (.if_icmp .ne 17, 3) := by decide +kernel
theorem dL_refuses_293 : decode cL_refuses 293 = .ok (.aload_n 0, 1) := by decide +kernel
theorem dL_refuses_294 : decode cL_refuses 294 = .ok (.iconst (-1), 1) := by decide +kernel
theorem dL_refuses_295 : decode cL_refuses 295 = .ok (.invokestatic 131, 3) := by decide +kernel
theorem dL_refuses_298 : decode cL_refuses 298 = .ok (.ldc 26, 2) := by decide +kernel
theorem dL_refuses_300 : decode cL_refuses 300 = .ok (.if_icmp .ne 7, 3) := by decide +kernel
theorem dL_refuses_303 : decode cL_refuses 303 = .ok (.iconst 1, 1) := by decide +kernel
theorem dL_refuses_304 : decode cL_refuses 304 = .ok (.goto 4, 3) := by decide +kernel
theorem dL_refuses_307 : decode cL_refuses 307 = .ok (.iconst 0, 1) := by decide +kernel
theorem dL_refuses_308 : decode cL_refuses 308 = .ok (.istore 4, 2) := by decide +kernel
theorem dL_refuses_310 : decode cL_refuses 310 = .ok (.iload 4, 2) := by decide +kernel
theorem dL_refuses_312 : decode cL_refuses 312 = .ok (.ifCond .eq 16, 3) := by decide +kernel
theorem dL_refuses_315 : decode cL_refuses 315 = .ok (.aload_n 0, 1) := by decide +kernel
theorem dL_refuses_316 : decode cL_refuses 316 = .ok (.invokevirtual 125, 3) := by decide +kernel
theorem dL_refuses_319 : decode cL_refuses 319 = .ok (.lload_n 1, 1) := by decide +kernel
theorem dL_refuses_320 : decode cL_refuses 320 = .ok (.lcmp, 1) := by decide +kernel
theorem dL_refuses_321 : decode cL_refuses 321 = .ok (.ifCond .ne 7, 3) := by decide +kernel
theorem dL_refuses_324 : decode cL_refuses 324 = .ok (.iconst 1, 1) := by decide +kernel
theorem dL_refuses_325 : decode cL_refuses 325 = .ok (.goto 4, 3) := by decide +kernel
theorem dL_refuses_328 : decode cL_refuses 328 = .ok (.iconst 0, 1) := by decide +kernel
theorem dL_refuses_329 : decode cL_refuses 329 = .ok (.ireturn, 1) := by decide +kernel
theorem dL_law_0 : decode cL_law 0 = .ok (.new 10, 3) := by decide +kernel
theorem dL_law_3 : decode cL_law 3 = .ok (.dup, 1) := by decide +kernel
theorem dL_law_4 : decode cL_law 4 = .ok (.invokespecial 173, 3) := by decide +kernel
theorem dL_law_7 : decode cL_law 7 = .ok (.astore_n 1, 1) := by decide +kernel
theorem dL_law_8 : decode cL_law 8 = .ok (.aload_n 1, 1) := by decide +kernel
theorem dL_law_9 : decode cL_law 9 = .ok (.invokestatic 174, 3) := by decide +kernel
theorem dL_law_12 : decode cL_law 12 = .ok (.ifCond .eq 49, 3) := by decide +kernel
theorem dL_law_15 : decode cL_law 15 = .ok (.aload_n 1, 1) := by decide +kernel
theorem dL_law_16 : decode cL_law 16 = .ok (.invokestatic 138, 3) := by decide +kernel
theorem dL_law_19 : decode cL_law 19 = .ok (.ldc 20, 2) := by decide +kernel
theorem dL_law_21 : decode cL_law 21 = .ok (.if_icmp .ne 40, 3) := by decide +kernel
theorem dL_law_24 : decode cL_law 24 = .ok (.aload_n 1, 1) := by decide +kernel
theorem dL_law_25 : decode cL_law 25 = .ok (.invokestatic 178, 3) := by decide +kernel
theorem dL_law_28 : decode cL_law 28 = .ok (.ifCond .eq 33, 3) := by decide +kernel
theorem dL_law_31 : decode cL_law 31 = .ok (.aload_n 1, 1) := by decide +kernel
theorem dL_law_32 : decode cL_law 32 = .ok (.invokestatic 181, 3) := by decide +kernel
theorem dL_law_35 : decode cL_law 35 = .ok (.ifCond .eq 26, 3) := by decide +kernel
theorem dL_law_38 : decode cL_law 38 = .ok (.aload_n 1, 1) := by decide +kernel
theorem dL_law_39 : decode cL_law 39 = .ok (.invokestatic 184, 3) := by decide +kernel
theorem dL_law_42 : decode cL_law 42 = .ok (.ifCond .eq 19, 3) := by decide +kernel
theorem dL_law_45 : decode cL_law 45 = .ok (.aload_n 1, 1) := by decide +kernel
theorem dL_law_46 : decode cL_law 46 = .ok (.iconst 0, 1) := by decide +kernel
theorem dL_law_47 : decode cL_law 47 = .ok (.iconst 0, 1) := by decide +kernel
theorem dL_law_48 : decode cL_law 48 = .ok (.invokestatic 163, 3) := by decide +kernel
theorem dL_law_51 : decode cL_law 51 = .ok (.ifCond .ne 10, 3) := by decide +kernel
theorem dL_law_54 : decode cL_law 54 = .ok (.aload_n 1, 1) := by decide +kernel
theorem dL_law_55 : decode cL_law 55 = .ok (.invokestatic 138, 3) := by decide +kernel
theorem dL_law_58 : decode cL_law 58 = .ok (.ifCond .eq 5, 3) := by decide +kernel
theorem dL_law_61 : decode cL_law 61 = .ok (.iconst 0, 1) := by decide +kernel
theorem dL_law_62 : decode cL_law 62 = .ok (.ireturn, 1) := by decide +kernel
theorem dL_law_63 : decode cL_law 63 = .ok (.iconst 0, 1) := by decide +kernel
theorem dL_law_64 : decode cL_law 64 = .ok (.istore_n 2, 1) := by decide +kernel
theorem dL_law_65 : decode cL_law 65 = .ok (.iload_n 2, 1) := by decide +kernel
theorem dL_law_66 : decode cL_law 66 = .ok (.bipush 30, 2) := by decide +kernel
theorem dL_law_68 : decode cL_law 68 = .ok (.if_icmp .ge 828, 3) := by decide +kernel
theorem dL_law_71 : decode cL_law 71 = .ok (.aload_n 0, 1) := by decide +kernel
theorem dL_law_72 : decode cL_law 72 = .ok (.iconst 2, 1) := by decide +kernel
theorem dL_law_73 : decode cL_law 73 = .ok (.iload_n 2, 1) := by decide +kernel
theorem dL_law_74 : decode cL_law 74 = .ok (.imul, 1) := by decide +kernel
theorem dL_law_75 : decode cL_law 75 = .ok (.invokestatic 187, 3) := by decide +kernel
theorem dL_law_78 : decode cL_law 78 = .ok (.istore_n 3, 1) := by decide +kernel
theorem dL_law_79 : decode cL_law 79 = .ok (.aload_n 0, 1) := by decide +kernel
theorem dL_law_80 : decode cL_law 80 = .ok (.iconst 2, 1) := by decide +kernel
theorem dL_law_81 : decode cL_law 81 = .ok (.iload_n 2, 1) := by decide +kernel
theorem dL_law_82 : decode cL_law 82 = .ok (.imul, 1) := by decide +kernel
theorem dL_law_83 : decode cL_law 83 = .ok (.iconst 1, 1) := by decide +kernel
theorem dL_law_84 : decode cL_law 84 = .ok (.iadd, 1) := by decide +kernel
theorem dL_law_85 : decode cL_law 85 = .ok (.invokestatic 187, 3) := by decide +kernel
theorem dL_law_88 : decode cL_law 88 = .ok (.istore 4, 2) := by decide +kernel
theorem dL_law_90 : decode cL_law 90 = .ok (.aload_n 1, 1) := by decide +kernel
theorem dL_law_91 : decode cL_law 91 = .ok (.iconst 0, 1) := by decide +kernel
theorem dL_law_92 : decode cL_law 92 = .ok (.invokestatic 94, 3) := by decide +kernel
theorem dL_law_95 : decode cL_law 95 = .ok (.istore 5, 2) := by decide +kernel
theorem dL_law_97 : decode cL_law 97 = .ok (.iload_n 2, 1) := by decide +kernel
theorem dL_law_98 : decode cL_law 98 = .ok (.iconst 5, 1) := by decide +kernel
theorem dL_law_99 : decode cL_law 99 = .ok (.if_icmp .ge 7, 3) := by decide +kernel
theorem dL_law_102 : decode cL_law 102 = .ok (.iconst 0, 1) := by decide +kernel
theorem dL_law_103 : decode cL_law 103 = .ok (.goto 19, 3) := by decide +kernel
theorem dL_law_106 : decode cL_law 106 = .ok (.iload_n 2, 1) := by decide +kernel
theorem dL_law_107 : decode cL_law 107 = .ok (.bipush 9, 2) := by decide +kernel
theorem dL_law_109 : decode cL_law 109 = .ok (.if_icmp .ge 7, 3) := by decide +kernel
theorem dL_law_112 : decode cL_law 112 = .ok (.iconst 2, 1) := by decide +kernel
theorem dL_law_113 : decode cL_law 113 = .ok (.goto 9, 3) := by decide +kernel
theorem dL_law_116 : decode cL_law 116 = .ok (.iload_n 3, 1) := by decide +kernel
theorem dL_law_117 : decode cL_law 117 = .ok (.bipush 12, 2) := by decide +kernel
theorem dL_law_119 : decode cL_law 119 = .ok (.invokestatic 133, 3) := by decide +kernel
theorem dL_law_122 : decode cL_law 122 = .ok (.istore 6, 2) := by decide +kernel
theorem dL_law_124 : decode cL_law 124 = .ok (.iload 5, 2) := by decide +kernel
theorem dL_law_126 : decode cL_law 126 = .ok (.ifCond .ne 7, 3) := by decide +kernel
theorem dL_law_129 : decode cL_law 129 = .ok (.iconst 0, 1) := by decide +kernel
theorem dL_law_130 : decode cL_law 130 = .ok (.goto 11, 3) := by decide +kernel
theorem dL_law_133 : decode cL_law 133 = .ok (.iload_n 3, 1) := by decide +kernel
theorem dL_law_134 : decode cL_law 134 = .ok (.iconst 5, 1) := by decide +kernel
theorem dL_law_135 : decode cL_law 135 = .ok (.ishr, 1) := by decide +kernel
theorem dL_law_136 : decode cL_law 136 = .ok (.iload 5, 2) := by decide +kernel
theorem dL_law_138 : decode cL_law 138 = .ok (.invokestatic 133, 3) := by decide +kernel
theorem dL_law_141 : decode cL_law 141 = .ok (.istore 7, 2) := by decide +kernel
theorem dL_law_143 : decode cL_law 143 = .ok (.iload 4, 2) := by decide +kernel
theorem dL_law_145 : decode cL_law 145 = .ok (.iconst 2, 1) := by decide +kernel
theorem dL_law_146 : decode cL_law 146 = .ok (.invokestatic 133, 3) := by decide +kernel
theorem dL_law_149 : decode cL_law 149 = .ok (.istore 8, 2) := by decide +kernel
theorem dL_law_151 : decode cL_law 151 = .ok (.iload 4, 2) := by decide +kernel
theorem dL_law_153 : decode cL_law 153 = .ok (.iconst 1, 1) := by decide +kernel
theorem dL_law_154 : decode cL_law 154 = .ok (.ishr, 1) := by decide +kernel
theorem dL_law_155 : decode cL_law 155 = .ok (.iconst 3, 1) := by decide +kernel
theorem dL_law_156 : decode cL_law 156 = .ok (.invokestatic 133, 3) := by decide +kernel
theorem dL_law_159 : decode cL_law 159 = .ok (.istore 9, 2) := by decide +kernel
theorem dL_law_161 : decode cL_law 161 = .ok (.iload 6, 2) := by decide +kernel
theorem dL_law_163 : decode cL_law 163 = .ok (.iconst 2, 1) := by decide +kernel
theorem dL_law_164 : decode cL_law 164 = .ok (.if_icmp .ge 17, 3) := by decide +kernel
theorem dL_law_167 : decode cL_law 167 = .ok (.aload_n 1, 1) := by decide +kernel
theorem dL_law_168 : decode cL_law 168 = .ok (.iload_n 3, 1) := by decide +kernel
theorem dL_law_169 : decode cL_law 169 = .ok (.iconst 5, 1) := by decide +kernel
theorem dL_law_170 : decode cL_law 170 = .ok (.ishr, 1) := by decide +kernel
theorem dL_law_171 : decode cL_law 171 = .ok (.iload 4, 2) := by decide +kernel
theorem dL_law_173 : decode cL_law 173 = .ok (.invokestatic 191, 3) := by decide +kernel
theorem dL_law_176 : decode cL_law 176 = .ok (.ifCond .ne 664, 3) := by decide +kernel
theorem dL_law_179 : decode cL_law 179 = .ok (.iconst 0, 1) := by decide +kernel
theorem dL_law_180 : decode cL_law 180 = .ok (.ireturn, 1) := by decide +kernel
theorem dL_law_181 : decode cL_law 181 = .ok (.iload 6, 2) := by decide +kernel
theorem dL_law_183 : decode cL_law 183 = .ok (.iconst 5, 1) := by decide +kernel
theorem dL_law_184 : decode cL_law 184 = .ok (.if_icmp .ge 19, 3) := by decide +kernel
theorem dL_law_187 : decode cL_law 187 = .ok (.aload_n 1, 1) := by decide +kernel
theorem dL_law_188 : decode cL_law 188 = .ok (.iload 8, 2) := by decide +kernel
theorem dL_law_190 : decode cL_law 190 = .ok (.iload 9, 2) := by decide +kernel
theorem dL_law_192 : decode cL_law 192 = .ok (.iload_n 3, 1) := by decide +kernel
theorem dL_law_193 : decode cL_law 193 = .ok (.iconst 5, 1) := by decide +kernel
theorem dL_law_194 : decode cL_law 194 = .ok (.ishr, 1) := by decide +kernel
theorem dL_law_195 : decode cL_law 195 = .ok (.invokestatic 195, 3) := by decide +kernel
theorem dL_law_198 : decode cL_law 198 = .ok (.ifCond .ne 642, 3) := by decide +kernel
theorem dL_law_201 : decode cL_law 201 = .ok (.iconst 0, 1) := by decide +kernel
theorem dL_law_202 : decode cL_law 202 = .ok (.ireturn, 1) := by decide +kernel
theorem dL_law_203 : decode cL_law 203 = .ok (.iload 6, 2) := by decide +kernel
theorem dL_law_205 : decode cL_law 205 = .ok (.bipush 7, 2) := by decide +kernel
theorem dL_law_207 : decode cL_law 207 = .ok (.if_icmp .ge 107, 3) := by decide +kernel
theorem dL_law_210 : decode cL_law 210 = .ok (.iload 5, 2) := by decide +kernel
theorem dL_law_212 : decode cL_law 212 = .ok (.ifCond .le 102, 3) := by decide +kernel
theorem dL_law_215 : decode cL_law 215 = .ok (.aload_n 1, 1) := by decide +kernel
theorem dL_law_216 : decode cL_law 216 = .ok (.iload 7, 2) := by decide +kernel
theorem dL_law_218 : decode cL_law 218 = .ok (.iconst 1, 1) := by decide +kernel
theorem dL_law_219 : decode cL_law 219 = .ok (.invokestatic 99, 3) := by decide +kernel
theorem dL_law_222 : decode cL_law 222 = .ok (.istore 10, 2) := by decide +kernel
theorem dL_law_224 : decode cL_law 224 = .ok (.aload_n 1, 1) := by decide +kernel
theorem dL_law_225 : decode cL_law 225 = .ok (.iload 7, 2) := by decide +kernel
theorem dL_law_227 : decode cL_law 227 = .ok (.iconst 0, 1) := by decide +kernel
theorem dL_law_228 : decode cL_law 228 = .ok (.invokestatic 99, 3) := by decide +kernel
theorem dL_law_231 : decode cL_law 231 = .ok (.istore 11, 2) := by decide +kernel
theorem dL_law_233 : decode cL_law 233 = .ok (.aload_n 1, 1) := by decide +kernel
theorem dL_law_234 : decode cL_law 234 = .ok (.iload 7, 2) := by decide +kernel
theorem dL_law_236 : decode cL_law 236 = .ok (.iload 4, 2) := by decide +kernel
theorem dL_law_238 : decode cL_law 238 = .ok (.sipush 1001, 3) := by decide +kernel
theorem dL_law_241 : decode cL_law 241 = .ok (.invokestatic 133, 3) := by decide +kernel
theorem dL_law_244 : decode cL_law 244 = .ok (.invokestatic 136, 3) := by decide +kernel
theorem dL_law_247 : decode cL_law 247 = .ok (.iload 10, 2) := by decide +kernel
theorem dL_law_249 : decode cL_law 249 = .ok (.if_icmp .ne 60, 3) := by decide +kernel
theorem dL_law_252 : decode cL_law 252 = .ok (.aload_n 1, 1) := by decide +kernel
theorem dL_law_253 : decode cL_law 253 = .ok (.iload 7, 2) := by decide +kernel
theorem dL_law_255 : decode cL_law 255 = .ok (.iconst 1, 1) := by decide +kernel
theorem dL_law_256 : decode cL_law 256 = .ok (.invokestatic 99, 3) := by decide +kernel
theorem dL_law_259 : decode cL_law 259 = .ok (.iload 4, 2) := by decide +kernel
theorem dL_law_261 : decode cL_law 261 = .ok (.sipush 1001, 3) := by decide +kernel
theorem dL_law_264 : decode cL_law 264 = .ok (.invokestatic 133, 3) := by decide +kernel
theorem dL_law_267 : decode cL_law 267 = .ok (.if_icmp .ne 42, 3) := by decide +kernel
theorem dL_law_270 : decode cL_law 270 = .ok (.aload_n 1, 1) := by decide +kernel
theorem dL_law_271 : decode cL_law 271 = .ok (.iload 7, 2) := by decide +kernel
theorem dL_law_273 : decode cL_law 273 = .ok (.iload 4, 2) := by decide +kernel
theorem dL_law_275 : decode cL_law 275 = .ok (.iconst 3, 1) := by decide +kernel
theorem dL_law_276 : decode cL_law 276 = .ok (.ishr, 1) := by decide +kernel
theorem dL_law_277 : decode cL_law 277 = .ok (.ldc 199, 2) := by decide +kernel
theorem dL_law_279 : decode cL_law 279 = .ok (.invokestatic 133, 3) := by decide +kernel
theorem dL_law_282 : decode cL_law 282 = .ok (.invokestatic 167, 3) := by decide +kernel
theorem dL_law_285 : decode cL_law 285 = .ok (.iload 11, 2) := by decide +kernel
theorem dL_law_287 : decode cL_law 287 = .ok (.if_icmp .ne 22, 3) := by decide +kernel
theorem dL_law_290 : decode cL_law 290 = .ok (.aload_n 1, 1) := by decide +kernel
theorem dL_law_291 : decode cL_law 291 = .ok (.iload 7, 2) := by decide +kernel
theorem dL_law_293 : decode cL_law 293 = .ok (.iconst 0, 1) := by decide +kernel
theorem dL_law_294 : decode cL_law 294 = .ok (.invokestatic 99, 3) := by decide +kernel
theorem dL_law_297 : decode cL_law 297 = .ok (.iload 4, 2) := by decide +kernel
theorem dL_law_299 : decode cL_law 299 = .ok (.iconst 3, 1) := by decide +kernel
theorem dL_law_300 : decode cL_law 300 = .ok (.ishr, 1) := by decide +kernel
theorem dL_law_301 : decode cL_law 301 = .ok (.ldc 199, 2) := by decide +kernel
theorem dL_law_303 : decode cL_law 303 = .ok (.invokestatic 133, 3) := by decide +kernel
theorem dL_law_306 : decode cL_law 306 = .ok (.if_icmp .eq 5, 3) := by decide +kernel
theorem dL_law_309 : decode cL_law 309 = .ok (.iconst 0, 1) := by decide +kernel
theorem dL_law_310 : decode cL_law 310 = .ok (.ireturn, 1) := by decide +kernel
theorem dL_law_311 : decode cL_law 311 = .ok (.goto 529, 3) := by decide +kernel
theorem dL_law_314 : decode cL_law 314 = .ok (.iload 6, 2) := by decide +kernel
theorem dL_law_316 : decode cL_law 316 = .ok (.bipush 7, 2) := by decide +kernel
theorem dL_law_318 : decode cL_law 318 = .ok (.if_icmp .ne 156, 3) := by decide +kernel
theorem dL_law_321 : decode cL_law 321 = .ok (.aload_n 1, 1) := by decide +kernel
theorem dL_law_322 : decode cL_law 322 = .ok (.iload 8, 2) := by decide +kernel
theorem dL_law_324 : decode cL_law 324 = .ok (.iload 9, 2) := by decide +kernel
theorem dL_law_326 : decode cL_law 326 = .ok (.iconst 0, 1) := by decide +kernel
theorem dL_law_327 : decode cL_law 327 = .ok (.iconst 0, 1) := by decide +kernel
theorem dL_law_328 : decode cL_law 328 = .ok (.invokestatic 107, 3) := by decide +kernel
theorem dL_law_331 : decode cL_law 331 = .ok (.istore 10, 2) := by decide +kernel
theorem dL_law_333 : decode cL_law 333 = .ok (.aload_n 1, 1) := by decide +kernel
theorem dL_law_334 : decode cL_law 334 = .ok (.iconst 4, 1) := by decide +kernel
theorem dL_law_335 : decode cL_law 335 = .ok (.iload 8, 2) := by decide +kernel
theorem dL_law_337 : decode cL_law 337 = .ok (.iadd, 1) := by decide +kernel
theorem dL_law_338 : decode cL_law 338 = .ok (.invokestatic 94, 3) := by decide +kernel
theorem dL_law_341 : decode cL_law 341 = .ok (.istore 11, 2) := by decide +kernel
theorem dL_law_343 : decode cL_law 343 = .ok (.iload 10, 2) := by decide +kernel
theorem dL_law_345 : decode cL_law 345 = .ok (.ifCond .lt 61, 3) := by decide +kernel
theorem dL_law_348 : decode cL_law 348 = .ok (.iload 4, 2) := by decide +kernel
theorem dL_law_350 : decode cL_law 350 = .ok (.iconst 4, 1) := by decide +kernel
theorem dL_law_351 : decode cL_law 351 = .ok (.ishr, 1) := by decide +kernel
theorem dL_law_352 : decode cL_law 352 = .ok (.iconst 2, 1) := by decide +kernel
theorem dL_law_353 : decode cL_law 353 = .ok (.invokestatic 133, 3) := by decide +kernel
theorem dL_law_356 : decode cL_law 356 = .ok (.ifCond .ne 50, 3) := by decide +kernel
theorem dL_law_359 : decode cL_law 359 = .ok (.aload_n 1, 1) := by decide +kernel
theorem dL_law_360 : decode cL_law 360 = .ok (.iload 8, 2) := by decide +kernel
theorem dL_law_362 : decode cL_law 362 = .ok (.iload 9, 2) := by decide +kernel
theorem dL_law_364 : decode cL_law 364 = .ok (.iconst 0, 1) := by decide +kernel
theorem dL_law_365 : decode cL_law 365 = .ok (.iload 4, 2) := by decide +kernel
theorem dL_law_367 : decode cL_law 367 = .ok (.iconst 5, 1) := by decide +kernel
theorem dL_law_368 : decode cL_law 368 = .ok (.ishr, 1) := by decide +kernel
theorem dL_law_369 : decode cL_law 369 = .ok (.sipush 1001, 3) := by decide +kernel
theorem dL_law_372 : decode cL_law 372 = .ok (.invokestatic 133, 3) := by decide +kernel
theorem dL_law_375 : decode cL_law 375 = .ok (.invokestatic 143, 3) := by decide +kernel
theorem dL_law_378 : decode cL_law 378 = .ok (.iload 10, 2) := by decide +kernel
theorem dL_law_380 : decode cL_law 380 = .ok (.if_icmp .ne 89, 3) := by decide +kernel
theorem dL_law_383 : decode cL_law 383 = .ok (.aload_n 1, 1) := by decide +kernel
theorem dL_law_384 : decode cL_law 384 = .ok (.iload 8, 2) := by decide +kernel
theorem dL_law_386 : decode cL_law 386 = .ok (.iload 9, 2) := by decide +kernel
theorem dL_law_388 : decode cL_law 388 = .ok (.iconst 0, 1) := by decide +kernel
theorem dL_law_389 : decode cL_law 389 = .ok (.iconst 0, 1) := by decide +kernel
theorem dL_law_390 : decode cL_law 390 = .ok (.invokestatic 107, 3) := by decide +kernel
theorem dL_law_393 : decode cL_law 393 = .ok (.iload 4, 2) := by decide +kernel
theorem dL_law_395 : decode cL_law 395 = .ok (.iconst 5, 1) := by decide +kernel
theorem dL_law_396 : decode cL_law 396 = .ok (.ishr, 1) := by decide +kernel
theorem dL_law_397 : decode cL_law 397 = .ok (.sipush 1001, 3) := by decide +kernel
theorem dL_law_400 : decode cL_law 400 = .ok (.invokestatic 133, 3) := by decide +kernel
theorem dL_law_403 : decode cL_law 403 = .ok (.if_icmp .ne 66, 3) := by decide +kernel
theorem dL_law_406 : decode cL_law 406 = .ok (.iload 10, 2) := by decide +kernel
theorem dL_law_408 : decode cL_law 408 = .ok (.ifCond .lt 42, 3) := by decide +kernel
theorem dL_law_411 : decode cL_law 411 = .ok (.iload 4, 2) := by decide +kernel
theorem dL_law_413 : decode cL_law 413 = .ok (.iconst 4, 1) := by decide +kernel
theorem dL_law_414 : decode cL_law 414 = .ok (.ishr, 1) := by decide +kernel
theorem dL_law_415 : decode cL_law 415 = .ok (.iconst 2, 1) := by decide +kernel
theorem dL_law_416 : decode cL_law 416 = .ok (.invokestatic 133, 3) := by decide +kernel
theorem dL_law_419 : decode cL_law 419 = .ok (.iconst 1, 1) := by decide +kernel
theorem dL_law_420 : decode cL_law 420 = .ok (.if_icmp .ne 30, 3) := by decide +kernel
theorem dL_law_423 : decode cL_law 423 = .ok (.aload_n 1, 1) := by decide +kernel
theorem dL_law_424 : decode cL_law 424 = .ok (.iload 8, 2) := by decide +kernel
theorem dL_law_426 : decode cL_law 426 = .ok (.iload 9, 2) := by decide +kernel
theorem dL_law_428 : decode cL_law 428 = .ok (.iconst 0, 1) := by decide +kernel
theorem dL_law_429 : decode cL_law 429 = .ok (.invokestatic 169, 3) := by decide +kernel
theorem dL_law_432 : decode cL_law 432 = .ok (.ifCond .lt 37, 3) := by decide +kernel
theorem dL_law_435 : decode cL_law 435 = .ok (.aload_n 1, 1) := by decide +kernel
theorem dL_law_436 : decode cL_law 436 = .ok (.iconst 4, 1) := by decide +kernel
theorem dL_law_437 : decode cL_law 437 = .ok (.iload 8, 2) := by decide +kernel
theorem dL_law_439 : decode cL_law 439 = .ok (.iadd, 1) := by decide +kernel
theorem dL_law_440 : decode cL_law 440 = .ok (.invokestatic 94, 3) := by decide +kernel
theorem dL_law_443 : decode cL_law 443 = .ok (.iload 11, 2) := by decide +kernel
theorem dL_law_445 : decode cL_law 445 = .ok (.iconst 1, 1) := by decide +kernel
theorem dL_law_446 : decode cL_law 446 = .ok (.isub, 1) := by decide +kernel
theorem dL_law_447 : decode cL_law 447 = .ok (.if_icmp .ne 22, 3) := by decide +kernel
theorem dL_law_450 : decode cL_law 450 = .ok (.iload 10, 2) := by decide +kernel
theorem dL_law_452 : decode cL_law 452 = .ok (.ifCond .ge 19, 3) := by decide +kernel
theorem dL_law_455 : decode cL_law 455 = .ok (.aload_n 1, 1) := by decide +kernel
theorem dL_law_456 : decode cL_law 456 = .ok (.iload 8, 2) := by decide +kernel
theorem dL_law_458 : decode cL_law 458 = .ok (.iload 9, 2) := by decide +kernel
theorem dL_law_460 : decode cL_law 460 = .ok (.iconst 0, 1) := by decide +kernel
theorem dL_law_461 : decode cL_law 461 = .ok (.invokestatic 169, 3) := by decide +kernel
theorem dL_law_464 : decode cL_law 464 = .ok (.ldc 26, 2) := by decide +kernel
theorem dL_law_466 : decode cL_law 466 = .ok (.if_icmp .eq 5, 3) := by decide +kernel
theorem dL_law_469 : decode cL_law 469 = .ok (.iconst 0, 1) := by decide +kernel
theorem dL_law_470 : decode cL_law 470 = .ok (.ireturn, 1) := by decide +kernel
theorem dL_law_471 : decode cL_law 471 = .ok (.goto 369, 3) := by decide +kernel
theorem dL_law_474 : decode cL_law 474 = .ok (.iload 6, 2) := by decide +kernel
theorem dL_law_476 : decode cL_law 476 = .ok (.bipush 8, 2) := by decide +kernel
theorem dL_law_478 : decode cL_law 478 = .ok (.if_icmp .ne 97, 3) := by decide +kernel
theorem dL_law_481 : decode cL_law 481 = .ok (.iload 5, 2) := by decide +kernel
theorem dL_law_483 : decode cL_law 483 = .ok (.ifCond .le 92, 3) := by decide +kernel
theorem dL_law_486 : decode cL_law 486 = .ok (.iload 7, 2) := by decide +kernel
theorem dL_law_488 : decode cL_law 488 = .ok (.iconst 1, 1) := by decide +kernel
theorem dL_law_489 : decode cL_law 489 = .ok (.iadd, 1) := by decide +kernel
theorem dL_law_490 : decode cL_law 490 = .ok (.iload 5, 2) := by decide +kernel
theorem dL_law_492 : decode cL_law 492 = .ok (.if_icmp .ge 15, 3) := by decide +kernel
theorem dL_law_495 : decode cL_law 495 = .ok (.aload_n 1, 1) := by decide +kernel
theorem dL_law_496 : decode cL_law 496 = .ok (.iload 7, 2) := by decide +kernel
theorem dL_law_498 : decode cL_law 498 = .ok (.iconst 1, 1) := by decide +kernel
theorem dL_law_499 : decode cL_law 499 = .ok (.iadd, 1) := by decide +kernel
theorem dL_law_500 : decode cL_law 500 = .ok (.iconst 0, 1) := by decide +kernel
theorem dL_law_501 : decode cL_law 501 = .ok (.invokestatic 99, 3) := by decide +kernel
theorem dL_law_504 : decode cL_law 504 = .ok (.goto 4, 3) := by decide +kernel
theorem dL_law_507 : decode cL_law 507 = .ok (.iconst 0, 1) := by decide +kernel
theorem dL_law_508 : decode cL_law 508 = .ok (.istore 10, 2) := by decide +kernel
theorem dL_law_510 : decode cL_law 510 = .ok (.aload_n 1, 1) := by decide +kernel
theorem dL_law_511 : decode cL_law 511 = .ok (.iload 7, 2) := by decide +kernel
theorem dL_law_513 : decode cL_law 513 = .ok (.invokestatic 165, 3) := by decide +kernel
theorem dL_law_516 : decode cL_law 516 = .ok (.iload 5, 2) := by decide +kernel
theorem dL_law_518 : decode cL_law 518 = .ok (.iconst 1, 1) := by decide +kernel
theorem dL_law_519 : decode cL_law 519 = .ok (.isub, 1) := by decide +kernel
theorem dL_law_520 : decode cL_law 520 = .ok (.if_icmp .ne 50, 3) := by decide +kernel
theorem dL_law_523 : decode cL_law 523 = .ok (.iload 7, 2) := by decide +kernel
theorem dL_law_525 : decode cL_law 525 = .ok (.iconst 1, 1) := by decide +kernel
theorem dL_law_526 : decode cL_law 526 = .ok (.iadd, 1) := by decide +kernel
theorem dL_law_527 : decode cL_law 527 = .ok (.iload 5, 2) := by decide +kernel
theorem dL_law_529 : decode cL_law 529 = .ok (.if_icmp .ge 15, 3) := by decide +kernel
theorem dL_law_532 : decode cL_law 532 = .ok (.aload_n 1, 1) := by decide +kernel
theorem dL_law_533 : decode cL_law 533 = .ok (.iload 7, 2) := by decide +kernel
theorem dL_law_535 : decode cL_law 535 = .ok (.iconst 0, 1) := by decide +kernel
theorem dL_law_536 : decode cL_law 536 = .ok (.invokestatic 99, 3) := by decide +kernel
theorem dL_law_539 : decode cL_law 539 = .ok (.iload 10, 2) := by decide +kernel
theorem dL_law_541 : decode cL_law 541 = .ok (.if_icmp .ne 29, 3) := by decide +kernel
theorem dL_law_544 : decode cL_law 544 = .ok (.iload 4, 2) := by decide +kernel
theorem dL_law_546 : decode cL_law 546 = .ok (.iconst 2, 1) := by decide +kernel
theorem dL_law_547 : decode cL_law 547 = .ok (.invokestatic 133, 3) := by decide +kernel
theorem dL_law_550 : decode cL_law 550 = .ok (.ifCond .ne 22, 3) := by decide +kernel
theorem dL_law_553 : decode cL_law 553 = .ok (.aload_n 1, 1) := by decide +kernel
theorem dL_law_554 : decode cL_law 554 = .ok (.invokestatic 138, 3) := by decide +kernel
theorem dL_law_557 : decode cL_law 557 = .ok (.ifCond .lt 13, 3) := by decide +kernel
theorem dL_law_560 : decode cL_law 560 = .ok (.aload_n 1, 1) := by decide +kernel
theorem dL_law_561 : decode cL_law 561 = .ok (.iconst 0, 1) := by decide +kernel
theorem dL_law_562 : decode cL_law 562 = .ok (.invokestatic 94, 3) := by decide +kernel
theorem dL_law_565 : decode cL_law 565 = .ok (.iload 5, 2) := by decide +kernel
theorem dL_law_567 : decode cL_law 567 = .ok (.if_icmp .eq 5, 3) := by decide +kernel
theorem dL_law_570 : decode cL_law 570 = .ok (.iconst 0, 1) := by decide +kernel
theorem dL_law_571 : decode cL_law 571 = .ok (.ireturn, 1) := by decide +kernel
theorem dL_law_572 : decode cL_law 572 = .ok (.goto 268, 3) := by decide +kernel
theorem dL_law_575 : decode cL_law 575 = .ok (.iload 6, 2) := by decide +kernel
theorem dL_law_577 : decode cL_law 577 = .ok (.bipush 9, 2) := by decide +kernel
theorem dL_law_579 : decode cL_law 579 = .ok (.if_icmp .ne 140, 3) := by decide +kernel
theorem dL_law_582 : decode cL_law 582 = .ok (.aload_n 1, 1) := by decide +kernel
theorem dL_law_583 : decode cL_law 583 = .ok (.iconst 5, 1) := by decide +kernel
theorem dL_law_584 : decode cL_law 584 = .ok (.invokestatic 94, 3) := by decide +kernel
theorem dL_law_587 : decode cL_law 587 = .ok (.istore 10, 2) := by decide +kernel
theorem dL_law_589 : decode cL_law 589 = .ok (.aload_n 1, 1) := by decide +kernel
theorem dL_law_590 : decode cL_law 590 = .ok (.iconst 0, 1) := by decide +kernel
theorem dL_law_591 : decode cL_law 591 = .ok (.invokestatic 121, 3) := by decide +kernel
theorem dL_law_594 : decode cL_law 594 = .ok (.istore 11, 2) := by decide +kernel
theorem dL_law_596 : decode cL_law 596 = .ok (.aload_n 1, 1) := by decide +kernel
theorem dL_law_597 : decode cL_law 597 = .ok (.iconst 1, 1) := by decide +kernel
theorem dL_law_598 : decode cL_law 598 = .ok (.invokestatic 121, 3) := by decide +kernel
theorem dL_law_601 : decode cL_law 601 = .ok (.istore 12, 2) := by decide +kernel
theorem dL_law_603 : decode cL_law 603 = .ok (.aload_n 1, 1) := by decide +kernel
theorem dL_law_604 : decode cL_law 604 = .ok (.bipush 7, 2) := by decide +kernel
theorem dL_law_606 : decode cL_law 606 = .ok (.invokestatic 94, 3) := by decide +kernel
theorem dL_law_609 : decode cL_law 609 = .ok (.iconst 3, 1) := by decide +kernel
theorem dL_law_610 : decode cL_law 610 = .ok (.if_icmp .eq 57, 3) := by decide +kernel
theorem dL_law_613 : decode cL_law 613 = .ok (.aload_n 1, 1) := by decide +kernel
theorem dL_law_614 : decode cL_law 614 = .ok (.bipush 7, 2) := by decide +kernel
theorem dL_law_616 : decode cL_law 616 = .ok (.invokestatic 94, 3) := by decide +kernel
theorem dL_law_619 : decode cL_law 619 = .ok (.iconst 4, 1) := by decide +kernel
theorem dL_law_620 : decode cL_law 620 = .ok (.if_icmp .eq 47, 3) := by decide +kernel
theorem dL_law_623 : decode cL_law 623 = .ok (.aload_n 1, 1) := by decide +kernel
theorem dL_law_624 : decode cL_law 624 = .ok (.bipush 8, 2) := by decide +kernel
theorem dL_law_626 : decode cL_law 626 = .ok (.invokestatic 94, 3) := by decide +kernel
theorem dL_law_629 : decode cL_law 629 = .ok (.iconst 3, 1) := by decide +kernel
theorem dL_law_630 : decode cL_law 630 = .ok (.if_icmp .eq 37, 3) := by decide +kernel
theorem dL_law_633 : decode cL_law 633 = .ok (.aload_n 1, 1) := by decide +kernel
theorem dL_law_634 : decode cL_law 634 = .ok (.bipush 8, 2) := by decide +kernel
theorem dL_law_636 : decode cL_law 636 = .ok (.invokestatic 94, 3) := by decide +kernel
theorem dL_law_639 : decode cL_law 639 = .ok (.iconst 4, 1) := by decide +kernel
theorem dL_law_640 : decode cL_law 640 = .ok (.if_icmp .eq 27, 3) := by decide +kernel
theorem dL_law_643 : decode cL_law 643 = .ok (.aload_n 1, 1) := by decide +kernel
theorem dL_law_644 : decode cL_law 644 = .ok (.bipush 9, 2) := by decide +kernel
theorem dL_law_646 : decode cL_law 646 = .ok (.invokestatic 94, 3) := by decide +kernel
theorem dL_law_649 : decode cL_law 649 = .ok (.iconst 3, 1) := by decide +kernel
theorem dL_law_650 : decode cL_law 650 = .ok (.if_icmp .eq 17, 3) := by decide +kernel
theorem dL_law_653 : decode cL_law 653 = .ok (.aload_n 1, 1) := by decide +kernel
theorem dL_law_654 : decode cL_law 654 = .ok (.bipush 9, 2) := by decide +kernel
theorem dL_law_656 : decode cL_law 656 = .ok (.invokestatic 94, 3) := by decide +kernel
theorem dL_law_659 : decode cL_law 659 = .ok (.iconst 4, 1) := by decide +kernel
theorem dL_law_660 : decode cL_law 660 = .ok (.if_icmp .eq 7, 3) := by decide +kernel
theorem dL_law_663 : decode cL_law 663 = .ok (.iconst 1, 1) := by decide +kernel
theorem dL_law_664 : decode cL_law 664 = .ok (.goto 4, 3) := by decide +kernel
theorem dL_law_667 : decode cL_law 667 = .ok (.iconst 0, 1) := by decide +kernel
theorem dL_law_668 : decode cL_law 668 = .ok (.istore 13, 2) := by decide +kernel
theorem dL_law_670 : decode cL_law 670 = .ok (.aload_n 1, 1) := by decide +kernel
theorem dL_law_671 : decode cL_law 671 = .ok (.invokevirtual 200, 3) := by decide +kernel
theorem dL_law_674 : decode cL_law 674 = .ok (.iload 10, 2) := by decide +kernel
theorem dL_law_676 : decode cL_law 676 = .ok (.if_icmp .ne 38, 3) := by decide +kernel
theorem dL_law_679 : decode cL_law 679 = .ok (.aload_n 1, 1) := by decide +kernel
theorem dL_law_680 : decode cL_law 680 = .ok (.iconst 4, 1) := by decide +kernel
theorem dL_law_681 : decode cL_law 681 = .ok (.invokestatic 94, 3) := by decide +kernel
theorem dL_law_684 : decode cL_law 684 = .ok (.iload 10, 2) := by decide +kernel
theorem dL_law_686 : decode cL_law 686 = .ok (.if_icmp .ne 28, 3) := by decide +kernel
theorem dL_law_689 : decode cL_law 689 = .ok (.iload 13, 2) := by decide +kernel
theorem dL_law_691 : decode cL_law 691 = .ok (.ifCond .eq 25, 3) := by decide +kernel
theorem dL_law_694 : decode cL_law 694 = .ok (.aload_n 1, 1) := by decide +kernel
theorem dL_law_695 : decode cL_law 695 = .ok (.iconst 0, 1) := by decide +kernel
theorem dL_law_696 : decode cL_law 696 = .ok (.invokestatic 121, 3) := by decide +kernel
theorem dL_law_699 : decode cL_law 699 = .ok (.iload 12, 2) := by decide +kernel
theorem dL_law_701 : decode cL_law 701 = .ok (.if_icmp .ne 13, 3) := by decide +kernel
theorem dL_law_704 : decode cL_law 704 = .ok (.aload_n 1, 1) := by decide +kernel
theorem dL_law_705 : decode cL_law 705 = .ok (.iconst 1, 1) := by decide +kernel
theorem dL_law_706 : decode cL_law 706 = .ok (.invokestatic 121, 3) := by decide +kernel
theorem dL_law_709 : decode cL_law 709 = .ok (.iload 11, 2) := by decide +kernel
theorem dL_law_711 : decode cL_law 711 = .ok (.if_icmp .eq 5, 3) := by decide +kernel
theorem dL_law_714 : decode cL_law 714 = .ok (.iconst 0, 1) := by decide +kernel
theorem dL_law_715 : decode cL_law 715 = .ok (.ireturn, 1) := by decide +kernel
theorem dL_law_716 : decode cL_law 716 = .ok (.goto 124, 3) := by decide +kernel
theorem dL_law_719 : decode cL_law 719 = .ok (.iload 6, 2) := by decide +kernel
theorem dL_law_721 : decode cL_law 721 = .ok (.bipush 10, 2) := by decide +kernel
theorem dL_law_723 : decode cL_law 723 = .ok (.if_icmp .ne 106, 3) := by decide +kernel
theorem dL_law_726 : decode cL_law 726 = .ok (.bipush 100, 2) := by decide +kernel
theorem dL_law_728 : decode cL_law 728 = .ok (.aload_n 1, 1) := by decide +kernel
theorem dL_law_729 : decode cL_law 729 = .ok (.bipush 7, 2) := by decide +kernel
theorem dL_law_731 : decode cL_law 731 = .ok (.invokestatic 94, 3) := by decide +kernel
theorem dL_law_734 : decode cL_law 734 = .ok (.imul, 1) := by decide +kernel
theorem dL_law_735 : decode cL_law 735 = .ok (.bipush 10, 2) := by decide +kernel
theorem dL_law_737 : decode cL_law 737 = .ok (.aload_n 1, 1) := by decide +kernel
theorem dL_law_738 : decode cL_law 738 = .ok (.bipush 8, 2) := by decide +kernel
theorem dL_law_740 : decode cL_law 740 = .ok (.invokestatic 94, 3) := by decide +kernel
theorem dL_law_743 : decode cL_law 743 = .ok (.imul, 1) := by decide +kernel
theorem dL_law_744 : decode cL_law 744 = .ok (.iadd, 1) := by decide +kernel
theorem dL_law_745 : decode cL_law 745 = .ok (.aload_n 1, 1) := by decide +kernel
theorem dL_law_746 : decode cL_law 746 = .ok (.bipush 9, 2) := by decide +kernel
theorem dL_law_748 : decode cL_law 748 = .ok (.invokestatic 94, 3) := by decide +kernel
theorem dL_law_751 : decode cL_law 751 = .ok (.iadd, 1) := by decide +kernel
theorem dL_law_752 : decode cL_law 752 = .ok (.istore 10, 2) := by decide +kernel
theorem dL_law_754 : decode cL_law 754 = .ok (.aload_n 1, 1) := by decide +kernel
theorem dL_law_755 : decode cL_law 755 = .ok (.iload 4, 2) := by decide +kernel
theorem dL_law_757 : decode cL_law 757 = .ok (.bipush 6, 2) := by decide +kernel
theorem dL_law_759 : decode cL_law 759 = .ok (.invokestatic 133, 3) := by decide +kernel
theorem dL_law_762 : decode cL_law 762 = .ok (.iload 4, 2) := by decide +kernel
theorem dL_law_764 : decode cL_law 764 = .ok (.iconst 3, 1) := by decide +kernel
theorem dL_law_765 : decode cL_law 765 = .ok (.ishr, 1) := by decide +kernel
theorem dL_law_766 : decode cL_law 766 = .ok (.bipush 6, 2) := by decide +kernel
theorem dL_law_768 : decode cL_law 768 = .ok (.invokestatic 133, 3) := by decide +kernel
theorem dL_law_771 : decode cL_law 771 = .ok (.iload 4, 2) := by decide +kernel
theorem dL_law_773 : decode cL_law 773 = .ok (.bipush 6, 2) := by decide +kernel
theorem dL_law_775 : decode cL_law 775 = .ok (.ishr, 1) := by decide +kernel
theorem dL_law_776 : decode cL_law 776 = .ok (.bipush 6, 2) := by decide +kernel
theorem dL_law_778 : decode cL_law 778 = .ok (.invokestatic 133, 3) := by decide +kernel
theorem dL_law_781 : decode cL_law 781 = .ok (.invokestatic 171, 3) := by decide +kernel
theorem dL_law_784 : decode cL_law 784 = .ok (.iload 10, 2) := by decide +kernel
theorem dL_law_786 : decode cL_law 786 = .ok (.if_icmp .ne 38, 3) := by decide +kernel
theorem dL_law_789 : decode cL_law 789 = .ok (.aload_n 1, 1) := by decide +kernel
theorem dL_law_790 : decode cL_law 790 = .ok (.bipush 7, 2) := by decide +kernel
theorem dL_law_792 : decode cL_law 792 = .ok (.invokestatic 94, 3) := by decide +kernel
theorem dL_law_795 : decode cL_law 795 = .ok (.iload 4, 2) := by decide +kernel
theorem dL_law_797 : decode cL_law 797 = .ok (.bipush 6, 2) := by decide +kernel
theorem dL_law_799 : decode cL_law 799 = .ok (.invokestatic 133, 3) := by decide +kernel
theorem dL_law_802 : decode cL_law 802 = .ok (.if_icmp .ne 22, 3) := by decide +kernel
theorem dL_law_805 : decode cL_law 805 = .ok (.aload_n 1, 1) := by decide +kernel
theorem dL_law_806 : decode cL_law 806 = .ok (.bipush 9, 2) := by decide +kernel
theorem dL_law_808 : decode cL_law 808 = .ok (.invokestatic 94, 3) := by decide +kernel
theorem dL_law_811 : decode cL_law 811 = .ok (.iload 4, 2) := by decide +kernel
theorem dL_law_813 : decode cL_law 813 = .ok (.bipush 6, 2) := by decide +kernel
theorem dL_law_815 : decode cL_law 815 = .ok (.ishr, 1) := by decide +kernel
theorem dL_law_816 : decode cL_law 816 = .ok (.bipush 6, 2) := by decide +kernel
theorem dL_law_818 : decode cL_law 818 = .ok (.invokestatic 133, 3) := by decide +kernel
theorem dL_law_821 : decode cL_law 821 = .ok (.if_icmp .eq 5, 3) := by decide +kernel
theorem dL_law_824 : decode cL_law 824 = .ok (.iconst 0, 1) := by decide +kernel
theorem dL_law_825 : decode cL_law 825 = .ok (.ireturn, 1) := by decide +kernel
theorem dL_law_826 : decode cL_law 826 = .ok (.goto 14, 3) := by decide +kernel
theorem dL_law_829 : decode cL_law 829 = .ok (.aload_n 1, 1) := by decide +kernel
theorem dL_law_830 : decode cL_law 830 = .ok (.iload 4, 2) := by decide +kernel
theorem dL_law_832 : decode cL_law 832 = .ok (.invokestatic 203, 3) := by decide +kernel
theorem dL_law_835 : decode cL_law 835 = .ok (.ifCond .ne 5, 3) := by decide +kernel
theorem dL_law_838 : decode cL_law 838 = .ok (.iconst 0, 1) := by decide +kernel
theorem dL_law_839 : decode cL_law 839 = .ok (.ireturn, 1) := by decide +kernel
theorem dL_law_840 : decode cL_law 840 = .ok (.aload_n 1, 1) := by decide +kernel
theorem dL_law_841 : decode cL_law 841 = .ok (.invokestatic 178, 3) := by decide +kernel
theorem dL_law_844 : decode cL_law 844 = .ok (.ifCond .eq 44, 3) := by decide +kernel
theorem dL_law_847 : decode cL_law 847 = .ok (.iload_n 2, 1) := by decide +kernel
theorem dL_law_848 : decode cL_law 848 = .ok (.iconst 3, 1) := by decide +kernel
theorem dL_law_849 : decode cL_law 849 = .ok (.irem, 1) := by decide +kernel
theorem dL_law_850 : decode cL_law 850 = .ok (.iconst 2, 1) := by decide +kernel
theorem dL_law_851 : decode cL_law 851 = .ok (.if_icmp .ne 17, 3) := by decide +kernel
theorem dL_law_854 : decode cL_law 854 = .ok (.aload_n 1, 1) := by decide +kernel
theorem dL_law_855 : decode cL_law 855 = .ok (.invokestatic 181, 3) := by decide +kernel
theorem dL_law_858 : decode cL_law 858 = .ok (.ifCond .eq 30, 3) := by decide +kernel
theorem dL_law_861 : decode cL_law 861 = .ok (.aload_n 1, 1) := by decide +kernel
theorem dL_law_862 : decode cL_law 862 = .ok (.invokestatic 184, 3) := by decide +kernel
theorem dL_law_865 : decode cL_law 865 = .ok (.ifCond .eq 23, 3) := by decide +kernel
theorem dL_law_868 : decode cL_law 868 = .ok (.iload_n 2, 1) := by decide +kernel
theorem dL_law_869 : decode cL_law 869 = .ok (.bipush 10, 2) := by decide +kernel
theorem dL_law_871 : decode cL_law 871 = .ok (.irem, 1) := by decide +kernel
theorem dL_law_872 : decode cL_law 872 = .ok (.bipush 9, 2) := by decide +kernel
theorem dL_law_874 : decode cL_law 874 = .ok (.if_icmp .ne 16, 3) := by decide +kernel
theorem dL_law_877 : decode cL_law 877 = .ok (.aload_n 1, 1) := by decide +kernel
theorem dL_law_878 : decode cL_law 878 = .ok (.iload 4, 2) := by decide +kernel
theorem dL_law_880 : decode cL_law 880 = .ok (.iconst 3, 1) := by decide +kernel
theorem dL_law_881 : decode cL_law 881 = .ok (.ishr, 1) := by decide +kernel
theorem dL_law_882 : decode cL_law 882 = .ok (.invokestatic 203, 3) := by decide +kernel
theorem dL_law_885 : decode cL_law 885 = .ok (.ifCond .ne 5, 3) := by decide +kernel
theorem dL_law_888 : decode cL_law 888 = .ok (.iconst 0, 1) := by decide +kernel
theorem dL_law_889 : decode cL_law 889 = .ok (.ireturn, 1) := by decide +kernel
theorem dL_law_890 : decode cL_law 890 = .ok (.iinc 2 1, 3) := by decide +kernel
theorem dL_law_893 : decode cL_law 893 = .ok (.goto (-828), 3) := by decide +kernel
theorem dL_law_896 : decode cL_law 896 = .ok (.aload_n 1, 1) := by decide +kernel
theorem dL_law_897 : decode cL_law 897 = .ok (.invokestatic 174, 3) := by decide +kernel
theorem dL_law_900 : decode cL_law 900 = .ok (.ireturn, 1) := by decide +kernel
