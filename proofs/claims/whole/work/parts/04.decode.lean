theorem dX0_init_0 : decode cX0_init 0 = .ok (.aload_n 0, 1) := by decide +kernel
theorem dX0_init_1 : decode cX0_init 1 = .ok (.invokespecial 3, 3) := by decide +kernel
theorem dX0_init_4 : decode cX0_init 4 = .ok (.aload_n 0, 1) := by decide +kernel
theorem dX0_init_5 : decode cX0_init 5 = .ok (.bipush 16, 2) := by decide +kernel
theorem dX0_init_7 : decode cX0_init 7 = .ok (.newarray .int, 2) := by decide +kernel
theorem dX0_init_9 : decode cX0_init 9 = .ok (.putfield 9, 3) := by decide +kernel
theorem dX0_init_12 : decode cX0_init 12 = .ok (.aload_n 0, 1) := by decide +kernel
theorem dX0_init_13 : decode cX0_init 13 = .ok (.bipush 16, 2) := by decide +kernel
theorem dX0_init_15 : decode cX0_init 15 = .ok (.newarray .int, 2) := by decide +kernel
theorem dX0_init_17 : decode cX0_init 17 = .ok (.putfield 15, 3) := by decide +kernel
theorem dX0_init_20 : decode cX0_init 20 = .ok (.aload_n 0, 1) := by decide +kernel
theorem dX0_init_21 : decode cX0_init 21 = .ok (.sipush 608, 3) := by decide +kernel
theorem dX0_init_24 : decode cX0_init 24 = .ok (.newarray .byte, 2) := by decide +kernel
theorem dX0_init_26 : decode cX0_init 26 = .ok (.putfield 18, 3) := by decide +kernel
theorem dX0_init_29 : decode cX0_init 29 = .ok (.aload_n 0, 1) := by decide +kernel
theorem dX0_init_30 : decode cX0_init 30 = .ok (.aload_n 1, 1) := by decide +kernel
theorem dX0_init_31 : decode cX0_init 31 = .ok (.putfield 22, 3) := by decide +kernel
theorem dX0_init_34 : decode cX0_init 34 = .ok (.return_, 1) := by decide +kernel
theorem dX0_workOut_0 : decode cX0_workOut 0 = .ok (.iconst 0, 1) := by decide +kernel
theorem dX0_workOut_1 : decode cX0_workOut 1 = .ok (.istore_n 1, 1) := by decide +kernel
theorem dX0_workOut_2 : decode cX0_workOut 2 = .ok (.iload_n 1, 1) := by decide +kernel
theorem dX0_workOut_3 : decode cX0_workOut 3 = .ok (.aload_n 0, 1) := by decide +kernel
theorem dX0_workOut_4 : decode cX0_workOut 4 = .ok (.getfield 22, 3) := by decide +kernel
theorem dX0_workOut_7 : decode cX0_workOut 7 = .ok (.getfield 26, 3) := by decide +kernel
theorem dX0_workOut_10 : decode cX0_workOut 10 = .ok (.if_icmp .ge 14, 3) := by decide +kernel
theorem dX0_workOut_13 : decode cX0_workOut 13 = .ok (.aload_n 0, 1) := by decide +kernel
theorem dX0_workOut_14 : decode cX0_workOut 14 = .ok (.iload_n 1, 1) := by decide +kernel
theorem dX0_workOut_15 : decode cX0_workOut 15 = .ok (.invokevirtual 32, 3) := by decide +kernel
theorem dX0_workOut_18 : decode cX0_workOut 18 = .ok (.iinc 1 1, 3) := by decide +kernel
theorem dX0_workOut_21 : decode cX0_workOut 21 = .ok (.goto (-19), 3) := by decide +kernel
theorem dX0_workOut_24 : decode cX0_workOut 24 = .ok (.aload_n 0, 1) := by decide +kernel
theorem dX0_workOut_25 : decode cX0_workOut 25 = .ok (.iconst 0, 1) := by decide +kernel
theorem dX0_workOut_26 : decode cX0_workOut 26 = .ok (.putfield 36, 3) := by decide +kernel
theorem dX0_workOut_29 : decode cX0_workOut 29 = .ok (.iconst 0, 1) := by decide +kernel
theorem dX0_workOut_30 : decode cX0_workOut 30 = .ok (.istore_n 1, 1) := by decide +kernel
theorem dX0_workOut_31 : decode cX0_workOut 31 = .ok (.iload_n 1, 1) := by decide +kernel
theorem dX0_workOut_32 : decode cX0_workOut 32 = .ok (.aload_n 0, 1) := by decide +kernel
theorem dX0_workOut_33 : decode cX0_workOut 33 = .ok (.getfield 22, 3) := by decide +kernel
theorem dX0_workOut_36 : decode cX0_workOut 36 = .ok (.getfield 26, 3) := by decide +kernel
theorem dX0_workOut_39 : decode cX0_workOut 39 = .ok (.if_icmp .ge 47, 3) := by decide +kernel
theorem dX0_workOut_42 : decode cX0_workOut 42 = .ok (.aload_n 0, 1) := by decide +kernel
theorem dX0_workOut_43 : decode cX0_workOut 43 = .ok (.getfield 15, 3) := by decide +kernel
theorem dX0_workOut_46 : decode cX0_workOut 46 = .ok (.aload_n 0, 1) := by decide +kernel
theorem dX0_workOut_47 : decode cX0_workOut 47 = .ok (.getfield 9, 3) := by decide +kernel
theorem dX0_workOut_50 : decode cX0_workOut 50 = .ok (.iload_n 1, 1) := by decide +kernel
theorem dX0_workOut_51 : decode cX0_workOut 51 = .ok (.iaload, 1) := by decide +kernel
theorem dX0_workOut_52 : decode cX0_workOut 52 = .ok (.iload_n 1, 1) := by decide +kernel
theorem dX0_workOut_53 : decode cX0_workOut 53 = .ok (.iastore, 1) := by decide +kernel
theorem dX0_workOut_54 : decode cX0_workOut 54 = .ok (.iload_n 1, 1) := by decide +kernel
theorem dX0_workOut_55 : decode cX0_workOut 55 = .ok (.ifCond .le 15, 3) := by decide +kernel
theorem dX0_workOut_58 : decode cX0_workOut 58 = .ok (.aload_n 0, 1) := by decide +kernel
theorem dX0_workOut_59 : decode cX0_workOut 59 = .ok (.bipush 44, 2) := by decide +kernel
theorem dX0_workOut_61 : decode cX0_workOut 61 = .ok (.invokevirtual 39, 3) := by decide +kernel
theorem dX0_workOut_64 : decode cX0_workOut 64 = .ok (.aload_n 0, 1) := by decide +kernel
theorem dX0_workOut_65 : decode cX0_workOut 65 = .ok (.bipush 32, 2) := by decide +kernel
theorem dX0_workOut_67 : decode cX0_workOut 67 = .ok (.invokevirtual 39, 3) := by decide +kernel
theorem dX0_workOut_70 : decode cX0_workOut 70 = .ok (.aload_n 0, 1) := by decide +kernel
theorem dX0_workOut_71 : decode cX0_workOut 71 = .ok (.aload_n 0, 1) := by decide +kernel
theorem dX0_workOut_72 : decode cX0_workOut 72 = .ok (.getfield 9, 3) := by decide +kernel
theorem dX0_workOut_75 : decode cX0_workOut 75 = .ok (.iload_n 1, 1) := by decide +kernel
theorem dX0_workOut_76 : decode cX0_workOut 76 = .ok (.iaload, 1) := by decide +kernel
theorem dX0_workOut_77 : decode cX0_workOut 77 = .ok (.invokevirtual 42, 3) := by decide +kernel
theorem dX0_workOut_80 : decode cX0_workOut 80 = .ok (.iinc 1 1, 3) := by decide +kernel
theorem dX0_workOut_83 : decode cX0_workOut 83 = .ok (.goto (-52), 3) := by decide +kernel
theorem dX0_workOut_86 : decode cX0_workOut 86 = .ok (.return_, 1) := by decide +kernel
theorem dX0_variantAt_0 : decode cX0_variantAt 0 = .ok (.iload_n 1, 1) := by decide +kernel
theorem dX0_variantAt_1 : decode cX0_variantAt 1 = .ok (.ifCond .lt 23, 3) := by decide +kernel
theorem dX0_variantAt_4 : decode cX0_variantAt 4 = .ok (.iload_n 1, 1) := by decide +kernel
theorem dX0_variantAt_5 : decode cX0_variantAt 5 = .ok (.aload_n 0, 1) := by decide +kernel
theorem dX0_variantAt_6 : decode cX0_variantAt 6 = .ok (.getfield 22, 3) := by decide +kernel
theorem dX0_variantAt_9 : decode cX0_variantAt 9 = .ok (.getfield 26, 3) := by decide +kernel
theorem dX0_variantAt_12 : decode cX0_variantAt 12 = .ok (.if_icmp .ge 12, 3) := by decide +kernel
theorem dX0_variantAt_15 : decode cX0_variantAt 15 = .ok (.aload_n 0, 1) := by decide +kernel
theorem dX0_variantAt_16 : decode cX0_variantAt 16 = .ok (.getfield 9, 3) := by decide +kernel
theorem dX0_variantAt_19 : decode cX0_variantAt 19 = .ok (.iload_n 1, 1) := by decide +kernel
theorem dX0_variantAt_20 : decode cX0_variantAt 20 = .ok (.iaload, 1) := by decide +kernel
theorem dX0_variantAt_21 : decode cX0_variantAt 21 = .ok (.goto 4, 3) := by decide +kernel
theorem dX0_variantAt_24 : decode cX0_variantAt 24 = .ok (.iconst (-1), 1) := by decide +kernel
theorem dX0_variantAt_25 : decode cX0_variantAt 25 = .ok (.ireturn, 1) := by decide +kernel
theorem dX0_byteAt_0 : decode cX0_byteAt 0 = .ok (.iload_n 1, 1) := by decide +kernel
theorem dX0_byteAt_1 : decode cX0_byteAt 1 = .ok (.ifCond .lt 20, 3) := by decide +kernel
theorem dX0_byteAt_4 : decode cX0_byteAt 4 = .ok (.iload_n 1, 1) := by decide +kernel
theorem dX0_byteAt_5 : decode cX0_byteAt 5 = .ok (.aload_n 0, 1) := by decide +kernel
theorem dX0_byteAt_6 : decode cX0_byteAt 6 = .ok (.getfield 36, 3) := by decide +kernel
theorem dX0_byteAt_9 : decode cX0_byteAt 9 = .ok (.if_icmp .ge 12, 3) := by decide +kernel
theorem dX0_byteAt_12 : decode cX0_byteAt 12 = .ok (.aload_n 0, 1) := by decide +kernel
theorem dX0_byteAt_13 : decode cX0_byteAt 13 = .ok (.getfield 18, 3) := by decide +kernel
theorem dX0_byteAt_16 : decode cX0_byteAt 16 = .ok (.iload_n 1, 1) := by decide +kernel
theorem dX0_byteAt_17 : decode cX0_byteAt 17 = .ok (.baload, 1) := by decide +kernel
theorem dX0_byteAt_18 : decode cX0_byteAt 18 = .ok (.goto 4, 3) := by decide +kernel
theorem dX0_byteAt_21 : decode cX0_byteAt 21 = .ok (.iconst (-1), 1) := by decide +kernel
theorem dX0_byteAt_22 : decode cX0_byteAt 22 = .ok (.ireturn, 1) := by decide +kernel
theorem dX0_insert_0 : decode cX0_insert 0 = .ok (.iload_n 1, 1) := by decide +kernel
theorem dX0_insert_1 : decode cX0_insert 1 = .ok (.istore_n 2, 1) := by decide +kernel
theorem dX0_insert_2 : decode cX0_insert 2 = .ok (.iload_n 2, 1) := by decide +kernel
theorem dX0_insert_3 : decode cX0_insert 3 = .ok (.ifCond .le 39, 3) := by decide +kernel
theorem dX0_insert_6 : decode cX0_insert 6 = .ok (.aload_n 0, 1) := by decide +kernel
theorem dX0_insert_7 : decode cX0_insert 7 = .ok (.iload_n 1, 1) := by decide +kernel
theorem dX0_insert_8 : decode cX0_insert 8 = .ok (.aload_n 0, 1) := by decide +kernel
theorem dX0_insert_9 : decode cX0_insert 9 = .ok (.getfield 9, 3) := by decide +kernel
theorem dX0_insert_12 : decode cX0_insert 12 = .ok (.iload_n 2, 1) := by decide +kernel
theorem dX0_insert_13 : decode cX0_insert 13 = .ok (.iconst 1, 1) := by decide +kernel
theorem dX0_insert_14 : decode cX0_insert 14 = .ok (.isub, 1) := by decide +kernel
theorem dX0_insert_15 : decode cX0_insert 15 = .ok (.iaload, 1) := by decide +kernel
theorem dX0_insert_16 : decode cX0_insert 16 = .ok (.invokevirtual 45, 3) := by decide +kernel
theorem dX0_insert_19 : decode cX0_insert 19 = .ok (.ifCond .eq 23, 3) := by decide +kernel
theorem dX0_insert_22 : decode cX0_insert 22 = .ok (.aload_n 0, 1) := by decide +kernel
theorem dX0_insert_23 : decode cX0_insert 23 = .ok (.getfield 9, 3) := by decide +kernel
theorem dX0_insert_26 : decode cX0_insert 26 = .ok (.iload_n 2, 1) := by decide +kernel
theorem dX0_insert_27 : decode cX0_insert 27 = .ok (.aload_n 0, 1) := by decide +kernel
theorem dX0_insert_28 : decode cX0_insert 28 = .ok (.getfield 9, 3) := by decide +kernel
theorem dX0_insert_31 : decode cX0_insert 31 = .ok (.iload_n 2, 1) := by decide +kernel
theorem dX0_insert_32 : decode cX0_insert 32 = .ok (.iconst 1, 1) := by decide +kernel
theorem dX0_insert_33 : decode cX0_insert 33 = .ok (.isub, 1) := by decide +kernel
theorem dX0_insert_34 : decode cX0_insert 34 = .ok (.iaload, 1) := by decide +kernel
theorem dX0_insert_35 : decode cX0_insert 35 = .ok (.iastore, 1) := by decide +kernel
theorem dX0_insert_36 : decode cX0_insert 36 = .ok (.iinc 2 (-1), 3) := by decide +kernel
theorem dX0_insert_39 : decode cX0_insert 39 = .ok (.goto (-37), 3) := by decide +kernel
theorem dX0_insert_42 : decode cX0_insert 42 = .ok (.aload_n 0, 1) := by decide +kernel
theorem dX0_insert_43 : decode cX0_insert 43 = .ok (.getfield 9, 3) := by decide +kernel
theorem dX0_insert_46 : decode cX0_insert 46 = .ok (.iload_n 2, 1) := by decide +kernel
theorem dX0_insert_47 : decode cX0_insert 47 = .ok (.iload_n 1, 1) := by decide +kernel
theorem dX0_insert_48 : decode cX0_insert 48 = .ok (.iastore, 1) := by decide +kernel
theorem dX0_insert_49 : decode cX0_insert 49 = .ok (.return_, 1) := by decide +kernel
theorem dX0_isBefore_0 : decode cX0_isBefore 0 = .ok (.iconst 0, 1) := by decide +kernel
theorem dX0_isBefore_1 : decode cX0_isBefore 1 = .ok (.istore_n 3, 1) := by decide +kernel
theorem dX0_isBefore_2 : decode cX0_isBefore 2 = .ok (.iload_n 3, 1) := by decide +kernel
theorem dX0_isBefore_3 : decode cX0_isBefore 3 = .ok (.iconst 3, 1) := by decide +kernel
theorem dX0_isBefore_4 : decode cX0_isBefore 4 = .ok (.if_icmp .ge 53, 3) := by decide +kernel
theorem dX0_isBefore_7 : decode cX0_isBefore 7 = .ok (.aload_n 0, 1) := by decide +kernel
theorem dX0_isBefore_8 : decode cX0_isBefore 8 = .ok (.getfield 22, 3) := by decide +kernel
theorem dX0_isBefore_11 : decode cX0_isBefore 11 = .ok (.iload_n 1, 1) := by decide +kernel
theorem dX0_isBefore_12 : decode cX0_isBefore 12 = .ok (.iload_n 3, 1) := by decide +kernel
theorem dX0_isBefore_13 : decode cX0_isBefore 13 = .ok (.invokevirtual 49, 3) := by decide +kernel
theorem dX0_isBefore_16 : decode cX0_isBefore 16 = .ok (.lstore 4, 2) := by decide +kernel
theorem dX0_isBefore_18 : decode cX0_isBefore 18 = .ok (.aload_n 0, 1) := by decide +kernel
theorem dX0_isBefore_19 : decode cX0_isBefore 19 = .ok (.getfield 22, 3) := by decide +kernel
theorem dX0_isBefore_22 : decode cX0_isBefore 22 = .ok (.iload_n 2, 1) := by decide +kernel
theorem dX0_isBefore_23 : decode cX0_isBefore 23 = .ok (.iload_n 3, 1) := by decide +kernel
theorem dX0_isBefore_24 : decode cX0_isBefore 24 = .ok (.invokevirtual 49, 3) := by decide +kernel
theorem dX0_isBefore_27 : decode cX0_isBefore 27 = .ok (.lstore 6, 2) := by decide +kernel
theorem dX0_isBefore_29 : decode cX0_isBefore 29 = .ok (.lload 4, 2) := by decide +kernel
theorem dX0_isBefore_31 : decode cX0_isBefore 31 = .ok (.lload 6, 2) := by decide +kernel
theorem dX0_isBefore_33 : decode cX0_isBefore 33 = .ok (.lcmp, 1) := by decide +kernel
theorem dX0_isBefore_34 : decode cX0_isBefore 34 = .ok (.ifCond .eq 17, 3) := by decide +kernel
theorem dX0_isBefore_37 : decode cX0_isBefore 37 = .ok (.lload 4, 2) := by decide +kernel
theorem dX0_isBefore_39 : decode cX0_isBefore 39 = .ok (.lload 6, 2) := by decide +kernel
theorem dX0_isBefore_41 : decode cX0_isBefore 41 = .ok (.lcmp, 1) := by decide +kernel
theorem dX0_isBefore_42 : decode cX0_isBefore 42 = .ok (.ifCond .ge 7, 3) := by decide +kernel
theorem dX0_isBefore_45 : decode cX0_isBefore 45 = .ok (.iconst 1, 1) := by decide +kernel
theorem dX0_isBefore_46 : decode cX0_isBefore 46 = .ok (.goto 4, 3) := by decide +kernel
theorem dX0_isBefore_49 : decode cX0_isBefore 49 = .ok (.iconst 0, 1) := by decide +kernel
theorem dX0_isBefore_50 : decode cX0_isBefore 50 = .ok (.ireturn, 1) := by decide +kernel
theorem dX0_isBefore_51 : decode cX0_isBefore 51 = .ok (.iinc 3 1, 3) := by decide +kernel
theorem dX0_isBefore_54 : decode cX0_isBefore 54 = .ok (.goto (-52), 3) := by decide +kernel
theorem dX0_isBefore_57 : decode cX0_isBefore 57 = .ok (.iconst 0, 1) := by decide +kernel
theorem dX0_isBefore_58 : decode cX0_isBefore 58 = .ok (.ireturn, 1) := by decide +kernel
theorem dX0_putVariant_0 : decode cX0_putVariant 0 = .ok (.aload_n 0, 1) := by decide +kernel
theorem dX0_putVariant_1 : decode cX0_putVariant 1 = .ok (.aload_n 0, 1) := by decide +kernel
theorem dX0_putVariant_2 : decode cX0_putVariant 2 = .ok (.getfield 22, 3) := by decide +kernel
theorem dX0_putVariant_5 : decode cX0_putVariant 5 = .ok (.iload_n 1, 1) := by decide +kernel
theorem dX0_putVariant_6 : decode cX0_putVariant 6 = .ok (.iconst 0, 1) := by decide +kernel
theorem dX0_putVariant_7 : decode cX0_putVariant 7 = .ok (.invokevirtual 49, 3) := by decide +kernel
theorem dX0_putVariant_10 : decode cX0_putVariant 10 = .ok (.iconst 0, 1) := by decide +kernel
theorem dX0_putVariant_11 : decode cX0_putVariant 11 = .ok (.bipush 47, 2) := by decide +kernel
theorem dX0_putVariant_13 : decode cX0_putVariant 13 = .ok (.invokevirtual 53, 3) := by decide +kernel
theorem dX0_putVariant_16 : decode cX0_putVariant 16 = .ok (.aload_n 0, 1) := by decide +kernel
theorem dX0_putVariant_17 : decode cX0_putVariant 17 = .ok (.bipush 32, 2) := by decide +kernel
theorem dX0_putVariant_19 : decode cX0_putVariant 19 = .ok (.invokevirtual 39, 3) := by decide +kernel
theorem dX0_putVariant_22 : decode cX0_putVariant 22 = .ok (.aload_n 0, 1) := by decide +kernel
theorem dX0_putVariant_23 : decode cX0_putVariant 23 = .ok (.aload_n 0, 1) := by decide +kernel
theorem dX0_putVariant_24 : decode cX0_putVariant 24 = .ok (.getfield 22, 3) := by decide +kernel
theorem dX0_putVariant_27 : decode cX0_putVariant 27 = .ok (.iload_n 1, 1) := by decide +kernel
theorem dX0_putVariant_28 : decode cX0_putVariant 28 = .ok (.iconst 1, 1) := by decide +kernel
theorem dX0_putVariant_29 : decode cX0_putVariant 29 = .ok (.invokevirtual 49, 3) := by decide +kernel
theorem dX0_putVariant_32 : decode cX0_putVariant 32 = .ok (.iconst 1, 1) := by decide +kernel
theorem dX0_putVariant_33 : decode cX0_putVariant 33 = .ok (.bipush 45, 2) := by decide +kernel
theorem dX0_putVariant_35 : decode cX0_putVariant 35 = .ok (.invokevirtual 53, 3) := by decide +kernel
theorem dX0_putVariant_38 : decode cX0_putVariant 38 = .ok (.aload_n 0, 1) := by decide +kernel
theorem dX0_putVariant_39 : decode cX0_putVariant 39 = .ok (.bipush 32, 2) := by decide +kernel
theorem dX0_putVariant_41 : decode cX0_putVariant 41 = .ok (.invokevirtual 39, 3) := by decide +kernel
theorem dX0_putVariant_44 : decode cX0_putVariant 44 = .ok (.aload_n 0, 1) := by decide +kernel
theorem dX0_putVariant_45 : decode cX0_putVariant 45 = .ok (.aload_n 0, 1) := by decide +kernel
theorem dX0_putVariant_46 : decode cX0_putVariant 46 = .ok (.getfield 22, 3) := by decide +kernel
theorem dX0_putVariant_49 : decode cX0_putVariant 49 = .ok (.iload_n 1, 1) := by decide +kernel
theorem dX0_putVariant_50 : decode cX0_putVariant 50 = .ok (.iconst 2, 1) := by decide +kernel
theorem dX0_putVariant_51 : decode cX0_putVariant 51 = .ok (.invokevirtual 49, 3) := by decide +kernel
theorem dX0_putVariant_54 : decode cX0_putVariant 54 = .ok (.iconst 2, 1) := by decide +kernel
theorem dX0_putVariant_55 : decode cX0_putVariant 55 = .ok (.bipush 32, 2) := by decide +kernel
theorem dX0_putVariant_57 : decode cX0_putVariant 57 = .ok (.invokevirtual 53, 3) := by decide +kernel
theorem dX0_putVariant_60 : decode cX0_putVariant 60 = .ok (.aload_n 0, 1) := by decide +kernel
theorem dX0_putVariant_61 : decode cX0_putVariant 61 = .ok (.bipush 32, 2) := by decide +kernel
theorem dX0_putVariant_63 : decode cX0_putVariant 63 = .ok (.invokevirtual 39, 3) := by decide +kernel
theorem dX0_putVariant_66 : decode cX0_putVariant 66 = .ok (.aload_n 0, 1) := by decide +kernel
theorem dX0_putVariant_67 : decode cX0_putVariant 67 = .ok (.aload_n 0, 1) := by decide +kernel
theorem dX0_putVariant_68 : decode cX0_putVariant 68 = .ok (.getfield 22, 3) := by decide +kernel
theorem dX0_putVariant_71 : decode cX0_putVariant 71 = .ok (.getfield 57, 3) := by decide +kernel
theorem dX0_putVariant_74 : decode cX0_putVariant 74 = .ok (.iload_n 1, 1) := by decide +kernel
theorem dX0_putVariant_75 : decode cX0_putVariant 75 = .ok (.iaload, 1) := by decide +kernel
theorem dX0_putVariant_76 : decode cX0_putVariant 76 = .ok (.invokevirtual 60, 3) := by decide +kernel
theorem dX0_putVariant_79 : decode cX0_putVariant 79 = .ok (.return_, 1) := by decide +kernel
theorem dX0_putNames_0 : decode cX0_putNames 0 = .ok (.getstatic 63, 3) := by decide +kernel
theorem dX0_putNames_3 : decode cX0_putNames 3 = .ok (.iload_n 3, 1) := by decide +kernel
theorem dX0_putNames_4 : decode cX0_putNames 4 = .ok (.iaload, 1) := by decide +kernel
theorem dX0_putNames_5 : decode cX0_putNames 5 = .ok (.iconst 1, 1) := by decide +kernel
theorem dX0_putNames_6 : decode cX0_putNames 6 = .ok (.isub, 1) := by decide +kernel
theorem dX0_putNames_7 : decode cX0_putNames 7 = .ok (.istore 5, 2) := by decide +kernel
theorem dX0_putNames_9 : decode cX0_putNames 9 = .ok (.iconst 0, 1) := by decide +kernel
theorem dX0_putNames_10 : decode cX0_putNames 10 = .ok (.istore 6, 2) := by decide +kernel
theorem dX0_putNames_12 : decode cX0_putNames 12 = .ok (.iload 6, 2) := by decide +kernel
theorem dX0_putNames_14 : decode cX0_putNames 14 = .ok (.iload 5, 2) := by decide +kernel
theorem dX0_putNames_16 : decode cX0_putNames 16 = .ok (.if_icmp .gt 48, 3) := by decide +kernel
theorem dX0_putNames_19 : decode cX0_putNames 19 = .ok (.lload_n 1, 1) := by decide +kernel
theorem dX0_putNames_20 : decode cX0_putNames 20 = .ok (.bipush 20, 2) := by decide +kernel
theorem dX0_putNames_22 : decode cX0_putNames 22 = .ok (.iload 5, 2) := by decide +kernel
theorem dX0_putNames_24 : decode cX0_putNames 24 = .ok (.iload 6, 2) := by decide +kernel
theorem dX0_putNames_26 : decode cX0_putNames 26 = .ok (.isub, 1) := by decide +kernel
theorem dX0_putNames_27 : decode cX0_putNames 27 = .ok (.imul, 1) := by decide +kernel
theorem dX0_putNames_28 : decode cX0_putNames 28 = .ok (.lushr, 1) := by decide +kernel
theorem dX0_putNames_29 : decode cX0_putNames 29 = .ok (.ldc2_w 66, 3) := by decide +kernel
theorem dX0_putNames_32 : decode cX0_putNames 32 = .ok (.land, 1) := by decide +kernel
theorem dX0_putNames_33 : decode cX0_putNames 33 = .ok (.l2i, 1) := by decide +kernel
theorem dX0_putNames_34 : decode cX0_putNames 34 = .ok (.istore 7, 2) := by decide +kernel
theorem dX0_putNames_36 : decode cX0_putNames 36 = .ok (.iload 6, 2) := by decide +kernel
theorem dX0_putNames_38 : decode cX0_putNames 38 = .ok (.ifCond .le 14, 3) := by decide +kernel
theorem dX0_putNames_41 : decode cX0_putNames 41 = .ok (.iload 7, 2) := by decide +kernel
theorem dX0_putNames_43 : decode cX0_putNames 43 = .ok (.ifCond .eq 9, 3) := by decide +kernel
theorem dX0_putNames_46 : decode cX0_putNames 46 = .ok (.aload_n 0, 1) := by decide +kernel
theorem dX0_putNames_47 : decode cX0_putNames 47 = .ok (.iload 4, 2) := by decide +kernel
theorem dX0_putNames_49 : decode cX0_putNames 49 = .ok (.invokevirtual 39, 3) := by decide +kernel
theorem dX0_putNames_52 : decode cX0_putNames 52 = .ok (.aload_n 0, 1) := by decide +kernel
theorem dX0_putNames_53 : decode cX0_putNames 53 = .ok (.iload 7, 2) := by decide +kernel
theorem dX0_putNames_55 : decode cX0_putNames 55 = .ok (.invokevirtual 68, 3) := by decide +kernel
theorem dX0_putNames_58 : decode cX0_putNames 58 = .ok (.iinc 6 1, 3) := by decide +kernel
theorem dX0_putNames_61 : decode cX0_putNames 61 = .ok (.goto (-49), 3) := by decide +kernel
theorem dX0_putNames_64 : decode cX0_putNames 64 = .ok (.return_, 1) := by decide +kernel
theorem dX0_putName_0 : decode cX0_putName 0 = .ok (.iconst 3, 1) := by decide +kernel
theorem dX0_putName_1 : decode cX0_putName 1 = .ok (.istore_n 2, 1) := by decide +kernel
theorem dX0_putName_2 : decode cX0_putName 2 = .ok (.iload_n 2, 1) := by decide +kernel
theorem dX0_putName_3 : decode cX0_putName 3 = .ok (.ifCond .lt 32, 3) := by decide +kernel
theorem dX0_putName_6 : decode cX0_putName 6 = .ok (.iload_n 1, 1) := by decide +kernel
theorem dX0_putName_7 : decode cX0_putName 7 = .ok (.iconst 5, 1) := by decide +kernel
theorem dX0_putName_8 : decode cX0_putName 8 = .ok (.iload_n 2, 1) := by decide +kernel
theorem dX0_putName_9 : decode cX0_putName 9 = .ok (.imul, 1) := by decide +kernel
theorem dX0_putName_10 : decode cX0_putName 10 = .ok (.iushr, 1) := by decide +kernel
theorem dX0_putName_11 : decode cX0_putName 11 = .ok (.bipush 31, 2) := by decide +kernel
theorem dX0_putName_13 : decode cX0_putName 13 = .ok (.iand, 1) := by decide +kernel
theorem dX0_putName_14 : decode cX0_putName 14 = .ok (.istore_n 3, 1) := by decide +kernel
theorem dX0_putName_15 : decode cX0_putName 15 = .ok (.iload_n 3, 1) := by decide +kernel
theorem dX0_putName_16 : decode cX0_putName 16 = .ok (.ifCond .eq 13, 3) := by decide +kernel
theorem dX0_putName_19 : decode cX0_putName 19 = .ok (.aload_n 0, 1) := by decide +kernel
theorem dX0_putName_20 : decode cX0_putName 20 = .ok (.bipush 97, 2) := by decide +kernel
theorem dX0_putName_22 : decode cX0_putName 22 = .ok (.iload_n 3, 1) := by decide +kernel
theorem dX0_putName_23 : decode cX0_putName 23 = .ok (.iadd, 1) := by decide +kernel
theorem dX0_putName_24 : decode cX0_putName 24 = .ok (.iconst 1, 1) := by decide +kernel
theorem dX0_putName_25 : decode cX0_putName 25 = .ok (.isub, 1) := by decide +kernel
theorem dX0_putName_26 : decode cX0_putName 26 = .ok (.invokevirtual 39, 3) := by decide +kernel
theorem dX0_putName_29 : decode cX0_putName 29 = .ok (.iinc 2 (-1), 3) := by decide +kernel
theorem dX0_putName_32 : decode cX0_putName 32 = .ok (.goto (-30), 3) := by decide +kernel
theorem dX0_putName_35 : decode cX0_putName 35 = .ok (.return_, 1) := by decide +kernel
theorem dX0_putNumber_0 : decode cX0_putNumber 0 = .ok (.iconst 0, 1) := by decide +kernel
theorem dX0_putNumber_1 : decode cX0_putNumber 1 = .ok (.istore_n 2, 1) := by decide +kernel
theorem dX0_putNumber_2 : decode cX0_putNumber 2 = .ok (.ldc 71, 2) := by decide +kernel
theorem dX0_putNumber_4 : decode cX0_putNumber 4 = .ok (.istore_n 3, 1) := by decide +kernel
theorem dX0_putNumber_5 : decode cX0_putNumber 5 = .ok (.iload_n 3, 1) := by decide +kernel
theorem dX0_putNumber_6 : decode cX0_putNumber 6 = .ok (.ifCond .le 52, 3) := by decide +kernel
theorem dX0_putNumber_9 : decode cX0_putNumber 9 = .ok (.iload_n 1, 1) := by decide +kernel
theorem dX0_putNumber_10 : decode cX0_putNumber 10 = .ok (.iload_n 3, 1) := by decide +kernel
theorem dX0_putNumber_11 : decode cX0_putNumber 11 = .ok (.idiv, 1) := by decide +kernel
theorem dX0_putNumber_12 : decode cX0_putNumber 12 = .ok (.bipush 10, 2) := by decide +kernel
theorem dX0_putNumber_14 : decode cX0_putNumber 14 = .ok (.irem, 1) := by decide +kernel
theorem dX0_putNumber_15 : decode cX0_putNumber 15 = .ok (.istore 4, 2) := by decide +kernel
theorem dX0_putNumber_17 : decode cX0_putNumber 17 = .ok (.iload_n 2, 1) := by decide +kernel
theorem dX0_putNumber_18 : decode cX0_putNumber 18 = .ok (.ifCond .ne 13, 3) := by decide +kernel
theorem dX0_putNumber_21 : decode cX0_putNumber 21 = .ok (.iload 4, 2) := by decide +kernel
theorem dX0_putNumber_23 : decode cX0_putNumber 23 = .ok (.ifCond .ne 8, 3) := by decide +kernel
theorem dX0_putNumber_26 : decode cX0_putNumber 26 = .ok (.iload_n 3, 1) := by decide +kernel
theorem dX0_putNumber_27 : decode cX0_putNumber 27 = .ok (.iconst 1, 1) := by decide +kernel
theorem dX0_putNumber_28 : decode cX0_putNumber 28 = .ok (.if_icmp .ne 7, 3) := by decide +kernel
theorem dX0_putNumber_31 : decode cX0_putNumber 31 = .ok (.iconst 1, 1) := by decide +kernel
theorem dX0_putNumber_32 : decode cX0_putNumber 32 = .ok (.goto 4, 3) := by decide +kernel
theorem dX0_putNumber_35 : decode cX0_putNumber 35 = .ok (.iconst 0, 1) := by decide +kernel
theorem dX0_putNumber_36 : decode cX0_putNumber 36 = .ok (.istore_n 2, 1) := by decide +kernel
theorem dX0_putNumber_37 : decode cX0_putNumber 37 = .ok (.iload_n 2, 1) := by decide +kernel
theorem dX0_putNumber_38 : decode cX0_putNumber 38 = .ok (.ifCond .eq 12, 3) := by decide +kernel
theorem dX0_putNumber_41 : decode cX0_putNumber 41 = .ok (.aload_n 0, 1) := by decide +kernel
theorem dX0_putNumber_42 : decode cX0_putNumber 42 = .ok (.bipush 48, 2) := by decide +kernel
theorem dX0_putNumber_44 : decode cX0_putNumber 44 = .ok (.iload 4, 2) := by decide +kernel
theorem dX0_putNumber_46 : decode cX0_putNumber 46 = .ok (.iadd, 1) := by decide +kernel
theorem dX0_putNumber_47 : decode cX0_putNumber 47 = .ok (.invokevirtual 39, 3) := by decide +kernel
theorem dX0_putNumber_50 : decode cX0_putNumber 50 = .ok (.iload_n 3, 1) := by decide +kernel
theorem dX0_putNumber_51 : decode cX0_putNumber 51 = .ok (.bipush 10, 2) := by decide +kernel
theorem dX0_putNumber_53 : decode cX0_putNumber 53 = .ok (.idiv, 1) := by decide +kernel
theorem dX0_putNumber_54 : decode cX0_putNumber 54 = .ok (.istore_n 3, 1) := by decide +kernel
theorem dX0_putNumber_55 : decode cX0_putNumber 55 = .ok (.goto (-50), 3) := by decide +kernel
theorem dX0_putNumber_58 : decode cX0_putNumber 58 = .ok (.return_, 1) := by decide +kernel
theorem dX0_put_0 : decode cX0_put 0 = .ok (.aload_n 0, 1) := by decide +kernel
theorem dX0_put_1 : decode cX0_put 1 = .ok (.getfield 36, 3) := by decide +kernel
theorem dX0_put_4 : decode cX0_put 4 = .ok (.sipush 608, 3) := by decide +kernel
theorem dX0_put_7 : decode cX0_put 7 = .ok (.if_icmp .ge 24, 3) := by decide +kernel
theorem dX0_put_10 : decode cX0_put 10 = .ok (.aload_n 0, 1) := by decide +kernel
theorem dX0_put_11 : decode cX0_put 11 = .ok (.getfield 18, 3) := by decide +kernel
theorem dX0_put_14 : decode cX0_put 14 = .ok (.aload_n 0, 1) := by decide +kernel
theorem dX0_put_15 : decode cX0_put 15 = .ok (.getfield 36, 3) := by decide +kernel
theorem dX0_put_18 : decode cX0_put 18 = .ok (.iload_n 1, 1) := by decide +kernel
theorem dX0_put_19 : decode cX0_put 19 = .ok (.i2b, 1) := by decide +kernel
theorem dX0_put_20 : decode cX0_put 20 = .ok (.bastore, 1) := by decide +kernel
theorem dX0_put_21 : decode cX0_put 21 = .ok (.aload_n 0, 1) := by decide +kernel
theorem dX0_put_22 : decode cX0_put 22 = .ok (.dup, 1) := by decide +kernel
theorem dX0_put_23 : decode cX0_put 23 = .ok (.getfield 36, 3) := by decide +kernel
theorem dX0_put_26 : decode cX0_put 26 = .ok (.iconst 1, 1) := by decide +kernel
theorem dX0_put_27 : decode cX0_put 27 = .ok (.iadd, 1) := by decide +kernel
theorem dX0_put_28 : decode cX0_put 28 = .ok (.putfield 36, 3) := by decide +kernel
theorem dX0_put_31 : decode cX0_put 31 = .ok (.return_, 1) := by decide +kernel
theorem dX1_init_0 : decode cX1_init 0 = .ok (.aload_n 0, 1) := by decide +kernel
theorem dX1_init_1 : decode cX1_init 1 = .ok (.invokespecial 3, 3) := by decide +kernel
theorem dX1_init_4 : decode cX1_init 4 = .ok (.aload_n 0, 1) := by decide +kernel
theorem dX1_init_5 : decode cX1_init 5 = .ok (.bipush 10, 2) := by decide +kernel
theorem dX1_init_7 : decode cX1_init 7 = .ok (.newarray .long, 2) := by decide +kernel
theorem dX1_init_9 : decode cX1_init 9 = .ok (.putfield 9, 3) := by decide +kernel
theorem dX1_init_12 : decode cX1_init 12 = .ok (.aload_n 0, 1) := by decide +kernel
theorem dX1_init_13 : decode cX1_init 13 = .ok (.bipush 10, 2) := by decide +kernel
theorem dX1_init_15 : decode cX1_init 15 = .ok (.newarray .int, 2) := by decide +kernel
theorem dX1_init_17 : decode cX1_init 17 = .ok (.putfield 15, 3) := by decide +kernel
theorem dX1_init_20 : decode cX1_init 20 = .ok (.aload_n 0, 1) := by decide +kernel
theorem dX1_init_21 : decode cX1_init 21 = .ok (.bipush 10, 2) := by decide +kernel
theorem dX1_init_23 : decode cX1_init 23 = .ok (.newarray .int, 2) := by decide +kernel
theorem dX1_init_25 : decode cX1_init 25 = .ok (.putfield 19, 3) := by decide +kernel
theorem dX1_init_28 : decode cX1_init 28 = .ok (.aload_n 0, 1) := by decide +kernel
theorem dX1_init_29 : decode cX1_init 29 = .ok (.iconst 3, 1) := by decide +kernel
theorem dX1_init_30 : decode cX1_init 30 = .ok (.newarray .long, 2) := by decide +kernel
theorem dX1_init_32 : decode cX1_init 32 = .ok (.putfield 22, 3) := by decide +kernel
theorem dX1_init_35 : decode cX1_init 35 = .ok (.aload_n 0, 1) := by decide +kernel
theorem dX1_init_36 : decode cX1_init 36 = .ok (.aload_n 1, 1) := by decide +kernel
theorem dX1_init_37 : decode cX1_init 37 = .ok (.putfield 25, 3) := by decide +kernel
theorem dX1_init_40 : decode cX1_init 40 = .ok (.return_, 1) := by decide +kernel
theorem dX1_readList_0 : decode cX1_readList 0 = .ok (.aload_n 0, 1) := by decide +kernel
theorem dX1_readList_1 : decode cX1_readList 1 = .ok (.iconst 0, 1) := by decide +kernel
theorem dX1_readList_2 : decode cX1_readList 2 = .ok (.putfield 29, 3) := by decide +kernel
theorem dX1_readList_5 : decode cX1_readList 5 = .ok (.aload_n 0, 1) := by decide +kernel
theorem dX1_readList_6 : decode cX1_readList 6 = .ok (.iconst 0, 1) := by decide +kernel
theorem dX1_readList_7 : decode cX1_readList 7 = .ok (.putfield 33, 3) := by decide +kernel
theorem dX1_readList_10 : decode cX1_readList 10 = .ok (.aload_n 0, 1) := by decide +kernel
theorem dX1_readList_11 : decode cX1_readList 11 = .ok (.invokevirtual 36, 3) := by decide +kernel
theorem dX1_readList_14 : decode cX1_readList 14 = .ok (.aload_n 0, 1) := by decide +kernel
theorem dX1_readList_15 : decode cX1_readList 15 = .ok (.invokevirtual 39, 3) := by decide +kernel
theorem dX1_readList_18 : decode cX1_readList 18 = .ok (.ifCond .eq 5, 3) := by decide +kernel
theorem dX1_readList_21 : decode cX1_readList 21 = .ok (.iconst (-1), 1) := by decide +kernel
theorem dX1_readList_22 : decode cX1_readList 22 = .ok (.ireturn, 1) := by decide +kernel
theorem dX1_readList_23 : decode cX1_readList 23 = .ok (.iconst 0, 1) := by decide +kernel
theorem dX1_readList_24 : decode cX1_readList 24 = .ok (.istore_n 2, 1) := by decide +kernel
theorem dX1_readList_25 : decode cX1_readList 25 = .ok (.iload_n 2, 1) := by decide +kernel
theorem dX1_readList_26 : decode cX1_readList 26 = .ok (.bipush 10, 2) := by decide +kernel
theorem dX1_readList_28 : decode cX1_readList 28 = .ok (.if_icmp .ge 67, 3) := by decide +kernel
theorem dX1_readList_31 : decode cX1_readList 31 = .ok (.aload_n 0, 1) := by decide +kernel
theorem dX1_readList_32 : decode cX1_readList 32 = .ok (.iload_n 1, 1) := by decide +kernel
theorem dX1_readList_33 : decode cX1_readList 33 = .ok (.iconst 1, 1) := by decide +kernel
theorem dX1_readList_34 : decode cX1_readList 34 = .ok (.invokevirtual 43, 3) := by decide +kernel
theorem dX1_readList_37 : decode cX1_readList 37 = .ok (.ifCond .ne 8, 3) := by decide +kernel
theorem dX1_readList_40 : decode cX1_readList 40 = .ok (.aload_n 0, 1) := by decide +kernel
theorem dX1_readList_41 : decode cX1_readList 41 = .ok (.getfield 29, 3) := by decide +kernel
theorem dX1_readList_44 : decode cX1_readList 44 = .ok (.ireturn, 1) := by decide +kernel
theorem dX1_readList_45 : decode cX1_readList 45 = .ok (.aload_n 0, 1) := by decide +kernel
theorem dX1_readList_46 : decode cX1_readList 46 = .ok (.invokevirtual 47, 3) := by decide +kernel
theorem dX1_readList_49 : decode cX1_readList 49 = .ok (.istore_n 3, 1) := by decide +kernel
theorem dX1_readList_50 : decode cX1_readList 50 = .ok (.iload_n 3, 1) := by decide +kernel
theorem dX1_readList_51 : decode cX1_readList 51 = .ok (.iconst (-1), 1) := by decide +kernel
theorem dX1_readList_52 : decode cX1_readList 52 = .ok (.if_icmp .eq 5, 3) := by decide +kernel
theorem dX1_readList_55 : decode cX1_readList 55 = .ok (.iload_n 3, 1) := by decide +kernel
theorem dX1_readList_56 : decode cX1_readList 56 = .ok (.ireturn, 1) := by decide +kernel
theorem dX1_readList_57 : decode cX1_readList 57 = .ok (.aload_n 0, 1) := by decide +kernel
theorem dX1_readList_58 : decode cX1_readList 58 = .ok (.iload_n 2, 1) := by decide +kernel
theorem dX1_readList_59 : decode cX1_readList 59 = .ok (.invokevirtual 51, 3) := by decide +kernel
theorem dX1_readList_62 : decode cX1_readList 62 = .ok (.aload_n 0, 1) := by decide +kernel
theorem dX1_readList_63 : decode cX1_readList 63 = .ok (.invokevirtual 39, 3) := by decide +kernel
theorem dX1_readList_66 : decode cX1_readList 66 = .ok (.ifCond .eq 5, 3) := by decide +kernel
theorem dX1_readList_69 : decode cX1_readList 69 = .ok (.iconst (-1), 1) := by decide +kernel
theorem dX1_readList_70 : decode cX1_readList 70 = .ok (.ireturn, 1) := by decide +kernel
theorem dX1_readList_71 : decode cX1_readList 71 = .ok (.aload_n 0, 1) := by decide +kernel
theorem dX1_readList_72 : decode cX1_readList 72 = .ok (.bipush 44, 2) := by decide +kernel
theorem dX1_readList_74 : decode cX1_readList 74 = .ok (.invokevirtual 55, 3) := by decide +kernel
theorem dX1_readList_77 : decode cX1_readList 77 = .ok (.ifCond .ne 8, 3) := by decide +kernel
theorem dX1_readList_80 : decode cX1_readList 80 = .ok (.aload_n 0, 1) := by decide +kernel
theorem dX1_readList_81 : decode cX1_readList 81 = .ok (.getfield 29, 3) := by decide +kernel
theorem dX1_readList_84 : decode cX1_readList 84 = .ok (.ireturn, 1) := by decide +kernel
theorem dX1_readList_85 : decode cX1_readList 85 = .ok (.aload_n 0, 1) := by decide +kernel
theorem dX1_readList_86 : decode cX1_readList 86 = .ok (.invokevirtual 36, 3) := by decide +kernel
theorem dX1_readList_89 : decode cX1_readList 89 = .ok (.iinc 2 1, 3) := by decide +kernel
theorem dX1_readList_92 : decode cX1_readList 92 = .ok (.goto (-67), 3) := by decide +kernel
theorem dX1_readList_95 : decode cX1_readList 95 = .ok (.aload_n 0, 1) := by decide +kernel
theorem dX1_readList_96 : decode cX1_readList 96 = .ok (.getfield 29, 3) := by decide +kernel
theorem dX1_readList_99 : decode cX1_readList 99 = .ok (.ireturn, 1) := by decide +kernel
theorem dX1_readVariant_0 : decode cX1_readVariant 0 = .ok (.aload_n 0, 1) := by decide +kernel
theorem dX1_readVariant_1 : decode cX1_readVariant 1 = .ok (.iconst 0, 1) := by decide +kernel
theorem dX1_readVariant_2 : decode cX1_readVariant 2 = .ok (.putfield 29, 3) := by decide +kernel
theorem dX1_readVariant_5 : decode cX1_readVariant 5 = .ok (.aload_n 0, 1) := by decide +kernel
theorem dX1_readVariant_6 : decode cX1_readVariant 6 = .ok (.invokevirtual 36, 3) := by decide +kernel
theorem dX1_readVariant_9 : decode cX1_readVariant 9 = .ok (.iconst 0, 1) := by decide +kernel
theorem dX1_readVariant_10 : decode cX1_readVariant 10 = .ok (.istore_n 1, 1) := by decide +kernel
theorem dX1_readVariant_11 : decode cX1_readVariant 11 = .ok (.iload_n 1, 1) := by decide +kernel
theorem dX1_readVariant_12 : decode cX1_readVariant 12 = .ok (.iconst 3, 1) := by decide +kernel
theorem dX1_readVariant_13 : decode cX1_readVariant 13 = .ok (.if_icmp .ge 51, 3) := by decide +kernel
theorem dX1_readVariant_16 : decode cX1_readVariant 16 = .ok (.aload_n 0, 1) := by decide +kernel
theorem dX1_readVariant_17 : decode cX1_readVariant 17 = .ok (.iload_n 1, 1) := by decide +kernel
theorem dX1_readVariant_18 : decode cX1_readVariant 18 = .ok (.iconst 0, 1) := by decide +kernel
theorem dX1_readVariant_19 : decode cX1_readVariant 19 = .ok (.invokevirtual 43, 3) := by decide +kernel
theorem dX1_readVariant_22 : decode cX1_readVariant 22 = .ok (.ifCond .ne 8, 3) := by decide +kernel
theorem dX1_readVariant_25 : decode cX1_readVariant 25 = .ok (.aload_n 0, 1) := by decide +kernel
theorem dX1_readVariant_26 : decode cX1_readVariant 26 = .ok (.getfield 29, 3) := by decide +kernel
theorem dX1_readVariant_29 : decode cX1_readVariant 29 = .ok (.ireturn, 1) := by decide +kernel
theorem dX1_readVariant_30 : decode cX1_readVariant 30 = .ok (.aload_n 0, 1) := by decide +kernel
theorem dX1_readVariant_31 : decode cX1_readVariant 31 = .ok (.getfield 22, 3) := by decide +kernel
theorem dX1_readVariant_34 : decode cX1_readVariant 34 = .ok (.iload_n 1, 1) := by decide +kernel
theorem dX1_readVariant_35 : decode cX1_readVariant 35 = .ok (.aload_n 0, 1) := by decide +kernel
theorem dX1_readVariant_36 : decode cX1_readVariant 36 = .ok (.getfield 59, 3) := by decide +kernel
theorem dX1_readVariant_39 : decode cX1_readVariant 39 = .ok (.lastore, 1) := by decide +kernel
theorem dX1_readVariant_40 : decode cX1_readVariant 40 = .ok (.aload_n 0, 1) := by decide +kernel
theorem dX1_readVariant_41 : decode cX1_readVariant 41 = .ok (.invokevirtual 63, 3) := by decide +kernel
theorem dX1_readVariant_44 : decode cX1_readVariant 44 = .ok (.bipush 32, 2) := by decide +kernel
theorem dX1_readVariant_46 : decode cX1_readVariant 46 = .ok (.if_icmp .eq 8, 3) := by decide +kernel
theorem dX1_readVariant_49 : decode cX1_readVariant 49 = .ok (.aload_n 0, 1) := by decide +kernel
theorem dX1_readVariant_50 : decode cX1_readVariant 50 = .ok (.getfield 29, 3) := by decide +kernel
theorem dX1_readVariant_53 : decode cX1_readVariant 53 = .ok (.ireturn, 1) := by decide +kernel
theorem dX1_readVariant_54 : decode cX1_readVariant 54 = .ok (.aload_n 0, 1) := by decide +kernel
theorem dX1_readVariant_55 : decode cX1_readVariant 55 = .ok (.invokevirtual 36, 3) := by decide +kernel
theorem dX1_readVariant_58 : decode cX1_readVariant 58 = .ok (.iinc 1 1, 3) := by decide +kernel
theorem dX1_readVariant_61 : decode cX1_readVariant 61 = .ok (.goto (-50), 3) := by decide +kernel
theorem dX1_readVariant_64 : decode cX1_readVariant 64 = .ok (.aload_n 0, 1) := by decide +kernel
theorem dX1_readVariant_65 : decode cX1_readVariant 65 = .ok (.bipush 6, 2) := by decide +kernel
theorem dX1_readVariant_67 : decode cX1_readVariant 67 = .ok (.invokevirtual 66, 3) := by decide +kernel
theorem dX1_readVariant_70 : decode cX1_readVariant 70 = .ok (.ifCond .ne 8, 3) := by decide +kernel
theorem dX1_readVariant_73 : decode cX1_readVariant 73 = .ok (.aload_n 0, 1) := by decide +kernel
theorem dX1_readVariant_74 : decode cX1_readVariant 74 = .ok (.getfield 29, 3) := by decide +kernel
theorem dX1_readVariant_77 : decode cX1_readVariant 77 = .ok (.ireturn, 1) := by decide +kernel
theorem dX1_readVariant_78 : decode cX1_readVariant 78 = .ok (.aload_n 0, 1) := by decide +kernel
theorem dX1_readVariant_79 : decode cX1_readVariant 79 = .ok (.aload_n 0, 1) := by decide +kernel
theorem dX1_readVariant_80 : decode cX1_readVariant 80 = .ok (.getfield 69, 3) := by decide +kernel
theorem dX1_readVariant_83 : decode cX1_readVariant 83 = .ok (.putfield 72, 3) := by decide +kernel
theorem dX1_readVariant_86 : decode cX1_readVariant 86 = .ok (.aload_n 0, 1) := by decide +kernel
theorem dX1_readVariant_87 : decode cX1_readVariant 87 = .ok (.invokevirtual 36, 3) := by decide +kernel
theorem dX1_readVariant_90 : decode cX1_readVariant 90 = .ok (.aload_n 0, 1) := by decide +kernel
theorem dX1_readVariant_91 : decode cX1_readVariant 91 = .ok (.invokevirtual 39, 3) := by decide +kernel
theorem dX1_readVariant_94 : decode cX1_readVariant 94 = .ok (.ifCond .eq 7, 3) := by decide +kernel
theorem dX1_readVariant_97 : decode cX1_readVariant 97 = .ok (.iconst (-1), 1) := by decide +kernel
theorem dX1_readVariant_98 : decode cX1_readVariant 98 = .ok (.goto 7, 3) := by decide +kernel
theorem dX1_readVariant_101 : decode cX1_readVariant 101 = .ok (.aload_n 0, 1) := by decide +kernel
theorem dX1_readVariant_102 : decode cX1_readVariant 102 = .ok (.getfield 29, 3) := by decide +kernel
theorem dX1_readVariant_105 : decode cX1_readVariant 105 = .ok (.ireturn, 1) := by decide +kernel
theorem dX1_keepEntry_0 : decode cX1_keepEntry 0 = .ok (.aload_n 0, 1) := by decide +kernel
theorem dX1_keepEntry_1 : decode cX1_keepEntry 1 = .ok (.getfield 9, 3) := by decide +kernel
theorem dX1_keepEntry_4 : decode cX1_keepEntry 4 = .ok (.iload_n 1, 1) := by decide +kernel
theorem dX1_keepEntry_5 : decode cX1_keepEntry 5 = .ok (.aload_n 0, 1) := by decide +kernel
theorem dX1_keepEntry_6 : decode cX1_keepEntry 6 = .ok (.getfield 59, 3) := by decide +kernel
theorem dX1_keepEntry_9 : decode cX1_keepEntry 9 = .ok (.lastore, 1) := by decide +kernel
theorem dX1_keepEntry_10 : decode cX1_keepEntry 10 = .ok (.aload_n 0, 1) := by decide +kernel
theorem dX1_keepEntry_11 : decode cX1_keepEntry 11 = .ok (.getfield 15, 3) := by decide +kernel
theorem dX1_keepEntry_14 : decode cX1_keepEntry 14 = .ok (.iload_n 1, 1) := by decide +kernel
theorem dX1_keepEntry_15 : decode cX1_keepEntry 15 = .ok (.aload_n 0, 1) := by decide +kernel
theorem dX1_keepEntry_16 : decode cX1_keepEntry 16 = .ok (.getfield 75, 3) := by decide +kernel
theorem dX1_keepEntry_19 : decode cX1_keepEntry 19 = .ok (.iastore, 1) := by decide +kernel
theorem dX1_keepEntry_20 : decode cX1_keepEntry 20 = .ok (.aload_n 0, 1) := by decide +kernel
theorem dX1_keepEntry_21 : decode cX1_keepEntry 21 = .ok (.getfield 19, 3) := by decide +kernel
theorem dX1_keepEntry_24 : decode cX1_keepEntry 24 = .ok (.iload_n 1, 1) := by decide +kernel
theorem dX1_keepEntry_25 : decode cX1_keepEntry 25 = .ok (.aload_n 0, 1) := by decide +kernel
theorem dX1_keepEntry_26 : decode cX1_keepEntry 26 = .ok (.getfield 69, 3) := by decide +kernel
theorem dX1_keepEntry_29 : decode cX1_keepEntry 29 = .ok (.iastore, 1) := by decide +kernel
theorem dX1_keepEntry_30 : decode cX1_keepEntry 30 = .ok (.aload_n 0, 1) := by decide +kernel
theorem dX1_keepEntry_31 : decode cX1_keepEntry 31 = .ok (.iload_n 1, 1) := by decide +kernel
theorem dX1_keepEntry_32 : decode cX1_keepEntry 32 = .ok (.iconst 1, 1) := by decide +kernel
theorem dX1_keepEntry_33 : decode cX1_keepEntry 33 = .ok (.iadd, 1) := by decide +kernel
theorem dX1_keepEntry_34 : decode cX1_keepEntry 34 = .ok (.putfield 33, 3) := by decide +kernel
theorem dX1_keepEntry_37 : decode cX1_keepEntry 37 = .ok (.return_, 1) := by decide +kernel
theorem dX1_readWeight_0 : decode cX1_readWeight 0 = .ok (.aload_n 0, 1) := by decide +kernel
theorem dX1_readWeight_1 : decode cX1_readWeight 1 = .ok (.sipush 1000, 3) := by decide +kernel
theorem dX1_readWeight_4 : decode cX1_readWeight 4 = .ok (.putfield 69, 3) := by decide +kernel
theorem dX1_readWeight_7 : decode cX1_readWeight 7 = .ok (.aload_n 0, 1) := by decide +kernel
theorem dX1_readWeight_8 : decode cX1_readWeight 8 = .ok (.invokevirtual 36, 3) := by decide +kernel
theorem dX1_readWeight_11 : decode cX1_readWeight 11 = .ok (.aload_n 0, 1) := by decide +kernel
theorem dX1_readWeight_12 : decode cX1_readWeight 12 = .ok (.bipush 59, 2) := by decide +kernel
theorem dX1_readWeight_14 : decode cX1_readWeight 14 = .ok (.invokevirtual 55, 3) := by decide +kernel
theorem dX1_readWeight_17 : decode cX1_readWeight 17 = .ok (.ifCond .ne 5, 3) := by decide +kernel
theorem dX1_readWeight_20 : decode cX1_readWeight 20 = .ok (.iconst (-1), 1) := by decide +kernel
theorem dX1_readWeight_21 : decode cX1_readWeight 21 = .ok (.ireturn, 1) := by decide +kernel
theorem dX1_readWeight_22 : decode cX1_readWeight 22 = .ok (.aload_n 0, 1) := by decide +kernel
theorem dX1_readWeight_23 : decode cX1_readWeight 23 = .ok (.invokevirtual 36, 3) := by decide +kernel
theorem dX1_readWeight_26 : decode cX1_readWeight 26 = .ok (.aload_n 0, 1) := by decide +kernel
theorem dX1_readWeight_27 : decode cX1_readWeight 27 = .ok (.getfield 29, 3) := by decide +kernel
theorem dX1_readWeight_30 : decode cX1_readWeight 30 = .ok (.istore_n 1, 1) := by decide +kernel
theorem dX1_readWeight_31 : decode cX1_readWeight 31 = .ok (.aload_n 0, 1) := by decide +kernel
theorem dX1_readWeight_32 : decode cX1_readWeight 32 = .ok (.iconst 4, 1) := by decide +kernel
theorem dX1_readWeight_33 : decode cX1_readWeight 33 = .ok (.invokevirtual 66, 3) := by decide +kernel
theorem dX1_readWeight_36 : decode cX1_readWeight 36 = .ok (.ifCond .ne 8, 3) := by decide +kernel
theorem dX1_readWeight_39 : decode cX1_readWeight 39 = .ok (.aload_n 0, 1) := by decide +kernel
theorem dX1_readWeight_40 : decode cX1_readWeight 40 = .ok (.getfield 29, 3) := by decide +kernel
theorem dX1_readWeight_43 : decode cX1_readWeight 43 = .ok (.ireturn, 1) := by decide +kernel
theorem dX1_readWeight_44 : decode cX1_readWeight 44 = .ok (.aload_n 0, 1) := by decide +kernel
theorem dX1_readWeight_45 : decode cX1_readWeight 45 = .ok (.getfield 69, 3) := by decide +kernel
theorem dX1_readWeight_48 : decode cX1_readWeight 48 = .ok (.sipush 1000, 3) := by decide +kernel
theorem dX1_readWeight_51 : decode cX1_readWeight 51 = .ok (.if_icmp .le 22, 3) := by decide +kernel
theorem dX1_readWeight_54 : decode cX1_readWeight 54 = .ok (.aload_n 0, 1) := by decide +kernel
theorem dX1_readWeight_55 : decode cX1_readWeight 55 = .ok (.invokevirtual 63, 3) := by decide +kernel
theorem dX1_readWeight_58 : decode cX1_readWeight 58 = .ok (.invokestatic 78, 3) := by decide +kernel
theorem dX1_readWeight_61 : decode cX1_readWeight 61 = .ok (.ifCond .eq 10, 3) := by decide +kernel
theorem dX1_readWeight_64 : decode cX1_readWeight 64 = .ok (.aload_n 0, 1) := by decide +kernel
theorem dX1_readWeight_65 : decode cX1_readWeight 65 = .ok (.getfield 29, 3) := by decide +kernel
theorem dX1_readWeight_68 : decode cX1_readWeight 68 = .ok (.goto 4, 3) := by decide +kernel
theorem dX1_readWeight_71 : decode cX1_readWeight 71 = .ok (.iload_n 1, 1) := by decide +kernel
theorem dX1_readWeight_72 : decode cX1_readWeight 72 = .ok (.ireturn, 1) := by decide +kernel
theorem dX1_readWeight_73 : decode cX1_readWeight 73 = .ok (.aload_n 0, 1) := by decide +kernel
theorem dX1_readWeight_74 : decode cX1_readWeight 74 = .ok (.invokevirtual 36, 3) := by decide +kernel
theorem dX1_readWeight_77 : decode cX1_readWeight 77 = .ok (.iconst (-1), 1) := by decide +kernel
theorem dX1_readWeight_78 : decode cX1_readWeight 78 = .ok (.ireturn, 1) := by decide +kernel
theorem dX1_readKey_0 : decode cX1_readKey 0 = .ok (.aload_n 0, 1) := by decide +kernel
theorem dX1_readKey_1 : decode cX1_readKey 1 = .ok (.lconst 0, 1) := by decide +kernel
theorem dX1_readKey_2 : decode cX1_readKey 2 = .ok (.putfield 59, 3) := by decide +kernel
theorem dX1_readKey_5 : decode cX1_readKey 5 = .ok (.aload_n 0, 1) := by decide +kernel
theorem dX1_readKey_6 : decode cX1_readKey 6 = .ok (.iconst 0, 1) := by decide +kernel
theorem dX1_readKey_7 : decode cX1_readKey 7 = .ok (.putfield 75, 3) := by decide +kernel
theorem dX1_readKey_10 : decode cX1_readKey 10 = .ok (.iload_n 1, 1) := by decide +kernel
theorem dX1_readKey_11 : decode cX1_readKey 11 = .ok (.lookupswitch 37 #[(0, 25), (1, 31)], 25) := by decide +kernel
theorem dX1_readKey_36 : decode cX1_readKey 36 = .ok (.aload_n 0, 1) := by decide +kernel
theorem dX1_readKey_37 : decode cX1_readKey 37 = .ok (.iload_n 2, 1) := by decide +kernel
theorem dX1_readKey_38 : decode cX1_readKey 38 = .ok (.invokevirtual 81, 3) := by decide +kernel
theorem dX1_readKey_41 : decode cX1_readKey 41 = .ok (.ireturn, 1) := by decide +kernel
theorem dX1_readKey_42 : decode cX1_readKey 42 = .ok (.aload_n 0, 1) := by decide +kernel
theorem dX1_readKey_43 : decode cX1_readKey 43 = .ok (.iload_n 2, 1) := by decide +kernel
theorem dX1_readKey_44 : decode cX1_readKey 44 = .ok (.invokevirtual 85, 3) := by decide +kernel
theorem dX1_readKey_47 : decode cX1_readKey 47 = .ok (.ireturn, 1) := by decide +kernel
theorem dX1_readKey_48 : decode cX1_readKey 48 = .ok (.iload_n 2, 1) := by decide +kernel
theorem dX1_readKey_49 : decode cX1_readKey 49 = .ok (.ifCond .eq 12, 3) := by decide +kernel
theorem dX1_readKey_52 : decode cX1_readKey 52 = .ok (.aload_n 0, 1) := by decide +kernel
theorem dX1_readKey_53 : decode cX1_readKey 53 = .ok (.bipush 42, 2) := by decide +kernel
theorem dX1_readKey_55 : decode cX1_readKey 55 = .ok (.invokevirtual 55, 3) := by decide +kernel
theorem dX1_readKey_58 : decode cX1_readKey 58 = .ok (.ifCond .ne 11, 3) := by decide +kernel
theorem dX1_readKey_61 : decode cX1_readKey 61 = .ok (.aload_n 0, 1) := by decide +kernel
theorem dX1_readKey_62 : decode cX1_readKey 62 = .ok (.iconst 2, 1) := by decide +kernel
theorem dX1_readKey_63 : decode cX1_readKey 63 = .ok (.invokevirtual 88, 3) := by decide +kernel
theorem dX1_readKey_66 : decode cX1_readKey 66 = .ok (.ifCond .eq 7, 3) := by decide +kernel
theorem dX1_readKey_69 : decode cX1_readKey 69 = .ok (.iconst 1, 1) := by decide +kernel
theorem dX1_readKey_70 : decode cX1_readKey 70 = .ok (.goto 4, 3) := by decide +kernel
theorem dX1_readKey_73 : decode cX1_readKey 73 = .ok (.iconst 0, 1) := by decide +kernel
theorem dX1_readKey_74 : decode cX1_readKey 74 = .ok (.ireturn, 1) := by decide +kernel
theorem dX1_readType_0 : decode cX1_readType 0 = .ok (.iload_n 1, 1) := by decide +kernel
theorem dX1_readType_1 : decode cX1_readType 1 = .ok (.ifCond .eq 36, 3) := by decide +kernel
theorem dX1_readType_4 : decode cX1_readType 4 = .ok (.aload_n 0, 1) := by decide +kernel
theorem dX1_readType_5 : decode cX1_readType 5 = .ok (.bipush 42, 2) := by decide +kernel
theorem dX1_readType_7 : decode cX1_readType 7 = .ok (.invokevirtual 55, 3) := by decide +kernel
theorem dX1_readType_10 : decode cX1_readType 10 = .ok (.ifCond .eq 27, 3) := by decide +kernel
theorem dX1_readType_13 : decode cX1_readType 13 = .ok (.aload_n 0, 1) := by decide +kernel
theorem dX1_readType_14 : decode cX1_readType 14 = .ok (.bipush 47, 2) := by decide +kernel
theorem dX1_readType_16 : decode cX1_readType 16 = .ok (.invokevirtual 55, 3) := by decide +kernel
theorem dX1_readType_19 : decode cX1_readType 19 = .ok (.ifCond .eq 16, 3) := by decide +kernel
theorem dX1_readType_22 : decode cX1_readType 22 = .ok (.aload_n 0, 1) := by decide +kernel
theorem dX1_readType_23 : decode cX1_readType 23 = .ok (.bipush 42, 2) := by decide +kernel
theorem dX1_readType_25 : decode cX1_readType 25 = .ok (.invokevirtual 55, 3) := by decide +kernel
theorem dX1_readType_28 : decode cX1_readType 28 = .ok (.ifCond .eq 7, 3) := by decide +kernel
theorem dX1_readType_31 : decode cX1_readType 31 = .ok (.iconst 1, 1) := by decide +kernel
theorem dX1_readType_32 : decode cX1_readType 32 = .ok (.goto 4, 3) := by decide +kernel
theorem dX1_readType_35 : decode cX1_readType 35 = .ok (.iconst 0, 1) := by decide +kernel
theorem dX1_readType_36 : decode cX1_readType 36 = .ok (.ireturn, 1) := by decide +kernel
theorem dX1_readType_37 : decode cX1_readType 37 = .ok (.aload_n 0, 1) := by decide +kernel
theorem dX1_readType_38 : decode cX1_readType 38 = .ok (.iconst 0, 1) := by decide +kernel
theorem dX1_readType_39 : decode cX1_readType 39 = .ok (.invokevirtual 88, 3) := by decide +kernel
theorem dX1_readType_42 : decode cX1_readType 42 = .ok (.ifCond .eq 12, 3) := by decide +kernel
theorem dX1_readType_45 : decode cX1_readType 45 = .ok (.aload_n 0, 1) := by decide +kernel
theorem dX1_readType_46 : decode cX1_readType 46 = .ok (.bipush 47, 2) := by decide +kernel
theorem dX1_readType_48 : decode cX1_readType 48 = .ok (.invokevirtual 55, 3) := by decide +kernel
theorem dX1_readType_51 : decode cX1_readType 51 = .ok (.ifCond .ne 5, 3) := by decide +kernel
theorem dX1_readType_54 : decode cX1_readType 54 = .ok (.iconst 0, 1) := by decide +kernel
theorem dX1_readType_55 : decode cX1_readType 55 = .ok (.ireturn, 1) := by decide +kernel
theorem dX1_readType_56 : decode cX1_readType 56 = .ok (.iload_n 1, 1) := by decide +kernel
theorem dX1_readType_57 : decode cX1_readType 57 = .ok (.ifCond .eq 12, 3) := by decide +kernel
theorem dX1_readType_60 : decode cX1_readType 60 = .ok (.aload_n 0, 1) := by decide +kernel
theorem dX1_readType_61 : decode cX1_readType 61 = .ok (.bipush 42, 2) := by decide +kernel
theorem dX1_readType_63 : decode cX1_readType 63 = .ok (.invokevirtual 55, 3) := by decide +kernel
theorem dX1_readType_66 : decode cX1_readType 66 = .ok (.ifCond .ne 11, 3) := by decide +kernel
theorem dX1_readType_69 : decode cX1_readType 69 = .ok (.aload_n 0, 1) := by decide +kernel
theorem dX1_readType_70 : decode cX1_readType 70 = .ok (.iconst 0, 1) := by decide +kernel
theorem dX1_readType_71 : decode cX1_readType 71 = .ok (.invokevirtual 88, 3) := by decide +kernel
theorem dX1_readType_74 : decode cX1_readType 74 = .ok (.ifCond .eq 7, 3) := by decide +kernel
theorem dX1_readType_77 : decode cX1_readType 77 = .ok (.iconst 1, 1) := by decide +kernel
theorem dX1_readType_78 : decode cX1_readType 78 = .ok (.goto 4, 3) := by decide +kernel
theorem dX1_readType_81 : decode cX1_readType 81 = .ok (.iconst 0, 1) := by decide +kernel
theorem dX1_readType_82 : decode cX1_readType 82 = .ok (.ireturn, 1) := by decide +kernel
theorem dX1_readLanguage_0 : decode cX1_readLanguage 0 = .ok (.iload_n 1, 1) := by decide +kernel
theorem dX1_readLanguage_1 : decode cX1_readLanguage 1 = .ok (.ifCond .eq 14, 3) := by decide +kernel
theorem dX1_readLanguage_4 : decode cX1_readLanguage 4 = .ok (.aload_n 0, 1) := by decide +kernel
theorem dX1_readLanguage_5 : decode cX1_readLanguage 5 = .ok (.bipush 42, 2) := by decide +kernel
theorem dX1_readLanguage_7 : decode cX1_readLanguage 7 = .ok (.invokevirtual 55, 3) := by decide +kernel
theorem dX1_readLanguage_10 : decode cX1_readLanguage 10 = .ok (.ifCond .eq 5, 3) := by decide +kernel
theorem dX1_readLanguage_13 : decode cX1_readLanguage 13 = .ok (.iconst 1, 1) := by decide +kernel
theorem dX1_readLanguage_14 : decode cX1_readLanguage 14 = .ok (.ireturn, 1) := by decide +kernel
theorem dX1_readLanguage_15 : decode cX1_readLanguage 15 = .ok (.iconst 0, 1) := by decide +kernel
theorem dX1_readLanguage_16 : decode cX1_readLanguage 16 = .ok (.istore_n 2, 1) := by decide +kernel
theorem dX1_readLanguage_17 : decode cX1_readLanguage 17 = .ok (.iload_n 2, 1) := by decide +kernel
theorem dX1_readLanguage_18 : decode cX1_readLanguage 18 = .ok (.getstatic 91, 3) := by decide +kernel
theorem dX1_readLanguage_21 : decode cX1_readLanguage 21 = .ok (.iconst 1, 1) := by decide +kernel
theorem dX1_readLanguage_22 : decode cX1_readLanguage 22 = .ok (.iaload, 1) := by decide +kernel
theorem dX1_readLanguage_23 : decode cX1_readLanguage 23 = .ok (.if_icmp .ge 34, 3) := by decide +kernel
theorem dX1_readLanguage_26 : decode cX1_readLanguage 26 = .ok (.iload_n 2, 1) := by decide +kernel
theorem dX1_readLanguage_27 : decode cX1_readLanguage 27 = .ok (.ifCond .le 14, 3) := by decide +kernel
theorem dX1_readLanguage_30 : decode cX1_readLanguage 30 = .ok (.aload_n 0, 1) := by decide +kernel
theorem dX1_readLanguage_31 : decode cX1_readLanguage 31 = .ok (.bipush 45, 2) := by decide +kernel
theorem dX1_readLanguage_33 : decode cX1_readLanguage 33 = .ok (.invokevirtual 55, 3) := by decide +kernel
theorem dX1_readLanguage_36 : decode cX1_readLanguage 36 = .ok (.ifCond .ne 5, 3) := by decide +kernel
theorem dX1_readLanguage_39 : decode cX1_readLanguage 39 = .ok (.iconst 1, 1) := by decide +kernel
theorem dX1_readLanguage_40 : decode cX1_readLanguage 40 = .ok (.ireturn, 1) := by decide +kernel
theorem dX1_readLanguage_41 : decode cX1_readLanguage 41 = .ok (.aload_n 0, 1) := by decide +kernel
theorem dX1_readLanguage_42 : decode cX1_readLanguage 42 = .ok (.iconst 1, 1) := by decide +kernel
theorem dX1_readLanguage_43 : decode cX1_readLanguage 43 = .ok (.invokevirtual 88, 3) := by decide +kernel
theorem dX1_readLanguage_46 : decode cX1_readLanguage 46 = .ok (.ifCond .ne 5, 3) := by decide +kernel
theorem dX1_readLanguage_49 : decode cX1_readLanguage 49 = .ok (.iconst 0, 1) := by decide +kernel
theorem dX1_readLanguage_50 : decode cX1_readLanguage 50 = .ok (.ireturn, 1) := by decide +kernel
theorem dX1_readLanguage_51 : decode cX1_readLanguage 51 = .ok (.iinc 2 1, 3) := by decide +kernel
theorem dX1_readLanguage_54 : decode cX1_readLanguage 54 = .ok (.goto (-37), 3) := by decide +kernel
theorem dX1_readLanguage_57 : decode cX1_readLanguage 57 = .ok (.iconst 1, 1) := by decide +kernel
theorem dX1_readLanguage_58 : decode cX1_readLanguage 58 = .ok (.ireturn, 1) := by decide +kernel
theorem dX1_readName_0 : decode cX1_readName 0 = .ok (.lconst 0, 1) := by decide +kernel
theorem dX1_readName_1 : decode cX1_readName 1 = .ok (.lstore_n 2, 1) := by decide +kernel
theorem dX1_readName_2 : decode cX1_readName 2 = .ok (.iconst 0, 1) := by decide +kernel
theorem dX1_readName_3 : decode cX1_readName 3 = .ok (.istore 4, 2) := by decide +kernel
theorem dX1_readName_5 : decode cX1_readName 5 = .ok (.iload 4, 2) := by decide +kernel
theorem dX1_readName_7 : decode cX1_readName 7 = .ok (.iconst 4, 1) := by decide +kernel
theorem dX1_readName_8 : decode cX1_readName 8 = .ok (.if_icmp .ge 54, 3) := by decide +kernel
theorem dX1_readName_11 : decode cX1_readName 11 = .ok (.lload_n 2, 1) := by decide +kernel
theorem dX1_readName_12 : decode cX1_readName 12 = .ok (.iconst 5, 1) := by decide +kernel
theorem dX1_readName_13 : decode cX1_readName 13 = .ok (.lshl, 1) := by decide +kernel
theorem dX1_readName_14 : decode cX1_readName 14 = .ok (.lstore_n 2, 1) := by decide +kernel
theorem dX1_readName_15 : decode cX1_readName 15 = .ok (.aload_n 0, 1) := by decide +kernel
theorem dX1_readName_16 : decode cX1_readName 16 = .ok (.invokevirtual 63, 3) := by decide +kernel
theorem dX1_readName_19 : decode cX1_readName 19 = .ok (.istore 5, 2) := by decide +kernel
theorem dX1_readName_21 : decode cX1_readName 21 = .ok (.iload 5, 2) := by decide +kernel
theorem dX1_readName_23 : decode cX1_readName 23 = .ok (.bipush 97, 2) := by decide +kernel
theorem dX1_readName_25 : decode cX1_readName 25 = .ok (.if_icmp .lt 31, 3) := by decide +kernel
theorem dX1_readName_28 : decode cX1_readName 28 = .ok (.iload 5, 2) := by decide +kernel
theorem dX1_readName_30 : decode cX1_readName 30 = .ok (.bipush 122, 2) := by decide +kernel
theorem dX1_readName_32 : decode cX1_readName 32 = .ok (.if_icmp .gt 24, 3) := by decide +kernel
theorem dX1_readName_35 : decode cX1_readName 35 = .ok (.lload_n 2, 1) := by decide +kernel
theorem dX1_readName_36 : decode cX1_readName 36 = .ok (.iload 5, 2) := by decide +kernel
theorem dX1_readName_38 : decode cX1_readName 38 = .ok (.bipush 97, 2) := by decide +kernel
theorem dX1_readName_40 : decode cX1_readName 40 = .ok (.isub, 1) := by decide +kernel
theorem dX1_readName_41 : decode cX1_readName 41 = .ok (.iconst 1, 1) := by decide +kernel
theorem dX1_readName_42 : decode cX1_readName 42 = .ok (.iadd, 1) := by decide +kernel
theorem dX1_readName_43 : decode cX1_readName 43 = .ok (.i2l, 1) := by decide +kernel
theorem dX1_readName_44 : decode cX1_readName 44 = .ok (.ladd, 1) := by decide +kernel
theorem dX1_readName_45 : decode cX1_readName 45 = .ok (.lstore_n 2, 1) := by decide +kernel
theorem dX1_readName_46 : decode cX1_readName 46 = .ok (.aload_n 0, 1) := by decide +kernel
theorem dX1_readName_47 : decode cX1_readName 47 = .ok (.dup, 1) := by decide +kernel
theorem dX1_readName_48 : decode cX1_readName 48 = .ok (.getfield 29, 3) := by decide +kernel
theorem dX1_readName_51 : decode cX1_readName 51 = .ok (.iconst 1, 1) := by decide +kernel
theorem dX1_readName_52 : decode cX1_readName 52 = .ok (.iadd, 1) := by decide +kernel
theorem dX1_readName_53 : decode cX1_readName 53 = .ok (.putfield 29, 3) := by decide +kernel
theorem dX1_readName_56 : decode cX1_readName 56 = .ok (.iinc 4 1, 3) := by decide +kernel
theorem dX1_readName_59 : decode cX1_readName 59 = .ok (.goto (-54), 3) := by decide +kernel
theorem dX1_readName_62 : decode cX1_readName 62 = .ok (.lload_n 2, 1) := by decide +kernel
theorem dX1_readName_63 : decode cX1_readName 63 = .ok (.lconst 0, 1) := by decide +kernel
theorem dX1_readName_64 : decode cX1_readName 64 = .ok (.lcmp, 1) := by decide +kernel
theorem dX1_readName_65 : decode cX1_readName 65 = .ok (.ifCond .ne 5, 3) := by decide +kernel
theorem dX1_readName_68 : decode cX1_readName 68 = .ok (.iconst 0, 1) := by decide +kernel
theorem dX1_readName_69 : decode cX1_readName 69 = .ok (.ireturn, 1) := by decide +kernel
theorem dX1_readName_70 : decode cX1_readName 70 = .ok (.aload_n 0, 1) := by decide +kernel
theorem dX1_readName_71 : decode cX1_readName 71 = .ok (.dup, 1) := by decide +kernel
theorem dX1_readName_72 : decode cX1_readName 72 = .ok (.getfield 75, 3) := by decide +kernel
theorem dX1_readName_75 : decode cX1_readName 75 = .ok (.iconst 1, 1) := by decide +kernel
theorem dX1_readName_76 : decode cX1_readName 76 = .ok (.iadd, 1) := by decide +kernel
theorem dX1_readName_77 : decode cX1_readName 77 = .ok (.putfield 75, 3) := by decide +kernel
theorem dX1_readName_80 : decode cX1_readName 80 = .ok (.aload_n 0, 1) := by decide +kernel
theorem dX1_readName_81 : decode cX1_readName 81 = .ok (.dup, 1) := by decide +kernel
theorem dX1_readName_82 : decode cX1_readName 82 = .ok (.getfield 59, 3) := by decide +kernel
theorem dX1_readName_85 : decode cX1_readName 85 = .ok (.lload_n 2, 1) := by decide +kernel
theorem dX1_readName_86 : decode cX1_readName 86 = .ok (.bipush 20, 2) := by decide +kernel
theorem dX1_readName_88 : decode cX1_readName 88 = .ok (.getstatic 91, 3) := by decide +kernel
theorem dX1_readName_91 : decode cX1_readName 91 = .ok (.iload_n 1, 1) := by decide +kernel
theorem dX1_readName_92 : decode cX1_readName 92 = .ok (.iaload, 1) := by decide +kernel
theorem dX1_readName_93 : decode cX1_readName 93 = .ok (.aload_n 0, 1) := by decide +kernel
theorem dX1_readName_94 : decode cX1_readName 94 = .ok (.getfield 75, 3) := by decide +kernel
theorem dX1_readName_97 : decode cX1_readName 97 = .ok (.isub, 1) := by decide +kernel
theorem dX1_readName_98 : decode cX1_readName 98 = .ok (.imul, 1) := by decide +kernel
theorem dX1_readName_99 : decode cX1_readName 99 = .ok (.lshl, 1) := by decide +kernel
theorem dX1_readName_100 : decode cX1_readName 100 = .ok (.ladd, 1) := by decide +kernel
theorem dX1_readName_101 : decode cX1_readName 101 = .ok (.putfield 59, 3) := by decide +kernel
theorem dX1_readName_104 : decode cX1_readName 104 = .ok (.iconst 1, 1) := by decide +kernel
theorem dX1_readName_105 : decode cX1_readName 105 = .ok (.ireturn, 1) := by decide +kernel
theorem dX1_readNumber_0 : decode cX1_readNumber 0 = .ok (.aload_n 0, 1) := by decide +kernel
theorem dX1_readNumber_1 : decode cX1_readNumber 1 = .ok (.getfield 29, 3) := by decide +kernel
theorem dX1_readNumber_4 : decode cX1_readNumber 4 = .ok (.istore_n 2, 1) := by decide +kernel
theorem dX1_readNumber_5 : decode cX1_readNumber 5 = .ok (.aload_n 0, 1) := by decide +kernel
theorem dX1_readNumber_6 : decode cX1_readNumber 6 = .ok (.iconst 0, 1) := by decide +kernel
theorem dX1_readNumber_7 : decode cX1_readNumber 7 = .ok (.putfield 69, 3) := by decide +kernel
theorem dX1_readNumber_10 : decode cX1_readNumber 10 = .ok (.iconst 0, 1) := by decide +kernel
theorem dX1_readNumber_11 : decode cX1_readNumber 11 = .ok (.istore_n 3, 1) := by decide +kernel
theorem dX1_readNumber_12 : decode cX1_readNumber 12 = .ok (.iload_n 3, 1) := by decide +kernel
theorem dX1_readNumber_13 : decode cX1_readNumber 13 = .ok (.iload_n 1, 1) := by decide +kernel
theorem dX1_readNumber_14 : decode cX1_readNumber 14 = .ok (.if_icmp .ge 48, 3) := by decide +kernel
theorem dX1_readNumber_17 : decode cX1_readNumber 17 = .ok (.aload_n 0, 1) := by decide +kernel
theorem dX1_readNumber_18 : decode cX1_readNumber 18 = .ok (.invokevirtual 63, 3) := by decide +kernel
theorem dX1_readNumber_21 : decode cX1_readNumber 21 = .ok (.invokestatic 78, 3) := by decide +kernel
theorem dX1_readNumber_24 : decode cX1_readNumber 24 = .ok (.ifCond .eq 38, 3) := by decide +kernel
theorem dX1_readNumber_27 : decode cX1_readNumber 27 = .ok (.aload_n 0, 1) := by decide +kernel
theorem dX1_readNumber_28 : decode cX1_readNumber 28 = .ok (.bipush 10, 2) := by decide +kernel
theorem dX1_readNumber_30 : decode cX1_readNumber 30 = .ok (.aload_n 0, 1) := by decide +kernel
theorem dX1_readNumber_31 : decode cX1_readNumber 31 = .ok (.getfield 69, 3) := by decide +kernel
theorem dX1_readNumber_34 : decode cX1_readNumber 34 = .ok (.imul, 1) := by decide +kernel
theorem dX1_readNumber_35 : decode cX1_readNumber 35 = .ok (.aload_n 0, 1) := by decide +kernel
theorem dX1_readNumber_36 : decode cX1_readNumber 36 = .ok (.invokevirtual 63, 3) := by decide +kernel
theorem dX1_readNumber_39 : decode cX1_readNumber 39 = .ok (.iadd, 1) := by decide +kernel
theorem dX1_readNumber_40 : decode cX1_readNumber 40 = .ok (.bipush 48, 2) := by decide +kernel
theorem dX1_readNumber_42 : decode cX1_readNumber 42 = .ok (.isub, 1) := by decide +kernel
theorem dX1_readNumber_43 : decode cX1_readNumber 43 = .ok (.putfield 69, 3) := by decide +kernel
theorem dX1_readNumber_46 : decode cX1_readNumber 46 = .ok (.aload_n 0, 1) := by decide +kernel
theorem dX1_readNumber_47 : decode cX1_readNumber 47 = .ok (.dup, 1) := by decide +kernel
theorem dX1_readNumber_48 : decode cX1_readNumber 48 = .ok (.getfield 29, 3) := by decide +kernel
theorem dX1_readNumber_51 : decode cX1_readNumber 51 = .ok (.iconst 1, 1) := by decide +kernel
theorem dX1_readNumber_52 : decode cX1_readNumber 52 = .ok (.iadd, 1) := by decide +kernel
theorem dX1_readNumber_53 : decode cX1_readNumber 53 = .ok (.putfield 29, 3) := by decide +kernel
theorem dX1_readNumber_56 : decode cX1_readNumber 56 = .ok (.iinc 3 1, 3) := by decide +kernel
theorem dX1_readNumber_59 : decode cX1_readNumber 59 = .ok (.goto (-47), 3) := by decide +kernel
theorem dX1_readNumber_62 : decode cX1_readNumber 62 = .ok (.aload_n 0, 1) := by decide +kernel
theorem dX1_readNumber_63 : decode cX1_readNumber 63 = .ok (.getfield 29, 3) := by decide +kernel
theorem dX1_readNumber_66 : decode cX1_readNumber 66 = .ok (.iload_n 2, 1) := by decide +kernel
theorem dX1_readNumber_67 : decode cX1_readNumber 67 = .ok (.if_icmp .le 7, 3) := by decide +kernel
theorem dX1_readNumber_70 : decode cX1_readNumber 70 = .ok (.iconst 1, 1) := by decide +kernel
theorem dX1_readNumber_71 : decode cX1_readNumber 71 = .ok (.goto 4, 3) := by decide +kernel
theorem dX1_readNumber_74 : decode cX1_readNumber 74 = .ok (.iconst 0, 1) := by decide +kernel
theorem dX1_readNumber_75 : decode cX1_readNumber 75 = .ok (.ireturn, 1) := by decide +kernel
theorem dX1_isDigit_0 : decode cX1_isDigit 0 = .ok (.iload_n 0, 1) := by decide +kernel
theorem dX1_isDigit_1 : decode cX1_isDigit 1 = .ok (.bipush 48, 2) := by decide +kernel
theorem dX1_isDigit_3 : decode cX1_isDigit 3 = .ok (.if_icmp .lt 13, 3) := by decide +kernel
theorem dX1_isDigit_6 : decode cX1_isDigit 6 = .ok (.iload_n 0, 1) := by decide +kernel
theorem dX1_isDigit_7 : decode cX1_isDigit 7 = .ok (.bipush 57, 2) := by decide +kernel
theorem dX1_isDigit_9 : decode cX1_isDigit 9 = .ok (.if_icmp .gt 7, 3) := by decide +kernel
theorem dX1_isDigit_12 : decode cX1_isDigit 12 = .ok (.iconst 1, 1) := by decide +kernel
theorem dX1_isDigit_13 : decode cX1_isDigit 13 = .ok (.goto 4, 3) := by decide +kernel
theorem dX1_isDigit_16 : decode cX1_isDigit 16 = .ok (.iconst 0, 1) := by decide +kernel
theorem dX1_isDigit_17 : decode cX1_isDigit 17 = .ok (.ireturn, 1) := by decide +kernel
theorem dX1_peek_0 : decode cX1_peek 0 = .ok (.aload_n 0, 1) := by decide +kernel
theorem dX1_peek_1 : decode cX1_peek 1 = .ok (.getfield 25, 3) := by decide +kernel
theorem dX1_peek_4 : decode cX1_peek 4 = .ok (.aload_n 0, 1) := by decide +kernel
theorem dX1_peek_5 : decode cX1_peek 5 = .ok (.getfield 29, 3) := by decide +kernel
theorem dX1_peek_8 : decode cX1_peek 8 = .ok (.invokevirtual 94, 3) := by decide +kernel
theorem dX1_peek_11 : decode cX1_peek 11 = .ok (.ireturn, 1) := by decide +kernel
theorem dX1_atEnd_0 : decode cX1_atEnd 0 = .ok (.aload_n 0, 1) := by decide +kernel
theorem dX1_atEnd_1 : decode cX1_atEnd 1 = .ok (.getfield 29, 3) := by decide +kernel
theorem dX1_atEnd_4 : decode cX1_atEnd 4 = .ok (.aload_n 0, 1) := by decide +kernel
theorem dX1_atEnd_5 : decode cX1_atEnd 5 = .ok (.getfield 25, 3) := by decide +kernel
theorem dX1_atEnd_8 : decode cX1_atEnd 8 = .ok (.getfield 100, 3) := by decide +kernel
theorem dX1_atEnd_11 : decode cX1_atEnd 11 = .ok (.if_icmp .lt 7, 3) := by decide +kernel
theorem dX1_atEnd_14 : decode cX1_atEnd 14 = .ok (.iconst 1, 1) := by decide +kernel
theorem dX1_atEnd_15 : decode cX1_atEnd 15 = .ok (.goto 4, 3) := by decide +kernel
theorem dX1_atEnd_18 : decode cX1_atEnd 18 = .ok (.iconst 0, 1) := by decide +kernel
theorem dX1_atEnd_19 : decode cX1_atEnd 19 = .ok (.ireturn, 1) := by decide +kernel
theorem dX1_skips_0 : decode cX1_skips 0 = .ok (.aload_n 0, 1) := by decide +kernel
theorem dX1_skips_1 : decode cX1_skips 1 = .ok (.invokevirtual 63, 3) := by decide +kernel
theorem dX1_skips_4 : decode cX1_skips 4 = .ok (.iload_n 1, 1) := by decide +kernel
theorem dX1_skips_5 : decode cX1_skips 5 = .ok (.if_icmp .eq 5, 3) := by decide +kernel
theorem dX1_skips_8 : decode cX1_skips 8 = .ok (.iconst 0, 1) := by decide +kernel
theorem dX1_skips_9 : decode cX1_skips 9 = .ok (.ireturn, 1) := by decide +kernel
theorem dX1_skips_10 : decode cX1_skips 10 = .ok (.aload_n 0, 1) := by decide +kernel
theorem dX1_skips_11 : decode cX1_skips 11 = .ok (.dup, 1) := by decide +kernel
theorem dX1_skips_12 : decode cX1_skips 12 = .ok (.getfield 29, 3) := by decide +kernel
theorem dX1_skips_15 : decode cX1_skips 15 = .ok (.iconst 1, 1) := by decide +kernel
theorem dX1_skips_16 : decode cX1_skips 16 = .ok (.iadd, 1) := by decide +kernel
theorem dX1_skips_17 : decode cX1_skips 17 = .ok (.putfield 29, 3) := by decide +kernel
theorem dX1_skips_20 : decode cX1_skips 20 = .ok (.iconst 1, 1) := by decide +kernel
theorem dX1_skips_21 : decode cX1_skips 21 = .ok (.ireturn, 1) := by decide +kernel
theorem dX1_skipSpaces_0 : decode cX1_skipSpaces 0 = .ok (.aload_n 0, 1) := by decide +kernel
theorem dX1_skipSpaces_1 : decode cX1_skipSpaces 1 = .ok (.getfield 29, 3) := by decide +kernel
theorem dX1_skipSpaces_4 : decode cX1_skipSpaces 4 = .ok (.aload_n 0, 1) := by decide +kernel
theorem dX1_skipSpaces_5 : decode cX1_skipSpaces 5 = .ok (.getfield 25, 3) := by decide +kernel
theorem dX1_skipSpaces_8 : decode cX1_skipSpaces 8 = .ok (.getfield 100, 3) := by decide +kernel
theorem dX1_skipSpaces_11 : decode cX1_skipSpaces 11 = .ok (.if_icmp .ge 25, 3) := by decide +kernel
theorem dX1_skipSpaces_14 : decode cX1_skipSpaces 14 = .ok (.aload_n 0, 1) := by decide +kernel
theorem dX1_skipSpaces_15 : decode cX1_skipSpaces 15 = .ok (.invokevirtual 63, 3) := by decide +kernel
theorem dX1_skipSpaces_18 : decode cX1_skipSpaces 18 = .ok (.bipush 32, 2) := by decide +kernel
theorem dX1_skipSpaces_20 : decode cX1_skipSpaces 20 = .ok (.if_icmp .ne 16, 3) := by decide +kernel
theorem dX1_skipSpaces_23 : decode cX1_skipSpaces 23 = .ok (.aload_n 0, 1) := by decide +kernel
theorem dX1_skipSpaces_24 : decode cX1_skipSpaces 24 = .ok (.dup, 1) := by decide +kernel
theorem dX1_skipSpaces_25 : decode cX1_skipSpaces 25 = .ok (.getfield 29, 3) := by decide +kernel
theorem dX1_skipSpaces_28 : decode cX1_skipSpaces 28 = .ok (.iconst 1, 1) := by decide +kernel
theorem dX1_skipSpaces_29 : decode cX1_skipSpaces 29 = .ok (.iadd, 1) := by decide +kernel
theorem dX1_skipSpaces_30 : decode cX1_skipSpaces 30 = .ok (.putfield 29, 3) := by decide +kernel
theorem dX1_skipSpaces_33 : decode cX1_skipSpaces 33 = .ok (.goto (-33), 3) := by decide +kernel
theorem dX1_skipSpaces_36 : decode cX1_skipSpaces 36 = .ok (.return_, 1) := by decide +kernel
theorem dX2_init_0 : decode cX2_init 0 = .ok (.aload_n 0, 1) := by decide +kernel
theorem dX2_init_1 : decode cX2_init 1 = .ok (.invokespecial 3, 3) := by decide +kernel
theorem dX2_init_4 : decode cX2_init 4 = .ok (.aload_n 0, 1) := by decide +kernel
theorem dX2_init_5 : decode cX2_init 5 = .ok (.bipush 96, 2) := by decide +kernel
theorem dX2_init_7 : decode cX2_init 7 = .ok (.newarray .int, 2) := by decide +kernel
theorem dX2_init_9 : decode cX2_init 9 = .ok (.putfield 9, 3) := by decide +kernel
theorem dX2_init_12 : decode cX2_init 12 = .ok (.aload_n 0, 1) := by decide +kernel
theorem dX2_init_13 : decode cX2_init 13 = .ok (.bipush 96, 2) := by decide +kernel
theorem dX2_init_15 : decode cX2_init 15 = .ok (.newarray .int, 2) := by decide +kernel
theorem dX2_init_17 : decode cX2_init 17 = .ok (.putfield 15, 3) := by decide +kernel
theorem dX2_init_20 : decode cX2_init 20 = .ok (.aload_n 0, 1) := by decide +kernel
theorem dX2_init_21 : decode cX2_init 21 = .ok (.bipush 16, 2) := by decide +kernel
theorem dX2_init_23 : decode cX2_init 23 = .ok (.newarray .int, 2) := by decide +kernel
theorem dX2_init_25 : decode cX2_init 25 = .ok (.putfield 18, 3) := by decide +kernel
theorem dX2_init_28 : decode cX2_init 28 = .ok (.aload_n 0, 1) := by decide +kernel
theorem dX2_init_29 : decode cX2_init 29 = .ok (.bipush 16, 2) := by decide +kernel
theorem dX2_init_31 : decode cX2_init 31 = .ok (.newarray .int, 2) := by decide +kernel
theorem dX2_init_33 : decode cX2_init 33 = .ok (.putfield 21, 3) := by decide +kernel
theorem dX2_init_36 : decode cX2_init 36 = .ok (.aload_n 0, 1) := by decide +kernel
theorem dX2_init_37 : decode cX2_init 37 = .ok (.bipush 16, 2) := by decide +kernel
theorem dX2_init_39 : decode cX2_init 39 = .ok (.newarray .int, 2) := by decide +kernel
theorem dX2_init_41 : decode cX2_init 41 = .ok (.putfield 24, 3) := by decide +kernel
theorem dX2_init_44 : decode cX2_init 44 = .ok (.aload_n 0, 1) := by decide +kernel
theorem dX2_init_45 : decode cX2_init 45 = .ok (.bipush 48, 2) := by decide +kernel
theorem dX2_init_47 : decode cX2_init 47 = .ok (.newarray .int, 2) := by decide +kernel
theorem dX2_init_49 : decode cX2_init 49 = .ok (.putfield 27, 3) := by decide +kernel
theorem dX2_init_52 : decode cX2_init 52 = .ok (.aload_n 0, 1) := by decide +kernel
theorem dX2_init_53 : decode cX2_init 53 = .ok (.aload_n 1, 1) := by decide +kernel
theorem dX2_init_54 : decode cX2_init 54 = .ok (.putfield 30, 3) := by decide +kernel
theorem dX2_init_57 : decode cX2_init 57 = .ok (.return_, 1) := by decide +kernel
theorem dX2_workOut_0 : decode cX2_workOut 0 = .ok (.iconst 0, 1) := by decide +kernel
theorem dX2_workOut_1 : decode cX2_workOut 1 = .ok (.istore_n 2, 1) := by decide +kernel
theorem dX2_workOut_2 : decode cX2_workOut 2 = .ok (.iload_n 2, 1) := by decide +kernel
theorem dX2_workOut_3 : decode cX2_workOut 3 = .ok (.aload_n 0, 1) := by decide +kernel
theorem dX2_workOut_4 : decode cX2_workOut 4 = .ok (.getfield 30, 3) := by decide +kernel
theorem dX2_workOut_7 : decode cX2_workOut 7 = .ok (.getfield 34, 3) := by decide +kernel
theorem dX2_workOut_10 : decode cX2_workOut 10 = .ok (.if_icmp .ge 158, 3) := by decide +kernel
theorem dX2_workOut_13 : decode cX2_workOut 13 = .ok (.iconst 0, 1) := by decide +kernel
theorem dX2_workOut_14 : decode cX2_workOut 14 = .ok (.istore_n 3, 1) := by decide +kernel
theorem dX2_workOut_15 : decode cX2_workOut 15 = .ok (.iload_n 3, 1) := by decide +kernel
theorem dX2_workOut_16 : decode cX2_workOut 16 = .ok (.bipush 6, 2) := by decide +kernel
theorem dX2_workOut_18 : decode cX2_workOut 18 = .ok (.if_icmp .ge 87, 3) := by decide +kernel
theorem dX2_workOut_21 : decode cX2_workOut 21 = .ok (.iload_n 3, 1) := by decide +kernel
theorem dX2_workOut_22 : decode cX2_workOut 22 = .ok (.iconst 3, 1) := by decide +kernel
theorem dX2_workOut_23 : decode cX2_workOut 23 = .ok (.idiv, 1) := by decide +kernel
theorem dX2_workOut_24 : decode cX2_workOut 24 = .ok (.iload_n 1, 1) := by decide +kernel
theorem dX2_workOut_25 : decode cX2_workOut 25 = .ok (.if_icmp .ne 7, 3) := by decide +kernel
theorem dX2_workOut_28 : decode cX2_workOut 28 = .ok (.iconst 1, 1) := by decide +kernel
theorem dX2_workOut_29 : decode cX2_workOut 29 = .ok (.goto 4, 3) := by decide +kernel
theorem dX2_workOut_32 : decode cX2_workOut 32 = .ok (.iconst 0, 1) := by decide +kernel
theorem dX2_workOut_33 : decode cX2_workOut 33 = .ok (.istore 4, 2) := by decide +kernel
theorem dX2_workOut_35 : decode cX2_workOut 35 = .ok (.iload 4, 2) := by decide +kernel
theorem dX2_workOut_37 : decode cX2_workOut 37 = .ok (.ifCond .eq 7, 3) := by decide +kernel
theorem dX2_workOut_40 : decode cX2_workOut 40 = .ok (.iconst (-1), 1) := by decide +kernel
theorem dX2_workOut_41 : decode cX2_workOut 41 = .ok (.goto 12, 3) := by decide +kernel
theorem dX2_workOut_44 : decode cX2_workOut 44 = .ok (.aload_n 0, 1) := by decide +kernel
theorem dX2_workOut_45 : decode cX2_workOut 45 = .ok (.getfield 30, 3) := by decide +kernel
theorem dX2_workOut_48 : decode cX2_workOut 48 = .ok (.iload_n 3, 1) := by decide +kernel
theorem dX2_workOut_49 : decode cX2_workOut 49 = .ok (.iload_n 2, 1) := by decide +kernel
theorem dX2_workOut_50 : decode cX2_workOut 50 = .ok (.invokevirtual 40, 3) := by decide +kernel
theorem dX2_workOut_53 : decode cX2_workOut 53 = .ok (.istore 5, 2) := by decide +kernel
theorem dX2_workOut_55 : decode cX2_workOut 55 = .ok (.aload_n 0, 1) := by decide +kernel
theorem dX2_workOut_56 : decode cX2_workOut 56 = .ok (.getfield 9, 3) := by decide +kernel
theorem dX2_workOut_59 : decode cX2_workOut 59 = .ok (.iload_n 2, 1) := by decide +kernel
theorem dX2_workOut_60 : decode cX2_workOut 60 = .ok (.iload_n 3, 1) := by decide +kernel
theorem dX2_workOut_61 : decode cX2_workOut 61 = .ok (.invokestatic 44, 3) := by decide +kernel
theorem dX2_workOut_64 : decode cX2_workOut 64 = .ok (.iload 5, 2) := by decide +kernel
theorem dX2_workOut_66 : decode cX2_workOut 66 = .ok (.iastore, 1) := by decide +kernel
theorem dX2_workOut_67 : decode cX2_workOut 67 = .ok (.aload_n 0, 1) := by decide +kernel
theorem dX2_workOut_68 : decode cX2_workOut 68 = .ok (.getfield 15, 3) := by decide +kernel
theorem dX2_workOut_71 : decode cX2_workOut 71 = .ok (.iload_n 2, 1) := by decide +kernel
theorem dX2_workOut_72 : decode cX2_workOut 72 = .ok (.iload_n 3, 1) := by decide +kernel
theorem dX2_workOut_73 : decode cX2_workOut 73 = .ok (.invokestatic 44, 3) := by decide +kernel
theorem dX2_workOut_76 : decode cX2_workOut 76 = .ok (.iload 4, 2) := by decide +kernel
theorem dX2_workOut_78 : decode cX2_workOut 78 = .ok (.ifCond .eq 9, 3) := by decide +kernel
theorem dX2_workOut_81 : decode cX2_workOut 81 = .ok (.sipush 1000, 3) := by decide +kernel
theorem dX2_workOut_84 : decode cX2_workOut 84 = .ok (.goto 14, 3) := by decide +kernel
theorem dX2_workOut_87 : decode cX2_workOut 87 = .ok (.aload_n 0, 1) := by decide +kernel
theorem dX2_workOut_88 : decode cX2_workOut 88 = .ok (.getfield 30, 3) := by decide +kernel
theorem dX2_workOut_91 : decode cX2_workOut 91 = .ok (.iload_n 3, 1) := by decide +kernel
theorem dX2_workOut_92 : decode cX2_workOut 92 = .ok (.iload 5, 2) := by decide +kernel
theorem dX2_workOut_94 : decode cX2_workOut 94 = .ok (.iload_n 2, 1) := by decide +kernel
theorem dX2_workOut_95 : decode cX2_workOut 95 = .ok (.invokevirtual 47, 3) := by decide +kernel
theorem dX2_workOut_98 : decode cX2_workOut 98 = .ok (.iastore, 1) := by decide +kernel
theorem dX2_workOut_99 : decode cX2_workOut 99 = .ok (.iinc 3 1, 3) := by decide +kernel
theorem dX2_workOut_102 : decode cX2_workOut 102 = .ok (.goto (-87), 3) := by decide +kernel
theorem dX2_workOut_105 : decode cX2_workOut 105 = .ok (.aload_n 0, 1) := by decide +kernel
theorem dX2_workOut_106 : decode cX2_workOut 106 = .ok (.getfield 18, 3) := by decide +kernel
theorem dX2_workOut_109 : decode cX2_workOut 109 = .ok (.iload_n 2, 1) := by decide +kernel
theorem dX2_workOut_110 : decode cX2_workOut 110 = .ok (.aload_n 0, 1) := by decide +kernel
theorem dX2_workOut_111 : decode cX2_workOut 111 = .ok (.iload_n 2, 1) := by decide +kernel
theorem dX2_workOut_112 : decode cX2_workOut 112 = .ok (.aload_n 0, 1) := by decide +kernel
theorem dX2_workOut_113 : decode cX2_workOut 113 = .ok (.getfield 30, 3) := by decide +kernel
theorem dX2_workOut_116 : decode cX2_workOut 116 = .ok (.getfield 51, 3) := by decide +kernel
theorem dX2_workOut_119 : decode cX2_workOut 119 = .ok (.iload_n 2, 1) := by decide +kernel
theorem dX2_workOut_120 : decode cX2_workOut 120 = .ok (.iaload, 1) := by decide +kernel
theorem dX2_workOut_121 : decode cX2_workOut 121 = .ok (.invokevirtual 54, 3) := by decide +kernel
theorem dX2_workOut_124 : decode cX2_workOut 124 = .ok (.iastore, 1) := by decide +kernel
theorem dX2_workOut_125 : decode cX2_workOut 125 = .ok (.iconst 0, 1) := by decide +kernel
theorem dX2_workOut_126 : decode cX2_workOut 126 = .ok (.istore_n 3, 1) := by decide +kernel
theorem dX2_workOut_127 : decode cX2_workOut 127 = .ok (.iload_n 3, 1) := by decide +kernel
theorem dX2_workOut_128 : decode cX2_workOut 128 = .ok (.iconst 3, 1) := by decide +kernel
theorem dX2_workOut_129 : decode cX2_workOut 129 = .ok (.if_icmp .ge 33, 3) := by decide +kernel
theorem dX2_workOut_132 : decode cX2_workOut 132 = .ok (.aload_n 0, 1) := by decide +kernel
theorem dX2_workOut_133 : decode cX2_workOut 133 = .ok (.getfield 27, 3) := by decide +kernel
theorem dX2_workOut_136 : decode cX2_workOut 136 = .ok (.iload_n 2, 1) := by decide +kernel
theorem dX2_workOut_137 : decode cX2_workOut 137 = .ok (.iconst 3, 1) := by decide +kernel
theorem dX2_workOut_138 : decode cX2_workOut 138 = .ok (.imul, 1) := by decide +kernel
theorem dX2_workOut_139 : decode cX2_workOut 139 = .ok (.iload_n 3, 1) := by decide +kernel
theorem dX2_workOut_140 : decode cX2_workOut 140 = .ok (.iadd, 1) := by decide +kernel
theorem dX2_workOut_141 : decode cX2_workOut 141 = .ok (.aload_n 0, 1) := by decide +kernel
theorem dX2_workOut_142 : decode cX2_workOut 142 = .ok (.aload_n 0, 1) := by decide +kernel
theorem dX2_workOut_143 : decode cX2_workOut 143 = .ok (.getfield 30, 3) := by decide +kernel
theorem dX2_workOut_146 : decode cX2_workOut 146 = .ok (.getfield 57, 3) := by decide +kernel
theorem dX2_workOut_149 : decode cX2_workOut 149 = .ok (.iload_n 3, 1) := by decide +kernel
theorem dX2_workOut_150 : decode cX2_workOut 150 = .ok (.iaload, 1) := by decide +kernel
theorem dX2_workOut_151 : decode cX2_workOut 151 = .ok (.iload_n 2, 1) := by decide +kernel
theorem dX2_workOut_152 : decode cX2_workOut 152 = .ok (.invokevirtual 60, 3) := by decide +kernel
theorem dX2_workOut_155 : decode cX2_workOut 155 = .ok (.iastore, 1) := by decide +kernel
theorem dX2_workOut_156 : decode cX2_workOut 156 = .ok (.iinc 3 1, 3) := by decide +kernel
theorem dX2_workOut_159 : decode cX2_workOut 159 = .ok (.goto (-32), 3) := by decide +kernel
theorem dX2_workOut_162 : decode cX2_workOut 162 = .ok (.iinc 2 1, 3) := by decide +kernel
theorem dX2_workOut_165 : decode cX2_workOut 165 = .ok (.goto (-163), 3) := by decide +kernel
theorem dX2_workOut_168 : decode cX2_workOut 168 = .ok (.aload_n 0, 1) := by decide +kernel
theorem dX2_workOut_169 : decode cX2_workOut 169 = .ok (.invokevirtual 63, 3) := by decide +kernel
theorem dX2_workOut_172 : decode cX2_workOut 172 = .ok (.return_, 1) := by decide +kernel
theorem dX2_variantAt_0 : decode cX2_variantAt 0 = .ok (.iload_n 1, 1) := by decide +kernel
theorem dX2_variantAt_1 : decode cX2_variantAt 1 = .ok (.ifCond .lt 20, 3) := by decide +kernel
theorem dX2_variantAt_4 : decode cX2_variantAt 4 = .ok (.iload_n 1, 1) := by decide +kernel
theorem dX2_variantAt_5 : decode cX2_variantAt 5 = .ok (.aload_n 0, 1) := by decide +kernel
theorem dX2_variantAt_6 : decode cX2_variantAt 6 = .ok (.getfield 66, 3) := by decide +kernel
theorem dX2_variantAt_9 : decode cX2_variantAt 9 = .ok (.if_icmp .ge 12, 3) := by decide +kernel
theorem dX2_variantAt_12 : decode cX2_variantAt 12 = .ok (.aload_n 0, 1) := by decide +kernel
theorem dX2_variantAt_13 : decode cX2_variantAt 13 = .ok (.getfield 24, 3) := by decide +kernel
theorem dX2_variantAt_16 : decode cX2_variantAt 16 = .ok (.iload_n 1, 1) := by decide +kernel
theorem dX2_variantAt_17 : decode cX2_variantAt 17 = .ok (.iaload, 1) := by decide +kernel
theorem dX2_variantAt_18 : decode cX2_variantAt 18 = .ok (.goto 4, 3) := by decide +kernel
theorem dX2_variantAt_21 : decode cX2_variantAt 21 = .ok (.iconst (-1), 1) := by decide +kernel
theorem dX2_variantAt_22 : decode cX2_variantAt 22 = .ok (.ireturn, 1) := by decide +kernel
theorem dX2_servedScore_0 : decode cX2_servedScore 0 = .ok (.aload_n 0, 1) := by decide +kernel
theorem dX2_servedScore_1 : decode cX2_servedScore 1 = .ok (.getfield 66, 3) := by decide +kernel
theorem dX2_servedScore_4 : decode cX2_servedScore 4 = .ok (.ifCond .le 17, 3) := by decide +kernel
theorem dX2_servedScore_7 : decode cX2_servedScore 7 = .ok (.aload_n 0, 1) := by decide +kernel
theorem dX2_servedScore_8 : decode cX2_servedScore 8 = .ok (.getfield 18, 3) := by decide +kernel
theorem dX2_servedScore_11 : decode cX2_servedScore 11 = .ok (.aload_n 0, 1) := by decide +kernel
theorem dX2_servedScore_12 : decode cX2_servedScore 12 = .ok (.getfield 24, 3) := by decide +kernel
theorem dX2_servedScore_15 : decode cX2_servedScore 15 = .ok (.iconst 0, 1) := by decide +kernel
theorem dX2_servedScore_16 : decode cX2_servedScore 16 = .ok (.iaload, 1) := by decide +kernel
theorem dX2_servedScore_17 : decode cX2_servedScore 17 = .ok (.iaload, 1) := by decide +kernel
theorem dX2_servedScore_18 : decode cX2_servedScore 18 = .ok (.goto 4, 3) := by decide +kernel
theorem dX2_servedScore_21 : decode cX2_servedScore 21 = .ok (.iconst 0, 1) := by decide +kernel
theorem dX2_servedScore_22 : decode cX2_servedScore 22 = .ok (.ireturn, 1) := by decide +kernel
theorem dX2_reasonOf_0 : decode cX2_reasonOf 0 = .ok (.aload_n 0, 1) := by decide +kernel
theorem dX2_reasonOf_1 : decode cX2_reasonOf 1 = .ok (.getfield 18, 3) := by decide +kernel
theorem dX2_reasonOf_4 : decode cX2_reasonOf 4 = .ok (.iload_n 1, 1) := by decide +kernel
theorem dX2_reasonOf_5 : decode cX2_reasonOf 5 = .ok (.iaload, 1) := by decide +kernel
theorem dX2_reasonOf_6 : decode cX2_reasonOf 6 = .ok (.ifCond .le 5, 3) := by decide +kernel
theorem dX2_reasonOf_9 : decode cX2_reasonOf 9 = .ok (.iconst 0, 1) := by decide +kernel
theorem dX2_reasonOf_10 : decode cX2_reasonOf 10 = .ok (.ireturn, 1) := by decide +kernel
theorem dX2_reasonOf_11 : decode cX2_reasonOf 11 = .ok (.iconst 0, 1) := by decide +kernel
theorem dX2_reasonOf_12 : decode cX2_reasonOf 12 = .ok (.istore_n 2, 1) := by decide +kernel
theorem dX2_reasonOf_13 : decode cX2_reasonOf 13 = .ok (.iload_n 2, 1) := by decide +kernel
theorem dX2_reasonOf_14 : decode cX2_reasonOf 14 = .ok (.bipush 6, 2) := by decide +kernel
theorem dX2_reasonOf_16 : decode cX2_reasonOf 16 = .ok (.if_icmp .ge 26, 3) := by decide +kernel
theorem dX2_reasonOf_19 : decode cX2_reasonOf 19 = .ok (.aload_n 0, 1) := by decide +kernel
theorem dX2_reasonOf_20 : decode cX2_reasonOf 20 = .ok (.getfield 15, 3) := by decide +kernel
theorem dX2_reasonOf_23 : decode cX2_reasonOf 23 = .ok (.iload_n 1, 1) := by decide +kernel
theorem dX2_reasonOf_24 : decode cX2_reasonOf 24 = .ok (.iload_n 2, 1) := by decide +kernel
theorem dX2_reasonOf_25 : decode cX2_reasonOf 25 = .ok (.invokestatic 44, 3) := by decide +kernel
theorem dX2_reasonOf_28 : decode cX2_reasonOf 28 = .ok (.iaload, 1) := by decide +kernel
theorem dX2_reasonOf_29 : decode cX2_reasonOf 29 = .ok (.ifCond .ne 7, 3) := by decide +kernel
theorem dX2_reasonOf_32 : decode cX2_reasonOf 32 = .ok (.iconst 1, 1) := by decide +kernel
theorem dX2_reasonOf_33 : decode cX2_reasonOf 33 = .ok (.iload_n 2, 1) := by decide +kernel
theorem dX2_reasonOf_34 : decode cX2_reasonOf 34 = .ok (.iadd, 1) := by decide +kernel
theorem dX2_reasonOf_35 : decode cX2_reasonOf 35 = .ok (.ireturn, 1) := by decide +kernel
theorem dX2_reasonOf_36 : decode cX2_reasonOf 36 = .ok (.iinc 2 1, 3) := by decide +kernel
theorem dX2_reasonOf_39 : decode cX2_reasonOf 39 = .ok (.goto (-26), 3) := by decide +kernel
theorem dX2_reasonOf_42 : decode cX2_reasonOf 42 = .ok (.aload_n 0, 1) := by decide +kernel
theorem dX2_reasonOf_43 : decode cX2_reasonOf 43 = .ok (.getfield 30, 3) := by decide +kernel
theorem dX2_reasonOf_46 : decode cX2_reasonOf 46 = .ok (.getfield 51, 3) := by decide +kernel
theorem dX2_reasonOf_49 : decode cX2_reasonOf 49 = .ok (.iload_n 1, 1) := by decide +kernel
theorem dX2_reasonOf_50 : decode cX2_reasonOf 50 = .ok (.iaload, 1) := by decide +kernel
theorem dX2_reasonOf_51 : decode cX2_reasonOf 51 = .ok (.ifCond .ne 8, 3) := by decide +kernel
theorem dX2_reasonOf_54 : decode cX2_reasonOf 54 = .ok (.bipush 7, 2) := by decide +kernel
theorem dX2_reasonOf_56 : decode cX2_reasonOf 56 = .ok (.goto 5, 3) := by decide +kernel
theorem dX2_reasonOf_59 : decode cX2_reasonOf 59 = .ok (.bipush 8, 2) := by decide +kernel
theorem dX2_reasonOf_61 : decode cX2_reasonOf 61 = .ok (.ireturn, 1) := by decide +kernel
theorem dX2_countingCount_0 : decode cX2_countingCount 0 = .ok (.iconst 0, 1) := by decide +kernel
theorem dX2_countingCount_1 : decode cX2_countingCount 1 = .ok (.istore_n 3, 1) := by decide +kernel
theorem dX2_countingCount_2 : decode cX2_countingCount 2 = .ok (.iconst 0, 1) := by decide +kernel
theorem dX2_countingCount_3 : decode cX2_countingCount 3 = .ok (.istore 4, 2) := by decide +kernel
theorem dX2_countingCount_5 : decode cX2_countingCount 5 = .ok (.iload 4, 2) := by decide +kernel
theorem dX2_countingCount_7 : decode cX2_countingCount 7 = .ok (.aload_n 0, 1) := by decide +kernel
theorem dX2_countingCount_8 : decode cX2_countingCount 8 = .ok (.getfield 30, 3) := by decide +kernel
theorem dX2_countingCount_11 : decode cX2_countingCount 11 = .ok (.getfield 34, 3) := by decide +kernel
theorem dX2_countingCount_14 : decode cX2_countingCount 14 = .ok (.if_icmp .ge 27, 3) := by decide +kernel
theorem dX2_countingCount_17 : decode cX2_countingCount 17 = .ok (.aload_n 0, 1) := by decide +kernel
theorem dX2_countingCount_18 : decode cX2_countingCount 18 = .ok (.getfield 9, 3) := by decide +kernel
theorem dX2_countingCount_21 : decode cX2_countingCount 21 = .ok (.iload 4, 2) := by decide +kernel
theorem dX2_countingCount_23 : decode cX2_countingCount 23 = .ok (.iload_n 1, 1) := by decide +kernel
theorem dX2_countingCount_24 : decode cX2_countingCount 24 = .ok (.invokestatic 44, 3) := by decide +kernel
theorem dX2_countingCount_27 : decode cX2_countingCount 27 = .ok (.iaload, 1) := by decide +kernel
theorem dX2_countingCount_28 : decode cX2_countingCount 28 = .ok (.iload_n 2, 1) := by decide +kernel
theorem dX2_countingCount_29 : decode cX2_countingCount 29 = .ok (.if_icmp .ne 6, 3) := by decide +kernel
theorem dX2_countingCount_32 : decode cX2_countingCount 32 = .ok (.iinc 3 1, 3) := by decide +kernel
theorem dX2_countingCount_35 : decode cX2_countingCount 35 = .ok (.iinc 4 1, 3) := by decide +kernel
theorem dX2_countingCount_38 : decode cX2_countingCount 38 = .ok (.goto (-33), 3) := by decide +kernel
theorem dX2_countingCount_41 : decode cX2_countingCount 41 = .ok (.iload_n 3, 1) := by decide +kernel
theorem dX2_countingCount_42 : decode cX2_countingCount 42 = .ok (.ireturn, 1) := by decide +kernel
theorem dX2_leastLeadingWeight_0 : decode cX2_leastLeadingWeight 0 = .ok (.iconst 0, 1) := by decide +kernel
theorem dX2_leastLeadingWeight_1 : decode cX2_leastLeadingWeight 1 = .ok (.istore 4, 2) := by decide +kernel
theorem dX2_leastLeadingWeight_3 : decode cX2_leastLeadingWeight 3 = .ok (.iconst 0, 1) := by decide +kernel
theorem dX2_leastLeadingWeight_4 : decode cX2_leastLeadingWeight 4 = .ok (.istore 5, 2) := by decide +kernel
theorem dX2_leastLeadingWeight_6 : decode cX2_leastLeadingWeight 6 = .ok (.iload 5, 2) := by decide +kernel
theorem dX2_leastLeadingWeight_8 : decode cX2_leastLeadingWeight 8 = .ok (.sipush 1000, 3) := by decide +kernel
theorem dX2_leastLeadingWeight_11 : decode cX2_leastLeadingWeight 11 = .ok (.if_icmp .gt 46, 3) := by decide +kernel
theorem dX2_leastLeadingWeight_14 : decode cX2_leastLeadingWeight 14 = .ok (.aload_n 0, 1) := by decide +kernel
theorem dX2_leastLeadingWeight_15 : decode cX2_leastLeadingWeight 15 = .ok (.iload_n 3, 1) := by decide +kernel
theorem dX2_leastLeadingWeight_16 : decode cX2_leastLeadingWeight 16 = .ok (.iload_n 1, 1) := by decide +kernel
theorem dX2_leastLeadingWeight_17 : decode cX2_leastLeadingWeight 17 = .ok (.iload_n 2, 1) := by decide +kernel
theorem dX2_leastLeadingWeight_18 : decode cX2_leastLeadingWeight 18 = .ok (.iload 5, 2) := by decide +kernel
theorem dX2_leastLeadingWeight_20 : decode cX2_leastLeadingWeight 20 = .ok (.invokevirtual 69, 3) := by decide +kernel
theorem dX2_leastLeadingWeight_23 : decode cX2_leastLeadingWeight 23 = .ok (.istore 6, 2) := by decide +kernel
theorem dX2_leastLeadingWeight_25 : decode cX2_leastLeadingWeight 25 = .ok (.iload 6, 2) := by decide +kernel
theorem dX2_leastLeadingWeight_27 : decode cX2_leastLeadingWeight 27 = .ok (.iload 4, 2) := by decide +kernel
theorem dX2_leastLeadingWeight_29 : decode cX2_leastLeadingWeight 29 = .ok (.if_icmp .le 22, 3) := by decide +kernel
theorem dX2_leastLeadingWeight_32 : decode cX2_leastLeadingWeight 32 = .ok (.aload_n 0, 1) := by decide +kernel
theorem dX2_leastLeadingWeight_33 : decode cX2_leastLeadingWeight 33 = .ok (.iload_n 3, 1) := by decide +kernel
theorem dX2_leastLeadingWeight_34 : decode cX2_leastLeadingWeight 34 = .ok (.iload_n 1, 1) := by decide +kernel
theorem dX2_leastLeadingWeight_35 : decode cX2_leastLeadingWeight 35 = .ok (.iload_n 2, 1) := by decide +kernel
theorem dX2_leastLeadingWeight_36 : decode cX2_leastLeadingWeight 36 = .ok (.iload 5, 2) := by decide +kernel
theorem dX2_leastLeadingWeight_38 : decode cX2_leastLeadingWeight 38 = .ok (.invokevirtual 73, 3) := by decide +kernel
theorem dX2_leastLeadingWeight_41 : decode cX2_leastLeadingWeight 41 = .ok (.ifCond .eq 6, 3) := by decide +kernel
theorem dX2_leastLeadingWeight_44 : decode cX2_leastLeadingWeight 44 = .ok (.iload 5, 2) := by decide +kernel
theorem dX2_leastLeadingWeight_46 : decode cX2_leastLeadingWeight 46 = .ok (.ireturn, 1) := by decide +kernel
theorem dX2_leastLeadingWeight_47 : decode cX2_leastLeadingWeight 47 = .ok (.iload 6, 2) := by decide +kernel
theorem dX2_leastLeadingWeight_49 : decode cX2_leastLeadingWeight 49 = .ok (.istore 4, 2) := by decide +kernel
theorem dX2_leastLeadingWeight_51 : decode cX2_leastLeadingWeight 51 = .ok (.iinc 5 1, 3) := by decide +kernel
theorem dX2_leastLeadingWeight_54 : decode cX2_leastLeadingWeight 54 = .ok (.goto (-48), 3) := by decide +kernel
theorem dX2_leastLeadingWeight_57 : decode cX2_leastLeadingWeight 57 = .ok (.iconst (-1), 1) := by decide +kernel
theorem dX2_leastLeadingWeight_58 : decode cX2_leastLeadingWeight 58 = .ok (.ireturn, 1) := by decide +kernel
theorem dX2_leastLeadingQuality_0 : decode cX2_leastLeadingQuality 0 = .ok (.iconst 0, 1) := by decide +kernel
theorem dX2_leastLeadingQuality_1 : decode cX2_leastLeadingQuality 1 = .ok (.istore_n 2, 1) := by decide +kernel
theorem dX2_leastLeadingQuality_2 : decode cX2_leastLeadingQuality 2 = .ok (.sipush 512, 3) := by decide +kernel
theorem dX2_leastLeadingQuality_5 : decode cX2_leastLeadingQuality 5 = .ok (.istore_n 3, 1) := by decide +kernel
theorem dX2_leastLeadingQuality_6 : decode cX2_leastLeadingQuality 6 = .ok (.iload_n 3, 1) := by decide +kernel
theorem dX2_leastLeadingQuality_7 : decode cX2_leastLeadingQuality 7 = .ok (.ifCond .le 36, 3) := by decide +kernel
theorem dX2_leastLeadingQuality_10 : decode cX2_leastLeadingQuality 10 = .ok (.iload_n 2, 1) := by decide +kernel
theorem dX2_leastLeadingQuality_11 : decode cX2_leastLeadingQuality 11 = .ok (.iload_n 3, 1) := by decide +kernel
theorem dX2_leastLeadingQuality_12 : decode cX2_leastLeadingQuality 12 = .ok (.iadd, 1) := by decide +kernel
theorem dX2_leastLeadingQuality_13 : decode cX2_leastLeadingQuality 13 = .ok (.istore 4, 2) := by decide +kernel
theorem dX2_leastLeadingQuality_15 : decode cX2_leastLeadingQuality 15 = .ok (.iload 4, 2) := by decide +kernel
theorem dX2_leastLeadingQuality_17 : decode cX2_leastLeadingQuality 17 = .ok (.sipush 1000, 3) := by decide +kernel
theorem dX2_leastLeadingQuality_20 : decode cX2_leastLeadingQuality 20 = .ok (.if_icmp .gt 16, 3) := by decide +kernel
theorem dX2_leastLeadingQuality_23 : decode cX2_leastLeadingQuality 23 = .ok (.aload_n 0, 1) := by decide +kernel
theorem dX2_leastLeadingQuality_24 : decode cX2_leastLeadingQuality 24 = .ok (.iload_n 1, 1) := by decide +kernel
theorem dX2_leastLeadingQuality_25 : decode cX2_leastLeadingQuality 25 = .ok (.iload 4, 2) := by decide +kernel
theorem dX2_leastLeadingQuality_27 : decode cX2_leastLeadingQuality 27 = .ok (.invokevirtual 77, 3) := by decide +kernel
theorem dX2_leastLeadingQuality_30 : decode cX2_leastLeadingQuality 30 = .ok (.ifCond .ne 6, 3) := by decide +kernel
theorem dX2_leastLeadingQuality_33 : decode cX2_leastLeadingQuality 33 = .ok (.iload 4, 2) := by decide +kernel
theorem dX2_leastLeadingQuality_35 : decode cX2_leastLeadingQuality 35 = .ok (.istore_n 2, 1) := by decide +kernel
theorem dX2_leastLeadingQuality_36 : decode cX2_leastLeadingQuality 36 = .ok (.iload_n 3, 1) := by decide +kernel
theorem dX2_leastLeadingQuality_37 : decode cX2_leastLeadingQuality 37 = .ok (.iconst 2, 1) := by decide +kernel
theorem dX2_leastLeadingQuality_38 : decode cX2_leastLeadingQuality 38 = .ok (.idiv, 1) := by decide +kernel
theorem dX2_leastLeadingQuality_39 : decode cX2_leastLeadingQuality 39 = .ok (.istore_n 3, 1) := by decide +kernel
theorem dX2_leastLeadingQuality_40 : decode cX2_leastLeadingQuality 40 = .ok (.goto (-34), 3) := by decide +kernel
theorem dX2_leastLeadingQuality_43 : decode cX2_leastLeadingQuality 43 = .ok (.iload_n 2, 1) := by decide +kernel
theorem dX2_leastLeadingQuality_44 : decode cX2_leastLeadingQuality 44 = .ok (.sipush 1000, 3) := by decide +kernel
theorem dX2_leastLeadingQuality_47 : decode cX2_leastLeadingQuality 47 = .ok (.if_icmp .ge 9, 3) := by decide +kernel
theorem dX2_leastLeadingQuality_50 : decode cX2_leastLeadingQuality 50 = .ok (.iload_n 2, 1) := by decide +kernel
theorem dX2_leastLeadingQuality_51 : decode cX2_leastLeadingQuality 51 = .ok (.iconst 1, 1) := by decide +kernel
theorem dX2_leastLeadingQuality_52 : decode cX2_leastLeadingQuality 52 = .ok (.iadd, 1) := by decide +kernel
theorem dX2_leastLeadingQuality_53 : decode cX2_leastLeadingQuality 53 = .ok (.goto 4, 3) := by decide +kernel
theorem dX2_leastLeadingQuality_56 : decode cX2_leastLeadingQuality 56 = .ok (.iconst (-1), 1) := by decide +kernel
theorem dX2_leastLeadingQuality_57 : decode cX2_leastLeadingQuality 57 = .ok (.ireturn, 1) := by decide +kernel
theorem dX2_leadsAtWeight_0 : decode cX2_leadsAtWeight 0 = .ok (.aload_n 0, 1) := by decide +kernel
theorem dX2_leadsAtWeight_1 : decode cX2_leadsAtWeight 1 = .ok (.iload_n 1, 1) := by decide +kernel
theorem dX2_leadsAtWeight_2 : decode cX2_leadsAtWeight 2 = .ok (.iload_n 2, 1) := by decide +kernel
theorem dX2_leadsAtWeight_3 : decode cX2_leadsAtWeight 3 = .ok (.iload_n 3, 1) := by decide +kernel
theorem dX2_leadsAtWeight_4 : decode cX2_leadsAtWeight 4 = .ok (.iload 4, 2) := by decide +kernel
theorem dX2_leadsAtWeight_6 : decode cX2_leadsAtWeight 6 = .ok (.invokevirtual 69, 3) := by decide +kernel
theorem dX2_leadsAtWeight_9 : decode cX2_leadsAtWeight 9 = .ok (.istore 5, 2) := by decide +kernel
theorem dX2_leadsAtWeight_11 : decode cX2_leadsAtWeight 11 = .ok (.aload_n 0, 1) := by decide +kernel
theorem dX2_leadsAtWeight_12 : decode cX2_leadsAtWeight 12 = .ok (.getfield 30, 3) := by decide +kernel
theorem dX2_leadsAtWeight_15 : decode cX2_leadsAtWeight 15 = .ok (.getfield 51, 3) := by decide +kernel
theorem dX2_leadsAtWeight_18 : decode cX2_leadsAtWeight 18 = .ok (.iload_n 1, 1) := by decide +kernel
theorem dX2_leadsAtWeight_19 : decode cX2_leadsAtWeight 19 = .ok (.iaload, 1) := by decide +kernel
theorem dX2_leadsAtWeight_20 : decode cX2_leadsAtWeight 20 = .ok (.istore 6, 2) := by decide +kernel
theorem dX2_leadsAtWeight_22 : decode cX2_leadsAtWeight 22 = .ok (.iconst 0, 1) := by decide +kernel
theorem dX2_leadsAtWeight_23 : decode cX2_leadsAtWeight 23 = .ok (.istore 7, 2) := by decide +kernel
theorem dX2_leadsAtWeight_25 : decode cX2_leadsAtWeight 25 = .ok (.iload 7, 2) := by decide +kernel
theorem dX2_leadsAtWeight_27 : decode cX2_leadsAtWeight 27 = .ok (.aload_n 0, 1) := by decide +kernel
theorem dX2_leadsAtWeight_28 : decode cX2_leadsAtWeight 28 = .ok (.getfield 30, 3) := by decide +kernel
theorem dX2_leadsAtWeight_31 : decode cX2_leadsAtWeight 31 = .ok (.getfield 34, 3) := by decide +kernel
theorem dX2_leadsAtWeight_34 : decode cX2_leadsAtWeight 34 = .ok (.if_icmp .ge 45, 3) := by decide +kernel
theorem dX2_leadsAtWeight_37 : decode cX2_leadsAtWeight 37 = .ok (.aload_n 0, 1) := by decide +kernel
theorem dX2_leadsAtWeight_38 : decode cX2_leadsAtWeight 38 = .ok (.iload 7, 2) := by decide +kernel
theorem dX2_leadsAtWeight_40 : decode cX2_leadsAtWeight 40 = .ok (.iload_n 2, 1) := by decide +kernel
theorem dX2_leadsAtWeight_41 : decode cX2_leadsAtWeight 41 = .ok (.iload_n 3, 1) := by decide +kernel
theorem dX2_leadsAtWeight_42 : decode cX2_leadsAtWeight 42 = .ok (.iload 4, 2) := by decide +kernel
theorem dX2_leadsAtWeight_44 : decode cX2_leadsAtWeight 44 = .ok (.invokevirtual 69, 3) := by decide +kernel
theorem dX2_leadsAtWeight_47 : decode cX2_leadsAtWeight 47 = .ok (.istore 8, 2) := by decide +kernel
theorem dX2_leadsAtWeight_49 : decode cX2_leadsAtWeight 49 = .ok (.iload 7, 2) := by decide +kernel
theorem dX2_leadsAtWeight_51 : decode cX2_leadsAtWeight 51 = .ok (.iload_n 1, 1) := by decide +kernel
theorem dX2_leadsAtWeight_52 : decode cX2_leadsAtWeight 52 = .ok (.if_icmp .eq 21, 3) := by decide +kernel
theorem dX2_leadsAtWeight_55 : decode cX2_leadsAtWeight 55 = .ok (.aload_n 0, 1) := by decide +kernel
theorem dX2_leadsAtWeight_56 : decode cX2_leadsAtWeight 56 = .ok (.iload 7, 2) := by decide +kernel
theorem dX2_leadsAtWeight_58 : decode cX2_leadsAtWeight 58 = .ok (.iload 8, 2) := by decide +kernel
theorem dX2_leadsAtWeight_60 : decode cX2_leadsAtWeight 60 = .ok (.iload_n 1, 1) := by decide +kernel
theorem dX2_leadsAtWeight_61 : decode cX2_leadsAtWeight 61 = .ok (.iload 5, 2) := by decide +kernel
theorem dX2_leadsAtWeight_63 : decode cX2_leadsAtWeight 63 = .ok (.iload 6, 2) := by decide +kernel
theorem dX2_leadsAtWeight_65 : decode cX2_leadsAtWeight 65 = .ok (.invokevirtual 81, 3) := by decide +kernel
theorem dX2_leadsAtWeight_68 : decode cX2_leadsAtWeight 68 = .ok (.ifCond .eq 5, 3) := by decide +kernel
theorem dX2_leadsAtWeight_71 : decode cX2_leadsAtWeight 71 = .ok (.iconst 0, 1) := by decide +kernel
theorem dX2_leadsAtWeight_72 : decode cX2_leadsAtWeight 72 = .ok (.ireturn, 1) := by decide +kernel
theorem dX2_leadsAtWeight_73 : decode cX2_leadsAtWeight 73 = .ok (.iinc 7 1, 3) := by decide +kernel
theorem dX2_leadsAtWeight_76 : decode cX2_leadsAtWeight 76 = .ok (.goto (-51), 3) := by decide +kernel
theorem dX2_leadsAtWeight_79 : decode cX2_leadsAtWeight 79 = .ok (.iload 5, 2) := by decide +kernel
theorem dX2_leadsAtWeight_81 : decode cX2_leadsAtWeight 81 = .ok (.ifCond .le 7, 3) := by decide +kernel
theorem dX2_leadsAtWeight_84 : decode cX2_leadsAtWeight 84 = .ok (.iconst 1, 1) := by decide +kernel
theorem dX2_leadsAtWeight_85 : decode cX2_leadsAtWeight 85 = .ok (.goto 4, 3) := by decide +kernel
theorem dX2_leadsAtWeight_88 : decode cX2_leadsAtWeight 88 = .ok (.iconst 0, 1) := by decide +kernel
theorem dX2_leadsAtWeight_89 : decode cX2_leadsAtWeight 89 = .ok (.ireturn, 1) := by decide +kernel
theorem dX2_leadsAtQuality_0 : decode cX2_leadsAtQuality 0 = .ok (.aload_n 0, 1) := by decide +kernel
theorem dX2_leadsAtQuality_1 : decode cX2_leadsAtQuality 1 = .ok (.iload_n 1, 1) := by decide +kernel
theorem dX2_leadsAtQuality_2 : decode cX2_leadsAtQuality 2 = .ok (.iload_n 2, 1) := by decide +kernel
theorem dX2_leadsAtQuality_3 : decode cX2_leadsAtQuality 3 = .ok (.invokevirtual 54, 3) := by decide +kernel
theorem dX2_leadsAtQuality_6 : decode cX2_leadsAtQuality 6 = .ok (.istore_n 3, 1) := by decide +kernel
theorem dX2_leadsAtQuality_7 : decode cX2_leadsAtQuality 7 = .ok (.iconst 0, 1) := by decide +kernel
theorem dX2_leadsAtQuality_8 : decode cX2_leadsAtQuality 8 = .ok (.istore 4, 2) := by decide +kernel
theorem dX2_leadsAtQuality_10 : decode cX2_leadsAtQuality 10 = .ok (.iload 4, 2) := by decide +kernel
theorem dX2_leadsAtQuality_12 : decode cX2_leadsAtQuality 12 = .ok (.aload_n 0, 1) := by decide +kernel
theorem dX2_leadsAtQuality_13 : decode cX2_leadsAtQuality 13 = .ok (.getfield 30, 3) := by decide +kernel
theorem dX2_leadsAtQuality_16 : decode cX2_leadsAtQuality 16 = .ok (.getfield 34, 3) := by decide +kernel
theorem dX2_leadsAtQuality_19 : decode cX2_leadsAtQuality 19 = .ok (.if_icmp .ge 36, 3) := by decide +kernel
theorem dX2_leadsAtQuality_22 : decode cX2_leadsAtQuality 22 = .ok (.iload 4, 2) := by decide +kernel
theorem dX2_leadsAtQuality_24 : decode cX2_leadsAtQuality 24 = .ok (.iload_n 1, 1) := by decide +kernel
theorem dX2_leadsAtQuality_25 : decode cX2_leadsAtQuality 25 = .ok (.if_icmp .eq 24, 3) := by decide +kernel
theorem dX2_leadsAtQuality_28 : decode cX2_leadsAtQuality 28 = .ok (.aload_n 0, 1) := by decide +kernel
theorem dX2_leadsAtQuality_29 : decode cX2_leadsAtQuality 29 = .ok (.iload 4, 2) := by decide +kernel
theorem dX2_leadsAtQuality_31 : decode cX2_leadsAtQuality 31 = .ok (.aload_n 0, 1) := by decide +kernel
theorem dX2_leadsAtQuality_32 : decode cX2_leadsAtQuality 32 = .ok (.getfield 18, 3) := by decide +kernel
theorem dX2_leadsAtQuality_35 : decode cX2_leadsAtQuality 35 = .ok (.iload 4, 2) := by decide +kernel
theorem dX2_leadsAtQuality_37 : decode cX2_leadsAtQuality 37 = .ok (.iaload, 1) := by decide +kernel
theorem dX2_leadsAtQuality_38 : decode cX2_leadsAtQuality 38 = .ok (.iload_n 1, 1) := by decide +kernel
theorem dX2_leadsAtQuality_39 : decode cX2_leadsAtQuality 39 = .ok (.iload_n 3, 1) := by decide +kernel
theorem dX2_leadsAtQuality_40 : decode cX2_leadsAtQuality 40 = .ok (.iload_n 2, 1) := by decide +kernel
theorem dX2_leadsAtQuality_41 : decode cX2_leadsAtQuality 41 = .ok (.invokevirtual 81, 3) := by decide +kernel
theorem dX2_leadsAtQuality_44 : decode cX2_leadsAtQuality 44 = .ok (.ifCond .eq 5, 3) := by decide +kernel
theorem dX2_leadsAtQuality_47 : decode cX2_leadsAtQuality 47 = .ok (.iconst 0, 1) := by decide +kernel
theorem dX2_leadsAtQuality_48 : decode cX2_leadsAtQuality 48 = .ok (.ireturn, 1) := by decide +kernel
theorem dX2_leadsAtQuality_49 : decode cX2_leadsAtQuality 49 = .ok (.iinc 4 1, 3) := by decide +kernel
theorem dX2_leadsAtQuality_52 : decode cX2_leadsAtQuality 52 = .ok (.goto (-42), 3) := by decide +kernel
theorem dX2_leadsAtQuality_55 : decode cX2_leadsAtQuality 55 = .ok (.iload_n 3, 1) := by decide +kernel
theorem dX2_leadsAtQuality_56 : decode cX2_leadsAtQuality 56 = .ok (.ifCond .le 7, 3) := by decide +kernel
theorem dX2_leadsAtQuality_59 : decode cX2_leadsAtQuality 59 = .ok (.iconst 1, 1) := by decide +kernel
theorem dX2_leadsAtQuality_60 : decode cX2_leadsAtQuality 60 = .ok (.goto 4, 3) := by decide +kernel
theorem dX2_leadsAtQuality_63 : decode cX2_leadsAtQuality 63 = .ok (.iconst 0, 1) := by decide +kernel
theorem dX2_leadsAtQuality_64 : decode cX2_leadsAtQuality 64 = .ok (.ireturn, 1) := by decide +kernel
theorem dX2_scoreOfQuality_0 : decode cX2_scoreOfQuality 0 = .ok (.iload_n 2, 1) := by decide +kernel
theorem dX2_scoreOfQuality_1 : decode cX2_scoreOfQuality 1 = .ok (.istore_n 3, 1) := by decide +kernel
theorem dX2_scoreOfQuality_2 : decode cX2_scoreOfQuality 2 = .ok (.iconst 0, 1) := by decide +kernel
theorem dX2_scoreOfQuality_3 : decode cX2_scoreOfQuality 3 = .ok (.istore 4, 2) := by decide +kernel
theorem dX2_scoreOfQuality_5 : decode cX2_scoreOfQuality 5 = .ok (.iload 4, 2) := by decide +kernel
theorem dX2_scoreOfQuality_7 : decode cX2_scoreOfQuality 7 = .ok (.bipush 6, 2) := by decide +kernel
theorem dX2_scoreOfQuality_9 : decode cX2_scoreOfQuality 9 = .ok (.if_icmp .ge 27, 3) := by decide +kernel
theorem dX2_scoreOfQuality_12 : decode cX2_scoreOfQuality 12 = .ok (.iload_n 3, 1) := by decide +kernel
theorem dX2_scoreOfQuality_13 : decode cX2_scoreOfQuality 13 = .ok (.aload_n 0, 1) := by decide +kernel
theorem dX2_scoreOfQuality_14 : decode cX2_scoreOfQuality 14 = .ok (.getfield 15, 3) := by decide +kernel
theorem dX2_scoreOfQuality_17 : decode cX2_scoreOfQuality 17 = .ok (.iload_n 1, 1) := by decide +kernel
theorem dX2_scoreOfQuality_18 : decode cX2_scoreOfQuality 18 = .ok (.iload 4, 2) := by decide +kernel
theorem dX2_scoreOfQuality_20 : decode cX2_scoreOfQuality 20 = .ok (.invokestatic 44, 3) := by decide +kernel
theorem dX2_scoreOfQuality_23 : decode cX2_scoreOfQuality 23 = .ok (.iaload, 1) := by decide +kernel
theorem dX2_scoreOfQuality_24 : decode cX2_scoreOfQuality 24 = .ok (.imul, 1) := by decide +kernel
theorem dX2_scoreOfQuality_25 : decode cX2_scoreOfQuality 25 = .ok (.sipush 1000, 3) := by decide +kernel
theorem dX2_scoreOfQuality_28 : decode cX2_scoreOfQuality 28 = .ok (.idiv, 1) := by decide +kernel
theorem dX2_scoreOfQuality_29 : decode cX2_scoreOfQuality 29 = .ok (.istore_n 3, 1) := by decide +kernel
theorem dX2_scoreOfQuality_30 : decode cX2_scoreOfQuality 30 = .ok (.iinc 4 1, 3) := by decide +kernel
theorem dX2_scoreOfQuality_33 : decode cX2_scoreOfQuality 33 = .ok (.goto (-28), 3) := by decide +kernel
theorem dX2_scoreOfQuality_36 : decode cX2_scoreOfQuality 36 = .ok (.iload_n 3, 1) := by decide +kernel
theorem dX2_scoreOfQuality_37 : decode cX2_scoreOfQuality 37 = .ok (.ireturn, 1) := by decide +kernel
theorem dX2_scoreOfWeight_0 : decode cX2_scoreOfWeight 0 = .ok (.aload_n 0, 1) := by decide +kernel
theorem dX2_scoreOfWeight_1 : decode cX2_scoreOfWeight 1 = .ok (.getfield 9, 3) := by decide +kernel
theorem dX2_scoreOfWeight_4 : decode cX2_scoreOfWeight 4 = .ok (.iload_n 1, 1) := by decide +kernel
theorem dX2_scoreOfWeight_5 : decode cX2_scoreOfWeight 5 = .ok (.iload_n 2, 1) := by decide +kernel
theorem dX2_scoreOfWeight_6 : decode cX2_scoreOfWeight 6 = .ok (.invokestatic 44, 3) := by decide +kernel
theorem dX2_scoreOfWeight_9 : decode cX2_scoreOfWeight 9 = .ok (.iaload, 1) := by decide +kernel
theorem dX2_scoreOfWeight_10 : decode cX2_scoreOfWeight 10 = .ok (.iload_n 3, 1) := by decide +kernel
theorem dX2_scoreOfWeight_11 : decode cX2_scoreOfWeight 11 = .ok (.if_icmp .eq 10, 3) := by decide +kernel
theorem dX2_scoreOfWeight_14 : decode cX2_scoreOfWeight 14 = .ok (.aload_n 0, 1) := by decide +kernel
theorem dX2_scoreOfWeight_15 : decode cX2_scoreOfWeight 15 = .ok (.getfield 18, 3) := by decide +kernel
theorem dX2_scoreOfWeight_18 : decode cX2_scoreOfWeight 18 = .ok (.iload_n 1, 1) := by decide +kernel
theorem dX2_scoreOfWeight_19 : decode cX2_scoreOfWeight 19 = .ok (.iaload, 1) := by decide +kernel
theorem dX2_scoreOfWeight_20 : decode cX2_scoreOfWeight 20 = .ok (.ireturn, 1) := by decide +kernel
theorem dX2_scoreOfWeight_21 : decode cX2_scoreOfWeight 21 = .ok (.aload_n 0, 1) := by decide +kernel
theorem dX2_scoreOfWeight_22 : decode cX2_scoreOfWeight 22 = .ok (.getfield 30, 3) := by decide +kernel
theorem dX2_scoreOfWeight_25 : decode cX2_scoreOfWeight 25 = .ok (.getfield 51, 3) := by decide +kernel
theorem dX2_scoreOfWeight_28 : decode cX2_scoreOfWeight 28 = .ok (.iload_n 1, 1) := by decide +kernel
theorem dX2_scoreOfWeight_29 : decode cX2_scoreOfWeight 29 = .ok (.iaload, 1) := by decide +kernel
theorem dX2_scoreOfWeight_30 : decode cX2_scoreOfWeight 30 = .ok (.istore 5, 2) := by decide +kernel
theorem dX2_scoreOfWeight_32 : decode cX2_scoreOfWeight 32 = .ok (.iconst 0, 1) := by decide +kernel
theorem dX2_scoreOfWeight_33 : decode cX2_scoreOfWeight 33 = .ok (.istore 6, 2) := by decide +kernel
theorem dX2_scoreOfWeight_35 : decode cX2_scoreOfWeight 35 = .ok (.iload 6, 2) := by decide +kernel
theorem dX2_scoreOfWeight_37 : decode cX2_scoreOfWeight 37 = .ok (.bipush 6, 2) := by decide +kernel
theorem dX2_scoreOfWeight_39 : decode cX2_scoreOfWeight 39 = .ok (.if_icmp .ge 44, 3) := by decide +kernel
theorem dX2_scoreOfWeight_42 : decode cX2_scoreOfWeight 42 = .ok (.iload 6, 2) := by decide +kernel
theorem dX2_scoreOfWeight_44 : decode cX2_scoreOfWeight 44 = .ok (.iload_n 2, 1) := by decide +kernel
theorem dX2_scoreOfWeight_45 : decode cX2_scoreOfWeight 45 = .ok (.if_icmp .ne 8, 3) := by decide +kernel
theorem dX2_scoreOfWeight_48 : decode cX2_scoreOfWeight 48 = .ok (.iload 4, 2) := by decide +kernel
theorem dX2_scoreOfWeight_50 : decode cX2_scoreOfWeight 50 = .ok (.goto 14, 3) := by decide +kernel
theorem dX2_scoreOfWeight_53 : decode cX2_scoreOfWeight 53 = .ok (.aload_n 0, 1) := by decide +kernel
theorem dX2_scoreOfWeight_54 : decode cX2_scoreOfWeight 54 = .ok (.getfield 15, 3) := by decide +kernel
theorem dX2_scoreOfWeight_57 : decode cX2_scoreOfWeight 57 = .ok (.iload_n 1, 1) := by decide +kernel
theorem dX2_scoreOfWeight_58 : decode cX2_scoreOfWeight 58 = .ok (.iload 6, 2) := by decide +kernel
theorem dX2_scoreOfWeight_60 : decode cX2_scoreOfWeight 60 = .ok (.invokestatic 44, 3) := by decide +kernel
theorem dX2_scoreOfWeight_63 : decode cX2_scoreOfWeight 63 = .ok (.iaload, 1) := by decide +kernel
theorem dX2_scoreOfWeight_64 : decode cX2_scoreOfWeight 64 = .ok (.istore 7, 2) := by decide +kernel
theorem dX2_scoreOfWeight_66 : decode cX2_scoreOfWeight 66 = .ok (.iload 5, 2) := by decide +kernel
theorem dX2_scoreOfWeight_68 : decode cX2_scoreOfWeight 68 = .ok (.iload 7, 2) := by decide +kernel
theorem dX2_scoreOfWeight_70 : decode cX2_scoreOfWeight 70 = .ok (.imul, 1) := by decide +kernel
theorem dX2_scoreOfWeight_71 : decode cX2_scoreOfWeight 71 = .ok (.sipush 1000, 3) := by decide +kernel
theorem dX2_scoreOfWeight_74 : decode cX2_scoreOfWeight 74 = .ok (.idiv, 1) := by decide +kernel
theorem dX2_scoreOfWeight_75 : decode cX2_scoreOfWeight 75 = .ok (.istore 5, 2) := by decide +kernel
theorem dX2_scoreOfWeight_77 : decode cX2_scoreOfWeight 77 = .ok (.iinc 6 1, 3) := by decide +kernel
theorem dX2_scoreOfWeight_80 : decode cX2_scoreOfWeight 80 = .ok (.goto (-45), 3) := by decide +kernel
theorem dX2_scoreOfWeight_83 : decode cX2_scoreOfWeight 83 = .ok (.iload 5, 2) := by decide +kernel
theorem dX2_scoreOfWeight_85 : decode cX2_scoreOfWeight 85 = .ok (.ireturn, 1) := by decide +kernel
theorem dX2_rankAll_0 : decode cX2_rankAll 0 = .ok (.aload_n 0, 1) := by decide +kernel
theorem dX2_rankAll_1 : decode cX2_rankAll 1 = .ok (.iconst 0, 1) := by decide +kernel
theorem dX2_rankAll_2 : decode cX2_rankAll 2 = .ok (.putfield 66, 3) := by decide +kernel
theorem dX2_rankAll_5 : decode cX2_rankAll 5 = .ok (.iconst 0, 1) := by decide +kernel
theorem dX2_rankAll_6 : decode cX2_rankAll 6 = .ok (.istore_n 1, 1) := by decide +kernel
theorem dX2_rankAll_7 : decode cX2_rankAll 7 = .ok (.iload_n 1, 1) := by decide +kernel
theorem dX2_rankAll_8 : decode cX2_rankAll 8 = .ok (.aload_n 0, 1) := by decide +kernel
theorem dX2_rankAll_9 : decode cX2_rankAll 9 = .ok (.getfield 30, 3) := by decide +kernel
theorem dX2_rankAll_12 : decode cX2_rankAll 12 = .ok (.getfield 34, 3) := by decide +kernel
theorem dX2_rankAll_15 : decode cX2_rankAll 15 = .ok (.if_icmp .ge 30, 3) := by decide +kernel
theorem dX2_rankAll_18 : decode cX2_rankAll 18 = .ok (.aload_n 0, 1) := by decide +kernel
theorem dX2_rankAll_19 : decode cX2_rankAll 19 = .ok (.getfield 21, 3) := by decide +kernel
theorem dX2_rankAll_22 : decode cX2_rankAll 22 = .ok (.iload_n 1, 1) := by decide +kernel
theorem dX2_rankAll_23 : decode cX2_rankAll 23 = .ok (.iconst (-1), 1) := by decide +kernel
theorem dX2_rankAll_24 : decode cX2_rankAll 24 = .ok (.iastore, 1) := by decide +kernel
theorem dX2_rankAll_25 : decode cX2_rankAll 25 = .ok (.aload_n 0, 1) := by decide +kernel
theorem dX2_rankAll_26 : decode cX2_rankAll 26 = .ok (.getfield 18, 3) := by decide +kernel
theorem dX2_rankAll_29 : decode cX2_rankAll 29 = .ok (.iload_n 1, 1) := by decide +kernel
theorem dX2_rankAll_30 : decode cX2_rankAll 30 = .ok (.iaload, 1) := by decide +kernel
theorem dX2_rankAll_31 : decode cX2_rankAll 31 = .ok (.ifCond .le 8, 3) := by decide +kernel
theorem dX2_rankAll_34 : decode cX2_rankAll 34 = .ok (.aload_n 0, 1) := by decide +kernel
theorem dX2_rankAll_35 : decode cX2_rankAll 35 = .ok (.iload_n 1, 1) := by decide +kernel
theorem dX2_rankAll_36 : decode cX2_rankAll 36 = .ok (.invokevirtual 85, 3) := by decide +kernel
theorem dX2_rankAll_39 : decode cX2_rankAll 39 = .ok (.iinc 1 1, 3) := by decide +kernel
theorem dX2_rankAll_42 : decode cX2_rankAll 42 = .ok (.goto (-35), 3) := by decide +kernel
theorem dX2_rankAll_45 : decode cX2_rankAll 45 = .ok (.iconst 0, 1) := by decide +kernel
theorem dX2_rankAll_46 : decode cX2_rankAll 46 = .ok (.istore_n 1, 1) := by decide +kernel
theorem dX2_rankAll_47 : decode cX2_rankAll 47 = .ok (.iload_n 1, 1) := by decide +kernel
theorem dX2_rankAll_48 : decode cX2_rankAll 48 = .ok (.aload_n 0, 1) := by decide +kernel
theorem dX2_rankAll_49 : decode cX2_rankAll 49 = .ok (.getfield 66, 3) := by decide +kernel
theorem dX2_rankAll_52 : decode cX2_rankAll 52 = .ok (.if_icmp .ge 21, 3) := by decide +kernel
theorem dX2_rankAll_55 : decode cX2_rankAll 55 = .ok (.aload_n 0, 1) := by decide +kernel
theorem dX2_rankAll_56 : decode cX2_rankAll 56 = .ok (.getfield 21, 3) := by decide +kernel
theorem dX2_rankAll_59 : decode cX2_rankAll 59 = .ok (.aload_n 0, 1) := by decide +kernel
theorem dX2_rankAll_60 : decode cX2_rankAll 60 = .ok (.getfield 24, 3) := by decide +kernel
theorem dX2_rankAll_63 : decode cX2_rankAll 63 = .ok (.iload_n 1, 1) := by decide +kernel
theorem dX2_rankAll_64 : decode cX2_rankAll 64 = .ok (.iaload, 1) := by decide +kernel
theorem dX2_rankAll_65 : decode cX2_rankAll 65 = .ok (.iload_n 1, 1) := by decide +kernel
theorem dX2_rankAll_66 : decode cX2_rankAll 66 = .ok (.iastore, 1) := by decide +kernel
theorem dX2_rankAll_67 : decode cX2_rankAll 67 = .ok (.iinc 1 1, 3) := by decide +kernel
theorem dX2_rankAll_70 : decode cX2_rankAll 70 = .ok (.goto (-23), 3) := by decide +kernel
theorem dX2_rankAll_73 : decode cX2_rankAll 73 = .ok (.return_, 1) := by decide +kernel
theorem dX2_rankOne_0 : decode cX2_rankOne 0 = .ok (.aload_n 0, 1) := by decide +kernel
theorem dX2_rankOne_1 : decode cX2_rankOne 1 = .ok (.getfield 18, 3) := by decide +kernel
theorem dX2_rankOne_4 : decode cX2_rankOne 4 = .ok (.iload_n 1, 1) := by decide +kernel
theorem dX2_rankOne_5 : decode cX2_rankOne 5 = .ok (.iaload, 1) := by decide +kernel
theorem dX2_rankOne_6 : decode cX2_rankOne 6 = .ok (.istore_n 2, 1) := by decide +kernel
theorem dX2_rankOne_7 : decode cX2_rankOne 7 = .ok (.aload_n 0, 1) := by decide +kernel
theorem dX2_rankOne_8 : decode cX2_rankOne 8 = .ok (.getfield 30, 3) := by decide +kernel
theorem dX2_rankOne_11 : decode cX2_rankOne 11 = .ok (.getfield 51, 3) := by decide +kernel
theorem dX2_rankOne_14 : decode cX2_rankOne 14 = .ok (.iload_n 1, 1) := by decide +kernel
theorem dX2_rankOne_15 : decode cX2_rankOne 15 = .ok (.iaload, 1) := by decide +kernel
theorem dX2_rankOne_16 : decode cX2_rankOne 16 = .ok (.istore_n 3, 1) := by decide +kernel
theorem dX2_rankOne_17 : decode cX2_rankOne 17 = .ok (.aload_n 0, 1) := by decide +kernel
theorem dX2_rankOne_18 : decode cX2_rankOne 18 = .ok (.getfield 66, 3) := by decide +kernel
theorem dX2_rankOne_21 : decode cX2_rankOne 21 = .ok (.istore 4, 2) := by decide +kernel
theorem dX2_rankOne_23 : decode cX2_rankOne 23 = .ok (.iload 4, 2) := by decide +kernel
theorem dX2_rankOne_25 : decode cX2_rankOne 25 = .ok (.ifCond .le 58, 3) := by decide +kernel
theorem dX2_rankOne_28 : decode cX2_rankOne 28 = .ok (.aload_n 0, 1) := by decide +kernel
theorem dX2_rankOne_29 : decode cX2_rankOne 29 = .ok (.aload_n 0, 1) := by decide +kernel
theorem dX2_rankOne_30 : decode cX2_rankOne 30 = .ok (.getfield 24, 3) := by decide +kernel
theorem dX2_rankOne_33 : decode cX2_rankOne 33 = .ok (.iload 4, 2) := by decide +kernel
theorem dX2_rankOne_35 : decode cX2_rankOne 35 = .ok (.iconst 1, 1) := by decide +kernel
theorem dX2_rankOne_36 : decode cX2_rankOne 36 = .ok (.isub, 1) := by decide +kernel
theorem dX2_rankOne_37 : decode cX2_rankOne 37 = .ok (.iaload, 1) := by decide +kernel
theorem dX2_rankOne_38 : decode cX2_rankOne 38 = .ok (.aload_n 0, 1) := by decide +kernel
theorem dX2_rankOne_39 : decode cX2_rankOne 39 = .ok (.getfield 18, 3) := by decide +kernel
theorem dX2_rankOne_42 : decode cX2_rankOne 42 = .ok (.aload_n 0, 1) := by decide +kernel
theorem dX2_rankOne_43 : decode cX2_rankOne 43 = .ok (.getfield 24, 3) := by decide +kernel
theorem dX2_rankOne_46 : decode cX2_rankOne 46 = .ok (.iload 4, 2) := by decide +kernel
theorem dX2_rankOne_48 : decode cX2_rankOne 48 = .ok (.iconst 1, 1) := by decide +kernel
theorem dX2_rankOne_49 : decode cX2_rankOne 49 = .ok (.isub, 1) := by decide +kernel
theorem dX2_rankOne_50 : decode cX2_rankOne 50 = .ok (.iaload, 1) := by decide +kernel
theorem dX2_rankOne_51 : decode cX2_rankOne 51 = .ok (.iaload, 1) := by decide +kernel
theorem dX2_rankOne_52 : decode cX2_rankOne 52 = .ok (.iload_n 1, 1) := by decide +kernel
theorem dX2_rankOne_53 : decode cX2_rankOne 53 = .ok (.iload_n 2, 1) := by decide +kernel
theorem dX2_rankOne_54 : decode cX2_rankOne 54 = .ok (.iload_n 3, 1) := by decide +kernel
theorem dX2_rankOne_55 : decode cX2_rankOne 55 = .ok (.invokevirtual 81, 3) := by decide +kernel
theorem dX2_rankOne_58 : decode cX2_rankOne 58 = .ok (.ifCond .ne 25, 3) := by decide +kernel
theorem dX2_rankOne_61 : decode cX2_rankOne 61 = .ok (.aload_n 0, 1) := by decide +kernel
theorem dX2_rankOne_62 : decode cX2_rankOne 62 = .ok (.getfield 24, 3) := by decide +kernel
theorem dX2_rankOne_65 : decode cX2_rankOne 65 = .ok (.iload 4, 2) := by decide +kernel
theorem dX2_rankOne_67 : decode cX2_rankOne 67 = .ok (.aload_n 0, 1) := by decide +kernel
theorem dX2_rankOne_68 : decode cX2_rankOne 68 = .ok (.getfield 24, 3) := by decide +kernel
theorem dX2_rankOne_71 : decode cX2_rankOne 71 = .ok (.iload 4, 2) := by decide +kernel
theorem dX2_rankOne_73 : decode cX2_rankOne 73 = .ok (.iconst 1, 1) := by decide +kernel
theorem dX2_rankOne_74 : decode cX2_rankOne 74 = .ok (.isub, 1) := by decide +kernel
theorem dX2_rankOne_75 : decode cX2_rankOne 75 = .ok (.iaload, 1) := by decide +kernel
theorem dX2_rankOne_76 : decode cX2_rankOne 76 = .ok (.iastore, 1) := by decide +kernel
theorem dX2_rankOne_77 : decode cX2_rankOne 77 = .ok (.iinc 4 (-1), 3) := by decide +kernel
theorem dX2_rankOne_80 : decode cX2_rankOne 80 = .ok (.goto (-57), 3) := by decide +kernel
theorem dX2_rankOne_83 : decode cX2_rankOne 83 = .ok (.aload_n 0, 1) := by decide +kernel
theorem dX2_rankOne_84 : decode cX2_rankOne 84 = .ok (.getfield 24, 3) := by decide +kernel
theorem dX2_rankOne_87 : decode cX2_rankOne 87 = .ok (.iload 4, 2) := by decide +kernel
theorem dX2_rankOne_89 : decode cX2_rankOne 89 = .ok (.iload_n 1, 1) := by decide +kernel
theorem dX2_rankOne_90 : decode cX2_rankOne 90 = .ok (.iastore, 1) := by decide +kernel
theorem dX2_rankOne_91 : decode cX2_rankOne 91 = .ok (.aload_n 0, 1) := by decide +kernel
theorem dX2_rankOne_92 : decode cX2_rankOne 92 = .ok (.dup, 1) := by decide +kernel
theorem dX2_rankOne_93 : decode cX2_rankOne 93 = .ok (.getfield 66, 3) := by decide +kernel
theorem dX2_rankOne_96 : decode cX2_rankOne 96 = .ok (.iconst 1, 1) := by decide +kernel
theorem dX2_rankOne_97 : decode cX2_rankOne 97 = .ok (.iadd, 1) := by decide +kernel
theorem dX2_rankOne_98 : decode cX2_rankOne 98 = .ok (.putfield 66, 3) := by decide +kernel
theorem dX2_rankOne_101 : decode cX2_rankOne 101 = .ok (.return_, 1) := by decide +kernel
theorem dX2_isAhead_0 : decode cX2_isAhead 0 = .ok (.iload_n 2, 1) := by decide +kernel
theorem dX2_isAhead_1 : decode cX2_isAhead 1 = .ok (.iload 4, 2) := by decide +kernel
theorem dX2_isAhead_3 : decode cX2_isAhead 3 = .ok (.if_icmp .eq 15, 3) := by decide +kernel
theorem dX2_isAhead_6 : decode cX2_isAhead 6 = .ok (.iload_n 2, 1) := by decide +kernel
theorem dX2_isAhead_7 : decode cX2_isAhead 7 = .ok (.iload 4, 2) := by decide +kernel
theorem dX2_isAhead_9 : decode cX2_isAhead 9 = .ok (.if_icmp .le 7, 3) := by decide +kernel
theorem dX2_isAhead_12 : decode cX2_isAhead 12 = .ok (.iconst 1, 1) := by decide +kernel
theorem dX2_isAhead_13 : decode cX2_isAhead 13 = .ok (.goto 4, 3) := by decide +kernel
theorem dX2_isAhead_16 : decode cX2_isAhead 16 = .ok (.iconst 0, 1) := by decide +kernel
theorem dX2_isAhead_17 : decode cX2_isAhead 17 = .ok (.ireturn, 1) := by decide +kernel
theorem dX2_isAhead_18 : decode cX2_isAhead 18 = .ok (.iconst 0, 1) := by decide +kernel
theorem dX2_isAhead_19 : decode cX2_isAhead 19 = .ok (.istore 6, 2) := by decide +kernel
theorem dX2_isAhead_21 : decode cX2_isAhead 21 = .ok (.iload 6, 2) := by decide +kernel
theorem dX2_isAhead_23 : decode cX2_isAhead 23 = .ok (.iconst 3, 1) := by decide +kernel
theorem dX2_isAhead_24 : decode cX2_isAhead 24 = .ok (.if_icmp .ge 87, 3) := by decide +kernel
theorem dX2_isAhead_27 : decode cX2_isAhead 27 = .ok (.aload_n 0, 1) := by decide +kernel
theorem dX2_isAhead_28 : decode cX2_isAhead 28 = .ok (.getfield 30, 3) := by decide +kernel
theorem dX2_isAhead_31 : decode cX2_isAhead 31 = .ok (.getfield 57, 3) := by decide +kernel
theorem dX2_isAhead_34 : decode cX2_isAhead 34 = .ok (.iload 6, 2) := by decide +kernel
theorem dX2_isAhead_36 : decode cX2_isAhead 36 = .ok (.iaload, 1) := by decide +kernel
theorem dX2_isAhead_37 : decode cX2_isAhead 37 = .ok (.iconst 5, 1) := by decide +kernel
theorem dX2_isAhead_38 : decode cX2_isAhead 38 = .ok (.if_icmp .ne 7, 3) := by decide +kernel
theorem dX2_isAhead_41 : decode cX2_isAhead 41 = .ok (.iconst 1, 1) := by decide +kernel
theorem dX2_isAhead_42 : decode cX2_isAhead 42 = .ok (.goto 4, 3) := by decide +kernel
theorem dX2_isAhead_45 : decode cX2_isAhead 45 = .ok (.iconst 0, 1) := by decide +kernel
theorem dX2_isAhead_46 : decode cX2_isAhead 46 = .ok (.istore 7, 2) := by decide +kernel
theorem dX2_isAhead_48 : decode cX2_isAhead 48 = .ok (.aload_n 0, 1) := by decide +kernel
theorem dX2_isAhead_49 : decode cX2_isAhead 49 = .ok (.getfield 27, 3) := by decide +kernel
theorem dX2_isAhead_52 : decode cX2_isAhead 52 = .ok (.iload_n 1, 1) := by decide +kernel
theorem dX2_isAhead_53 : decode cX2_isAhead 53 = .ok (.iconst 3, 1) := by decide +kernel
theorem dX2_isAhead_54 : decode cX2_isAhead 54 = .ok (.imul, 1) := by decide +kernel
theorem dX2_isAhead_55 : decode cX2_isAhead 55 = .ok (.iload 6, 2) := by decide +kernel
theorem dX2_isAhead_57 : decode cX2_isAhead 57 = .ok (.iadd, 1) := by decide +kernel
theorem dX2_isAhead_58 : decode cX2_isAhead 58 = .ok (.iaload, 1) := by decide +kernel
theorem dX2_isAhead_59 : decode cX2_isAhead 59 = .ok (.istore 8, 2) := by decide +kernel
theorem dX2_isAhead_61 : decode cX2_isAhead 61 = .ok (.iload 7, 2) := by decide +kernel
theorem dX2_isAhead_63 : decode cX2_isAhead 63 = .ok (.ifCond .eq 9, 3) := by decide +kernel
theorem dX2_isAhead_66 : decode cX2_isAhead 66 = .ok (.iload 5, 2) := by decide +kernel
theorem dX2_isAhead_68 : decode cX2_isAhead 68 = .ok (.ineg, 1) := by decide +kernel
theorem dX2_isAhead_69 : decode cX2_isAhead 69 = .ok (.goto 14, 3) := by decide +kernel
theorem dX2_isAhead_72 : decode cX2_isAhead 72 = .ok (.aload_n 0, 1) := by decide +kernel
theorem dX2_isAhead_73 : decode cX2_isAhead 73 = .ok (.getfield 27, 3) := by decide +kernel
theorem dX2_isAhead_76 : decode cX2_isAhead 76 = .ok (.iload_n 3, 1) := by decide +kernel
theorem dX2_isAhead_77 : decode cX2_isAhead 77 = .ok (.iconst 3, 1) := by decide +kernel
theorem dX2_isAhead_78 : decode cX2_isAhead 78 = .ok (.imul, 1) := by decide +kernel
theorem dX2_isAhead_79 : decode cX2_isAhead 79 = .ok (.iload 6, 2) := by decide +kernel
theorem dX2_isAhead_81 : decode cX2_isAhead 81 = .ok (.iadd, 1) := by decide +kernel
theorem dX2_isAhead_82 : decode cX2_isAhead 82 = .ok (.iaload, 1) := by decide +kernel
theorem dX2_isAhead_83 : decode cX2_isAhead 83 = .ok (.istore 9, 2) := by decide +kernel
theorem dX2_isAhead_85 : decode cX2_isAhead 85 = .ok (.iload 8, 2) := by decide +kernel
theorem dX2_isAhead_87 : decode cX2_isAhead 87 = .ok (.iload 9, 2) := by decide +kernel
theorem dX2_isAhead_89 : decode cX2_isAhead 89 = .ok (.if_icmp .eq 16, 3) := by decide +kernel
theorem dX2_isAhead_92 : decode cX2_isAhead 92 = .ok (.iload 8, 2) := by decide +kernel
theorem dX2_isAhead_94 : decode cX2_isAhead 94 = .ok (.iload 9, 2) := by decide +kernel
theorem dX2_isAhead_96 : decode cX2_isAhead 96 = .ok (.if_icmp .ge 7, 3) := by decide +kernel
theorem dX2_isAhead_99 : decode cX2_isAhead 99 = .ok (.iconst 1, 1) := by decide +kernel
theorem dX2_isAhead_100 : decode cX2_isAhead 100 = .ok (.goto 4, 3) := by decide +kernel
theorem dX2_isAhead_103 : decode cX2_isAhead 103 = .ok (.iconst 0, 1) := by decide +kernel
theorem dX2_isAhead_104 : decode cX2_isAhead 104 = .ok (.ireturn, 1) := by decide +kernel
theorem dX2_isAhead_105 : decode cX2_isAhead 105 = .ok (.iinc 6 1, 3) := by decide +kernel
theorem dX2_isAhead_108 : decode cX2_isAhead 108 = .ok (.goto (-87), 3) := by decide +kernel
theorem dX2_isAhead_111 : decode cX2_isAhead 111 = .ok (.iload_n 1, 1) := by decide +kernel
theorem dX2_isAhead_112 : decode cX2_isAhead 112 = .ok (.iload_n 3, 1) := by decide +kernel
theorem dX2_isAhead_113 : decode cX2_isAhead 113 = .ok (.if_icmp .ge 7, 3) := by decide +kernel
theorem dX2_isAhead_116 : decode cX2_isAhead 116 = .ok (.iconst 1, 1) := by decide +kernel
theorem dX2_isAhead_117 : decode cX2_isAhead 117 = .ok (.goto 4, 3) := by decide +kernel
theorem dX2_isAhead_120 : decode cX2_isAhead 120 = .ok (.iconst 0, 1) := by decide +kernel
theorem dX2_isAhead_121 : decode cX2_isAhead 121 = .ok (.ireturn, 1) := by decide +kernel
theorem dX2_tieRank_0 : decode cX2_tieRank 0 = .ok (.iload_n 1, 1) := by decide +kernel
theorem dX2_tieRank_1 : decode cX2_tieRank 1 = .ok (.tableswitch 81 1 5 #[35, 45, 56, 63, 70], 35) := by decide +kernel
theorem dX2_tieRank_36 : decode cX2_tieRank 36 = .ok (.aload_n 0, 1) := by decide +kernel
theorem dX2_tieRank_37 : decode cX2_tieRank 37 = .ok (.getfield 30, 3) := by decide +kernel
theorem dX2_tieRank_40 : decode cX2_tieRank 40 = .ok (.getfield 89, 3) := by decide +kernel
theorem dX2_tieRank_43 : decode cX2_tieRank 43 = .ok (.iload_n 2, 1) := by decide +kernel
theorem dX2_tieRank_44 : decode cX2_tieRank 44 = .ok (.iaload, 1) := by decide +kernel
theorem dX2_tieRank_45 : decode cX2_tieRank 45 = .ok (.ireturn, 1) := by decide +kernel
theorem dX2_tieRank_46 : decode cX2_tieRank 46 = .ok (.aload_n 0, 1) := by decide +kernel
theorem dX2_tieRank_47 : decode cX2_tieRank 47 = .ok (.getfield 30, 3) := by decide +kernel
theorem dX2_tieRank_50 : decode cX2_tieRank 50 = .ok (.getfield 89, 3) := by decide +kernel
theorem dX2_tieRank_53 : decode cX2_tieRank 53 = .ok (.iload_n 2, 1) := by decide +kernel
theorem dX2_tieRank_54 : decode cX2_tieRank 54 = .ok (.iaload, 1) := by decide +kernel
theorem dX2_tieRank_55 : decode cX2_tieRank 55 = .ok (.ineg, 1) := by decide +kernel
theorem dX2_tieRank_56 : decode cX2_tieRank 56 = .ok (.ireturn, 1) := by decide +kernel
theorem dX2_tieRank_57 : decode cX2_tieRank 57 = .ok (.aload_n 0, 1) := by decide +kernel
theorem dX2_tieRank_58 : decode cX2_tieRank 58 = .ok (.iload_n 2, 1) := by decide +kernel
theorem dX2_tieRank_59 : decode cX2_tieRank 59 = .ok (.iconst 0, 1) := by decide +kernel
theorem dX2_tieRank_60 : decode cX2_tieRank 60 = .ok (.invokevirtual 92, 3) := by decide +kernel
theorem dX2_tieRank_63 : decode cX2_tieRank 63 = .ok (.ireturn, 1) := by decide +kernel
theorem dX2_tieRank_64 : decode cX2_tieRank 64 = .ok (.aload_n 0, 1) := by decide +kernel
theorem dX2_tieRank_65 : decode cX2_tieRank 65 = .ok (.iload_n 2, 1) := by decide +kernel
theorem dX2_tieRank_66 : decode cX2_tieRank 66 = .ok (.iconst 1, 1) := by decide +kernel
theorem dX2_tieRank_67 : decode cX2_tieRank 67 = .ok (.invokevirtual 92, 3) := by decide +kernel
theorem dX2_tieRank_70 : decode cX2_tieRank 70 = .ok (.ireturn, 1) := by decide +kernel
theorem dX2_tieRank_71 : decode cX2_tieRank 71 = .ok (.aload_n 0, 1) := by decide +kernel
theorem dX2_tieRank_72 : decode cX2_tieRank 72 = .ok (.getfield 30, 3) := by decide +kernel
theorem dX2_tieRank_75 : decode cX2_tieRank 75 = .ok (.getfield 51, 3) := by decide +kernel
theorem dX2_tieRank_78 : decode cX2_tieRank 78 = .ok (.iload_n 2, 1) := by decide +kernel
theorem dX2_tieRank_79 : decode cX2_tieRank 79 = .ok (.iaload, 1) := by decide +kernel
theorem dX2_tieRank_80 : decode cX2_tieRank 80 = .ok (.ineg, 1) := by decide +kernel
theorem dX2_tieRank_81 : decode cX2_tieRank 81 = .ok (.ireturn, 1) := by decide +kernel
theorem dX2_tieRank_82 : decode cX2_tieRank 82 = .ok (.iconst 0, 1) := by decide +kernel
theorem dX2_tieRank_83 : decode cX2_tieRank 83 = .ok (.ireturn, 1) := by decide +kernel
theorem dX2_placeRank_0 : decode cX2_placeRank 0 = .ok (.aload_n 0, 1) := by decide +kernel
theorem dX2_placeRank_1 : decode cX2_placeRank 1 = .ok (.getfield 9, 3) := by decide +kernel
theorem dX2_placeRank_4 : decode cX2_placeRank 4 = .ok (.iload_n 1, 1) := by decide +kernel
theorem dX2_placeRank_5 : decode cX2_placeRank 5 = .ok (.iconst 0, 1) := by decide +kernel
theorem dX2_placeRank_6 : decode cX2_placeRank 6 = .ok (.iload_n 2, 1) := by decide +kernel
theorem dX2_placeRank_7 : decode cX2_placeRank 7 = .ok (.invokestatic 95, 3) := by decide +kernel
theorem dX2_placeRank_10 : decode cX2_placeRank 10 = .ok (.invokestatic 44, 3) := by decide +kernel
theorem dX2_placeRank_13 : decode cX2_placeRank 13 = .ok (.iaload, 1) := by decide +kernel
theorem dX2_placeRank_14 : decode cX2_placeRank 14 = .ok (.istore_n 3, 1) := by decide +kernel
theorem dX2_placeRank_15 : decode cX2_placeRank 15 = .ok (.iload_n 3, 1) := by decide +kernel
theorem dX2_placeRank_16 : decode cX2_placeRank 16 = .ok (.iconst (-1), 1) := by decide +kernel
theorem dX2_placeRank_17 : decode cX2_placeRank 17 = .ok (.if_icmp .ne 8, 3) := by decide +kernel
theorem dX2_placeRank_20 : decode cX2_placeRank 20 = .ok (.bipush 100, 2) := by decide +kernel
theorem dX2_placeRank_22 : decode cX2_placeRank 22 = .ok (.goto 4, 3) := by decide +kernel
theorem dX2_placeRank_25 : decode cX2_placeRank 25 = .ok (.iload_n 3, 1) := by decide +kernel
theorem dX2_placeRank_26 : decode cX2_placeRank 26 = .ok (.ireturn, 1) := by decide +kernel
theorem dX3_init_0 : decode cX3_init 0 = .ok (.aload_n 0, 1) := by decide +kernel
theorem dX3_init_1 : decode cX3_init 1 = .ok (.invokespecial 3, 3) := by decide +kernel
theorem dX3_init_4 : decode cX3_init 4 = .ok (.aload_n 0, 1) := by decide +kernel
theorem dX3_init_5 : decode cX3_init 5 = .ok (.bipush 48, 2) := by decide +kernel
theorem dX3_init_7 : decode cX3_init 7 = .ok (.newarray .long, 2) := by decide +kernel
theorem dX3_init_9 : decode cX3_init 9 = .ok (.putfield 9, 3) := by decide +kernel
theorem dX3_init_12 : decode cX3_init 12 = .ok (.aload_n 0, 1) := by decide +kernel
theorem dX3_init_13 : decode cX3_init 13 = .ok (.bipush 16, 2) := by decide +kernel
theorem dX3_init_15 : decode cX3_init 15 = .ok (.newarray .int, 2) := by decide +kernel
theorem dX3_init_17 : decode cX3_init 17 = .ok (.putfield 15, 3) := by decide +kernel
theorem dX3_init_20 : decode cX3_init 20 = .ok (.aload_n 0, 1) := by decide +kernel
theorem dX3_init_21 : decode cX3_init 21 = .ok (.bipush 16, 2) := by decide +kernel
theorem dX3_init_23 : decode cX3_init 23 = .ok (.newarray .int, 2) := by decide +kernel
theorem dX3_init_25 : decode cX3_init 25 = .ok (.putfield 19, 3) := by decide +kernel
theorem dX3_init_28 : decode cX3_init 28 = .ok (.aload_n 0, 1) := by decide +kernel
theorem dX3_init_29 : decode cX3_init 29 = .ok (.bipush 6, 2) := by decide +kernel
theorem dX3_init_31 : decode cX3_init 31 = .ok (.newarray .int, 2) := by decide +kernel
theorem dX3_init_33 : decode cX3_init 33 = .ok (.putfield 22, 3) := by decide +kernel
theorem dX3_init_36 : decode cX3_init 36 = .ok (.aload_n 0, 1) := by decide +kernel
theorem dX3_init_37 : decode cX3_init 37 = .ok (.bipush 60, 2) := by decide +kernel
theorem dX3_init_39 : decode cX3_init 39 = .ok (.newarray .long, 2) := by decide +kernel
theorem dX3_init_41 : decode cX3_init 41 = .ok (.putfield 25, 3) := by decide +kernel
theorem dX3_init_44 : decode cX3_init 44 = .ok (.aload_n 0, 1) := by decide +kernel
theorem dX3_init_45 : decode cX3_init 45 = .ok (.bipush 60, 2) := by decide +kernel
theorem dX3_init_47 : decode cX3_init 47 = .ok (.newarray .int, 2) := by decide +kernel
theorem dX3_init_49 : decode cX3_init 49 = .ok (.putfield 28, 3) := by decide +kernel
theorem dX3_init_52 : decode cX3_init 52 = .ok (.aload_n 0, 1) := by decide +kernel
theorem dX3_init_53 : decode cX3_init 53 = .ok (.bipush 60, 2) := by decide +kernel
theorem dX3_init_55 : decode cX3_init 55 = .ok (.newarray .int, 2) := by decide +kernel
theorem dX3_init_57 : decode cX3_init 57 = .ok (.putfield 31, 3) := by decide +kernel
theorem dX3_init_60 : decode cX3_init 60 = .ok (.aload_n 0, 1) := by decide +kernel
theorem dX3_init_61 : decode cX3_init 61 = .ok (.iconst 3, 1) := by decide +kernel
theorem dX3_init_62 : decode cX3_init 62 = .ok (.newarray .int, 2) := by decide +kernel
theorem dX3_init_64 : decode cX3_init 64 = .ok (.dup, 1) := by decide +kernel
theorem dX3_init_65 : decode cX3_init 65 = .ok (.iconst 0, 1) := by decide +kernel
theorem dX3_init_66 : decode cX3_init 66 = .ok (.iconst 1, 1) := by decide +kernel
theorem dX3_init_67 : decode cX3_init 67 = .ok (.iastore, 1) := by decide +kernel
theorem dX3_init_68 : decode cX3_init 68 = .ok (.dup, 1) := by decide +kernel
theorem dX3_init_69 : decode cX3_init 69 = .ok (.iconst 1, 1) := by decide +kernel
theorem dX3_init_70 : decode cX3_init 70 = .ok (.iconst 0, 1) := by decide +kernel
theorem dX3_init_71 : decode cX3_init 71 = .ok (.iastore, 1) := by decide +kernel
theorem dX3_init_72 : decode cX3_init 72 = .ok (.dup, 1) := by decide +kernel
theorem dX3_init_73 : decode cX3_init 73 = .ok (.iconst 2, 1) := by decide +kernel
theorem dX3_init_74 : decode cX3_init 74 = .ok (.iconst 0, 1) := by decide +kernel
theorem dX3_init_75 : decode cX3_init 75 = .ok (.iastore, 1) := by decide +kernel
theorem dX3_init_76 : decode cX3_init 76 = .ok (.putfield 34, 3) := by decide +kernel
theorem dX3_init_79 : decode cX3_init 79 = .ok (.return_, 1) := by decide +kernel
theorem dX3_copyFrom_0 : decode cX3_copyFrom 0 = .ok (.aload_n 0, 1) := by decide +kernel
theorem dX3_copyFrom_1 : decode cX3_copyFrom 1 = .ok (.aload_n 1, 1) := by decide +kernel
theorem dX3_copyFrom_2 : decode cX3_copyFrom 2 = .ok (.getfield 37, 3) := by decide +kernel
theorem dX3_copyFrom_5 : decode cX3_copyFrom 5 = .ok (.putfield 37, 3) := by decide +kernel
theorem dX3_copyFrom_8 : decode cX3_copyFrom 8 = .ok (.aload_n 1, 1) := by decide +kernel
theorem dX3_copyFrom_9 : decode cX3_copyFrom 9 = .ok (.getfield 9, 3) := by decide +kernel
theorem dX3_copyFrom_12 : decode cX3_copyFrom 12 = .ok (.iconst 0, 1) := by decide +kernel
theorem dX3_copyFrom_13 : decode cX3_copyFrom 13 = .ok (.aload_n 0, 1) := by decide +kernel
theorem dX3_copyFrom_14 : decode cX3_copyFrom 14 = .ok (.getfield 9, 3) := by decide +kernel
theorem dX3_copyFrom_17 : decode cX3_copyFrom 17 = .ok (.iconst 0, 1) := by decide +kernel
theorem dX3_copyFrom_18 : decode cX3_copyFrom 18 = .ok (.bipush 48, 2) := by decide +kernel
theorem dX3_copyFrom_20 : decode cX3_copyFrom 20 = .ok (.invokestatic 41, 3) := by decide +kernel
theorem dX3_copyFrom_23 : decode cX3_copyFrom 23 = .ok (.aload_n 1, 1) := by decide +kernel
theorem dX3_copyFrom_24 : decode cX3_copyFrom 24 = .ok (.getfield 15, 3) := by decide +kernel
theorem dX3_copyFrom_27 : decode cX3_copyFrom 27 = .ok (.iconst 0, 1) := by decide +kernel
theorem dX3_copyFrom_28 : decode cX3_copyFrom 28 = .ok (.aload_n 0, 1) := by decide +kernel
theorem dX3_copyFrom_29 : decode cX3_copyFrom 29 = .ok (.getfield 15, 3) := by decide +kernel
theorem dX3_copyFrom_32 : decode cX3_copyFrom 32 = .ok (.iconst 0, 1) := by decide +kernel
theorem dX3_copyFrom_33 : decode cX3_copyFrom 33 = .ok (.bipush 16, 2) := by decide +kernel
theorem dX3_copyFrom_35 : decode cX3_copyFrom 35 = .ok (.invokestatic 41, 3) := by decide +kernel
theorem dX3_copyFrom_38 : decode cX3_copyFrom 38 = .ok (.aload_n 1, 1) := by decide +kernel
theorem dX3_copyFrom_39 : decode cX3_copyFrom 39 = .ok (.getfield 19, 3) := by decide +kernel
theorem dX3_copyFrom_42 : decode cX3_copyFrom 42 = .ok (.iconst 0, 1) := by decide +kernel
theorem dX3_copyFrom_43 : decode cX3_copyFrom 43 = .ok (.aload_n 0, 1) := by decide +kernel
theorem dX3_copyFrom_44 : decode cX3_copyFrom 44 = .ok (.getfield 19, 3) := by decide +kernel
theorem dX3_copyFrom_47 : decode cX3_copyFrom 47 = .ok (.iconst 0, 1) := by decide +kernel
theorem dX3_copyFrom_48 : decode cX3_copyFrom 48 = .ok (.bipush 16, 2) := by decide +kernel
theorem dX3_copyFrom_50 : decode cX3_copyFrom 50 = .ok (.invokestatic 41, 3) := by decide +kernel
theorem dX3_copyFrom_53 : decode cX3_copyFrom 53 = .ok (.aload_n 1, 1) := by decide +kernel
theorem dX3_copyFrom_54 : decode cX3_copyFrom 54 = .ok (.getfield 22, 3) := by decide +kernel
theorem dX3_copyFrom_57 : decode cX3_copyFrom 57 = .ok (.iconst 0, 1) := by decide +kernel
theorem dX3_copyFrom_58 : decode cX3_copyFrom 58 = .ok (.aload_n 0, 1) := by decide +kernel
theorem dX3_copyFrom_59 : decode cX3_copyFrom 59 = .ok (.getfield 22, 3) := by decide +kernel
theorem dX3_copyFrom_62 : decode cX3_copyFrom 62 = .ok (.iconst 0, 1) := by decide +kernel
theorem dX3_copyFrom_63 : decode cX3_copyFrom 63 = .ok (.bipush 6, 2) := by decide +kernel
theorem dX3_copyFrom_65 : decode cX3_copyFrom 65 = .ok (.invokestatic 41, 3) := by decide +kernel
theorem dX3_copyFrom_68 : decode cX3_copyFrom 68 = .ok (.aload_n 1, 1) := by decide +kernel
theorem dX3_copyFrom_69 : decode cX3_copyFrom 69 = .ok (.getfield 25, 3) := by decide +kernel
theorem dX3_copyFrom_72 : decode cX3_copyFrom 72 = .ok (.iconst 0, 1) := by decide +kernel
theorem dX3_copyFrom_73 : decode cX3_copyFrom 73 = .ok (.aload_n 0, 1) := by decide +kernel
theorem dX3_copyFrom_74 : decode cX3_copyFrom 74 = .ok (.getfield 25, 3) := by decide +kernel
theorem dX3_copyFrom_77 : decode cX3_copyFrom 77 = .ok (.iconst 0, 1) := by decide +kernel
theorem dX3_copyFrom_78 : decode cX3_copyFrom 78 = .ok (.bipush 60, 2) := by decide +kernel
theorem dX3_copyFrom_80 : decode cX3_copyFrom 80 = .ok (.invokestatic 41, 3) := by decide +kernel
theorem dX3_copyFrom_83 : decode cX3_copyFrom 83 = .ok (.aload_n 1, 1) := by decide +kernel
theorem dX3_copyFrom_84 : decode cX3_copyFrom 84 = .ok (.getfield 28, 3) := by decide +kernel
theorem dX3_copyFrom_87 : decode cX3_copyFrom 87 = .ok (.iconst 0, 1) := by decide +kernel
theorem dX3_copyFrom_88 : decode cX3_copyFrom 88 = .ok (.aload_n 0, 1) := by decide +kernel
theorem dX3_copyFrom_89 : decode cX3_copyFrom 89 = .ok (.getfield 28, 3) := by decide +kernel
theorem dX3_copyFrom_92 : decode cX3_copyFrom 92 = .ok (.iconst 0, 1) := by decide +kernel
theorem dX3_copyFrom_93 : decode cX3_copyFrom 93 = .ok (.bipush 60, 2) := by decide +kernel
theorem dX3_copyFrom_95 : decode cX3_copyFrom 95 = .ok (.invokestatic 41, 3) := by decide +kernel
theorem dX3_copyFrom_98 : decode cX3_copyFrom 98 = .ok (.aload_n 1, 1) := by decide +kernel
theorem dX3_copyFrom_99 : decode cX3_copyFrom 99 = .ok (.getfield 31, 3) := by decide +kernel
theorem dX3_copyFrom_102 : decode cX3_copyFrom 102 = .ok (.iconst 0, 1) := by decide +kernel
theorem dX3_copyFrom_103 : decode cX3_copyFrom 103 = .ok (.aload_n 0, 1) := by decide +kernel
theorem dX3_copyFrom_104 : decode cX3_copyFrom 104 = .ok (.getfield 31, 3) := by decide +kernel
theorem dX3_copyFrom_107 : decode cX3_copyFrom 107 = .ok (.iconst 0, 1) := by decide +kernel
theorem dX3_copyFrom_108 : decode cX3_copyFrom 108 = .ok (.bipush 60, 2) := by decide +kernel
theorem dX3_copyFrom_110 : decode cX3_copyFrom 110 = .ok (.invokestatic 41, 3) := by decide +kernel
theorem dX3_copyFrom_113 : decode cX3_copyFrom 113 = .ok (.aload_n 1, 1) := by decide +kernel
theorem dX3_copyFrom_114 : decode cX3_copyFrom 114 = .ok (.getfield 34, 3) := by decide +kernel
theorem dX3_copyFrom_117 : decode cX3_copyFrom 117 = .ok (.iconst 0, 1) := by decide +kernel
theorem dX3_copyFrom_118 : decode cX3_copyFrom 118 = .ok (.aload_n 0, 1) := by decide +kernel
theorem dX3_copyFrom_119 : decode cX3_copyFrom 119 = .ok (.getfield 34, 3) := by decide +kernel
theorem dX3_copyFrom_122 : decode cX3_copyFrom 122 = .ok (.iconst 0, 1) := by decide +kernel
theorem dX3_copyFrom_123 : decode cX3_copyFrom 123 = .ok (.iconst 3, 1) := by decide +kernel
theorem dX3_copyFrom_124 : decode cX3_copyFrom 124 = .ok (.invokestatic 41, 3) := by decide +kernel
theorem dX3_copyFrom_127 : decode cX3_copyFrom 127 = .ok (.return_, 1) := by decide +kernel
theorem dX3_hasVariant_0 : decode cX3_hasVariant 0 = .ok (.iload_n 1, 1) := by decide +kernel
theorem dX3_hasVariant_1 : decode cX3_hasVariant 1 = .ok (.ifCond .lt 15, 3) := by decide +kernel
theorem dX3_hasVariant_4 : decode cX3_hasVariant 4 = .ok (.iload_n 1, 1) := by decide +kernel
theorem dX3_hasVariant_5 : decode cX3_hasVariant 5 = .ok (.aload_n 0, 1) := by decide +kernel
theorem dX3_hasVariant_6 : decode cX3_hasVariant 6 = .ok (.getfield 37, 3) := by decide +kernel
theorem dX3_hasVariant_9 : decode cX3_hasVariant 9 = .ok (.if_icmp .ge 7, 3) := by decide +kernel
theorem dX3_hasVariant_12 : decode cX3_hasVariant 12 = .ok (.iconst 1, 1) := by decide +kernel
theorem dX3_hasVariant_13 : decode cX3_hasVariant 13 = .ok (.goto 4, 3) := by decide +kernel
theorem dX3_hasVariant_16 : decode cX3_hasVariant 16 = .ok (.iconst 0, 1) := by decide +kernel
theorem dX3_hasVariant_17 : decode cX3_hasVariant 17 = .ok (.ireturn, 1) := by decide +kernel
theorem dX3_hasPlace_0 : decode cX3_hasPlace 0 = .ok (.iload_n 2, 1) := by decide +kernel
theorem dX3_hasPlace_1 : decode cX3_hasPlace 1 = .ok (.ifCond .lt 17, 3) := by decide +kernel
theorem dX3_hasPlace_4 : decode cX3_hasPlace 4 = .ok (.iload_n 2, 1) := by decide +kernel
theorem dX3_hasPlace_5 : decode cX3_hasPlace 5 = .ok (.aload_n 0, 1) := by decide +kernel
theorem dX3_hasPlace_6 : decode cX3_hasPlace 6 = .ok (.getfield 22, 3) := by decide +kernel
theorem dX3_hasPlace_9 : decode cX3_hasPlace 9 = .ok (.iload_n 1, 1) := by decide +kernel
theorem dX3_hasPlace_10 : decode cX3_hasPlace 10 = .ok (.iaload, 1) := by decide +kernel
theorem dX3_hasPlace_11 : decode cX3_hasPlace 11 = .ok (.if_icmp .ge 7, 3) := by decide +kernel
theorem dX3_hasPlace_14 : decode cX3_hasPlace 14 = .ok (.iconst 1, 1) := by decide +kernel
theorem dX3_hasPlace_15 : decode cX3_hasPlace 15 = .ok (.goto 4, 3) := by decide +kernel
theorem dX3_hasPlace_18 : decode cX3_hasPlace 18 = .ok (.iconst 0, 1) := by decide +kernel
theorem dX3_hasPlace_19 : decode cX3_hasPlace 19 = .ok (.ireturn, 1) := by decide +kernel
theorem dX3_hasTwin_0 : decode cX3_hasTwin 0 = .ok (.iconst 0, 1) := by decide +kernel
theorem dX3_hasTwin_1 : decode cX3_hasTwin 1 = .ok (.istore_n 2, 1) := by decide +kernel
theorem dX3_hasTwin_2 : decode cX3_hasTwin 2 = .ok (.iload_n 2, 1) := by decide +kernel
theorem dX3_hasTwin_3 : decode cX3_hasTwin 3 = .ok (.aload_n 0, 1) := by decide +kernel
theorem dX3_hasTwin_4 : decode cX3_hasTwin 4 = .ok (.getfield 37, 3) := by decide +kernel
theorem dX3_hasTwin_7 : decode cX3_hasTwin 7 = .ok (.if_icmp .ge 59, 3) := by decide +kernel
theorem dX3_hasTwin_10 : decode cX3_hasTwin 10 = .ok (.aload_n 0, 1) := by decide +kernel
theorem dX3_hasTwin_11 : decode cX3_hasTwin 11 = .ok (.iload_n 2, 1) := by decide +kernel
theorem dX3_hasTwin_12 : decode cX3_hasTwin 12 = .ok (.iconst 0, 1) := by decide +kernel
theorem dX3_hasTwin_13 : decode cX3_hasTwin 13 = .ok (.invokevirtual 47, 3) := by decide +kernel
theorem dX3_hasTwin_16 : decode cX3_hasTwin 16 = .ok (.aload_n 1, 1) := by decide +kernel
theorem dX3_hasTwin_17 : decode cX3_hasTwin 17 = .ok (.getfield 51, 3) := by decide +kernel
theorem dX3_hasTwin_20 : decode cX3_hasTwin 20 = .ok (.iconst 0, 1) := by decide +kernel
theorem dX3_hasTwin_21 : decode cX3_hasTwin 21 = .ok (.laload, 1) := by decide +kernel
theorem dX3_hasTwin_22 : decode cX3_hasTwin 22 = .ok (.lcmp, 1) := by decide +kernel
theorem dX3_hasTwin_23 : decode cX3_hasTwin 23 = .ok (.ifCond .ne 37, 3) := by decide +kernel
theorem dX3_hasTwin_26 : decode cX3_hasTwin 26 = .ok (.aload_n 0, 1) := by decide +kernel
theorem dX3_hasTwin_27 : decode cX3_hasTwin 27 = .ok (.iload_n 2, 1) := by decide +kernel
theorem dX3_hasTwin_28 : decode cX3_hasTwin 28 = .ok (.iconst 1, 1) := by decide +kernel
theorem dX3_hasTwin_29 : decode cX3_hasTwin 29 = .ok (.invokevirtual 47, 3) := by decide +kernel
theorem dX3_hasTwin_32 : decode cX3_hasTwin 32 = .ok (.aload_n 1, 1) := by decide +kernel
theorem dX3_hasTwin_33 : decode cX3_hasTwin 33 = .ok (.getfield 51, 3) := by decide +kernel
theorem dX3_hasTwin_36 : decode cX3_hasTwin 36 = .ok (.iconst 1, 1) := by decide +kernel
theorem dX3_hasTwin_37 : decode cX3_hasTwin 37 = .ok (.laload, 1) := by decide +kernel
theorem dX3_hasTwin_38 : decode cX3_hasTwin 38 = .ok (.lcmp, 1) := by decide +kernel
theorem dX3_hasTwin_39 : decode cX3_hasTwin 39 = .ok (.ifCond .ne 21, 3) := by decide +kernel
theorem dX3_hasTwin_42 : decode cX3_hasTwin 42 = .ok (.aload_n 0, 1) := by decide +kernel
theorem dX3_hasTwin_43 : decode cX3_hasTwin 43 = .ok (.iload_n 2, 1) := by decide +kernel
theorem dX3_hasTwin_44 : decode cX3_hasTwin 44 = .ok (.iconst 2, 1) := by decide +kernel
theorem dX3_hasTwin_45 : decode cX3_hasTwin 45 = .ok (.invokevirtual 47, 3) := by decide +kernel
theorem dX3_hasTwin_48 : decode cX3_hasTwin 48 = .ok (.aload_n 1, 1) := by decide +kernel
theorem dX3_hasTwin_49 : decode cX3_hasTwin 49 = .ok (.getfield 51, 3) := by decide +kernel
theorem dX3_hasTwin_52 : decode cX3_hasTwin 52 = .ok (.iconst 2, 1) := by decide +kernel
theorem dX3_hasTwin_53 : decode cX3_hasTwin 53 = .ok (.laload, 1) := by decide +kernel
theorem dX3_hasTwin_54 : decode cX3_hasTwin 54 = .ok (.lcmp, 1) := by decide +kernel
theorem dX3_hasTwin_55 : decode cX3_hasTwin 55 = .ok (.ifCond .ne 5, 3) := by decide +kernel
theorem dX3_hasTwin_58 : decode cX3_hasTwin 58 = .ok (.iconst 1, 1) := by decide +kernel
theorem dX3_hasTwin_59 : decode cX3_hasTwin 59 = .ok (.ireturn, 1) := by decide +kernel
theorem dX3_hasTwin_60 : decode cX3_hasTwin 60 = .ok (.iinc 2 1, 3) := by decide +kernel
theorem dX3_hasTwin_63 : decode cX3_hasTwin 63 = .ok (.goto (-61), 3) := by decide +kernel
theorem dX3_hasTwin_66 : decode cX3_hasTwin 66 = .ok (.iconst 0, 1) := by decide +kernel
theorem dX3_hasTwin_67 : decode cX3_hasTwin 67 = .ok (.ireturn, 1) := by decide +kernel
theorem dX3_keyOf_0 : decode cX3_keyOf 0 = .ok (.aload_n 0, 1) := by decide +kernel
theorem dX3_keyOf_1 : decode cX3_keyOf 1 = .ok (.getfield 9, 3) := by decide +kernel
theorem dX3_keyOf_4 : decode cX3_keyOf 4 = .ok (.iload_n 1, 1) := by decide +kernel
theorem dX3_keyOf_5 : decode cX3_keyOf 5 = .ok (.iconst 3, 1) := by decide +kernel
theorem dX3_keyOf_6 : decode cX3_keyOf 6 = .ok (.imul, 1) := by decide +kernel
theorem dX3_keyOf_7 : decode cX3_keyOf 7 = .ok (.iload_n 2, 1) := by decide +kernel
theorem dX3_keyOf_8 : decode cX3_keyOf 8 = .ok (.iadd, 1) := by decide +kernel
theorem dX3_keyOf_9 : decode cX3_keyOf 9 = .ok (.laload, 1) := by decide +kernel
theorem dX3_keyOf_10 : decode cX3_keyOf 10 = .ok (.lreturn, 1) := by decide +kernel
theorem dX3_putVariant_0 : decode cX3_putVariant 0 = .ok (.aload_n 0, 1) := by decide +kernel
theorem dX3_putVariant_1 : decode cX3_putVariant 1 = .ok (.getfield 37, 3) := by decide +kernel
theorem dX3_putVariant_4 : decode cX3_putVariant 4 = .ok (.istore_n 2, 1) := by decide +kernel
theorem dX3_putVariant_5 : decode cX3_putVariant 5 = .ok (.iload_n 2, 1) := by decide +kernel
theorem dX3_putVariant_6 : decode cX3_putVariant 6 = .ok (.bipush 16, 2) := by decide +kernel
theorem dX3_putVariant_8 : decode cX3_putVariant 8 = .ok (.if_icmp .ge 61, 3) := by decide +kernel
theorem dX3_putVariant_11 : decode cX3_putVariant 11 = .ok (.iconst 0, 1) := by decide +kernel
theorem dX3_putVariant_12 : decode cX3_putVariant 12 = .ok (.istore_n 3, 1) := by decide +kernel
theorem dX3_putVariant_13 : decode cX3_putVariant 13 = .ok (.iload_n 3, 1) := by decide +kernel
theorem dX3_putVariant_14 : decode cX3_putVariant 14 = .ok (.iconst 3, 1) := by decide +kernel
theorem dX3_putVariant_15 : decode cX3_putVariant 15 = .ok (.if_icmp .ge 25, 3) := by decide +kernel
theorem dX3_putVariant_18 : decode cX3_putVariant 18 = .ok (.aload_n 0, 1) := by decide +kernel
theorem dX3_putVariant_19 : decode cX3_putVariant 19 = .ok (.getfield 9, 3) := by decide +kernel
theorem dX3_putVariant_22 : decode cX3_putVariant 22 = .ok (.iload_n 2, 1) := by decide +kernel
theorem dX3_putVariant_23 : decode cX3_putVariant 23 = .ok (.iconst 3, 1) := by decide +kernel
theorem dX3_putVariant_24 : decode cX3_putVariant 24 = .ok (.imul, 1) := by decide +kernel
theorem dX3_putVariant_25 : decode cX3_putVariant 25 = .ok (.iload_n 3, 1) := by decide +kernel
theorem dX3_putVariant_26 : decode cX3_putVariant 26 = .ok (.iadd, 1) := by decide +kernel
theorem dX3_putVariant_27 : decode cX3_putVariant 27 = .ok (.aload_n 1, 1) := by decide +kernel
theorem dX3_putVariant_28 : decode cX3_putVariant 28 = .ok (.getfield 51, 3) := by decide +kernel
theorem dX3_putVariant_31 : decode cX3_putVariant 31 = .ok (.iload_n 3, 1) := by decide +kernel
theorem dX3_putVariant_32 : decode cX3_putVariant 32 = .ok (.laload, 1) := by decide +kernel
theorem dX3_putVariant_33 : decode cX3_putVariant 33 = .ok (.lastore, 1) := by decide +kernel
theorem dX3_putVariant_34 : decode cX3_putVariant 34 = .ok (.iinc 3 1, 3) := by decide +kernel
theorem dX3_putVariant_37 : decode cX3_putVariant 37 = .ok (.goto (-24), 3) := by decide +kernel
theorem dX3_putVariant_40 : decode cX3_putVariant 40 = .ok (.aload_n 0, 1) := by decide +kernel
theorem dX3_putVariant_41 : decode cX3_putVariant 41 = .ok (.getfield 15, 3) := by decide +kernel
theorem dX3_putVariant_44 : decode cX3_putVariant 44 = .ok (.iload_n 2, 1) := by decide +kernel
theorem dX3_putVariant_45 : decode cX3_putVariant 45 = .ok (.aload_n 1, 1) := by decide +kernel
theorem dX3_putVariant_46 : decode cX3_putVariant 46 = .ok (.getfield 54, 3) := by decide +kernel
theorem dX3_putVariant_49 : decode cX3_putVariant 49 = .ok (.iastore, 1) := by decide +kernel
theorem dX3_putVariant_50 : decode cX3_putVariant 50 = .ok (.aload_n 0, 1) := by decide +kernel
theorem dX3_putVariant_51 : decode cX3_putVariant 51 = .ok (.getfield 19, 3) := by decide +kernel
theorem dX3_putVariant_54 : decode cX3_putVariant 54 = .ok (.iload_n 2, 1) := by decide +kernel
theorem dX3_putVariant_55 : decode cX3_putVariant 55 = .ok (.sipush 1000, 3) := by decide +kernel
theorem dX3_putVariant_58 : decode cX3_putVariant 58 = .ok (.iastore, 1) := by decide +kernel
theorem dX3_putVariant_59 : decode cX3_putVariant 59 = .ok (.aload_n 0, 1) := by decide +kernel
theorem dX3_putVariant_60 : decode cX3_putVariant 60 = .ok (.dup, 1) := by decide +kernel
theorem dX3_putVariant_61 : decode cX3_putVariant 61 = .ok (.getfield 37, 3) := by decide +kernel
theorem dX3_putVariant_64 : decode cX3_putVariant 64 = .ok (.iconst 1, 1) := by decide +kernel
theorem dX3_putVariant_65 : decode cX3_putVariant 65 = .ok (.iadd, 1) := by decide +kernel
theorem dX3_putVariant_66 : decode cX3_putVariant 66 = .ok (.putfield 37, 3) := by decide +kernel
theorem dX3_putVariant_69 : decode cX3_putVariant 69 = .ok (.iload_n 2, 1) := by decide +kernel
theorem dX3_putVariant_70 : decode cX3_putVariant 70 = .ok (.ireturn, 1) := by decide +kernel
theorem dX3_dropVariant_0 : decode cX3_dropVariant 0 = .ok (.iload_n 1, 1) := by decide +kernel
theorem dX3_dropVariant_1 : decode cX3_dropVariant 1 = .ok (.iconst 1, 1) := by decide +kernel
theorem dX3_dropVariant_2 : decode cX3_dropVariant 2 = .ok (.iadd, 1) := by decide +kernel
theorem dX3_dropVariant_3 : decode cX3_dropVariant 3 = .ok (.istore_n 2, 1) := by decide +kernel
theorem dX3_dropVariant_4 : decode cX3_dropVariant 4 = .ok (.iload_n 2, 1) := by decide +kernel
theorem dX3_dropVariant_5 : decode cX3_dropVariant 5 = .ok (.aload_n 0, 1) := by decide +kernel
theorem dX3_dropVariant_6 : decode cX3_dropVariant 6 = .ok (.getfield 37, 3) := by decide +kernel
theorem dX3_dropVariant_9 : decode cX3_dropVariant 9 = .ok (.if_icmp .ge 72, 3) := by decide +kernel
theorem dX3_dropVariant_12 : decode cX3_dropVariant 12 = .ok (.iconst 0, 1) := by decide +kernel
theorem dX3_dropVariant_13 : decode cX3_dropVariant 13 = .ok (.istore_n 3, 1) := by decide +kernel
theorem dX3_dropVariant_14 : decode cX3_dropVariant 14 = .ok (.iload_n 3, 1) := by decide +kernel
theorem dX3_dropVariant_15 : decode cX3_dropVariant 15 = .ok (.iconst 3, 1) := by decide +kernel
theorem dX3_dropVariant_16 : decode cX3_dropVariant 16 = .ok (.if_icmp .ge 31, 3) := by decide +kernel
theorem dX3_dropVariant_19 : decode cX3_dropVariant 19 = .ok (.aload_n 0, 1) := by decide +kernel
theorem dX3_dropVariant_20 : decode cX3_dropVariant 20 = .ok (.getfield 9, 3) := by decide +kernel
theorem dX3_dropVariant_23 : decode cX3_dropVariant 23 = .ok (.iload_n 2, 1) := by decide +kernel
theorem dX3_dropVariant_24 : decode cX3_dropVariant 24 = .ok (.iconst 1, 1) := by decide +kernel
theorem dX3_dropVariant_25 : decode cX3_dropVariant 25 = .ok (.isub, 1) := by decide +kernel
theorem dX3_dropVariant_26 : decode cX3_dropVariant 26 = .ok (.iconst 3, 1) := by decide +kernel
theorem dX3_dropVariant_27 : decode cX3_dropVariant 27 = .ok (.imul, 1) := by decide +kernel
theorem dX3_dropVariant_28 : decode cX3_dropVariant 28 = .ok (.iload_n 3, 1) := by decide +kernel
theorem dX3_dropVariant_29 : decode cX3_dropVariant 29 = .ok (.iadd, 1) := by decide +kernel
theorem dX3_dropVariant_30 : decode cX3_dropVariant 30 = .ok (.aload_n 0, 1) := by decide +kernel
theorem dX3_dropVariant_31 : decode cX3_dropVariant 31 = .ok (.getfield 9, 3) := by decide +kernel
theorem dX3_dropVariant_34 : decode cX3_dropVariant 34 = .ok (.iload_n 2, 1) := by decide +kernel
theorem dX3_dropVariant_35 : decode cX3_dropVariant 35 = .ok (.iconst 3, 1) := by decide +kernel
theorem dX3_dropVariant_36 : decode cX3_dropVariant 36 = .ok (.imul, 1) := by decide +kernel
theorem dX3_dropVariant_37 : decode cX3_dropVariant 37 = .ok (.iload_n 3, 1) := by decide +kernel
theorem dX3_dropVariant_38 : decode cX3_dropVariant 38 = .ok (.iadd, 1) := by decide +kernel
theorem dX3_dropVariant_39 : decode cX3_dropVariant 39 = .ok (.laload, 1) := by decide +kernel
theorem dX3_dropVariant_40 : decode cX3_dropVariant 40 = .ok (.lastore, 1) := by decide +kernel
theorem dX3_dropVariant_41 : decode cX3_dropVariant 41 = .ok (.iinc 3 1, 3) := by decide +kernel
theorem dX3_dropVariant_44 : decode cX3_dropVariant 44 = .ok (.goto (-30), 3) := by decide +kernel
theorem dX3_dropVariant_47 : decode cX3_dropVariant 47 = .ok (.aload_n 0, 1) := by decide +kernel
theorem dX3_dropVariant_48 : decode cX3_dropVariant 48 = .ok (.getfield 15, 3) := by decide +kernel
theorem dX3_dropVariant_51 : decode cX3_dropVariant 51 = .ok (.iload_n 2, 1) := by decide +kernel
theorem dX3_dropVariant_52 : decode cX3_dropVariant 52 = .ok (.iconst 1, 1) := by decide +kernel
theorem dX3_dropVariant_53 : decode cX3_dropVariant 53 = .ok (.isub, 1) := by decide +kernel
theorem dX3_dropVariant_54 : decode cX3_dropVariant 54 = .ok (.aload_n 0, 1) := by decide +kernel
theorem dX3_dropVariant_55 : decode cX3_dropVariant 55 = .ok (.getfield 15, 3) := by decide +kernel
theorem dX3_dropVariant_58 : decode cX3_dropVariant 58 = .ok (.iload_n 2, 1) := by decide +kernel
theorem dX3_dropVariant_59 : decode cX3_dropVariant 59 = .ok (.iaload, 1) := by decide +kernel
theorem dX3_dropVariant_60 : decode cX3_dropVariant 60 = .ok (.iastore, 1) := by decide +kernel
theorem dX3_dropVariant_61 : decode cX3_dropVariant 61 = .ok (.aload_n 0, 1) := by decide +kernel
theorem dX3_dropVariant_62 : decode cX3_dropVariant 62 = .ok (.getfield 19, 3) := by decide +kernel
theorem dX3_dropVariant_65 : decode cX3_dropVariant 65 = .ok (.iload_n 2, 1) := by decide +kernel
theorem dX3_dropVariant_66 : decode cX3_dropVariant 66 = .ok (.iconst 1, 1) := by decide +kernel
theorem dX3_dropVariant_67 : decode cX3_dropVariant 67 = .ok (.isub, 1) := by decide +kernel
theorem dX3_dropVariant_68 : decode cX3_dropVariant 68 = .ok (.aload_n 0, 1) := by decide +kernel
theorem dX3_dropVariant_69 : decode cX3_dropVariant 69 = .ok (.getfield 19, 3) := by decide +kernel
theorem dX3_dropVariant_72 : decode cX3_dropVariant 72 = .ok (.iload_n 2, 1) := by decide +kernel
theorem dX3_dropVariant_73 : decode cX3_dropVariant 73 = .ok (.iaload, 1) := by decide +kernel
theorem dX3_dropVariant_74 : decode cX3_dropVariant 74 = .ok (.iastore, 1) := by decide +kernel
theorem dX3_dropVariant_75 : decode cX3_dropVariant 75 = .ok (.iinc 2 1, 3) := by decide +kernel
theorem dX3_dropVariant_78 : decode cX3_dropVariant 78 = .ok (.goto (-74), 3) := by decide +kernel
theorem dX3_dropVariant_81 : decode cX3_dropVariant 81 = .ok (.aload_n 0, 1) := by decide +kernel
theorem dX3_dropVariant_82 : decode cX3_dropVariant 82 = .ok (.dup, 1) := by decide +kernel
theorem dX3_dropVariant_83 : decode cX3_dropVariant 83 = .ok (.getfield 37, 3) := by decide +kernel
theorem dX3_dropVariant_86 : decode cX3_dropVariant 86 = .ok (.iconst 1, 1) := by decide +kernel
theorem dX3_dropVariant_87 : decode cX3_dropVariant 87 = .ok (.isub, 1) := by decide +kernel
theorem dX3_dropVariant_88 : decode cX3_dropVariant 88 = .ok (.putfield 37, 3) := by decide +kernel
theorem dX3_dropVariant_91 : decode cX3_dropVariant 91 = .ok (.aload_n 0, 1) := by decide +kernel
theorem dX3_dropVariant_92 : decode cX3_dropVariant 92 = .ok (.getfield 37, 3) := by decide +kernel
theorem dX3_dropVariant_95 : decode cX3_dropVariant 95 = .ok (.ireturn, 1) := by decide +kernel
theorem dX3_putList_0 : decode cX3_putList 0 = .ok (.iconst 0, 1) := by decide +kernel
theorem dX3_putList_1 : decode cX3_putList 1 = .ok (.istore_n 3, 1) := by decide +kernel
theorem dX3_putList_2 : decode cX3_putList 2 = .ok (.iload_n 3, 1) := by decide +kernel
theorem dX3_putList_3 : decode cX3_putList 3 = .ok (.aload_n 2, 1) := by decide +kernel
theorem dX3_putList_4 : decode cX3_putList 4 = .ok (.getfield 57, 3) := by decide +kernel
theorem dX3_putList_7 : decode cX3_putList 7 = .ok (.if_icmp .ge 55, 3) := by decide +kernel
theorem dX3_putList_10 : decode cX3_putList 10 = .ok (.iload_n 1, 1) := by decide +kernel
theorem dX3_putList_11 : decode cX3_putList 11 = .ok (.iload_n 3, 1) := by decide +kernel
theorem dX3_putList_12 : decode cX3_putList 12 = .ok (.invokestatic 60, 3) := by decide +kernel
theorem dX3_putList_15 : decode cX3_putList 15 = .ok (.istore 4, 2) := by decide +kernel
theorem dX3_putList_17 : decode cX3_putList 17 = .ok (.aload_n 0, 1) := by decide +kernel
theorem dX3_putList_18 : decode cX3_putList 18 = .ok (.getfield 25, 3) := by decide +kernel
theorem dX3_putList_21 : decode cX3_putList 21 = .ok (.iload 4, 2) := by decide +kernel
theorem dX3_putList_23 : decode cX3_putList 23 = .ok (.aload_n 2, 1) := by decide +kernel
theorem dX3_putList_24 : decode cX3_putList 24 = .ok (.getfield 64, 3) := by decide +kernel
theorem dX3_putList_27 : decode cX3_putList 27 = .ok (.iload_n 3, 1) := by decide +kernel
theorem dX3_putList_28 : decode cX3_putList 28 = .ok (.laload, 1) := by decide +kernel
theorem dX3_putList_29 : decode cX3_putList 29 = .ok (.lastore, 1) := by decide +kernel
theorem dX3_putList_30 : decode cX3_putList 30 = .ok (.aload_n 0, 1) := by decide +kernel
theorem dX3_putList_31 : decode cX3_putList 31 = .ok (.getfield 28, 3) := by decide +kernel
theorem dX3_putList_34 : decode cX3_putList 34 = .ok (.iload 4, 2) := by decide +kernel
theorem dX3_putList_36 : decode cX3_putList 36 = .ok (.aload_n 2, 1) := by decide +kernel
theorem dX3_putList_37 : decode cX3_putList 37 = .ok (.getfield 65, 3) := by decide +kernel
theorem dX3_putList_40 : decode cX3_putList 40 = .ok (.iload_n 3, 1) := by decide +kernel
theorem dX3_putList_41 : decode cX3_putList 41 = .ok (.iaload, 1) := by decide +kernel
theorem dX3_putList_42 : decode cX3_putList 42 = .ok (.iastore, 1) := by decide +kernel
theorem dX3_putList_43 : decode cX3_putList 43 = .ok (.aload_n 0, 1) := by decide +kernel
theorem dX3_putList_44 : decode cX3_putList 44 = .ok (.getfield 31, 3) := by decide +kernel
theorem dX3_putList_47 : decode cX3_putList 47 = .ok (.iload 4, 2) := by decide +kernel
theorem dX3_putList_49 : decode cX3_putList 49 = .ok (.aload_n 2, 1) := by decide +kernel
theorem dX3_putList_50 : decode cX3_putList 50 = .ok (.getfield 66, 3) := by decide +kernel
theorem dX3_putList_53 : decode cX3_putList 53 = .ok (.iload_n 3, 1) := by decide +kernel
theorem dX3_putList_54 : decode cX3_putList 54 = .ok (.iaload, 1) := by decide +kernel
theorem dX3_putList_55 : decode cX3_putList 55 = .ok (.iastore, 1) := by decide +kernel
theorem dX3_putList_56 : decode cX3_putList 56 = .ok (.iinc 3 1, 3) := by decide +kernel
theorem dX3_putList_59 : decode cX3_putList 59 = .ok (.goto (-57), 3) := by decide +kernel
theorem dX3_putList_62 : decode cX3_putList 62 = .ok (.aload_n 0, 1) := by decide +kernel
theorem dX3_putList_63 : decode cX3_putList 63 = .ok (.getfield 22, 3) := by decide +kernel
theorem dX3_putList_66 : decode cX3_putList 66 = .ok (.iload_n 1, 1) := by decide +kernel
theorem dX3_putList_67 : decode cX3_putList 67 = .ok (.aload_n 2, 1) := by decide +kernel
theorem dX3_putList_68 : decode cX3_putList 68 = .ok (.getfield 57, 3) := by decide +kernel
theorem dX3_putList_71 : decode cX3_putList 71 = .ok (.iastore, 1) := by decide +kernel
theorem dX3_putList_72 : decode cX3_putList 72 = .ok (.aload_n 2, 1) := by decide +kernel
theorem dX3_putList_73 : decode cX3_putList 73 = .ok (.getfield 57, 3) := by decide +kernel
theorem dX3_putList_76 : decode cX3_putList 76 = .ok (.ireturn, 1) := by decide +kernel
theorem dX3_dropEntry_0 : decode cX3_dropEntry 0 = .ok (.iload_n 2, 1) := by decide +kernel
theorem dX3_dropEntry_1 : decode cX3_dropEntry 1 = .ok (.iconst 1, 1) := by decide +kernel
theorem dX3_dropEntry_2 : decode cX3_dropEntry 2 = .ok (.iadd, 1) := by decide +kernel
theorem dX3_dropEntry_3 : decode cX3_dropEntry 3 = .ok (.istore_n 3, 1) := by decide +kernel
theorem dX3_dropEntry_4 : decode cX3_dropEntry 4 = .ok (.iload_n 3, 1) := by decide +kernel
theorem dX3_dropEntry_5 : decode cX3_dropEntry 5 = .ok (.aload_n 0, 1) := by decide +kernel
theorem dX3_dropEntry_6 : decode cX3_dropEntry 6 = .ok (.getfield 22, 3) := by decide +kernel
theorem dX3_dropEntry_9 : decode cX3_dropEntry 9 = .ok (.iload_n 1, 1) := by decide +kernel
theorem dX3_dropEntry_10 : decode cX3_dropEntry 10 = .ok (.iaload, 1) := by decide +kernel
theorem dX3_dropEntry_11 : decode cX3_dropEntry 11 = .ok (.if_icmp .ge 64, 3) := by decide +kernel
theorem dX3_dropEntry_14 : decode cX3_dropEntry 14 = .ok (.iload_n 1, 1) := by decide +kernel
theorem dX3_dropEntry_15 : decode cX3_dropEntry 15 = .ok (.iload_n 3, 1) := by decide +kernel
theorem dX3_dropEntry_16 : decode cX3_dropEntry 16 = .ok (.invokestatic 60, 3) := by decide +kernel
theorem dX3_dropEntry_19 : decode cX3_dropEntry 19 = .ok (.istore 4, 2) := by decide +kernel
theorem dX3_dropEntry_21 : decode cX3_dropEntry 21 = .ok (.aload_n 0, 1) := by decide +kernel
theorem dX3_dropEntry_22 : decode cX3_dropEntry 22 = .ok (.getfield 25, 3) := by decide +kernel
theorem dX3_dropEntry_25 : decode cX3_dropEntry 25 = .ok (.iload 4, 2) := by decide +kernel
theorem dX3_dropEntry_27 : decode cX3_dropEntry 27 = .ok (.iconst 1, 1) := by decide +kernel
theorem dX3_dropEntry_28 : decode cX3_dropEntry 28 = .ok (.isub, 1) := by decide +kernel
theorem dX3_dropEntry_29 : decode cX3_dropEntry 29 = .ok (.aload_n 0, 1) := by decide +kernel
theorem dX3_dropEntry_30 : decode cX3_dropEntry 30 = .ok (.getfield 25, 3) := by decide +kernel
theorem dX3_dropEntry_33 : decode cX3_dropEntry 33 = .ok (.iload 4, 2) := by decide +kernel
theorem dX3_dropEntry_35 : decode cX3_dropEntry 35 = .ok (.laload, 1) := by decide +kernel
theorem dX3_dropEntry_36 : decode cX3_dropEntry 36 = .ok (.lastore, 1) := by decide +kernel
theorem dX3_dropEntry_37 : decode cX3_dropEntry 37 = .ok (.aload_n 0, 1) := by decide +kernel
theorem dX3_dropEntry_38 : decode cX3_dropEntry 38 = .ok (.getfield 28, 3) := by decide +kernel
theorem dX3_dropEntry_41 : decode cX3_dropEntry 41 = .ok (.iload 4, 2) := by decide +kernel
theorem dX3_dropEntry_43 : decode cX3_dropEntry 43 = .ok (.iconst 1, 1) := by decide +kernel
theorem dX3_dropEntry_44 : decode cX3_dropEntry 44 = .ok (.isub, 1) := by decide +kernel
theorem dX3_dropEntry_45 : decode cX3_dropEntry 45 = .ok (.aload_n 0, 1) := by decide +kernel
theorem dX3_dropEntry_46 : decode cX3_dropEntry 46 = .ok (.getfield 28, 3) := by decide +kernel
theorem dX3_dropEntry_49 : decode cX3_dropEntry 49 = .ok (.iload 4, 2) := by decide +kernel
theorem dX3_dropEntry_51 : decode cX3_dropEntry 51 = .ok (.iaload, 1) := by decide +kernel
theorem dX3_dropEntry_52 : decode cX3_dropEntry 52 = .ok (.iastore, 1) := by decide +kernel
theorem dX3_dropEntry_53 : decode cX3_dropEntry 53 = .ok (.aload_n 0, 1) := by decide +kernel
theorem dX3_dropEntry_54 : decode cX3_dropEntry 54 = .ok (.getfield 31, 3) := by decide +kernel
theorem dX3_dropEntry_57 : decode cX3_dropEntry 57 = .ok (.iload 4, 2) := by decide +kernel
theorem dX3_dropEntry_59 : decode cX3_dropEntry 59 = .ok (.iconst 1, 1) := by decide +kernel
theorem dX3_dropEntry_60 : decode cX3_dropEntry 60 = .ok (.isub, 1) := by decide +kernel
theorem dX3_dropEntry_61 : decode cX3_dropEntry 61 = .ok (.aload_n 0, 1) := by decide +kernel
theorem dX3_dropEntry_62 : decode cX3_dropEntry 62 = .ok (.getfield 31, 3) := by decide +kernel
theorem dX3_dropEntry_65 : decode cX3_dropEntry 65 = .ok (.iload 4, 2) := by decide +kernel
theorem dX3_dropEntry_67 : decode cX3_dropEntry 67 = .ok (.iaload, 1) := by decide +kernel
theorem dX3_dropEntry_68 : decode cX3_dropEntry 68 = .ok (.iastore, 1) := by decide +kernel
theorem dX3_dropEntry_69 : decode cX3_dropEntry 69 = .ok (.iinc 3 1, 3) := by decide +kernel
theorem dX3_dropEntry_72 : decode cX3_dropEntry 72 = .ok (.goto (-68), 3) := by decide +kernel
theorem dX3_dropEntry_75 : decode cX3_dropEntry 75 = .ok (.aload_n 0, 1) := by decide +kernel
theorem dX3_dropEntry_76 : decode cX3_dropEntry 76 = .ok (.getfield 22, 3) := by decide +kernel
theorem dX3_dropEntry_79 : decode cX3_dropEntry 79 = .ok (.iload_n 1, 1) := by decide +kernel
theorem dX3_dropEntry_80 : decode cX3_dropEntry 80 = .ok (.dup2, 1) := by decide +kernel
theorem dX3_dropEntry_81 : decode cX3_dropEntry 81 = .ok (.iaload, 1) := by decide +kernel
theorem dX3_dropEntry_82 : decode cX3_dropEntry 82 = .ok (.iconst 1, 1) := by decide +kernel
theorem dX3_dropEntry_83 : decode cX3_dropEntry 83 = .ok (.isub, 1) := by decide +kernel
theorem dX3_dropEntry_84 : decode cX3_dropEntry 84 = .ok (.iastore, 1) := by decide +kernel
theorem dX3_dropEntry_85 : decode cX3_dropEntry 85 = .ok (.aload_n 0, 1) := by decide +kernel
theorem dX3_dropEntry_86 : decode cX3_dropEntry 86 = .ok (.getfield 22, 3) := by decide +kernel
theorem dX3_dropEntry_89 : decode cX3_dropEntry 89 = .ok (.iload_n 1, 1) := by decide +kernel
theorem dX3_dropEntry_90 : decode cX3_dropEntry 90 = .ok (.iaload, 1) := by decide +kernel
theorem dX3_dropEntry_91 : decode cX3_dropEntry 91 = .ok (.ireturn, 1) := by decide +kernel
theorem dX3_exchangeLists_0 : decode cX3_exchangeLists 0 = .ok (.aload_n 0, 1) := by decide +kernel
theorem dX3_exchangeLists_1 : decode cX3_exchangeLists 1 = .ok (.getfield 22, 3) := by decide +kernel
theorem dX3_exchangeLists_4 : decode cX3_exchangeLists 4 = .ok (.iload_n 1, 1) := by decide +kernel
theorem dX3_exchangeLists_5 : decode cX3_exchangeLists 5 = .ok (.iaload, 1) := by decide +kernel
theorem dX3_exchangeLists_6 : decode cX3_exchangeLists 6 = .ok (.istore_n 3, 1) := by decide +kernel
theorem dX3_exchangeLists_7 : decode cX3_exchangeLists 7 = .ok (.aload_n 0, 1) := by decide +kernel
theorem dX3_exchangeLists_8 : decode cX3_exchangeLists 8 = .ok (.getfield 22, 3) := by decide +kernel
theorem dX3_exchangeLists_11 : decode cX3_exchangeLists 11 = .ok (.iload_n 1, 1) := by decide +kernel
theorem dX3_exchangeLists_12 : decode cX3_exchangeLists 12 = .ok (.aload_n 0, 1) := by decide +kernel
theorem dX3_exchangeLists_13 : decode cX3_exchangeLists 13 = .ok (.getfield 22, 3) := by decide +kernel
theorem dX3_exchangeLists_16 : decode cX3_exchangeLists 16 = .ok (.iload_n 2, 1) := by decide +kernel
theorem dX3_exchangeLists_17 : decode cX3_exchangeLists 17 = .ok (.iaload, 1) := by decide +kernel
theorem dX3_exchangeLists_18 : decode cX3_exchangeLists 18 = .ok (.iastore, 1) := by decide +kernel
theorem dX3_exchangeLists_19 : decode cX3_exchangeLists 19 = .ok (.aload_n 0, 1) := by decide +kernel
theorem dX3_exchangeLists_20 : decode cX3_exchangeLists 20 = .ok (.getfield 22, 3) := by decide +kernel
theorem dX3_exchangeLists_23 : decode cX3_exchangeLists 23 = .ok (.iload_n 2, 1) := by decide +kernel
theorem dX3_exchangeLists_24 : decode cX3_exchangeLists 24 = .ok (.iload_n 3, 1) := by decide +kernel
theorem dX3_exchangeLists_25 : decode cX3_exchangeLists 25 = .ok (.iastore, 1) := by decide +kernel
theorem dX3_exchangeLists_26 : decode cX3_exchangeLists 26 = .ok (.iconst 0, 1) := by decide +kernel
theorem dX3_exchangeLists_27 : decode cX3_exchangeLists 27 = .ok (.istore 4, 2) := by decide +kernel
theorem dX3_exchangeLists_29 : decode cX3_exchangeLists 29 = .ok (.iload 4, 2) := by decide +kernel
theorem dX3_exchangeLists_31 : decode cX3_exchangeLists 31 = .ok (.bipush 10, 2) := by decide +kernel
theorem dX3_exchangeLists_33 : decode cX3_exchangeLists 33 = .ok (.if_icmp .ge 25, 3) := by decide +kernel
theorem dX3_exchangeLists_36 : decode cX3_exchangeLists 36 = .ok (.aload_n 0, 1) := by decide +kernel
theorem dX3_exchangeLists_37 : decode cX3_exchangeLists 37 = .ok (.iload_n 1, 1) := by decide +kernel
theorem dX3_exchangeLists_38 : decode cX3_exchangeLists 38 = .ok (.iload 4, 2) := by decide +kernel
theorem dX3_exchangeLists_40 : decode cX3_exchangeLists 40 = .ok (.invokestatic 60, 3) := by decide +kernel
theorem dX3_exchangeLists_43 : decode cX3_exchangeLists 43 = .ok (.iload_n 2, 1) := by decide +kernel
theorem dX3_exchangeLists_44 : decode cX3_exchangeLists 44 = .ok (.iload 4, 2) := by decide +kernel
theorem dX3_exchangeLists_46 : decode cX3_exchangeLists 46 = .ok (.invokestatic 60, 3) := by decide +kernel
theorem dX3_exchangeLists_49 : decode cX3_exchangeLists 49 = .ok (.invokevirtual 67, 3) := by decide +kernel
theorem dX3_exchangeLists_52 : decode cX3_exchangeLists 52 = .ok (.iinc 4 1, 3) := by decide +kernel
theorem dX3_exchangeLists_55 : decode cX3_exchangeLists 55 = .ok (.goto (-26), 3) := by decide +kernel
theorem dX3_exchangeLists_58 : decode cX3_exchangeLists 58 = .ok (.return_, 1) := by decide +kernel
theorem dX3_exchangeRows_0 : decode cX3_exchangeRows 0 = .ok (.aload_n 0, 1) := by decide +kernel
theorem dX3_exchangeRows_1 : decode cX3_exchangeRows 1 = .ok (.getfield 25, 3) := by decide +kernel
theorem dX3_exchangeRows_4 : decode cX3_exchangeRows 4 = .ok (.iload_n 1, 1) := by decide +kernel
theorem dX3_exchangeRows_5 : decode cX3_exchangeRows 5 = .ok (.laload, 1) := by decide +kernel
theorem dX3_exchangeRows_6 : decode cX3_exchangeRows 6 = .ok (.lstore_n 3, 1) := by decide +kernel
theorem dX3_exchangeRows_7 : decode cX3_exchangeRows 7 = .ok (.aload_n 0, 1) := by decide +kernel
theorem dX3_exchangeRows_8 : decode cX3_exchangeRows 8 = .ok (.getfield 25, 3) := by decide +kernel
theorem dX3_exchangeRows_11 : decode cX3_exchangeRows 11 = .ok (.iload_n 1, 1) := by decide +kernel
theorem dX3_exchangeRows_12 : decode cX3_exchangeRows 12 = .ok (.aload_n 0, 1) := by decide +kernel
theorem dX3_exchangeRows_13 : decode cX3_exchangeRows 13 = .ok (.getfield 25, 3) := by decide +kernel
theorem dX3_exchangeRows_16 : decode cX3_exchangeRows 16 = .ok (.iload_n 2, 1) := by decide +kernel
theorem dX3_exchangeRows_17 : decode cX3_exchangeRows 17 = .ok (.laload, 1) := by decide +kernel
theorem dX3_exchangeRows_18 : decode cX3_exchangeRows 18 = .ok (.lastore, 1) := by decide +kernel
theorem dX3_exchangeRows_19 : decode cX3_exchangeRows 19 = .ok (.aload_n 0, 1) := by decide +kernel
theorem dX3_exchangeRows_20 : decode cX3_exchangeRows 20 = .ok (.getfield 25, 3) := by decide +kernel
theorem dX3_exchangeRows_23 : decode cX3_exchangeRows 23 = .ok (.iload_n 2, 1) := by decide +kernel
theorem dX3_exchangeRows_24 : decode cX3_exchangeRows 24 = .ok (.lload_n 3, 1) := by decide +kernel
theorem dX3_exchangeRows_25 : decode cX3_exchangeRows 25 = .ok (.lastore, 1) := by decide +kernel
theorem dX3_exchangeRows_26 : decode cX3_exchangeRows 26 = .ok (.aload_n 0, 1) := by decide +kernel
theorem dX3_exchangeRows_27 : decode cX3_exchangeRows 27 = .ok (.getfield 28, 3) := by decide +kernel
theorem dX3_exchangeRows_30 : decode cX3_exchangeRows 30 = .ok (.iload_n 1, 1) := by decide +kernel
theorem dX3_exchangeRows_31 : decode cX3_exchangeRows 31 = .ok (.iaload, 1) := by decide +kernel
theorem dX3_exchangeRows_32 : decode cX3_exchangeRows 32 = .ok (.istore 5, 2) := by decide +kernel
theorem dX3_exchangeRows_34 : decode cX3_exchangeRows 34 = .ok (.aload_n 0, 1) := by decide +kernel
theorem dX3_exchangeRows_35 : decode cX3_exchangeRows 35 = .ok (.getfield 28, 3) := by decide +kernel
theorem dX3_exchangeRows_38 : decode cX3_exchangeRows 38 = .ok (.iload_n 1, 1) := by decide +kernel
theorem dX3_exchangeRows_39 : decode cX3_exchangeRows 39 = .ok (.aload_n 0, 1) := by decide +kernel
theorem dX3_exchangeRows_40 : decode cX3_exchangeRows 40 = .ok (.getfield 28, 3) := by decide +kernel
theorem dX3_exchangeRows_43 : decode cX3_exchangeRows 43 = .ok (.iload_n 2, 1) := by decide +kernel
theorem dX3_exchangeRows_44 : decode cX3_exchangeRows 44 = .ok (.iaload, 1) := by decide +kernel
theorem dX3_exchangeRows_45 : decode cX3_exchangeRows 45 = .ok (.iastore, 1) := by decide +kernel
theorem dX3_exchangeRows_46 : decode cX3_exchangeRows 46 = .ok (.aload_n 0, 1) := by decide +kernel
theorem dX3_exchangeRows_47 : decode cX3_exchangeRows 47 = .ok (.getfield 28, 3) := by decide +kernel
theorem dX3_exchangeRows_50 : decode cX3_exchangeRows 50 = .ok (.iload_n 2, 1) := by decide +kernel
theorem dX3_exchangeRows_51 : decode cX3_exchangeRows 51 = .ok (.iload 5, 2) := by decide +kernel
theorem dX3_exchangeRows_53 : decode cX3_exchangeRows 53 = .ok (.iastore, 1) := by decide +kernel
theorem dX3_exchangeRows_54 : decode cX3_exchangeRows 54 = .ok (.aload_n 0, 1) := by decide +kernel
theorem dX3_exchangeRows_55 : decode cX3_exchangeRows 55 = .ok (.getfield 31, 3) := by decide +kernel
theorem dX3_exchangeRows_58 : decode cX3_exchangeRows 58 = .ok (.iload_n 1, 1) := by decide +kernel
theorem dX3_exchangeRows_59 : decode cX3_exchangeRows 59 = .ok (.iaload, 1) := by decide +kernel
theorem dX3_exchangeRows_60 : decode cX3_exchangeRows 60 = .ok (.istore 6, 2) := by decide +kernel
theorem dX3_exchangeRows_62 : decode cX3_exchangeRows 62 = .ok (.aload_n 0, 1) := by decide +kernel
theorem dX3_exchangeRows_63 : decode cX3_exchangeRows 63 = .ok (.getfield 31, 3) := by decide +kernel
theorem dX3_exchangeRows_66 : decode cX3_exchangeRows 66 = .ok (.iload_n 1, 1) := by decide +kernel
theorem dX3_exchangeRows_67 : decode cX3_exchangeRows 67 = .ok (.aload_n 0, 1) := by decide +kernel
theorem dX3_exchangeRows_68 : decode cX3_exchangeRows 68 = .ok (.getfield 31, 3) := by decide +kernel
theorem dX3_exchangeRows_71 : decode cX3_exchangeRows 71 = .ok (.iload_n 2, 1) := by decide +kernel
theorem dX3_exchangeRows_72 : decode cX3_exchangeRows 72 = .ok (.iaload, 1) := by decide +kernel
theorem dX3_exchangeRows_73 : decode cX3_exchangeRows 73 = .ok (.iastore, 1) := by decide +kernel
theorem dX3_exchangeRows_74 : decode cX3_exchangeRows 74 = .ok (.aload_n 0, 1) := by decide +kernel
theorem dX3_exchangeRows_75 : decode cX3_exchangeRows 75 = .ok (.getfield 31, 3) := by decide +kernel
theorem dX3_exchangeRows_78 : decode cX3_exchangeRows 78 = .ok (.iload_n 2, 1) := by decide +kernel
theorem dX3_exchangeRows_79 : decode cX3_exchangeRows 79 = .ok (.iload 6, 2) := by decide +kernel
theorem dX3_exchangeRows_81 : decode cX3_exchangeRows 81 = .ok (.iastore, 1) := by decide +kernel
theorem dX3_exchangeRows_82 : decode cX3_exchangeRows 82 = .ok (.return_, 1) := by decide +kernel
theorem dX3_entriesOf_0 : decode cX3_entriesOf 0 = .ok (.iconst 0, 1) := by decide +kernel
theorem dX3_entriesOf_1 : decode cX3_entriesOf 1 = .ok (.istore_n 2, 1) := by decide +kernel
theorem dX3_entriesOf_2 : decode cX3_entriesOf 2 = .ok (.iconst 0, 1) := by decide +kernel
theorem dX3_entriesOf_3 : decode cX3_entriesOf 3 = .ok (.istore_n 3, 1) := by decide +kernel
theorem dX3_entriesOf_4 : decode cX3_entriesOf 4 = .ok (.iload_n 3, 1) := by decide +kernel
theorem dX3_entriesOf_5 : decode cX3_entriesOf 5 = .ok (.iconst 3, 1) := by decide +kernel
theorem dX3_entriesOf_6 : decode cX3_entriesOf 6 = .ok (.if_icmp .ge 22, 3) := by decide +kernel
theorem dX3_entriesOf_9 : decode cX3_entriesOf 9 = .ok (.iload_n 2, 1) := by decide +kernel
theorem dX3_entriesOf_10 : decode cX3_entriesOf 10 = .ok (.aload_n 0, 1) := by decide +kernel
theorem dX3_entriesOf_11 : decode cX3_entriesOf 11 = .ok (.getfield 22, 3) := by decide +kernel
theorem dX3_entriesOf_14 : decode cX3_entriesOf 14 = .ok (.iload_n 1, 1) := by decide +kernel
theorem dX3_entriesOf_15 : decode cX3_entriesOf 15 = .ok (.iload_n 3, 1) := by decide +kernel
theorem dX3_entriesOf_16 : decode cX3_entriesOf 16 = .ok (.invokestatic 71, 3) := by decide +kernel
theorem dX3_entriesOf_19 : decode cX3_entriesOf 19 = .ok (.iaload, 1) := by decide +kernel
theorem dX3_entriesOf_20 : decode cX3_entriesOf 20 = .ok (.iadd, 1) := by decide +kernel
theorem dX3_entriesOf_21 : decode cX3_entriesOf 21 = .ok (.istore_n 2, 1) := by decide +kernel
theorem dX3_entriesOf_22 : decode cX3_entriesOf 22 = .ok (.iinc 3 1, 3) := by decide +kernel
theorem dX3_entriesOf_25 : decode cX3_entriesOf 25 = .ok (.goto (-21), 3) := by decide +kernel
theorem dX3_entriesOf_28 : decode cX3_entriesOf 28 = .ok (.iload_n 2, 1) := by decide +kernel
theorem dX3_entriesOf_29 : decode cX3_entriesOf 29 = .ok (.ireturn, 1) := by decide +kernel
theorem dX3_languageNames_0 : decode cX3_languageNames 0 = .ok (.aload_n 0, 1) := by decide +kernel
theorem dX3_languageNames_1 : decode cX3_languageNames 1 = .ok (.iload_n 1, 1) := by decide +kernel
theorem dX3_languageNames_2 : decode cX3_languageNames 2 = .ok (.iconst 1, 1) := by decide +kernel
theorem dX3_languageNames_3 : decode cX3_languageNames 3 = .ok (.invokevirtual 47, 3) := by decide +kernel
theorem dX3_languageNames_6 : decode cX3_languageNames 6 = .ok (.lstore_n 2, 1) := by decide +kernel
theorem dX3_languageNames_7 : decode cX3_languageNames 7 = .ok (.iconst 0, 1) := by decide +kernel
theorem dX3_languageNames_8 : decode cX3_languageNames 8 = .ok (.istore 4, 2) := by decide +kernel
theorem dX3_languageNames_10 : decode cX3_languageNames 10 = .ok (.iconst 0, 1) := by decide +kernel
theorem dX3_languageNames_11 : decode cX3_languageNames 11 = .ok (.istore 5, 2) := by decide +kernel
theorem dX3_languageNames_13 : decode cX3_languageNames 13 = .ok (.iload 5, 2) := by decide +kernel
theorem dX3_languageNames_15 : decode cX3_languageNames 15 = .ok (.getstatic 74, 3) := by decide +kernel
theorem dX3_languageNames_18 : decode cX3_languageNames 18 = .ok (.iconst 1, 1) := by decide +kernel
theorem dX3_languageNames_19 : decode cX3_languageNames 19 = .ok (.iaload, 1) := by decide +kernel
theorem dX3_languageNames_20 : decode cX3_languageNames 20 = .ok (.if_icmp .ge 28, 3) := by decide +kernel
theorem dX3_languageNames_23 : decode cX3_languageNames 23 = .ok (.lload_n 2, 1) := by decide +kernel
theorem dX3_languageNames_24 : decode cX3_languageNames 24 = .ok (.bipush 20, 2) := by decide +kernel
theorem dX3_languageNames_26 : decode cX3_languageNames 26 = .ok (.iload 5, 2) := by decide +kernel
theorem dX3_languageNames_28 : decode cX3_languageNames 28 = .ok (.imul, 1) := by decide +kernel
theorem dX3_languageNames_29 : decode cX3_languageNames 29 = .ok (.lushr, 1) := by decide +kernel
theorem dX3_languageNames_30 : decode cX3_languageNames 30 = .ok (.ldc2_w 77, 3) := by decide +kernel
theorem dX3_languageNames_33 : decode cX3_languageNames 33 = .ok (.land, 1) := by decide +kernel
theorem dX3_languageNames_34 : decode cX3_languageNames 34 = .ok (.lconst 0, 1) := by decide +kernel
theorem dX3_languageNames_35 : decode cX3_languageNames 35 = .ok (.lcmp, 1) := by decide +kernel
theorem dX3_languageNames_36 : decode cX3_languageNames 36 = .ok (.ifCond .eq 6, 3) := by decide +kernel
theorem dX3_languageNames_39 : decode cX3_languageNames 39 = .ok (.iinc 4 1, 3) := by decide +kernel
theorem dX3_languageNames_42 : decode cX3_languageNames 42 = .ok (.iinc 5 1, 3) := by decide +kernel
theorem dX3_languageNames_45 : decode cX3_languageNames 45 = .ok (.goto (-32), 3) := by decide +kernel
theorem dX3_languageNames_48 : decode cX3_languageNames 48 = .ok (.iload 4, 2) := by decide +kernel
theorem dX3_languageNames_50 : decode cX3_languageNames 50 = .ok (.ireturn, 1) := by decide +kernel
theorem dX3_matches_0 : decode cX3_matches 0 = .ok (.iload_n 1, 1) := by decide +kernel
theorem dX3_matches_1 : decode cX3_matches 1 = .ok (.iconst 3, 1) := by decide +kernel
theorem dX3_matches_2 : decode cX3_matches 2 = .ok (.irem, 1) := by decide +kernel
theorem dX3_matches_3 : decode cX3_matches 3 = .ok (.istore 4, 2) := by decide +kernel
theorem dX3_matches_5 : decode cX3_matches 5 = .ok (.iload_n 1, 1) := by decide +kernel
theorem dX3_matches_6 : decode cX3_matches 6 = .ok (.iload_n 2, 1) := by decide +kernel
theorem dX3_matches_7 : decode cX3_matches 7 = .ok (.invokestatic 60, 3) := by decide +kernel
theorem dX3_matches_10 : decode cX3_matches 10 = .ok (.istore 5, 2) := by decide +kernel
theorem dX3_matches_12 : decode cX3_matches 12 = .ok (.getstatic 74, 3) := by decide +kernel
theorem dX3_matches_15 : decode cX3_matches 15 = .ok (.iload 4, 2) := by decide +kernel
theorem dX3_matches_17 : decode cX3_matches 17 = .ok (.iaload, 1) := by decide +kernel
theorem dX3_matches_18 : decode cX3_matches 18 = .ok (.aload_n 0, 1) := by decide +kernel
theorem dX3_matches_19 : decode cX3_matches 19 = .ok (.getfield 28, 3) := by decide +kernel
theorem dX3_matches_22 : decode cX3_matches 22 = .ok (.iload 5, 2) := by decide +kernel
theorem dX3_matches_24 : decode cX3_matches 24 = .ok (.iaload, 1) := by decide +kernel
theorem dX3_matches_25 : decode cX3_matches 25 = .ok (.isub, 1) := by decide +kernel
theorem dX3_matches_26 : decode cX3_matches 26 = .ok (.istore 6, 2) := by decide +kernel
theorem dX3_matches_28 : decode cX3_matches 28 = .ok (.aload_n 0, 1) := by decide +kernel
theorem dX3_matches_29 : decode cX3_matches 29 = .ok (.iload_n 3, 1) := by decide +kernel
theorem dX3_matches_30 : decode cX3_matches 30 = .ok (.iload 4, 2) := by decide +kernel
theorem dX3_matches_32 : decode cX3_matches 32 = .ok (.invokevirtual 47, 3) := by decide +kernel
theorem dX3_matches_35 : decode cX3_matches 35 = .ok (.aload_n 0, 1) := by decide +kernel
theorem dX3_matches_36 : decode cX3_matches 36 = .ok (.getfield 25, 3) := by decide +kernel
theorem dX3_matches_39 : decode cX3_matches 39 = .ok (.iload 5, 2) := by decide +kernel
theorem dX3_matches_41 : decode cX3_matches 41 = .ok (.laload, 1) := by decide +kernel
theorem dX3_matches_42 : decode cX3_matches 42 = .ok (.lxor, 1) := by decide +kernel
theorem dX3_matches_43 : decode cX3_matches 43 = .ok (.bipush 20, 2) := by decide +kernel
theorem dX3_matches_45 : decode cX3_matches 45 = .ok (.iload 6, 2) := by decide +kernel
theorem dX3_matches_47 : decode cX3_matches 47 = .ok (.imul, 1) := by decide +kernel
theorem dX3_matches_48 : decode cX3_matches 48 = .ok (.lushr, 1) := by decide +kernel
theorem dX3_matches_49 : decode cX3_matches 49 = .ok (.lconst 0, 1) := by decide +kernel
theorem dX3_matches_50 : decode cX3_matches 50 = .ok (.lcmp, 1) := by decide +kernel
theorem dX3_matches_51 : decode cX3_matches 51 = .ok (.ifCond .ne 7, 3) := by decide +kernel
theorem dX3_matches_54 : decode cX3_matches 54 = .ok (.iconst 1, 1) := by decide +kernel
theorem dX3_matches_55 : decode cX3_matches 55 = .ok (.goto 4, 3) := by decide +kernel
theorem dX3_matches_58 : decode cX3_matches 58 = .ok (.iconst 0, 1) := by decide +kernel
theorem dX3_matches_59 : decode cX3_matches 59 = .ok (.ireturn, 1) := by decide +kernel
theorem dX3_matchCount_0 : decode cX3_matchCount 0 = .ok (.iconst 0, 1) := by decide +kernel
theorem dX3_matchCount_1 : decode cX3_matchCount 1 = .ok (.istore_n 3, 1) := by decide +kernel
theorem dX3_matchCount_2 : decode cX3_matchCount 2 = .ok (.iconst 0, 1) := by decide +kernel
theorem dX3_matchCount_3 : decode cX3_matchCount 3 = .ok (.istore 4, 2) := by decide +kernel
theorem dX3_matchCount_5 : decode cX3_matchCount 5 = .ok (.iload 4, 2) := by decide +kernel
theorem dX3_matchCount_7 : decode cX3_matchCount 7 = .ok (.aload_n 0, 1) := by decide +kernel
theorem dX3_matchCount_8 : decode cX3_matchCount 8 = .ok (.getfield 37, 3) := by decide +kernel
theorem dX3_matchCount_11 : decode cX3_matchCount 11 = .ok (.if_icmp .ge 23, 3) := by decide +kernel
theorem dX3_matchCount_14 : decode cX3_matchCount 14 = .ok (.aload_n 0, 1) := by decide +kernel
theorem dX3_matchCount_15 : decode cX3_matchCount 15 = .ok (.iload_n 1, 1) := by decide +kernel
theorem dX3_matchCount_16 : decode cX3_matchCount 16 = .ok (.iload_n 2, 1) := by decide +kernel
theorem dX3_matchCount_17 : decode cX3_matchCount 17 = .ok (.iload 4, 2) := by decide +kernel
theorem dX3_matchCount_19 : decode cX3_matchCount 19 = .ok (.invokevirtual 79, 3) := by decide +kernel
theorem dX3_matchCount_22 : decode cX3_matchCount 22 = .ok (.ifCond .eq 6, 3) := by decide +kernel
theorem dX3_matchCount_25 : decode cX3_matchCount 25 = .ok (.iinc 3 1, 3) := by decide +kernel
theorem dX3_matchCount_28 : decode cX3_matchCount 28 = .ok (.iinc 4 1, 3) := by decide +kernel
theorem dX3_matchCount_31 : decode cX3_matchCount 31 = .ok (.goto (-26), 3) := by decide +kernel
theorem dX3_matchCount_34 : decode cX3_matchCount 34 = .ok (.iload_n 3, 1) := by decide +kernel
theorem dX3_matchCount_35 : decode cX3_matchCount 35 = .ok (.ireturn, 1) := by decide +kernel
theorem dX3_placeThatCounts_0 : decode cX3_placeThatCounts 0 = .ok (.iconst (-1), 1) := by decide +kernel
theorem dX3_placeThatCounts_1 : decode cX3_placeThatCounts 1 = .ok (.istore_n 3, 1) := by decide +kernel
theorem dX3_placeThatCounts_2 : decode cX3_placeThatCounts 2 = .ok (.iconst (-1), 1) := by decide +kernel
theorem dX3_placeThatCounts_3 : decode cX3_placeThatCounts 3 = .ok (.istore 4, 2) := by decide +kernel
theorem dX3_placeThatCounts_5 : decode cX3_placeThatCounts 5 = .ok (.iconst 0, 1) := by decide +kernel
theorem dX3_placeThatCounts_6 : decode cX3_placeThatCounts 6 = .ok (.istore 5, 2) := by decide +kernel
theorem dX3_placeThatCounts_8 : decode cX3_placeThatCounts 8 = .ok (.iload 5, 2) := by decide +kernel
theorem dX3_placeThatCounts_10 : decode cX3_placeThatCounts 10 = .ok (.aload_n 0, 1) := by decide +kernel
theorem dX3_placeThatCounts_11 : decode cX3_placeThatCounts 11 = .ok (.getfield 22, 3) := by decide +kernel
theorem dX3_placeThatCounts_14 : decode cX3_placeThatCounts 14 = .ok (.iload_n 1, 1) := by decide +kernel
theorem dX3_placeThatCounts_15 : decode cX3_placeThatCounts 15 = .ok (.iaload, 1) := by decide +kernel
theorem dX3_placeThatCounts_16 : decode cX3_placeThatCounts 16 = .ok (.if_icmp .ge 47, 3) := by decide +kernel
theorem dX3_placeThatCounts_19 : decode cX3_placeThatCounts 19 = .ok (.aload_n 0, 1) := by decide +kernel
theorem dX3_placeThatCounts_20 : decode cX3_placeThatCounts 20 = .ok (.getfield 28, 3) := by decide +kernel
theorem dX3_placeThatCounts_23 : decode cX3_placeThatCounts 23 = .ok (.iload_n 1, 1) := by decide +kernel
theorem dX3_placeThatCounts_24 : decode cX3_placeThatCounts 24 = .ok (.iload 5, 2) := by decide +kernel
theorem dX3_placeThatCounts_26 : decode cX3_placeThatCounts 26 = .ok (.invokestatic 60, 3) := by decide +kernel
theorem dX3_placeThatCounts_29 : decode cX3_placeThatCounts 29 = .ok (.iaload, 1) := by decide +kernel
theorem dX3_placeThatCounts_30 : decode cX3_placeThatCounts 30 = .ok (.istore 6, 2) := by decide +kernel
theorem dX3_placeThatCounts_32 : decode cX3_placeThatCounts 32 = .ok (.iload 6, 2) := by decide +kernel
theorem dX3_placeThatCounts_34 : decode cX3_placeThatCounts 34 = .ok (.iload 4, 2) := by decide +kernel
theorem dX3_placeThatCounts_36 : decode cX3_placeThatCounts 36 = .ok (.if_icmp .le 21, 3) := by decide +kernel
theorem dX3_placeThatCounts_39 : decode cX3_placeThatCounts 39 = .ok (.aload_n 0, 1) := by decide +kernel
theorem dX3_placeThatCounts_40 : decode cX3_placeThatCounts 40 = .ok (.iload_n 1, 1) := by decide +kernel
theorem dX3_placeThatCounts_41 : decode cX3_placeThatCounts 41 = .ok (.iload 5, 2) := by decide +kernel
theorem dX3_placeThatCounts_43 : decode cX3_placeThatCounts 43 = .ok (.iload_n 2, 1) := by decide +kernel
theorem dX3_placeThatCounts_44 : decode cX3_placeThatCounts 44 = .ok (.invokevirtual 79, 3) := by decide +kernel
theorem dX3_placeThatCounts_47 : decode cX3_placeThatCounts 47 = .ok (.ifCond .eq 10, 3) := by decide +kernel
theorem dX3_placeThatCounts_50 : decode cX3_placeThatCounts 50 = .ok (.iload 5, 2) := by decide +kernel
theorem dX3_placeThatCounts_52 : decode cX3_placeThatCounts 52 = .ok (.istore_n 3, 1) := by decide +kernel
theorem dX3_placeThatCounts_53 : decode cX3_placeThatCounts 53 = .ok (.iload 6, 2) := by decide +kernel
theorem dX3_placeThatCounts_55 : decode cX3_placeThatCounts 55 = .ok (.istore 4, 2) := by decide +kernel
theorem dX3_placeThatCounts_57 : decode cX3_placeThatCounts 57 = .ok (.iinc 5 1, 3) := by decide +kernel
theorem dX3_placeThatCounts_60 : decode cX3_placeThatCounts 60 = .ok (.goto (-52), 3) := by decide +kernel
theorem dX3_placeThatCounts_63 : decode cX3_placeThatCounts 63 = .ok (.iload_n 3, 1) := by decide +kernel
theorem dX3_placeThatCounts_64 : decode cX3_placeThatCounts 64 = .ok (.ireturn, 1) := by decide +kernel
theorem dX3_weightAt_0 : decode cX3_weightAt 0 = .ok (.iload_n 2, 1) := by decide +kernel
theorem dX3_weightAt_1 : decode cX3_weightAt 1 = .ok (.iconst (-1), 1) := by decide +kernel
theorem dX3_weightAt_2 : decode cX3_weightAt 2 = .ok (.if_icmp .eq 14, 3) := by decide +kernel
theorem dX3_weightAt_5 : decode cX3_weightAt 5 = .ok (.aload_n 0, 1) := by decide +kernel
theorem dX3_weightAt_6 : decode cX3_weightAt 6 = .ok (.getfield 31, 3) := by decide +kernel
theorem dX3_weightAt_9 : decode cX3_weightAt 9 = .ok (.iload_n 1, 1) := by decide +kernel
theorem dX3_weightAt_10 : decode cX3_weightAt 10 = .ok (.iload_n 2, 1) := by decide +kernel
theorem dX3_weightAt_11 : decode cX3_weightAt 11 = .ok (.invokestatic 60, 3) := by decide +kernel
theorem dX3_weightAt_14 : decode cX3_weightAt 14 = .ok (.iaload, 1) := by decide +kernel
theorem dX3_weightAt_15 : decode cX3_weightAt 15 = .ok (.ireturn, 1) := by decide +kernel
theorem dX3_weightAt_16 : decode cX3_weightAt 16 = .ok (.aload_n 0, 1) := by decide +kernel
theorem dX3_weightAt_17 : decode cX3_weightAt 17 = .ok (.getfield 22, 3) := by decide +kernel
theorem dX3_weightAt_20 : decode cX3_weightAt 20 = .ok (.iload_n 1, 1) := by decide +kernel
theorem dX3_weightAt_21 : decode cX3_weightAt 21 = .ok (.iaload, 1) := by decide +kernel
theorem dX3_weightAt_22 : decode cX3_weightAt 22 = .ok (.ifCond .ne 7, 3) := by decide +kernel
theorem dX3_weightAt_25 : decode cX3_weightAt 25 = .ok (.sipush 1000, 3) := by decide +kernel
theorem dX3_weightAt_28 : decode cX3_weightAt 28 = .ok (.ireturn, 1) := by decide +kernel
theorem dX3_weightAt_29 : decode cX3_weightAt 29 = .ok (.iload_n 1, 1) := by decide +kernel
theorem dX3_weightAt_30 : decode cX3_weightAt 30 = .ok (.iconst 3, 1) := by decide +kernel
theorem dX3_weightAt_31 : decode cX3_weightAt 31 = .ok (.irem, 1) := by decide +kernel
theorem dX3_weightAt_32 : decode cX3_weightAt 32 = .ok (.iconst 2, 1) := by decide +kernel
theorem dX3_weightAt_33 : decode cX3_weightAt 33 = .ok (.if_icmp .ne 22, 3) := by decide +kernel
theorem dX3_weightAt_36 : decode cX3_weightAt 36 = .ok (.aload_n 0, 1) := by decide +kernel
theorem dX3_weightAt_37 : decode cX3_weightAt 37 = .ok (.iload_n 3, 1) := by decide +kernel
theorem dX3_weightAt_38 : decode cX3_weightAt 38 = .ok (.iconst 2, 1) := by decide +kernel
theorem dX3_weightAt_39 : decode cX3_weightAt 39 = .ok (.invokevirtual 47, 3) := by decide +kernel
theorem dX3_weightAt_42 : decode cX3_weightAt 42 = .ok (.ldc2_w 83, 3) := by decide +kernel
theorem dX3_weightAt_45 : decode cX3_weightAt 45 = .ok (.lcmp, 1) := by decide +kernel
theorem dX3_weightAt_46 : decode cX3_weightAt 46 = .ok (.ifCond .ne 9, 3) := by decide +kernel
theorem dX3_weightAt_49 : decode cX3_weightAt 49 = .ok (.sipush 1000, 3) := by decide +kernel
theorem dX3_weightAt_52 : decode cX3_weightAt 52 = .ok (.goto 4, 3) := by decide +kernel
theorem dX3_weightAt_55 : decode cX3_weightAt 55 = .ok (.iconst 0, 1) := by decide +kernel
theorem dX3_weightAt_56 : decode cX3_weightAt 56 = .ok (.ireturn, 1) := by decide +kernel
theorem dX4_init_0 : decode cX4_init 0 = .ok (.aload_n 0, 1) := by decide +kernel
theorem dX4_init_1 : decode cX4_init 1 = .ok (.invokespecial 3, 3) := by decide +kernel
theorem dX4_init_4 : decode cX4_init 4 = .ok (.aload_n 0, 1) := by decide +kernel
theorem dX4_init_5 : decode cX4_init 5 = .ok (.bipush 120, 2) := by decide +kernel
theorem dX4_init_7 : decode cX4_init 7 = .ok (.newarray .byte, 2) := by decide +kernel
theorem dX4_init_9 : decode cX4_init 9 = .ok (.putfield 9, 3) := by decide +kernel
theorem dX4_init_12 : decode cX4_init 12 = .ok (.return_, 1) := by decide +kernel
theorem dX4_append_0 : decode cX4_append 0 = .ok (.aload_n 0, 1) := by decide +kernel
theorem dX4_append_1 : decode cX4_append 1 = .ok (.getfield 15, 3) := by decide +kernel
theorem dX4_append_4 : decode cX4_append 4 = .ok (.bipush 120, 2) := by decide +kernel
theorem dX4_append_6 : decode cX4_append 6 = .ok (.if_icmp .ge 24, 3) := by decide +kernel
theorem dX4_append_9 : decode cX4_append 9 = .ok (.aload_n 0, 1) := by decide +kernel
theorem dX4_append_10 : decode cX4_append 10 = .ok (.getfield 9, 3) := by decide +kernel
theorem dX4_append_13 : decode cX4_append 13 = .ok (.aload_n 0, 1) := by decide +kernel
theorem dX4_append_14 : decode cX4_append 14 = .ok (.getfield 15, 3) := by decide +kernel
theorem dX4_append_17 : decode cX4_append 17 = .ok (.iload_n 1, 1) := by decide +kernel
theorem dX4_append_18 : decode cX4_append 18 = .ok (.i2b, 1) := by decide +kernel
theorem dX4_append_19 : decode cX4_append 19 = .ok (.bastore, 1) := by decide +kernel
theorem dX4_append_20 : decode cX4_append 20 = .ok (.aload_n 0, 1) := by decide +kernel
theorem dX4_append_21 : decode cX4_append 21 = .ok (.dup, 1) := by decide +kernel
theorem dX4_append_22 : decode cX4_append 22 = .ok (.getfield 15, 3) := by decide +kernel
theorem dX4_append_25 : decode cX4_append 25 = .ok (.iconst 1, 1) := by decide +kernel
theorem dX4_append_26 : decode cX4_append 26 = .ok (.iadd, 1) := by decide +kernel
theorem dX4_append_27 : decode cX4_append 27 = .ok (.putfield 15, 3) := by decide +kernel
theorem dX4_append_30 : decode cX4_append 30 = .ok (.aload_n 0, 1) := by decide +kernel
theorem dX4_append_31 : decode cX4_append 31 = .ok (.getfield 15, 3) := by decide +kernel
theorem dX4_append_34 : decode cX4_append 34 = .ok (.ireturn, 1) := by decide +kernel
theorem dX4_byteAt_0 : decode cX4_byteAt 0 = .ok (.iload_n 1, 1) := by decide +kernel
theorem dX4_byteAt_1 : decode cX4_byteAt 1 = .ok (.ifCond .lt 20, 3) := by decide +kernel
theorem dX4_byteAt_4 : decode cX4_byteAt 4 = .ok (.iload_n 1, 1) := by decide +kernel
theorem dX4_byteAt_5 : decode cX4_byteAt 5 = .ok (.aload_n 0, 1) := by decide +kernel
theorem dX4_byteAt_6 : decode cX4_byteAt 6 = .ok (.getfield 15, 3) := by decide +kernel
theorem dX4_byteAt_9 : decode cX4_byteAt 9 = .ok (.if_icmp .ge 12, 3) := by decide +kernel
theorem dX4_byteAt_12 : decode cX4_byteAt 12 = .ok (.aload_n 0, 1) := by decide +kernel
theorem dX4_byteAt_13 : decode cX4_byteAt 13 = .ok (.getfield 9, 3) := by decide +kernel
theorem dX4_byteAt_16 : decode cX4_byteAt 16 = .ok (.iload_n 1, 1) := by decide +kernel
theorem dX4_byteAt_17 : decode cX4_byteAt 17 = .ok (.baload, 1) := by decide +kernel
theorem dX4_byteAt_18 : decode cX4_byteAt 18 = .ok (.goto 4, 3) := by decide +kernel
theorem dX4_byteAt_21 : decode cX4_byteAt 21 = .ok (.iconst (-1), 1) := by decide +kernel
theorem dX4_byteAt_22 : decode cX4_byteAt 22 = .ok (.ireturn, 1) := by decide +kernel
theorem dX5_init_0 : decode cX5_init 0 = .ok (.aload_n 0, 1) := by decide +kernel
theorem dX5_init_1 : decode cX5_init 1 = .ok (.invokespecial 3, 3) := by decide +kernel
theorem dX5_init_4 : decode cX5_init 4 = .ok (.aload_n 0, 1) := by decide +kernel
theorem dX5_init_5 : decode cX5_init 5 = .ok (.new 9, 3) := by decide +kernel
theorem dX5_init_8 : decode cX5_init 8 = .ok (.dup, 1) := by decide +kernel
theorem dX5_init_9 : decode cX5_init 9 = .ok (.invokespecial 11, 3) := by decide +kernel
theorem dX5_init_12 : decode cX5_init 12 = .ok (.putfield 12, 3) := by decide +kernel
theorem dX5_init_15 : decode cX5_init 15 = .ok (.aload_n 0, 1) := by decide +kernel
theorem dX5_init_16 : decode cX5_init 16 = .ok (.new 16, 3) := by decide +kernel
theorem dX5_init_19 : decode cX5_init 19 = .ok (.dup, 1) := by decide +kernel
theorem dX5_init_20 : decode cX5_init 20 = .ok (.aload_n 0, 1) := by decide +kernel
theorem dX5_init_21 : decode cX5_init 21 = .ok (.getfield 12, 3) := by decide +kernel
theorem dX5_init_24 : decode cX5_init 24 = .ok (.invokespecial 18, 3) := by decide +kernel
theorem dX5_init_27 : decode cX5_init 27 = .ok (.putfield 21, 3) := by decide +kernel
theorem dX5_init_30 : decode cX5_init 30 = .ok (.aload_n 0, 1) := by decide +kernel
theorem dX5_init_31 : decode cX5_init 31 = .ok (.new 25, 3) := by decide +kernel
theorem dX5_init_34 : decode cX5_init 34 = .ok (.dup, 1) := by decide +kernel
theorem dX5_init_35 : decode cX5_init 35 = .ok (.invokespecial 27, 3) := by decide +kernel
theorem dX5_init_38 : decode cX5_init 38 = .ok (.putfield 28, 3) := by decide +kernel
theorem dX5_init_41 : decode cX5_init 41 = .ok (.aload_n 0, 1) := by decide +kernel
theorem dX5_init_42 : decode cX5_init 42 = .ok (.new 32, 3) := by decide +kernel
theorem dX5_init_45 : decode cX5_init 45 = .ok (.dup, 1) := by decide +kernel
theorem dX5_init_46 : decode cX5_init 46 = .ok (.aload_n 0, 1) := by decide +kernel
theorem dX5_init_47 : decode cX5_init 47 = .ok (.getfield 28, 3) := by decide +kernel
theorem dX5_init_50 : decode cX5_init 50 = .ok (.invokespecial 34, 3) := by decide +kernel
theorem dX5_init_53 : decode cX5_init 53 = .ok (.putfield 37, 3) := by decide +kernel
theorem dX5_init_56 : decode cX5_init 56 = .ok (.aload_n 0, 1) := by decide +kernel
theorem dX5_init_57 : decode cX5_init 57 = .ok (.new 32, 3) := by decide +kernel
theorem dX5_init_60 : decode cX5_init 60 = .ok (.dup, 1) := by decide +kernel
theorem dX5_init_61 : decode cX5_init 61 = .ok (.aload_n 0, 1) := by decide +kernel
theorem dX5_init_62 : decode cX5_init 62 = .ok (.getfield 28, 3) := by decide +kernel
theorem dX5_init_65 : decode cX5_init 65 = .ok (.invokespecial 34, 3) := by decide +kernel
theorem dX5_init_68 : decode cX5_init 68 = .ok (.putfield 41, 3) := by decide +kernel
theorem dX5_init_71 : decode cX5_init 71 = .ok (.aload_n 0, 1) := by decide +kernel
theorem dX5_init_72 : decode cX5_init 72 = .ok (.new 44, 3) := by decide +kernel
theorem dX5_init_75 : decode cX5_init 75 = .ok (.dup, 1) := by decide +kernel
theorem dX5_init_76 : decode cX5_init 76 = .ok (.aload_n 0, 1) := by decide +kernel
theorem dX5_init_77 : decode cX5_init 77 = .ok (.getfield 28, 3) := by decide +kernel
theorem dX5_init_80 : decode cX5_init 80 = .ok (.invokespecial 46, 3) := by decide +kernel
theorem dX5_init_83 : decode cX5_init 83 = .ok (.putfield 47, 3) := by decide +kernel
theorem dX5_init_86 : decode cX5_init 86 = .ok (.aload_n 0, 1) := by decide +kernel
theorem dX5_init_87 : decode cX5_init 87 = .ok (.iconst 4, 1) := by decide +kernel
theorem dX5_init_88 : decode cX5_init 88 = .ok (.anewarray 25, 3) := by decide +kernel
theorem dX5_init_91 : decode cX5_init 91 = .ok (.putfield 51, 3) := by decide +kernel
theorem dX5_init_94 : decode cX5_init 94 = .ok (.iconst 0, 1) := by decide +kernel
theorem dX5_init_95 : decode cX5_init 95 = .ok (.istore_n 1, 1) := by decide +kernel
theorem dX5_init_96 : decode cX5_init 96 = .ok (.iload_n 1, 1) := by decide +kernel
theorem dX5_init_97 : decode cX5_init 97 = .ok (.iconst 4, 1) := by decide +kernel
theorem dX5_init_98 : decode cX5_init 98 = .ok (.if_icmp .ge 22, 3) := by decide +kernel
theorem dX5_init_101 : decode cX5_init 101 = .ok (.aload_n 0, 1) := by decide +kernel
theorem dX5_init_102 : decode cX5_init 102 = .ok (.getfield 51, 3) := by decide +kernel
theorem dX5_init_105 : decode cX5_init 105 = .ok (.iload_n 1, 1) := by decide +kernel
theorem dX5_init_106 : decode cX5_init 106 = .ok (.new 25, 3) := by decide +kernel
theorem dX5_init_109 : decode cX5_init 109 = .ok (.dup, 1) := by decide +kernel
theorem dX5_init_110 : decode cX5_init 110 = .ok (.invokespecial 27, 3) := by decide +kernel
theorem dX5_init_113 : decode cX5_init 113 = .ok (.aastore, 1) := by decide +kernel
theorem dX5_init_114 : decode cX5_init 114 = .ok (.iinc 1 1, 3) := by decide +kernel
theorem dX5_init_117 : decode cX5_init 117 = .ok (.goto (-21), 3) := by decide +kernel
theorem dX5_init_120 : decode cX5_init 120 = .ok (.aload_n 0, 1) := by decide +kernel
theorem dX5_init_121 : decode cX5_init 121 = .ok (.iconst 0, 1) := by decide +kernel
theorem dX5_init_122 : decode cX5_init 122 = .ok (.putfield 55, 3) := by decide +kernel
theorem dX5_init_125 : decode cX5_init 125 = .ok (.aload_n 0, 1) := by decide +kernel
theorem dX5_init_126 : decode cX5_init 126 = .ok (.iconst 1, 1) := by decide +kernel
theorem dX5_init_127 : decode cX5_init 127 = .ok (.putfield 59, 3) := by decide +kernel
theorem dX5_init_130 : decode cX5_init 130 = .ok (.return_, 1) := by decide +kernel
theorem dX5_type_0 : decode cX5_type 0 = .ok (.iload_n 1, 1) := by decide +kernel
theorem dX5_type_1 : decode cX5_type 1 = .ok (.ifCond .lt 9, 3) := by decide +kernel
theorem dX5_type_4 : decode cX5_type 4 = .ok (.iload_n 1, 1) := by decide +kernel
theorem dX5_type_5 : decode cX5_type 5 = .ok (.bipush 127, 2) := by decide +kernel
theorem dX5_type_7 : decode cX5_type 7 = .ok (.if_icmp .le 13, 3) := by decide +kernel
theorem dX5_type_10 : decode cX5_type 10 = .ok (.new 63, 3) := by decide +kernel
theorem dX5_type_13 : decode cX5_type 13 = .ok (.dup, 1) := by decide +kernel
theorem dX5_type_14 : decode cX5_type 14 = .ok (.ldc 65, 2) := by decide +kernel
theorem dX5_type_16 : decode cX5_type 16 = .ok (.invokespecial 67, 3) := by decide +kernel
theorem dX5_type_19 : decode cX5_type 19 = .ok (.athrow, 1) := by decide +kernel
theorem dX5_type_20 : decode cX5_type 20 = .ok (.aload_n 0, 1) := by decide +kernel
theorem dX5_type_21 : decode cX5_type 21 = .ok (.getfield 12, 3) := by decide +kernel
theorem dX5_type_24 : decode cX5_type 24 = .ok (.getfield 70, 3) := by decide +kernel
theorem dX5_type_27 : decode cX5_type 27 = .ok (.bipush 120, 2) := by decide +kernel
theorem dX5_type_29 : decode cX5_type 29 = .ok (.if_icmp .lt 13, 3) := by decide +kernel
theorem dX5_type_32 : decode cX5_type 32 = .ok (.new 73, 3) := by decide +kernel
theorem dX5_type_35 : decode cX5_type 35 = .ok (.dup, 1) := by decide +kernel
theorem dX5_type_36 : decode cX5_type 36 = .ok (.ldc 75, 2) := by decide +kernel
theorem dX5_type_38 : decode cX5_type 38 = .ok (.invokespecial 77, 3) := by decide +kernel
theorem dX5_type_41 : decode cX5_type 41 = .ok (.athrow, 1) := by decide +kernel
theorem dX5_type_42 : decode cX5_type 42 = .ok (.aload_n 0, 1) := by decide +kernel
theorem dX5_type_43 : decode cX5_type 43 = .ok (.getfield 12, 3) := by decide +kernel
theorem dX5_type_46 : decode cX5_type 46 = .ok (.iload_n 1, 1) := by decide +kernel
theorem dX5_type_47 : decode cX5_type 47 = .ok (.invokevirtual 78, 3) := by decide +kernel
theorem dX5_type_50 : decode cX5_type 50 = .ok (.ireturn, 1) := by decide +kernel
theorem dX5_clearText_0 : decode cX5_clearText 0 = .ok (.aload_n 0, 1) := by decide +kernel
theorem dX5_clearText_1 : decode cX5_clearText 1 = .ok (.getfield 12, 3) := by decide +kernel
theorem dX5_clearText_4 : decode cX5_clearText 4 = .ok (.getfield 70, 3) := by decide +kernel
theorem dX5_clearText_7 : decode cX5_clearText 7 = .ok (.istore_n 1, 1) := by decide +kernel
theorem dX5_clearText_8 : decode cX5_clearText 8 = .ok (.aload_n 0, 1) := by decide +kernel
theorem dX5_clearText_9 : decode cX5_clearText 9 = .ok (.getfield 12, 3) := by decide +kernel
theorem dX5_clearText_12 : decode cX5_clearText 12 = .ok (.iconst 0, 1) := by decide +kernel
theorem dX5_clearText_13 : decode cX5_clearText 13 = .ok (.putfield 70, 3) := by decide +kernel
theorem dX5_clearText_16 : decode cX5_clearText 16 = .ok (.iload_n 1, 1) := by decide +kernel
theorem dX5_clearText_17 : decode cX5_clearText 17 = .ok (.ireturn, 1) := by decide +kernel
theorem dX5_listFault_0 : decode cX5_listFault 0 = .ok (.iconst 0, 1) := by decide +kernel
theorem dX5_listFault_1 : decode cX5_listFault 1 = .ok (.iload_n 1, 1) := by decide +kernel
theorem dX5_listFault_2 : decode cX5_listFault 2 = .ok (.invokestatic 82, 3) := by decide +kernel
theorem dX5_listFault_5 : decode cX5_listFault 5 = .ok (.ifCond .ne 13, 3) := by decide +kernel
theorem dX5_listFault_8 : decode cX5_listFault 8 = .ok (.new 86, 3) := by decide +kernel
theorem dX5_listFault_11 : decode cX5_listFault 11 = .ok (.dup, 1) := by decide +kernel
theorem dX5_listFault_12 : decode cX5_listFault 12 = .ok (.ldc 88, 2) := by decide +kernel
theorem dX5_listFault_14 : decode cX5_listFault 14 = .ok (.invokespecial 90, 3) := by decide +kernel
theorem dX5_listFault_17 : decode cX5_listFault 17 = .ok (.athrow, 1) := by decide +kernel
theorem dX5_listFault_18 : decode cX5_listFault 18 = .ok (.aload_n 0, 1) := by decide +kernel
theorem dX5_listFault_19 : decode cX5_listFault 19 = .ok (.getfield 21, 3) := by decide +kernel
theorem dX5_listFault_22 : decode cX5_listFault 22 = .ok (.iload_n 1, 1) := by decide +kernel
theorem dX5_listFault_23 : decode cX5_listFault 23 = .ok (.invokevirtual 91, 3) := by decide +kernel
theorem dX5_listFault_26 : decode cX5_listFault 26 = .ok (.ireturn, 1) := by decide +kernel
theorem dX5_variantFault_0 : decode cX5_variantFault 0 = .ok (.aload_n 0, 1) := by decide +kernel
theorem dX5_variantFault_1 : decode cX5_variantFault 1 = .ok (.getfield 21, 3) := by decide +kernel
theorem dX5_variantFault_4 : decode cX5_variantFault 4 = .ok (.invokevirtual 94, 3) := by decide +kernel
theorem dX5_variantFault_7 : decode cX5_variantFault 7 = .ok (.ireturn, 1) := by decide +kernel
theorem dX5_takeList_0 : decode cX5_takeList 0 = .ok (.iload_n 1, 1) := by decide +kernel
theorem dX5_takeList_1 : decode cX5_takeList 1 = .ok (.iload_n 2, 1) := by decide +kernel
theorem dX5_takeList_2 : decode cX5_takeList 2 = .ok (.invokestatic 82, 3) := by decide +kernel
theorem dX5_takeList_5 : decode cX5_takeList 5 = .ok (.ifCond .ne 13, 3) := by decide +kernel
theorem dX5_takeList_8 : decode cX5_takeList 8 = .ok (.new 86, 3) := by decide +kernel
theorem dX5_takeList_11 : decode cX5_takeList 11 = .ok (.dup, 1) := by decide +kernel
theorem dX5_takeList_12 : decode cX5_takeList 12 = .ok (.ldc 98, 2) := by decide +kernel
theorem dX5_takeList_14 : decode cX5_takeList 14 = .ok (.invokespecial 90, 3) := by decide +kernel
theorem dX5_takeList_17 : decode cX5_takeList 17 = .ok (.athrow, 1) := by decide +kernel
theorem dX5_takeList_18 : decode cX5_takeList 18 = .ok (.aload_n 0, 1) := by decide +kernel
theorem dX5_takeList_19 : decode cX5_takeList 19 = .ok (.getfield 21, 3) := by decide +kernel
theorem dX5_takeList_22 : decode cX5_takeList 22 = .ok (.iload_n 2, 1) := by decide +kernel
theorem dX5_takeList_23 : decode cX5_takeList 23 = .ok (.invokevirtual 91, 3) := by decide +kernel
theorem dX5_takeList_26 : decode cX5_takeList 26 = .ok (.istore_n 3, 1) := by decide +kernel
theorem dX5_takeList_27 : decode cX5_takeList 27 = .ok (.iload_n 3, 1) := by decide +kernel
theorem dX5_takeList_28 : decode cX5_takeList 28 = .ok (.iconst (-1), 1) := by decide +kernel
theorem dX5_takeList_29 : decode cX5_takeList 29 = .ok (.if_icmp .eq 8, 3) := by decide +kernel
theorem dX5_takeList_32 : decode cX5_takeList 32 = .ok (.bipush (-10), 2) := by decide +kernel
theorem dX5_takeList_34 : decode cX5_takeList 34 = .ok (.iload_n 3, 1) := by decide +kernel
theorem dX5_takeList_35 : decode cX5_takeList 35 = .ok (.isub, 1) := by decide +kernel
theorem dX5_takeList_36 : decode cX5_takeList 36 = .ok (.ireturn, 1) := by decide +kernel
theorem dX5_takeList_37 : decode cX5_takeList 37 = .ok (.aload_n 0, 1) := by decide +kernel
theorem dX5_takeList_38 : decode cX5_takeList 38 = .ok (.invokevirtual 100, 3) := by decide +kernel
theorem dX5_takeList_41 : decode cX5_takeList 41 = .ok (.aload_n 0, 1) := by decide +kernel
theorem dX5_takeList_42 : decode cX5_takeList 42 = .ok (.getfield 28, 3) := by decide +kernel
theorem dX5_takeList_45 : decode cX5_takeList 45 = .ok (.iload_n 1, 1) := by decide +kernel
theorem dX5_takeList_46 : decode cX5_takeList 46 = .ok (.iload_n 2, 1) := by decide +kernel
theorem dX5_takeList_47 : decode cX5_takeList 47 = .ok (.invokestatic 103, 3) := by decide +kernel
theorem dX5_takeList_50 : decode cX5_takeList 50 = .ok (.aload_n 0, 1) := by decide +kernel
theorem dX5_takeList_51 : decode cX5_takeList 51 = .ok (.getfield 21, 3) := by decide +kernel
theorem dX5_takeList_54 : decode cX5_takeList 54 = .ok (.invokevirtual 107, 3) := by decide +kernel
theorem dX5_takeList_57 : decode cX5_takeList 57 = .ok (.ireturn, 1) := by decide +kernel
theorem dX5_addVariant_0 : decode cX5_addVariant 0 = .ok (.aload_n 0, 1) := by decide +kernel
theorem dX5_addVariant_1 : decode cX5_addVariant 1 = .ok (.getfield 21, 3) := by decide +kernel
theorem dX5_addVariant_4 : decode cX5_addVariant 4 = .ok (.invokevirtual 94, 3) := by decide +kernel
theorem dX5_addVariant_7 : decode cX5_addVariant 7 = .ok (.istore_n 1, 1) := by decide +kernel
theorem dX5_addVariant_8 : decode cX5_addVariant 8 = .ok (.iload_n 1, 1) := by decide +kernel
theorem dX5_addVariant_9 : decode cX5_addVariant 9 = .ok (.iconst (-1), 1) := by decide +kernel
theorem dX5_addVariant_10 : decode cX5_addVariant 10 = .ok (.if_icmp .eq 8, 3) := by decide +kernel
theorem dX5_addVariant_13 : decode cX5_addVariant 13 = .ok (.bipush (-10), 2) := by decide +kernel
theorem dX5_addVariant_15 : decode cX5_addVariant 15 = .ok (.iload_n 1, 1) := by decide +kernel
theorem dX5_addVariant_16 : decode cX5_addVariant 16 = .ok (.isub, 1) := by decide +kernel
theorem dX5_addVariant_17 : decode cX5_addVariant 17 = .ok (.ireturn, 1) := by decide +kernel
theorem dX5_addVariant_18 : decode cX5_addVariant 18 = .ok (.aload_n 0, 1) := by decide +kernel
theorem dX5_addVariant_19 : decode cX5_addVariant 19 = .ok (.getfield 28, 3) := by decide +kernel
theorem dX5_addVariant_22 : decode cX5_addVariant 22 = .ok (.getfield 111, 3) := by decide +kernel
theorem dX5_addVariant_25 : decode cX5_addVariant 25 = .ok (.bipush 16, 2) := by decide +kernel
theorem dX5_addVariant_27 : decode cX5_addVariant 27 = .ok (.if_icmp .lt 13, 3) := by decide +kernel
theorem dX5_addVariant_30 : decode cX5_addVariant 30 = .ok (.new 73, 3) := by decide +kernel
theorem dX5_addVariant_33 : decode cX5_addVariant 33 = .ok (.dup, 1) := by decide +kernel
theorem dX5_addVariant_34 : decode cX5_addVariant 34 = .ok (.ldc 114, 2) := by decide +kernel
theorem dX5_addVariant_36 : decode cX5_addVariant 36 = .ok (.invokespecial 77, 3) := by decide +kernel
theorem dX5_addVariant_39 : decode cX5_addVariant 39 = .ok (.athrow, 1) := by decide +kernel
theorem dX5_addVariant_40 : decode cX5_addVariant 40 = .ok (.aload_n 0, 1) := by decide +kernel
theorem dX5_addVariant_41 : decode cX5_addVariant 41 = .ok (.getfield 28, 3) := by decide +kernel
theorem dX5_addVariant_44 : decode cX5_addVariant 44 = .ok (.aload_n 0, 1) := by decide +kernel
theorem dX5_addVariant_45 : decode cX5_addVariant 45 = .ok (.getfield 21, 3) := by decide +kernel
theorem dX5_addVariant_48 : decode cX5_addVariant 48 = .ok (.invokevirtual 116, 3) := by decide +kernel
theorem dX5_addVariant_51 : decode cX5_addVariant 51 = .ok (.ifCond .eq 13, 3) := by decide +kernel
theorem dX5_addVariant_54 : decode cX5_addVariant 54 = .ok (.new 73, 3) := by decide +kernel
theorem dX5_addVariant_57 : decode cX5_addVariant 57 = .ok (.dup, 1) := by decide +kernel
theorem dX5_addVariant_58 : decode cX5_addVariant 58 = .ok (.ldc 120, 2) := by decide +kernel
theorem dX5_addVariant_60 : decode cX5_addVariant 60 = .ok (.invokespecial 77, 3) := by decide +kernel
theorem dX5_addVariant_63 : decode cX5_addVariant 63 = .ok (.athrow, 1) := by decide +kernel
theorem dX5_addVariant_64 : decode cX5_addVariant 64 = .ok (.aload_n 0, 1) := by decide +kernel
theorem dX5_addVariant_65 : decode cX5_addVariant 65 = .ok (.invokevirtual 100, 3) := by decide +kernel
theorem dX5_addVariant_68 : decode cX5_addVariant 68 = .ok (.aload_n 0, 1) := by decide +kernel
theorem dX5_addVariant_69 : decode cX5_addVariant 69 = .ok (.getfield 28, 3) := by decide +kernel
theorem dX5_addVariant_72 : decode cX5_addVariant 72 = .ok (.aload_n 0, 1) := by decide +kernel
theorem dX5_addVariant_73 : decode cX5_addVariant 73 = .ok (.getfield 21, 3) := by decide +kernel
theorem dX5_addVariant_76 : decode cX5_addVariant 76 = .ok (.invokevirtual 122, 3) := by decide +kernel
theorem dX5_addVariant_79 : decode cX5_addVariant 79 = .ok (.ireturn, 1) := by decide +kernel
theorem dX5_removeVariant_0 : decode cX5_removeVariant 0 = .ok (.aload_n 0, 1) := by decide +kernel
theorem dX5_removeVariant_1 : decode cX5_removeVariant 1 = .ok (.getfield 28, 3) := by decide +kernel
theorem dX5_removeVariant_4 : decode cX5_removeVariant 4 = .ok (.iload_n 1, 1) := by decide +kernel
theorem dX5_removeVariant_5 : decode cX5_removeVariant 5 = .ok (.invokevirtual 126, 3) := by decide +kernel
theorem dX5_removeVariant_8 : decode cX5_removeVariant 8 = .ok (.ifCond .ne 13, 3) := by decide +kernel
theorem dX5_removeVariant_11 : decode cX5_removeVariant 11 = .ok (.new 86, 3) := by decide +kernel
theorem dX5_removeVariant_14 : decode cX5_removeVariant 14 = .ok (.dup, 1) := by decide +kernel
theorem dX5_removeVariant_15 : decode cX5_removeVariant 15 = .ok (.ldc 130, 2) := by decide +kernel
theorem dX5_removeVariant_17 : decode cX5_removeVariant 17 = .ok (.invokespecial 90, 3) := by decide +kernel
theorem dX5_removeVariant_20 : decode cX5_removeVariant 20 = .ok (.athrow, 1) := by decide +kernel
theorem dX5_removeVariant_21 : decode cX5_removeVariant 21 = .ok (.aload_n 0, 1) := by decide +kernel
theorem dX5_removeVariant_22 : decode cX5_removeVariant 22 = .ok (.invokevirtual 100, 3) := by decide +kernel
theorem dX5_removeVariant_25 : decode cX5_removeVariant 25 = .ok (.aload_n 0, 1) := by decide +kernel
theorem dX5_removeVariant_26 : decode cX5_removeVariant 26 = .ok (.getfield 28, 3) := by decide +kernel
theorem dX5_removeVariant_29 : decode cX5_removeVariant 29 = .ok (.iload_n 1, 1) := by decide +kernel
theorem dX5_removeVariant_30 : decode cX5_removeVariant 30 = .ok (.invokevirtual 132, 3) := by decide +kernel
theorem dX5_removeVariant_33 : decode cX5_removeVariant 33 = .ok (.ireturn, 1) := by decide +kernel
theorem dX5_setQuality_0 : decode cX5_setQuality 0 = .ok (.aload_n 0, 1) := by decide +kernel
theorem dX5_setQuality_1 : decode cX5_setQuality 1 = .ok (.getfield 28, 3) := by decide +kernel
theorem dX5_setQuality_4 : decode cX5_setQuality 4 = .ok (.iload_n 1, 1) := by decide +kernel
theorem dX5_setQuality_5 : decode cX5_setQuality 5 = .ok (.invokevirtual 126, 3) := by decide +kernel
theorem dX5_setQuality_8 : decode cX5_setQuality 8 = .ok (.ifCond .ne 13, 3) := by decide +kernel
theorem dX5_setQuality_11 : decode cX5_setQuality 11 = .ok (.new 86, 3) := by decide +kernel
theorem dX5_setQuality_14 : decode cX5_setQuality 14 = .ok (.dup, 1) := by decide +kernel
theorem dX5_setQuality_15 : decode cX5_setQuality 15 = .ok (.ldc 130, 2) := by decide +kernel
theorem dX5_setQuality_17 : decode cX5_setQuality 17 = .ok (.invokespecial 90, 3) := by decide +kernel
theorem dX5_setQuality_20 : decode cX5_setQuality 20 = .ok (.athrow, 1) := by decide +kernel
theorem dX5_setQuality_21 : decode cX5_setQuality 21 = .ok (.iload_n 2, 1) := by decide +kernel
theorem dX5_setQuality_22 : decode cX5_setQuality 22 = .ok (.ifCond .lt 10, 3) := by decide +kernel
theorem dX5_setQuality_25 : decode cX5_setQuality 25 = .ok (.iload_n 2, 1) := by decide +kernel
theorem dX5_setQuality_26 : decode cX5_setQuality 26 = .ok (.sipush 1000, 3) := by decide +kernel
theorem dX5_setQuality_29 : decode cX5_setQuality 29 = .ok (.if_icmp .le 13, 3) := by decide +kernel
theorem dX5_setQuality_32 : decode cX5_setQuality 32 = .ok (.new 63, 3) := by decide +kernel
theorem dX5_setQuality_35 : decode cX5_setQuality 35 = .ok (.dup, 1) := by decide +kernel
theorem dX5_setQuality_36 : decode cX5_setQuality 36 = .ok (.ldc 135, 2) := by decide +kernel
theorem dX5_setQuality_38 : decode cX5_setQuality 38 = .ok (.invokespecial 67, 3) := by decide +kernel
theorem dX5_setQuality_41 : decode cX5_setQuality 41 = .ok (.athrow, 1) := by decide +kernel
theorem dX5_setQuality_42 : decode cX5_setQuality 42 = .ok (.aload_n 0, 1) := by decide +kernel
theorem dX5_setQuality_43 : decode cX5_setQuality 43 = .ok (.invokevirtual 100, 3) := by decide +kernel
theorem dX5_setQuality_46 : decode cX5_setQuality 46 = .ok (.aload_n 0, 1) := by decide +kernel
theorem dX5_setQuality_47 : decode cX5_setQuality 47 = .ok (.getfield 28, 3) := by decide +kernel
theorem dX5_setQuality_50 : decode cX5_setQuality 50 = .ok (.getfield 137, 3) := by decide +kernel
theorem dX5_setQuality_53 : decode cX5_setQuality 53 = .ok (.iload_n 1, 1) := by decide +kernel
theorem dX5_setQuality_54 : decode cX5_setQuality 54 = .ok (.iaload, 1) := by decide +kernel
theorem dX5_setQuality_55 : decode cX5_setQuality 55 = .ok (.istore_n 3, 1) := by decide +kernel
theorem dX5_setQuality_56 : decode cX5_setQuality 56 = .ok (.aload_n 0, 1) := by decide +kernel
theorem dX5_setQuality_57 : decode cX5_setQuality 57 = .ok (.getfield 28, 3) := by decide +kernel
theorem dX5_setQuality_60 : decode cX5_setQuality 60 = .ok (.getfield 137, 3) := by decide +kernel
theorem dX5_setQuality_63 : decode cX5_setQuality 63 = .ok (.iload_n 1, 1) := by decide +kernel
theorem dX5_setQuality_64 : decode cX5_setQuality 64 = .ok (.iload_n 2, 1) := by decide +kernel
theorem dX5_setQuality_65 : decode cX5_setQuality 65 = .ok (.iastore, 1) := by decide +kernel
theorem dX5_setQuality_66 : decode cX5_setQuality 66 = .ok (.iload_n 3, 1) := by decide +kernel
theorem dX5_setQuality_67 : decode cX5_setQuality 67 = .ok (.ireturn, 1) := by decide +kernel
theorem dX5_setSize_0 : decode cX5_setSize 0 = .ok (.aload_n 0, 1) := by decide +kernel
theorem dX5_setSize_1 : decode cX5_setSize 1 = .ok (.getfield 28, 3) := by decide +kernel
theorem dX5_setSize_4 : decode cX5_setSize 4 = .ok (.iload_n 1, 1) := by decide +kernel
theorem dX5_setSize_5 : decode cX5_setSize 5 = .ok (.invokevirtual 126, 3) := by decide +kernel
theorem dX5_setSize_8 : decode cX5_setSize 8 = .ok (.ifCond .ne 13, 3) := by decide +kernel
theorem dX5_setSize_11 : decode cX5_setSize 11 = .ok (.new 86, 3) := by decide +kernel
theorem dX5_setSize_14 : decode cX5_setSize 14 = .ok (.dup, 1) := by decide +kernel
theorem dX5_setSize_15 : decode cX5_setSize 15 = .ok (.ldc 130, 2) := by decide +kernel
theorem dX5_setSize_17 : decode cX5_setSize 17 = .ok (.invokespecial 90, 3) := by decide +kernel
theorem dX5_setSize_20 : decode cX5_setSize 20 = .ok (.athrow, 1) := by decide +kernel
theorem dX5_setSize_21 : decode cX5_setSize 21 = .ok (.iload_n 2, 1) := by decide +kernel
theorem dX5_setSize_22 : decode cX5_setSize 22 = .ok (.ifCond .lt 9, 3) := by decide +kernel
theorem dX5_setSize_25 : decode cX5_setSize 25 = .ok (.iload_n 2, 1) := by decide +kernel
theorem dX5_setSize_26 : decode cX5_setSize 26 = .ok (.ldc 141, 2) := by decide +kernel
theorem dX5_setSize_28 : decode cX5_setSize 28 = .ok (.if_icmp .le 13, 3) := by decide +kernel
theorem dX5_setSize_31 : decode cX5_setSize 31 = .ok (.new 63, 3) := by decide +kernel
theorem dX5_setSize_34 : decode cX5_setSize 34 = .ok (.dup, 1) := by decide +kernel
theorem dX5_setSize_35 : decode cX5_setSize 35 = .ok (.ldc 142, 2) := by decide +kernel
theorem dX5_setSize_37 : decode cX5_setSize 37 = .ok (.invokespecial 67, 3) := by decide +kernel
theorem dX5_setSize_40 : decode cX5_setSize 40 = .ok (.athrow, 1) := by decide +kernel
theorem dX5_setSize_41 : decode cX5_setSize 41 = .ok (.aload_n 0, 1) := by decide +kernel
theorem dX5_setSize_42 : decode cX5_setSize 42 = .ok (.invokevirtual 100, 3) := by decide +kernel
theorem dX5_setSize_45 : decode cX5_setSize 45 = .ok (.aload_n 0, 1) := by decide +kernel
theorem dX5_setSize_46 : decode cX5_setSize 46 = .ok (.getfield 28, 3) := by decide +kernel
theorem dX5_setSize_49 : decode cX5_setSize 49 = .ok (.getfield 144, 3) := by decide +kernel
theorem dX5_setSize_52 : decode cX5_setSize 52 = .ok (.iload_n 1, 1) := by decide +kernel
theorem dX5_setSize_53 : decode cX5_setSize 53 = .ok (.iaload, 1) := by decide +kernel
theorem dX5_setSize_54 : decode cX5_setSize 54 = .ok (.istore_n 3, 1) := by decide +kernel
theorem dX5_setSize_55 : decode cX5_setSize 55 = .ok (.aload_n 0, 1) := by decide +kernel
theorem dX5_setSize_56 : decode cX5_setSize 56 = .ok (.getfield 28, 3) := by decide +kernel
theorem dX5_setSize_59 : decode cX5_setSize 59 = .ok (.getfield 144, 3) := by decide +kernel
theorem dX5_setSize_62 : decode cX5_setSize 62 = .ok (.iload_n 1, 1) := by decide +kernel
theorem dX5_setSize_63 : decode cX5_setSize 63 = .ok (.iload_n 2, 1) := by decide +kernel
theorem dX5_setSize_64 : decode cX5_setSize 64 = .ok (.iastore, 1) := by decide +kernel
theorem dX5_setSize_65 : decode cX5_setSize 65 = .ok (.iload_n 3, 1) := by decide +kernel
theorem dX5_setSize_66 : decode cX5_setSize 66 = .ok (.ireturn, 1) := by decide +kernel
theorem dX5_setWeight_0 : decode cX5_setWeight 0 = .ok (.aload_n 0, 1) := by decide +kernel
theorem dX5_setWeight_1 : decode cX5_setWeight 1 = .ok (.iload_n 1, 1) := by decide +kernel
theorem dX5_setWeight_2 : decode cX5_setWeight 2 = .ok (.iload_n 2, 1) := by decide +kernel
theorem dX5_setWeight_3 : decode cX5_setWeight 3 = .ok (.iload_n 3, 1) := by decide +kernel
theorem dX5_setWeight_4 : decode cX5_setWeight 4 = .ok (.invokevirtual 147, 3) := by decide +kernel
theorem dX5_setWeight_7 : decode cX5_setWeight 7 = .ok (.ifCond .ne 13, 3) := by decide +kernel
theorem dX5_setWeight_10 : decode cX5_setWeight 10 = .ok (.new 86, 3) := by decide +kernel
theorem dX5_setWeight_13 : decode cX5_setWeight 13 = .ok (.dup, 1) := by decide +kernel
theorem dX5_setWeight_14 : decode cX5_setWeight 14 = .ok (.ldc 151, 2) := by decide +kernel
theorem dX5_setWeight_16 : decode cX5_setWeight 16 = .ok (.invokespecial 90, 3) := by decide +kernel
theorem dX5_setWeight_19 : decode cX5_setWeight 19 = .ok (.athrow, 1) := by decide +kernel
theorem dX5_setWeight_20 : decode cX5_setWeight 20 = .ok (.iload 4, 2) := by decide +kernel
theorem dX5_setWeight_22 : decode cX5_setWeight 22 = .ok (.ifCond .lt 11, 3) := by decide +kernel
theorem dX5_setWeight_25 : decode cX5_setWeight 25 = .ok (.iload 4, 2) := by decide +kernel
theorem dX5_setWeight_27 : decode cX5_setWeight 27 = .ok (.sipush 1000, 3) := by decide +kernel
theorem dX5_setWeight_30 : decode cX5_setWeight 30 = .ok (.if_icmp .le 13, 3) := by decide +kernel
theorem dX5_setWeight_33 : decode cX5_setWeight 33 = .ok (.new 63, 3) := by decide +kernel
theorem dX5_setWeight_36 : decode cX5_setWeight 36 = .ok (.dup, 1) := by decide +kernel
theorem dX5_setWeight_37 : decode cX5_setWeight 37 = .ok (.ldc 153, 2) := by decide +kernel
theorem dX5_setWeight_39 : decode cX5_setWeight 39 = .ok (.invokespecial 67, 3) := by decide +kernel
theorem dX5_setWeight_42 : decode cX5_setWeight 42 = .ok (.athrow, 1) := by decide +kernel
theorem dX5_setWeight_43 : decode cX5_setWeight 43 = .ok (.aload_n 0, 1) := by decide +kernel
theorem dX5_setWeight_44 : decode cX5_setWeight 44 = .ok (.invokevirtual 100, 3) := by decide +kernel
theorem dX5_setWeight_47 : decode cX5_setWeight 47 = .ok (.iload_n 1, 1) := by decide +kernel
theorem dX5_setWeight_48 : decode cX5_setWeight 48 = .ok (.iload_n 2, 1) := by decide +kernel
theorem dX5_setWeight_49 : decode cX5_setWeight 49 = .ok (.invokestatic 103, 3) := by decide +kernel
theorem dX5_setWeight_52 : decode cX5_setWeight 52 = .ok (.iload_n 3, 1) := by decide +kernel
theorem dX5_setWeight_53 : decode cX5_setWeight 53 = .ok (.invokestatic 155, 3) := by decide +kernel
theorem dX5_setWeight_56 : decode cX5_setWeight 56 = .ok (.istore 5, 2) := by decide +kernel
theorem dX5_setWeight_58 : decode cX5_setWeight 58 = .ok (.aload_n 0, 1) := by decide +kernel
theorem dX5_setWeight_59 : decode cX5_setWeight 59 = .ok (.getfield 28, 3) := by decide +kernel
theorem dX5_setWeight_62 : decode cX5_setWeight 62 = .ok (.getfield 158, 3) := by decide +kernel
theorem dX5_setWeight_65 : decode cX5_setWeight 65 = .ok (.iload 5, 2) := by decide +kernel
theorem dX5_setWeight_67 : decode cX5_setWeight 67 = .ok (.iaload, 1) := by decide +kernel
theorem dX5_setWeight_68 : decode cX5_setWeight 68 = .ok (.istore 6, 2) := by decide +kernel
theorem dX5_setWeight_70 : decode cX5_setWeight 70 = .ok (.aload_n 0, 1) := by decide +kernel
theorem dX5_setWeight_71 : decode cX5_setWeight 71 = .ok (.getfield 28, 3) := by decide +kernel
theorem dX5_setWeight_74 : decode cX5_setWeight 74 = .ok (.getfield 158, 3) := by decide +kernel
theorem dX5_setWeight_77 : decode cX5_setWeight 77 = .ok (.iload 5, 2) := by decide +kernel
theorem dX5_setWeight_79 : decode cX5_setWeight 79 = .ok (.iload 4, 2) := by decide +kernel
theorem dX5_setWeight_81 : decode cX5_setWeight 81 = .ok (.iastore, 1) := by decide +kernel
theorem dX5_setWeight_82 : decode cX5_setWeight 82 = .ok (.iload 6, 2) := by decide +kernel
theorem dX5_setWeight_84 : decode cX5_setWeight 84 = .ok (.ireturn, 1) := by decide +kernel
theorem dX5_removeEntry_0 : decode cX5_removeEntry 0 = .ok (.aload_n 0, 1) := by decide +kernel
theorem dX5_removeEntry_1 : decode cX5_removeEntry 1 = .ok (.iload_n 1, 1) := by decide +kernel
theorem dX5_removeEntry_2 : decode cX5_removeEntry 2 = .ok (.iload_n 2, 1) := by decide +kernel
theorem dX5_removeEntry_3 : decode cX5_removeEntry 3 = .ok (.iload_n 3, 1) := by decide +kernel
theorem dX5_removeEntry_4 : decode cX5_removeEntry 4 = .ok (.invokevirtual 147, 3) := by decide +kernel
theorem dX5_removeEntry_7 : decode cX5_removeEntry 7 = .ok (.ifCond .ne 13, 3) := by decide +kernel
theorem dX5_removeEntry_10 : decode cX5_removeEntry 10 = .ok (.new 86, 3) := by decide +kernel
theorem dX5_removeEntry_13 : decode cX5_removeEntry 13 = .ok (.dup, 1) := by decide +kernel
theorem dX5_removeEntry_14 : decode cX5_removeEntry 14 = .ok (.ldc 151, 2) := by decide +kernel
theorem dX5_removeEntry_16 : decode cX5_removeEntry 16 = .ok (.invokespecial 90, 3) := by decide +kernel
theorem dX5_removeEntry_19 : decode cX5_removeEntry 19 = .ok (.athrow, 1) := by decide +kernel
theorem dX5_removeEntry_20 : decode cX5_removeEntry 20 = .ok (.aload_n 0, 1) := by decide +kernel
theorem dX5_removeEntry_21 : decode cX5_removeEntry 21 = .ok (.invokevirtual 100, 3) := by decide +kernel
theorem dX5_removeEntry_24 : decode cX5_removeEntry 24 = .ok (.aload_n 0, 1) := by decide +kernel
theorem dX5_removeEntry_25 : decode cX5_removeEntry 25 = .ok (.getfield 28, 3) := by decide +kernel
theorem dX5_removeEntry_28 : decode cX5_removeEntry 28 = .ok (.iload_n 1, 1) := by decide +kernel
theorem dX5_removeEntry_29 : decode cX5_removeEntry 29 = .ok (.iload_n 2, 1) := by decide +kernel
theorem dX5_removeEntry_30 : decode cX5_removeEntry 30 = .ok (.invokestatic 103, 3) := by decide +kernel
theorem dX5_removeEntry_33 : decode cX5_removeEntry 33 = .ok (.iload_n 3, 1) := by decide +kernel
theorem dX5_removeEntry_34 : decode cX5_removeEntry 34 = .ok (.invokevirtual 161, 3) := by decide +kernel
theorem dX5_removeEntry_37 : decode cX5_removeEntry 37 = .ok (.ireturn, 1) := by decide +kernel
theorem dX5_swapSides_0 : decode cX5_swapSides 0 = .ok (.aload_n 0, 1) := by decide +kernel
theorem dX5_swapSides_1 : decode cX5_swapSides 1 = .ok (.invokevirtual 100, 3) := by decide +kernel
theorem dX5_swapSides_4 : decode cX5_swapSides 4 = .ok (.iconst 0, 1) := by decide +kernel
theorem dX5_swapSides_5 : decode cX5_swapSides 5 = .ok (.istore_n 1, 1) := by decide +kernel
theorem dX5_swapSides_6 : decode cX5_swapSides 6 = .ok (.iload_n 1, 1) := by decide +kernel
theorem dX5_swapSides_7 : decode cX5_swapSides 7 = .ok (.iconst 3, 1) := by decide +kernel
theorem dX5_swapSides_8 : decode cX5_swapSides 8 = .ok (.if_icmp .ge 26, 3) := by decide +kernel
theorem dX5_swapSides_11 : decode cX5_swapSides 11 = .ok (.aload_n 0, 1) := by decide +kernel
theorem dX5_swapSides_12 : decode cX5_swapSides 12 = .ok (.getfield 28, 3) := by decide +kernel
theorem dX5_swapSides_15 : decode cX5_swapSides 15 = .ok (.iconst 0, 1) := by decide +kernel
theorem dX5_swapSides_16 : decode cX5_swapSides 16 = .ok (.iload_n 1, 1) := by decide +kernel
theorem dX5_swapSides_17 : decode cX5_swapSides 17 = .ok (.invokestatic 103, 3) := by decide +kernel
theorem dX5_swapSides_20 : decode cX5_swapSides 20 = .ok (.iconst 1, 1) := by decide +kernel
theorem dX5_swapSides_21 : decode cX5_swapSides 21 = .ok (.iload_n 1, 1) := by decide +kernel
theorem dX5_swapSides_22 : decode cX5_swapSides 22 = .ok (.invokestatic 103, 3) := by decide +kernel
theorem dX5_swapSides_25 : decode cX5_swapSides 25 = .ok (.invokevirtual 164, 3) := by decide +kernel
theorem dX5_swapSides_28 : decode cX5_swapSides 28 = .ok (.iinc 1 1, 3) := by decide +kernel
theorem dX5_swapSides_31 : decode cX5_swapSides 31 = .ok (.goto (-25), 3) := by decide +kernel
theorem dX5_swapSides_34 : decode cX5_swapSides 34 = .ok (.aload_n 0, 1) := by decide +kernel
theorem dX5_swapSides_35 : decode cX5_swapSides 35 = .ok (.getfield 28, 3) := by decide +kernel
theorem dX5_swapSides_38 : decode cX5_swapSides 38 = .ok (.iconst 0, 1) := by decide +kernel
theorem dX5_swapSides_39 : decode cX5_swapSides 39 = .ok (.invokevirtual 168, 3) := by decide +kernel
theorem dX5_swapSides_42 : decode cX5_swapSides 42 = .ok (.ireturn, 1) := by decide +kernel
theorem dX5_setTies_0 : decode cX5_setTies 0 = .ok (.iload_n 1, 1) := by decide +kernel
theorem dX5_setTies_1 : decode cX5_setTies 1 = .ok (.invokestatic 171, 3) := by decide +kernel
theorem dX5_setTies_4 : decode cX5_setTies 4 = .ok (.ifCond .eq 17, 3) := by decide +kernel
theorem dX5_setTies_7 : decode cX5_setTies 7 = .ok (.iload_n 2, 1) := by decide +kernel
theorem dX5_setTies_8 : decode cX5_setTies 8 = .ok (.invokestatic 171, 3) := by decide +kernel
theorem dX5_setTies_11 : decode cX5_setTies 11 = .ok (.ifCond .eq 10, 3) := by decide +kernel
theorem dX5_setTies_14 : decode cX5_setTies 14 = .ok (.iload_n 3, 1) := by decide +kernel
theorem dX5_setTies_15 : decode cX5_setTies 15 = .ok (.invokestatic 171, 3) := by decide +kernel
theorem dX5_setTies_18 : decode cX5_setTies 18 = .ok (.ifCond .ne 13, 3) := by decide +kernel
theorem dX5_setTies_21 : decode cX5_setTies 21 = .ok (.new 63, 3) := by decide +kernel
theorem dX5_setTies_24 : decode cX5_setTies 24 = .ok (.dup, 1) := by decide +kernel
theorem dX5_setTies_25 : decode cX5_setTies 25 = .ok (.ldc 174, 2) := by decide +kernel
theorem dX5_setTies_27 : decode cX5_setTies 27 = .ok (.invokespecial 67, 3) := by decide +kernel
theorem dX5_setTies_30 : decode cX5_setTies 30 = .ok (.athrow, 1) := by decide +kernel
theorem dX5_setTies_31 : decode cX5_setTies 31 = .ok (.aload_n 0, 1) := by decide +kernel
theorem dX5_setTies_32 : decode cX5_setTies 32 = .ok (.invokevirtual 100, 3) := by decide +kernel
theorem dX5_setTies_35 : decode cX5_setTies 35 = .ok (.bipush 100, 2) := by decide +kernel
theorem dX5_setTies_37 : decode cX5_setTies 37 = .ok (.aload_n 0, 1) := by decide +kernel
theorem dX5_setTies_38 : decode cX5_setTies 38 = .ok (.getfield 28, 3) := by decide +kernel
theorem dX5_setTies_41 : decode cX5_setTies 41 = .ok (.getfield 176, 3) := by decide +kernel
theorem dX5_setTies_44 : decode cX5_setTies 44 = .ok (.iconst 0, 1) := by decide +kernel
theorem dX5_setTies_45 : decode cX5_setTies 45 = .ok (.iaload, 1) := by decide +kernel
theorem dX5_setTies_46 : decode cX5_setTies 46 = .ok (.imul, 1) := by decide +kernel
theorem dX5_setTies_47 : decode cX5_setTies 47 = .ok (.bipush 10, 2) := by decide +kernel
theorem dX5_setTies_49 : decode cX5_setTies 49 = .ok (.aload_n 0, 1) := by decide +kernel
theorem dX5_setTies_50 : decode cX5_setTies 50 = .ok (.getfield 28, 3) := by decide +kernel
theorem dX5_setTies_53 : decode cX5_setTies 53 = .ok (.getfield 176, 3) := by decide +kernel
theorem dX5_setTies_56 : decode cX5_setTies 56 = .ok (.iconst 1, 1) := by decide +kernel
theorem dX5_setTies_57 : decode cX5_setTies 57 = .ok (.iaload, 1) := by decide +kernel
theorem dX5_setTies_58 : decode cX5_setTies 58 = .ok (.imul, 1) := by decide +kernel
theorem dX5_setTies_59 : decode cX5_setTies 59 = .ok (.iadd, 1) := by decide +kernel
theorem dX5_setTies_60 : decode cX5_setTies 60 = .ok (.aload_n 0, 1) := by decide +kernel
theorem dX5_setTies_61 : decode cX5_setTies 61 = .ok (.getfield 28, 3) := by decide +kernel
theorem dX5_setTies_64 : decode cX5_setTies 64 = .ok (.getfield 176, 3) := by decide +kernel
theorem dX5_setTies_67 : decode cX5_setTies 67 = .ok (.iconst 2, 1) := by decide +kernel
theorem dX5_setTies_68 : decode cX5_setTies 68 = .ok (.iaload, 1) := by decide +kernel
theorem dX5_setTies_69 : decode cX5_setTies 69 = .ok (.iadd, 1) := by decide +kernel
theorem dX5_setTies_70 : decode cX5_setTies 70 = .ok (.istore 4, 2) := by decide +kernel
theorem dX5_setTies_72 : decode cX5_setTies 72 = .ok (.aload_n 0, 1) := by decide +kernel
theorem dX5_setTies_73 : decode cX5_setTies 73 = .ok (.getfield 28, 3) := by decide +kernel
theorem dX5_setTies_76 : decode cX5_setTies 76 = .ok (.getfield 176, 3) := by decide +kernel
theorem dX5_setTies_79 : decode cX5_setTies 79 = .ok (.iconst 0, 1) := by decide +kernel
theorem dX5_setTies_80 : decode cX5_setTies 80 = .ok (.iload_n 1, 1) := by decide +kernel
theorem dX5_setTies_81 : decode cX5_setTies 81 = .ok (.iastore, 1) := by decide +kernel
theorem dX5_setTies_82 : decode cX5_setTies 82 = .ok (.aload_n 0, 1) := by decide +kernel
theorem dX5_setTies_83 : decode cX5_setTies 83 = .ok (.getfield 28, 3) := by decide +kernel
theorem dX5_setTies_86 : decode cX5_setTies 86 = .ok (.getfield 176, 3) := by decide +kernel
theorem dX5_setTies_89 : decode cX5_setTies 89 = .ok (.iconst 1, 1) := by decide +kernel
theorem dX5_setTies_90 : decode cX5_setTies 90 = .ok (.iload_n 2, 1) := by decide +kernel
theorem dX5_setTies_91 : decode cX5_setTies 91 = .ok (.iastore, 1) := by decide +kernel
theorem dX5_setTies_92 : decode cX5_setTies 92 = .ok (.aload_n 0, 1) := by decide +kernel
theorem dX5_setTies_93 : decode cX5_setTies 93 = .ok (.getfield 28, 3) := by decide +kernel
theorem dX5_setTies_96 : decode cX5_setTies 96 = .ok (.getfield 176, 3) := by decide +kernel
theorem dX5_setTies_99 : decode cX5_setTies 99 = .ok (.iconst 2, 1) := by decide +kernel
theorem dX5_setTies_100 : decode cX5_setTies 100 = .ok (.iload_n 3, 1) := by decide +kernel
theorem dX5_setTies_101 : decode cX5_setTies 101 = .ok (.iastore, 1) := by decide +kernel
theorem dX5_setTies_102 : decode cX5_setTies 102 = .ok (.iload 4, 2) := by decide +kernel
theorem dX5_setTies_104 : decode cX5_setTies 104 = .ok (.ireturn, 1) := by decide +kernel
theorem dX5_variant_0 : decode cX5_variant 0 = .ok (.aload_n 0, 1) := by decide +kernel
theorem dX5_variant_1 : decode cX5_variant 1 = .ok (.getfield 28, 3) := by decide +kernel
theorem dX5_variant_4 : decode cX5_variant 4 = .ok (.iload_n 1, 1) := by decide +kernel
theorem dX5_variant_5 : decode cX5_variant 5 = .ok (.invokevirtual 126, 3) := by decide +kernel
theorem dX5_variant_8 : decode cX5_variant 8 = .ok (.ifCond .ne 13, 3) := by decide +kernel
theorem dX5_variant_11 : decode cX5_variant 11 = .ok (.new 86, 3) := by decide +kernel
theorem dX5_variant_14 : decode cX5_variant 14 = .ok (.dup, 1) := by decide +kernel
theorem dX5_variant_15 : decode cX5_variant 15 = .ok (.ldc 130, 2) := by decide +kernel
theorem dX5_variant_17 : decode cX5_variant 17 = .ok (.invokespecial 90, 3) := by decide +kernel
theorem dX5_variant_20 : decode cX5_variant 20 = .ok (.athrow, 1) := by decide +kernel
theorem dX5_variant_21 : decode cX5_variant 21 = .ok (.iload_n 2, 1) := by decide +kernel
theorem dX5_variant_22 : decode cX5_variant 22 = .ok (.ifCond .lt 9, 3) := by decide +kernel
theorem dX5_variant_25 : decode cX5_variant 25 = .ok (.iload_n 2, 1) := by decide +kernel
theorem dX5_variant_26 : decode cX5_variant 26 = .ok (.bipush 6, 2) := by decide +kernel
theorem dX5_variant_28 : decode cX5_variant 28 = .ok (.if_icmp .le 13, 3) := by decide +kernel
theorem dX5_variant_31 : decode cX5_variant 31 = .ok (.new 63, 3) := by decide +kernel
theorem dX5_variant_34 : decode cX5_variant 34 = .ok (.dup, 1) := by decide +kernel
theorem dX5_variant_35 : decode cX5_variant 35 = .ok (.ldc 179, 2) := by decide +kernel
theorem dX5_variant_37 : decode cX5_variant 37 = .ok (.invokespecial 67, 3) := by decide +kernel
theorem dX5_variant_40 : decode cX5_variant 40 = .ok (.athrow, 1) := by decide +kernel
theorem dX5_variant_41 : decode cX5_variant 41 = .ok (.aload_n 0, 1) := by decide +kernel
theorem dX5_variant_42 : decode cX5_variant 42 = .ok (.invokevirtual 181, 3) := by decide +kernel
theorem dX5_variant_45 : decode cX5_variant 45 = .ok (.aload_n 0, 1) := by decide +kernel
theorem dX5_variant_46 : decode cX5_variant 46 = .ok (.iload_n 1, 1) := by decide +kernel
theorem dX5_variant_47 : decode cX5_variant 47 = .ok (.iload_n 2, 1) := by decide +kernel
theorem dX5_variant_48 : decode cX5_variant 48 = .ok (.invokevirtual 184, 3) := by decide +kernel
theorem dX5_variant_51 : decode cX5_variant 51 = .ok (.ireturn, 1) := by decide +kernel
theorem dX5_weight_0 : decode cX5_weight 0 = .ok (.iload_n 1, 1) := by decide +kernel
theorem dX5_weight_1 : decode cX5_weight 1 = .ok (.iload_n 2, 1) := by decide +kernel
theorem dX5_weight_2 : decode cX5_weight 2 = .ok (.invokestatic 82, 3) := by decide +kernel
theorem dX5_weight_5 : decode cX5_weight 5 = .ok (.ifCond .eq 14, 3) := by decide +kernel
theorem dX5_weight_8 : decode cX5_weight 8 = .ok (.aload_n 0, 1) := by decide +kernel
theorem dX5_weight_9 : decode cX5_weight 9 = .ok (.getfield 28, 3) := by decide +kernel
theorem dX5_weight_12 : decode cX5_weight 12 = .ok (.iload_n 3, 1) := by decide +kernel
theorem dX5_weight_13 : decode cX5_weight 13 = .ok (.invokevirtual 126, 3) := by decide +kernel
theorem dX5_weight_16 : decode cX5_weight 16 = .ok (.ifCond .ne 13, 3) := by decide +kernel
theorem dX5_weight_19 : decode cX5_weight 19 = .ok (.new 86, 3) := by decide +kernel
theorem dX5_weight_22 : decode cX5_weight 22 = .ok (.dup, 1) := by decide +kernel
theorem dX5_weight_23 : decode cX5_weight 23 = .ok (.ldc 187, 2) := by decide +kernel
theorem dX5_weight_25 : decode cX5_weight 25 = .ok (.invokespecial 90, 3) := by decide +kernel
theorem dX5_weight_28 : decode cX5_weight 28 = .ok (.athrow, 1) := by decide +kernel
theorem dX5_weight_29 : decode cX5_weight 29 = .ok (.aload_n 0, 1) := by decide +kernel
theorem dX5_weight_30 : decode cX5_weight 30 = .ok (.invokevirtual 181, 3) := by decide +kernel
theorem dX5_weight_33 : decode cX5_weight 33 = .ok (.aload_n 0, 1) := by decide +kernel
theorem dX5_weight_34 : decode cX5_weight 34 = .ok (.getfield 37, 3) := by decide +kernel
theorem dX5_weight_37 : decode cX5_weight 37 = .ok (.getfield 189, 3) := by decide +kernel
theorem dX5_weight_40 : decode cX5_weight 40 = .ok (.iload_n 3, 1) := by decide +kernel
theorem dX5_weight_41 : decode cX5_weight 41 = .ok (.iload_n 1, 1) := by decide +kernel
theorem dX5_weight_42 : decode cX5_weight 42 = .ok (.iload_n 2, 1) := by decide +kernel
theorem dX5_weight_43 : decode cX5_weight 43 = .ok (.invokestatic 103, 3) := by decide +kernel
theorem dX5_weight_46 : decode cX5_weight 46 = .ok (.invokestatic 190, 3) := by decide +kernel
theorem dX5_weight_49 : decode cX5_weight 49 = .ok (.iaload, 1) := by decide +kernel
theorem dX5_weight_50 : decode cX5_weight 50 = .ok (.ireturn, 1) := by decide +kernel
theorem dX5_counting_0 : decode cX5_counting 0 = .ok (.iload_n 1, 1) := by decide +kernel
theorem dX5_counting_1 : decode cX5_counting 1 = .ok (.iload_n 2, 1) := by decide +kernel
theorem dX5_counting_2 : decode cX5_counting 2 = .ok (.invokestatic 82, 3) := by decide +kernel
theorem dX5_counting_5 : decode cX5_counting 5 = .ok (.ifCond .eq 14, 3) := by decide +kernel
theorem dX5_counting_8 : decode cX5_counting 8 = .ok (.aload_n 0, 1) := by decide +kernel
theorem dX5_counting_9 : decode cX5_counting 9 = .ok (.getfield 28, 3) := by decide +kernel
theorem dX5_counting_12 : decode cX5_counting 12 = .ok (.iload_n 3, 1) := by decide +kernel
theorem dX5_counting_13 : decode cX5_counting 13 = .ok (.invokevirtual 126, 3) := by decide +kernel
theorem dX5_counting_16 : decode cX5_counting 16 = .ok (.ifCond .ne 13, 3) := by decide +kernel
theorem dX5_counting_19 : decode cX5_counting 19 = .ok (.new 86, 3) := by decide +kernel
theorem dX5_counting_22 : decode cX5_counting 22 = .ok (.dup, 1) := by decide +kernel
theorem dX5_counting_23 : decode cX5_counting 23 = .ok (.ldc 187, 2) := by decide +kernel
theorem dX5_counting_25 : decode cX5_counting 25 = .ok (.invokespecial 90, 3) := by decide +kernel
theorem dX5_counting_28 : decode cX5_counting 28 = .ok (.athrow, 1) := by decide +kernel
theorem dX5_counting_29 : decode cX5_counting 29 = .ok (.aload_n 0, 1) := by decide +kernel
theorem dX5_counting_30 : decode cX5_counting 30 = .ok (.invokevirtual 181, 3) := by decide +kernel
theorem dX5_counting_33 : decode cX5_counting 33 = .ok (.aload_n 0, 1) := by decide +kernel
theorem dX5_counting_34 : decode cX5_counting 34 = .ok (.getfield 37, 3) := by decide +kernel
theorem dX5_counting_37 : decode cX5_counting 37 = .ok (.getfield 193, 3) := by decide +kernel
theorem dX5_counting_40 : decode cX5_counting 40 = .ok (.iload_n 3, 1) := by decide +kernel
theorem dX5_counting_41 : decode cX5_counting 41 = .ok (.iload_n 1, 1) := by decide +kernel
theorem dX5_counting_42 : decode cX5_counting 42 = .ok (.iload_n 2, 1) := by decide +kernel
theorem dX5_counting_43 : decode cX5_counting 43 = .ok (.invokestatic 103, 3) := by decide +kernel
theorem dX5_counting_46 : decode cX5_counting 46 = .ok (.invokestatic 190, 3) := by decide +kernel
theorem dX5_counting_49 : decode cX5_counting 49 = .ok (.iaload, 1) := by decide +kernel
theorem dX5_counting_50 : decode cX5_counting 50 = .ok (.ireturn, 1) := by decide +kernel
theorem dX5_entry_0 : decode cX5_entry 0 = .ok (.aload_n 0, 1) := by decide +kernel
theorem dX5_entry_1 : decode cX5_entry 1 = .ok (.iload_n 1, 1) := by decide +kernel
theorem dX5_entry_2 : decode cX5_entry 2 = .ok (.iload_n 2, 1) := by decide +kernel
theorem dX5_entry_3 : decode cX5_entry 3 = .ok (.iload_n 3, 1) := by decide +kernel
theorem dX5_entry_4 : decode cX5_entry 4 = .ok (.invokevirtual 147, 3) := by decide +kernel
theorem dX5_entry_7 : decode cX5_entry 7 = .ok (.ifCond .ne 13, 3) := by decide +kernel
theorem dX5_entry_10 : decode cX5_entry 10 = .ok (.new 86, 3) := by decide +kernel
theorem dX5_entry_13 : decode cX5_entry 13 = .ok (.dup, 1) := by decide +kernel
theorem dX5_entry_14 : decode cX5_entry 14 = .ok (.ldc 151, 2) := by decide +kernel
theorem dX5_entry_16 : decode cX5_entry 16 = .ok (.invokespecial 90, 3) := by decide +kernel
theorem dX5_entry_19 : decode cX5_entry 19 = .ok (.athrow, 1) := by decide +kernel
theorem dX5_entry_20 : decode cX5_entry 20 = .ok (.iload 4, 2) := by decide +kernel
theorem dX5_entry_22 : decode cX5_entry 22 = .ok (.ifCond .lt 9, 3) := by decide +kernel
theorem dX5_entry_25 : decode cX5_entry 25 = .ok (.iload 4, 2) := by decide +kernel
theorem dX5_entry_27 : decode cX5_entry 27 = .ok (.iconst 3, 1) := by decide +kernel
theorem dX5_entry_28 : decode cX5_entry 28 = .ok (.if_icmp .le 13, 3) := by decide +kernel
theorem dX5_entry_31 : decode cX5_entry 31 = .ok (.new 63, 3) := by decide +kernel
theorem dX5_entry_34 : decode cX5_entry 34 = .ok (.dup, 1) := by decide +kernel
theorem dX5_entry_35 : decode cX5_entry 35 = .ok (.ldc 179, 2) := by decide +kernel
theorem dX5_entry_37 : decode cX5_entry 37 = .ok (.invokespecial 67, 3) := by decide +kernel
theorem dX5_entry_40 : decode cX5_entry 40 = .ok (.athrow, 1) := by decide +kernel
theorem dX5_entry_41 : decode cX5_entry 41 = .ok (.aload_n 0, 1) := by decide +kernel
theorem dX5_entry_42 : decode cX5_entry 42 = .ok (.invokevirtual 181, 3) := by decide +kernel
theorem dX5_entry_45 : decode cX5_entry 45 = .ok (.aload_n 0, 1) := by decide +kernel
theorem dX5_entry_46 : decode cX5_entry 46 = .ok (.iload_n 1, 1) := by decide +kernel
theorem dX5_entry_47 : decode cX5_entry 47 = .ok (.iload_n 2, 1) := by decide +kernel
theorem dX5_entry_48 : decode cX5_entry 48 = .ok (.invokestatic 103, 3) := by decide +kernel
theorem dX5_entry_51 : decode cX5_entry 51 = .ok (.iload_n 3, 1) := by decide +kernel
theorem dX5_entry_52 : decode cX5_entry 52 = .ok (.iload 4, 2) := by decide +kernel
theorem dX5_entry_54 : decode cX5_entry 54 = .ok (.invokevirtual 196, 3) := by decide +kernel
theorem dX5_entry_57 : decode cX5_entry 57 = .ok (.ireturn, 1) := by decide +kernel
theorem dX5_ranked_0 : decode cX5_ranked 0 = .ok (.iload_n 1, 1) := by decide +kernel
theorem dX5_ranked_1 : decode cX5_ranked 1 = .ok (.ifCond .ge 13, 3) := by decide +kernel
theorem dX5_ranked_4 : decode cX5_ranked 4 = .ok (.new 63, 3) := by decide +kernel
theorem dX5_ranked_7 : decode cX5_ranked 7 = .ok (.dup, 1) := by decide +kernel
theorem dX5_ranked_8 : decode cX5_ranked 8 = .ok (.ldc 200, 2) := by decide +kernel
theorem dX5_ranked_10 : decode cX5_ranked 10 = .ok (.invokespecial 67, 3) := by decide +kernel
theorem dX5_ranked_13 : decode cX5_ranked 13 = .ok (.athrow, 1) := by decide +kernel
theorem dX5_ranked_14 : decode cX5_ranked 14 = .ok (.aload_n 0, 1) := by decide +kernel
theorem dX5_ranked_15 : decode cX5_ranked 15 = .ok (.invokevirtual 181, 3) := by decide +kernel
theorem dX5_ranked_18 : decode cX5_ranked 18 = .ok (.aload_n 0, 1) := by decide +kernel
theorem dX5_ranked_19 : decode cX5_ranked 19 = .ok (.getfield 37, 3) := by decide +kernel
theorem dX5_ranked_22 : decode cX5_ranked 22 = .ok (.iload_n 1, 1) := by decide +kernel
theorem dX5_ranked_23 : decode cX5_ranked 23 = .ok (.invokevirtual 202, 3) := by decide +kernel
theorem dX5_ranked_26 : decode cX5_ranked 26 = .ok (.ireturn, 1) := by decide +kernel
theorem dX5_whole_0 : decode cX5_whole 0 = .ok (.iload_n 1, 1) := by decide +kernel
theorem dX5_whole_1 : decode cX5_whole 1 = .ok (.ifCond .lt 9, 3) := by decide +kernel
theorem dX5_whole_4 : decode cX5_whole 4 = .ok (.iload_n 1, 1) := by decide +kernel
theorem dX5_whole_5 : decode cX5_whole 5 = .ok (.bipush 10, 2) := by decide +kernel
theorem dX5_whole_7 : decode cX5_whole 7 = .ok (.if_icmp .le 13, 3) := by decide +kernel
theorem dX5_whole_10 : decode cX5_whole 10 = .ok (.new 63, 3) := by decide +kernel
theorem dX5_whole_13 : decode cX5_whole 13 = .ok (.dup, 1) := by decide +kernel
theorem dX5_whole_14 : decode cX5_whole 14 = .ok (.ldc 179, 2) := by decide +kernel
theorem dX5_whole_16 : decode cX5_whole 16 = .ok (.invokespecial 67, 3) := by decide +kernel
theorem dX5_whole_19 : decode cX5_whole 19 = .ok (.athrow, 1) := by decide +kernel
theorem dX5_whole_20 : decode cX5_whole 20 = .ok (.aload_n 0, 1) := by decide +kernel
theorem dX5_whole_21 : decode cX5_whole 21 = .ok (.invokevirtual 181, 3) := by decide +kernel
theorem dX5_whole_24 : decode cX5_whole 24 = .ok (.aload_n 0, 1) := by decide +kernel
theorem dX5_whole_25 : decode cX5_whole 25 = .ok (.iload_n 1, 1) := by decide +kernel
theorem dX5_whole_26 : decode cX5_whole 26 = .ok (.invokevirtual 205, 3) := by decide +kernel
theorem dX5_whole_29 : decode cX5_whole 29 = .ok (.ireturn, 1) := by decide +kernel
theorem dX5_listed_0 : decode cX5_listed 0 = .ok (.iload_n 1, 1) := by decide +kernel
theorem dX5_listed_1 : decode cX5_listed 1 = .ok (.ifCond .ge 13, 3) := by decide +kernel
theorem dX5_listed_4 : decode cX5_listed 4 = .ok (.new 63, 3) := by decide +kernel
theorem dX5_listed_7 : decode cX5_listed 7 = .ok (.dup, 1) := by decide +kernel
theorem dX5_listed_8 : decode cX5_listed 8 = .ok (.ldc 200, 2) := by decide +kernel
theorem dX5_listed_10 : decode cX5_listed 10 = .ok (.invokespecial 67, 3) := by decide +kernel
theorem dX5_listed_13 : decode cX5_listed 13 = .ok (.athrow, 1) := by decide +kernel
theorem dX5_listed_14 : decode cX5_listed 14 = .ok (.aload_n 0, 1) := by decide +kernel
theorem dX5_listed_15 : decode cX5_listed 15 = .ok (.invokevirtual 181, 3) := by decide +kernel
theorem dX5_listed_18 : decode cX5_listed 18 = .ok (.aload_n 0, 1) := by decide +kernel
theorem dX5_listed_19 : decode cX5_listed 19 = .ok (.getfield 47, 3) := by decide +kernel
theorem dX5_listed_22 : decode cX5_listed 22 = .ok (.iload_n 1, 1) := by decide +kernel
theorem dX5_listed_23 : decode cX5_listed 23 = .ok (.invokevirtual 208, 3) := by decide +kernel
theorem dX5_listed_26 : decode cX5_listed 26 = .ok (.ireturn, 1) := by decide +kernel
theorem dX5_listingByte_0 : decode cX5_listingByte 0 = .ok (.iload_n 1, 1) := by decide +kernel
theorem dX5_listingByte_1 : decode cX5_listingByte 1 = .ok (.ifCond .ge 13, 3) := by decide +kernel
theorem dX5_listingByte_4 : decode cX5_listingByte 4 = .ok (.new 63, 3) := by decide +kernel
theorem dX5_listingByte_7 : decode cX5_listingByte 7 = .ok (.dup, 1) := by decide +kernel
theorem dX5_listingByte_8 : decode cX5_listingByte 8 = .ok (.ldc 209, 2) := by decide +kernel
theorem dX5_listingByte_10 : decode cX5_listingByte 10 = .ok (.invokespecial 67, 3) := by decide +kernel
theorem dX5_listingByte_13 : decode cX5_listingByte 13 = .ok (.athrow, 1) := by decide +kernel
theorem dX5_listingByte_14 : decode cX5_listingByte 14 = .ok (.aload_n 0, 1) := by decide +kernel
theorem dX5_listingByte_15 : decode cX5_listingByte 15 = .ok (.invokevirtual 181, 3) := by decide +kernel
theorem dX5_listingByte_18 : decode cX5_listingByte 18 = .ok (.aload_n 0, 1) := by decide +kernel
theorem dX5_listingByte_19 : decode cX5_listingByte 19 = .ok (.getfield 47, 3) := by decide +kernel
theorem dX5_listingByte_22 : decode cX5_listingByte 22 = .ok (.iload_n 1, 1) := by decide +kernel
theorem dX5_listingByte_23 : decode cX5_listingByte 23 = .ok (.invokevirtual 211, 3) := by decide +kernel
theorem dX5_listingByte_26 : decode cX5_listingByte 26 = .ok (.ireturn, 1) := by decide +kernel
theorem dX5_servedFor_0 : decode cX5_servedFor 0 = .ok (.iload_n 1, 1) := by decide +kernel
theorem dX5_servedFor_1 : decode cX5_servedFor 1 = .ok (.ifCond .lt 8, 3) := by decide +kernel
theorem dX5_servedFor_4 : decode cX5_servedFor 4 = .ok (.iload_n 1, 1) := by decide +kernel
theorem dX5_servedFor_5 : decode cX5_servedFor 5 = .ok (.iconst 2, 1) := by decide +kernel
theorem dX5_servedFor_6 : decode cX5_servedFor 6 = .ok (.if_icmp .lt 13, 3) := by decide +kernel
theorem dX5_servedFor_9 : decode cX5_servedFor 9 = .ok (.new 86, 3) := by decide +kernel
theorem dX5_servedFor_12 : decode cX5_servedFor 12 = .ok (.dup, 1) := by decide +kernel
theorem dX5_servedFor_13 : decode cX5_servedFor 13 = .ok (.ldc 214, 2) := by decide +kernel
theorem dX5_servedFor_15 : decode cX5_servedFor 15 = .ok (.invokespecial 90, 3) := by decide +kernel
theorem dX5_servedFor_18 : decode cX5_servedFor 18 = .ok (.athrow, 1) := by decide +kernel
theorem dX5_servedFor_19 : decode cX5_servedFor 19 = .ok (.aload_n 0, 1) := by decide +kernel
theorem dX5_servedFor_20 : decode cX5_servedFor 20 = .ok (.iconst 1, 1) := by decide +kernel
theorem dX5_servedFor_21 : decode cX5_servedFor 21 = .ok (.iload_n 1, 1) := by decide +kernel
theorem dX5_servedFor_22 : decode cX5_servedFor 22 = .ok (.isub, 1) := by decide +kernel
theorem dX5_servedFor_23 : decode cX5_servedFor 23 = .ok (.invokevirtual 216, 3) := by decide +kernel
theorem dX5_servedFor_26 : decode cX5_servedFor 26 = .ok (.ireturn, 1) := by decide +kernel
theorem dX5_servedWithout_0 : decode cX5_servedWithout 0 = .ok (.aload_n 0, 1) := by decide +kernel
theorem dX5_servedWithout_1 : decode cX5_servedWithout 1 = .ok (.getfield 28, 3) := by decide +kernel
theorem dX5_servedWithout_4 : decode cX5_servedWithout 4 = .ok (.iload_n 1, 1) := by decide +kernel
theorem dX5_servedWithout_5 : decode cX5_servedWithout 5 = .ok (.invokevirtual 126, 3) := by decide +kernel
theorem dX5_servedWithout_8 : decode cX5_servedWithout 8 = .ok (.ifCond .ne 13, 3) := by decide +kernel
theorem dX5_servedWithout_11 : decode cX5_servedWithout 11 = .ok (.new 86, 3) := by decide +kernel
theorem dX5_servedWithout_14 : decode cX5_servedWithout 14 = .ok (.dup, 1) := by decide +kernel
theorem dX5_servedWithout_15 : decode cX5_servedWithout 15 = .ok (.ldc 130, 2) := by decide +kernel
theorem dX5_servedWithout_17 : decode cX5_servedWithout 17 = .ok (.invokespecial 90, 3) := by decide +kernel
theorem dX5_servedWithout_20 : decode cX5_servedWithout 20 = .ok (.athrow, 1) := by decide +kernel
theorem dX5_servedWithout_21 : decode cX5_servedWithout 21 = .ok (.aload_n 0, 1) := by decide +kernel
theorem dX5_servedWithout_22 : decode cX5_servedWithout 22 = .ok (.invokevirtual 181, 3) := by decide +kernel
theorem dX5_servedWithout_25 : decode cX5_servedWithout 25 = .ok (.aload_n 0, 1) := by decide +kernel
theorem dX5_servedWithout_26 : decode cX5_servedWithout 26 = .ok (.getfield 37, 3) := by decide +kernel
theorem dX5_servedWithout_29 : decode cX5_servedWithout 29 = .ok (.iconst 0, 1) := by decide +kernel
theorem dX5_servedWithout_30 : decode cX5_servedWithout 30 = .ok (.invokevirtual 202, 3) := by decide +kernel
theorem dX5_servedWithout_33 : decode cX5_servedWithout 33 = .ok (.istore_n 2, 1) := by decide +kernel
theorem dX5_servedWithout_34 : decode cX5_servedWithout 34 = .ok (.iload_n 2, 1) := by decide +kernel
theorem dX5_servedWithout_35 : decode cX5_servedWithout 35 = .ok (.iload_n 1, 1) := by decide +kernel
theorem dX5_servedWithout_36 : decode cX5_servedWithout 36 = .ok (.if_icmp .ne 14, 3) := by decide +kernel
theorem dX5_servedWithout_39 : decode cX5_servedWithout 39 = .ok (.aload_n 0, 1) := by decide +kernel
theorem dX5_servedWithout_40 : decode cX5_servedWithout 40 = .ok (.getfield 37, 3) := by decide +kernel
theorem dX5_servedWithout_43 : decode cX5_servedWithout 43 = .ok (.iconst 1, 1) := by decide +kernel
theorem dX5_servedWithout_44 : decode cX5_servedWithout 44 = .ok (.invokevirtual 202, 3) := by decide +kernel
theorem dX5_servedWithout_47 : decode cX5_servedWithout 47 = .ok (.goto 4, 3) := by decide +kernel
theorem dX5_servedWithout_50 : decode cX5_servedWithout 50 = .ok (.iload_n 2, 1) := by decide +kernel
theorem dX5_servedWithout_51 : decode cX5_servedWithout 51 = .ok (.ireturn, 1) := by decide +kernel
theorem dX5_leastWeight_0 : decode cX5_leastWeight 0 = .ok (.aload_n 0, 1) := by decide +kernel
theorem dX5_leastWeight_1 : decode cX5_leastWeight 1 = .ok (.iload_n 1, 1) := by decide +kernel
theorem dX5_leastWeight_2 : decode cX5_leastWeight 2 = .ok (.iload_n 2, 1) := by decide +kernel
theorem dX5_leastWeight_3 : decode cX5_leastWeight 3 = .ok (.iload_n 3, 1) := by decide +kernel
theorem dX5_leastWeight_4 : decode cX5_leastWeight 4 = .ok (.invokevirtual 147, 3) := by decide +kernel
theorem dX5_leastWeight_7 : decode cX5_leastWeight 7 = .ok (.ifCond .eq 15, 3) := by decide +kernel
theorem dX5_leastWeight_10 : decode cX5_leastWeight 10 = .ok (.aload_n 0, 1) := by decide +kernel
theorem dX5_leastWeight_11 : decode cX5_leastWeight 11 = .ok (.getfield 28, 3) := by decide +kernel
theorem dX5_leastWeight_14 : decode cX5_leastWeight 14 = .ok (.iload 4, 2) := by decide +kernel
theorem dX5_leastWeight_16 : decode cX5_leastWeight 16 = .ok (.invokevirtual 126, 3) := by decide +kernel
theorem dX5_leastWeight_19 : decode cX5_leastWeight 19 = .ok (.ifCond .ne 13, 3) := by decide +kernel
theorem dX5_leastWeight_22 : decode cX5_leastWeight 22 = .ok (.new 86, 3) := by decide +kernel
theorem dX5_leastWeight_25 : decode cX5_leastWeight 25 = .ok (.dup, 1) := by decide +kernel
theorem dX5_leastWeight_26 : decode cX5_leastWeight 26 = .ok (.ldc 219, 2) := by decide +kernel
theorem dX5_leastWeight_28 : decode cX5_leastWeight 28 = .ok (.invokespecial 90, 3) := by decide +kernel
theorem dX5_leastWeight_31 : decode cX5_leastWeight 31 = .ok (.athrow, 1) := by decide +kernel
theorem dX5_leastWeight_32 : decode cX5_leastWeight 32 = .ok (.aload_n 0, 1) := by decide +kernel
theorem dX5_leastWeight_33 : decode cX5_leastWeight 33 = .ok (.invokevirtual 181, 3) := by decide +kernel
theorem dX5_leastWeight_36 : decode cX5_leastWeight 36 = .ok (.aload_n 0, 1) := by decide +kernel
theorem dX5_leastWeight_37 : decode cX5_leastWeight 37 = .ok (.getfield 37, 3) := by decide +kernel
theorem dX5_leastWeight_40 : decode cX5_leastWeight 40 = .ok (.iload_n 1, 1) := by decide +kernel
theorem dX5_leastWeight_41 : decode cX5_leastWeight 41 = .ok (.iload_n 2, 1) := by decide +kernel
theorem dX5_leastWeight_42 : decode cX5_leastWeight 42 = .ok (.invokestatic 103, 3) := by decide +kernel
theorem dX5_leastWeight_45 : decode cX5_leastWeight 45 = .ok (.iload_n 3, 1) := by decide +kernel
theorem dX5_leastWeight_46 : decode cX5_leastWeight 46 = .ok (.iload 4, 2) := by decide +kernel
theorem dX5_leastWeight_48 : decode cX5_leastWeight 48 = .ok (.invokevirtual 221, 3) := by decide +kernel
theorem dX5_leastWeight_51 : decode cX5_leastWeight 51 = .ok (.ireturn, 1) := by decide +kernel
theorem dX5_leastQuality_0 : decode cX5_leastQuality 0 = .ok (.aload_n 0, 1) := by decide +kernel
theorem dX5_leastQuality_1 : decode cX5_leastQuality 1 = .ok (.getfield 28, 3) := by decide +kernel
theorem dX5_leastQuality_4 : decode cX5_leastQuality 4 = .ok (.iload_n 1, 1) := by decide +kernel
theorem dX5_leastQuality_5 : decode cX5_leastQuality 5 = .ok (.invokevirtual 126, 3) := by decide +kernel
theorem dX5_leastQuality_8 : decode cX5_leastQuality 8 = .ok (.ifCond .ne 13, 3) := by decide +kernel
theorem dX5_leastQuality_11 : decode cX5_leastQuality 11 = .ok (.new 86, 3) := by decide +kernel
theorem dX5_leastQuality_14 : decode cX5_leastQuality 14 = .ok (.dup, 1) := by decide +kernel
theorem dX5_leastQuality_15 : decode cX5_leastQuality 15 = .ok (.ldc 130, 2) := by decide +kernel
theorem dX5_leastQuality_17 : decode cX5_leastQuality 17 = .ok (.invokespecial 90, 3) := by decide +kernel
theorem dX5_leastQuality_20 : decode cX5_leastQuality 20 = .ok (.athrow, 1) := by decide +kernel
theorem dX5_leastQuality_21 : decode cX5_leastQuality 21 = .ok (.aload_n 0, 1) := by decide +kernel
theorem dX5_leastQuality_22 : decode cX5_leastQuality 22 = .ok (.invokevirtual 181, 3) := by decide +kernel
theorem dX5_leastQuality_25 : decode cX5_leastQuality 25 = .ok (.aload_n 0, 1) := by decide +kernel
theorem dX5_leastQuality_26 : decode cX5_leastQuality 26 = .ok (.getfield 37, 3) := by decide +kernel
theorem dX5_leastQuality_29 : decode cX5_leastQuality 29 = .ok (.iload_n 1, 1) := by decide +kernel
theorem dX5_leastQuality_30 : decode cX5_leastQuality 30 = .ok (.invokevirtual 224, 3) := by decide +kernel
theorem dX5_leastQuality_33 : decode cX5_leastQuality 33 = .ok (.ireturn, 1) := by decide +kernel
theorem dX5_agree_0 : decode cX5_agree 0 = .ok (.aload_n 0, 1) := by decide +kernel
theorem dX5_agree_1 : decode cX5_agree 1 = .ok (.iconst 1, 1) := by decide +kernel
theorem dX5_agree_2 : decode cX5_agree 2 = .ok (.invokevirtual 216, 3) := by decide +kernel
theorem dX5_agree_5 : decode cX5_agree 5 = .ok (.aload_n 0, 1) := by decide +kernel
theorem dX5_agree_6 : decode cX5_agree 6 = .ok (.iconst 0, 1) := by decide +kernel
theorem dX5_agree_7 : decode cX5_agree 7 = .ok (.invokevirtual 216, 3) := by decide +kernel
theorem dX5_agree_10 : decode cX5_agree 10 = .ok (.if_icmp .ne 7, 3) := by decide +kernel
theorem dX5_agree_13 : decode cX5_agree 13 = .ok (.iconst 1, 1) := by decide +kernel
theorem dX5_agree_14 : decode cX5_agree 14 = .ok (.goto 4, 3) := by decide +kernel
theorem dX5_agree_17 : decode cX5_agree 17 = .ok (.iconst 0, 1) := by decide +kernel
theorem dX5_agree_18 : decode cX5_agree 18 = .ok (.ireturn, 1) := by decide +kernel
theorem dX5_undo_0 : decode cX5_undo 0 = .ok (.aload_n 0, 1) := by decide +kernel
theorem dX5_undo_1 : decode cX5_undo 1 = .ok (.getfield 55, 3) := by decide +kernel
theorem dX5_undo_4 : decode cX5_undo 4 = .ok (.ifCond .gt 13, 3) := by decide +kernel
theorem dX5_undo_7 : decode cX5_undo 7 = .ok (.new 73, 3) := by decide +kernel
theorem dX5_undo_10 : decode cX5_undo 10 = .ok (.dup, 1) := by decide +kernel
theorem dX5_undo_11 : decode cX5_undo 11 = .ok (.ldc 227, 2) := by decide +kernel
theorem dX5_undo_13 : decode cX5_undo 13 = .ok (.invokespecial 77, 3) := by decide +kernel
theorem dX5_undo_16 : decode cX5_undo 16 = .ok (.athrow, 1) := by decide +kernel
theorem dX5_undo_17 : decode cX5_undo 17 = .ok (.aload_n 0, 1) := by decide +kernel
theorem dX5_undo_18 : decode cX5_undo 18 = .ok (.dup, 1) := by decide +kernel
theorem dX5_undo_19 : decode cX5_undo 19 = .ok (.getfield 55, 3) := by decide +kernel
theorem dX5_undo_22 : decode cX5_undo 22 = .ok (.iconst 1, 1) := by decide +kernel
theorem dX5_undo_23 : decode cX5_undo 23 = .ok (.isub, 1) := by decide +kernel
theorem dX5_undo_24 : decode cX5_undo 24 = .ok (.putfield 55, 3) := by decide +kernel
theorem dX5_undo_27 : decode cX5_undo 27 = .ok (.aload_n 0, 1) := by decide +kernel
theorem dX5_undo_28 : decode cX5_undo 28 = .ok (.getfield 28, 3) := by decide +kernel
theorem dX5_undo_31 : decode cX5_undo 31 = .ok (.aload_n 0, 1) := by decide +kernel
theorem dX5_undo_32 : decode cX5_undo 32 = .ok (.getfield 51, 3) := by decide +kernel
theorem dX5_undo_35 : decode cX5_undo 35 = .ok (.aload_n 0, 1) := by decide +kernel
theorem dX5_undo_36 : decode cX5_undo 36 = .ok (.getfield 55, 3) := by decide +kernel
theorem dX5_undo_39 : decode cX5_undo 39 = .ok (.aaload, 1) := by decide +kernel
theorem dX5_undo_40 : decode cX5_undo 40 = .ok (.invokevirtual 229, 3) := by decide +kernel
theorem dX5_undo_43 : decode cX5_undo 43 = .ok (.aload_n 0, 1) := by decide +kernel
theorem dX5_undo_44 : decode cX5_undo 44 = .ok (.iconst 1, 1) := by decide +kernel
theorem dX5_undo_45 : decode cX5_undo 45 = .ok (.putfield 59, 3) := by decide +kernel
theorem dX5_undo_48 : decode cX5_undo 48 = .ok (.aload_n 0, 1) := by decide +kernel
theorem dX5_undo_49 : decode cX5_undo 49 = .ok (.getfield 55, 3) := by decide +kernel
theorem dX5_undo_52 : decode cX5_undo 52 = .ok (.ireturn, 1) := by decide +kernel
theorem dX5_digest_0 : decode cX5_digest 0 = .ok (.aload_n 0, 1) := by decide +kernel
theorem dX5_digest_1 : decode cX5_digest 1 = .ok (.invokevirtual 181, 3) := by decide +kernel
theorem dX5_digest_4 : decode cX5_digest 4 = .ok (.ldc2_w 232, 3) := by decide +kernel
theorem dX5_digest_7 : decode cX5_digest 7 = .ok (.aload_n 0, 1) := by decide +kernel
theorem dX5_digest_8 : decode cX5_digest 8 = .ok (.getfield 55, 3) := by decide +kernel
theorem dX5_digest_11 : decode cX5_digest 11 = .ok (.invokestatic 234, 3) := by decide +kernel
theorem dX5_digest_14 : decode cX5_digest 14 = .ok (.lstore_n 1, 1) := by decide +kernel
theorem dX5_digest_15 : decode cX5_digest 15 = .ok (.iconst 0, 1) := by decide +kernel
theorem dX5_digest_16 : decode cX5_digest 16 = .ok (.istore_n 3, 1) := by decide +kernel
theorem dX5_digest_17 : decode cX5_digest 17 = .ok (.iload_n 3, 1) := by decide +kernel
theorem dX5_digest_18 : decode cX5_digest 18 = .ok (.bipush 10, 2) := by decide +kernel
theorem dX5_digest_20 : decode cX5_digest 20 = .ok (.if_icmp .gt 19, 3) := by decide +kernel
theorem dX5_digest_23 : decode cX5_digest 23 = .ok (.lload_n 1, 1) := by decide +kernel
theorem dX5_digest_24 : decode cX5_digest 24 = .ok (.aload_n 0, 1) := by decide +kernel
theorem dX5_digest_25 : decode cX5_digest 25 = .ok (.iload_n 3, 1) := by decide +kernel
theorem dX5_digest_26 : decode cX5_digest 26 = .ok (.invokevirtual 205, 3) := by decide +kernel
theorem dX5_digest_29 : decode cX5_digest 29 = .ok (.invokestatic 234, 3) := by decide +kernel
theorem dX5_digest_32 : decode cX5_digest 32 = .ok (.lstore_n 1, 1) := by decide +kernel
theorem dX5_digest_33 : decode cX5_digest 33 = .ok (.iinc 3 1, 3) := by decide +kernel
theorem dX5_digest_36 : decode cX5_digest 36 = .ok (.goto (-19), 3) := by decide +kernel
theorem dX5_digest_39 : decode cX5_digest 39 = .ok (.aload_n 0, 1) := by decide +kernel
theorem dX5_digest_40 : decode cX5_digest 40 = .ok (.lload_n 1, 1) := by decide +kernel
theorem dX5_digest_41 : decode cX5_digest 41 = .ok (.invokevirtual 238, 3) := by decide +kernel
theorem dX5_digest_44 : decode cX5_digest 44 = .ok (.lstore_n 1, 1) := by decide +kernel
theorem dX5_digest_45 : decode cX5_digest 45 = .ok (.aload_n 0, 1) := by decide +kernel
theorem dX5_digest_46 : decode cX5_digest 46 = .ok (.lload_n 1, 1) := by decide +kernel
theorem dX5_digest_47 : decode cX5_digest 47 = .ok (.invokevirtual 242, 3) := by decide +kernel
theorem dX5_digest_50 : decode cX5_digest 50 = .ok (.lstore_n 1, 1) := by decide +kernel
theorem dX5_digest_51 : decode cX5_digest 51 = .ok (.iconst 0, 1) := by decide +kernel
theorem dX5_digest_52 : decode cX5_digest 52 = .ok (.istore_n 3, 1) := by decide +kernel
theorem dX5_digest_53 : decode cX5_digest 53 = .ok (.iload_n 3, 1) := by decide +kernel
theorem dX5_digest_54 : decode cX5_digest 54 = .ok (.aload_n 0, 1) := by decide +kernel
theorem dX5_digest_55 : decode cX5_digest 55 = .ok (.getfield 37, 3) := by decide +kernel
theorem dX5_digest_58 : decode cX5_digest 58 = .ok (.getfield 245, 3) := by decide +kernel
theorem dX5_digest_61 : decode cX5_digest 61 = .ok (.if_icmp .ge 22, 3) := by decide +kernel
theorem dX5_digest_64 : decode cX5_digest 64 = .ok (.lload_n 1, 1) := by decide +kernel
theorem dX5_digest_65 : decode cX5_digest 65 = .ok (.aload_n 0, 1) := by decide +kernel
theorem dX5_digest_66 : decode cX5_digest 66 = .ok (.getfield 37, 3) := by decide +kernel
theorem dX5_digest_69 : decode cX5_digest 69 = .ok (.iload_n 3, 1) := by decide +kernel
theorem dX5_digest_70 : decode cX5_digest 70 = .ok (.invokevirtual 202, 3) := by decide +kernel
theorem dX5_digest_73 : decode cX5_digest 73 = .ok (.invokestatic 234, 3) := by decide +kernel
theorem dX5_digest_76 : decode cX5_digest 76 = .ok (.lstore_n 1, 1) := by decide +kernel
theorem dX5_digest_77 : decode cX5_digest 77 = .ok (.iinc 3 1, 3) := by decide +kernel
theorem dX5_digest_80 : decode cX5_digest 80 = .ok (.goto (-27), 3) := by decide +kernel
theorem dX5_digest_83 : decode cX5_digest 83 = .ok (.iconst 0, 1) := by decide +kernel
theorem dX5_digest_84 : decode cX5_digest 84 = .ok (.istore_n 3, 1) := by decide +kernel
theorem dX5_digest_85 : decode cX5_digest 85 = .ok (.iload_n 3, 1) := by decide +kernel
theorem dX5_digest_86 : decode cX5_digest 86 = .ok (.aload_n 0, 1) := by decide +kernel
theorem dX5_digest_87 : decode cX5_digest 87 = .ok (.getfield 47, 3) := by decide +kernel
theorem dX5_digest_90 : decode cX5_digest 90 = .ok (.getfield 248, 3) := by decide +kernel
theorem dX5_digest_93 : decode cX5_digest 93 = .ok (.if_icmp .ge 22, 3) := by decide +kernel
theorem dX5_digest_96 : decode cX5_digest 96 = .ok (.lload_n 1, 1) := by decide +kernel
theorem dX5_digest_97 : decode cX5_digest 97 = .ok (.aload_n 0, 1) := by decide +kernel
theorem dX5_digest_98 : decode cX5_digest 98 = .ok (.getfield 47, 3) := by decide +kernel
theorem dX5_digest_101 : decode cX5_digest 101 = .ok (.iload_n 3, 1) := by decide +kernel
theorem dX5_digest_102 : decode cX5_digest 102 = .ok (.invokevirtual 211, 3) := by decide +kernel
theorem dX5_digest_105 : decode cX5_digest 105 = .ok (.invokestatic 234, 3) := by decide +kernel
theorem dX5_digest_108 : decode cX5_digest 108 = .ok (.lstore_n 1, 1) := by decide +kernel
theorem dX5_digest_109 : decode cX5_digest 109 = .ok (.iinc 3 1, 3) := by decide +kernel
theorem dX5_digest_112 : decode cX5_digest 112 = .ok (.goto (-27), 3) := by decide +kernel
theorem dX5_digest_115 : decode cX5_digest 115 = .ok (.lload_n 1, 1) := by decide +kernel
theorem dX5_digest_116 : decode cX5_digest 116 = .ok (.lreturn, 1) := by decide +kernel
theorem dX5_isList_0 : decode cX5_isList 0 = .ok (.iload_n 0, 1) := by decide +kernel
theorem dX5_isList_1 : decode cX5_isList 1 = .ok (.ifCond .lt 21, 3) := by decide +kernel
theorem dX5_isList_4 : decode cX5_isList 4 = .ok (.iload_n 0, 1) := by decide +kernel
theorem dX5_isList_5 : decode cX5_isList 5 = .ok (.iconst 2, 1) := by decide +kernel
theorem dX5_isList_6 : decode cX5_isList 6 = .ok (.if_icmp .ge 16, 3) := by decide +kernel
theorem dX5_isList_9 : decode cX5_isList 9 = .ok (.iload_n 1, 1) := by decide +kernel
theorem dX5_isList_10 : decode cX5_isList 10 = .ok (.ifCond .lt 12, 3) := by decide +kernel
theorem dX5_isList_13 : decode cX5_isList 13 = .ok (.iload_n 1, 1) := by decide +kernel
theorem dX5_isList_14 : decode cX5_isList 14 = .ok (.iconst 3, 1) := by decide +kernel
theorem dX5_isList_15 : decode cX5_isList 15 = .ok (.if_icmp .ge 7, 3) := by decide +kernel
theorem dX5_isList_18 : decode cX5_isList 18 = .ok (.iconst 1, 1) := by decide +kernel
theorem dX5_isList_19 : decode cX5_isList 19 = .ok (.goto 4, 3) := by decide +kernel
theorem dX5_isList_22 : decode cX5_isList 22 = .ok (.iconst 0, 1) := by decide +kernel
theorem dX5_isList_23 : decode cX5_isList 23 = .ok (.ireturn, 1) := by decide +kernel
theorem dX5_isRule_0 : decode cX5_isRule 0 = .ok (.iload_n 0, 1) := by decide +kernel
theorem dX5_isRule_1 : decode cX5_isRule 1 = .ok (.ifCond .lt 12, 3) := by decide +kernel
theorem dX5_isRule_4 : decode cX5_isRule 4 = .ok (.iload_n 0, 1) := by decide +kernel
theorem dX5_isRule_5 : decode cX5_isRule 5 = .ok (.iconst 5, 1) := by decide +kernel
theorem dX5_isRule_6 : decode cX5_isRule 6 = .ok (.if_icmp .gt 7, 3) := by decide +kernel
theorem dX5_isRule_9 : decode cX5_isRule 9 = .ok (.iconst 1, 1) := by decide +kernel
theorem dX5_isRule_10 : decode cX5_isRule 10 = .ok (.goto 4, 3) := by decide +kernel
theorem dX5_isRule_13 : decode cX5_isRule 13 = .ok (.iconst 0, 1) := by decide +kernel
theorem dX5_isRule_14 : decode cX5_isRule 14 = .ok (.ireturn, 1) := by decide +kernel
theorem dX5_slotOf_0 : decode cX5_slotOf 0 = .ok (.iload_n 0, 1) := by decide +kernel
theorem dX5_slotOf_1 : decode cX5_slotOf 1 = .ok (.iconst 3, 1) := by decide +kernel
theorem dX5_slotOf_2 : decode cX5_slotOf 2 = .ok (.imul, 1) := by decide +kernel
theorem dX5_slotOf_3 : decode cX5_slotOf 3 = .ok (.iload_n 1, 1) := by decide +kernel
theorem dX5_slotOf_4 : decode cX5_slotOf 4 = .ok (.iadd, 1) := by decide +kernel
theorem dX5_slotOf_5 : decode cX5_slotOf 5 = .ok (.ireturn, 1) := by decide +kernel
theorem dX5_rowOf_0 : decode cX5_rowOf 0 = .ok (.iload_n 0, 1) := by decide +kernel
theorem dX5_rowOf_1 : decode cX5_rowOf 1 = .ok (.bipush 10, 2) := by decide +kernel
theorem dX5_rowOf_3 : decode cX5_rowOf 3 = .ok (.imul, 1) := by decide +kernel
theorem dX5_rowOf_4 : decode cX5_rowOf 4 = .ok (.iload_n 1, 1) := by decide +kernel
theorem dX5_rowOf_5 : decode cX5_rowOf 5 = .ok (.iadd, 1) := by decide +kernel
theorem dX5_rowOf_6 : decode cX5_rowOf 6 = .ok (.ireturn, 1) := by decide +kernel
theorem dX5_cellOf_0 : decode cX5_cellOf 0 = .ok (.iload_n 0, 1) := by decide +kernel
theorem dX5_cellOf_1 : decode cX5_cellOf 1 = .ok (.bipush 6, 2) := by decide +kernel
theorem dX5_cellOf_3 : decode cX5_cellOf 3 = .ok (.imul, 1) := by decide +kernel
theorem dX5_cellOf_4 : decode cX5_cellOf 4 = .ok (.iload_n 1, 1) := by decide +kernel
theorem dX5_cellOf_5 : decode cX5_cellOf 5 = .ok (.iadd, 1) := by decide +kernel
theorem dX5_cellOf_6 : decode cX5_cellOf 6 = .ok (.ireturn, 1) := by decide +kernel
theorem dX5_hasEntry_0 : decode cX5_hasEntry 0 = .ok (.iload_n 1, 1) := by decide +kernel
theorem dX5_hasEntry_1 : decode cX5_hasEntry 1 = .ok (.iload_n 2, 1) := by decide +kernel
theorem dX5_hasEntry_2 : decode cX5_hasEntry 2 = .ok (.invokestatic 82, 3) := by decide +kernel
theorem dX5_hasEntry_5 : decode cX5_hasEntry 5 = .ok (.ifCond .eq 23, 3) := by decide +kernel
theorem dX5_hasEntry_8 : decode cX5_hasEntry 8 = .ok (.aload_n 0, 1) := by decide +kernel
theorem dX5_hasEntry_9 : decode cX5_hasEntry 9 = .ok (.getfield 28, 3) := by decide +kernel
theorem dX5_hasEntry_12 : decode cX5_hasEntry 12 = .ok (.iload_n 1, 1) := by decide +kernel
theorem dX5_hasEntry_13 : decode cX5_hasEntry 13 = .ok (.iload_n 2, 1) := by decide +kernel
theorem dX5_hasEntry_14 : decode cX5_hasEntry 14 = .ok (.invokestatic 103, 3) := by decide +kernel
theorem dX5_hasEntry_17 : decode cX5_hasEntry 17 = .ok (.iload_n 3, 1) := by decide +kernel
theorem dX5_hasEntry_18 : decode cX5_hasEntry 18 = .ok (.invokevirtual 249, 3) := by decide +kernel
theorem dX5_hasEntry_21 : decode cX5_hasEntry 21 = .ok (.ifCond .eq 7, 3) := by decide +kernel
theorem dX5_hasEntry_24 : decode cX5_hasEntry 24 = .ok (.iconst 1, 1) := by decide +kernel
theorem dX5_hasEntry_25 : decode cX5_hasEntry 25 = .ok (.goto 4, 3) := by decide +kernel
theorem dX5_hasEntry_28 : decode cX5_hasEntry 28 = .ok (.iconst 0, 1) := by decide +kernel
theorem dX5_hasEntry_29 : decode cX5_hasEntry 29 = .ok (.ireturn, 1) := by decide +kernel
theorem dX5_save_0 : decode cX5_save 0 = .ok (.aload_n 0, 1) := by decide +kernel
theorem dX5_save_1 : decode cX5_save 1 = .ok (.getfield 55, 3) := by decide +kernel
theorem dX5_save_4 : decode cX5_save 4 = .ok (.iconst 4, 1) := by decide +kernel
theorem dX5_save_5 : decode cX5_save 5 = .ok (.if_icmp .lt 7, 3) := by decide +kernel
theorem dX5_save_8 : decode cX5_save 8 = .ok (.aload_n 0, 1) := by decide +kernel
theorem dX5_save_9 : decode cX5_save 9 = .ok (.invokevirtual 252, 3) := by decide +kernel
theorem dX5_save_12 : decode cX5_save 12 = .ok (.aload_n 0, 1) := by decide +kernel
theorem dX5_save_13 : decode cX5_save 13 = .ok (.getfield 51, 3) := by decide +kernel
theorem dX5_save_16 : decode cX5_save 16 = .ok (.aload_n 0, 1) := by decide +kernel
theorem dX5_save_17 : decode cX5_save 17 = .ok (.getfield 55, 3) := by decide +kernel
theorem dX5_save_20 : decode cX5_save 20 = .ok (.aaload, 1) := by decide +kernel
theorem dX5_save_21 : decode cX5_save 21 = .ok (.aload_n 0, 1) := by decide +kernel
theorem dX5_save_22 : decode cX5_save 22 = .ok (.getfield 28, 3) := by decide +kernel
theorem dX5_save_25 : decode cX5_save 25 = .ok (.invokevirtual 229, 3) := by decide +kernel
theorem dX5_save_28 : decode cX5_save 28 = .ok (.aload_n 0, 1) := by decide +kernel
theorem dX5_save_29 : decode cX5_save 29 = .ok (.dup, 1) := by decide +kernel
theorem dX5_save_30 : decode cX5_save 30 = .ok (.getfield 55, 3) := by decide +kernel
theorem dX5_save_33 : decode cX5_save 33 = .ok (.iconst 1, 1) := by decide +kernel
theorem dX5_save_34 : decode cX5_save 34 = .ok (.iadd, 1) := by decide +kernel
theorem dX5_save_35 : decode cX5_save 35 = .ok (.putfield 55, 3) := by decide +kernel
theorem dX5_save_38 : decode cX5_save 38 = .ok (.aload_n 0, 1) := by decide +kernel
theorem dX5_save_39 : decode cX5_save 39 = .ok (.iconst 1, 1) := by decide +kernel
theorem dX5_save_40 : decode cX5_save 40 = .ok (.putfield 59, 3) := by decide +kernel
theorem dX5_save_43 : decode cX5_save 43 = .ok (.return_, 1) := by decide +kernel
theorem dX5_dropOldest_0 : decode cX5_dropOldest 0 = .ok (.aload_n 0, 1) := by decide +kernel
theorem dX5_dropOldest_1 : decode cX5_dropOldest 1 = .ok (.getfield 51, 3) := by decide +kernel
theorem dX5_dropOldest_4 : decode cX5_dropOldest 4 = .ok (.iconst 0, 1) := by decide +kernel
theorem dX5_dropOldest_5 : decode cX5_dropOldest 5 = .ok (.aaload, 1) := by decide +kernel
theorem dX5_dropOldest_6 : decode cX5_dropOldest 6 = .ok (.astore_n 1, 1) := by decide +kernel
theorem dX5_dropOldest_7 : decode cX5_dropOldest 7 = .ok (.iconst 1, 1) := by decide +kernel
theorem dX5_dropOldest_8 : decode cX5_dropOldest 8 = .ok (.istore_n 2, 1) := by decide +kernel
theorem dX5_dropOldest_9 : decode cX5_dropOldest 9 = .ok (.iload_n 2, 1) := by decide +kernel
theorem dX5_dropOldest_10 : decode cX5_dropOldest 10 = .ok (.iconst 4, 1) := by decide +kernel
theorem dX5_dropOldest_11 : decode cX5_dropOldest 11 = .ok (.if_icmp .ge 23, 3) := by decide +kernel
theorem dX5_dropOldest_14 : decode cX5_dropOldest 14 = .ok (.aload_n 0, 1) := by decide +kernel
theorem dX5_dropOldest_15 : decode cX5_dropOldest 15 = .ok (.getfield 51, 3) := by decide +kernel
theorem dX5_dropOldest_18 : decode cX5_dropOldest 18 = .ok (.iload_n 2, 1) := by decide +kernel
theorem dX5_dropOldest_19 : decode cX5_dropOldest 19 = .ok (.iconst 1, 1) := by decide +kernel
theorem dX5_dropOldest_20 : decode cX5_dropOldest 20 = .ok (.isub, 1) := by decide +kernel
theorem dX5_dropOldest_21 : decode cX5_dropOldest 21 = .ok (.aload_n 0, 1) := by decide +kernel
theorem dX5_dropOldest_22 : decode cX5_dropOldest 22 = .ok (.getfield 51, 3) := by decide +kernel
theorem dX5_dropOldest_25 : decode cX5_dropOldest 25 = .ok (.iload_n 2, 1) := by decide +kernel
theorem dX5_dropOldest_26 : decode cX5_dropOldest 26 = .ok (.aaload, 1) := by decide +kernel
theorem dX5_dropOldest_27 : decode cX5_dropOldest 27 = .ok (.aastore, 1) := by decide +kernel
theorem dX5_dropOldest_28 : decode cX5_dropOldest 28 = .ok (.iinc 2 1, 3) := by decide +kernel
theorem dX5_dropOldest_31 : decode cX5_dropOldest 31 = .ok (.goto (-22), 3) := by decide +kernel
theorem dX5_dropOldest_34 : decode cX5_dropOldest 34 = .ok (.aload_n 0, 1) := by decide +kernel
theorem dX5_dropOldest_35 : decode cX5_dropOldest 35 = .ok (.getfield 51, 3) := by decide +kernel
theorem dX5_dropOldest_38 : decode cX5_dropOldest 38 = .ok (.iconst 3, 1) := by decide +kernel
theorem dX5_dropOldest_39 : decode cX5_dropOldest 39 = .ok (.aload_n 1, 1) := by decide +kernel
theorem dX5_dropOldest_40 : decode cX5_dropOldest 40 = .ok (.aastore, 1) := by decide +kernel
theorem dX5_dropOldest_41 : decode cX5_dropOldest 41 = .ok (.aload_n 0, 1) := by decide +kernel
theorem dX5_dropOldest_42 : decode cX5_dropOldest 42 = .ok (.iconst 3, 1) := by decide +kernel
theorem dX5_dropOldest_43 : decode cX5_dropOldest 43 = .ok (.putfield 55, 3) := by decide +kernel
theorem dX5_dropOldest_46 : decode cX5_dropOldest 46 = .ok (.return_, 1) := by decide +kernel
theorem dX5_settle_0 : decode cX5_settle 0 = .ok (.aload_n 0, 1) := by decide +kernel
theorem dX5_settle_1 : decode cX5_settle 1 = .ok (.getfield 59, 3) := by decide +kernel
theorem dX5_settle_4 : decode cX5_settle 4 = .ok (.ifCond .eq 23, 3) := by decide +kernel
theorem dX5_settle_7 : decode cX5_settle 7 = .ok (.aload_n 0, 1) := by decide +kernel
theorem dX5_settle_8 : decode cX5_settle 8 = .ok (.getfield 37, 3) := by decide +kernel
theorem dX5_settle_11 : decode cX5_settle 11 = .ok (.iconst (-1), 1) := by decide +kernel
theorem dX5_settle_12 : decode cX5_settle 12 = .ok (.invokevirtual 255, 3) := by decide +kernel
theorem dX5_settle_15 : decode cX5_settle 15 = .ok (.aload_n 0, 1) := by decide +kernel
theorem dX5_settle_16 : decode cX5_settle 16 = .ok (.getfield 47, 3) := by decide +kernel
theorem dX5_settle_19 : decode cX5_settle 19 = .ok (.invokevirtual 259, 3) := by decide +kernel
theorem dX5_settle_22 : decode cX5_settle 22 = .ok (.aload_n 0, 1) := by decide +kernel
theorem dX5_settle_23 : decode cX5_settle 23 = .ok (.iconst 0, 1) := by decide +kernel
theorem dX5_settle_24 : decode cX5_settle 24 = .ok (.putfield 59, 3) := by decide +kernel
theorem dX5_settle_27 : decode cX5_settle 27 = .ok (.return_, 1) := by decide +kernel
theorem dX5_servedWithoutSide_0 : decode cX5_servedWithoutSide 0 = .ok (.aload_n 0, 1) := by decide +kernel
theorem dX5_servedWithoutSide_1 : decode cX5_servedWithoutSide 1 = .ok (.getfield 41, 3) := by decide +kernel
theorem dX5_servedWithoutSide_4 : decode cX5_servedWithoutSide 4 = .ok (.iload_n 1, 1) := by decide +kernel
theorem dX5_servedWithoutSide_5 : decode cX5_servedWithoutSide 5 = .ok (.invokevirtual 255, 3) := by decide +kernel
theorem dX5_servedWithoutSide_8 : decode cX5_servedWithoutSide 8 = .ok (.aload_n 0, 1) := by decide +kernel
theorem dX5_servedWithoutSide_9 : decode cX5_servedWithoutSide 9 = .ok (.getfield 41, 3) := by decide +kernel
theorem dX5_servedWithoutSide_12 : decode cX5_servedWithoutSide 12 = .ok (.iconst 0, 1) := by decide +kernel
theorem dX5_servedWithoutSide_13 : decode cX5_servedWithoutSide 13 = .ok (.invokevirtual 202, 3) := by decide +kernel
theorem dX5_servedWithoutSide_16 : decode cX5_servedWithoutSide 16 = .ok (.ireturn, 1) := by decide +kernel
theorem dX5_variantValue_0 : decode cX5_variantValue 0 = .ok (.iload_n 2, 1) := by decide +kernel
theorem dX5_variantValue_1 : decode cX5_variantValue 1 = .ok (.tableswitch 98 0 5 #[39, 49, 59, 69, 78, 88], 39) := by decide +kernel
theorem dX5_variantValue_40 : decode cX5_variantValue 40 = .ok (.aload_n 0, 1) := by decide +kernel
theorem dX5_variantValue_41 : decode cX5_variantValue 41 = .ok (.getfield 28, 3) := by decide +kernel
theorem dX5_variantValue_44 : decode cX5_variantValue 44 = .ok (.getfield 144, 3) := by decide +kernel
theorem dX5_variantValue_47 : decode cX5_variantValue 47 = .ok (.iload_n 1, 1) := by decide +kernel
theorem dX5_variantValue_48 : decode cX5_variantValue 48 = .ok (.iaload, 1) := by decide +kernel
theorem dX5_variantValue_49 : decode cX5_variantValue 49 = .ok (.ireturn, 1) := by decide +kernel
theorem dX5_variantValue_50 : decode cX5_variantValue 50 = .ok (.aload_n 0, 1) := by decide +kernel
theorem dX5_variantValue_51 : decode cX5_variantValue 51 = .ok (.getfield 28, 3) := by decide +kernel
theorem dX5_variantValue_54 : decode cX5_variantValue 54 = .ok (.getfield 137, 3) := by decide +kernel
theorem dX5_variantValue_57 : decode cX5_variantValue 57 = .ok (.iload_n 1, 1) := by decide +kernel
theorem dX5_variantValue_58 : decode cX5_variantValue 58 = .ok (.iaload, 1) := by decide +kernel
theorem dX5_variantValue_59 : decode cX5_variantValue 59 = .ok (.ireturn, 1) := by decide +kernel
theorem dX5_variantValue_60 : decode cX5_variantValue 60 = .ok (.aload_n 0, 1) := by decide +kernel
theorem dX5_variantValue_61 : decode cX5_variantValue 61 = .ok (.getfield 37, 3) := by decide +kernel
theorem dX5_variantValue_64 : decode cX5_variantValue 64 = .ok (.getfield 261, 3) := by decide +kernel
theorem dX5_variantValue_67 : decode cX5_variantValue 67 = .ok (.iload_n 1, 1) := by decide +kernel
theorem dX5_variantValue_68 : decode cX5_variantValue 68 = .ok (.iaload, 1) := by decide +kernel
theorem dX5_variantValue_69 : decode cX5_variantValue 69 = .ok (.ireturn, 1) := by decide +kernel
theorem dX5_variantValue_70 : decode cX5_variantValue 70 = .ok (.aload_n 0, 1) := by decide +kernel
theorem dX5_variantValue_71 : decode cX5_variantValue 71 = .ok (.getfield 37, 3) := by decide +kernel
theorem dX5_variantValue_74 : decode cX5_variantValue 74 = .ok (.iload_n 1, 1) := by decide +kernel
theorem dX5_variantValue_75 : decode cX5_variantValue 75 = .ok (.invokevirtual 263, 3) := by decide +kernel
theorem dX5_variantValue_78 : decode cX5_variantValue 78 = .ok (.ireturn, 1) := by decide +kernel
theorem dX5_variantValue_79 : decode cX5_variantValue 79 = .ok (.aload_n 0, 1) := by decide +kernel
theorem dX5_variantValue_80 : decode cX5_variantValue 80 = .ok (.getfield 37, 3) := by decide +kernel
theorem dX5_variantValue_83 : decode cX5_variantValue 83 = .ok (.getfield 266, 3) := by decide +kernel
theorem dX5_variantValue_86 : decode cX5_variantValue 86 = .ok (.iload_n 1, 1) := by decide +kernel
theorem dX5_variantValue_87 : decode cX5_variantValue 87 = .ok (.iaload, 1) := by decide +kernel
theorem dX5_variantValue_88 : decode cX5_variantValue 88 = .ok (.ireturn, 1) := by decide +kernel
theorem dX5_variantValue_89 : decode cX5_variantValue 89 = .ok (.aload_n 0, 1) := by decide +kernel
theorem dX5_variantValue_90 : decode cX5_variantValue 90 = .ok (.getfield 47, 3) := by decide +kernel
theorem dX5_variantValue_93 : decode cX5_variantValue 93 = .ok (.getfield 269, 3) := by decide +kernel
theorem dX5_variantValue_96 : decode cX5_variantValue 96 = .ok (.iload_n 1, 1) := by decide +kernel
theorem dX5_variantValue_97 : decode cX5_variantValue 97 = .ok (.iaload, 1) := by decide +kernel
theorem dX5_variantValue_98 : decode cX5_variantValue 98 = .ok (.ireturn, 1) := by decide +kernel
theorem dX5_variantValue_99 : decode cX5_variantValue 99 = .ok (.aload_n 0, 1) := by decide +kernel
theorem dX5_variantValue_100 : decode cX5_variantValue 100 = .ok (.getfield 28, 3) := by decide +kernel
theorem dX5_variantValue_103 : decode cX5_variantValue 103 = .ok (.iload_n 1, 1) := by decide +kernel
theorem dX5_variantValue_104 : decode cX5_variantValue 104 = .ok (.invokevirtual 270, 3) := by decide +kernel
theorem dX5_variantValue_107 : decode cX5_variantValue 107 = .ok (.ireturn, 1) := by decide +kernel
theorem dX5_entryValue_0 : decode cX5_entryValue 0 = .ok (.iload_n 3, 1) := by decide +kernel
theorem dX5_entryValue_1 : decode cX5_entryValue 1 = .ok (.tableswitch 65 0 2 #[27, 41, 55], 27) := by decide +kernel
theorem dX5_entryValue_28 : decode cX5_entryValue 28 = .ok (.aload_n 0, 1) := by decide +kernel
theorem dX5_entryValue_29 : decode cX5_entryValue 29 = .ok (.getfield 28, 3) := by decide +kernel
theorem dX5_entryValue_32 : decode cX5_entryValue 32 = .ok (.getfield 158, 3) := by decide +kernel
theorem dX5_entryValue_35 : decode cX5_entryValue 35 = .ok (.iload_n 1, 1) := by decide +kernel
theorem dX5_entryValue_36 : decode cX5_entryValue 36 = .ok (.iload_n 2, 1) := by decide +kernel
theorem dX5_entryValue_37 : decode cX5_entryValue 37 = .ok (.invokestatic 155, 3) := by decide +kernel
theorem dX5_entryValue_40 : decode cX5_entryValue 40 = .ok (.iaload, 1) := by decide +kernel
theorem dX5_entryValue_41 : decode cX5_entryValue 41 = .ok (.ireturn, 1) := by decide +kernel
theorem dX5_entryValue_42 : decode cX5_entryValue 42 = .ok (.aload_n 0, 1) := by decide +kernel
theorem dX5_entryValue_43 : decode cX5_entryValue 43 = .ok (.getfield 28, 3) := by decide +kernel
theorem dX5_entryValue_46 : decode cX5_entryValue 46 = .ok (.getfield 273, 3) := by decide +kernel
theorem dX5_entryValue_49 : decode cX5_entryValue 49 = .ok (.iload_n 1, 1) := by decide +kernel
theorem dX5_entryValue_50 : decode cX5_entryValue 50 = .ok (.iload_n 2, 1) := by decide +kernel
theorem dX5_entryValue_51 : decode cX5_entryValue 51 = .ok (.invokestatic 155, 3) := by decide +kernel
theorem dX5_entryValue_54 : decode cX5_entryValue 54 = .ok (.iaload, 1) := by decide +kernel
theorem dX5_entryValue_55 : decode cX5_entryValue 55 = .ok (.ireturn, 1) := by decide +kernel
theorem dX5_entryValue_56 : decode cX5_entryValue 56 = .ok (.aload_n 0, 1) := by decide +kernel
theorem dX5_entryValue_57 : decode cX5_entryValue 57 = .ok (.getfield 28, 3) := by decide +kernel
theorem dX5_entryValue_60 : decode cX5_entryValue 60 = .ok (.iload_n 1, 1) := by decide +kernel
theorem dX5_entryValue_61 : decode cX5_entryValue 61 = .ok (.iload_n 2, 1) := by decide +kernel
theorem dX5_entryValue_62 : decode cX5_entryValue 62 = .ok (.invokevirtual 276, 3) := by decide +kernel
theorem dX5_entryValue_65 : decode cX5_entryValue 65 = .ok (.ireturn, 1) := by decide +kernel
theorem dX5_entryValue_66 : decode cX5_entryValue 66 = .ok (.aload_n 0, 1) := by decide +kernel
theorem dX5_entryValue_67 : decode cX5_entryValue 67 = .ok (.getfield 37, 3) := by decide +kernel
theorem dX5_entryValue_70 : decode cX5_entryValue 70 = .ok (.iload_n 1, 1) := by decide +kernel
theorem dX5_entryValue_71 : decode cX5_entryValue 71 = .ok (.iload_n 2, 1) := by decide +kernel
theorem dX5_entryValue_72 : decode cX5_entryValue 72 = .ok (.invokevirtual 279, 3) := by decide +kernel
theorem dX5_entryValue_75 : decode cX5_entryValue 75 = .ok (.ireturn, 1) := by decide +kernel
theorem dX5_wholeValue_0 : decode cX5_wholeValue 0 = .ok (.iload_n 1, 1) := by decide +kernel
theorem dX5_wholeValue_1 : decode cX5_wholeValue 1 = .ok (.tableswitch 127 0 9 #[55, 63, 71, 80, 88, 97, 106, 114, 114, 114], 55) := by decide +kernel
theorem dX5_wholeValue_56 : decode cX5_wholeValue 56 = .ok (.aload_n 0, 1) := by decide +kernel
theorem dX5_wholeValue_57 : decode cX5_wholeValue 57 = .ok (.getfield 28, 3) := by decide +kernel
theorem dX5_wholeValue_60 : decode cX5_wholeValue 60 = .ok (.getfield 111, 3) := by decide +kernel
theorem dX5_wholeValue_63 : decode cX5_wholeValue 63 = .ok (.ireturn, 1) := by decide +kernel
theorem dX5_wholeValue_64 : decode cX5_wholeValue 64 = .ok (.aload_n 0, 1) := by decide +kernel
theorem dX5_wholeValue_65 : decode cX5_wholeValue 65 = .ok (.getfield 37, 3) := by decide +kernel
theorem dX5_wholeValue_68 : decode cX5_wholeValue 68 = .ok (.getfield 245, 3) := by decide +kernel
theorem dX5_wholeValue_71 : decode cX5_wholeValue 71 = .ok (.ireturn, 1) := by decide +kernel
theorem dX5_wholeValue_72 : decode cX5_wholeValue 72 = .ok (.aload_n 0, 1) := by decide +kernel
theorem dX5_wholeValue_73 : decode cX5_wholeValue 73 = .ok (.getfield 37, 3) := by decide +kernel
theorem dX5_wholeValue_76 : decode cX5_wholeValue 76 = .ok (.iconst 0, 1) := by decide +kernel
theorem dX5_wholeValue_77 : decode cX5_wholeValue 77 = .ok (.invokevirtual 202, 3) := by decide +kernel
theorem dX5_wholeValue_80 : decode cX5_wholeValue 80 = .ok (.ireturn, 1) := by decide +kernel
theorem dX5_wholeValue_81 : decode cX5_wholeValue 81 = .ok (.aload_n 0, 1) := by decide +kernel
theorem dX5_wholeValue_82 : decode cX5_wholeValue 82 = .ok (.getfield 37, 3) := by decide +kernel
theorem dX5_wholeValue_85 : decode cX5_wholeValue 85 = .ok (.invokevirtual 282, 3) := by decide +kernel
theorem dX5_wholeValue_88 : decode cX5_wholeValue 88 = .ok (.ireturn, 1) := by decide +kernel
theorem dX5_wholeValue_89 : decode cX5_wholeValue 89 = .ok (.aload_n 0, 1) := by decide +kernel
theorem dX5_wholeValue_90 : decode cX5_wholeValue 90 = .ok (.getfield 28, 3) := by decide +kernel
theorem dX5_wholeValue_93 : decode cX5_wholeValue 93 = .ok (.iconst 0, 1) := by decide +kernel
theorem dX5_wholeValue_94 : decode cX5_wholeValue 94 = .ok (.invokevirtual 168, 3) := by decide +kernel
theorem dX5_wholeValue_97 : decode cX5_wholeValue 97 = .ok (.ireturn, 1) := by decide +kernel
theorem dX5_wholeValue_98 : decode cX5_wholeValue 98 = .ok (.aload_n 0, 1) := by decide +kernel
theorem dX5_wholeValue_99 : decode cX5_wholeValue 99 = .ok (.getfield 28, 3) := by decide +kernel
theorem dX5_wholeValue_102 : decode cX5_wholeValue 102 = .ok (.iconst 1, 1) := by decide +kernel
theorem dX5_wholeValue_103 : decode cX5_wholeValue 103 = .ok (.invokevirtual 168, 3) := by decide +kernel
theorem dX5_wholeValue_106 : decode cX5_wholeValue 106 = .ok (.ireturn, 1) := by decide +kernel
theorem dX5_wholeValue_107 : decode cX5_wholeValue 107 = .ok (.aload_n 0, 1) := by decide +kernel
theorem dX5_wholeValue_108 : decode cX5_wholeValue 108 = .ok (.getfield 12, 3) := by decide +kernel
theorem dX5_wholeValue_111 : decode cX5_wholeValue 111 = .ok (.getfield 70, 3) := by decide +kernel
theorem dX5_wholeValue_114 : decode cX5_wholeValue 114 = .ok (.ireturn, 1) := by decide +kernel
theorem dX5_wholeValue_115 : decode cX5_wholeValue 115 = .ok (.aload_n 0, 1) := by decide +kernel
theorem dX5_wholeValue_116 : decode cX5_wholeValue 116 = .ok (.getfield 28, 3) := by decide +kernel
theorem dX5_wholeValue_119 : decode cX5_wholeValue 119 = .ok (.getfield 176, 3) := by decide +kernel
theorem dX5_wholeValue_122 : decode cX5_wholeValue 122 = .ok (.iload_n 1, 1) := by decide +kernel
theorem dX5_wholeValue_123 : decode cX5_wholeValue 123 = .ok (.bipush 7, 2) := by decide +kernel
theorem dX5_wholeValue_125 : decode cX5_wholeValue 125 = .ok (.isub, 1) := by decide +kernel
theorem dX5_wholeValue_126 : decode cX5_wholeValue 126 = .ok (.iaload, 1) := by decide +kernel
theorem dX5_wholeValue_127 : decode cX5_wholeValue 127 = .ok (.ireturn, 1) := by decide +kernel
theorem dX5_wholeValue_128 : decode cX5_wholeValue 128 = .ok (.aload_n 0, 1) := by decide +kernel
theorem dX5_wholeValue_129 : decode cX5_wholeValue 129 = .ok (.getfield 47, 3) := by decide +kernel
theorem dX5_wholeValue_132 : decode cX5_wholeValue 132 = .ok (.getfield 248, 3) := by decide +kernel
theorem dX5_wholeValue_135 : decode cX5_wholeValue 135 = .ok (.ireturn, 1) := by decide +kernel
theorem dX5_mix_0 : decode cX5_mix 0 = .ok (.ldc2_w 285, 3) := by decide +kernel
theorem dX5_mix_3 : decode cX5_mix 3 = .ok (.lload_n 0, 1) := by decide +kernel
theorem dX5_mix_4 : decode cX5_mix 4 = .ok (.lmul, 1) := by decide +kernel
theorem dX5_mix_5 : decode cX5_mix 5 = .ok (.iload_n 2, 1) := by decide +kernel
theorem dX5_mix_6 : decode cX5_mix 6 = .ok (.i2l, 1) := by decide +kernel
theorem dX5_mix_7 : decode cX5_mix 7 = .ok (.ladd, 1) := by decide +kernel
theorem dX5_mix_8 : decode cX5_mix 8 = .ok (.lreturn, 1) := by decide +kernel
theorem dX5_mixVariants_0 : decode cX5_mixVariants 0 = .ok (.lload_n 1, 1) := by decide +kernel
theorem dX5_mixVariants_1 : decode cX5_mixVariants 1 = .ok (.lstore_n 3, 1) := by decide +kernel
theorem dX5_mixVariants_2 : decode cX5_mixVariants 2 = .ok (.iconst 0, 1) := by decide +kernel
theorem dX5_mixVariants_3 : decode cX5_mixVariants 3 = .ok (.istore 5, 2) := by decide +kernel
theorem dX5_mixVariants_5 : decode cX5_mixVariants 5 = .ok (.iload 5, 2) := by decide +kernel
theorem dX5_mixVariants_7 : decode cX5_mixVariants 7 = .ok (.aload_n 0, 1) := by decide +kernel
theorem dX5_mixVariants_8 : decode cX5_mixVariants 8 = .ok (.getfield 28, 3) := by decide +kernel
theorem dX5_mixVariants_11 : decode cX5_mixVariants 11 = .ok (.getfield 111, 3) := by decide +kernel
theorem dX5_mixVariants_14 : decode cX5_mixVariants 14 = .ok (.if_icmp .ge 74, 3) := by decide +kernel
theorem dX5_mixVariants_17 : decode cX5_mixVariants 17 = .ok (.iconst 0, 1) := by decide +kernel
theorem dX5_mixVariants_18 : decode cX5_mixVariants 18 = .ok (.istore 6, 2) := by decide +kernel
theorem dX5_mixVariants_20 : decode cX5_mixVariants 20 = .ok (.iload 6, 2) := by decide +kernel
theorem dX5_mixVariants_22 : decode cX5_mixVariants 22 = .ok (.bipush 6, 2) := by decide +kernel
theorem dX5_mixVariants_24 : decode cX5_mixVariants 24 = .ok (.if_icmp .gt 22, 3) := by decide +kernel
theorem dX5_mixVariants_27 : decode cX5_mixVariants 27 = .ok (.lload_n 3, 1) := by decide +kernel
theorem dX5_mixVariants_28 : decode cX5_mixVariants 28 = .ok (.aload_n 0, 1) := by decide +kernel
theorem dX5_mixVariants_29 : decode cX5_mixVariants 29 = .ok (.iload 5, 2) := by decide +kernel
theorem dX5_mixVariants_31 : decode cX5_mixVariants 31 = .ok (.iload 6, 2) := by decide +kernel
theorem dX5_mixVariants_33 : decode cX5_mixVariants 33 = .ok (.invokevirtual 184, 3) := by decide +kernel
theorem dX5_mixVariants_36 : decode cX5_mixVariants 36 = .ok (.invokestatic 234, 3) := by decide +kernel
theorem dX5_mixVariants_39 : decode cX5_mixVariants 39 = .ok (.lstore_n 3, 1) := by decide +kernel
theorem dX5_mixVariants_40 : decode cX5_mixVariants 40 = .ok (.iinc 6 1, 3) := by decide +kernel
theorem dX5_mixVariants_43 : decode cX5_mixVariants 43 = .ok (.goto (-23), 3) := by decide +kernel
theorem dX5_mixVariants_46 : decode cX5_mixVariants 46 = .ok (.iconst 0, 1) := by decide +kernel
theorem dX5_mixVariants_47 : decode cX5_mixVariants 47 = .ok (.istore 6, 2) := by decide +kernel
theorem dX5_mixVariants_49 : decode cX5_mixVariants 49 = .ok (.iload 6, 2) := by decide +kernel
theorem dX5_mixVariants_51 : decode cX5_mixVariants 51 = .ok (.bipush 6, 2) := by decide +kernel
theorem dX5_mixVariants_53 : decode cX5_mixVariants 53 = .ok (.if_icmp .ge 29, 3) := by decide +kernel
theorem dX5_mixVariants_56 : decode cX5_mixVariants 56 = .ok (.lload_n 3, 1) := by decide +kernel
theorem dX5_mixVariants_57 : decode cX5_mixVariants 57 = .ok (.aload_n 0, 1) := by decide +kernel
theorem dX5_mixVariants_58 : decode cX5_mixVariants 58 = .ok (.getfield 37, 3) := by decide +kernel
theorem dX5_mixVariants_61 : decode cX5_mixVariants 61 = .ok (.getfield 189, 3) := by decide +kernel
theorem dX5_mixVariants_64 : decode cX5_mixVariants 64 = .ok (.iload 5, 2) := by decide +kernel
theorem dX5_mixVariants_66 : decode cX5_mixVariants 66 = .ok (.iload 6, 2) := by decide +kernel
theorem dX5_mixVariants_68 : decode cX5_mixVariants 68 = .ok (.invokestatic 190, 3) := by decide +kernel
theorem dX5_mixVariants_71 : decode cX5_mixVariants 71 = .ok (.iaload, 1) := by decide +kernel
theorem dX5_mixVariants_72 : decode cX5_mixVariants 72 = .ok (.invokestatic 234, 3) := by decide +kernel
theorem dX5_mixVariants_75 : decode cX5_mixVariants 75 = .ok (.lstore_n 3, 1) := by decide +kernel
theorem dX5_mixVariants_76 : decode cX5_mixVariants 76 = .ok (.iinc 6 1, 3) := by decide +kernel
theorem dX5_mixVariants_79 : decode cX5_mixVariants 79 = .ok (.goto (-30), 3) := by decide +kernel
theorem dX5_mixVariants_82 : decode cX5_mixVariants 82 = .ok (.iinc 5 1, 3) := by decide +kernel
theorem dX5_mixVariants_85 : decode cX5_mixVariants 85 = .ok (.goto (-80), 3) := by decide +kernel
theorem dX5_mixVariants_88 : decode cX5_mixVariants 88 = .ok (.lload_n 3, 1) := by decide +kernel
theorem dX5_mixVariants_89 : decode cX5_mixVariants 89 = .ok (.lreturn, 1) := by decide +kernel
theorem dX5_mixEntries_0 : decode cX5_mixEntries 0 = .ok (.lload_n 1, 1) := by decide +kernel
theorem dX5_mixEntries_1 : decode cX5_mixEntries 1 = .ok (.lstore_n 3, 1) := by decide +kernel
theorem dX5_mixEntries_2 : decode cX5_mixEntries 2 = .ok (.iconst 0, 1) := by decide +kernel
theorem dX5_mixEntries_3 : decode cX5_mixEntries 3 = .ok (.istore 5, 2) := by decide +kernel
theorem dX5_mixEntries_5 : decode cX5_mixEntries 5 = .ok (.iload 5, 2) := by decide +kernel
theorem dX5_mixEntries_7 : decode cX5_mixEntries 7 = .ok (.bipush 6, 2) := by decide +kernel
theorem dX5_mixEntries_9 : decode cX5_mixEntries 9 = .ok (.if_icmp .ge 63, 3) := by decide +kernel
theorem dX5_mixEntries_12 : decode cX5_mixEntries 12 = .ok (.iconst 0, 1) := by decide +kernel
theorem dX5_mixEntries_13 : decode cX5_mixEntries 13 = .ok (.istore 6, 2) := by decide +kernel
theorem dX5_mixEntries_15 : decode cX5_mixEntries 15 = .ok (.iload 6, 2) := by decide +kernel
theorem dX5_mixEntries_17 : decode cX5_mixEntries 17 = .ok (.aload_n 0, 1) := by decide +kernel
theorem dX5_mixEntries_18 : decode cX5_mixEntries 18 = .ok (.getfield 28, 3) := by decide +kernel
theorem dX5_mixEntries_21 : decode cX5_mixEntries 21 = .ok (.getfield 287, 3) := by decide +kernel
theorem dX5_mixEntries_24 : decode cX5_mixEntries 24 = .ok (.iload 5, 2) := by decide +kernel
theorem dX5_mixEntries_26 : decode cX5_mixEntries 26 = .ok (.iaload, 1) := by decide +kernel
theorem dX5_mixEntries_27 : decode cX5_mixEntries 27 = .ok (.if_icmp .ge 39, 3) := by decide +kernel
theorem dX5_mixEntries_30 : decode cX5_mixEntries 30 = .ok (.iconst 0, 1) := by decide +kernel
theorem dX5_mixEntries_31 : decode cX5_mixEntries 31 = .ok (.istore 7, 2) := by decide +kernel
theorem dX5_mixEntries_33 : decode cX5_mixEntries 33 = .ok (.iload 7, 2) := by decide +kernel
theorem dX5_mixEntries_35 : decode cX5_mixEntries 35 = .ok (.iconst 3, 1) := by decide +kernel
theorem dX5_mixEntries_36 : decode cX5_mixEntries 36 = .ok (.if_icmp .gt 24, 3) := by decide +kernel
theorem dX5_mixEntries_39 : decode cX5_mixEntries 39 = .ok (.lload_n 3, 1) := by decide +kernel
theorem dX5_mixEntries_40 : decode cX5_mixEntries 40 = .ok (.aload_n 0, 1) := by decide +kernel
theorem dX5_mixEntries_41 : decode cX5_mixEntries 41 = .ok (.iload 5, 2) := by decide +kernel
theorem dX5_mixEntries_43 : decode cX5_mixEntries 43 = .ok (.iload 6, 2) := by decide +kernel
theorem dX5_mixEntries_45 : decode cX5_mixEntries 45 = .ok (.iload 7, 2) := by decide +kernel
theorem dX5_mixEntries_47 : decode cX5_mixEntries 47 = .ok (.invokevirtual 196, 3) := by decide +kernel
theorem dX5_mixEntries_50 : decode cX5_mixEntries 50 = .ok (.invokestatic 234, 3) := by decide +kernel
theorem dX5_mixEntries_53 : decode cX5_mixEntries 53 = .ok (.lstore_n 3, 1) := by decide +kernel
theorem dX5_mixEntries_54 : decode cX5_mixEntries 54 = .ok (.iinc 7 1, 3) := by decide +kernel
theorem dX5_mixEntries_57 : decode cX5_mixEntries 57 = .ok (.goto (-24), 3) := by decide +kernel
theorem dX5_mixEntries_60 : decode cX5_mixEntries 60 = .ok (.iinc 6 1, 3) := by decide +kernel
theorem dX5_mixEntries_63 : decode cX5_mixEntries 63 = .ok (.goto (-48), 3) := by decide +kernel
theorem dX5_mixEntries_66 : decode cX5_mixEntries 66 = .ok (.iinc 5 1, 3) := by decide +kernel
theorem dX5_mixEntries_69 : decode cX5_mixEntries 69 = .ok (.goto (-64), 3) := by decide +kernel
theorem dX5_mixEntries_72 : decode cX5_mixEntries 72 = .ok (.lload_n 3, 1) := by decide +kernel
theorem dX5_mixEntries_73 : decode cX5_mixEntries 73 = .ok (.lreturn, 1) := by decide +kernel
theorem dX6_init_0 : decode cX6_init 0 = .ok (.aload_n 0, 1) := by decide +kernel
theorem dX6_init_1 : decode cX6_init 1 = .ok (.invokespecial 1, 3) := by decide +kernel
theorem dX6_init_4 : decode cX6_init 4 = .ok (.aload_n 0, 1) := by decide +kernel
theorem dX6_init_5 : decode cX6_init 5 = .ok (.sipush 378, 3) := by decide +kernel
theorem dX6_init_8 : decode cX6_init 8 = .ok (.newarray .int, 2) := by decide +kernel
theorem dX6_init_10 : decode cX6_init 10 = .ok (.putfield 7, 3) := by decide +kernel
theorem dX6_init_13 : decode cX6_init 13 = .ok (.aload_n 0, 1) := by decide +kernel
theorem dX6_init_14 : decode cX6_init 14 = .ok (.sipush 1512, 3) := by decide +kernel
theorem dX6_init_17 : decode cX6_init 17 = .ok (.newarray .int, 2) := by decide +kernel
theorem dX6_init_19 : decode cX6_init 19 = .ok (.putfield 13, 3) := by decide +kernel
theorem dX6_init_22 : decode cX6_init 22 = .ok (.aload_n 0, 1) := by decide +kernel
theorem dX6_init_23 : decode cX6_init 23 = .ok (.bipush 120, 2) := by decide +kernel
theorem dX6_init_25 : decode cX6_init 25 = .ok (.newarray .int, 2) := by decide +kernel
theorem dX6_init_27 : decode cX6_init 27 = .ok (.putfield 16, 3) := by decide +kernel
theorem dX6_init_30 : decode cX6_init 30 = .ok (.aload_n 0, 1) := by decide +kernel
theorem dX6_init_31 : decode cX6_init 31 = .ok (.bipush 40, 2) := by decide +kernel
theorem dX6_init_33 : decode cX6_init 33 = .ok (.newarray .int, 2) := by decide +kernel
theorem dX6_init_35 : decode cX6_init 35 = .ok (.putfield 19, 3) := by decide +kernel
theorem dX6_init_38 : decode cX6_init 38 = .ok (.aload_n 0, 1) := by decide +kernel
theorem dX6_init_39 : decode cX6_init 39 = .ok (.bipush 96, 2) := by decide +kernel
theorem dX6_init_41 : decode cX6_init 41 = .ok (.newarray .int, 2) := by decide +kernel
theorem dX6_init_43 : decode cX6_init 43 = .ok (.putfield 22, 3) := by decide +kernel
theorem dX6_init_46 : decode cX6_init 46 = .ok (.aload_n 0, 1) := by decide +kernel
theorem dX6_init_47 : decode cX6_init 47 = .ok (.bipush 16, 2) := by decide +kernel
theorem dX6_init_49 : decode cX6_init 49 = .ok (.newarray .int, 2) := by decide +kernel
theorem dX6_init_51 : decode cX6_init 51 = .ok (.putfield 25, 3) := by decide +kernel
theorem dX6_init_54 : decode cX6_init 54 = .ok (.aload_n 0, 1) := by decide +kernel
theorem dX6_init_55 : decode cX6_init 55 = .ok (.bipush 16, 2) := by decide +kernel
theorem dX6_init_57 : decode cX6_init 57 = .ok (.newarray .boolean, 2) := by decide +kernel
theorem dX6_init_59 : decode cX6_init 59 = .ok (.putfield 28, 3) := by decide +kernel
theorem dX6_init_62 : decode cX6_init 62 = .ok (.aload_n 0, 1) := by decide +kernel
theorem dX6_init_63 : decode cX6_init 63 = .ok (.bipush 16, 2) := by decide +kernel
theorem dX6_init_65 : decode cX6_init 65 = .ok (.newarray .int, 2) := by decide +kernel
theorem dX6_init_67 : decode cX6_init 67 = .ok (.putfield 32, 3) := by decide +kernel
theorem dX6_init_70 : decode cX6_init 70 = .ok (.aload_n 0, 1) := by decide +kernel
theorem dX6_init_71 : decode cX6_init 71 = .ok (.iconst (-1), 1) := by decide +kernel
theorem dX6_init_72 : decode cX6_init 72 = .ok (.putfield 35, 3) := by decide +kernel
theorem dX6_init_75 : decode cX6_init 75 = .ok (.aload_n 0, 1) := by decide +kernel
theorem dX6_init_76 : decode cX6_init 76 = .ok (.bipush 16, 2) := by decide +kernel
theorem dX6_init_78 : decode cX6_init 78 = .ok (.newarray .int, 2) := by decide +kernel
theorem dX6_init_80 : decode cX6_init 80 = .ok (.putfield 39, 3) := by decide +kernel
theorem dX6_init_83 : decode cX6_init 83 = .ok (.aload_n 0, 1) := by decide +kernel
theorem dX6_init_84 : decode cX6_init 84 = .ok (.sipush 800, 3) := by decide +kernel
theorem dX6_init_87 : decode cX6_init 87 = .ok (.newarray .int, 2) := by decide +kernel
theorem dX6_init_89 : decode cX6_init 89 = .ok (.putfield 42, 3) := by decide +kernel
theorem dX6_init_92 : decode cX6_init 92 = .ok (.aload_n 0, 1) := by decide +kernel
theorem dX6_init_93 : decode cX6_init 93 = .ok (.getfield 7, 3) := by decide +kernel
theorem dX6_init_96 : decode cX6_init 96 = .ok (.iconst 1, 1) := by decide +kernel
theorem dX6_init_97 : decode cX6_init 97 = .ok (.iconst 1, 1) := by decide +kernel
theorem dX6_init_98 : decode cX6_init 98 = .ok (.iastore, 1) := by decide +kernel
theorem dX6_init_99 : decode cX6_init 99 = .ok (.return_, 1) := by decide +kernel
theorem dX6_thrown_0 : decode cX6_thrown 0 = .ok (.aload_n 0, 1) := by decide +kernel
theorem dX6_thrown_1 : decode cX6_thrown 1 = .ok (.getfield 45, 3) := by decide +kernel
theorem dX6_thrown_4 : decode cX6_thrown 4 = .ok (.ireturn, 1) := by decide +kernel
theorem dX6_in_0 : decode cX6_in 0 = .ok (.iload_n 0, 1) := by decide +kernel
theorem dX6_in_1 : decode cX6_in 1 = .ok (.iload_n 1, 1) := by decide +kernel
theorem dX6_in_2 : decode cX6_in 2 = .ok (.if_icmp .lt 12, 3) := by decide +kernel
theorem dX6_in_5 : decode cX6_in 5 = .ok (.iload_n 0, 1) := by decide +kernel
theorem dX6_in_6 : decode cX6_in 6 = .ok (.iload_n 2, 1) := by decide +kernel
theorem dX6_in_7 : decode cX6_in 7 = .ok (.if_icmp .gt 7, 3) := by decide +kernel
theorem dX6_in_10 : decode cX6_in 10 = .ok (.iconst 1, 1) := by decide +kernel
theorem dX6_in_11 : decode cX6_in 11 = .ok (.goto 4, 3) := by decide +kernel
theorem dX6_in_14 : decode cX6_in 14 = .ok (.iconst 0, 1) := by decide +kernel
theorem dX6_in_15 : decode cX6_in 15 = .ok (.ireturn, 1) := by decide +kernel
theorem dX6_keep_0 : decode cX6_keep 0 = .ok (.aload_n 0, 1) := by decide +kernel
theorem dX6_keep_1 : decode cX6_keep 1 = .ok (.getfield 48, 3) := by decide +kernel
theorem dX6_keep_4 : decode cX6_keep 4 = .ok (.iconst 4, 1) := by decide +kernel
theorem dX6_keep_5 : decode cX6_keep 5 = .ok (.if_icmp .ne 44, 3) := by decide +kernel
theorem dX6_keep_8 : decode cX6_keep 8 = .ok (.iconst 0, 1) := by decide +kernel
theorem dX6_keep_9 : decode cX6_keep 9 = .ok (.istore_n 1, 1) := by decide +kernel
theorem dX6_keep_10 : decode cX6_keep 10 = .ok (.iload_n 1, 1) := by decide +kernel
theorem dX6_keep_11 : decode cX6_keep 11 = .ok (.sipush 1134, 3) := by decide +kernel
theorem dX6_keep_14 : decode cX6_keep 14 = .ok (.if_icmp .ge 25, 3) := by decide +kernel
theorem dX6_keep_17 : decode cX6_keep 17 = .ok (.aload_n 0, 1) := by decide +kernel
theorem dX6_keep_18 : decode cX6_keep 18 = .ok (.getfield 13, 3) := by decide +kernel
theorem dX6_keep_21 : decode cX6_keep 21 = .ok (.iload_n 1, 1) := by decide +kernel
theorem dX6_keep_22 : decode cX6_keep 22 = .ok (.aload_n 0, 1) := by decide +kernel
theorem dX6_keep_23 : decode cX6_keep 23 = .ok (.getfield 13, 3) := by decide +kernel
theorem dX6_keep_26 : decode cX6_keep 26 = .ok (.iload_n 1, 1) := by decide +kernel
theorem dX6_keep_27 : decode cX6_keep 27 = .ok (.sipush 378, 3) := by decide +kernel
theorem dX6_keep_30 : decode cX6_keep 30 = .ok (.iadd, 1) := by decide +kernel
theorem dX6_keep_31 : decode cX6_keep 31 = .ok (.iaload, 1) := by decide +kernel
theorem dX6_keep_32 : decode cX6_keep 32 = .ok (.iastore, 1) := by decide +kernel
theorem dX6_keep_33 : decode cX6_keep 33 = .ok (.iinc 1 1, 3) := by decide +kernel
theorem dX6_keep_36 : decode cX6_keep 36 = .ok (.goto (-26), 3) := by decide +kernel
theorem dX6_keep_39 : decode cX6_keep 39 = .ok (.aload_n 0, 1) := by decide +kernel
theorem dX6_keep_40 : decode cX6_keep 40 = .ok (.dup, 1) := by decide +kernel
theorem dX6_keep_41 : decode cX6_keep 41 = .ok (.getfield 48, 3) := by decide +kernel
theorem dX6_keep_44 : decode cX6_keep 44 = .ok (.iconst 1, 1) := by decide +kernel
theorem dX6_keep_45 : decode cX6_keep 45 = .ok (.isub, 1) := by decide +kernel
theorem dX6_keep_46 : decode cX6_keep 46 = .ok (.putfield 48, 3) := by decide +kernel
theorem dX6_keep_49 : decode cX6_keep 49 = .ok (.iconst 0, 1) := by decide +kernel
theorem dX6_keep_50 : decode cX6_keep 50 = .ok (.istore_n 1, 1) := by decide +kernel
theorem dX6_keep_51 : decode cX6_keep 51 = .ok (.iload_n 1, 1) := by decide +kernel
theorem dX6_keep_52 : decode cX6_keep 52 = .ok (.sipush 378, 3) := by decide +kernel
theorem dX6_keep_55 : decode cX6_keep 55 = .ok (.if_icmp .ge 30, 3) := by decide +kernel
theorem dX6_keep_58 : decode cX6_keep 58 = .ok (.aload_n 0, 1) := by decide +kernel
theorem dX6_keep_59 : decode cX6_keep 59 = .ok (.getfield 13, 3) := by decide +kernel
theorem dX6_keep_62 : decode cX6_keep 62 = .ok (.sipush 378, 3) := by decide +kernel
theorem dX6_keep_65 : decode cX6_keep 65 = .ok (.aload_n 0, 1) := by decide +kernel
theorem dX6_keep_66 : decode cX6_keep 66 = .ok (.getfield 48, 3) := by decide +kernel
theorem dX6_keep_69 : decode cX6_keep 69 = .ok (.imul, 1) := by decide +kernel
theorem dX6_keep_70 : decode cX6_keep 70 = .ok (.iload_n 1, 1) := by decide +kernel
theorem dX6_keep_71 : decode cX6_keep 71 = .ok (.iadd, 1) := by decide +kernel
theorem dX6_keep_72 : decode cX6_keep 72 = .ok (.aload_n 0, 1) := by decide +kernel
theorem dX6_keep_73 : decode cX6_keep 73 = .ok (.getfield 7, 3) := by decide +kernel
theorem dX6_keep_76 : decode cX6_keep 76 = .ok (.iload_n 1, 1) := by decide +kernel
theorem dX6_keep_77 : decode cX6_keep 77 = .ok (.iaload, 1) := by decide +kernel
theorem dX6_keep_78 : decode cX6_keep 78 = .ok (.iastore, 1) := by decide +kernel
theorem dX6_keep_79 : decode cX6_keep 79 = .ok (.iinc 1 1, 3) := by decide +kernel
theorem dX6_keep_82 : decode cX6_keep 82 = .ok (.goto (-31), 3) := by decide +kernel
theorem dX6_keep_85 : decode cX6_keep 85 = .ok (.aload_n 0, 1) := by decide +kernel
theorem dX6_keep_86 : decode cX6_keep 86 = .ok (.dup, 1) := by decide +kernel
theorem dX6_keep_87 : decode cX6_keep 87 = .ok (.getfield 48, 3) := by decide +kernel
theorem dX6_keep_90 : decode cX6_keep 90 = .ok (.iconst 1, 1) := by decide +kernel
theorem dX6_keep_91 : decode cX6_keep 91 = .ok (.iadd, 1) := by decide +kernel
theorem dX6_keep_92 : decode cX6_keep 92 = .ok (.putfield 48, 3) := by decide +kernel
theorem dX6_keep_95 : decode cX6_keep 95 = .ok (.return_, 1) := by decide +kernel
theorem dX6_isVariant_0 : decode cX6_isVariant 0 = .ok (.iload_n 1, 1) := by decide +kernel
theorem dX6_isVariant_1 : decode cX6_isVariant 1 = .ok (.iconst 0, 1) := by decide +kernel
theorem dX6_isVariant_2 : decode cX6_isVariant 2 = .ok (.aload_n 0, 1) := by decide +kernel
theorem dX6_isVariant_3 : decode cX6_isVariant 3 = .ok (.getfield 7, 3) := by decide +kernel
theorem dX6_isVariant_6 : decode cX6_isVariant 6 = .ok (.iconst 0, 1) := by decide +kernel
theorem dX6_isVariant_7 : decode cX6_isVariant 7 = .ok (.iaload, 1) := by decide +kernel
theorem dX6_isVariant_8 : decode cX6_isVariant 8 = .ok (.iconst 1, 1) := by decide +kernel
theorem dX6_isVariant_9 : decode cX6_isVariant 9 = .ok (.isub, 1) := by decide +kernel
theorem dX6_isVariant_10 : decode cX6_isVariant 10 = .ok (.invokestatic 51, 3) := by decide +kernel
theorem dX6_isVariant_13 : decode cX6_isVariant 13 = .ok (.ireturn, 1) := by decide +kernel
theorem dX6_isList_0 : decode cX6_isList 0 = .ok (.iload_n 0, 1) := by decide +kernel
theorem dX6_isList_1 : decode cX6_isList 1 = .ok (.iconst 0, 1) := by decide +kernel
theorem dX6_isList_2 : decode cX6_isList 2 = .ok (.iconst 1, 1) := by decide +kernel
theorem dX6_isList_3 : decode cX6_isList 3 = .ok (.invokestatic 51, 3) := by decide +kernel
theorem dX6_isList_6 : decode cX6_isList 6 = .ok (.ifCond .eq 16, 3) := by decide +kernel
theorem dX6_isList_9 : decode cX6_isList 9 = .ok (.iload_n 1, 1) := by decide +kernel
theorem dX6_isList_10 : decode cX6_isList 10 = .ok (.iconst 0, 1) := by decide +kernel
theorem dX6_isList_11 : decode cX6_isList 11 = .ok (.iconst 2, 1) := by decide +kernel
theorem dX6_isList_12 : decode cX6_isList 12 = .ok (.invokestatic 51, 3) := by decide +kernel
theorem dX6_isList_15 : decode cX6_isList 15 = .ok (.ifCond .eq 7, 3) := by decide +kernel
theorem dX6_isList_18 : decode cX6_isList 18 = .ok (.iconst 1, 1) := by decide +kernel
theorem dX6_isList_19 : decode cX6_isList 19 = .ok (.goto 4, 3) := by decide +kernel
theorem dX6_isList_22 : decode cX6_isList 22 = .ok (.iconst 0, 1) := by decide +kernel
theorem dX6_isList_23 : decode cX6_isList 23 = .ok (.ireturn, 1) := by decide +kernel
theorem dX6_listOf_0 : decode cX6_listOf 0 = .ok (.iconst 3, 1) := by decide +kernel
theorem dX6_listOf_1 : decode cX6_listOf 1 = .ok (.iload_n 0, 1) := by decide +kernel
theorem dX6_listOf_2 : decode cX6_listOf 2 = .ok (.imul, 1) := by decide +kernel
theorem dX6_listOf_3 : decode cX6_listOf 3 = .ok (.iload_n 1, 1) := by decide +kernel
theorem dX6_listOf_4 : decode cX6_listOf 4 = .ok (.iadd, 1) := by decide +kernel
theorem dX6_listOf_5 : decode cX6_listOf 5 = .ok (.ireturn, 1) := by decide +kernel
theorem dX6_isEntry_0 : decode cX6_isEntry 0 = .ok (.iload_n 1, 1) := by decide +kernel
theorem dX6_isEntry_1 : decode cX6_isEntry 1 = .ok (.iload_n 2, 1) := by decide +kernel
theorem dX6_isEntry_2 : decode cX6_isEntry 2 = .ok (.invokestatic 55, 3) := by decide +kernel
theorem dX6_isEntry_5 : decode cX6_isEntry 5 = .ok (.ifCond .eq 29, 3) := by decide +kernel
theorem dX6_isEntry_8 : decode cX6_isEntry 8 = .ok (.iload_n 3, 1) := by decide +kernel
theorem dX6_isEntry_9 : decode cX6_isEntry 9 = .ok (.iconst 0, 1) := by decide +kernel
theorem dX6_isEntry_10 : decode cX6_isEntry 10 = .ok (.aload_n 0, 1) := by decide +kernel
theorem dX6_isEntry_11 : decode cX6_isEntry 11 = .ok (.getfield 7, 3) := by decide +kernel
theorem dX6_isEntry_14 : decode cX6_isEntry 14 = .ok (.iconst 4, 1) := by decide +kernel
theorem dX6_isEntry_15 : decode cX6_isEntry 15 = .ok (.iload_n 1, 1) := by decide +kernel
theorem dX6_isEntry_16 : decode cX6_isEntry 16 = .ok (.iload_n 2, 1) := by decide +kernel
theorem dX6_isEntry_17 : decode cX6_isEntry 17 = .ok (.invokestatic 59, 3) := by decide +kernel
theorem dX6_isEntry_20 : decode cX6_isEntry 20 = .ok (.iadd, 1) := by decide +kernel
theorem dX6_isEntry_21 : decode cX6_isEntry 21 = .ok (.iaload, 1) := by decide +kernel
theorem dX6_isEntry_22 : decode cX6_isEntry 22 = .ok (.iconst 1, 1) := by decide +kernel
theorem dX6_isEntry_23 : decode cX6_isEntry 23 = .ok (.isub, 1) := by decide +kernel
theorem dX6_isEntry_24 : decode cX6_isEntry 24 = .ok (.invokestatic 51, 3) := by decide +kernel
theorem dX6_isEntry_27 : decode cX6_isEntry 27 = .ok (.ifCond .eq 7, 3) := by decide +kernel
theorem dX6_isEntry_30 : decode cX6_isEntry 30 = .ok (.iconst 1, 1) := by decide +kernel
theorem dX6_isEntry_31 : decode cX6_isEntry 31 = .ok (.goto 4, 3) := by decide +kernel
theorem dX6_isEntry_34 : decode cX6_isEntry 34 = .ok (.iconst 0, 1) := by decide +kernel
theorem dX6_isEntry_35 : decode cX6_isEntry 35 = .ok (.ireturn, 1) := by decide +kernel
theorem dX6_of_0 : decode cX6_of 0 = .ok (.aload_n 0, 1) := by decide +kernel
theorem dX6_of_1 : decode cX6_of 1 = .ok (.getfield 7, 3) := by decide +kernel
theorem dX6_of_4 : decode cX6_of 4 = .ok (.bipush 10, 2) := by decide +kernel
theorem dX6_of_6 : decode cX6_of 6 = .ok (.bipush 8, 2) := by decide +kernel
theorem dX6_of_8 : decode cX6_of 8 = .ok (.iload_n 1, 1) := by decide +kernel
theorem dX6_of_9 : decode cX6_of 9 = .ok (.imul, 1) := by decide +kernel
theorem dX6_of_10 : decode cX6_of 10 = .ok (.iadd, 1) := by decide +kernel
theorem dX6_of_11 : decode cX6_of 11 = .ok (.iload_n 2, 1) := by decide +kernel
theorem dX6_of_12 : decode cX6_of 12 = .ok (.iadd, 1) := by decide +kernel
theorem dX6_of_13 : decode cX6_of 13 = .ok (.iaload, 1) := by decide +kernel
theorem dX6_of_14 : decode cX6_of 14 = .ok (.ireturn, 1) := by decide +kernel
theorem dX6_ofEntry_0 : decode cX6_ofEntry 0 = .ok (.aload_n 0, 1) := by decide +kernel
theorem dX6_ofEntry_1 : decode cX6_ofEntry 1 = .ok (.getfield 7, 3) := by decide +kernel
theorem dX6_ofEntry_4 : decode cX6_ofEntry 4 = .ok (.sipush 138, 3) := by decide +kernel
theorem dX6_ofEntry_7 : decode cX6_ofEntry 7 = .ok (.bipush 40, 2) := by decide +kernel
theorem dX6_ofEntry_9 : decode cX6_ofEntry 9 = .ok (.iload_n 1, 1) := by decide +kernel
theorem dX6_ofEntry_10 : decode cX6_ofEntry 10 = .ok (.imul, 1) := by decide +kernel
theorem dX6_ofEntry_11 : decode cX6_ofEntry 11 = .ok (.iadd, 1) := by decide +kernel
theorem dX6_ofEntry_12 : decode cX6_ofEntry 12 = .ok (.iconst 4, 1) := by decide +kernel
theorem dX6_ofEntry_13 : decode cX6_ofEntry 13 = .ok (.iload_n 2, 1) := by decide +kernel
theorem dX6_ofEntry_14 : decode cX6_ofEntry 14 = .ok (.imul, 1) := by decide +kernel
theorem dX6_ofEntry_15 : decode cX6_ofEntry 15 = .ok (.iadd, 1) := by decide +kernel
theorem dX6_ofEntry_16 : decode cX6_ofEntry 16 = .ok (.iload_n 3, 1) := by decide +kernel
theorem dX6_ofEntry_17 : decode cX6_ofEntry 17 = .ok (.iadd, 1) := by decide +kernel
theorem dX6_ofEntry_18 : decode cX6_ofEntry 18 = .ok (.iaload, 1) := by decide +kernel
theorem dX6_ofEntry_19 : decode cX6_ofEntry 19 = .ok (.ireturn, 1) := by decide +kernel
theorem dX6_type_0 : decode cX6_type 0 = .ok (.aload_n 0, 1) := by decide +kernel
theorem dX6_type_1 : decode cX6_type 1 = .ok (.iload_n 1, 1) := by decide +kernel
theorem dX6_type_2 : decode cX6_type 2 = .ok (.iconst 0, 1) := by decide +kernel
theorem dX6_type_3 : decode cX6_type 3 = .ok (.bipush 127, 2) := by decide +kernel
theorem dX6_type_5 : decode cX6_type 5 = .ok (.invokestatic 51, 3) := by decide +kernel
theorem dX6_type_8 : decode cX6_type 8 = .ok (.ifCond .ne 7, 3) := by decide +kernel
theorem dX6_type_11 : decode cX6_type 11 = .ok (.iconst 1, 1) := by decide +kernel
theorem dX6_type_12 : decode cX6_type 12 = .ok (.goto 17, 3) := by decide +kernel
theorem dX6_type_15 : decode cX6_type 15 = .ok (.aload_n 0, 1) := by decide +kernel
theorem dX6_type_16 : decode cX6_type 16 = .ok (.getfield 63, 3) := by decide +kernel
theorem dX6_type_19 : decode cX6_type 19 = .ok (.bipush 120, 2) := by decide +kernel
theorem dX6_type_21 : decode cX6_type 21 = .ok (.if_icmp .ne 7, 3) := by decide +kernel
theorem dX6_type_24 : decode cX6_type 24 = .ok (.iconst 2, 1) := by decide +kernel
theorem dX6_type_25 : decode cX6_type 25 = .ok (.goto 4, 3) := by decide +kernel
theorem dX6_type_28 : decode cX6_type 28 = .ok (.iconst 0, 1) := by decide +kernel
theorem dX6_type_29 : decode cX6_type 29 = .ok (.putfield 45, 3) := by decide +kernel
theorem dX6_type_32 : decode cX6_type 32 = .ok (.aload_n 0, 1) := by decide +kernel
theorem dX6_type_33 : decode cX6_type 33 = .ok (.getfield 45, 3) := by decide +kernel
theorem dX6_type_36 : decode cX6_type 36 = .ok (.ifCond .eq 5, 3) := by decide +kernel
theorem dX6_type_39 : decode cX6_type 39 = .ok (.iconst 0, 1) := by decide +kernel
theorem dX6_type_40 : decode cX6_type 40 = .ok (.ireturn, 1) := by decide +kernel
theorem dX6_type_41 : decode cX6_type 41 = .ok (.aload_n 0, 1) := by decide +kernel
theorem dX6_type_42 : decode cX6_type 42 = .ok (.getfield 16, 3) := by decide +kernel
theorem dX6_type_45 : decode cX6_type 45 = .ok (.aload_n 0, 1) := by decide +kernel
theorem dX6_type_46 : decode cX6_type 46 = .ok (.getfield 63, 3) := by decide +kernel
theorem dX6_type_49 : decode cX6_type 49 = .ok (.iload_n 1, 1) := by decide +kernel
theorem dX6_type_50 : decode cX6_type 50 = .ok (.iastore, 1) := by decide +kernel
theorem dX6_type_51 : decode cX6_type 51 = .ok (.aload_n 0, 1) := by decide +kernel
theorem dX6_type_52 : decode cX6_type 52 = .ok (.dup, 1) := by decide +kernel
theorem dX6_type_53 : decode cX6_type 53 = .ok (.getfield 63, 3) := by decide +kernel
theorem dX6_type_56 : decode cX6_type 56 = .ok (.iconst 1, 1) := by decide +kernel
theorem dX6_type_57 : decode cX6_type 57 = .ok (.iadd, 1) := by decide +kernel
theorem dX6_type_58 : decode cX6_type 58 = .ok (.putfield 63, 3) := by decide +kernel
theorem dX6_type_61 : decode cX6_type 61 = .ok (.aload_n 0, 1) := by decide +kernel
theorem dX6_type_62 : decode cX6_type 62 = .ok (.getfield 63, 3) := by decide +kernel
theorem dX6_type_65 : decode cX6_type 65 = .ok (.ireturn, 1) := by decide +kernel
theorem dX6_clearText_0 : decode cX6_clearText 0 = .ok (.aload_n 0, 1) := by decide +kernel
theorem dX6_clearText_1 : decode cX6_clearText 1 = .ok (.iconst 0, 1) := by decide +kernel
theorem dX6_clearText_2 : decode cX6_clearText 2 = .ok (.putfield 45, 3) := by decide +kernel
theorem dX6_clearText_5 : decode cX6_clearText 5 = .ok (.aload_n 0, 1) := by decide +kernel
theorem dX6_clearText_6 : decode cX6_clearText 6 = .ok (.getfield 63, 3) := by decide +kernel
theorem dX6_clearText_9 : decode cX6_clearText 9 = .ok (.istore_n 1, 1) := by decide +kernel
theorem dX6_clearText_10 : decode cX6_clearText 10 = .ok (.aload_n 0, 1) := by decide +kernel
theorem dX6_clearText_11 : decode cX6_clearText 11 = .ok (.iconst 0, 1) := by decide +kernel
theorem dX6_clearText_12 : decode cX6_clearText 12 = .ok (.putfield 63, 3) := by decide +kernel
theorem dX6_clearText_15 : decode cX6_clearText 15 = .ok (.iload_n 1, 1) := by decide +kernel
theorem dX6_clearText_16 : decode cX6_clearText 16 = .ok (.ireturn, 1) := by decide +kernel
theorem dX6_here_0 : decode cX6_here 0 = .ok (.aload_n 0, 1) := by decide +kernel
theorem dX6_here_1 : decode cX6_here 1 = .ok (.getfield 66, 3) := by decide +kernel
theorem dX6_here_4 : decode cX6_here 4 = .ok (.aload_n 0, 1) := by decide +kernel
theorem dX6_here_5 : decode cX6_here 5 = .ok (.getfield 63, 3) := by decide +kernel
theorem dX6_here_8 : decode cX6_here 8 = .ok (.if_icmp .ge 15, 3) := by decide +kernel
theorem dX6_here_11 : decode cX6_here 11 = .ok (.aload_n 0, 1) := by decide +kernel
theorem dX6_here_12 : decode cX6_here 12 = .ok (.getfield 16, 3) := by decide +kernel
theorem dX6_here_15 : decode cX6_here 15 = .ok (.aload_n 0, 1) := by decide +kernel
theorem dX6_here_16 : decode cX6_here 16 = .ok (.getfield 66, 3) := by decide +kernel
theorem dX6_here_19 : decode cX6_here 19 = .ok (.iaload, 1) := by decide +kernel
theorem dX6_here_20 : decode cX6_here 20 = .ok (.goto 4, 3) := by decide +kernel
theorem dX6_here_23 : decode cX6_here 23 = .ok (.iconst (-1), 1) := by decide +kernel
theorem dX6_here_24 : decode cX6_here 24 = .ok (.ireturn, 1) := by decide +kernel
theorem dX6_isEnd_0 : decode cX6_isEnd 0 = .ok (.aload_n 0, 1) := by decide +kernel
theorem dX6_isEnd_1 : decode cX6_isEnd 1 = .ok (.getfield 66, 3) := by decide +kernel
theorem dX6_isEnd_4 : decode cX6_isEnd 4 = .ok (.aload_n 0, 1) := by decide +kernel
theorem dX6_isEnd_5 : decode cX6_isEnd 5 = .ok (.getfield 63, 3) := by decide +kernel
theorem dX6_isEnd_8 : decode cX6_isEnd 8 = .ok (.if_icmp .ne 7, 3) := by decide +kernel
theorem dX6_isEnd_11 : decode cX6_isEnd 11 = .ok (.iconst 1, 1) := by decide +kernel
theorem dX6_isEnd_12 : decode cX6_isEnd 12 = .ok (.goto 4, 3) := by decide +kernel
theorem dX6_isEnd_15 : decode cX6_isEnd 15 = .ok (.iconst 0, 1) := by decide +kernel
theorem dX6_isEnd_16 : decode cX6_isEnd 16 = .ok (.ireturn, 1) := by decide +kernel
theorem dX6_skips_0 : decode cX6_skips 0 = .ok (.aload_n 0, 1) := by decide +kernel
theorem dX6_skips_1 : decode cX6_skips 1 = .ok (.getfield 66, 3) := by decide +kernel
theorem dX6_skips_4 : decode cX6_skips 4 = .ok (.istore_n 1, 1) := by decide +kernel
theorem dX6_skips_5 : decode cX6_skips 5 = .ok (.aload_n 0, 1) := by decide +kernel
theorem dX6_skips_6 : decode cX6_skips 6 = .ok (.invokevirtual 69, 3) := by decide +kernel
theorem dX6_skips_9 : decode cX6_skips 9 = .ok (.bipush 32, 2) := by decide +kernel
theorem dX6_skips_11 : decode cX6_skips 11 = .ok (.if_icmp .ne 16, 3) := by decide +kernel
theorem dX6_skips_14 : decode cX6_skips 14 = .ok (.aload_n 0, 1) := by decide +kernel
theorem dX6_skips_15 : decode cX6_skips 15 = .ok (.dup, 1) := by decide +kernel
theorem dX6_skips_16 : decode cX6_skips 16 = .ok (.getfield 66, 3) := by decide +kernel
theorem dX6_skips_19 : decode cX6_skips 19 = .ok (.iconst 1, 1) := by decide +kernel
theorem dX6_skips_20 : decode cX6_skips 20 = .ok (.iadd, 1) := by decide +kernel
theorem dX6_skips_21 : decode cX6_skips 21 = .ok (.putfield 66, 3) := by decide +kernel
theorem dX6_skips_24 : decode cX6_skips 24 = .ok (.goto (-19), 3) := by decide +kernel
theorem dX6_skips_27 : decode cX6_skips 27 = .ok (.aload_n 0, 1) := by decide +kernel
theorem dX6_skips_28 : decode cX6_skips 28 = .ok (.getfield 66, 3) := by decide +kernel
theorem dX6_skips_31 : decode cX6_skips 31 = .ok (.iload_n 1, 1) := by decide +kernel
theorem dX6_skips_32 : decode cX6_skips 32 = .ok (.if_icmp .le 7, 3) := by decide +kernel
theorem dX6_skips_35 : decode cX6_skips 35 = .ok (.iconst 1, 1) := by decide +kernel
theorem dX6_skips_36 : decode cX6_skips 36 = .ok (.goto 4, 3) := by decide +kernel
theorem dX6_skips_39 : decode cX6_skips 39 = .ok (.iconst 0, 1) := by decide +kernel
theorem dX6_skips_40 : decode cX6_skips 40 = .ok (.ireturn, 1) := by decide +kernel
theorem dX6_takes_0 : decode cX6_takes 0 = .ok (.aload_n 0, 1) := by decide +kernel
theorem dX6_takes_1 : decode cX6_takes 1 = .ok (.invokevirtual 69, 3) := by decide +kernel
theorem dX6_takes_4 : decode cX6_takes 4 = .ok (.iload_n 1, 1) := by decide +kernel
theorem dX6_takes_5 : decode cX6_takes 5 = .ok (.if_icmp .ne 7, 3) := by decide +kernel
theorem dX6_takes_8 : decode cX6_takes 8 = .ok (.iconst 1, 1) := by decide +kernel
theorem dX6_takes_9 : decode cX6_takes 9 = .ok (.goto 4, 3) := by decide +kernel
theorem dX6_takes_12 : decode cX6_takes 12 = .ok (.iconst 0, 1) := by decide +kernel
theorem dX6_takes_13 : decode cX6_takes 13 = .ok (.istore_n 2, 1) := by decide +kernel
theorem dX6_takes_14 : decode cX6_takes 14 = .ok (.aload_n 0, 1) := by decide +kernel
theorem dX6_takes_15 : decode cX6_takes 15 = .ok (.dup, 1) := by decide +kernel
theorem dX6_takes_16 : decode cX6_takes 16 = .ok (.getfield 66, 3) := by decide +kernel
theorem dX6_takes_19 : decode cX6_takes 19 = .ok (.iload_n 2, 1) := by decide +kernel
theorem dX6_takes_20 : decode cX6_takes 20 = .ok (.ifCond .eq 7, 3) := by decide +kernel
theorem dX6_takes_23 : decode cX6_takes 23 = .ok (.iconst 1, 1) := by decide +kernel
theorem dX6_takes_24 : decode cX6_takes 24 = .ok (.goto 4, 3) := by decide +kernel
theorem dX6_takes_27 : decode cX6_takes 27 = .ok (.iconst 0, 1) := by decide +kernel
theorem dX6_takes_28 : decode cX6_takes 28 = .ok (.iadd, 1) := by decide +kernel
theorem dX6_takes_29 : decode cX6_takes 29 = .ok (.putfield 66, 3) := by decide +kernel
theorem dX6_takes_32 : decode cX6_takes 32 = .ok (.iload_n 2, 1) := by decide +kernel
theorem dX6_takes_33 : decode cX6_takes 33 = .ok (.ireturn, 1) := by decide +kernel
theorem dX6_readName_0 : decode cX6_readName 0 = .ok (.aload_n 0, 1) := by decide +kernel
theorem dX6_readName_1 : decode cX6_readName 1 = .ok (.getfield 66, 3) := by decide +kernel
theorem dX6_readName_4 : decode cX6_readName 4 = .ok (.istore_n 2, 1) := by decide +kernel
theorem dX6_readName_5 : decode cX6_readName 5 = .ok (.iconst 0, 1) := by decide +kernel
theorem dX6_readName_6 : decode cX6_readName 6 = .ok (.istore_n 3, 1) := by decide +kernel
theorem dX6_readName_7 : decode cX6_readName 7 = .ok (.aload_n 0, 1) := by decide +kernel
theorem dX6_readName_8 : decode cX6_readName 8 = .ok (.getfield 66, 3) := by decide +kernel
theorem dX6_readName_11 : decode cX6_readName 11 = .ok (.iload_n 2, 1) := by decide +kernel
theorem dX6_readName_12 : decode cX6_readName 12 = .ok (.iconst 4, 1) := by decide +kernel
theorem dX6_readName_13 : decode cX6_readName 13 = .ok (.iadd, 1) := by decide +kernel
theorem dX6_readName_14 : decode cX6_readName 14 = .ok (.if_icmp .ge 49, 3) := by decide +kernel
theorem dX6_readName_17 : decode cX6_readName 17 = .ok (.aload_n 0, 1) := by decide +kernel
theorem dX6_readName_18 : decode cX6_readName 18 = .ok (.invokevirtual 69, 3) := by decide +kernel
theorem dX6_readName_21 : decode cX6_readName 21 = .ok (.bipush 97, 2) := by decide +kernel
theorem dX6_readName_23 : decode cX6_readName 23 = .ok (.bipush 122, 2) := by decide +kernel
theorem dX6_readName_25 : decode cX6_readName 25 = .ok (.invokestatic 51, 3) := by decide +kernel
theorem dX6_readName_28 : decode cX6_readName 28 = .ok (.ifCond .eq 35, 3) := by decide +kernel
theorem dX6_readName_31 : decode cX6_readName 31 = .ok (.iload_n 3, 1) := by decide +kernel
theorem dX6_readName_32 : decode cX6_readName 32 = .ok (.aload_n 0, 1) := by decide +kernel
theorem dX6_readName_33 : decode cX6_readName 33 = .ok (.invokevirtual 69, 3) := by decide +kernel
theorem dX6_readName_36 : decode cX6_readName 36 = .ok (.bipush 8, 2) := by decide +kernel
theorem dX6_readName_38 : decode cX6_readName 38 = .ok (.iconst 3, 1) := by decide +kernel
theorem dX6_readName_39 : decode cX6_readName 39 = .ok (.aload_n 0, 1) := by decide +kernel
theorem dX6_readName_40 : decode cX6_readName 40 = .ok (.getfield 66, 3) := by decide +kernel
theorem dX6_readName_43 : decode cX6_readName 43 = .ok (.isub, 1) := by decide +kernel
theorem dX6_readName_44 : decode cX6_readName 44 = .ok (.iload_n 2, 1) := by decide +kernel
theorem dX6_readName_45 : decode cX6_readName 45 = .ok (.iadd, 1) := by decide +kernel
theorem dX6_readName_46 : decode cX6_readName 46 = .ok (.imul, 1) := by decide +kernel
theorem dX6_readName_47 : decode cX6_readName 47 = .ok (.ishl, 1) := by decide +kernel
theorem dX6_readName_48 : decode cX6_readName 48 = .ok (.ior, 1) := by decide +kernel
theorem dX6_readName_49 : decode cX6_readName 49 = .ok (.istore_n 3, 1) := by decide +kernel
theorem dX6_readName_50 : decode cX6_readName 50 = .ok (.aload_n 0, 1) := by decide +kernel
theorem dX6_readName_51 : decode cX6_readName 51 = .ok (.dup, 1) := by decide +kernel
theorem dX6_readName_52 : decode cX6_readName 52 = .ok (.getfield 66, 3) := by decide +kernel
theorem dX6_readName_55 : decode cX6_readName 55 = .ok (.iconst 1, 1) := by decide +kernel
theorem dX6_readName_56 : decode cX6_readName 56 = .ok (.iadd, 1) := by decide +kernel
theorem dX6_readName_57 : decode cX6_readName 57 = .ok (.putfield 66, 3) := by decide +kernel
theorem dX6_readName_60 : decode cX6_readName 60 = .ok (.goto (-53), 3) := by decide +kernel
theorem dX6_readName_63 : decode cX6_readName 63 = .ok (.aload_n 0, 1) := by decide +kernel
theorem dX6_readName_64 : decode cX6_readName 64 = .ok (.getfield 19, 3) := by decide +kernel
theorem dX6_readName_67 : decode cX6_readName 67 = .ok (.iload_n 1, 1) := by decide +kernel
theorem dX6_readName_68 : decode cX6_readName 68 = .ok (.iload_n 3, 1) := by decide +kernel
theorem dX6_readName_69 : decode cX6_readName 69 = .ok (.iastore, 1) := by decide +kernel
theorem dX6_readName_70 : decode cX6_readName 70 = .ok (.aload_n 0, 1) := by decide +kernel
theorem dX6_readName_71 : decode cX6_readName 71 = .ok (.getfield 66, 3) := by decide +kernel
theorem dX6_readName_74 : decode cX6_readName 74 = .ok (.iload_n 2, 1) := by decide +kernel
theorem dX6_readName_75 : decode cX6_readName 75 = .ok (.if_icmp .le 7, 3) := by decide +kernel
theorem dX6_readName_78 : decode cX6_readName 78 = .ok (.iconst 1, 1) := by decide +kernel
theorem dX6_readName_79 : decode cX6_readName 79 = .ok (.goto 4, 3) := by decide +kernel
theorem dX6_readName_82 : decode cX6_readName 82 = .ok (.iconst 0, 1) := by decide +kernel
theorem dX6_readName_83 : decode cX6_readName 83 = .ok (.ireturn, 1) := by decide +kernel
theorem dX6_readDigits_0 : decode cX6_readDigits 0 = .ok (.aload_n 0, 1) := by decide +kernel
theorem dX6_readDigits_1 : decode cX6_readDigits 1 = .ok (.getfield 66, 3) := by decide +kernel
theorem dX6_readDigits_4 : decode cX6_readDigits 4 = .ok (.istore_n 2, 1) := by decide +kernel
theorem dX6_readDigits_5 : decode cX6_readDigits 5 = .ok (.aload_n 0, 1) := by decide +kernel
theorem dX6_readDigits_6 : decode cX6_readDigits 6 = .ok (.iconst 0, 1) := by decide +kernel
theorem dX6_readDigits_7 : decode cX6_readDigits 7 = .ok (.putfield 73, 3) := by decide +kernel
theorem dX6_readDigits_10 : decode cX6_readDigits 10 = .ok (.aload_n 0, 1) := by decide +kernel
theorem dX6_readDigits_11 : decode cX6_readDigits 11 = .ok (.getfield 66, 3) := by decide +kernel
theorem dX6_readDigits_14 : decode cX6_readDigits 14 = .ok (.iload_n 2, 1) := by decide +kernel
theorem dX6_readDigits_15 : decode cX6_readDigits 15 = .ok (.iload_n 1, 1) := by decide +kernel
theorem dX6_readDigits_16 : decode cX6_readDigits 16 = .ok (.iadd, 1) := by decide +kernel
theorem dX6_readDigits_17 : decode cX6_readDigits 17 = .ok (.if_icmp .ge 49, 3) := by decide +kernel
theorem dX6_readDigits_20 : decode cX6_readDigits 20 = .ok (.aload_n 0, 1) := by decide +kernel
theorem dX6_readDigits_21 : decode cX6_readDigits 21 = .ok (.invokevirtual 69, 3) := by decide +kernel
theorem dX6_readDigits_24 : decode cX6_readDigits 24 = .ok (.bipush 48, 2) := by decide +kernel
theorem dX6_readDigits_26 : decode cX6_readDigits 26 = .ok (.bipush 57, 2) := by decide +kernel
theorem dX6_readDigits_28 : decode cX6_readDigits 28 = .ok (.invokestatic 51, 3) := by decide +kernel
theorem dX6_readDigits_31 : decode cX6_readDigits 31 = .ok (.ifCond .eq 35, 3) := by decide +kernel
theorem dX6_readDigits_34 : decode cX6_readDigits 34 = .ok (.aload_n 0, 1) := by decide +kernel
theorem dX6_readDigits_35 : decode cX6_readDigits 35 = .ok (.bipush 10, 2) := by decide +kernel
theorem dX6_readDigits_37 : decode cX6_readDigits 37 = .ok (.aload_n 0, 1) := by decide +kernel
theorem dX6_readDigits_38 : decode cX6_readDigits 38 = .ok (.getfield 73, 3) := by decide +kernel
theorem dX6_readDigits_41 : decode cX6_readDigits 41 = .ok (.imul, 1) := by decide +kernel
theorem dX6_readDigits_42 : decode cX6_readDigits 42 = .ok (.aload_n 0, 1) := by decide +kernel
theorem dX6_readDigits_43 : decode cX6_readDigits 43 = .ok (.invokevirtual 69, 3) := by decide +kernel
theorem dX6_readDigits_46 : decode cX6_readDigits 46 = .ok (.iadd, 1) := by decide +kernel
theorem dX6_readDigits_47 : decode cX6_readDigits 47 = .ok (.bipush 48, 2) := by decide +kernel
theorem dX6_readDigits_49 : decode cX6_readDigits 49 = .ok (.isub, 1) := by decide +kernel
theorem dX6_readDigits_50 : decode cX6_readDigits 50 = .ok (.putfield 73, 3) := by decide +kernel
theorem dX6_readDigits_53 : decode cX6_readDigits 53 = .ok (.aload_n 0, 1) := by decide +kernel
theorem dX6_readDigits_54 : decode cX6_readDigits 54 = .ok (.dup, 1) := by decide +kernel
theorem dX6_readDigits_55 : decode cX6_readDigits 55 = .ok (.getfield 66, 3) := by decide +kernel
theorem dX6_readDigits_58 : decode cX6_readDigits 58 = .ok (.iconst 1, 1) := by decide +kernel
theorem dX6_readDigits_59 : decode cX6_readDigits 59 = .ok (.iadd, 1) := by decide +kernel
theorem dX6_readDigits_60 : decode cX6_readDigits 60 = .ok (.putfield 66, 3) := by decide +kernel
theorem dX6_readDigits_63 : decode cX6_readDigits 63 = .ok (.goto (-53), 3) := by decide +kernel
theorem dX6_readDigits_66 : decode cX6_readDigits 66 = .ok (.aload_n 0, 1) := by decide +kernel
theorem dX6_readDigits_67 : decode cX6_readDigits 67 = .ok (.getfield 66, 3) := by decide +kernel
theorem dX6_readDigits_70 : decode cX6_readDigits 70 = .ok (.iload_n 2, 1) := by decide +kernel
theorem dX6_readDigits_71 : decode cX6_readDigits 71 = .ok (.if_icmp .le 7, 3) := by decide +kernel
theorem dX6_readDigits_74 : decode cX6_readDigits 74 = .ok (.iconst 1, 1) := by decide +kernel
theorem dX6_readDigits_75 : decode cX6_readDigits 75 = .ok (.goto 4, 3) := by decide +kernel
theorem dX6_readDigits_78 : decode cX6_readDigits 78 = .ok (.iconst 0, 1) := by decide +kernel
theorem dX6_readDigits_79 : decode cX6_readDigits 79 = .ok (.ireturn, 1) := by decide +kernel
theorem dX6_readLanguage_0 : decode cX6_readLanguage 0 = .ok (.aload_n 0, 1) := by decide +kernel
theorem dX6_readLanguage_1 : decode cX6_readLanguage 1 = .ok (.iload_n 1, 1) := by decide +kernel
theorem dX6_readLanguage_2 : decode cX6_readLanguage 2 = .ok (.invokevirtual 76, 3) := by decide +kernel
theorem dX6_readLanguage_5 : decode cX6_readLanguage 5 = .ok (.ifCond .ne 5, 3) := by decide +kernel
theorem dX6_readLanguage_8 : decode cX6_readLanguage 8 = .ok (.iconst 0, 1) := by decide +kernel
theorem dX6_readLanguage_9 : decode cX6_readLanguage 9 = .ok (.ireturn, 1) := by decide +kernel
theorem dX6_readLanguage_10 : decode cX6_readLanguage 10 = .ok (.iconst 1, 1) := by decide +kernel
theorem dX6_readLanguage_11 : decode cX6_readLanguage 11 = .ok (.istore_n 2, 1) := by decide +kernel
theorem dX6_readLanguage_12 : decode cX6_readLanguage 12 = .ok (.iload_n 2, 1) := by decide +kernel
theorem dX6_readLanguage_13 : decode cX6_readLanguage 13 = .ok (.iconst 3, 1) := by decide +kernel
theorem dX6_readLanguage_14 : decode cX6_readLanguage 14 = .ok (.if_icmp .ge 40, 3) := by decide +kernel
theorem dX6_readLanguage_17 : decode cX6_readLanguage 17 = .ok (.aload_n 0, 1) := by decide +kernel
theorem dX6_readLanguage_18 : decode cX6_readLanguage 18 = .ok (.invokevirtual 69, 3) := by decide +kernel
theorem dX6_readLanguage_21 : decode cX6_readLanguage 21 = .ok (.bipush 45, 2) := by decide +kernel
theorem dX6_readLanguage_23 : decode cX6_readLanguage 23 = .ok (.if_icmp .ne 31, 3) := by decide +kernel
theorem dX6_readLanguage_26 : decode cX6_readLanguage 26 = .ok (.aload_n 0, 1) := by decide +kernel
theorem dX6_readLanguage_27 : decode cX6_readLanguage 27 = .ok (.dup, 1) := by decide +kernel
theorem dX6_readLanguage_28 : decode cX6_readLanguage 28 = .ok (.getfield 66, 3) := by decide +kernel
theorem dX6_readLanguage_31 : decode cX6_readLanguage 31 = .ok (.iconst 1, 1) := by decide +kernel
theorem dX6_readLanguage_32 : decode cX6_readLanguage 32 = .ok (.iadd, 1) := by decide +kernel
theorem dX6_readLanguage_33 : decode cX6_readLanguage 33 = .ok (.putfield 66, 3) := by decide +kernel
theorem dX6_readLanguage_36 : decode cX6_readLanguage 36 = .ok (.aload_n 0, 1) := by decide +kernel
theorem dX6_readLanguage_37 : decode cX6_readLanguage 37 = .ok (.iload_n 1, 1) := by decide +kernel
theorem dX6_readLanguage_38 : decode cX6_readLanguage 38 = .ok (.iload_n 2, 1) := by decide +kernel
theorem dX6_readLanguage_39 : decode cX6_readLanguage 39 = .ok (.iadd, 1) := by decide +kernel
theorem dX6_readLanguage_40 : decode cX6_readLanguage 40 = .ok (.invokevirtual 76, 3) := by decide +kernel
theorem dX6_readLanguage_43 : decode cX6_readLanguage 43 = .ok (.ifCond .ne 5, 3) := by decide +kernel
theorem dX6_readLanguage_46 : decode cX6_readLanguage 46 = .ok (.iconst 0, 1) := by decide +kernel
theorem dX6_readLanguage_47 : decode cX6_readLanguage 47 = .ok (.ireturn, 1) := by decide +kernel
theorem dX6_readLanguage_48 : decode cX6_readLanguage 48 = .ok (.iinc 2 1, 3) := by decide +kernel
theorem dX6_readLanguage_51 : decode cX6_readLanguage 51 = .ok (.goto (-39), 3) := by decide +kernel
theorem dX6_readLanguage_54 : decode cX6_readLanguage 54 = .ok (.iconst 1, 1) := by decide +kernel
theorem dX6_readLanguage_55 : decode cX6_readLanguage 55 = .ok (.ireturn, 1) := by decide +kernel
theorem dX6_readTypeRange_0 : decode cX6_readTypeRange 0 = .ok (.aload_n 0, 1) := by decide +kernel
theorem dX6_readTypeRange_1 : decode cX6_readTypeRange 1 = .ok (.bipush 42, 2) := by decide +kernel
theorem dX6_readTypeRange_3 : decode cX6_readTypeRange 3 = .ok (.invokevirtual 80, 3) := by decide +kernel
theorem dX6_readTypeRange_6 : decode cX6_readTypeRange 6 = .ok (.ifCond .eq 27, 3) := by decide +kernel
theorem dX6_readTypeRange_9 : decode cX6_readTypeRange 9 = .ok (.aload_n 0, 1) := by decide +kernel
theorem dX6_readTypeRange_10 : decode cX6_readTypeRange 10 = .ok (.bipush 47, 2) := by decide +kernel
theorem dX6_readTypeRange_12 : decode cX6_readTypeRange 12 = .ok (.invokevirtual 80, 3) := by decide +kernel
theorem dX6_readTypeRange_15 : decode cX6_readTypeRange 15 = .ok (.ifCond .eq 16, 3) := by decide +kernel
theorem dX6_readTypeRange_18 : decode cX6_readTypeRange 18 = .ok (.aload_n 0, 1) := by decide +kernel
theorem dX6_readTypeRange_19 : decode cX6_readTypeRange 19 = .ok (.bipush 42, 2) := by decide +kernel
theorem dX6_readTypeRange_21 : decode cX6_readTypeRange 21 = .ok (.invokevirtual 80, 3) := by decide +kernel
theorem dX6_readTypeRange_24 : decode cX6_readTypeRange 24 = .ok (.ifCond .eq 7, 3) := by decide +kernel
theorem dX6_readTypeRange_27 : decode cX6_readTypeRange 27 = .ok (.iconst 1, 1) := by decide +kernel
theorem dX6_readTypeRange_28 : decode cX6_readTypeRange 28 = .ok (.goto 4, 3) := by decide +kernel
theorem dX6_readTypeRange_31 : decode cX6_readTypeRange 31 = .ok (.iconst 0, 1) := by decide +kernel
theorem dX6_readTypeRange_32 : decode cX6_readTypeRange 32 = .ok (.ireturn, 1) := by decide +kernel
theorem dX6_readTypeRange_33 : decode cX6_readTypeRange 33 = .ok (.aload_n 0, 1) := by decide +kernel
theorem dX6_readTypeRange_34 : decode cX6_readTypeRange 34 = .ok (.iload_n 1, 1) := by decide +kernel
theorem dX6_readTypeRange_35 : decode cX6_readTypeRange 35 = .ok (.invokevirtual 76, 3) := by decide +kernel
theorem dX6_readTypeRange_38 : decode cX6_readTypeRange 38 = .ok (.ifCond .eq 35, 3) := by decide +kernel
theorem dX6_readTypeRange_41 : decode cX6_readTypeRange 41 = .ok (.aload_n 0, 1) := by decide +kernel
theorem dX6_readTypeRange_42 : decode cX6_readTypeRange 42 = .ok (.bipush 47, 2) := by decide +kernel
theorem dX6_readTypeRange_44 : decode cX6_readTypeRange 44 = .ok (.invokevirtual 80, 3) := by decide +kernel
theorem dX6_readTypeRange_47 : decode cX6_readTypeRange 47 = .ok (.ifCond .eq 26, 3) := by decide +kernel
theorem dX6_readTypeRange_50 : decode cX6_readTypeRange 50 = .ok (.aload_n 0, 1) := by decide +kernel
theorem dX6_readTypeRange_51 : decode cX6_readTypeRange 51 = .ok (.bipush 42, 2) := by decide +kernel
theorem dX6_readTypeRange_53 : decode cX6_readTypeRange 53 = .ok (.invokevirtual 80, 3) := by decide +kernel
theorem dX6_readTypeRange_56 : decode cX6_readTypeRange 56 = .ok (.ifCond .ne 13, 3) := by decide +kernel
theorem dX6_readTypeRange_59 : decode cX6_readTypeRange 59 = .ok (.aload_n 0, 1) := by decide +kernel
theorem dX6_readTypeRange_60 : decode cX6_readTypeRange 60 = .ok (.iload_n 1, 1) := by decide +kernel
theorem dX6_readTypeRange_61 : decode cX6_readTypeRange 61 = .ok (.iconst 1, 1) := by decide +kernel
theorem dX6_readTypeRange_62 : decode cX6_readTypeRange 62 = .ok (.iadd, 1) := by decide +kernel
theorem dX6_readTypeRange_63 : decode cX6_readTypeRange 63 = .ok (.invokevirtual 76, 3) := by decide +kernel
theorem dX6_readTypeRange_66 : decode cX6_readTypeRange 66 = .ok (.ifCond .eq 7, 3) := by decide +kernel
theorem dX6_readTypeRange_69 : decode cX6_readTypeRange 69 = .ok (.iconst 1, 1) := by decide +kernel
theorem dX6_readTypeRange_70 : decode cX6_readTypeRange 70 = .ok (.goto 4, 3) := by decide +kernel
theorem dX6_readTypeRange_73 : decode cX6_readTypeRange 73 = .ok (.iconst 0, 1) := by decide +kernel
theorem dX6_readTypeRange_74 : decode cX6_readTypeRange 74 = .ok (.ireturn, 1) := by decide +kernel
theorem dX6_readRange_0 : decode cX6_readRange 0 = .ok (.iload_n 1, 1) := by decide +kernel
theorem dX6_readRange_1 : decode cX6_readRange 1 = .ok (.ifCond .ne 9, 3) := by decide +kernel
theorem dX6_readRange_4 : decode cX6_readRange 4 = .ok (.aload_n 0, 1) := by decide +kernel
theorem dX6_readRange_5 : decode cX6_readRange 5 = .ok (.iload_n 2, 1) := by decide +kernel
theorem dX6_readRange_6 : decode cX6_readRange 6 = .ok (.invokevirtual 83, 3) := by decide +kernel
theorem dX6_readRange_9 : decode cX6_readRange 9 = .ok (.ireturn, 1) := by decide +kernel
theorem dX6_readRange_10 : decode cX6_readRange 10 = .ok (.aload_n 0, 1) := by decide +kernel
theorem dX6_readRange_11 : decode cX6_readRange 11 = .ok (.bipush 42, 2) := by decide +kernel
theorem dX6_readRange_13 : decode cX6_readRange 13 = .ok (.invokevirtual 80, 3) := by decide +kernel
theorem dX6_readRange_16 : decode cX6_readRange 16 = .ok (.ifCond .ne 27, 3) := by decide +kernel
theorem dX6_readRange_19 : decode cX6_readRange 19 = .ok (.iload_n 1, 1) := by decide +kernel
theorem dX6_readRange_20 : decode cX6_readRange 20 = .ok (.iconst 1, 1) := by decide +kernel
theorem dX6_readRange_21 : decode cX6_readRange 21 = .ok (.if_icmp .ne 14, 3) := by decide +kernel
theorem dX6_readRange_24 : decode cX6_readRange 24 = .ok (.aload_n 0, 1) := by decide +kernel
theorem dX6_readRange_25 : decode cX6_readRange 25 = .ok (.iload_n 2, 1) := by decide +kernel
theorem dX6_readRange_26 : decode cX6_readRange 26 = .ok (.invokevirtual 86, 3) := by decide +kernel
theorem dX6_readRange_29 : decode cX6_readRange 29 = .ok (.ifCond .eq 18, 3) := by decide +kernel
theorem dX6_readRange_32 : decode cX6_readRange 32 = .ok (.goto 11, 3) := by decide +kernel
theorem dX6_readRange_35 : decode cX6_readRange 35 = .ok (.aload_n 0, 1) := by decide +kernel
theorem dX6_readRange_36 : decode cX6_readRange 36 = .ok (.iload_n 2, 1) := by decide +kernel
theorem dX6_readRange_37 : decode cX6_readRange 37 = .ok (.invokevirtual 76, 3) := by decide +kernel
theorem dX6_readRange_40 : decode cX6_readRange 40 = .ok (.ifCond .eq 7, 3) := by decide +kernel
theorem dX6_readRange_43 : decode cX6_readRange 43 = .ok (.iconst 1, 1) := by decide +kernel
theorem dX6_readRange_44 : decode cX6_readRange 44 = .ok (.goto 4, 3) := by decide +kernel
theorem dX6_readRange_47 : decode cX6_readRange 47 = .ok (.iconst 0, 1) := by decide +kernel
theorem dX6_readRange_48 : decode cX6_readRange 48 = .ok (.ireturn, 1) := by decide +kernel
theorem dX6_readWeight_0 : decode cX6_readWeight 0 = .ok (.aload_n 0, 1) := by decide +kernel
theorem dX6_readWeight_1 : decode cX6_readWeight 1 = .ok (.invokevirtual 89, 3) := by decide +kernel
theorem dX6_readWeight_4 : decode cX6_readWeight 4 = .ok (.istore_n 1, 1) := by decide +kernel
theorem dX6_readWeight_5 : decode cX6_readWeight 5 = .ok (.aload_n 0, 1) := by decide +kernel
theorem dX6_readWeight_6 : decode cX6_readWeight 6 = .ok (.getfield 66, 3) := by decide +kernel
theorem dX6_readWeight_9 : decode cX6_readWeight 9 = .ok (.istore_n 2, 1) := by decide +kernel
theorem dX6_readWeight_10 : decode cX6_readWeight 10 = .ok (.aload_n 0, 1) := by decide +kernel
theorem dX6_readWeight_11 : decode cX6_readWeight 11 = .ok (.iconst 4, 1) := by decide +kernel
theorem dX6_readWeight_12 : decode cX6_readWeight 12 = .ok (.invokevirtual 93, 3) := by decide +kernel
theorem dX6_readWeight_15 : decode cX6_readWeight 15 = .ok (.ifCond .ne 5, 3) := by decide +kernel
theorem dX6_readWeight_18 : decode cX6_readWeight 18 = .ok (.iconst 0, 1) := by decide +kernel
theorem dX6_readWeight_19 : decode cX6_readWeight 19 = .ok (.ireturn, 1) := by decide +kernel
theorem dX6_readWeight_20 : decode cX6_readWeight 20 = .ok (.aload_n 0, 1) := by decide +kernel
theorem dX6_readWeight_21 : decode cX6_readWeight 21 = .ok (.invokevirtual 69, 3) := by decide +kernel
theorem dX6_readWeight_24 : decode cX6_readWeight 24 = .ok (.bipush 48, 2) := by decide +kernel
theorem dX6_readWeight_26 : decode cX6_readWeight 26 = .ok (.bipush 57, 2) := by decide +kernel
theorem dX6_readWeight_28 : decode cX6_readWeight 28 = .ok (.invokestatic 51, 3) := by decide +kernel
theorem dX6_readWeight_31 : decode cX6_readWeight 31 = .ok (.istore_n 3, 1) := by decide +kernel
theorem dX6_readWeight_32 : decode cX6_readWeight 32 = .ok (.aload_n 0, 1) := by decide +kernel
theorem dX6_readWeight_33 : decode cX6_readWeight 33 = .ok (.getfield 73, 3) := by decide +kernel
theorem dX6_readWeight_36 : decode cX6_readWeight 36 = .ok (.sipush 1000, 3) := by decide +kernel
theorem dX6_readWeight_39 : decode cX6_readWeight 39 = .ok (.if_icmp .le 7, 3) := by decide +kernel
theorem dX6_readWeight_42 : decode cX6_readWeight 42 = .ok (.iconst 1, 1) := by decide +kernel
theorem dX6_readWeight_43 : decode cX6_readWeight 43 = .ok (.goto 4, 3) := by decide +kernel
theorem dX6_readWeight_46 : decode cX6_readWeight 46 = .ok (.iconst 0, 1) := by decide +kernel
theorem dX6_readWeight_47 : decode cX6_readWeight 47 = .ok (.istore 4, 2) := by decide +kernel
theorem dX6_readWeight_49 : decode cX6_readWeight 49 = .ok (.aload_n 0, 1) := by decide +kernel
theorem dX6_readWeight_50 : decode cX6_readWeight 50 = .ok (.iload 4, 2) := by decide +kernel
theorem dX6_readWeight_52 : decode cX6_readWeight 52 = .ok (.ifCond .eq 11, 3) := by decide +kernel
theorem dX6_readWeight_55 : decode cX6_readWeight 55 = .ok (.iload_n 3, 1) := by decide +kernel
theorem dX6_readWeight_56 : decode cX6_readWeight 56 = .ok (.ifCond .ne 7, 3) := by decide +kernel
theorem dX6_readWeight_59 : decode cX6_readWeight 59 = .ok (.iload_n 2, 1) := by decide +kernel
theorem dX6_readWeight_60 : decode cX6_readWeight 60 = .ok (.goto 7, 3) := by decide +kernel
theorem dX6_readWeight_63 : decode cX6_readWeight 63 = .ok (.aload_n 0, 1) := by decide +kernel
theorem dX6_readWeight_64 : decode cX6_readWeight 64 = .ok (.getfield 66, 3) := by decide +kernel
theorem dX6_readWeight_67 : decode cX6_readWeight 67 = .ok (.putfield 66, 3) := by decide +kernel
theorem dX6_readWeight_70 : decode cX6_readWeight 70 = .ok (.iload 4, 2) := by decide +kernel
theorem dX6_readWeight_72 : decode cX6_readWeight 72 = .ok (.ifCond .ne 11, 3) := by decide +kernel
theorem dX6_readWeight_75 : decode cX6_readWeight 75 = .ok (.iload_n 3, 1) := by decide +kernel
theorem dX6_readWeight_76 : decode cX6_readWeight 76 = .ok (.ifCond .ne 7, 3) := by decide +kernel
theorem dX6_readWeight_79 : decode cX6_readWeight 79 = .ok (.iconst 1, 1) := by decide +kernel
theorem dX6_readWeight_80 : decode cX6_readWeight 80 = .ok (.goto 4, 3) := by decide +kernel
theorem dX6_readWeight_83 : decode cX6_readWeight 83 = .ok (.iconst 0, 1) := by decide +kernel
theorem dX6_readWeight_84 : decode cX6_readWeight 84 = .ok (.ireturn, 1) := by decide +kernel
theorem dX6_readEntry_0 : decode cX6_readEntry 0 = .ok (.iload_n 2, 1) := by decide +kernel
theorem dX6_readEntry_1 : decode cX6_readEntry 1 = .ok (.bipush 10, 2) := by decide +kernel
theorem dX6_readEntry_3 : decode cX6_readEntry 3 = .ok (.if_icmp .eq 14, 3) := by decide +kernel
theorem dX6_readEntry_6 : decode cX6_readEntry 6 = .ok (.aload_n 0, 1) := by decide +kernel
theorem dX6_readEntry_7 : decode cX6_readEntry 7 = .ok (.iload_n 1, 1) := by decide +kernel
theorem dX6_readEntry_8 : decode cX6_readEntry 8 = .ok (.iconst 4, 1) := by decide +kernel
theorem dX6_readEntry_9 : decode cX6_readEntry 9 = .ok (.iload_n 2, 1) := by decide +kernel
theorem dX6_readEntry_10 : decode cX6_readEntry 10 = .ok (.imul, 1) := by decide +kernel
theorem dX6_readEntry_11 : decode cX6_readEntry 11 = .ok (.invokevirtual 96, 3) := by decide +kernel
theorem dX6_readEntry_14 : decode cX6_readEntry 14 = .ok (.ifCond .ne 5, 3) := by decide +kernel
theorem dX6_readEntry_17 : decode cX6_readEntry 17 = .ok (.iconst 0, 1) := by decide +kernel
theorem dX6_readEntry_18 : decode cX6_readEntry 18 = .ok (.ireturn, 1) := by decide +kernel
theorem dX6_readEntry_19 : decode cX6_readEntry 19 = .ok (.aload_n 0, 1) := by decide +kernel
theorem dX6_readEntry_20 : decode cX6_readEntry 20 = .ok (.invokevirtual 89, 3) := by decide +kernel
theorem dX6_readEntry_23 : decode cX6_readEntry 23 = .ok (.istore_n 3, 1) := by decide +kernel
theorem dX6_readEntry_24 : decode cX6_readEntry 24 = .ok (.aload_n 0, 1) := by decide +kernel
theorem dX6_readEntry_25 : decode cX6_readEntry 25 = .ok (.sipush 1000, 3) := by decide +kernel
theorem dX6_readEntry_28 : decode cX6_readEntry 28 = .ok (.putfield 73, 3) := by decide +kernel
theorem dX6_readEntry_31 : decode cX6_readEntry 31 = .ok (.aload_n 0, 1) := by decide +kernel
theorem dX6_readEntry_32 : decode cX6_readEntry 32 = .ok (.bipush 59, 2) := by decide +kernel
theorem dX6_readEntry_34 : decode cX6_readEntry 34 = .ok (.invokevirtual 80, 3) := by decide +kernel
theorem dX6_readEntry_37 : decode cX6_readEntry 37 = .ok (.ifCond .eq 12, 3) := by decide +kernel
theorem dX6_readEntry_40 : decode cX6_readEntry 40 = .ok (.aload_n 0, 1) := by decide +kernel
theorem dX6_readEntry_41 : decode cX6_readEntry 41 = .ok (.invokevirtual 99, 3) := by decide +kernel
theorem dX6_readEntry_44 : decode cX6_readEntry 44 = .ok (.ifCond .ne 5, 3) := by decide +kernel
theorem dX6_readEntry_47 : decode cX6_readEntry 47 = .ok (.iconst 0, 1) := by decide +kernel
theorem dX6_readEntry_48 : decode cX6_readEntry 48 = .ok (.ireturn, 1) := by decide +kernel
theorem dX6_readEntry_49 : decode cX6_readEntry 49 = .ok (.aload_n 0, 1) := by decide +kernel
theorem dX6_readEntry_50 : decode cX6_readEntry 50 = .ok (.getfield 19, 3) := by decide +kernel
theorem dX6_readEntry_53 : decode cX6_readEntry 53 = .ok (.iconst 4, 1) := by decide +kernel
theorem dX6_readEntry_54 : decode cX6_readEntry 54 = .ok (.iload_n 2, 1) := by decide +kernel
theorem dX6_readEntry_55 : decode cX6_readEntry 55 = .ok (.imul, 1) := by decide +kernel
theorem dX6_readEntry_56 : decode cX6_readEntry 56 = .ok (.iconst 3, 1) := by decide +kernel
theorem dX6_readEntry_57 : decode cX6_readEntry 57 = .ok (.iadd, 1) := by decide +kernel
theorem dX6_readEntry_58 : decode cX6_readEntry 58 = .ok (.aload_n 0, 1) := by decide +kernel
theorem dX6_readEntry_59 : decode cX6_readEntry 59 = .ok (.getfield 73, 3) := by decide +kernel
theorem dX6_readEntry_62 : decode cX6_readEntry 62 = .ok (.iastore, 1) := by decide +kernel
theorem dX6_readEntry_63 : decode cX6_readEntry 63 = .ok (.aload_n 0, 1) := by decide +kernel
theorem dX6_readEntry_64 : decode cX6_readEntry 64 = .ok (.invokevirtual 89, 3) := by decide +kernel
theorem dX6_readEntry_67 : decode cX6_readEntry 67 = .ok (.istore_n 3, 1) := by decide +kernel
theorem dX6_readEntry_68 : decode cX6_readEntry 68 = .ok (.iconst 1, 1) := by decide +kernel
theorem dX6_readEntry_69 : decode cX6_readEntry 69 = .ok (.ireturn, 1) := by decide +kernel
theorem dX6_readList_0 : decode cX6_readList 0 = .ok (.iconst 0, 1) := by decide +kernel
theorem dX6_readList_1 : decode cX6_readList 1 = .ok (.istore_n 2, 1) := by decide +kernel
theorem dX6_readList_2 : decode cX6_readList 2 = .ok (.iload_n 2, 1) := by decide +kernel
theorem dX6_readList_3 : decode cX6_readList 3 = .ok (.bipush 40, 2) := by decide +kernel
theorem dX6_readList_5 : decode cX6_readList 5 = .ok (.if_icmp .ge 16, 3) := by decide +kernel
theorem dX6_readList_8 : decode cX6_readList 8 = .ok (.aload_n 0, 1) := by decide +kernel
theorem dX6_readList_9 : decode cX6_readList 9 = .ok (.getfield 19, 3) := by decide +kernel
theorem dX6_readList_12 : decode cX6_readList 12 = .ok (.iload_n 2, 1) := by decide +kernel
theorem dX6_readList_13 : decode cX6_readList 13 = .ok (.iconst 0, 1) := by decide +kernel
theorem dX6_readList_14 : decode cX6_readList 14 = .ok (.iastore, 1) := by decide +kernel
theorem dX6_readList_15 : decode cX6_readList 15 = .ok (.iinc 2 1, 3) := by decide +kernel
theorem dX6_readList_18 : decode cX6_readList 18 = .ok (.goto (-16), 3) := by decide +kernel
theorem dX6_readList_21 : decode cX6_readList 21 = .ok (.aload_n 0, 1) := by decide +kernel
theorem dX6_readList_22 : decode cX6_readList 22 = .ok (.iconst 0, 1) := by decide +kernel
theorem dX6_readList_23 : decode cX6_readList 23 = .ok (.putfield 66, 3) := by decide +kernel
theorem dX6_readList_26 : decode cX6_readList 26 = .ok (.aload_n 0, 1) := by decide +kernel
theorem dX6_readList_27 : decode cX6_readList 27 = .ok (.invokevirtual 89, 3) := by decide +kernel
theorem dX6_readList_30 : decode cX6_readList 30 = .ok (.istore_n 2, 1) := by decide +kernel
theorem dX6_readList_31 : decode cX6_readList 31 = .ok (.iconst 0, 1) := by decide +kernel
theorem dX6_readList_32 : decode cX6_readList 32 = .ok (.istore_n 3, 1) := by decide +kernel
theorem dX6_readList_33 : decode cX6_readList 33 = .ok (.aload_n 0, 1) := by decide +kernel
theorem dX6_readList_34 : decode cX6_readList 34 = .ok (.invokevirtual 102, 3) := by decide +kernel
theorem dX6_readList_37 : decode cX6_readList 37 = .ok (.ifCond .ne 7, 3) := by decide +kernel
theorem dX6_readList_40 : decode cX6_readList 40 = .ok (.iconst 1, 1) := by decide +kernel
theorem dX6_readList_41 : decode cX6_readList 41 = .ok (.goto 4, 3) := by decide +kernel
theorem dX6_readList_44 : decode cX6_readList 44 = .ok (.iconst 0, 1) := by decide +kernel
theorem dX6_readList_45 : decode cX6_readList 45 = .ok (.istore 4, 2) := by decide +kernel
theorem dX6_readList_47 : decode cX6_readList 47 = .ok (.iload 4, 2) := by decide +kernel
theorem dX6_readList_49 : decode cX6_readList 49 = .ok (.ifCond .eq 46, 3) := by decide +kernel
theorem dX6_readList_52 : decode cX6_readList 52 = .ok (.aload_n 0, 1) := by decide +kernel
theorem dX6_readList_53 : decode cX6_readList 53 = .ok (.iload_n 1, 1) := by decide +kernel
theorem dX6_readList_54 : decode cX6_readList 54 = .ok (.iload_n 3, 1) := by decide +kernel
theorem dX6_readList_55 : decode cX6_readList 55 = .ok (.invokevirtual 105, 3) := by decide +kernel
theorem dX6_readList_58 : decode cX6_readList 58 = .ok (.ifCond .ne 5, 3) := by decide +kernel
theorem dX6_readList_61 : decode cX6_readList 61 = .ok (.iconst (-1), 1) := by decide +kernel
theorem dX6_readList_62 : decode cX6_readList 62 = .ok (.ireturn, 1) := by decide +kernel
theorem dX6_readList_63 : decode cX6_readList 63 = .ok (.iinc 3 1, 3) := by decide +kernel
theorem dX6_readList_66 : decode cX6_readList 66 = .ok (.aload_n 0, 1) := by decide +kernel
theorem dX6_readList_67 : decode cX6_readList 67 = .ok (.bipush 44, 2) := by decide +kernel
theorem dX6_readList_69 : decode cX6_readList 69 = .ok (.invokevirtual 80, 3) := by decide +kernel
theorem dX6_readList_72 : decode cX6_readList 72 = .ok (.istore 4, 2) := by decide +kernel
theorem dX6_readList_74 : decode cX6_readList 74 = .ok (.iload 4, 2) := by decide +kernel
theorem dX6_readList_76 : decode cX6_readList 76 = .ok (.ifCond .eq 14, 3) := by decide +kernel
theorem dX6_readList_79 : decode cX6_readList 79 = .ok (.aload_n 0, 1) := by decide +kernel
theorem dX6_readList_80 : decode cX6_readList 80 = .ok (.invokevirtual 89, 3) := by decide +kernel
theorem dX6_readList_83 : decode cX6_readList 83 = .ok (.ifCond .eq 7, 3) := by decide +kernel
theorem dX6_readList_86 : decode cX6_readList 86 = .ok (.iconst 1, 1) := by decide +kernel
theorem dX6_readList_87 : decode cX6_readList 87 = .ok (.goto 4, 3) := by decide +kernel
theorem dX6_readList_90 : decode cX6_readList 90 = .ok (.iconst 0, 1) := by decide +kernel
theorem dX6_readList_91 : decode cX6_readList 91 = .ok (.istore_n 2, 1) := by decide +kernel
theorem dX6_readList_92 : decode cX6_readList 92 = .ok (.goto (-45), 3) := by decide +kernel
theorem dX6_readList_95 : decode cX6_readList 95 = .ok (.aload_n 0, 1) := by decide +kernel
theorem dX6_readList_96 : decode cX6_readList 96 = .ok (.invokevirtual 102, 3) := by decide +kernel
theorem dX6_readList_99 : decode cX6_readList 99 = .ok (.ifCond .eq 7, 3) := by decide +kernel
theorem dX6_readList_102 : decode cX6_readList 102 = .ok (.iload_n 3, 1) := by decide +kernel
theorem dX6_readList_103 : decode cX6_readList 103 = .ok (.goto 4, 3) := by decide +kernel
theorem dX6_readList_106 : decode cX6_readList 106 = .ok (.iconst (-1), 1) := by decide +kernel
theorem dX6_readList_107 : decode cX6_readList 107 = .ok (.ireturn, 1) := by decide +kernel
theorem dX6_readVariant_0 : decode cX6_readVariant 0 = .ok (.iconst 0, 1) := by decide +kernel
theorem dX6_readVariant_1 : decode cX6_readVariant 1 = .ok (.istore_n 1, 1) := by decide +kernel
theorem dX6_readVariant_2 : decode cX6_readVariant 2 = .ok (.iload_n 1, 1) := by decide +kernel
theorem dX6_readVariant_3 : decode cX6_readVariant 3 = .ok (.bipush 40, 2) := by decide +kernel
theorem dX6_readVariant_5 : decode cX6_readVariant 5 = .ok (.if_icmp .ge 16, 3) := by decide +kernel
theorem dX6_readVariant_8 : decode cX6_readVariant 8 = .ok (.aload_n 0, 1) := by decide +kernel
theorem dX6_readVariant_9 : decode cX6_readVariant 9 = .ok (.getfield 19, 3) := by decide +kernel
theorem dX6_readVariant_12 : decode cX6_readVariant 12 = .ok (.iload_n 1, 1) := by decide +kernel
theorem dX6_readVariant_13 : decode cX6_readVariant 13 = .ok (.iconst 0, 1) := by decide +kernel
theorem dX6_readVariant_14 : decode cX6_readVariant 14 = .ok (.iastore, 1) := by decide +kernel
theorem dX6_readVariant_15 : decode cX6_readVariant 15 = .ok (.iinc 1 1, 3) := by decide +kernel
theorem dX6_readVariant_18 : decode cX6_readVariant 18 = .ok (.goto (-16), 3) := by decide +kernel
theorem dX6_readVariant_21 : decode cX6_readVariant 21 = .ok (.aload_n 0, 1) := by decide +kernel
theorem dX6_readVariant_22 : decode cX6_readVariant 22 = .ok (.iconst 0, 1) := by decide +kernel
theorem dX6_readVariant_23 : decode cX6_readVariant 23 = .ok (.putfield 66, 3) := by decide +kernel
theorem dX6_readVariant_26 : decode cX6_readVariant 26 = .ok (.aload_n 0, 1) := by decide +kernel
theorem dX6_readVariant_27 : decode cX6_readVariant 27 = .ok (.invokevirtual 89, 3) := by decide +kernel
theorem dX6_readVariant_30 : decode cX6_readVariant 30 = .ok (.istore_n 1, 1) := by decide +kernel
theorem dX6_readVariant_31 : decode cX6_readVariant 31 = .ok (.aload_n 0, 1) := by decide +kernel
theorem dX6_readVariant_32 : decode cX6_readVariant 32 = .ok (.iconst 0, 1) := by decide +kernel
theorem dX6_readVariant_33 : decode cX6_readVariant 33 = .ok (.invokevirtual 76, 3) := by decide +kernel
theorem dX6_readVariant_36 : decode cX6_readVariant 36 = .ok (.ifCond .eq 70, 3) := by decide +kernel
theorem dX6_readVariant_39 : decode cX6_readVariant 39 = .ok (.aload_n 0, 1) := by decide +kernel
theorem dX6_readVariant_40 : decode cX6_readVariant 40 = .ok (.bipush 47, 2) := by decide +kernel
theorem dX6_readVariant_42 : decode cX6_readVariant 42 = .ok (.invokevirtual 80, 3) := by decide +kernel
theorem dX6_readVariant_45 : decode cX6_readVariant 45 = .ok (.ifCond .eq 61, 3) := by decide +kernel
theorem dX6_readVariant_48 : decode cX6_readVariant 48 = .ok (.aload_n 0, 1) := by decide +kernel
theorem dX6_readVariant_49 : decode cX6_readVariant 49 = .ok (.iconst 1, 1) := by decide +kernel
theorem dX6_readVariant_50 : decode cX6_readVariant 50 = .ok (.invokevirtual 76, 3) := by decide +kernel
theorem dX6_readVariant_53 : decode cX6_readVariant 53 = .ok (.ifCond .eq 53, 3) := by decide +kernel
theorem dX6_readVariant_56 : decode cX6_readVariant 56 = .ok (.aload_n 0, 1) := by decide +kernel
theorem dX6_readVariant_57 : decode cX6_readVariant 57 = .ok (.invokevirtual 89, 3) := by decide +kernel
theorem dX6_readVariant_60 : decode cX6_readVariant 60 = .ok (.ifCond .eq 46, 3) := by decide +kernel
theorem dX6_readVariant_63 : decode cX6_readVariant 63 = .ok (.aload_n 0, 1) := by decide +kernel
theorem dX6_readVariant_64 : decode cX6_readVariant 64 = .ok (.iconst 2, 1) := by decide +kernel
theorem dX6_readVariant_65 : decode cX6_readVariant 65 = .ok (.invokevirtual 86, 3) := by decide +kernel
theorem dX6_readVariant_68 : decode cX6_readVariant 68 = .ok (.ifCond .eq 38, 3) := by decide +kernel
theorem dX6_readVariant_71 : decode cX6_readVariant 71 = .ok (.aload_n 0, 1) := by decide +kernel
theorem dX6_readVariant_72 : decode cX6_readVariant 72 = .ok (.invokevirtual 89, 3) := by decide +kernel
theorem dX6_readVariant_75 : decode cX6_readVariant 75 = .ok (.ifCond .eq 31, 3) := by decide +kernel
theorem dX6_readVariant_78 : decode cX6_readVariant 78 = .ok (.aload_n 0, 1) := by decide +kernel
theorem dX6_readVariant_79 : decode cX6_readVariant 79 = .ok (.iconst 5, 1) := by decide +kernel
theorem dX6_readVariant_80 : decode cX6_readVariant 80 = .ok (.invokevirtual 76, 3) := by decide +kernel
theorem dX6_readVariant_83 : decode cX6_readVariant 83 = .ok (.ifCond .eq 23, 3) := by decide +kernel
theorem dX6_readVariant_86 : decode cX6_readVariant 86 = .ok (.aload_n 0, 1) := by decide +kernel
theorem dX6_readVariant_87 : decode cX6_readVariant 87 = .ok (.invokevirtual 89, 3) := by decide +kernel
theorem dX6_readVariant_90 : decode cX6_readVariant 90 = .ok (.ifCond .eq 16, 3) := by decide +kernel
theorem dX6_readVariant_93 : decode cX6_readVariant 93 = .ok (.aload_n 0, 1) := by decide +kernel
theorem dX6_readVariant_94 : decode cX6_readVariant 94 = .ok (.bipush 6, 2) := by decide +kernel
theorem dX6_readVariant_96 : decode cX6_readVariant 96 = .ok (.invokevirtual 93, 3) := by decide +kernel
theorem dX6_readVariant_99 : decode cX6_readVariant 99 = .ok (.ifCond .eq 7, 3) := by decide +kernel
theorem dX6_readVariant_102 : decode cX6_readVariant 102 = .ok (.iconst 1, 1) := by decide +kernel
theorem dX6_readVariant_103 : decode cX6_readVariant 103 = .ok (.goto 4, 3) := by decide +kernel
theorem dX6_readVariant_106 : decode cX6_readVariant 106 = .ok (.iconst 0, 1) := by decide +kernel
theorem dX6_readVariant_107 : decode cX6_readVariant 107 = .ok (.istore_n 2, 1) := by decide +kernel
theorem dX6_readVariant_108 : decode cX6_readVariant 108 = .ok (.iload_n 2, 1) := by decide +kernel
theorem dX6_readVariant_109 : decode cX6_readVariant 109 = .ok (.ifCond .eq 14, 3) := by decide +kernel
theorem dX6_readVariant_112 : decode cX6_readVariant 112 = .ok (.aload_n 0, 1) := by decide +kernel
theorem dX6_readVariant_113 : decode cX6_readVariant 113 = .ok (.invokevirtual 89, 3) := by decide +kernel
theorem dX6_readVariant_116 : decode cX6_readVariant 116 = .ok (.ifCond .eq 7, 3) := by decide +kernel
theorem dX6_readVariant_119 : decode cX6_readVariant 119 = .ok (.iconst 1, 1) := by decide +kernel
theorem dX6_readVariant_120 : decode cX6_readVariant 120 = .ok (.goto 4, 3) := by decide +kernel
theorem dX6_readVariant_123 : decode cX6_readVariant 123 = .ok (.iconst 0, 1) := by decide +kernel
theorem dX6_readVariant_124 : decode cX6_readVariant 124 = .ok (.istore_n 1, 1) := by decide +kernel
theorem dX6_readVariant_125 : decode cX6_readVariant 125 = .ok (.iload_n 2, 1) := by decide +kernel
theorem dX6_readVariant_126 : decode cX6_readVariant 126 = .ok (.ifCond .eq 14, 3) := by decide +kernel
theorem dX6_readVariant_129 : decode cX6_readVariant 129 = .ok (.aload_n 0, 1) := by decide +kernel
theorem dX6_readVariant_130 : decode cX6_readVariant 130 = .ok (.invokevirtual 102, 3) := by decide +kernel
theorem dX6_readVariant_133 : decode cX6_readVariant 133 = .ok (.ifCond .eq 7, 3) := by decide +kernel
theorem dX6_readVariant_136 : decode cX6_readVariant 136 = .ok (.iconst 1, 1) := by decide +kernel
theorem dX6_readVariant_137 : decode cX6_readVariant 137 = .ok (.goto 4, 3) := by decide +kernel
theorem dX6_readVariant_140 : decode cX6_readVariant 140 = .ok (.iconst 0, 1) := by decide +kernel
theorem dX6_readVariant_141 : decode cX6_readVariant 141 = .ok (.ireturn, 1) := by decide +kernel
theorem dX6_listFault_0 : decode cX6_listFault 0 = .ok (.aload_n 0, 1) := by decide +kernel
theorem dX6_listFault_1 : decode cX6_listFault 1 = .ok (.iload_n 1, 1) := by decide +kernel
theorem dX6_listFault_2 : decode cX6_listFault 2 = .ok (.iconst 0, 1) := by decide +kernel
theorem dX6_listFault_3 : decode cX6_listFault 3 = .ok (.iconst 2, 1) := by decide +kernel
theorem dX6_listFault_4 : decode cX6_listFault 4 = .ok (.invokestatic 51, 3) := by decide +kernel
theorem dX6_listFault_7 : decode cX6_listFault 7 = .ok (.ifCond .eq 7, 3) := by decide +kernel
theorem dX6_listFault_10 : decode cX6_listFault 10 = .ok (.iconst 0, 1) := by decide +kernel
theorem dX6_listFault_11 : decode cX6_listFault 11 = .ok (.goto 4, 3) := by decide +kernel
theorem dX6_listFault_14 : decode cX6_listFault 14 = .ok (.iconst 1, 1) := by decide +kernel
theorem dX6_listFault_15 : decode cX6_listFault 15 = .ok (.putfield 45, 3) := by decide +kernel
theorem dX6_listFault_18 : decode cX6_listFault 18 = .ok (.aload_n 0, 1) := by decide +kernel
theorem dX6_listFault_19 : decode cX6_listFault 19 = .ok (.getfield 45, 3) := by decide +kernel
theorem dX6_listFault_22 : decode cX6_listFault 22 = .ok (.ifCond .eq 7, 3) := by decide +kernel
theorem dX6_listFault_25 : decode cX6_listFault 25 = .ok (.iconst 0, 1) := by decide +kernel
theorem dX6_listFault_26 : decode cX6_listFault 26 = .ok (.goto 20, 3) := by decide +kernel
theorem dX6_listFault_29 : decode cX6_listFault 29 = .ok (.aload_n 0, 1) := by decide +kernel
theorem dX6_listFault_30 : decode cX6_listFault 30 = .ok (.iload_n 1, 1) := by decide +kernel
theorem dX6_listFault_31 : decode cX6_listFault 31 = .ok (.invokevirtual 108, 3) := by decide +kernel
theorem dX6_listFault_34 : decode cX6_listFault 34 = .ok (.iconst (-1), 1) := by decide +kernel
theorem dX6_listFault_35 : decode cX6_listFault 35 = .ok (.if_icmp .ne 10, 3) := by decide +kernel
theorem dX6_listFault_38 : decode cX6_listFault 38 = .ok (.aload_n 0, 1) := by decide +kernel
theorem dX6_listFault_39 : decode cX6_listFault 39 = .ok (.getfield 66, 3) := by decide +kernel
theorem dX6_listFault_42 : decode cX6_listFault 42 = .ok (.goto 4, 3) := by decide +kernel
theorem dX6_listFault_45 : decode cX6_listFault 45 = .ok (.iconst (-1), 1) := by decide +kernel
theorem dX6_listFault_46 : decode cX6_listFault 46 = .ok (.ireturn, 1) := by decide +kernel
theorem dX6_variantFault_0 : decode cX6_variantFault 0 = .ok (.aload_n 0, 1) := by decide +kernel
theorem dX6_variantFault_1 : decode cX6_variantFault 1 = .ok (.iconst 0, 1) := by decide +kernel
theorem dX6_variantFault_2 : decode cX6_variantFault 2 = .ok (.putfield 45, 3) := by decide +kernel
theorem dX6_variantFault_5 : decode cX6_variantFault 5 = .ok (.aload_n 0, 1) := by decide +kernel
theorem dX6_variantFault_6 : decode cX6_variantFault 6 = .ok (.invokevirtual 112, 3) := by decide +kernel
theorem dX6_variantFault_9 : decode cX6_variantFault 9 = .ok (.ifCond .eq 7, 3) := by decide +kernel
theorem dX6_variantFault_12 : decode cX6_variantFault 12 = .ok (.iconst (-1), 1) := by decide +kernel
theorem dX6_variantFault_13 : decode cX6_variantFault 13 = .ok (.goto 7, 3) := by decide +kernel
theorem dX6_variantFault_16 : decode cX6_variantFault 16 = .ok (.aload_n 0, 1) := by decide +kernel
theorem dX6_variantFault_17 : decode cX6_variantFault 17 = .ok (.getfield 66, 3) := by decide +kernel
theorem dX6_variantFault_20 : decode cX6_variantFault 20 = .ok (.ireturn, 1) := by decide +kernel
theorem dX6_takeList_0 : decode cX6_takeList 0 = .ok (.aload_n 0, 1) := by decide +kernel
theorem dX6_takeList_1 : decode cX6_takeList 1 = .ok (.iload_n 1, 1) := by decide +kernel
theorem dX6_takeList_2 : decode cX6_takeList 2 = .ok (.iload_n 2, 1) := by decide +kernel
theorem dX6_takeList_3 : decode cX6_takeList 3 = .ok (.invokestatic 55, 3) := by decide +kernel
theorem dX6_takeList_6 : decode cX6_takeList 6 = .ok (.ifCond .eq 7, 3) := by decide +kernel
theorem dX6_takeList_9 : decode cX6_takeList 9 = .ok (.iconst 0, 1) := by decide +kernel
theorem dX6_takeList_10 : decode cX6_takeList 10 = .ok (.goto 4, 3) := by decide +kernel
theorem dX6_takeList_13 : decode cX6_takeList 13 = .ok (.iconst 1, 1) := by decide +kernel
theorem dX6_takeList_14 : decode cX6_takeList 14 = .ok (.putfield 45, 3) := by decide +kernel
theorem dX6_takeList_17 : decode cX6_takeList 17 = .ok (.aload_n 0, 1) := by decide +kernel
theorem dX6_takeList_18 : decode cX6_takeList 18 = .ok (.getfield 45, 3) := by decide +kernel
theorem dX6_takeList_21 : decode cX6_takeList 21 = .ok (.ifCond .eq 5, 3) := by decide +kernel
theorem dX6_takeList_24 : decode cX6_takeList 24 = .ok (.iconst 0, 1) := by decide +kernel
theorem dX6_takeList_25 : decode cX6_takeList 25 = .ok (.ireturn, 1) := by decide +kernel
theorem dX6_takeList_26 : decode cX6_takeList 26 = .ok (.aload_n 0, 1) := by decide +kernel
theorem dX6_takeList_27 : decode cX6_takeList 27 = .ok (.iload_n 2, 1) := by decide +kernel
theorem dX6_takeList_28 : decode cX6_takeList 28 = .ok (.invokevirtual 108, 3) := by decide +kernel
theorem dX6_takeList_31 : decode cX6_takeList 31 = .ok (.istore_n 3, 1) := by decide +kernel
theorem dX6_takeList_32 : decode cX6_takeList 32 = .ok (.iload_n 3, 1) := by decide +kernel
theorem dX6_takeList_33 : decode cX6_takeList 33 = .ok (.iconst (-1), 1) := by decide +kernel
theorem dX6_takeList_34 : decode cX6_takeList 34 = .ok (.if_icmp .ne 11, 3) := by decide +kernel
theorem dX6_takeList_37 : decode cX6_takeList 37 = .ok (.bipush (-10), 2) := by decide +kernel
theorem dX6_takeList_39 : decode cX6_takeList 39 = .ok (.aload_n 0, 1) := by decide +kernel
theorem dX6_takeList_40 : decode cX6_takeList 40 = .ok (.getfield 66, 3) := by decide +kernel
theorem dX6_takeList_43 : decode cX6_takeList 43 = .ok (.isub, 1) := by decide +kernel
theorem dX6_takeList_44 : decode cX6_takeList 44 = .ok (.ireturn, 1) := by decide +kernel
theorem dX6_takeList_45 : decode cX6_takeList 45 = .ok (.aload_n 0, 1) := by decide +kernel
theorem dX6_takeList_46 : decode cX6_takeList 46 = .ok (.invokevirtual 115, 3) := by decide +kernel
theorem dX6_takeList_49 : decode cX6_takeList 49 = .ok (.iload_n 1, 1) := by decide +kernel
theorem dX6_takeList_50 : decode cX6_takeList 50 = .ok (.iload_n 2, 1) := by decide +kernel
theorem dX6_takeList_51 : decode cX6_takeList 51 = .ok (.invokestatic 59, 3) := by decide +kernel
theorem dX6_takeList_54 : decode cX6_takeList 54 = .ok (.istore 4, 2) := by decide +kernel
theorem dX6_takeList_56 : decode cX6_takeList 56 = .ok (.aload_n 0, 1) := by decide +kernel
theorem dX6_takeList_57 : decode cX6_takeList 57 = .ok (.getfield 7, 3) := by decide +kernel
theorem dX6_takeList_60 : decode cX6_takeList 60 = .ok (.iconst 4, 1) := by decide +kernel
theorem dX6_takeList_61 : decode cX6_takeList 61 = .ok (.iload 4, 2) := by decide +kernel
theorem dX6_takeList_63 : decode cX6_takeList 63 = .ok (.iadd, 1) := by decide +kernel
theorem dX6_takeList_64 : decode cX6_takeList 64 = .ok (.iload_n 3, 1) := by decide +kernel
theorem dX6_takeList_65 : decode cX6_takeList 65 = .ok (.iastore, 1) := by decide +kernel
theorem dX6_takeList_66 : decode cX6_takeList 66 = .ok (.iconst 0, 1) := by decide +kernel
theorem dX6_takeList_67 : decode cX6_takeList 67 = .ok (.istore 5, 2) := by decide +kernel
theorem dX6_takeList_69 : decode cX6_takeList 69 = .ok (.iload 5, 2) := by decide +kernel
theorem dX6_takeList_71 : decode cX6_takeList 71 = .ok (.bipush 40, 2) := by decide +kernel
theorem dX6_takeList_73 : decode cX6_takeList 73 = .ok (.if_icmp .ge 33, 3) := by decide +kernel
theorem dX6_takeList_76 : decode cX6_takeList 76 = .ok (.aload_n 0, 1) := by decide +kernel
theorem dX6_takeList_77 : decode cX6_takeList 77 = .ok (.getfield 7, 3) := by decide +kernel
theorem dX6_takeList_80 : decode cX6_takeList 80 = .ok (.sipush 138, 3) := by decide +kernel
theorem dX6_takeList_83 : decode cX6_takeList 83 = .ok (.bipush 40, 2) := by decide +kernel
theorem dX6_takeList_85 : decode cX6_takeList 85 = .ok (.iload 4, 2) := by decide +kernel
theorem dX6_takeList_87 : decode cX6_takeList 87 = .ok (.imul, 1) := by decide +kernel
theorem dX6_takeList_88 : decode cX6_takeList 88 = .ok (.iadd, 1) := by decide +kernel
theorem dX6_takeList_89 : decode cX6_takeList 89 = .ok (.iload 5, 2) := by decide +kernel
theorem dX6_takeList_91 : decode cX6_takeList 91 = .ok (.iadd, 1) := by decide +kernel
theorem dX6_takeList_92 : decode cX6_takeList 92 = .ok (.aload_n 0, 1) := by decide +kernel
theorem dX6_takeList_93 : decode cX6_takeList 93 = .ok (.getfield 19, 3) := by decide +kernel
theorem dX6_takeList_96 : decode cX6_takeList 96 = .ok (.iload 5, 2) := by decide +kernel
theorem dX6_takeList_98 : decode cX6_takeList 98 = .ok (.iaload, 1) := by decide +kernel
theorem dX6_takeList_99 : decode cX6_takeList 99 = .ok (.iastore, 1) := by decide +kernel
theorem dX6_takeList_100 : decode cX6_takeList 100 = .ok (.iinc 5 1, 3) := by decide +kernel
theorem dX6_takeList_103 : decode cX6_takeList 103 = .ok (.goto (-34), 3) := by decide +kernel
theorem dX6_takeList_106 : decode cX6_takeList 106 = .ok (.iload_n 3, 1) := by decide +kernel
theorem dX6_takeList_107 : decode cX6_takeList 107 = .ok (.ireturn, 1) := by decide +kernel
theorem dX6_isThere_0 : decode cX6_isThere 0 = .ok (.iconst 0, 1) := by decide +kernel
theorem dX6_isThere_1 : decode cX6_isThere 1 = .ok (.istore_n 1, 1) := by decide +kernel
theorem dX6_isThere_2 : decode cX6_isThere 2 = .ok (.iconst 0, 1) := by decide +kernel
theorem dX6_isThere_3 : decode cX6_isThere 3 = .ok (.istore_n 2, 1) := by decide +kernel
theorem dX6_isThere_4 : decode cX6_isThere 4 = .ok (.iload_n 2, 1) := by decide +kernel
theorem dX6_isThere_5 : decode cX6_isThere 5 = .ok (.aload_n 0, 1) := by decide +kernel
theorem dX6_isThere_6 : decode cX6_isThere 6 = .ok (.getfield 7, 3) := by decide +kernel
theorem dX6_isThere_9 : decode cX6_isThere 9 = .ok (.iconst 0, 1) := by decide +kernel
theorem dX6_isThere_10 : decode cX6_isThere 10 = .ok (.iaload, 1) := by decide +kernel
theorem dX6_isThere_11 : decode cX6_isThere 11 = .ok (.if_icmp .ge 68, 3) := by decide +kernel
theorem dX6_isThere_14 : decode cX6_isThere 14 = .ok (.iconst 1, 1) := by decide +kernel
theorem dX6_isThere_15 : decode cX6_isThere 15 = .ok (.istore_n 3, 1) := by decide +kernel
theorem dX6_isThere_16 : decode cX6_isThere 16 = .ok (.iconst 0, 1) := by decide +kernel
theorem dX6_isThere_17 : decode cX6_isThere 17 = .ok (.istore 4, 2) := by decide +kernel
theorem dX6_isThere_19 : decode cX6_isThere 19 = .ok (.iload 4, 2) := by decide +kernel
theorem dX6_isThere_21 : decode cX6_isThere 21 = .ok (.bipush 6, 2) := by decide +kernel
theorem dX6_isThere_23 : decode cX6_isThere 23 = .ok (.if_icmp .ge 36, 3) := by decide +kernel
theorem dX6_isThere_26 : decode cX6_isThere 26 = .ok (.iload_n 3, 1) := by decide +kernel
theorem dX6_isThere_27 : decode cX6_isThere 27 = .ok (.ifCond .eq 24, 3) := by decide +kernel
theorem dX6_isThere_30 : decode cX6_isThere 30 = .ok (.aload_n 0, 1) := by decide +kernel
theorem dX6_isThere_31 : decode cX6_isThere 31 = .ok (.iload_n 2, 1) := by decide +kernel
theorem dX6_isThere_32 : decode cX6_isThere 32 = .ok (.iload 4, 2) := by decide +kernel
theorem dX6_isThere_34 : decode cX6_isThere 34 = .ok (.invokevirtual 118, 3) := by decide +kernel
theorem dX6_isThere_37 : decode cX6_isThere 37 = .ok (.aload_n 0, 1) := by decide +kernel
theorem dX6_isThere_38 : decode cX6_isThere 38 = .ok (.getfield 19, 3) := by decide +kernel
theorem dX6_isThere_41 : decode cX6_isThere 41 = .ok (.iload 4, 2) := by decide +kernel
theorem dX6_isThere_43 : decode cX6_isThere 43 = .ok (.iaload, 1) := by decide +kernel
theorem dX6_isThere_44 : decode cX6_isThere 44 = .ok (.if_icmp .ne 7, 3) := by decide +kernel
theorem dX6_isThere_47 : decode cX6_isThere 47 = .ok (.iconst 1, 1) := by decide +kernel
theorem dX6_isThere_48 : decode cX6_isThere 48 = .ok (.goto 4, 3) := by decide +kernel
theorem dX6_isThere_51 : decode cX6_isThere 51 = .ok (.iconst 0, 1) := by decide +kernel
theorem dX6_isThere_52 : decode cX6_isThere 52 = .ok (.istore_n 3, 1) := by decide +kernel
theorem dX6_isThere_53 : decode cX6_isThere 53 = .ok (.iinc 4 1, 3) := by decide +kernel
theorem dX6_isThere_56 : decode cX6_isThere 56 = .ok (.goto (-37), 3) := by decide +kernel
theorem dX6_isThere_59 : decode cX6_isThere 59 = .ok (.iload_n 1, 1) := by decide +kernel
theorem dX6_isThere_60 : decode cX6_isThere 60 = .ok (.ifCond .ne 7, 3) := by decide +kernel
theorem dX6_isThere_63 : decode cX6_isThere 63 = .ok (.iload_n 3, 1) := by decide +kernel
theorem dX6_isThere_64 : decode cX6_isThere 64 = .ok (.ifCond .eq 7, 3) := by decide +kernel
theorem dX6_isThere_67 : decode cX6_isThere 67 = .ok (.iconst 1, 1) := by decide +kernel
theorem dX6_isThere_68 : decode cX6_isThere 68 = .ok (.goto 4, 3) := by decide +kernel
theorem dX6_isThere_71 : decode cX6_isThere 71 = .ok (.iconst 0, 1) := by decide +kernel
theorem dX6_isThere_72 : decode cX6_isThere 72 = .ok (.istore_n 1, 1) := by decide +kernel
theorem dX6_isThere_73 : decode cX6_isThere 73 = .ok (.iinc 2 1, 3) := by decide +kernel
theorem dX6_isThere_76 : decode cX6_isThere 76 = .ok (.goto (-72), 3) := by decide +kernel
theorem dX6_isThere_79 : decode cX6_isThere 79 = .ok (.iload_n 1, 1) := by decide +kernel
theorem dX6_isThere_80 : decode cX6_isThere 80 = .ok (.ireturn, 1) := by decide +kernel
theorem dX6_addVariant_0 : decode cX6_addVariant 0 = .ok (.aload_n 0, 1) := by decide +kernel
theorem dX6_addVariant_1 : decode cX6_addVariant 1 = .ok (.iconst 0, 1) := by decide +kernel
theorem dX6_addVariant_2 : decode cX6_addVariant 2 = .ok (.putfield 45, 3) := by decide +kernel
theorem dX6_addVariant_5 : decode cX6_addVariant 5 = .ok (.aload_n 0, 1) := by decide +kernel
theorem dX6_addVariant_6 : decode cX6_addVariant 6 = .ok (.invokevirtual 112, 3) := by decide +kernel
theorem dX6_addVariant_9 : decode cX6_addVariant 9 = .ok (.ifCond .ne 11, 3) := by decide +kernel
theorem dX6_addVariant_12 : decode cX6_addVariant 12 = .ok (.bipush (-10), 2) := by decide +kernel
theorem dX6_addVariant_14 : decode cX6_addVariant 14 = .ok (.aload_n 0, 1) := by decide +kernel
theorem dX6_addVariant_15 : decode cX6_addVariant 15 = .ok (.getfield 66, 3) := by decide +kernel
theorem dX6_addVariant_18 : decode cX6_addVariant 18 = .ok (.isub, 1) := by decide +kernel
theorem dX6_addVariant_19 : decode cX6_addVariant 19 = .ok (.ireturn, 1) := by decide +kernel
theorem dX6_addVariant_20 : decode cX6_addVariant 20 = .ok (.aload_n 0, 1) := by decide +kernel
theorem dX6_addVariant_21 : decode cX6_addVariant 21 = .ok (.aload_n 0, 1) := by decide +kernel
theorem dX6_addVariant_22 : decode cX6_addVariant 22 = .ok (.getfield 7, 3) := by decide +kernel
theorem dX6_addVariant_25 : decode cX6_addVariant 25 = .ok (.iconst 0, 1) := by decide +kernel
theorem dX6_addVariant_26 : decode cX6_addVariant 26 = .ok (.iaload, 1) := by decide +kernel
theorem dX6_addVariant_27 : decode cX6_addVariant 27 = .ok (.bipush 16, 2) := by decide +kernel
theorem dX6_addVariant_29 : decode cX6_addVariant 29 = .ok (.if_icmp .eq 10, 3) := by decide +kernel
theorem dX6_addVariant_32 : decode cX6_addVariant 32 = .ok (.aload_n 0, 1) := by decide +kernel
theorem dX6_addVariant_33 : decode cX6_addVariant 33 = .ok (.invokevirtual 121, 3) := by decide +kernel
theorem dX6_addVariant_36 : decode cX6_addVariant 36 = .ok (.ifCond .eq 7, 3) := by decide +kernel
theorem dX6_addVariant_39 : decode cX6_addVariant 39 = .ok (.iconst 1, 1) := by decide +kernel
theorem dX6_addVariant_40 : decode cX6_addVariant 40 = .ok (.goto 4, 3) := by decide +kernel
theorem dX6_addVariant_43 : decode cX6_addVariant 43 = .ok (.iconst 0, 1) := by decide +kernel
theorem dX6_addVariant_44 : decode cX6_addVariant 44 = .ok (.putfield 45, 3) := by decide +kernel
theorem dX6_addVariant_47 : decode cX6_addVariant 47 = .ok (.aload_n 0, 1) := by decide +kernel
theorem dX6_addVariant_48 : decode cX6_addVariant 48 = .ok (.getfield 45, 3) := by decide +kernel
theorem dX6_addVariant_51 : decode cX6_addVariant 51 = .ok (.ifCond .eq 5, 3) := by decide +kernel
theorem dX6_addVariant_54 : decode cX6_addVariant 54 = .ok (.iconst 0, 1) := by decide +kernel
theorem dX6_addVariant_55 : decode cX6_addVariant 55 = .ok (.ireturn, 1) := by decide +kernel
theorem dX6_addVariant_56 : decode cX6_addVariant 56 = .ok (.aload_n 0, 1) := by decide +kernel
theorem dX6_addVariant_57 : decode cX6_addVariant 57 = .ok (.invokevirtual 115, 3) := by decide +kernel
theorem dX6_addVariant_60 : decode cX6_addVariant 60 = .ok (.bipush 10, 2) := by decide +kernel
theorem dX6_addVariant_62 : decode cX6_addVariant 62 = .ok (.bipush 8, 2) := by decide +kernel
theorem dX6_addVariant_64 : decode cX6_addVariant 64 = .ok (.aload_n 0, 1) := by decide +kernel
theorem dX6_addVariant_65 : decode cX6_addVariant 65 = .ok (.getfield 7, 3) := by decide +kernel
theorem dX6_addVariant_68 : decode cX6_addVariant 68 = .ok (.iconst 0, 1) := by decide +kernel
theorem dX6_addVariant_69 : decode cX6_addVariant 69 = .ok (.iaload, 1) := by decide +kernel
theorem dX6_addVariant_70 : decode cX6_addVariant 70 = .ok (.imul, 1) := by decide +kernel
theorem dX6_addVariant_71 : decode cX6_addVariant 71 = .ok (.iadd, 1) := by decide +kernel
theorem dX6_addVariant_72 : decode cX6_addVariant 72 = .ok (.istore_n 1, 1) := by decide +kernel
theorem dX6_addVariant_73 : decode cX6_addVariant 73 = .ok (.iconst 0, 1) := by decide +kernel
theorem dX6_addVariant_74 : decode cX6_addVariant 74 = .ok (.istore_n 2, 1) := by decide +kernel
theorem dX6_addVariant_75 : decode cX6_addVariant 75 = .ok (.iload_n 2, 1) := by decide +kernel
theorem dX6_addVariant_76 : decode cX6_addVariant 76 = .ok (.bipush 6, 2) := by decide +kernel
theorem dX6_addVariant_78 : decode cX6_addVariant 78 = .ok (.if_icmp .ge 23, 3) := by decide +kernel
theorem dX6_addVariant_81 : decode cX6_addVariant 81 = .ok (.aload_n 0, 1) := by decide +kernel
theorem dX6_addVariant_82 : decode cX6_addVariant 82 = .ok (.getfield 7, 3) := by decide +kernel
theorem dX6_addVariant_85 : decode cX6_addVariant 85 = .ok (.iload_n 1, 1) := by decide +kernel
theorem dX6_addVariant_86 : decode cX6_addVariant 86 = .ok (.iload_n 2, 1) := by decide +kernel
theorem dX6_addVariant_87 : decode cX6_addVariant 87 = .ok (.iadd, 1) := by decide +kernel
theorem dX6_addVariant_88 : decode cX6_addVariant 88 = .ok (.aload_n 0, 1) := by decide +kernel
theorem dX6_addVariant_89 : decode cX6_addVariant 89 = .ok (.getfield 19, 3) := by decide +kernel
theorem dX6_addVariant_92 : decode cX6_addVariant 92 = .ok (.iload_n 2, 1) := by decide +kernel
theorem dX6_addVariant_93 : decode cX6_addVariant 93 = .ok (.iaload, 1) := by decide +kernel
theorem dX6_addVariant_94 : decode cX6_addVariant 94 = .ok (.iastore, 1) := by decide +kernel
theorem dX6_addVariant_95 : decode cX6_addVariant 95 = .ok (.iinc 2 1, 3) := by decide +kernel
theorem dX6_addVariant_98 : decode cX6_addVariant 98 = .ok (.goto (-23), 3) := by decide +kernel
theorem dX6_addVariant_101 : decode cX6_addVariant 101 = .ok (.aload_n 0, 1) := by decide +kernel
theorem dX6_addVariant_102 : decode cX6_addVariant 102 = .ok (.getfield 7, 3) := by decide +kernel
theorem dX6_addVariant_105 : decode cX6_addVariant 105 = .ok (.iload_n 1, 1) := by decide +kernel
theorem dX6_addVariant_106 : decode cX6_addVariant 106 = .ok (.bipush 6, 2) := by decide +kernel
theorem dX6_addVariant_108 : decode cX6_addVariant 108 = .ok (.iadd, 1) := by decide +kernel
theorem dX6_addVariant_109 : decode cX6_addVariant 109 = .ok (.aload_n 0, 1) := by decide +kernel
theorem dX6_addVariant_110 : decode cX6_addVariant 110 = .ok (.getfield 73, 3) := by decide +kernel
theorem dX6_addVariant_113 : decode cX6_addVariant 113 = .ok (.iastore, 1) := by decide +kernel
theorem dX6_addVariant_114 : decode cX6_addVariant 114 = .ok (.aload_n 0, 1) := by decide +kernel
theorem dX6_addVariant_115 : decode cX6_addVariant 115 = .ok (.getfield 7, 3) := by decide +kernel
theorem dX6_addVariant_118 : decode cX6_addVariant 118 = .ok (.iload_n 1, 1) := by decide +kernel
theorem dX6_addVariant_119 : decode cX6_addVariant 119 = .ok (.bipush 7, 2) := by decide +kernel
theorem dX6_addVariant_121 : decode cX6_addVariant 121 = .ok (.iadd, 1) := by decide +kernel
theorem dX6_addVariant_122 : decode cX6_addVariant 122 = .ok (.sipush 1000, 3) := by decide +kernel
theorem dX6_addVariant_125 : decode cX6_addVariant 125 = .ok (.iastore, 1) := by decide +kernel
theorem dX6_addVariant_126 : decode cX6_addVariant 126 = .ok (.aload_n 0, 1) := by decide +kernel
theorem dX6_addVariant_127 : decode cX6_addVariant 127 = .ok (.getfield 7, 3) := by decide +kernel
theorem dX6_addVariant_130 : decode cX6_addVariant 130 = .ok (.iconst 0, 1) := by decide +kernel
theorem dX6_addVariant_131 : decode cX6_addVariant 131 = .ok (.dup2, 1) := by decide +kernel
theorem dX6_addVariant_132 : decode cX6_addVariant 132 = .ok (.iaload, 1) := by decide +kernel
theorem dX6_addVariant_133 : decode cX6_addVariant 133 = .ok (.iconst 1, 1) := by decide +kernel
theorem dX6_addVariant_134 : decode cX6_addVariant 134 = .ok (.iadd, 1) := by decide +kernel
theorem dX6_addVariant_135 : decode cX6_addVariant 135 = .ok (.iastore, 1) := by decide +kernel
theorem dX6_addVariant_136 : decode cX6_addVariant 136 = .ok (.aload_n 0, 1) := by decide +kernel
theorem dX6_addVariant_137 : decode cX6_addVariant 137 = .ok (.getfield 7, 3) := by decide +kernel
theorem dX6_addVariant_140 : decode cX6_addVariant 140 = .ok (.iconst 0, 1) := by decide +kernel
theorem dX6_addVariant_141 : decode cX6_addVariant 141 = .ok (.iaload, 1) := by decide +kernel
theorem dX6_addVariant_142 : decode cX6_addVariant 142 = .ok (.iconst 1, 1) := by decide +kernel
theorem dX6_addVariant_143 : decode cX6_addVariant 143 = .ok (.isub, 1) := by decide +kernel
theorem dX6_addVariant_144 : decode cX6_addVariant 144 = .ok (.ireturn, 1) := by decide +kernel
theorem dX6_removeVariant_0 : decode cX6_removeVariant 0 = .ok (.aload_n 0, 1) := by decide +kernel
theorem dX6_removeVariant_1 : decode cX6_removeVariant 1 = .ok (.aload_n 0, 1) := by decide +kernel
theorem dX6_removeVariant_2 : decode cX6_removeVariant 2 = .ok (.iload_n 1, 1) := by decide +kernel
theorem dX6_removeVariant_3 : decode cX6_removeVariant 3 = .ok (.invokevirtual 124, 3) := by decide +kernel
theorem dX6_removeVariant_6 : decode cX6_removeVariant 6 = .ok (.ifCond .eq 7, 3) := by decide +kernel
theorem dX6_removeVariant_9 : decode cX6_removeVariant 9 = .ok (.iconst 0, 1) := by decide +kernel
theorem dX6_removeVariant_10 : decode cX6_removeVariant 10 = .ok (.goto 4, 3) := by decide +kernel
theorem dX6_removeVariant_13 : decode cX6_removeVariant 13 = .ok (.iconst 1, 1) := by decide +kernel
theorem dX6_removeVariant_14 : decode cX6_removeVariant 14 = .ok (.putfield 45, 3) := by decide +kernel
theorem dX6_removeVariant_17 : decode cX6_removeVariant 17 = .ok (.aload_n 0, 1) := by decide +kernel
theorem dX6_removeVariant_18 : decode cX6_removeVariant 18 = .ok (.getfield 45, 3) := by decide +kernel
theorem dX6_removeVariant_21 : decode cX6_removeVariant 21 = .ok (.ifCond .eq 5, 3) := by decide +kernel
theorem dX6_removeVariant_24 : decode cX6_removeVariant 24 = .ok (.iconst 0, 1) := by decide +kernel
theorem dX6_removeVariant_25 : decode cX6_removeVariant 25 = .ok (.ireturn, 1) := by decide +kernel
theorem dX6_removeVariant_26 : decode cX6_removeVariant 26 = .ok (.aload_n 0, 1) := by decide +kernel
theorem dX6_removeVariant_27 : decode cX6_removeVariant 27 = .ok (.invokevirtual 115, 3) := by decide +kernel
theorem dX6_removeVariant_30 : decode cX6_removeVariant 30 = .ok (.aload_n 0, 1) := by decide +kernel
theorem dX6_removeVariant_31 : decode cX6_removeVariant 31 = .ok (.getfield 7, 3) := by decide +kernel
theorem dX6_removeVariant_34 : decode cX6_removeVariant 34 = .ok (.iconst 0, 1) := by decide +kernel
theorem dX6_removeVariant_35 : decode cX6_removeVariant 35 = .ok (.dup2, 1) := by decide +kernel
theorem dX6_removeVariant_36 : decode cX6_removeVariant 36 = .ok (.iaload, 1) := by decide +kernel
theorem dX6_removeVariant_37 : decode cX6_removeVariant 37 = .ok (.iconst 1, 1) := by decide +kernel
theorem dX6_removeVariant_38 : decode cX6_removeVariant 38 = .ok (.isub, 1) := by decide +kernel
theorem dX6_removeVariant_39 : decode cX6_removeVariant 39 = .ok (.iastore, 1) := by decide +kernel
theorem dX6_removeVariant_40 : decode cX6_removeVariant 40 = .ok (.bipush 10, 2) := by decide +kernel
theorem dX6_removeVariant_42 : decode cX6_removeVariant 42 = .ok (.bipush 8, 2) := by decide +kernel
theorem dX6_removeVariant_44 : decode cX6_removeVariant 44 = .ok (.iload_n 1, 1) := by decide +kernel
theorem dX6_removeVariant_45 : decode cX6_removeVariant 45 = .ok (.imul, 1) := by decide +kernel
theorem dX6_removeVariant_46 : decode cX6_removeVariant 46 = .ok (.iadd, 1) := by decide +kernel
theorem dX6_removeVariant_47 : decode cX6_removeVariant 47 = .ok (.istore_n 2, 1) := by decide +kernel
theorem dX6_removeVariant_48 : decode cX6_removeVariant 48 = .ok (.iload_n 2, 1) := by decide +kernel
theorem dX6_removeVariant_49 : decode cX6_removeVariant 49 = .ok (.bipush 10, 2) := by decide +kernel
theorem dX6_removeVariant_51 : decode cX6_removeVariant 51 = .ok (.bipush 8, 2) := by decide +kernel
theorem dX6_removeVariant_53 : decode cX6_removeVariant 53 = .ok (.aload_n 0, 1) := by decide +kernel
theorem dX6_removeVariant_54 : decode cX6_removeVariant 54 = .ok (.getfield 7, 3) := by decide +kernel
theorem dX6_removeVariant_57 : decode cX6_removeVariant 57 = .ok (.iconst 0, 1) := by decide +kernel
theorem dX6_removeVariant_58 : decode cX6_removeVariant 58 = .ok (.iaload, 1) := by decide +kernel
theorem dX6_removeVariant_59 : decode cX6_removeVariant 59 = .ok (.imul, 1) := by decide +kernel
theorem dX6_removeVariant_60 : decode cX6_removeVariant 60 = .ok (.iadd, 1) := by decide +kernel
theorem dX6_removeVariant_61 : decode cX6_removeVariant 61 = .ok (.if_icmp .ge 24, 3) := by decide +kernel
theorem dX6_removeVariant_64 : decode cX6_removeVariant 64 = .ok (.aload_n 0, 1) := by decide +kernel
theorem dX6_removeVariant_65 : decode cX6_removeVariant 65 = .ok (.getfield 7, 3) := by decide +kernel
theorem dX6_removeVariant_68 : decode cX6_removeVariant 68 = .ok (.iload_n 2, 1) := by decide +kernel
theorem dX6_removeVariant_69 : decode cX6_removeVariant 69 = .ok (.aload_n 0, 1) := by decide +kernel
theorem dX6_removeVariant_70 : decode cX6_removeVariant 70 = .ok (.getfield 7, 3) := by decide +kernel
theorem dX6_removeVariant_73 : decode cX6_removeVariant 73 = .ok (.iload_n 2, 1) := by decide +kernel
theorem dX6_removeVariant_74 : decode cX6_removeVariant 74 = .ok (.bipush 8, 2) := by decide +kernel
theorem dX6_removeVariant_76 : decode cX6_removeVariant 76 = .ok (.iadd, 1) := by decide +kernel
theorem dX6_removeVariant_77 : decode cX6_removeVariant 77 = .ok (.iaload, 1) := by decide +kernel
theorem dX6_removeVariant_78 : decode cX6_removeVariant 78 = .ok (.iastore, 1) := by decide +kernel
theorem dX6_removeVariant_79 : decode cX6_removeVariant 79 = .ok (.iinc 2 1, 3) := by decide +kernel
theorem dX6_removeVariant_82 : decode cX6_removeVariant 82 = .ok (.goto (-34), 3) := by decide +kernel
theorem dX6_removeVariant_85 : decode cX6_removeVariant 85 = .ok (.aload_n 0, 1) := by decide +kernel
theorem dX6_removeVariant_86 : decode cX6_removeVariant 86 = .ok (.getfield 7, 3) := by decide +kernel
theorem dX6_removeVariant_89 : decode cX6_removeVariant 89 = .ok (.iconst 0, 1) := by decide +kernel
theorem dX6_removeVariant_90 : decode cX6_removeVariant 90 = .ok (.iaload, 1) := by decide +kernel
theorem dX6_removeVariant_91 : decode cX6_removeVariant 91 = .ok (.ireturn, 1) := by decide +kernel
theorem dX6_put_0 : decode cX6_put 0 = .ok (.aload_n 0, 1) := by decide +kernel
theorem dX6_put_1 : decode cX6_put 1 = .ok (.invokevirtual 115, 3) := by decide +kernel
theorem dX6_put_4 : decode cX6_put 4 = .ok (.aload_n 0, 1) := by decide +kernel
theorem dX6_put_5 : decode cX6_put 5 = .ok (.getfield 7, 3) := by decide +kernel
theorem dX6_put_8 : decode cX6_put 8 = .ok (.iload_n 1, 1) := by decide +kernel
theorem dX6_put_9 : decode cX6_put 9 = .ok (.iaload, 1) := by decide +kernel
theorem dX6_put_10 : decode cX6_put 10 = .ok (.istore_n 3, 1) := by decide +kernel
theorem dX6_put_11 : decode cX6_put 11 = .ok (.aload_n 0, 1) := by decide +kernel
theorem dX6_put_12 : decode cX6_put 12 = .ok (.getfield 7, 3) := by decide +kernel
theorem dX6_put_15 : decode cX6_put 15 = .ok (.iload_n 1, 1) := by decide +kernel
theorem dX6_put_16 : decode cX6_put 16 = .ok (.iload_n 2, 1) := by decide +kernel
theorem dX6_put_17 : decode cX6_put 17 = .ok (.iastore, 1) := by decide +kernel
theorem dX6_put_18 : decode cX6_put 18 = .ok (.iload_n 3, 1) := by decide +kernel
theorem dX6_put_19 : decode cX6_put 19 = .ok (.ireturn, 1) := by decide +kernel
theorem dX6_setQuality_0 : decode cX6_setQuality 0 = .ok (.aload_n 0, 1) := by decide +kernel
theorem dX6_setQuality_1 : decode cX6_setQuality 1 = .ok (.aload_n 0, 1) := by decide +kernel
theorem dX6_setQuality_2 : decode cX6_setQuality 2 = .ok (.iload_n 1, 1) := by decide +kernel
theorem dX6_setQuality_3 : decode cX6_setQuality 3 = .ok (.invokevirtual 124, 3) := by decide +kernel
theorem dX6_setQuality_6 : decode cX6_setQuality 6 = .ok (.ifCond .ne 7, 3) := by decide +kernel
theorem dX6_setQuality_9 : decode cX6_setQuality 9 = .ok (.iconst 1, 1) := by decide +kernel
theorem dX6_setQuality_10 : decode cX6_setQuality 10 = .ok (.goto 19, 3) := by decide +kernel
theorem dX6_setQuality_13 : decode cX6_setQuality 13 = .ok (.iload_n 2, 1) := by decide +kernel
theorem dX6_setQuality_14 : decode cX6_setQuality 14 = .ok (.iconst 0, 1) := by decide +kernel
theorem dX6_setQuality_15 : decode cX6_setQuality 15 = .ok (.sipush 1000, 3) := by decide +kernel
theorem dX6_setQuality_18 : decode cX6_setQuality 18 = .ok (.invokestatic 51, 3) := by decide +kernel
theorem dX6_setQuality_21 : decode cX6_setQuality 21 = .ok (.ifCond .eq 7, 3) := by decide +kernel
theorem dX6_setQuality_24 : decode cX6_setQuality 24 = .ok (.iconst 0, 1) := by decide +kernel
theorem dX6_setQuality_25 : decode cX6_setQuality 25 = .ok (.goto 4, 3) := by decide +kernel
theorem dX6_setQuality_28 : decode cX6_setQuality 28 = .ok (.iconst 2, 1) := by decide +kernel
theorem dX6_setQuality_29 : decode cX6_setQuality 29 = .ok (.putfield 45, 3) := by decide +kernel
theorem dX6_setQuality_32 : decode cX6_setQuality 32 = .ok (.aload_n 0, 1) := by decide +kernel
theorem dX6_setQuality_33 : decode cX6_setQuality 33 = .ok (.getfield 45, 3) := by decide +kernel
theorem dX6_setQuality_36 : decode cX6_setQuality 36 = .ok (.ifCond .eq 7, 3) := by decide +kernel
theorem dX6_setQuality_39 : decode cX6_setQuality 39 = .ok (.iconst 0, 1) := by decide +kernel
theorem dX6_setQuality_40 : decode cX6_setQuality 40 = .ok (.goto 18, 3) := by decide +kernel
theorem dX6_setQuality_43 : decode cX6_setQuality 43 = .ok (.aload_n 0, 1) := by decide +kernel
theorem dX6_setQuality_44 : decode cX6_setQuality 44 = .ok (.bipush 10, 2) := by decide +kernel
theorem dX6_setQuality_46 : decode cX6_setQuality 46 = .ok (.bipush 8, 2) := by decide +kernel
theorem dX6_setQuality_48 : decode cX6_setQuality 48 = .ok (.iload_n 1, 1) := by decide +kernel
theorem dX6_setQuality_49 : decode cX6_setQuality 49 = .ok (.imul, 1) := by decide +kernel
theorem dX6_setQuality_50 : decode cX6_setQuality 50 = .ok (.iadd, 1) := by decide +kernel
theorem dX6_setQuality_51 : decode cX6_setQuality 51 = .ok (.bipush 7, 2) := by decide +kernel
theorem dX6_setQuality_53 : decode cX6_setQuality 53 = .ok (.iadd, 1) := by decide +kernel
theorem dX6_setQuality_54 : decode cX6_setQuality 54 = .ok (.iload_n 2, 1) := by decide +kernel
theorem dX6_setQuality_55 : decode cX6_setQuality 55 = .ok (.invokevirtual 127, 3) := by decide +kernel
theorem dX6_setQuality_58 : decode cX6_setQuality 58 = .ok (.ireturn, 1) := by decide +kernel
theorem dX6_setSize_0 : decode cX6_setSize 0 = .ok (.aload_n 0, 1) := by decide +kernel
theorem dX6_setSize_1 : decode cX6_setSize 1 = .ok (.aload_n 0, 1) := by decide +kernel
theorem dX6_setSize_2 : decode cX6_setSize 2 = .ok (.iload_n 1, 1) := by decide +kernel
theorem dX6_setSize_3 : decode cX6_setSize 3 = .ok (.invokevirtual 124, 3) := by decide +kernel
theorem dX6_setSize_6 : decode cX6_setSize 6 = .ok (.ifCond .ne 7, 3) := by decide +kernel
theorem dX6_setSize_9 : decode cX6_setSize 9 = .ok (.iconst 1, 1) := by decide +kernel
theorem dX6_setSize_10 : decode cX6_setSize 10 = .ok (.goto 18, 3) := by decide +kernel
theorem dX6_setSize_13 : decode cX6_setSize 13 = .ok (.iload_n 2, 1) := by decide +kernel
theorem dX6_setSize_14 : decode cX6_setSize 14 = .ok (.iconst 0, 1) := by decide +kernel
theorem dX6_setSize_15 : decode cX6_setSize 15 = .ok (.ldc 130, 2) := by decide +kernel
theorem dX6_setSize_17 : decode cX6_setSize 17 = .ok (.invokestatic 51, 3) := by decide +kernel
theorem dX6_setSize_20 : decode cX6_setSize 20 = .ok (.ifCond .eq 7, 3) := by decide +kernel
theorem dX6_setSize_23 : decode cX6_setSize 23 = .ok (.iconst 0, 1) := by decide +kernel
theorem dX6_setSize_24 : decode cX6_setSize 24 = .ok (.goto 4, 3) := by decide +kernel
theorem dX6_setSize_27 : decode cX6_setSize 27 = .ok (.iconst 2, 1) := by decide +kernel
theorem dX6_setSize_28 : decode cX6_setSize 28 = .ok (.putfield 45, 3) := by decide +kernel
theorem dX6_setSize_31 : decode cX6_setSize 31 = .ok (.aload_n 0, 1) := by decide +kernel
theorem dX6_setSize_32 : decode cX6_setSize 32 = .ok (.getfield 45, 3) := by decide +kernel
theorem dX6_setSize_35 : decode cX6_setSize 35 = .ok (.ifCond .eq 7, 3) := by decide +kernel
theorem dX6_setSize_38 : decode cX6_setSize 38 = .ok (.iconst 0, 1) := by decide +kernel
theorem dX6_setSize_39 : decode cX6_setSize 39 = .ok (.goto 18, 3) := by decide +kernel
theorem dX6_setSize_42 : decode cX6_setSize 42 = .ok (.aload_n 0, 1) := by decide +kernel
theorem dX6_setSize_43 : decode cX6_setSize 43 = .ok (.bipush 10, 2) := by decide +kernel
theorem dX6_setSize_45 : decode cX6_setSize 45 = .ok (.bipush 8, 2) := by decide +kernel
theorem dX6_setSize_47 : decode cX6_setSize 47 = .ok (.iload_n 1, 1) := by decide +kernel
theorem dX6_setSize_48 : decode cX6_setSize 48 = .ok (.imul, 1) := by decide +kernel
theorem dX6_setSize_49 : decode cX6_setSize 49 = .ok (.iadd, 1) := by decide +kernel
theorem dX6_setSize_50 : decode cX6_setSize 50 = .ok (.bipush 6, 2) := by decide +kernel
theorem dX6_setSize_52 : decode cX6_setSize 52 = .ok (.iadd, 1) := by decide +kernel
theorem dX6_setSize_53 : decode cX6_setSize 53 = .ok (.iload_n 2, 1) := by decide +kernel
theorem dX6_setSize_54 : decode cX6_setSize 54 = .ok (.invokevirtual 127, 3) := by decide +kernel
theorem dX6_setSize_57 : decode cX6_setSize 57 = .ok (.ireturn, 1) := by decide +kernel
theorem dX6_setWeight_0 : decode cX6_setWeight 0 = .ok (.aload_n 0, 1) := by decide +kernel
theorem dX6_setWeight_1 : decode cX6_setWeight 1 = .ok (.aload_n 0, 1) := by decide +kernel
theorem dX6_setWeight_2 : decode cX6_setWeight 2 = .ok (.iload_n 1, 1) := by decide +kernel
theorem dX6_setWeight_3 : decode cX6_setWeight 3 = .ok (.iload_n 2, 1) := by decide +kernel
theorem dX6_setWeight_4 : decode cX6_setWeight 4 = .ok (.iload_n 3, 1) := by decide +kernel
theorem dX6_setWeight_5 : decode cX6_setWeight 5 = .ok (.invokevirtual 131, 3) := by decide +kernel
theorem dX6_setWeight_8 : decode cX6_setWeight 8 = .ok (.ifCond .ne 7, 3) := by decide +kernel
theorem dX6_setWeight_11 : decode cX6_setWeight 11 = .ok (.iconst 1, 1) := by decide +kernel
theorem dX6_setWeight_12 : decode cX6_setWeight 12 = .ok (.goto 20, 3) := by decide +kernel
theorem dX6_setWeight_15 : decode cX6_setWeight 15 = .ok (.iload 4, 2) := by decide +kernel
theorem dX6_setWeight_17 : decode cX6_setWeight 17 = .ok (.iconst 0, 1) := by decide +kernel
theorem dX6_setWeight_18 : decode cX6_setWeight 18 = .ok (.sipush 1000, 3) := by decide +kernel
theorem dX6_setWeight_21 : decode cX6_setWeight 21 = .ok (.invokestatic 51, 3) := by decide +kernel
theorem dX6_setWeight_24 : decode cX6_setWeight 24 = .ok (.ifCond .eq 7, 3) := by decide +kernel
theorem dX6_setWeight_27 : decode cX6_setWeight 27 = .ok (.iconst 0, 1) := by decide +kernel
theorem dX6_setWeight_28 : decode cX6_setWeight 28 = .ok (.goto 4, 3) := by decide +kernel
theorem dX6_setWeight_31 : decode cX6_setWeight 31 = .ok (.iconst 2, 1) := by decide +kernel
theorem dX6_setWeight_32 : decode cX6_setWeight 32 = .ok (.putfield 45, 3) := by decide +kernel
theorem dX6_setWeight_35 : decode cX6_setWeight 35 = .ok (.aload_n 0, 1) := by decide +kernel
theorem dX6_setWeight_36 : decode cX6_setWeight 36 = .ok (.getfield 45, 3) := by decide +kernel
theorem dX6_setWeight_39 : decode cX6_setWeight 39 = .ok (.ifCond .eq 7, 3) := by decide +kernel
theorem dX6_setWeight_42 : decode cX6_setWeight 42 = .ok (.iconst 0, 1) := by decide +kernel
theorem dX6_setWeight_43 : decode cX6_setWeight 43 = .ok (.goto 27, 3) := by decide +kernel
theorem dX6_setWeight_46 : decode cX6_setWeight 46 = .ok (.aload_n 0, 1) := by decide +kernel
theorem dX6_setWeight_47 : decode cX6_setWeight 47 = .ok (.sipush 138, 3) := by decide +kernel
theorem dX6_setWeight_50 : decode cX6_setWeight 50 = .ok (.bipush 40, 2) := by decide +kernel
theorem dX6_setWeight_52 : decode cX6_setWeight 52 = .ok (.iload_n 1, 1) := by decide +kernel
theorem dX6_setWeight_53 : decode cX6_setWeight 53 = .ok (.iload_n 2, 1) := by decide +kernel
theorem dX6_setWeight_54 : decode cX6_setWeight 54 = .ok (.invokestatic 59, 3) := by decide +kernel
theorem dX6_setWeight_57 : decode cX6_setWeight 57 = .ok (.imul, 1) := by decide +kernel
theorem dX6_setWeight_58 : decode cX6_setWeight 58 = .ok (.iadd, 1) := by decide +kernel
theorem dX6_setWeight_59 : decode cX6_setWeight 59 = .ok (.iconst 4, 1) := by decide +kernel
theorem dX6_setWeight_60 : decode cX6_setWeight 60 = .ok (.iload_n 3, 1) := by decide +kernel
theorem dX6_setWeight_61 : decode cX6_setWeight 61 = .ok (.imul, 1) := by decide +kernel
theorem dX6_setWeight_62 : decode cX6_setWeight 62 = .ok (.iadd, 1) := by decide +kernel
theorem dX6_setWeight_63 : decode cX6_setWeight 63 = .ok (.iconst 3, 1) := by decide +kernel
theorem dX6_setWeight_64 : decode cX6_setWeight 64 = .ok (.iadd, 1) := by decide +kernel
theorem dX6_setWeight_65 : decode cX6_setWeight 65 = .ok (.iload 4, 2) := by decide +kernel
theorem dX6_setWeight_67 : decode cX6_setWeight 67 = .ok (.invokevirtual 127, 3) := by decide +kernel
theorem dX6_setWeight_70 : decode cX6_setWeight 70 = .ok (.ireturn, 1) := by decide +kernel
theorem dX6_removeEntry_0 : decode cX6_removeEntry 0 = .ok (.aload_n 0, 1) := by decide +kernel
theorem dX6_removeEntry_1 : decode cX6_removeEntry 1 = .ok (.aload_n 0, 1) := by decide +kernel
theorem dX6_removeEntry_2 : decode cX6_removeEntry 2 = .ok (.iload_n 1, 1) := by decide +kernel
theorem dX6_removeEntry_3 : decode cX6_removeEntry 3 = .ok (.iload_n 2, 1) := by decide +kernel
theorem dX6_removeEntry_4 : decode cX6_removeEntry 4 = .ok (.iload_n 3, 1) := by decide +kernel
theorem dX6_removeEntry_5 : decode cX6_removeEntry 5 = .ok (.invokevirtual 131, 3) := by decide +kernel
theorem dX6_removeEntry_8 : decode cX6_removeEntry 8 = .ok (.ifCond .eq 7, 3) := by decide +kernel
theorem dX6_removeEntry_11 : decode cX6_removeEntry 11 = .ok (.iconst 0, 1) := by decide +kernel
theorem dX6_removeEntry_12 : decode cX6_removeEntry 12 = .ok (.goto 4, 3) := by decide +kernel
theorem dX6_removeEntry_15 : decode cX6_removeEntry 15 = .ok (.iconst 1, 1) := by decide +kernel
theorem dX6_removeEntry_16 : decode cX6_removeEntry 16 = .ok (.putfield 45, 3) := by decide +kernel
theorem dX6_removeEntry_19 : decode cX6_removeEntry 19 = .ok (.aload_n 0, 1) := by decide +kernel
theorem dX6_removeEntry_20 : decode cX6_removeEntry 20 = .ok (.getfield 45, 3) := by decide +kernel
theorem dX6_removeEntry_23 : decode cX6_removeEntry 23 = .ok (.ifCond .eq 5, 3) := by decide +kernel
theorem dX6_removeEntry_26 : decode cX6_removeEntry 26 = .ok (.iconst 0, 1) := by decide +kernel
theorem dX6_removeEntry_27 : decode cX6_removeEntry 27 = .ok (.ireturn, 1) := by decide +kernel
theorem dX6_removeEntry_28 : decode cX6_removeEntry 28 = .ok (.aload_n 0, 1) := by decide +kernel
theorem dX6_removeEntry_29 : decode cX6_removeEntry 29 = .ok (.invokevirtual 115, 3) := by decide +kernel
theorem dX6_removeEntry_32 : decode cX6_removeEntry 32 = .ok (.iload_n 1, 1) := by decide +kernel
theorem dX6_removeEntry_33 : decode cX6_removeEntry 33 = .ok (.iload_n 2, 1) := by decide +kernel
theorem dX6_removeEntry_34 : decode cX6_removeEntry 34 = .ok (.invokestatic 59, 3) := by decide +kernel
theorem dX6_removeEntry_37 : decode cX6_removeEntry 37 = .ok (.istore 4, 2) := by decide +kernel
theorem dX6_removeEntry_39 : decode cX6_removeEntry 39 = .ok (.aload_n 0, 1) := by decide +kernel
theorem dX6_removeEntry_40 : decode cX6_removeEntry 40 = .ok (.getfield 7, 3) := by decide +kernel
theorem dX6_removeEntry_43 : decode cX6_removeEntry 43 = .ok (.iconst 4, 1) := by decide +kernel
theorem dX6_removeEntry_44 : decode cX6_removeEntry 44 = .ok (.iload 4, 2) := by decide +kernel
theorem dX6_removeEntry_46 : decode cX6_removeEntry 46 = .ok (.iadd, 1) := by decide +kernel
theorem dX6_removeEntry_47 : decode cX6_removeEntry 47 = .ok (.dup2, 1) := by decide +kernel
theorem dX6_removeEntry_48 : decode cX6_removeEntry 48 = .ok (.iaload, 1) := by decide +kernel
theorem dX6_removeEntry_49 : decode cX6_removeEntry 49 = .ok (.iconst 1, 1) := by decide +kernel
theorem dX6_removeEntry_50 : decode cX6_removeEntry 50 = .ok (.isub, 1) := by decide +kernel
theorem dX6_removeEntry_51 : decode cX6_removeEntry 51 = .ok (.iastore, 1) := by decide +kernel
theorem dX6_removeEntry_52 : decode cX6_removeEntry 52 = .ok (.sipush 138, 3) := by decide +kernel
theorem dX6_removeEntry_55 : decode cX6_removeEntry 55 = .ok (.bipush 40, 2) := by decide +kernel
theorem dX6_removeEntry_57 : decode cX6_removeEntry 57 = .ok (.iload 4, 2) := by decide +kernel
theorem dX6_removeEntry_59 : decode cX6_removeEntry 59 = .ok (.imul, 1) := by decide +kernel
theorem dX6_removeEntry_60 : decode cX6_removeEntry 60 = .ok (.iadd, 1) := by decide +kernel
theorem dX6_removeEntry_61 : decode cX6_removeEntry 61 = .ok (.iconst 4, 1) := by decide +kernel
theorem dX6_removeEntry_62 : decode cX6_removeEntry 62 = .ok (.iload_n 3, 1) := by decide +kernel
theorem dX6_removeEntry_63 : decode cX6_removeEntry 63 = .ok (.imul, 1) := by decide +kernel
theorem dX6_removeEntry_64 : decode cX6_removeEntry 64 = .ok (.iadd, 1) := by decide +kernel
theorem dX6_removeEntry_65 : decode cX6_removeEntry 65 = .ok (.istore 5, 2) := by decide +kernel
theorem dX6_removeEntry_67 : decode cX6_removeEntry 67 = .ok (.iload 5, 2) := by decide +kernel
theorem dX6_removeEntry_69 : decode cX6_removeEntry 69 = .ok (.sipush 138, 3) := by decide +kernel
theorem dX6_removeEntry_72 : decode cX6_removeEntry 72 = .ok (.bipush 40, 2) := by decide +kernel
theorem dX6_removeEntry_74 : decode cX6_removeEntry 74 = .ok (.iload 4, 2) := by decide +kernel
theorem dX6_removeEntry_76 : decode cX6_removeEntry 76 = .ok (.imul, 1) := by decide +kernel
theorem dX6_removeEntry_77 : decode cX6_removeEntry 77 = .ok (.iadd, 1) := by decide +kernel
theorem dX6_removeEntry_78 : decode cX6_removeEntry 78 = .ok (.iconst 4, 1) := by decide +kernel
theorem dX6_removeEntry_79 : decode cX6_removeEntry 79 = .ok (.aload_n 0, 1) := by decide +kernel
theorem dX6_removeEntry_80 : decode cX6_removeEntry 80 = .ok (.getfield 7, 3) := by decide +kernel
theorem dX6_removeEntry_83 : decode cX6_removeEntry 83 = .ok (.iconst 4, 1) := by decide +kernel
theorem dX6_removeEntry_84 : decode cX6_removeEntry 84 = .ok (.iload 4, 2) := by decide +kernel
theorem dX6_removeEntry_86 : decode cX6_removeEntry 86 = .ok (.iadd, 1) := by decide +kernel
theorem dX6_removeEntry_87 : decode cX6_removeEntry 87 = .ok (.iaload, 1) := by decide +kernel
theorem dX6_removeEntry_88 : decode cX6_removeEntry 88 = .ok (.imul, 1) := by decide +kernel
theorem dX6_removeEntry_89 : decode cX6_removeEntry 89 = .ok (.iadd, 1) := by decide +kernel
theorem dX6_removeEntry_90 : decode cX6_removeEntry 90 = .ok (.if_icmp .ge 25, 3) := by decide +kernel
theorem dX6_removeEntry_93 : decode cX6_removeEntry 93 = .ok (.aload_n 0, 1) := by decide +kernel
theorem dX6_removeEntry_94 : decode cX6_removeEntry 94 = .ok (.getfield 7, 3) := by decide +kernel
theorem dX6_removeEntry_97 : decode cX6_removeEntry 97 = .ok (.iload 5, 2) := by decide +kernel
theorem dX6_removeEntry_99 : decode cX6_removeEntry 99 = .ok (.aload_n 0, 1) := by decide +kernel
theorem dX6_removeEntry_100 : decode cX6_removeEntry 100 = .ok (.getfield 7, 3) := by decide +kernel
theorem dX6_removeEntry_103 : decode cX6_removeEntry 103 = .ok (.iload 5, 2) := by decide +kernel
theorem dX6_removeEntry_105 : decode cX6_removeEntry 105 = .ok (.iconst 4, 1) := by decide +kernel
theorem dX6_removeEntry_106 : decode cX6_removeEntry 106 = .ok (.iadd, 1) := by decide +kernel
theorem dX6_removeEntry_107 : decode cX6_removeEntry 107 = .ok (.iaload, 1) := by decide +kernel
theorem dX6_removeEntry_108 : decode cX6_removeEntry 108 = .ok (.iastore, 1) := by decide +kernel
theorem dX6_removeEntry_109 : decode cX6_removeEntry 109 = .ok (.iinc 5 1, 3) := by decide +kernel
theorem dX6_removeEntry_112 : decode cX6_removeEntry 112 = .ok (.goto (-45), 3) := by decide +kernel
theorem dX6_removeEntry_115 : decode cX6_removeEntry 115 = .ok (.aload_n 0, 1) := by decide +kernel
theorem dX6_removeEntry_116 : decode cX6_removeEntry 116 = .ok (.getfield 7, 3) := by decide +kernel
theorem dX6_removeEntry_119 : decode cX6_removeEntry 119 = .ok (.iconst 4, 1) := by decide +kernel
theorem dX6_removeEntry_120 : decode cX6_removeEntry 120 = .ok (.iload 4, 2) := by decide +kernel
theorem dX6_removeEntry_122 : decode cX6_removeEntry 122 = .ok (.iadd, 1) := by decide +kernel
theorem dX6_removeEntry_123 : decode cX6_removeEntry 123 = .ok (.iaload, 1) := by decide +kernel
theorem dX6_removeEntry_124 : decode cX6_removeEntry 124 = .ok (.ireturn, 1) := by decide +kernel
theorem dX6_entriesOf_0 : decode cX6_entriesOf 0 = .ok (.aload_n 0, 1) := by decide +kernel
theorem dX6_entriesOf_1 : decode cX6_entriesOf 1 = .ok (.getfield 7, 3) := by decide +kernel
theorem dX6_entriesOf_4 : decode cX6_entriesOf 4 = .ok (.iconst 4, 1) := by decide +kernel
theorem dX6_entriesOf_5 : decode cX6_entriesOf 5 = .ok (.iconst 3, 1) := by decide +kernel
theorem dX6_entriesOf_6 : decode cX6_entriesOf 6 = .ok (.iload_n 1, 1) := by decide +kernel
theorem dX6_entriesOf_7 : decode cX6_entriesOf 7 = .ok (.imul, 1) := by decide +kernel
theorem dX6_entriesOf_8 : decode cX6_entriesOf 8 = .ok (.iadd, 1) := by decide +kernel
theorem dX6_entriesOf_9 : decode cX6_entriesOf 9 = .ok (.iaload, 1) := by decide +kernel
theorem dX6_entriesOf_10 : decode cX6_entriesOf 10 = .ok (.aload_n 0, 1) := by decide +kernel
theorem dX6_entriesOf_11 : decode cX6_entriesOf 11 = .ok (.getfield 7, 3) := by decide +kernel
theorem dX6_entriesOf_14 : decode cX6_entriesOf 14 = .ok (.iconst 4, 1) := by decide +kernel
theorem dX6_entriesOf_15 : decode cX6_entriesOf 15 = .ok (.iconst 3, 1) := by decide +kernel
theorem dX6_entriesOf_16 : decode cX6_entriesOf 16 = .ok (.iload_n 1, 1) := by decide +kernel
theorem dX6_entriesOf_17 : decode cX6_entriesOf 17 = .ok (.imul, 1) := by decide +kernel
theorem dX6_entriesOf_18 : decode cX6_entriesOf 18 = .ok (.iadd, 1) := by decide +kernel
theorem dX6_entriesOf_19 : decode cX6_entriesOf 19 = .ok (.iconst 1, 1) := by decide +kernel
theorem dX6_entriesOf_20 : decode cX6_entriesOf 20 = .ok (.iadd, 1) := by decide +kernel
theorem dX6_entriesOf_21 : decode cX6_entriesOf 21 = .ok (.iaload, 1) := by decide +kernel
theorem dX6_entriesOf_22 : decode cX6_entriesOf 22 = .ok (.iadd, 1) := by decide +kernel
theorem dX6_entriesOf_23 : decode cX6_entriesOf 23 = .ok (.aload_n 0, 1) := by decide +kernel
theorem dX6_entriesOf_24 : decode cX6_entriesOf 24 = .ok (.getfield 7, 3) := by decide +kernel
theorem dX6_entriesOf_27 : decode cX6_entriesOf 27 = .ok (.iconst 4, 1) := by decide +kernel
theorem dX6_entriesOf_28 : decode cX6_entriesOf 28 = .ok (.iconst 3, 1) := by decide +kernel
theorem dX6_entriesOf_29 : decode cX6_entriesOf 29 = .ok (.iload_n 1, 1) := by decide +kernel
theorem dX6_entriesOf_30 : decode cX6_entriesOf 30 = .ok (.imul, 1) := by decide +kernel
theorem dX6_entriesOf_31 : decode cX6_entriesOf 31 = .ok (.iadd, 1) := by decide +kernel
theorem dX6_entriesOf_32 : decode cX6_entriesOf 32 = .ok (.iconst 2, 1) := by decide +kernel
theorem dX6_entriesOf_33 : decode cX6_entriesOf 33 = .ok (.iadd, 1) := by decide +kernel
theorem dX6_entriesOf_34 : decode cX6_entriesOf 34 = .ok (.iaload, 1) := by decide +kernel
theorem dX6_entriesOf_35 : decode cX6_entriesOf 35 = .ok (.iadd, 1) := by decide +kernel
theorem dX6_entriesOf_36 : decode cX6_entriesOf 36 = .ok (.ireturn, 1) := by decide +kernel
theorem dX6_exchange_0 : decode cX6_exchange 0 = .ok (.aload_n 0, 1) := by decide +kernel
theorem dX6_exchange_1 : decode cX6_exchange 1 = .ok (.getfield 7, 3) := by decide +kernel
theorem dX6_exchange_4 : decode cX6_exchange 4 = .ok (.iload_n 1, 1) := by decide +kernel
theorem dX6_exchange_5 : decode cX6_exchange 5 = .ok (.iaload, 1) := by decide +kernel
theorem dX6_exchange_6 : decode cX6_exchange 6 = .ok (.istore_n 3, 1) := by decide +kernel
theorem dX6_exchange_7 : decode cX6_exchange 7 = .ok (.aload_n 0, 1) := by decide +kernel
theorem dX6_exchange_8 : decode cX6_exchange 8 = .ok (.getfield 7, 3) := by decide +kernel
theorem dX6_exchange_11 : decode cX6_exchange 11 = .ok (.iload_n 1, 1) := by decide +kernel
theorem dX6_exchange_12 : decode cX6_exchange 12 = .ok (.aload_n 0, 1) := by decide +kernel
theorem dX6_exchange_13 : decode cX6_exchange 13 = .ok (.getfield 7, 3) := by decide +kernel
theorem dX6_exchange_16 : decode cX6_exchange 16 = .ok (.iload_n 2, 1) := by decide +kernel
theorem dX6_exchange_17 : decode cX6_exchange 17 = .ok (.iaload, 1) := by decide +kernel
theorem dX6_exchange_18 : decode cX6_exchange 18 = .ok (.iastore, 1) := by decide +kernel
theorem dX6_exchange_19 : decode cX6_exchange 19 = .ok (.aload_n 0, 1) := by decide +kernel
theorem dX6_exchange_20 : decode cX6_exchange 20 = .ok (.getfield 7, 3) := by decide +kernel
theorem dX6_exchange_23 : decode cX6_exchange 23 = .ok (.iload_n 2, 1) := by decide +kernel
theorem dX6_exchange_24 : decode cX6_exchange 24 = .ok (.iload_n 3, 1) := by decide +kernel
theorem dX6_exchange_25 : decode cX6_exchange 25 = .ok (.iastore, 1) := by decide +kernel
theorem dX6_exchange_26 : decode cX6_exchange 26 = .ok (.return_, 1) := by decide +kernel
theorem dX6_swapSides_0 : decode cX6_swapSides 0 = .ok (.aload_n 0, 1) := by decide +kernel
theorem dX6_swapSides_1 : decode cX6_swapSides 1 = .ok (.iconst 0, 1) := by decide +kernel
theorem dX6_swapSides_2 : decode cX6_swapSides 2 = .ok (.putfield 45, 3) := by decide +kernel
theorem dX6_swapSides_5 : decode cX6_swapSides 5 = .ok (.aload_n 0, 1) := by decide +kernel
theorem dX6_swapSides_6 : decode cX6_swapSides 6 = .ok (.invokevirtual 115, 3) := by decide +kernel
theorem dX6_swapSides_9 : decode cX6_swapSides 9 = .ok (.iconst 0, 1) := by decide +kernel
theorem dX6_swapSides_10 : decode cX6_swapSides 10 = .ok (.istore_n 1, 1) := by decide +kernel
theorem dX6_swapSides_11 : decode cX6_swapSides 11 = .ok (.iload_n 1, 1) := by decide +kernel
theorem dX6_swapSides_12 : decode cX6_swapSides 12 = .ok (.iconst 3, 1) := by decide +kernel
theorem dX6_swapSides_13 : decode cX6_swapSides 13 = .ok (.if_icmp .ge 20, 3) := by decide +kernel
theorem dX6_swapSides_16 : decode cX6_swapSides 16 = .ok (.aload_n 0, 1) := by decide +kernel
theorem dX6_swapSides_17 : decode cX6_swapSides 17 = .ok (.iconst 4, 1) := by decide +kernel
theorem dX6_swapSides_18 : decode cX6_swapSides 18 = .ok (.iload_n 1, 1) := by decide +kernel
theorem dX6_swapSides_19 : decode cX6_swapSides 19 = .ok (.iadd, 1) := by decide +kernel
theorem dX6_swapSides_20 : decode cX6_swapSides 20 = .ok (.bipush 7, 2) := by decide +kernel
theorem dX6_swapSides_22 : decode cX6_swapSides 22 = .ok (.iload_n 1, 1) := by decide +kernel
theorem dX6_swapSides_23 : decode cX6_swapSides 23 = .ok (.iadd, 1) := by decide +kernel
theorem dX6_swapSides_24 : decode cX6_swapSides 24 = .ok (.invokevirtual 134, 3) := by decide +kernel
theorem dX6_swapSides_27 : decode cX6_swapSides 27 = .ok (.iinc 1 1, 3) := by decide +kernel
theorem dX6_swapSides_30 : decode cX6_swapSides 30 = .ok (.goto (-19), 3) := by decide +kernel
theorem dX6_swapSides_33 : decode cX6_swapSides 33 = .ok (.iconst 0, 1) := by decide +kernel
theorem dX6_swapSides_34 : decode cX6_swapSides 34 = .ok (.istore_n 1, 1) := by decide +kernel
theorem dX6_swapSides_35 : decode cX6_swapSides 35 = .ok (.iload_n 1, 1) := by decide +kernel
theorem dX6_swapSides_36 : decode cX6_swapSides 36 = .ok (.bipush 120, 2) := by decide +kernel
theorem dX6_swapSides_38 : decode cX6_swapSides 38 = .ok (.if_icmp .ge 23, 3) := by decide +kernel
theorem dX6_swapSides_41 : decode cX6_swapSides 41 = .ok (.aload_n 0, 1) := by decide +kernel
theorem dX6_swapSides_42 : decode cX6_swapSides 42 = .ok (.sipush 138, 3) := by decide +kernel
theorem dX6_swapSides_45 : decode cX6_swapSides 45 = .ok (.iload_n 1, 1) := by decide +kernel
theorem dX6_swapSides_46 : decode cX6_swapSides 46 = .ok (.iadd, 1) := by decide +kernel
theorem dX6_swapSides_47 : decode cX6_swapSides 47 = .ok (.sipush 258, 3) := by decide +kernel
theorem dX6_swapSides_50 : decode cX6_swapSides 50 = .ok (.iload_n 1, 1) := by decide +kernel
theorem dX6_swapSides_51 : decode cX6_swapSides 51 = .ok (.iadd, 1) := by decide +kernel
theorem dX6_swapSides_52 : decode cX6_swapSides 52 = .ok (.invokevirtual 134, 3) := by decide +kernel
theorem dX6_swapSides_55 : decode cX6_swapSides 55 = .ok (.iinc 1 1, 3) := by decide +kernel
theorem dX6_swapSides_58 : decode cX6_swapSides 58 = .ok (.goto (-23), 3) := by decide +kernel
theorem dX6_swapSides_61 : decode cX6_swapSides 61 = .ok (.aload_n 0, 1) := by decide +kernel
theorem dX6_swapSides_62 : decode cX6_swapSides 62 = .ok (.iconst 0, 1) := by decide +kernel
theorem dX6_swapSides_63 : decode cX6_swapSides 63 = .ok (.invokevirtual 138, 3) := by decide +kernel
theorem dX6_swapSides_66 : decode cX6_swapSides 66 = .ok (.ireturn, 1) := by decide +kernel
theorem dX6_setTies_0 : decode cX6_setTies 0 = .ok (.aload_n 0, 1) := by decide +kernel
theorem dX6_setTies_1 : decode cX6_setTies 1 = .ok (.iload_n 1, 1) := by decide +kernel
theorem dX6_setTies_2 : decode cX6_setTies 2 = .ok (.iconst 0, 1) := by decide +kernel
theorem dX6_setTies_3 : decode cX6_setTies 3 = .ok (.iconst 5, 1) := by decide +kernel
theorem dX6_setTies_4 : decode cX6_setTies 4 = .ok (.invokestatic 51, 3) := by decide +kernel
theorem dX6_setTies_7 : decode cX6_setTies 7 = .ok (.ifCond .eq 25, 3) := by decide +kernel
theorem dX6_setTies_10 : decode cX6_setTies 10 = .ok (.iload_n 2, 1) := by decide +kernel
theorem dX6_setTies_11 : decode cX6_setTies 11 = .ok (.iconst 0, 1) := by decide +kernel
theorem dX6_setTies_12 : decode cX6_setTies 12 = .ok (.iconst 5, 1) := by decide +kernel
theorem dX6_setTies_13 : decode cX6_setTies 13 = .ok (.invokestatic 51, 3) := by decide +kernel
theorem dX6_setTies_16 : decode cX6_setTies 16 = .ok (.ifCond .eq 16, 3) := by decide +kernel
theorem dX6_setTies_19 : decode cX6_setTies 19 = .ok (.iload_n 3, 1) := by decide +kernel
theorem dX6_setTies_20 : decode cX6_setTies 20 = .ok (.iconst 0, 1) := by decide +kernel
theorem dX6_setTies_21 : decode cX6_setTies 21 = .ok (.iconst 5, 1) := by decide +kernel
theorem dX6_setTies_22 : decode cX6_setTies 22 = .ok (.invokestatic 51, 3) := by decide +kernel
theorem dX6_setTies_25 : decode cX6_setTies 25 = .ok (.ifCond .eq 7, 3) := by decide +kernel
theorem dX6_setTies_28 : decode cX6_setTies 28 = .ok (.iconst 0, 1) := by decide +kernel
theorem dX6_setTies_29 : decode cX6_setTies 29 = .ok (.goto 4, 3) := by decide +kernel
theorem dX6_setTies_32 : decode cX6_setTies 32 = .ok (.iconst 1, 1) := by decide +kernel
theorem dX6_setTies_33 : decode cX6_setTies 33 = .ok (.putfield 45, 3) := by decide +kernel
theorem dX6_setTies_36 : decode cX6_setTies 36 = .ok (.aload_n 0, 1) := by decide +kernel
theorem dX6_setTies_37 : decode cX6_setTies 37 = .ok (.getfield 45, 3) := by decide +kernel
theorem dX6_setTies_40 : decode cX6_setTies 40 = .ok (.ifCond .eq 5, 3) := by decide +kernel
theorem dX6_setTies_43 : decode cX6_setTies 43 = .ok (.iconst 0, 1) := by decide +kernel
theorem dX6_setTies_44 : decode cX6_setTies 44 = .ok (.ireturn, 1) := by decide +kernel
theorem dX6_setTies_45 : decode cX6_setTies 45 = .ok (.aload_n 0, 1) := by decide +kernel
theorem dX6_setTies_46 : decode cX6_setTies 46 = .ok (.invokevirtual 115, 3) := by decide +kernel
theorem dX6_setTies_49 : decode cX6_setTies 49 = .ok (.bipush 100, 2) := by decide +kernel
theorem dX6_setTies_51 : decode cX6_setTies 51 = .ok (.aload_n 0, 1) := by decide +kernel
theorem dX6_setTies_52 : decode cX6_setTies 52 = .ok (.getfield 7, 3) := by decide +kernel
theorem dX6_setTies_55 : decode cX6_setTies 55 = .ok (.iconst 1, 1) := by decide +kernel
theorem dX6_setTies_56 : decode cX6_setTies 56 = .ok (.iaload, 1) := by decide +kernel
theorem dX6_setTies_57 : decode cX6_setTies 57 = .ok (.imul, 1) := by decide +kernel
theorem dX6_setTies_58 : decode cX6_setTies 58 = .ok (.bipush 10, 2) := by decide +kernel
theorem dX6_setTies_60 : decode cX6_setTies 60 = .ok (.aload_n 0, 1) := by decide +kernel
theorem dX6_setTies_61 : decode cX6_setTies 61 = .ok (.getfield 7, 3) := by decide +kernel
theorem dX6_setTies_64 : decode cX6_setTies 64 = .ok (.iconst 2, 1) := by decide +kernel
theorem dX6_setTies_65 : decode cX6_setTies 65 = .ok (.iaload, 1) := by decide +kernel
theorem dX6_setTies_66 : decode cX6_setTies 66 = .ok (.imul, 1) := by decide +kernel
theorem dX6_setTies_67 : decode cX6_setTies 67 = .ok (.iadd, 1) := by decide +kernel
theorem dX6_setTies_68 : decode cX6_setTies 68 = .ok (.aload_n 0, 1) := by decide +kernel
theorem dX6_setTies_69 : decode cX6_setTies 69 = .ok (.getfield 7, 3) := by decide +kernel
theorem dX6_setTies_72 : decode cX6_setTies 72 = .ok (.iconst 3, 1) := by decide +kernel
theorem dX6_setTies_73 : decode cX6_setTies 73 = .ok (.iaload, 1) := by decide +kernel
theorem dX6_setTies_74 : decode cX6_setTies 74 = .ok (.iadd, 1) := by decide +kernel
theorem dX6_setTies_75 : decode cX6_setTies 75 = .ok (.istore 4, 2) := by decide +kernel
theorem dX6_setTies_77 : decode cX6_setTies 77 = .ok (.aload_n 0, 1) := by decide +kernel
theorem dX6_setTies_78 : decode cX6_setTies 78 = .ok (.getfield 7, 3) := by decide +kernel
theorem dX6_setTies_81 : decode cX6_setTies 81 = .ok (.iconst 1, 1) := by decide +kernel
theorem dX6_setTies_82 : decode cX6_setTies 82 = .ok (.iload_n 1, 1) := by decide +kernel
theorem dX6_setTies_83 : decode cX6_setTies 83 = .ok (.iastore, 1) := by decide +kernel
theorem dX6_setTies_84 : decode cX6_setTies 84 = .ok (.aload_n 0, 1) := by decide +kernel
theorem dX6_setTies_85 : decode cX6_setTies 85 = .ok (.getfield 7, 3) := by decide +kernel
theorem dX6_setTies_88 : decode cX6_setTies 88 = .ok (.iconst 2, 1) := by decide +kernel
theorem dX6_setTies_89 : decode cX6_setTies 89 = .ok (.iload_n 2, 1) := by decide +kernel
theorem dX6_setTies_90 : decode cX6_setTies 90 = .ok (.iastore, 1) := by decide +kernel
theorem dX6_setTies_91 : decode cX6_setTies 91 = .ok (.aload_n 0, 1) := by decide +kernel
theorem dX6_setTies_92 : decode cX6_setTies 92 = .ok (.getfield 7, 3) := by decide +kernel
theorem dX6_setTies_95 : decode cX6_setTies 95 = .ok (.iconst 3, 1) := by decide +kernel
theorem dX6_setTies_96 : decode cX6_setTies 96 = .ok (.iload_n 3, 1) := by decide +kernel
theorem dX6_setTies_97 : decode cX6_setTies 97 = .ok (.iastore, 1) := by decide +kernel
theorem dX6_setTies_98 : decode cX6_setTies 98 = .ok (.iload 4, 2) := by decide +kernel
theorem dX6_setTies_100 : decode cX6_setTies 100 = .ok (.ireturn, 1) := by decide +kernel
theorem dX6_specific_0 : decode cX6_specific 0 = .ok (.iload_n 1, 1) := by decide +kernel
theorem dX6_specific_1 : decode cX6_specific 1 = .ok (.iconst 3, 1) := by decide +kernel
theorem dX6_specific_2 : decode cX6_specific 2 = .ok (.irem, 1) := by decide +kernel
theorem dX6_specific_3 : decode cX6_specific 3 = .ok (.ifCond .ne 7, 3) := by decide +kernel
theorem dX6_specific_6 : decode cX6_specific 6 = .ok (.iconst 0, 1) := by decide +kernel
theorem dX6_specific_7 : decode cX6_specific 7 = .ok (.goto 15, 3) := by decide +kernel
theorem dX6_specific_10 : decode cX6_specific 10 = .ok (.iload_n 1, 1) := by decide +kernel
theorem dX6_specific_11 : decode cX6_specific 11 = .ok (.iconst 3, 1) := by decide +kernel
theorem dX6_specific_12 : decode cX6_specific 12 = .ok (.irem, 1) := by decide +kernel
theorem dX6_specific_13 : decode cX6_specific 13 = .ok (.iconst 1, 1) := by decide +kernel
theorem dX6_specific_14 : decode cX6_specific 14 = .ok (.if_icmp .ne 7, 3) := by decide +kernel
theorem dX6_specific_17 : decode cX6_specific 17 = .ok (.iconst 2, 1) := by decide +kernel
theorem dX6_specific_18 : decode cX6_specific 18 = .ok (.goto 4, 3) := by decide +kernel
theorem dX6_specific_21 : decode cX6_specific 21 = .ok (.iconst 5, 1) := by decide +kernel
theorem dX6_specific_22 : decode cX6_specific 22 = .ok (.istore 4, 2) := by decide +kernel
theorem dX6_specific_24 : decode cX6_specific 24 = .ok (.iconst 0, 1) := by decide +kernel
theorem dX6_specific_25 : decode cX6_specific 25 = .ok (.istore 5, 2) := by decide +kernel
theorem dX6_specific_27 : decode cX6_specific 27 = .ok (.iload 5, 2) := by decide +kernel
theorem dX6_specific_29 : decode cX6_specific 29 = .ok (.iconst 3, 1) := by decide +kernel
theorem dX6_specific_30 : decode cX6_specific 30 = .ok (.if_icmp .ge 43, 3) := by decide +kernel
theorem dX6_specific_33 : decode cX6_specific 33 = .ok (.aload_n 0, 1) := by decide +kernel
theorem dX6_specific_34 : decode cX6_specific 34 = .ok (.iload_n 1, 1) := by decide +kernel
theorem dX6_specific_35 : decode cX6_specific 35 = .ok (.iload_n 2, 1) := by decide +kernel
theorem dX6_specific_36 : decode cX6_specific 36 = .ok (.iload 5, 2) := by decide +kernel
theorem dX6_specific_38 : decode cX6_specific 38 = .ok (.invokevirtual 141, 3) := by decide +kernel
theorem dX6_specific_41 : decode cX6_specific 41 = .ok (.ifCond .eq 32, 3) := by decide +kernel
theorem dX6_specific_44 : decode cX6_specific 44 = .ok (.aload_n 0, 1) := by decide +kernel
theorem dX6_specific_45 : decode cX6_specific 45 = .ok (.iload_n 1, 1) := by decide +kernel
theorem dX6_specific_46 : decode cX6_specific 46 = .ok (.iload_n 2, 1) := by decide +kernel
theorem dX6_specific_47 : decode cX6_specific 47 = .ok (.iload 5, 2) := by decide +kernel
theorem dX6_specific_49 : decode cX6_specific 49 = .ok (.invokevirtual 141, 3) := by decide +kernel
theorem dX6_specific_52 : decode cX6_specific 52 = .ok (.aload_n 0, 1) := by decide +kernel
theorem dX6_specific_53 : decode cX6_specific 53 = .ok (.iload_n 3, 1) := by decide +kernel
theorem dX6_specific_54 : decode cX6_specific 54 = .ok (.iload 4, 2) := by decide +kernel
theorem dX6_specific_56 : decode cX6_specific 56 = .ok (.iload 5, 2) := by decide +kernel
theorem dX6_specific_58 : decode cX6_specific 58 = .ok (.iadd, 1) := by decide +kernel
theorem dX6_specific_59 : decode cX6_specific 59 = .ok (.invokevirtual 118, 3) := by decide +kernel
theorem dX6_specific_62 : decode cX6_specific 62 = .ok (.if_icmp .eq 5, 3) := by decide +kernel
theorem dX6_specific_65 : decode cX6_specific 65 = .ok (.iconst (-1), 1) := by decide +kernel
theorem dX6_specific_66 : decode cX6_specific 66 = .ok (.ireturn, 1) := by decide +kernel
theorem dX6_specific_67 : decode cX6_specific 67 = .ok (.iinc 5 1, 3) := by decide +kernel
theorem dX6_specific_70 : decode cX6_specific 70 = .ok (.goto (-43), 3) := by decide +kernel
theorem dX6_specific_73 : decode cX6_specific 73 = .ok (.iload 5, 2) := by decide +kernel
theorem dX6_specific_75 : decode cX6_specific 75 = .ok (.ireturn, 1) := by decide +kernel
theorem dX6_countingIn_0 : decode cX6_countingIn 0 = .ok (.iconst (-1), 1) := by decide +kernel
theorem dX6_countingIn_1 : decode cX6_countingIn 1 = .ok (.istore_n 3, 1) := by decide +kernel
theorem dX6_countingIn_2 : decode cX6_countingIn 2 = .ok (.iconst (-1), 1) := by decide +kernel
theorem dX6_countingIn_3 : decode cX6_countingIn 3 = .ok (.istore 4, 2) := by decide +kernel
theorem dX6_countingIn_5 : decode cX6_countingIn 5 = .ok (.iconst 0, 1) := by decide +kernel
theorem dX6_countingIn_6 : decode cX6_countingIn 6 = .ok (.istore 5, 2) := by decide +kernel
theorem dX6_countingIn_8 : decode cX6_countingIn 8 = .ok (.iload 5, 2) := by decide +kernel
theorem dX6_countingIn_10 : decode cX6_countingIn 10 = .ok (.aload_n 0, 1) := by decide +kernel
theorem dX6_countingIn_11 : decode cX6_countingIn 11 = .ok (.getfield 7, 3) := by decide +kernel
theorem dX6_countingIn_14 : decode cX6_countingIn 14 = .ok (.iconst 4, 1) := by decide +kernel
theorem dX6_countingIn_15 : decode cX6_countingIn 15 = .ok (.iload_n 1, 1) := by decide +kernel
theorem dX6_countingIn_16 : decode cX6_countingIn 16 = .ok (.iadd, 1) := by decide +kernel
theorem dX6_countingIn_17 : decode cX6_countingIn 17 = .ok (.iaload, 1) := by decide +kernel
theorem dX6_countingIn_18 : decode cX6_countingIn 18 = .ok (.if_icmp .ge 49, 3) := by decide +kernel
theorem dX6_countingIn_21 : decode cX6_countingIn 21 = .ok (.aload_n 0, 1) := by decide +kernel
theorem dX6_countingIn_22 : decode cX6_countingIn 22 = .ok (.iload_n 1, 1) := by decide +kernel
theorem dX6_countingIn_23 : decode cX6_countingIn 23 = .ok (.iload 5, 2) := by decide +kernel
theorem dX6_countingIn_25 : decode cX6_countingIn 25 = .ok (.iload_n 2, 1) := by decide +kernel
theorem dX6_countingIn_26 : decode cX6_countingIn 26 = .ok (.invokevirtual 145, 3) := by decide +kernel
theorem dX6_countingIn_29 : decode cX6_countingIn 29 = .ok (.istore 6, 2) := by decide +kernel
theorem dX6_countingIn_31 : decode cX6_countingIn 31 = .ok (.iload 6, 2) := by decide +kernel
theorem dX6_countingIn_33 : decode cX6_countingIn 33 = .ok (.iload 4, 2) := by decide +kernel
theorem dX6_countingIn_35 : decode cX6_countingIn 35 = .ok (.if_icmp .le 8, 3) := by decide +kernel
theorem dX6_countingIn_38 : decode cX6_countingIn 38 = .ok (.iload 5, 2) := by decide +kernel
theorem dX6_countingIn_40 : decode cX6_countingIn 40 = .ok (.goto 4, 3) := by decide +kernel
theorem dX6_countingIn_43 : decode cX6_countingIn 43 = .ok (.iload_n 3, 1) := by decide +kernel
theorem dX6_countingIn_44 : decode cX6_countingIn 44 = .ok (.istore_n 3, 1) := by decide +kernel
theorem dX6_countingIn_45 : decode cX6_countingIn 45 = .ok (.iload 6, 2) := by decide +kernel
theorem dX6_countingIn_47 : decode cX6_countingIn 47 = .ok (.iload 4, 2) := by decide +kernel
theorem dX6_countingIn_49 : decode cX6_countingIn 49 = .ok (.if_icmp .le 8, 3) := by decide +kernel
theorem dX6_countingIn_52 : decode cX6_countingIn 52 = .ok (.iload 6, 2) := by decide +kernel
theorem dX6_countingIn_54 : decode cX6_countingIn 54 = .ok (.goto 5, 3) := by decide +kernel
theorem dX6_countingIn_57 : decode cX6_countingIn 57 = .ok (.iload 4, 2) := by decide +kernel
theorem dX6_countingIn_59 : decode cX6_countingIn 59 = .ok (.istore 4, 2) := by decide +kernel
theorem dX6_countingIn_61 : decode cX6_countingIn 61 = .ok (.iinc 5 1, 3) := by decide +kernel
theorem dX6_countingIn_64 : decode cX6_countingIn 64 = .ok (.goto (-56), 3) := by decide +kernel
theorem dX6_countingIn_67 : decode cX6_countingIn 67 = .ok (.iload_n 3, 1) := by decide +kernel
theorem dX6_countingIn_68 : decode cX6_countingIn 68 = .ok (.ireturn, 1) := by decide +kernel
theorem dX6_entryFor_0 : decode cX6_entryFor 0 = .ok (.iload_n 1, 1) := by decide +kernel
theorem dX6_entryFor_1 : decode cX6_entryFor 1 = .ok (.iconst 3, 1) := by decide +kernel
theorem dX6_entryFor_2 : decode cX6_entryFor 2 = .ok (.idiv, 1) := by decide +kernel
theorem dX6_entryFor_3 : decode cX6_entryFor 3 = .ok (.aload_n 0, 1) := by decide +kernel
theorem dX6_entryFor_4 : decode cX6_entryFor 4 = .ok (.getfield 35, 3) := by decide +kernel
theorem dX6_entryFor_7 : decode cX6_entryFor 7 = .ok (.if_icmp .ne 7, 3) := by decide +kernel
theorem dX6_entryFor_10 : decode cX6_entryFor 10 = .ok (.iconst (-1), 1) := by decide +kernel
theorem dX6_entryFor_11 : decode cX6_entryFor 11 = .ok (.goto 14, 3) := by decide +kernel
theorem dX6_entryFor_14 : decode cX6_entryFor 14 = .ok (.aload_n 0, 1) := by decide +kernel
theorem dX6_entryFor_15 : decode cX6_entryFor 15 = .ok (.getfield 22, 3) := by decide +kernel
theorem dX6_entryFor_18 : decode cX6_entryFor 18 = .ok (.bipush 16, 2) := by decide +kernel
theorem dX6_entryFor_20 : decode cX6_entryFor 20 = .ok (.iload_n 1, 1) := by decide +kernel
theorem dX6_entryFor_21 : decode cX6_entryFor 21 = .ok (.imul, 1) := by decide +kernel
theorem dX6_entryFor_22 : decode cX6_entryFor 22 = .ok (.iload_n 2, 1) := by decide +kernel
theorem dX6_entryFor_23 : decode cX6_entryFor 23 = .ok (.iadd, 1) := by decide +kernel
theorem dX6_entryFor_24 : decode cX6_entryFor 24 = .ok (.iaload, 1) := by decide +kernel
theorem dX6_entryFor_25 : decode cX6_entryFor 25 = .ok (.ireturn, 1) := by decide +kernel
theorem dX6_weightIn_0 : decode cX6_weightIn 0 = .ok (.aload_n 0, 1) := by decide +kernel
theorem dX6_weightIn_1 : decode cX6_weightIn 1 = .ok (.iload_n 1, 1) := by decide +kernel
theorem dX6_weightIn_2 : decode cX6_weightIn 2 = .ok (.iload_n 2, 1) := by decide +kernel
theorem dX6_weightIn_3 : decode cX6_weightIn 3 = .ok (.invokevirtual 148, 3) := by decide +kernel
theorem dX6_weightIn_6 : decode cX6_weightIn 6 = .ok (.istore_n 3, 1) := by decide +kernel
theorem dX6_weightIn_7 : decode cX6_weightIn 7 = .ok (.iload_n 3, 1) := by decide +kernel
theorem dX6_weightIn_8 : decode cX6_weightIn 8 = .ok (.iconst (-1), 1) := by decide +kernel
theorem dX6_weightIn_9 : decode cX6_weightIn 9 = .ok (.if_icmp .eq 11, 3) := by decide +kernel
theorem dX6_weightIn_12 : decode cX6_weightIn 12 = .ok (.aload_n 0, 1) := by decide +kernel
theorem dX6_weightIn_13 : decode cX6_weightIn 13 = .ok (.iload_n 1, 1) := by decide +kernel
theorem dX6_weightIn_14 : decode cX6_weightIn 14 = .ok (.iload_n 3, 1) := by decide +kernel
theorem dX6_weightIn_15 : decode cX6_weightIn 15 = .ok (.iconst 3, 1) := by decide +kernel
theorem dX6_weightIn_16 : decode cX6_weightIn 16 = .ok (.invokevirtual 141, 3) := by decide +kernel
theorem dX6_weightIn_19 : decode cX6_weightIn 19 = .ok (.ireturn, 1) := by decide +kernel
theorem dX6_weightIn_20 : decode cX6_weightIn 20 = .ok (.iload_n 1, 1) := by decide +kernel
theorem dX6_weightIn_21 : decode cX6_weightIn 21 = .ok (.iconst 3, 1) := by decide +kernel
theorem dX6_weightIn_22 : decode cX6_weightIn 22 = .ok (.idiv, 1) := by decide +kernel
theorem dX6_weightIn_23 : decode cX6_weightIn 23 = .ok (.aload_n 0, 1) := by decide +kernel
theorem dX6_weightIn_24 : decode cX6_weightIn 24 = .ok (.getfield 35, 3) := by decide +kernel
theorem dX6_weightIn_27 : decode cX6_weightIn 27 = .ok (.if_icmp .eq 14, 3) := by decide +kernel
theorem dX6_weightIn_30 : decode cX6_weightIn 30 = .ok (.aload_n 0, 1) := by decide +kernel
theorem dX6_weightIn_31 : decode cX6_weightIn 31 = .ok (.getfield 7, 3) := by decide +kernel
theorem dX6_weightIn_34 : decode cX6_weightIn 34 = .ok (.iconst 4, 1) := by decide +kernel
theorem dX6_weightIn_35 : decode cX6_weightIn 35 = .ok (.iload_n 1, 1) := by decide +kernel
theorem dX6_weightIn_36 : decode cX6_weightIn 36 = .ok (.iadd, 1) := by decide +kernel
theorem dX6_weightIn_37 : decode cX6_weightIn 37 = .ok (.iaload, 1) := by decide +kernel
theorem dX6_weightIn_38 : decode cX6_weightIn 38 = .ok (.ifCond .ne 7, 3) := by decide +kernel
theorem dX6_weightIn_41 : decode cX6_weightIn 41 = .ok (.iconst 1, 1) := by decide +kernel
theorem dX6_weightIn_42 : decode cX6_weightIn 42 = .ok (.goto 4, 3) := by decide +kernel
theorem dX6_weightIn_45 : decode cX6_weightIn 45 = .ok (.iconst 0, 1) := by decide +kernel
theorem dX6_weightIn_46 : decode cX6_weightIn 46 = .ok (.istore 4, 2) := by decide +kernel
theorem dX6_weightIn_48 : decode cX6_weightIn 48 = .ok (.iload 4, 2) := by decide +kernel
theorem dX6_weightIn_50 : decode cX6_weightIn 50 = .ok (.ifCond .ne 21, 3) := by decide +kernel
theorem dX6_weightIn_53 : decode cX6_weightIn 53 = .ok (.iload_n 1, 1) := by decide +kernel
theorem dX6_weightIn_54 : decode cX6_weightIn 54 = .ok (.iconst 3, 1) := by decide +kernel
theorem dX6_weightIn_55 : decode cX6_weightIn 55 = .ok (.irem, 1) := by decide +kernel
theorem dX6_weightIn_56 : decode cX6_weightIn 56 = .ok (.iconst 2, 1) := by decide +kernel
theorem dX6_weightIn_57 : decode cX6_weightIn 57 = .ok (.if_icmp .ne 20, 3) := by decide +kernel
theorem dX6_weightIn_60 : decode cX6_weightIn 60 = .ok (.aload_n 0, 1) := by decide +kernel
theorem dX6_weightIn_61 : decode cX6_weightIn 61 = .ok (.iload_n 2, 1) := by decide +kernel
theorem dX6_weightIn_62 : decode cX6_weightIn 62 = .ok (.iconst 5, 1) := by decide +kernel
theorem dX6_weightIn_63 : decode cX6_weightIn 63 = .ok (.invokevirtual 118, 3) := by decide +kernel
theorem dX6_weightIn_66 : decode cX6_weightIn 66 = .ok (.ldc 151, 2) := by decide +kernel
theorem dX6_weightIn_68 : decode cX6_weightIn 68 = .ok (.if_icmp .ne 9, 3) := by decide +kernel
theorem dX6_weightIn_71 : decode cX6_weightIn 71 = .ok (.sipush 1000, 3) := by decide +kernel
theorem dX6_weightIn_74 : decode cX6_weightIn 74 = .ok (.goto 4, 3) := by decide +kernel
theorem dX6_weightIn_77 : decode cX6_weightIn 77 = .ok (.iconst 0, 1) := by decide +kernel
theorem dX6_weightIn_78 : decode cX6_weightIn 78 = .ok (.ireturn, 1) := by decide +kernel
theorem dX6_count_0 : decode cX6_count 0 = .ok (.iconst 0, 1) := by decide +kernel
theorem dX6_count_1 : decode cX6_count 1 = .ok (.istore_n 1, 1) := by decide +kernel
theorem dX6_count_2 : decode cX6_count 2 = .ok (.iload_n 1, 1) := by decide +kernel
theorem dX6_count_3 : decode cX6_count 3 = .ok (.bipush 6, 2) := by decide +kernel
theorem dX6_count_5 : decode cX6_count 5 = .ok (.if_icmp .ge 44, 3) := by decide +kernel
theorem dX6_count_8 : decode cX6_count 8 = .ok (.iconst 0, 1) := by decide +kernel
theorem dX6_count_9 : decode cX6_count 9 = .ok (.istore_n 2, 1) := by decide +kernel
theorem dX6_count_10 : decode cX6_count 10 = .ok (.iload_n 2, 1) := by decide +kernel
theorem dX6_count_11 : decode cX6_count 11 = .ok (.aload_n 0, 1) := by decide +kernel
theorem dX6_count_12 : decode cX6_count 12 = .ok (.getfield 7, 3) := by decide +kernel
theorem dX6_count_15 : decode cX6_count 15 = .ok (.iconst 0, 1) := by decide +kernel
theorem dX6_count_16 : decode cX6_count 16 = .ok (.iaload, 1) := by decide +kernel
theorem dX6_count_17 : decode cX6_count 17 = .ok (.if_icmp .ge 26, 3) := by decide +kernel
theorem dX6_count_20 : decode cX6_count 20 = .ok (.aload_n 0, 1) := by decide +kernel
theorem dX6_count_21 : decode cX6_count 21 = .ok (.getfield 22, 3) := by decide +kernel
theorem dX6_count_24 : decode cX6_count 24 = .ok (.bipush 16, 2) := by decide +kernel
theorem dX6_count_26 : decode cX6_count 26 = .ok (.iload_n 1, 1) := by decide +kernel
theorem dX6_count_27 : decode cX6_count 27 = .ok (.imul, 1) := by decide +kernel
theorem dX6_count_28 : decode cX6_count 28 = .ok (.iload_n 2, 1) := by decide +kernel
theorem dX6_count_29 : decode cX6_count 29 = .ok (.iadd, 1) := by decide +kernel
theorem dX6_count_30 : decode cX6_count 30 = .ok (.aload_n 0, 1) := by decide +kernel
theorem dX6_count_31 : decode cX6_count 31 = .ok (.iload_n 1, 1) := by decide +kernel
theorem dX6_count_32 : decode cX6_count 32 = .ok (.iload_n 2, 1) := by decide +kernel
theorem dX6_count_33 : decode cX6_count 33 = .ok (.invokevirtual 152, 3) := by decide +kernel
theorem dX6_count_36 : decode cX6_count 36 = .ok (.iastore, 1) := by decide +kernel
theorem dX6_count_37 : decode cX6_count 37 = .ok (.iinc 2 1, 3) := by decide +kernel
theorem dX6_count_40 : decode cX6_count 40 = .ok (.goto (-30), 3) := by decide +kernel
theorem dX6_count_43 : decode cX6_count 43 = .ok (.iinc 1 1, 3) := by decide +kernel
theorem dX6_count_46 : decode cX6_count 46 = .ok (.goto (-44), 3) := by decide +kernel
theorem dX6_count_49 : decode cX6_count 49 = .ok (.return_, 1) := by decide +kernel
theorem dX6_score_0 : decode cX6_score 0 = .ok (.aload_n 0, 1) := by decide +kernel
theorem dX6_score_1 : decode cX6_score 1 = .ok (.iload_n 1, 1) := by decide +kernel
theorem dX6_score_2 : decode cX6_score 2 = .ok (.bipush 7, 2) := by decide +kernel
theorem dX6_score_4 : decode cX6_score 4 = .ok (.invokevirtual 118, 3) := by decide +kernel
theorem dX6_score_7 : decode cX6_score 7 = .ok (.istore_n 2, 1) := by decide +kernel
theorem dX6_score_8 : decode cX6_score 8 = .ok (.iconst 0, 1) := by decide +kernel
theorem dX6_score_9 : decode cX6_score 9 = .ok (.istore_n 3, 1) := by decide +kernel
theorem dX6_score_10 : decode cX6_score 10 = .ok (.iload_n 3, 1) := by decide +kernel
theorem dX6_score_11 : decode cX6_score 11 = .ok (.bipush 6, 2) := by decide +kernel
theorem dX6_score_13 : decode cX6_score 13 = .ok (.if_icmp .ge 22, 3) := by decide +kernel
theorem dX6_score_16 : decode cX6_score 16 = .ok (.iload_n 2, 1) := by decide +kernel
theorem dX6_score_17 : decode cX6_score 17 = .ok (.aload_n 0, 1) := by decide +kernel
theorem dX6_score_18 : decode cX6_score 18 = .ok (.iload_n 3, 1) := by decide +kernel
theorem dX6_score_19 : decode cX6_score 19 = .ok (.iload_n 1, 1) := by decide +kernel
theorem dX6_score_20 : decode cX6_score 20 = .ok (.invokevirtual 155, 3) := by decide +kernel
theorem dX6_score_23 : decode cX6_score 23 = .ok (.imul, 1) := by decide +kernel
theorem dX6_score_24 : decode cX6_score 24 = .ok (.sipush 1000, 3) := by decide +kernel
theorem dX6_score_27 : decode cX6_score 27 = .ok (.idiv, 1) := by decide +kernel
theorem dX6_score_28 : decode cX6_score 28 = .ok (.istore_n 2, 1) := by decide +kernel
theorem dX6_score_29 : decode cX6_score 29 = .ok (.iinc 3 1, 3) := by decide +kernel
theorem dX6_score_32 : decode cX6_score 32 = .ok (.goto (-22), 3) := by decide +kernel
theorem dX6_score_35 : decode cX6_score 35 = .ok (.iload_n 2, 1) := by decide +kernel
theorem dX6_score_36 : decode cX6_score 36 = .ok (.ireturn, 1) := by decide +kernel
theorem dX6_placeFor_0 : decode cX6_placeFor 0 = .ok (.aload_n 0, 1) := by decide +kernel
theorem dX6_placeFor_1 : decode cX6_placeFor 1 = .ok (.iload_n 1, 1) := by decide +kernel
theorem dX6_placeFor_2 : decode cX6_placeFor 2 = .ok (.iload_n 2, 1) := by decide +kernel
theorem dX6_placeFor_3 : decode cX6_placeFor 3 = .ok (.invokevirtual 148, 3) := by decide +kernel
theorem dX6_placeFor_6 : decode cX6_placeFor 6 = .ok (.istore_n 3, 1) := by decide +kernel
theorem dX6_placeFor_7 : decode cX6_placeFor 7 = .ok (.iload_n 3, 1) := by decide +kernel
theorem dX6_placeFor_8 : decode cX6_placeFor 8 = .ok (.iconst (-1), 1) := by decide +kernel
theorem dX6_placeFor_9 : decode cX6_placeFor 9 = .ok (.if_icmp .ne 8, 3) := by decide +kernel
theorem dX6_placeFor_12 : decode cX6_placeFor 12 = .ok (.bipush 100, 2) := by decide +kernel
theorem dX6_placeFor_14 : decode cX6_placeFor 14 = .ok (.goto 4, 3) := by decide +kernel
theorem dX6_placeFor_17 : decode cX6_placeFor 17 = .ok (.iload_n 3, 1) := by decide +kernel
theorem dX6_placeFor_18 : decode cX6_placeFor 18 = .ok (.ireturn, 1) := by decide +kernel
theorem dX6_ruled_0 : decode cX6_ruled 0 = .ok (.iload_n 1, 1) := by decide +kernel
theorem dX6_ruled_1 : decode cX6_ruled 1 = .ok (.tableswitch 75 1 5 #[35, 43, 52, 59, 66], 35) := by decide +kernel
theorem dX6_ruled_36 : decode cX6_ruled 36 = .ok (.aload_n 0, 1) := by decide +kernel
theorem dX6_ruled_37 : decode cX6_ruled 37 = .ok (.iload_n 2, 1) := by decide +kernel
theorem dX6_ruled_38 : decode cX6_ruled 38 = .ok (.bipush 6, 2) := by decide +kernel
theorem dX6_ruled_40 : decode cX6_ruled 40 = .ok (.invokevirtual 118, 3) := by decide +kernel
theorem dX6_ruled_43 : decode cX6_ruled 43 = .ok (.ireturn, 1) := by decide +kernel
theorem dX6_ruled_44 : decode cX6_ruled 44 = .ok (.aload_n 0, 1) := by decide +kernel
theorem dX6_ruled_45 : decode cX6_ruled 45 = .ok (.iload_n 2, 1) := by decide +kernel
theorem dX6_ruled_46 : decode cX6_ruled 46 = .ok (.bipush 6, 2) := by decide +kernel
theorem dX6_ruled_48 : decode cX6_ruled 48 = .ok (.invokevirtual 118, 3) := by decide +kernel
theorem dX6_ruled_51 : decode cX6_ruled 51 = .ok (.ineg, 1) := by decide +kernel
theorem dX6_ruled_52 : decode cX6_ruled 52 = .ok (.ireturn, 1) := by decide +kernel
theorem dX6_ruled_53 : decode cX6_ruled 53 = .ok (.aload_n 0, 1) := by decide +kernel
theorem dX6_ruled_54 : decode cX6_ruled 54 = .ok (.iconst 0, 1) := by decide +kernel
theorem dX6_ruled_55 : decode cX6_ruled 55 = .ok (.iload_n 2, 1) := by decide +kernel
theorem dX6_ruled_56 : decode cX6_ruled 56 = .ok (.invokevirtual 158, 3) := by decide +kernel
theorem dX6_ruled_59 : decode cX6_ruled 59 = .ok (.ireturn, 1) := by decide +kernel
theorem dX6_ruled_60 : decode cX6_ruled 60 = .ok (.aload_n 0, 1) := by decide +kernel
theorem dX6_ruled_61 : decode cX6_ruled 61 = .ok (.iconst 1, 1) := by decide +kernel
theorem dX6_ruled_62 : decode cX6_ruled 62 = .ok (.iload_n 2, 1) := by decide +kernel
theorem dX6_ruled_63 : decode cX6_ruled 63 = .ok (.invokevirtual 158, 3) := by decide +kernel
theorem dX6_ruled_66 : decode cX6_ruled 66 = .ok (.ireturn, 1) := by decide +kernel
theorem dX6_ruled_67 : decode cX6_ruled 67 = .ok (.aload_n 0, 1) := by decide +kernel
theorem dX6_ruled_68 : decode cX6_ruled 68 = .ok (.iload_n 2, 1) := by decide +kernel
theorem dX6_ruled_69 : decode cX6_ruled 69 = .ok (.bipush 7, 2) := by decide +kernel
theorem dX6_ruled_71 : decode cX6_ruled 71 = .ok (.invokevirtual 118, 3) := by decide +kernel
theorem dX6_ruled_74 : decode cX6_ruled 74 = .ok (.ineg, 1) := by decide +kernel
theorem dX6_ruled_75 : decode cX6_ruled 75 = .ok (.ireturn, 1) := by decide +kernel
theorem dX6_ruled_76 : decode cX6_ruled 76 = .ok (.iconst 0, 1) := by decide +kernel
theorem dX6_ruled_77 : decode cX6_ruled 77 = .ok (.ireturn, 1) := by decide +kernel
theorem dX6_isAhead_0 : decode cX6_isAhead 0 = .ok (.aload_n 0, 1) := by decide +kernel
theorem dX6_isAhead_1 : decode cX6_isAhead 1 = .ok (.getfield 25, 3) := by decide +kernel
theorem dX6_isAhead_4 : decode cX6_isAhead 4 = .ok (.iload_n 2, 1) := by decide +kernel
theorem dX6_isAhead_5 : decode cX6_isAhead 5 = .ok (.iaload, 1) := by decide +kernel
theorem dX6_isAhead_6 : decode cX6_isAhead 6 = .ok (.aload_n 0, 1) := by decide +kernel
theorem dX6_isAhead_7 : decode cX6_isAhead 7 = .ok (.getfield 25, 3) := by decide +kernel
theorem dX6_isAhead_10 : decode cX6_isAhead 10 = .ok (.iload_n 1, 1) := by decide +kernel
theorem dX6_isAhead_11 : decode cX6_isAhead 11 = .ok (.iaload, 1) := by decide +kernel
theorem dX6_isAhead_12 : decode cX6_isAhead 12 = .ok (.isub, 1) := by decide +kernel
theorem dX6_isAhead_13 : decode cX6_isAhead 13 = .ok (.istore_n 3, 1) := by decide +kernel
theorem dX6_isAhead_14 : decode cX6_isAhead 14 = .ok (.iconst 0, 1) := by decide +kernel
theorem dX6_isAhead_15 : decode cX6_isAhead 15 = .ok (.istore 4, 2) := by decide +kernel
theorem dX6_isAhead_17 : decode cX6_isAhead 17 = .ok (.iload 4, 2) := by decide +kernel
theorem dX6_isAhead_19 : decode cX6_isAhead 19 = .ok (.iconst 3, 1) := by decide +kernel
theorem dX6_isAhead_20 : decode cX6_isAhead 20 = .ok (.if_icmp .ge 43, 3) := by decide +kernel
theorem dX6_isAhead_23 : decode cX6_isAhead 23 = .ok (.iload_n 3, 1) := by decide +kernel
theorem dX6_isAhead_24 : decode cX6_isAhead 24 = .ok (.ifCond .ne 39, 3) := by decide +kernel
theorem dX6_isAhead_27 : decode cX6_isAhead 27 = .ok (.aload_n 0, 1) := by decide +kernel
theorem dX6_isAhead_28 : decode cX6_isAhead 28 = .ok (.aload_n 0, 1) := by decide +kernel
theorem dX6_isAhead_29 : decode cX6_isAhead 29 = .ok (.getfield 7, 3) := by decide +kernel
theorem dX6_isAhead_32 : decode cX6_isAhead 32 = .ok (.iconst 1, 1) := by decide +kernel
theorem dX6_isAhead_33 : decode cX6_isAhead 33 = .ok (.iload 4, 2) := by decide +kernel
theorem dX6_isAhead_35 : decode cX6_isAhead 35 = .ok (.iadd, 1) := by decide +kernel
theorem dX6_isAhead_36 : decode cX6_isAhead 36 = .ok (.iaload, 1) := by decide +kernel
theorem dX6_isAhead_37 : decode cX6_isAhead 37 = .ok (.iload_n 1, 1) := by decide +kernel
theorem dX6_isAhead_38 : decode cX6_isAhead 38 = .ok (.invokevirtual 161, 3) := by decide +kernel
theorem dX6_isAhead_41 : decode cX6_isAhead 41 = .ok (.aload_n 0, 1) := by decide +kernel
theorem dX6_isAhead_42 : decode cX6_isAhead 42 = .ok (.aload_n 0, 1) := by decide +kernel
theorem dX6_isAhead_43 : decode cX6_isAhead 43 = .ok (.getfield 7, 3) := by decide +kernel
theorem dX6_isAhead_46 : decode cX6_isAhead 46 = .ok (.iconst 1, 1) := by decide +kernel
theorem dX6_isAhead_47 : decode cX6_isAhead 47 = .ok (.iload 4, 2) := by decide +kernel
theorem dX6_isAhead_49 : decode cX6_isAhead 49 = .ok (.iadd, 1) := by decide +kernel
theorem dX6_isAhead_50 : decode cX6_isAhead 50 = .ok (.iaload, 1) := by decide +kernel
theorem dX6_isAhead_51 : decode cX6_isAhead 51 = .ok (.iload_n 2, 1) := by decide +kernel
theorem dX6_isAhead_52 : decode cX6_isAhead 52 = .ok (.invokevirtual 161, 3) := by decide +kernel
theorem dX6_isAhead_55 : decode cX6_isAhead 55 = .ok (.isub, 1) := by decide +kernel
theorem dX6_isAhead_56 : decode cX6_isAhead 56 = .ok (.istore_n 3, 1) := by decide +kernel
theorem dX6_isAhead_57 : decode cX6_isAhead 57 = .ok (.iinc 4 1, 3) := by decide +kernel
theorem dX6_isAhead_60 : decode cX6_isAhead 60 = .ok (.goto (-43), 3) := by decide +kernel
theorem dX6_isAhead_63 : decode cX6_isAhead 63 = .ok (.iload_n 3, 1) := by decide +kernel
theorem dX6_isAhead_64 : decode cX6_isAhead 64 = .ok (.ifCond .eq 15, 3) := by decide +kernel
theorem dX6_isAhead_67 : decode cX6_isAhead 67 = .ok (.iload_n 3, 1) := by decide +kernel
theorem dX6_isAhead_68 : decode cX6_isAhead 68 = .ok (.ifCond .ge 7, 3) := by decide +kernel
theorem dX6_isAhead_71 : decode cX6_isAhead 71 = .ok (.iconst 1, 1) := by decide +kernel
theorem dX6_isAhead_72 : decode cX6_isAhead 72 = .ok (.goto 17, 3) := by decide +kernel
theorem dX6_isAhead_75 : decode cX6_isAhead 75 = .ok (.iconst 0, 1) := by decide +kernel
theorem dX6_isAhead_76 : decode cX6_isAhead 76 = .ok (.goto 13, 3) := by decide +kernel
theorem dX6_isAhead_79 : decode cX6_isAhead 79 = .ok (.iload_n 1, 1) := by decide +kernel
theorem dX6_isAhead_80 : decode cX6_isAhead 80 = .ok (.iload_n 2, 1) := by decide +kernel
theorem dX6_isAhead_81 : decode cX6_isAhead 81 = .ok (.if_icmp .ge 7, 3) := by decide +kernel
theorem dX6_isAhead_84 : decode cX6_isAhead 84 = .ok (.iconst 1, 1) := by decide +kernel
theorem dX6_isAhead_85 : decode cX6_isAhead 85 = .ok (.goto 4, 3) := by decide +kernel
theorem dX6_isAhead_88 : decode cX6_isAhead 88 = .ok (.iconst 0, 1) := by decide +kernel
theorem dX6_isAhead_89 : decode cX6_isAhead 89 = .ok (.ireturn, 1) := by decide +kernel
theorem dX6_rank_0 : decode cX6_rank 0 = .ok (.aload_n 0, 1) := by decide +kernel
theorem dX6_rank_1 : decode cX6_rank 1 = .ok (.iconst 0, 1) := by decide +kernel
theorem dX6_rank_2 : decode cX6_rank 2 = .ok (.putfield 164, 3) := by decide +kernel
theorem dX6_rank_5 : decode cX6_rank 5 = .ok (.iconst 0, 1) := by decide +kernel
theorem dX6_rank_6 : decode cX6_rank 6 = .ok (.istore_n 2, 1) := by decide +kernel
theorem dX6_rank_7 : decode cX6_rank 7 = .ok (.iload_n 2, 1) := by decide +kernel
theorem dX6_rank_8 : decode cX6_rank 8 = .ok (.aload_n 0, 1) := by decide +kernel
theorem dX6_rank_9 : decode cX6_rank 9 = .ok (.getfield 7, 3) := by decide +kernel
theorem dX6_rank_12 : decode cX6_rank 12 = .ok (.iconst 0, 1) := by decide +kernel
theorem dX6_rank_13 : decode cX6_rank 13 = .ok (.iaload, 1) := by decide +kernel
theorem dX6_rank_14 : decode cX6_rank 14 = .ok (.if_icmp .ge 125, 3) := by decide +kernel
theorem dX6_rank_17 : decode cX6_rank 17 = .ok (.aload_n 0, 1) := by decide +kernel
theorem dX6_rank_18 : decode cX6_rank 18 = .ok (.getfield 25, 3) := by decide +kernel
theorem dX6_rank_21 : decode cX6_rank 21 = .ok (.iload_n 2, 1) := by decide +kernel
theorem dX6_rank_22 : decode cX6_rank 22 = .ok (.aload_n 0, 1) := by decide +kernel
theorem dX6_rank_23 : decode cX6_rank 23 = .ok (.iload_n 2, 1) := by decide +kernel
theorem dX6_rank_24 : decode cX6_rank 24 = .ok (.invokevirtual 167, 3) := by decide +kernel
theorem dX6_rank_27 : decode cX6_rank 27 = .ok (.iastore, 1) := by decide +kernel
theorem dX6_rank_28 : decode cX6_rank 28 = .ok (.aload_n 0, 1) := by decide +kernel
theorem dX6_rank_29 : decode cX6_rank 29 = .ok (.getfield 28, 3) := by decide +kernel
theorem dX6_rank_32 : decode cX6_rank 32 = .ok (.iload_n 2, 1) := by decide +kernel
theorem dX6_rank_33 : decode cX6_rank 33 = .ok (.aload_n 0, 1) := by decide +kernel
theorem dX6_rank_34 : decode cX6_rank 34 = .ok (.getfield 25, 3) := by decide +kernel
theorem dX6_rank_37 : decode cX6_rank 37 = .ok (.iload_n 2, 1) := by decide +kernel
theorem dX6_rank_38 : decode cX6_rank 38 = .ok (.iaload, 1) := by decide +kernel
theorem dX6_rank_39 : decode cX6_rank 39 = .ok (.ifCond .le 12, 3) := by decide +kernel
theorem dX6_rank_42 : decode cX6_rank 42 = .ok (.iload_n 2, 1) := by decide +kernel
theorem dX6_rank_43 : decode cX6_rank 43 = .ok (.iload_n 1, 1) := by decide +kernel
theorem dX6_rank_44 : decode cX6_rank 44 = .ok (.if_icmp .eq 7, 3) := by decide +kernel
theorem dX6_rank_47 : decode cX6_rank 47 = .ok (.iconst 1, 1) := by decide +kernel
theorem dX6_rank_48 : decode cX6_rank 48 = .ok (.goto 4, 3) := by decide +kernel
theorem dX6_rank_51 : decode cX6_rank 51 = .ok (.iconst 0, 1) := by decide +kernel
theorem dX6_rank_52 : decode cX6_rank 52 = .ok (.bastore, 1) := by decide +kernel
theorem dX6_rank_53 : decode cX6_rank 53 = .ok (.aload_n 0, 1) := by decide +kernel
theorem dX6_rank_54 : decode cX6_rank 54 = .ok (.getfield 164, 3) := by decide +kernel
theorem dX6_rank_57 : decode cX6_rank 57 = .ok (.istore_n 3, 1) := by decide +kernel
theorem dX6_rank_58 : decode cX6_rank 58 = .ok (.aload_n 0, 1) := by decide +kernel
theorem dX6_rank_59 : decode cX6_rank 59 = .ok (.getfield 28, 3) := by decide +kernel
theorem dX6_rank_62 : decode cX6_rank 62 = .ok (.iload_n 2, 1) := by decide +kernel
theorem dX6_rank_63 : decode cX6_rank 63 = .ok (.baload, 1) := by decide +kernel
theorem dX6_rank_64 : decode cX6_rank 64 = .ok (.ifCond .eq 43, 3) := by decide +kernel
theorem dX6_rank_67 : decode cX6_rank 67 = .ok (.iload_n 3, 1) := by decide +kernel
theorem dX6_rank_68 : decode cX6_rank 68 = .ok (.ifCond .le 39, 3) := by decide +kernel
theorem dX6_rank_71 : decode cX6_rank 71 = .ok (.aload_n 0, 1) := by decide +kernel
theorem dX6_rank_72 : decode cX6_rank 72 = .ok (.iload_n 2, 1) := by decide +kernel
theorem dX6_rank_73 : decode cX6_rank 73 = .ok (.aload_n 0, 1) := by decide +kernel
theorem dX6_rank_74 : decode cX6_rank 74 = .ok (.getfield 32, 3) := by decide +kernel
theorem dX6_rank_77 : decode cX6_rank 77 = .ok (.iload_n 3, 1) := by decide +kernel
theorem dX6_rank_78 : decode cX6_rank 78 = .ok (.iconst 1, 1) := by decide +kernel
theorem dX6_rank_79 : decode cX6_rank 79 = .ok (.isub, 1) := by decide +kernel
theorem dX6_rank_80 : decode cX6_rank 80 = .ok (.iaload, 1) := by decide +kernel
theorem dX6_rank_81 : decode cX6_rank 81 = .ok (.invokevirtual 170, 3) := by decide +kernel
theorem dX6_rank_84 : decode cX6_rank 84 = .ok (.ifCond .eq 23, 3) := by decide +kernel
theorem dX6_rank_87 : decode cX6_rank 87 = .ok (.aload_n 0, 1) := by decide +kernel
theorem dX6_rank_88 : decode cX6_rank 88 = .ok (.getfield 32, 3) := by decide +kernel
theorem dX6_rank_91 : decode cX6_rank 91 = .ok (.iload_n 3, 1) := by decide +kernel
theorem dX6_rank_92 : decode cX6_rank 92 = .ok (.aload_n 0, 1) := by decide +kernel
theorem dX6_rank_93 : decode cX6_rank 93 = .ok (.getfield 32, 3) := by decide +kernel
theorem dX6_rank_96 : decode cX6_rank 96 = .ok (.iload_n 3, 1) := by decide +kernel
theorem dX6_rank_97 : decode cX6_rank 97 = .ok (.iconst 1, 1) := by decide +kernel
theorem dX6_rank_98 : decode cX6_rank 98 = .ok (.isub, 1) := by decide +kernel
theorem dX6_rank_99 : decode cX6_rank 99 = .ok (.iaload, 1) := by decide +kernel
theorem dX6_rank_100 : decode cX6_rank 100 = .ok (.iastore, 1) := by decide +kernel
theorem dX6_rank_101 : decode cX6_rank 101 = .ok (.iinc 3 (-1), 3) := by decide +kernel
theorem dX6_rank_104 : decode cX6_rank 104 = .ok (.goto (-46), 3) := by decide +kernel
theorem dX6_rank_107 : decode cX6_rank 107 = .ok (.aload_n 0, 1) := by decide +kernel
theorem dX6_rank_108 : decode cX6_rank 108 = .ok (.getfield 28, 3) := by decide +kernel
theorem dX6_rank_111 : decode cX6_rank 111 = .ok (.iload_n 2, 1) := by decide +kernel
theorem dX6_rank_112 : decode cX6_rank 112 = .ok (.baload, 1) := by decide +kernel
theorem dX6_rank_113 : decode cX6_rank 113 = .ok (.ifCond .eq 20, 3) := by decide +kernel
theorem dX6_rank_116 : decode cX6_rank 116 = .ok (.aload_n 0, 1) := by decide +kernel
theorem dX6_rank_117 : decode cX6_rank 117 = .ok (.getfield 32, 3) := by decide +kernel
theorem dX6_rank_120 : decode cX6_rank 120 = .ok (.iload_n 3, 1) := by decide +kernel
theorem dX6_rank_121 : decode cX6_rank 121 = .ok (.iload_n 2, 1) := by decide +kernel
theorem dX6_rank_122 : decode cX6_rank 122 = .ok (.iastore, 1) := by decide +kernel
theorem dX6_rank_123 : decode cX6_rank 123 = .ok (.aload_n 0, 1) := by decide +kernel
theorem dX6_rank_124 : decode cX6_rank 124 = .ok (.dup, 1) := by decide +kernel
theorem dX6_rank_125 : decode cX6_rank 125 = .ok (.getfield 164, 3) := by decide +kernel
theorem dX6_rank_128 : decode cX6_rank 128 = .ok (.iconst 1, 1) := by decide +kernel
theorem dX6_rank_129 : decode cX6_rank 129 = .ok (.iadd, 1) := by decide +kernel
theorem dX6_rank_130 : decode cX6_rank 130 = .ok (.putfield 164, 3) := by decide +kernel
theorem dX6_rank_133 : decode cX6_rank 133 = .ok (.iinc 2 1, 3) := by decide +kernel
theorem dX6_rank_136 : decode cX6_rank 136 = .ok (.goto (-129), 3) := by decide +kernel
theorem dX6_rank_139 : decode cX6_rank 139 = .ok (.return_, 1) := by decide +kernel
theorem dX6_served_0 : decode cX6_served 0 = .ok (.aload_n 0, 1) := by decide +kernel
theorem dX6_served_1 : decode cX6_served 1 = .ok (.getfield 164, 3) := by decide +kernel
theorem dX6_served_4 : decode cX6_served 4 = .ok (.ifCond .ne 7, 3) := by decide +kernel
theorem dX6_served_7 : decode cX6_served 7 = .ok (.iconst (-1), 1) := by decide +kernel
theorem dX6_served_8 : decode cX6_served 8 = .ok (.goto 9, 3) := by decide +kernel
theorem dX6_served_11 : decode cX6_served 11 = .ok (.aload_n 0, 1) := by decide +kernel
theorem dX6_served_12 : decode cX6_served 12 = .ok (.getfield 32, 3) := by decide +kernel
theorem dX6_served_15 : decode cX6_served 15 = .ok (.iconst 0, 1) := by decide +kernel
theorem dX6_served_16 : decode cX6_served 16 = .ok (.iaload, 1) := by decide +kernel
theorem dX6_served_17 : decode cX6_served 17 = .ok (.ireturn, 1) := by decide +kernel
theorem dX6_survey_0 : decode cX6_survey 0 = .ok (.aload_n 0, 1) := by decide +kernel
theorem dX6_survey_1 : decode cX6_survey 1 = .ok (.invokevirtual 173, 3) := by decide +kernel
theorem dX6_survey_4 : decode cX6_survey 4 = .ok (.aload_n 0, 1) := by decide +kernel
theorem dX6_survey_5 : decode cX6_survey 5 = .ok (.iconst (-1), 1) := by decide +kernel
theorem dX6_survey_6 : decode cX6_survey 6 = .ok (.invokevirtual 176, 3) := by decide +kernel
theorem dX6_survey_9 : decode cX6_survey 9 = .ok (.return_, 1) := by decide +kernel
theorem dX6_isBefore_0 : decode cX6_isBefore 0 = .ok (.iconst 0, 1) := by decide +kernel
theorem dX6_isBefore_1 : decode cX6_isBefore 1 = .ok (.istore_n 3, 1) := by decide +kernel
theorem dX6_isBefore_2 : decode cX6_isBefore 2 = .ok (.iload_n 3, 1) := by decide +kernel
theorem dX6_isBefore_3 : decode cX6_isBefore 3 = .ok (.iconst 5, 1) := by decide +kernel
theorem dX6_isBefore_4 : decode cX6_isBefore 4 = .ok (.if_icmp .ge 24, 3) := by decide +kernel
theorem dX6_isBefore_7 : decode cX6_isBefore 7 = .ok (.aload_n 0, 1) := by decide +kernel
theorem dX6_isBefore_8 : decode cX6_isBefore 8 = .ok (.iload_n 1, 1) := by decide +kernel
theorem dX6_isBefore_9 : decode cX6_isBefore 9 = .ok (.iload_n 3, 1) := by decide +kernel
theorem dX6_isBefore_10 : decode cX6_isBefore 10 = .ok (.invokevirtual 118, 3) := by decide +kernel
theorem dX6_isBefore_13 : decode cX6_isBefore 13 = .ok (.aload_n 0, 1) := by decide +kernel
theorem dX6_isBefore_14 : decode cX6_isBefore 14 = .ok (.iload_n 2, 1) := by decide +kernel
theorem dX6_isBefore_15 : decode cX6_isBefore 15 = .ok (.iload_n 3, 1) := by decide +kernel
theorem dX6_isBefore_16 : decode cX6_isBefore 16 = .ok (.invokevirtual 118, 3) := by decide +kernel
theorem dX6_isBefore_19 : decode cX6_isBefore 19 = .ok (.if_icmp .ne 9, 3) := by decide +kernel
theorem dX6_isBefore_22 : decode cX6_isBefore 22 = .ok (.iinc 3 1, 3) := by decide +kernel
theorem dX6_isBefore_25 : decode cX6_isBefore 25 = .ok (.goto (-23), 3) := by decide +kernel
theorem dX6_isBefore_28 : decode cX6_isBefore 28 = .ok (.aload_n 0, 1) := by decide +kernel
theorem dX6_isBefore_29 : decode cX6_isBefore 29 = .ok (.iload_n 1, 1) := by decide +kernel
theorem dX6_isBefore_30 : decode cX6_isBefore 30 = .ok (.iload_n 3, 1) := by decide +kernel
theorem dX6_isBefore_31 : decode cX6_isBefore 31 = .ok (.invokevirtual 118, 3) := by decide +kernel
theorem dX6_isBefore_34 : decode cX6_isBefore 34 = .ok (.aload_n 0, 1) := by decide +kernel
theorem dX6_isBefore_35 : decode cX6_isBefore 35 = .ok (.iload_n 2, 1) := by decide +kernel
theorem dX6_isBefore_36 : decode cX6_isBefore 36 = .ok (.iload_n 3, 1) := by decide +kernel
theorem dX6_isBefore_37 : decode cX6_isBefore 37 = .ok (.invokevirtual 118, 3) := by decide +kernel
theorem dX6_isBefore_40 : decode cX6_isBefore 40 = .ok (.if_icmp .ge 7, 3) := by decide +kernel
theorem dX6_isBefore_43 : decode cX6_isBefore 43 = .ok (.iconst 1, 1) := by decide +kernel
theorem dX6_isBefore_44 : decode cX6_isBefore 44 = .ok (.goto 4, 3) := by decide +kernel
theorem dX6_isBefore_47 : decode cX6_isBefore 47 = .ok (.iconst 0, 1) := by decide +kernel
theorem dX6_isBefore_48 : decode cX6_isBefore 48 = .ok (.ireturn, 1) := by decide +kernel
theorem dX6_list_0 : decode cX6_list 0 = .ok (.iconst 0, 1) := by decide +kernel
theorem dX6_list_1 : decode cX6_list 1 = .ok (.istore_n 1, 1) := by decide +kernel
theorem dX6_list_2 : decode cX6_list 2 = .ok (.iload_n 1, 1) := by decide +kernel
theorem dX6_list_3 : decode cX6_list 3 = .ok (.aload_n 0, 1) := by decide +kernel
theorem dX6_list_4 : decode cX6_list 4 = .ok (.getfield 7, 3) := by decide +kernel
theorem dX6_list_7 : decode cX6_list 7 = .ok (.iconst 0, 1) := by decide +kernel
theorem dX6_list_8 : decode cX6_list 8 = .ok (.iaload, 1) := by decide +kernel
theorem dX6_list_9 : decode cX6_list 9 = .ok (.if_icmp .ge 58, 3) := by decide +kernel
theorem dX6_list_12 : decode cX6_list 12 = .ok (.iload_n 1, 1) := by decide +kernel
theorem dX6_list_13 : decode cX6_list 13 = .ok (.istore_n 2, 1) := by decide +kernel
theorem dX6_list_14 : decode cX6_list 14 = .ok (.iload_n 2, 1) := by decide +kernel
theorem dX6_list_15 : decode cX6_list 15 = .ok (.ifCond .le 39, 3) := by decide +kernel
theorem dX6_list_18 : decode cX6_list 18 = .ok (.aload_n 0, 1) := by decide +kernel
theorem dX6_list_19 : decode cX6_list 19 = .ok (.iload_n 1, 1) := by decide +kernel
theorem dX6_list_20 : decode cX6_list 20 = .ok (.aload_n 0, 1) := by decide +kernel
theorem dX6_list_21 : decode cX6_list 21 = .ok (.getfield 39, 3) := by decide +kernel
theorem dX6_list_24 : decode cX6_list 24 = .ok (.iload_n 2, 1) := by decide +kernel
theorem dX6_list_25 : decode cX6_list 25 = .ok (.iconst 1, 1) := by decide +kernel
theorem dX6_list_26 : decode cX6_list 26 = .ok (.isub, 1) := by decide +kernel
theorem dX6_list_27 : decode cX6_list 27 = .ok (.iaload, 1) := by decide +kernel
theorem dX6_list_28 : decode cX6_list 28 = .ok (.invokevirtual 180, 3) := by decide +kernel
theorem dX6_list_31 : decode cX6_list 31 = .ok (.ifCond .eq 23, 3) := by decide +kernel
theorem dX6_list_34 : decode cX6_list 34 = .ok (.aload_n 0, 1) := by decide +kernel
theorem dX6_list_35 : decode cX6_list 35 = .ok (.getfield 39, 3) := by decide +kernel
theorem dX6_list_38 : decode cX6_list 38 = .ok (.iload_n 2, 1) := by decide +kernel
theorem dX6_list_39 : decode cX6_list 39 = .ok (.aload_n 0, 1) := by decide +kernel
theorem dX6_list_40 : decode cX6_list 40 = .ok (.getfield 39, 3) := by decide +kernel
theorem dX6_list_43 : decode cX6_list 43 = .ok (.iload_n 2, 1) := by decide +kernel
theorem dX6_list_44 : decode cX6_list 44 = .ok (.iconst 1, 1) := by decide +kernel
theorem dX6_list_45 : decode cX6_list 45 = .ok (.isub, 1) := by decide +kernel
theorem dX6_list_46 : decode cX6_list 46 = .ok (.iaload, 1) := by decide +kernel
theorem dX6_list_47 : decode cX6_list 47 = .ok (.iastore, 1) := by decide +kernel
theorem dX6_list_48 : decode cX6_list 48 = .ok (.iinc 2 (-1), 3) := by decide +kernel
theorem dX6_list_51 : decode cX6_list 51 = .ok (.goto (-37), 3) := by decide +kernel
theorem dX6_list_54 : decode cX6_list 54 = .ok (.aload_n 0, 1) := by decide +kernel
theorem dX6_list_55 : decode cX6_list 55 = .ok (.getfield 39, 3) := by decide +kernel
theorem dX6_list_58 : decode cX6_list 58 = .ok (.iload_n 2, 1) := by decide +kernel
theorem dX6_list_59 : decode cX6_list 59 = .ok (.iload_n 1, 1) := by decide +kernel
theorem dX6_list_60 : decode cX6_list 60 = .ok (.iastore, 1) := by decide +kernel
theorem dX6_list_61 : decode cX6_list 61 = .ok (.iinc 1 1, 3) := by decide +kernel
theorem dX6_list_64 : decode cX6_list 64 = .ok (.goto (-62), 3) := by decide +kernel
theorem dX6_list_67 : decode cX6_list 67 = .ok (.return_, 1) := by decide +kernel
theorem dX6_write_0 : decode cX6_write 0 = .ok (.aload_n 0, 1) := by decide +kernel
theorem dX6_write_1 : decode cX6_write 1 = .ok (.getfield 42, 3) := by decide +kernel
theorem dX6_write_4 : decode cX6_write 4 = .ok (.aload_n 0, 1) := by decide +kernel
theorem dX6_write_5 : decode cX6_write 5 = .ok (.getfield 183, 3) := by decide +kernel
theorem dX6_write_8 : decode cX6_write 8 = .ok (.iload_n 1, 1) := by decide +kernel
theorem dX6_write_9 : decode cX6_write 9 = .ok (.iastore, 1) := by decide +kernel
theorem dX6_write_10 : decode cX6_write 10 = .ok (.aload_n 0, 1) := by decide +kernel
theorem dX6_write_11 : decode cX6_write 11 = .ok (.dup, 1) := by decide +kernel
theorem dX6_write_12 : decode cX6_write 12 = .ok (.getfield 183, 3) := by decide +kernel
theorem dX6_write_15 : decode cX6_write 15 = .ok (.iconst 1, 1) := by decide +kernel
theorem dX6_write_16 : decode cX6_write 16 = .ok (.iadd, 1) := by decide +kernel
theorem dX6_write_17 : decode cX6_write 17 = .ok (.putfield 183, 3) := by decide +kernel
theorem dX6_write_20 : decode cX6_write 20 = .ok (.return_, 1) := by decide +kernel
theorem dX6_writeName_0 : decode cX6_writeName 0 = .ok (.iconst 3, 1) := by decide +kernel
theorem dX6_writeName_1 : decode cX6_writeName 1 = .ok (.istore_n 2, 1) := by decide +kernel
theorem dX6_writeName_2 : decode cX6_writeName 2 = .ok (.iload_n 2, 1) := by decide +kernel
theorem dX6_writeName_3 : decode cX6_writeName 3 = .ok (.ifCond .lt 34, 3) := by decide +kernel
theorem dX6_writeName_6 : decode cX6_writeName 6 = .ok (.iload_n 1, 1) := by decide +kernel
theorem dX6_writeName_7 : decode cX6_writeName 7 = .ok (.bipush 8, 2) := by decide +kernel
theorem dX6_writeName_9 : decode cX6_writeName 9 = .ok (.iload_n 2, 1) := by decide +kernel
theorem dX6_writeName_10 : decode cX6_writeName 10 = .ok (.imul, 1) := by decide +kernel
theorem dX6_writeName_11 : decode cX6_writeName 11 = .ok (.ishr, 1) := by decide +kernel
theorem dX6_writeName_12 : decode cX6_writeName 12 = .ok (.bipush 127, 2) := by decide +kernel
theorem dX6_writeName_14 : decode cX6_writeName 14 = .ok (.iand, 1) := by decide +kernel
theorem dX6_writeName_15 : decode cX6_writeName 15 = .ok (.ifCond .eq 16, 3) := by decide +kernel
theorem dX6_writeName_18 : decode cX6_writeName 18 = .ok (.aload_n 0, 1) := by decide +kernel
theorem dX6_writeName_19 : decode cX6_writeName 19 = .ok (.iload_n 1, 1) := by decide +kernel
theorem dX6_writeName_20 : decode cX6_writeName 20 = .ok (.bipush 8, 2) := by decide +kernel
theorem dX6_writeName_22 : decode cX6_writeName 22 = .ok (.iload_n 2, 1) := by decide +kernel
theorem dX6_writeName_23 : decode cX6_writeName 23 = .ok (.imul, 1) := by decide +kernel
theorem dX6_writeName_24 : decode cX6_writeName 24 = .ok (.ishr, 1) := by decide +kernel
theorem dX6_writeName_25 : decode cX6_writeName 25 = .ok (.bipush 127, 2) := by decide +kernel
theorem dX6_writeName_27 : decode cX6_writeName 27 = .ok (.iand, 1) := by decide +kernel
theorem dX6_writeName_28 : decode cX6_writeName 28 = .ok (.invokevirtual 186, 3) := by decide +kernel
theorem dX6_writeName_31 : decode cX6_writeName 31 = .ok (.iinc 2 (-1), 3) := by decide +kernel
theorem dX6_writeName_34 : decode cX6_writeName 34 = .ok (.goto (-32), 3) := by decide +kernel
theorem dX6_writeName_37 : decode cX6_writeName 37 = .ok (.return_, 1) := by decide +kernel
theorem dX6_writeVariant_0 : decode cX6_writeVariant 0 = .ok (.aload_n 0, 1) := by decide +kernel
theorem dX6_writeVariant_1 : decode cX6_writeVariant 1 = .ok (.aload_n 0, 1) := by decide +kernel
theorem dX6_writeVariant_2 : decode cX6_writeVariant 2 = .ok (.iload_n 1, 1) := by decide +kernel
theorem dX6_writeVariant_3 : decode cX6_writeVariant 3 = .ok (.iconst 0, 1) := by decide +kernel
theorem dX6_writeVariant_4 : decode cX6_writeVariant 4 = .ok (.invokevirtual 118, 3) := by decide +kernel
theorem dX6_writeVariant_7 : decode cX6_writeVariant 7 = .ok (.invokevirtual 189, 3) := by decide +kernel
theorem dX6_writeVariant_10 : decode cX6_writeVariant 10 = .ok (.aload_n 0, 1) := by decide +kernel
theorem dX6_writeVariant_11 : decode cX6_writeVariant 11 = .ok (.bipush 47, 2) := by decide +kernel
theorem dX6_writeVariant_13 : decode cX6_writeVariant 13 = .ok (.invokevirtual 186, 3) := by decide +kernel
theorem dX6_writeVariant_16 : decode cX6_writeVariant 16 = .ok (.aload_n 0, 1) := by decide +kernel
theorem dX6_writeVariant_17 : decode cX6_writeVariant 17 = .ok (.aload_n 0, 1) := by decide +kernel
theorem dX6_writeVariant_18 : decode cX6_writeVariant 18 = .ok (.iload_n 1, 1) := by decide +kernel
theorem dX6_writeVariant_19 : decode cX6_writeVariant 19 = .ok (.iconst 1, 1) := by decide +kernel
theorem dX6_writeVariant_20 : decode cX6_writeVariant 20 = .ok (.invokevirtual 118, 3) := by decide +kernel
theorem dX6_writeVariant_23 : decode cX6_writeVariant 23 = .ok (.invokevirtual 189, 3) := by decide +kernel
theorem dX6_writeVariant_26 : decode cX6_writeVariant 26 = .ok (.iconst 0, 1) := by decide +kernel
theorem dX6_writeVariant_27 : decode cX6_writeVariant 27 = .ok (.istore_n 2, 1) := by decide +kernel
theorem dX6_writeVariant_28 : decode cX6_writeVariant 28 = .ok (.iload_n 2, 1) := by decide +kernel
theorem dX6_writeVariant_29 : decode cX6_writeVariant 29 = .ok (.iconst 3, 1) := by decide +kernel
theorem dX6_writeVariant_30 : decode cX6_writeVariant 30 = .ok (.if_icmp .ge 47, 3) := by decide +kernel
theorem dX6_writeVariant_33 : decode cX6_writeVariant 33 = .ok (.aload_n 0, 1) := by decide +kernel
theorem dX6_writeVariant_34 : decode cX6_writeVariant 34 = .ok (.iload_n 1, 1) := by decide +kernel
theorem dX6_writeVariant_35 : decode cX6_writeVariant 35 = .ok (.iconst 2, 1) := by decide +kernel
theorem dX6_writeVariant_36 : decode cX6_writeVariant 36 = .ok (.iload_n 2, 1) := by decide +kernel
theorem dX6_writeVariant_37 : decode cX6_writeVariant 37 = .ok (.iadd, 1) := by decide +kernel
theorem dX6_writeVariant_38 : decode cX6_writeVariant 38 = .ok (.invokevirtual 118, 3) := by decide +kernel
theorem dX6_writeVariant_41 : decode cX6_writeVariant 41 = .ok (.ifCond .eq 30, 3) := by decide +kernel
theorem dX6_writeVariant_44 : decode cX6_writeVariant 44 = .ok (.aload_n 0, 1) := by decide +kernel
theorem dX6_writeVariant_45 : decode cX6_writeVariant 45 = .ok (.iload_n 2, 1) := by decide +kernel
theorem dX6_writeVariant_46 : decode cX6_writeVariant 46 = .ok (.ifCond .ne 8, 3) := by decide +kernel
theorem dX6_writeVariant_49 : decode cX6_writeVariant 49 = .ok (.bipush 32, 2) := by decide +kernel
theorem dX6_writeVariant_51 : decode cX6_writeVariant 51 = .ok (.goto 5, 3) := by decide +kernel
theorem dX6_writeVariant_54 : decode cX6_writeVariant 54 = .ok (.bipush 45, 2) := by decide +kernel
theorem dX6_writeVariant_56 : decode cX6_writeVariant 56 = .ok (.invokevirtual 186, 3) := by decide +kernel
theorem dX6_writeVariant_59 : decode cX6_writeVariant 59 = .ok (.aload_n 0, 1) := by decide +kernel
theorem dX6_writeVariant_60 : decode cX6_writeVariant 60 = .ok (.aload_n 0, 1) := by decide +kernel
theorem dX6_writeVariant_61 : decode cX6_writeVariant 61 = .ok (.iload_n 1, 1) := by decide +kernel
theorem dX6_writeVariant_62 : decode cX6_writeVariant 62 = .ok (.iconst 2, 1) := by decide +kernel
theorem dX6_writeVariant_63 : decode cX6_writeVariant 63 = .ok (.iload_n 2, 1) := by decide +kernel
theorem dX6_writeVariant_64 : decode cX6_writeVariant 64 = .ok (.iadd, 1) := by decide +kernel
theorem dX6_writeVariant_65 : decode cX6_writeVariant 65 = .ok (.invokevirtual 118, 3) := by decide +kernel
theorem dX6_writeVariant_68 : decode cX6_writeVariant 68 = .ok (.invokevirtual 189, 3) := by decide +kernel
theorem dX6_writeVariant_71 : decode cX6_writeVariant 71 = .ok (.iinc 2 1, 3) := by decide +kernel
theorem dX6_writeVariant_74 : decode cX6_writeVariant 74 = .ok (.goto (-46), 3) := by decide +kernel
theorem dX6_writeVariant_77 : decode cX6_writeVariant 77 = .ok (.aload_n 0, 1) := by decide +kernel
theorem dX6_writeVariant_78 : decode cX6_writeVariant 78 = .ok (.bipush 32, 2) := by decide +kernel
theorem dX6_writeVariant_80 : decode cX6_writeVariant 80 = .ok (.invokevirtual 186, 3) := by decide +kernel
theorem dX6_writeVariant_83 : decode cX6_writeVariant 83 = .ok (.aload_n 0, 1) := by decide +kernel
theorem dX6_writeVariant_84 : decode cX6_writeVariant 84 = .ok (.aload_n 0, 1) := by decide +kernel
theorem dX6_writeVariant_85 : decode cX6_writeVariant 85 = .ok (.iload_n 1, 1) := by decide +kernel
theorem dX6_writeVariant_86 : decode cX6_writeVariant 86 = .ok (.iconst 5, 1) := by decide +kernel
theorem dX6_writeVariant_87 : decode cX6_writeVariant 87 = .ok (.invokevirtual 118, 3) := by decide +kernel
theorem dX6_writeVariant_90 : decode cX6_writeVariant 90 = .ok (.invokevirtual 189, 3) := by decide +kernel
theorem dX6_writeVariant_93 : decode cX6_writeVariant 93 = .ok (.aload_n 0, 1) := by decide +kernel
theorem dX6_writeVariant_94 : decode cX6_writeVariant 94 = .ok (.bipush 32, 2) := by decide +kernel
theorem dX6_writeVariant_96 : decode cX6_writeVariant 96 = .ok (.invokevirtual 186, 3) := by decide +kernel
theorem dX6_writeVariant_99 : decode cX6_writeVariant 99 = .ok (.ldc 192, 2) := by decide +kernel
theorem dX6_writeVariant_101 : decode cX6_writeVariant 101 = .ok (.istore_n 2, 1) := by decide +kernel
theorem dX6_writeVariant_102 : decode cX6_writeVariant 102 = .ok (.iload_n 2, 1) := by decide +kernel
theorem dX6_writeVariant_103 : decode cX6_writeVariant 103 = .ok (.iconst 1, 1) := by decide +kernel
theorem dX6_writeVariant_104 : decode cX6_writeVariant 104 = .ok (.if_icmp .le 22, 3) := by decide +kernel
theorem dX6_writeVariant_107 : decode cX6_writeVariant 107 = .ok (.aload_n 0, 1) := by decide +kernel
theorem dX6_writeVariant_108 : decode cX6_writeVariant 108 = .ok (.iload_n 1, 1) := by decide +kernel
theorem dX6_writeVariant_109 : decode cX6_writeVariant 109 = .ok (.bipush 6, 2) := by decide +kernel
theorem dX6_writeVariant_111 : decode cX6_writeVariant 111 = .ok (.invokevirtual 118, 3) := by decide +kernel
theorem dX6_writeVariant_114 : decode cX6_writeVariant 114 = .ok (.iload_n 2, 1) := by decide +kernel
theorem dX6_writeVariant_115 : decode cX6_writeVariant 115 = .ok (.if_icmp .ge 11, 3) := by decide +kernel
theorem dX6_writeVariant_118 : decode cX6_writeVariant 118 = .ok (.iload_n 2, 1) := by decide +kernel
theorem dX6_writeVariant_119 : decode cX6_writeVariant 119 = .ok (.bipush 10, 2) := by decide +kernel
theorem dX6_writeVariant_121 : decode cX6_writeVariant 121 = .ok (.idiv, 1) := by decide +kernel
theorem dX6_writeVariant_122 : decode cX6_writeVariant 122 = .ok (.istore_n 2, 1) := by decide +kernel
theorem dX6_writeVariant_123 : decode cX6_writeVariant 123 = .ok (.goto (-21), 3) := by decide +kernel
theorem dX6_writeVariant_126 : decode cX6_writeVariant 126 = .ok (.iload_n 2, 1) := by decide +kernel
theorem dX6_writeVariant_127 : decode cX6_writeVariant 127 = .ok (.ifCond .le 30, 3) := by decide +kernel
theorem dX6_writeVariant_130 : decode cX6_writeVariant 130 = .ok (.aload_n 0, 1) := by decide +kernel
theorem dX6_writeVariant_131 : decode cX6_writeVariant 131 = .ok (.bipush 48, 2) := by decide +kernel
theorem dX6_writeVariant_133 : decode cX6_writeVariant 133 = .ok (.aload_n 0, 1) := by decide +kernel
theorem dX6_writeVariant_134 : decode cX6_writeVariant 134 = .ok (.iload_n 1, 1) := by decide +kernel
theorem dX6_writeVariant_135 : decode cX6_writeVariant 135 = .ok (.bipush 6, 2) := by decide +kernel
theorem dX6_writeVariant_137 : decode cX6_writeVariant 137 = .ok (.invokevirtual 118, 3) := by decide +kernel
theorem dX6_writeVariant_140 : decode cX6_writeVariant 140 = .ok (.iload_n 2, 1) := by decide +kernel
theorem dX6_writeVariant_141 : decode cX6_writeVariant 141 = .ok (.idiv, 1) := by decide +kernel
theorem dX6_writeVariant_142 : decode cX6_writeVariant 142 = .ok (.bipush 10, 2) := by decide +kernel
theorem dX6_writeVariant_144 : decode cX6_writeVariant 144 = .ok (.irem, 1) := by decide +kernel
theorem dX6_writeVariant_145 : decode cX6_writeVariant 145 = .ok (.iadd, 1) := by decide +kernel
theorem dX6_writeVariant_146 : decode cX6_writeVariant 146 = .ok (.invokevirtual 186, 3) := by decide +kernel
theorem dX6_writeVariant_149 : decode cX6_writeVariant 149 = .ok (.iload_n 2, 1) := by decide +kernel
theorem dX6_writeVariant_150 : decode cX6_writeVariant 150 = .ok (.bipush 10, 2) := by decide +kernel
theorem dX6_writeVariant_152 : decode cX6_writeVariant 152 = .ok (.idiv, 1) := by decide +kernel
theorem dX6_writeVariant_153 : decode cX6_writeVariant 153 = .ok (.istore_n 2, 1) := by decide +kernel
theorem dX6_writeVariant_154 : decode cX6_writeVariant 154 = .ok (.goto (-28), 3) := by decide +kernel
theorem dX6_writeVariant_157 : decode cX6_writeVariant 157 = .ok (.return_, 1) := by decide +kernel
theorem dX6_writeListing_0 : decode cX6_writeListing 0 = .ok (.aload_n 0, 1) := by decide +kernel
theorem dX6_writeListing_1 : decode cX6_writeListing 1 = .ok (.invokevirtual 193, 3) := by decide +kernel
theorem dX6_writeListing_4 : decode cX6_writeListing 4 = .ok (.aload_n 0, 1) := by decide +kernel
theorem dX6_writeListing_5 : decode cX6_writeListing 5 = .ok (.iconst 0, 1) := by decide +kernel
theorem dX6_writeListing_6 : decode cX6_writeListing 6 = .ok (.putfield 183, 3) := by decide +kernel
theorem dX6_writeListing_9 : decode cX6_writeListing 9 = .ok (.iconst 0, 1) := by decide +kernel
theorem dX6_writeListing_10 : decode cX6_writeListing 10 = .ok (.istore_n 1, 1) := by decide +kernel
theorem dX6_writeListing_11 : decode cX6_writeListing 11 = .ok (.iload_n 1, 1) := by decide +kernel
theorem dX6_writeListing_12 : decode cX6_writeListing 12 = .ok (.aload_n 0, 1) := by decide +kernel
theorem dX6_writeListing_13 : decode cX6_writeListing 13 = .ok (.getfield 7, 3) := by decide +kernel
theorem dX6_writeListing_16 : decode cX6_writeListing 16 = .ok (.iconst 0, 1) := by decide +kernel
theorem dX6_writeListing_17 : decode cX6_writeListing 17 = .ok (.iaload, 1) := by decide +kernel
theorem dX6_writeListing_18 : decode cX6_writeListing 18 = .ok (.if_icmp .ge 35, 3) := by decide +kernel
theorem dX6_writeListing_21 : decode cX6_writeListing 21 = .ok (.iload_n 1, 1) := by decide +kernel
theorem dX6_writeListing_22 : decode cX6_writeListing 22 = .ok (.ifCond .le 15, 3) := by decide +kernel
theorem dX6_writeListing_25 : decode cX6_writeListing 25 = .ok (.aload_n 0, 1) := by decide +kernel
theorem dX6_writeListing_26 : decode cX6_writeListing 26 = .ok (.bipush 44, 2) := by decide +kernel
theorem dX6_writeListing_28 : decode cX6_writeListing 28 = .ok (.invokevirtual 186, 3) := by decide +kernel
theorem dX6_writeListing_31 : decode cX6_writeListing 31 = .ok (.aload_n 0, 1) := by decide +kernel
theorem dX6_writeListing_32 : decode cX6_writeListing 32 = .ok (.bipush 32, 2) := by decide +kernel
theorem dX6_writeListing_34 : decode cX6_writeListing 34 = .ok (.invokevirtual 186, 3) := by decide +kernel
theorem dX6_writeListing_37 : decode cX6_writeListing 37 = .ok (.aload_n 0, 1) := by decide +kernel
theorem dX6_writeListing_38 : decode cX6_writeListing 38 = .ok (.aload_n 0, 1) := by decide +kernel
theorem dX6_writeListing_39 : decode cX6_writeListing 39 = .ok (.getfield 39, 3) := by decide +kernel
theorem dX6_writeListing_42 : decode cX6_writeListing 42 = .ok (.iload_n 1, 1) := by decide +kernel
theorem dX6_writeListing_43 : decode cX6_writeListing 43 = .ok (.iaload, 1) := by decide +kernel
theorem dX6_writeListing_44 : decode cX6_writeListing 44 = .ok (.invokevirtual 196, 3) := by decide +kernel
theorem dX6_writeListing_47 : decode cX6_writeListing 47 = .ok (.iinc 1 1, 3) := by decide +kernel
theorem dX6_writeListing_50 : decode cX6_writeListing 50 = .ok (.goto (-39), 3) := by decide +kernel
theorem dX6_writeListing_53 : decode cX6_writeListing 53 = .ok (.return_, 1) := by decide +kernel
theorem dX6_reason_0 : decode cX6_reason 0 = .ok (.aload_n 0, 1) := by decide +kernel
theorem dX6_reason_1 : decode cX6_reason 1 = .ok (.getfield 25, 3) := by decide +kernel
theorem dX6_reason_4 : decode cX6_reason 4 = .ok (.iload_n 1, 1) := by decide +kernel
theorem dX6_reason_5 : decode cX6_reason 5 = .ok (.iaload, 1) := by decide +kernel
theorem dX6_reason_6 : decode cX6_reason 6 = .ok (.ifCond .le 5, 3) := by decide +kernel
theorem dX6_reason_9 : decode cX6_reason 9 = .ok (.iconst 0, 1) := by decide +kernel
theorem dX6_reason_10 : decode cX6_reason 10 = .ok (.ireturn, 1) := by decide +kernel
theorem dX6_reason_11 : decode cX6_reason 11 = .ok (.iconst 0, 1) := by decide +kernel
theorem dX6_reason_12 : decode cX6_reason 12 = .ok (.istore_n 2, 1) := by decide +kernel
theorem dX6_reason_13 : decode cX6_reason 13 = .ok (.iload_n 2, 1) := by decide +kernel
theorem dX6_reason_14 : decode cX6_reason 14 = .ok (.bipush 6, 2) := by decide +kernel
theorem dX6_reason_16 : decode cX6_reason 16 = .ok (.if_icmp .ge 22, 3) := by decide +kernel
theorem dX6_reason_19 : decode cX6_reason 19 = .ok (.aload_n 0, 1) := by decide +kernel
theorem dX6_reason_20 : decode cX6_reason 20 = .ok (.iload_n 2, 1) := by decide +kernel
theorem dX6_reason_21 : decode cX6_reason 21 = .ok (.iload_n 1, 1) := by decide +kernel
theorem dX6_reason_22 : decode cX6_reason 22 = .ok (.invokevirtual 155, 3) := by decide +kernel
theorem dX6_reason_25 : decode cX6_reason 25 = .ok (.ifCond .ne 7, 3) := by decide +kernel
theorem dX6_reason_28 : decode cX6_reason 28 = .ok (.iconst 1, 1) := by decide +kernel
theorem dX6_reason_29 : decode cX6_reason 29 = .ok (.iload_n 2, 1) := by decide +kernel
theorem dX6_reason_30 : decode cX6_reason 30 = .ok (.iadd, 1) := by decide +kernel
theorem dX6_reason_31 : decode cX6_reason 31 = .ok (.ireturn, 1) := by decide +kernel
theorem dX6_reason_32 : decode cX6_reason 32 = .ok (.iinc 2 1, 3) := by decide +kernel
theorem dX6_reason_35 : decode cX6_reason 35 = .ok (.goto (-22), 3) := by decide +kernel
theorem dX6_reason_38 : decode cX6_reason 38 = .ok (.aload_n 0, 1) := by decide +kernel
theorem dX6_reason_39 : decode cX6_reason 39 = .ok (.iload_n 1, 1) := by decide +kernel
theorem dX6_reason_40 : decode cX6_reason 40 = .ok (.bipush 7, 2) := by decide +kernel
theorem dX6_reason_42 : decode cX6_reason 42 = .ok (.invokevirtual 118, 3) := by decide +kernel
theorem dX6_reason_45 : decode cX6_reason 45 = .ok (.ifCond .ne 8, 3) := by decide +kernel
theorem dX6_reason_48 : decode cX6_reason 48 = .ok (.bipush 7, 2) := by decide +kernel
theorem dX6_reason_50 : decode cX6_reason 50 = .ok (.goto 5, 3) := by decide +kernel
theorem dX6_reason_53 : decode cX6_reason 53 = .ok (.bipush 8, 2) := by decide +kernel
theorem dX6_reason_55 : decode cX6_reason 55 = .ok (.ireturn, 1) := by decide +kernel
theorem dX6_placeIn_0 : decode cX6_placeIn 0 = .ok (.iconst (-1), 1) := by decide +kernel
theorem dX6_placeIn_1 : decode cX6_placeIn 1 = .ok (.istore_n 3, 1) := by decide +kernel
theorem dX6_placeIn_2 : decode cX6_placeIn 2 = .ok (.iconst 0, 1) := by decide +kernel
theorem dX6_placeIn_3 : decode cX6_placeIn 3 = .ok (.istore 4, 2) := by decide +kernel
theorem dX6_placeIn_5 : decode cX6_placeIn 5 = .ok (.iload 4, 2) := by decide +kernel
theorem dX6_placeIn_7 : decode cX6_placeIn 7 = .ok (.iload_n 1, 1) := by decide +kernel
theorem dX6_placeIn_8 : decode cX6_placeIn 8 = .ok (.if_icmp .ge 24, 3) := by decide +kernel
theorem dX6_placeIn_11 : decode cX6_placeIn 11 = .ok (.aload_n 0, 1) := by decide +kernel
theorem dX6_placeIn_12 : decode cX6_placeIn 12 = .ok (.iload 4, 2) := by decide +kernel
theorem dX6_placeIn_14 : decode cX6_placeIn 14 = .ok (.iaload, 1) := by decide +kernel
theorem dX6_placeIn_15 : decode cX6_placeIn 15 = .ok (.iload_n 2, 1) := by decide +kernel
theorem dX6_placeIn_16 : decode cX6_placeIn 16 = .ok (.if_icmp .ne 8, 3) := by decide +kernel
theorem dX6_placeIn_19 : decode cX6_placeIn 19 = .ok (.iload 4, 2) := by decide +kernel
theorem dX6_placeIn_21 : decode cX6_placeIn 21 = .ok (.goto 4, 3) := by decide +kernel
theorem dX6_placeIn_24 : decode cX6_placeIn 24 = .ok (.iload_n 3, 1) := by decide +kernel
theorem dX6_placeIn_25 : decode cX6_placeIn 25 = .ok (.istore_n 3, 1) := by decide +kernel
theorem dX6_placeIn_26 : decode cX6_placeIn 26 = .ok (.iinc 4 1, 3) := by decide +kernel
theorem dX6_placeIn_29 : decode cX6_placeIn 29 = .ok (.goto (-24), 3) := by decide +kernel
theorem dX6_placeIn_32 : decode cX6_placeIn 32 = .ok (.iload_n 3, 1) := by decide +kernel
theorem dX6_placeIn_33 : decode cX6_placeIn 33 = .ok (.ireturn, 1) := by decide +kernel
theorem dX6_names_0 : decode cX6_names 0 = .ok (.aload_n 0, 1) := by decide +kernel
theorem dX6_names_1 : decode cX6_names 1 = .ok (.iload_n 1, 1) := by decide +kernel
theorem dX6_names_2 : decode cX6_names 2 = .ok (.iconst 4, 1) := by decide +kernel
theorem dX6_names_3 : decode cX6_names 3 = .ok (.invokevirtual 118, 3) := by decide +kernel
theorem dX6_names_6 : decode cX6_names 6 = .ok (.ifCond .eq 7, 3) := by decide +kernel
theorem dX6_names_9 : decode cX6_names 9 = .ok (.iconst 3, 1) := by decide +kernel
theorem dX6_names_10 : decode cX6_names 10 = .ok (.goto 17, 3) := by decide +kernel
theorem dX6_names_13 : decode cX6_names 13 = .ok (.aload_n 0, 1) := by decide +kernel
theorem dX6_names_14 : decode cX6_names 14 = .ok (.iload_n 1, 1) := by decide +kernel
theorem dX6_names_15 : decode cX6_names 15 = .ok (.iconst 3, 1) := by decide +kernel
theorem dX6_names_16 : decode cX6_names 16 = .ok (.invokevirtual 118, 3) := by decide +kernel
theorem dX6_names_19 : decode cX6_names 19 = .ok (.ifCond .eq 7, 3) := by decide +kernel
theorem dX6_names_22 : decode cX6_names 22 = .ok (.iconst 2, 1) := by decide +kernel
theorem dX6_names_23 : decode cX6_names 23 = .ok (.goto 4, 3) := by decide +kernel
theorem dX6_names_26 : decode cX6_names 26 = .ok (.iconst 1, 1) := by decide +kernel
theorem dX6_names_27 : decode cX6_names 27 = .ok (.ireturn, 1) := by decide +kernel
theorem dX6_variantOf_0 : decode cX6_variantOf 0 = .ok (.iload_n 2, 1) := by decide +kernel
theorem dX6_variantOf_1 : decode cX6_variantOf 1 = .ok (.tableswitch 96 0 5 #[39, 47, 55, 62, 68, 81], 39) := by decide +kernel
theorem dX6_variantOf_40 : decode cX6_variantOf 40 = .ok (.aload_n 0, 1) := by decide +kernel
theorem dX6_variantOf_41 : decode cX6_variantOf 41 = .ok (.iload_n 1, 1) := by decide +kernel
theorem dX6_variantOf_42 : decode cX6_variantOf 42 = .ok (.bipush 6, 2) := by decide +kernel
theorem dX6_variantOf_44 : decode cX6_variantOf 44 = .ok (.invokevirtual 118, 3) := by decide +kernel
theorem dX6_variantOf_47 : decode cX6_variantOf 47 = .ok (.ireturn, 1) := by decide +kernel
theorem dX6_variantOf_48 : decode cX6_variantOf 48 = .ok (.aload_n 0, 1) := by decide +kernel
theorem dX6_variantOf_49 : decode cX6_variantOf 49 = .ok (.iload_n 1, 1) := by decide +kernel
theorem dX6_variantOf_50 : decode cX6_variantOf 50 = .ok (.bipush 7, 2) := by decide +kernel
theorem dX6_variantOf_52 : decode cX6_variantOf 52 = .ok (.invokevirtual 118, 3) := by decide +kernel
theorem dX6_variantOf_55 : decode cX6_variantOf 55 = .ok (.ireturn, 1) := by decide +kernel
theorem dX6_variantOf_56 : decode cX6_variantOf 56 = .ok (.aload_n 0, 1) := by decide +kernel
theorem dX6_variantOf_57 : decode cX6_variantOf 57 = .ok (.getfield 25, 3) := by decide +kernel
theorem dX6_variantOf_60 : decode cX6_variantOf 60 = .ok (.iload_n 1, 1) := by decide +kernel
theorem dX6_variantOf_61 : decode cX6_variantOf 61 = .ok (.iaload, 1) := by decide +kernel
theorem dX6_variantOf_62 : decode cX6_variantOf 62 = .ok (.ireturn, 1) := by decide +kernel
theorem dX6_variantOf_63 : decode cX6_variantOf 63 = .ok (.aload_n 0, 1) := by decide +kernel
theorem dX6_variantOf_64 : decode cX6_variantOf 64 = .ok (.iload_n 1, 1) := by decide +kernel
theorem dX6_variantOf_65 : decode cX6_variantOf 65 = .ok (.invokevirtual 199, 3) := by decide +kernel
theorem dX6_variantOf_68 : decode cX6_variantOf 68 = .ok (.ireturn, 1) := by decide +kernel
theorem dX6_variantOf_69 : decode cX6_variantOf 69 = .ok (.aload_n 0, 1) := by decide +kernel
theorem dX6_variantOf_70 : decode cX6_variantOf 70 = .ok (.getfield 32, 3) := by decide +kernel
theorem dX6_variantOf_73 : decode cX6_variantOf 73 = .ok (.aload_n 0, 1) := by decide +kernel
theorem dX6_variantOf_74 : decode cX6_variantOf 74 = .ok (.getfield 164, 3) := by decide +kernel
theorem dX6_variantOf_77 : decode cX6_variantOf 77 = .ok (.iload_n 1, 1) := by decide +kernel
theorem dX6_variantOf_78 : decode cX6_variantOf 78 = .ok (.invokestatic 202, 3) := by decide +kernel
theorem dX6_variantOf_81 : decode cX6_variantOf 81 = .ok (.ireturn, 1) := by decide +kernel
theorem dX6_variantOf_82 : decode cX6_variantOf 82 = .ok (.aload_n 0, 1) := by decide +kernel
theorem dX6_variantOf_83 : decode cX6_variantOf 83 = .ok (.getfield 39, 3) := by decide +kernel
theorem dX6_variantOf_86 : decode cX6_variantOf 86 = .ok (.aload_n 0, 1) := by decide +kernel
theorem dX6_variantOf_87 : decode cX6_variantOf 87 = .ok (.getfield 7, 3) := by decide +kernel
theorem dX6_variantOf_90 : decode cX6_variantOf 90 = .ok (.iconst 0, 1) := by decide +kernel
theorem dX6_variantOf_91 : decode cX6_variantOf 91 = .ok (.iaload, 1) := by decide +kernel
theorem dX6_variantOf_92 : decode cX6_variantOf 92 = .ok (.iload_n 1, 1) := by decide +kernel
theorem dX6_variantOf_93 : decode cX6_variantOf 93 = .ok (.invokestatic 202, 3) := by decide +kernel
theorem dX6_variantOf_96 : decode cX6_variantOf 96 = .ok (.ireturn, 1) := by decide +kernel
theorem dX6_variantOf_97 : decode cX6_variantOf 97 = .ok (.aload_n 0, 1) := by decide +kernel
theorem dX6_variantOf_98 : decode cX6_variantOf 98 = .ok (.iload_n 1, 1) := by decide +kernel
theorem dX6_variantOf_99 : decode cX6_variantOf 99 = .ok (.invokevirtual 206, 3) := by decide +kernel
theorem dX6_variantOf_102 : decode cX6_variantOf 102 = .ok (.ireturn, 1) := by decide +kernel
theorem dX6_variant_0 : decode cX6_variant 0 = .ok (.aload_n 0, 1) := by decide +kernel
theorem dX6_variant_1 : decode cX6_variant 1 = .ok (.aload_n 0, 1) := by decide +kernel
theorem dX6_variant_2 : decode cX6_variant 2 = .ok (.iload_n 1, 1) := by decide +kernel
theorem dX6_variant_3 : decode cX6_variant 3 = .ok (.invokevirtual 124, 3) := by decide +kernel
theorem dX6_variant_6 : decode cX6_variant 6 = .ok (.ifCond .ne 7, 3) := by decide +kernel
theorem dX6_variant_9 : decode cX6_variant 9 = .ok (.iconst 1, 1) := by decide +kernel
theorem dX6_variant_10 : decode cX6_variant 10 = .ok (.goto 18, 3) := by decide +kernel
theorem dX6_variant_13 : decode cX6_variant 13 = .ok (.iload_n 2, 1) := by decide +kernel
theorem dX6_variant_14 : decode cX6_variant 14 = .ok (.iconst 0, 1) := by decide +kernel
theorem dX6_variant_15 : decode cX6_variant 15 = .ok (.bipush 6, 2) := by decide +kernel
theorem dX6_variant_17 : decode cX6_variant 17 = .ok (.invokestatic 51, 3) := by decide +kernel
theorem dX6_variant_20 : decode cX6_variant 20 = .ok (.ifCond .eq 7, 3) := by decide +kernel
theorem dX6_variant_23 : decode cX6_variant 23 = .ok (.iconst 0, 1) := by decide +kernel
theorem dX6_variant_24 : decode cX6_variant 24 = .ok (.goto 4, 3) := by decide +kernel
theorem dX6_variant_27 : decode cX6_variant 27 = .ok (.iconst 2, 1) := by decide +kernel
theorem dX6_variant_28 : decode cX6_variant 28 = .ok (.putfield 45, 3) := by decide +kernel
theorem dX6_variant_31 : decode cX6_variant 31 = .ok (.aload_n 0, 1) := by decide +kernel
theorem dX6_variant_32 : decode cX6_variant 32 = .ok (.getfield 45, 3) := by decide +kernel
theorem dX6_variant_35 : decode cX6_variant 35 = .ok (.ifCond .eq 5, 3) := by decide +kernel
theorem dX6_variant_38 : decode cX6_variant 38 = .ok (.iconst 0, 1) := by decide +kernel
theorem dX6_variant_39 : decode cX6_variant 39 = .ok (.ireturn, 1) := by decide +kernel
theorem dX6_variant_40 : decode cX6_variant 40 = .ok (.aload_n 0, 1) := by decide +kernel
theorem dX6_variant_41 : decode cX6_variant 41 = .ok (.invokevirtual 209, 3) := by decide +kernel
theorem dX6_variant_44 : decode cX6_variant 44 = .ok (.aload_n 0, 1) := by decide +kernel
theorem dX6_variant_45 : decode cX6_variant 45 = .ok (.invokevirtual 193, 3) := by decide +kernel
theorem dX6_variant_48 : decode cX6_variant 48 = .ok (.aload_n 0, 1) := by decide +kernel
theorem dX6_variant_49 : decode cX6_variant 49 = .ok (.iload_n 1, 1) := by decide +kernel
theorem dX6_variant_50 : decode cX6_variant 50 = .ok (.iload_n 2, 1) := by decide +kernel
theorem dX6_variant_51 : decode cX6_variant 51 = .ok (.invokevirtual 212, 3) := by decide +kernel
theorem dX6_variant_54 : decode cX6_variant 54 = .ok (.ireturn, 1) := by decide +kernel
theorem dX6_weight_0 : decode cX6_weight 0 = .ok (.aload_n 0, 1) := by decide +kernel
theorem dX6_weight_1 : decode cX6_weight 1 = .ok (.iload_n 1, 1) := by decide +kernel
theorem dX6_weight_2 : decode cX6_weight 2 = .ok (.iload_n 2, 1) := by decide +kernel
theorem dX6_weight_3 : decode cX6_weight 3 = .ok (.invokestatic 55, 3) := by decide +kernel
theorem dX6_weight_6 : decode cX6_weight 6 = .ok (.ifCond .eq 15, 3) := by decide +kernel
theorem dX6_weight_9 : decode cX6_weight 9 = .ok (.aload_n 0, 1) := by decide +kernel
theorem dX6_weight_10 : decode cX6_weight 10 = .ok (.iload_n 3, 1) := by decide +kernel
theorem dX6_weight_11 : decode cX6_weight 11 = .ok (.invokevirtual 124, 3) := by decide +kernel
theorem dX6_weight_14 : decode cX6_weight 14 = .ok (.ifCond .eq 7, 3) := by decide +kernel
theorem dX6_weight_17 : decode cX6_weight 17 = .ok (.iconst 0, 1) := by decide +kernel
theorem dX6_weight_18 : decode cX6_weight 18 = .ok (.goto 4, 3) := by decide +kernel
theorem dX6_weight_21 : decode cX6_weight 21 = .ok (.iconst 1, 1) := by decide +kernel
theorem dX6_weight_22 : decode cX6_weight 22 = .ok (.putfield 45, 3) := by decide +kernel
theorem dX6_weight_25 : decode cX6_weight 25 = .ok (.aload_n 0, 1) := by decide +kernel
theorem dX6_weight_26 : decode cX6_weight 26 = .ok (.getfield 45, 3) := by decide +kernel
theorem dX6_weight_29 : decode cX6_weight 29 = .ok (.ifCond .eq 5, 3) := by decide +kernel
theorem dX6_weight_32 : decode cX6_weight 32 = .ok (.iconst 0, 1) := by decide +kernel
theorem dX6_weight_33 : decode cX6_weight 33 = .ok (.ireturn, 1) := by decide +kernel
theorem dX6_weight_34 : decode cX6_weight 34 = .ok (.aload_n 0, 1) := by decide +kernel
theorem dX6_weight_35 : decode cX6_weight 35 = .ok (.invokevirtual 173, 3) := by decide +kernel
theorem dX6_weight_38 : decode cX6_weight 38 = .ok (.aload_n 0, 1) := by decide +kernel
theorem dX6_weight_39 : decode cX6_weight 39 = .ok (.iload_n 1, 1) := by decide +kernel
theorem dX6_weight_40 : decode cX6_weight 40 = .ok (.iload_n 2, 1) := by decide +kernel
theorem dX6_weight_41 : decode cX6_weight 41 = .ok (.invokestatic 59, 3) := by decide +kernel
theorem dX6_weight_44 : decode cX6_weight 44 = .ok (.iload_n 3, 1) := by decide +kernel
theorem dX6_weight_45 : decode cX6_weight 45 = .ok (.invokevirtual 155, 3) := by decide +kernel
theorem dX6_weight_48 : decode cX6_weight 48 = .ok (.ireturn, 1) := by decide +kernel
theorem dX6_counting_0 : decode cX6_counting 0 = .ok (.aload_n 0, 1) := by decide +kernel
theorem dX6_counting_1 : decode cX6_counting 1 = .ok (.iload_n 1, 1) := by decide +kernel
theorem dX6_counting_2 : decode cX6_counting 2 = .ok (.iload_n 2, 1) := by decide +kernel
theorem dX6_counting_3 : decode cX6_counting 3 = .ok (.invokestatic 55, 3) := by decide +kernel
theorem dX6_counting_6 : decode cX6_counting 6 = .ok (.ifCond .eq 15, 3) := by decide +kernel
theorem dX6_counting_9 : decode cX6_counting 9 = .ok (.aload_n 0, 1) := by decide +kernel
theorem dX6_counting_10 : decode cX6_counting 10 = .ok (.iload_n 3, 1) := by decide +kernel
theorem dX6_counting_11 : decode cX6_counting 11 = .ok (.invokevirtual 124, 3) := by decide +kernel
theorem dX6_counting_14 : decode cX6_counting 14 = .ok (.ifCond .eq 7, 3) := by decide +kernel
theorem dX6_counting_17 : decode cX6_counting 17 = .ok (.iconst 0, 1) := by decide +kernel
theorem dX6_counting_18 : decode cX6_counting 18 = .ok (.goto 4, 3) := by decide +kernel
theorem dX6_counting_21 : decode cX6_counting 21 = .ok (.iconst 1, 1) := by decide +kernel
theorem dX6_counting_22 : decode cX6_counting 22 = .ok (.putfield 45, 3) := by decide +kernel
theorem dX6_counting_25 : decode cX6_counting 25 = .ok (.aload_n 0, 1) := by decide +kernel
theorem dX6_counting_26 : decode cX6_counting 26 = .ok (.getfield 45, 3) := by decide +kernel
theorem dX6_counting_29 : decode cX6_counting 29 = .ok (.ifCond .eq 7, 3) := by decide +kernel
theorem dX6_counting_32 : decode cX6_counting 32 = .ok (.iconst 0, 1) := by decide +kernel
theorem dX6_counting_33 : decode cX6_counting 33 = .ok (.goto 13, 3) := by decide +kernel
theorem dX6_counting_36 : decode cX6_counting 36 = .ok (.aload_n 0, 1) := by decide +kernel
theorem dX6_counting_37 : decode cX6_counting 37 = .ok (.iload_n 1, 1) := by decide +kernel
theorem dX6_counting_38 : decode cX6_counting 38 = .ok (.iload_n 2, 1) := by decide +kernel
theorem dX6_counting_39 : decode cX6_counting 39 = .ok (.invokestatic 59, 3) := by decide +kernel
theorem dX6_counting_42 : decode cX6_counting 42 = .ok (.iload_n 3, 1) := by decide +kernel
theorem dX6_counting_43 : decode cX6_counting 43 = .ok (.invokevirtual 152, 3) := by decide +kernel
theorem dX6_counting_46 : decode cX6_counting 46 = .ok (.ireturn, 1) := by decide +kernel
theorem dX6_rangeNames_0 : decode cX6_rangeNames 0 = .ok (.iconst 0, 1) := by decide +kernel
theorem dX6_rangeNames_1 : decode cX6_rangeNames 1 = .ok (.istore_n 3, 1) := by decide +kernel
theorem dX6_rangeNames_2 : decode cX6_rangeNames 2 = .ok (.iconst 0, 1) := by decide +kernel
theorem dX6_rangeNames_3 : decode cX6_rangeNames 3 = .ok (.istore 4, 2) := by decide +kernel
theorem dX6_rangeNames_5 : decode cX6_rangeNames 5 = .ok (.iload 4, 2) := by decide +kernel
theorem dX6_rangeNames_7 : decode cX6_rangeNames 7 = .ok (.iconst 3, 1) := by decide +kernel
theorem dX6_rangeNames_8 : decode cX6_rangeNames 8 = .ok (.if_icmp .ge 28, 3) := by decide +kernel
theorem dX6_rangeNames_11 : decode cX6_rangeNames 11 = .ok (.iload_n 3, 1) := by decide +kernel
theorem dX6_rangeNames_12 : decode cX6_rangeNames 12 = .ok (.aload_n 0, 1) := by decide +kernel
theorem dX6_rangeNames_13 : decode cX6_rangeNames 13 = .ok (.iload_n 1, 1) := by decide +kernel
theorem dX6_rangeNames_14 : decode cX6_rangeNames 14 = .ok (.iload_n 2, 1) := by decide +kernel
theorem dX6_rangeNames_15 : decode cX6_rangeNames 15 = .ok (.iload 4, 2) := by decide +kernel
theorem dX6_rangeNames_17 : decode cX6_rangeNames 17 = .ok (.invokevirtual 141, 3) := by decide +kernel
theorem dX6_rangeNames_20 : decode cX6_rangeNames 20 = .ok (.ifCond .eq 7, 3) := by decide +kernel
theorem dX6_rangeNames_23 : decode cX6_rangeNames 23 = .ok (.iconst 1, 1) := by decide +kernel
theorem dX6_rangeNames_24 : decode cX6_rangeNames 24 = .ok (.goto 4, 3) := by decide +kernel
theorem dX6_rangeNames_27 : decode cX6_rangeNames 27 = .ok (.iconst 0, 1) := by decide +kernel
theorem dX6_rangeNames_28 : decode cX6_rangeNames 28 = .ok (.iadd, 1) := by decide +kernel
theorem dX6_rangeNames_29 : decode cX6_rangeNames 29 = .ok (.istore_n 3, 1) := by decide +kernel
theorem dX6_rangeNames_30 : decode cX6_rangeNames 30 = .ok (.iinc 4 1, 3) := by decide +kernel
theorem dX6_rangeNames_33 : decode cX6_rangeNames 33 = .ok (.goto (-28), 3) := by decide +kernel
theorem dX6_rangeNames_36 : decode cX6_rangeNames 36 = .ok (.iload_n 3, 1) := by decide +kernel
theorem dX6_rangeNames_37 : decode cX6_rangeNames 37 = .ok (.ireturn, 1) := by decide +kernel
theorem dX6_entryOf_0 : decode cX6_entryOf 0 = .ok (.iconst 0, 1) := by decide +kernel
theorem dX6_entryOf_1 : decode cX6_entryOf 1 = .ok (.istore 4, 2) := by decide +kernel
theorem dX6_entryOf_3 : decode cX6_entryOf 3 = .ok (.iconst 0, 1) := by decide +kernel
theorem dX6_entryOf_4 : decode cX6_entryOf 4 = .ok (.istore 5, 2) := by decide +kernel
theorem dX6_entryOf_6 : decode cX6_entryOf 6 = .ok (.iconst 0, 1) := by decide +kernel
theorem dX6_entryOf_7 : decode cX6_entryOf 7 = .ok (.istore 6, 2) := by decide +kernel
theorem dX6_entryOf_9 : decode cX6_entryOf 9 = .ok (.iload 6, 2) := by decide +kernel
theorem dX6_entryOf_11 : decode cX6_entryOf 11 = .ok (.aload_n 0, 1) := by decide +kernel
theorem dX6_entryOf_12 : decode cX6_entryOf 12 = .ok (.getfield 7, 3) := by decide +kernel
theorem dX6_entryOf_15 : decode cX6_entryOf 15 = .ok (.iconst 0, 1) := by decide +kernel
theorem dX6_entryOf_16 : decode cX6_entryOf 16 = .ok (.iaload, 1) := by decide +kernel
theorem dX6_entryOf_17 : decode cX6_entryOf 17 = .ok (.if_icmp .ge 52, 3) := by decide +kernel
theorem dX6_entryOf_20 : decode cX6_entryOf 20 = .ok (.iload 4, 2) := by decide +kernel
theorem dX6_entryOf_22 : decode cX6_entryOf 22 = .ok (.aload_n 0, 1) := by decide +kernel
theorem dX6_entryOf_23 : decode cX6_entryOf 23 = .ok (.iload_n 1, 1) := by decide +kernel
theorem dX6_entryOf_24 : decode cX6_entryOf 24 = .ok (.iload_n 2, 1) := by decide +kernel
theorem dX6_entryOf_25 : decode cX6_entryOf 25 = .ok (.iload 6, 2) := by decide +kernel
theorem dX6_entryOf_27 : decode cX6_entryOf 27 = .ok (.invokevirtual 145, 3) := by decide +kernel
theorem dX6_entryOf_30 : decode cX6_entryOf 30 = .ok (.iconst (-1), 1) := by decide +kernel
theorem dX6_entryOf_31 : decode cX6_entryOf 31 = .ok (.if_icmp .eq 7, 3) := by decide +kernel
theorem dX6_entryOf_34 : decode cX6_entryOf 34 = .ok (.iconst 1, 1) := by decide +kernel
theorem dX6_entryOf_35 : decode cX6_entryOf 35 = .ok (.goto 4, 3) := by decide +kernel
theorem dX6_entryOf_38 : decode cX6_entryOf 38 = .ok (.iconst 0, 1) := by decide +kernel
theorem dX6_entryOf_39 : decode cX6_entryOf 39 = .ok (.iadd, 1) := by decide +kernel
theorem dX6_entryOf_40 : decode cX6_entryOf 40 = .ok (.istore 4, 2) := by decide +kernel
theorem dX6_entryOf_42 : decode cX6_entryOf 42 = .ok (.iload 5, 2) := by decide +kernel
theorem dX6_entryOf_44 : decode cX6_entryOf 44 = .ok (.aload_n 0, 1) := by decide +kernel
theorem dX6_entryOf_45 : decode cX6_entryOf 45 = .ok (.iload_n 1, 1) := by decide +kernel
theorem dX6_entryOf_46 : decode cX6_entryOf 46 = .ok (.iload 6, 2) := by decide +kernel
theorem dX6_entryOf_48 : decode cX6_entryOf 48 = .ok (.invokevirtual 152, 3) := by decide +kernel
theorem dX6_entryOf_51 : decode cX6_entryOf 51 = .ok (.iload_n 2, 1) := by decide +kernel
theorem dX6_entryOf_52 : decode cX6_entryOf 52 = .ok (.if_icmp .ne 7, 3) := by decide +kernel
theorem dX6_entryOf_55 : decode cX6_entryOf 55 = .ok (.iconst 1, 1) := by decide +kernel
theorem dX6_entryOf_56 : decode cX6_entryOf 56 = .ok (.goto 4, 3) := by decide +kernel
theorem dX6_entryOf_59 : decode cX6_entryOf 59 = .ok (.iconst 0, 1) := by decide +kernel
theorem dX6_entryOf_60 : decode cX6_entryOf 60 = .ok (.iadd, 1) := by decide +kernel
theorem dX6_entryOf_61 : decode cX6_entryOf 61 = .ok (.istore 5, 2) := by decide +kernel
theorem dX6_entryOf_63 : decode cX6_entryOf 63 = .ok (.iinc 6 1, 3) := by decide +kernel
theorem dX6_entryOf_66 : decode cX6_entryOf 66 = .ok (.goto (-57), 3) := by decide +kernel
theorem dX6_entryOf_69 : decode cX6_entryOf 69 = .ok (.iload_n 3, 1) := by decide +kernel
theorem dX6_entryOf_70 : decode cX6_entryOf 70 = .ok (.ifCond .ne 13, 3) := by decide +kernel
theorem dX6_entryOf_73 : decode cX6_entryOf 73 = .ok (.aload_n 0, 1) := by decide +kernel
theorem dX6_entryOf_74 : decode cX6_entryOf 74 = .ok (.iload_n 1, 1) := by decide +kernel
theorem dX6_entryOf_75 : decode cX6_entryOf 75 = .ok (.iload_n 2, 1) := by decide +kernel
theorem dX6_entryOf_76 : decode cX6_entryOf 76 = .ok (.iconst 3, 1) := by decide +kernel
theorem dX6_entryOf_77 : decode cX6_entryOf 77 = .ok (.invokevirtual 141, 3) := by decide +kernel
theorem dX6_entryOf_80 : decode cX6_entryOf 80 = .ok (.goto 29, 3) := by decide +kernel
theorem dX6_entryOf_83 : decode cX6_entryOf 83 = .ok (.iload_n 3, 1) := by decide +kernel
theorem dX6_entryOf_84 : decode cX6_entryOf 84 = .ok (.iconst 1, 1) := by decide +kernel
theorem dX6_entryOf_85 : decode cX6_entryOf 85 = .ok (.if_icmp .ne 12, 3) := by decide +kernel
theorem dX6_entryOf_88 : decode cX6_entryOf 88 = .ok (.aload_n 0, 1) := by decide +kernel
theorem dX6_entryOf_89 : decode cX6_entryOf 89 = .ok (.iload_n 1, 1) := by decide +kernel
theorem dX6_entryOf_90 : decode cX6_entryOf 90 = .ok (.iload_n 2, 1) := by decide +kernel
theorem dX6_entryOf_91 : decode cX6_entryOf 91 = .ok (.invokevirtual 215, 3) := by decide +kernel
theorem dX6_entryOf_94 : decode cX6_entryOf 94 = .ok (.goto 15, 3) := by decide +kernel
theorem dX6_entryOf_97 : decode cX6_entryOf 97 = .ok (.iload_n 3, 1) := by decide +kernel
theorem dX6_entryOf_98 : decode cX6_entryOf 98 = .ok (.iconst 2, 1) := by decide +kernel
theorem dX6_entryOf_99 : decode cX6_entryOf 99 = .ok (.if_icmp .ne 8, 3) := by decide +kernel
theorem dX6_entryOf_102 : decode cX6_entryOf 102 = .ok (.iload 4, 2) := by decide +kernel
theorem dX6_entryOf_104 : decode cX6_entryOf 104 = .ok (.goto 5, 3) := by decide +kernel
theorem dX6_entryOf_107 : decode cX6_entryOf 107 = .ok (.iload 5, 2) := by decide +kernel
theorem dX6_entryOf_109 : decode cX6_entryOf 109 = .ok (.ireturn, 1) := by decide +kernel
theorem dX6_entry_0 : decode cX6_entry 0 = .ok (.aload_n 0, 1) := by decide +kernel
theorem dX6_entry_1 : decode cX6_entry 1 = .ok (.aload_n 0, 1) := by decide +kernel
theorem dX6_entry_2 : decode cX6_entry 2 = .ok (.iload_n 1, 1) := by decide +kernel
theorem dX6_entry_3 : decode cX6_entry 3 = .ok (.iload_n 2, 1) := by decide +kernel
theorem dX6_entry_4 : decode cX6_entry 4 = .ok (.iload_n 3, 1) := by decide +kernel
theorem dX6_entry_5 : decode cX6_entry 5 = .ok (.invokevirtual 131, 3) := by decide +kernel
theorem dX6_entry_8 : decode cX6_entry 8 = .ok (.ifCond .ne 7, 3) := by decide +kernel
theorem dX6_entry_11 : decode cX6_entry 11 = .ok (.iconst 1, 1) := by decide +kernel
theorem dX6_entry_12 : decode cX6_entry 12 = .ok (.goto 18, 3) := by decide +kernel
theorem dX6_entry_15 : decode cX6_entry 15 = .ok (.iload 4, 2) := by decide +kernel
theorem dX6_entry_17 : decode cX6_entry 17 = .ok (.iconst 0, 1) := by decide +kernel
theorem dX6_entry_18 : decode cX6_entry 18 = .ok (.iconst 3, 1) := by decide +kernel
theorem dX6_entry_19 : decode cX6_entry 19 = .ok (.invokestatic 51, 3) := by decide +kernel
theorem dX6_entry_22 : decode cX6_entry 22 = .ok (.ifCond .eq 7, 3) := by decide +kernel
theorem dX6_entry_25 : decode cX6_entry 25 = .ok (.iconst 0, 1) := by decide +kernel
theorem dX6_entry_26 : decode cX6_entry 26 = .ok (.goto 4, 3) := by decide +kernel
theorem dX6_entry_29 : decode cX6_entry 29 = .ok (.iconst 2, 1) := by decide +kernel
theorem dX6_entry_30 : decode cX6_entry 30 = .ok (.putfield 45, 3) := by decide +kernel
theorem dX6_entry_33 : decode cX6_entry 33 = .ok (.aload_n 0, 1) := by decide +kernel
theorem dX6_entry_34 : decode cX6_entry 34 = .ok (.getfield 45, 3) := by decide +kernel
theorem dX6_entry_37 : decode cX6_entry 37 = .ok (.ifCond .eq 7, 3) := by decide +kernel
theorem dX6_entry_40 : decode cX6_entry 40 = .ok (.iconst 0, 1) := by decide +kernel
theorem dX6_entry_41 : decode cX6_entry 41 = .ok (.goto 15, 3) := by decide +kernel
theorem dX6_entry_44 : decode cX6_entry 44 = .ok (.aload_n 0, 1) := by decide +kernel
theorem dX6_entry_45 : decode cX6_entry 45 = .ok (.iload_n 1, 1) := by decide +kernel
theorem dX6_entry_46 : decode cX6_entry 46 = .ok (.iload_n 2, 1) := by decide +kernel
theorem dX6_entry_47 : decode cX6_entry 47 = .ok (.invokestatic 59, 3) := by decide +kernel
theorem dX6_entry_50 : decode cX6_entry 50 = .ok (.iload_n 3, 1) := by decide +kernel
theorem dX6_entry_51 : decode cX6_entry 51 = .ok (.iload 4, 2) := by decide +kernel
theorem dX6_entry_53 : decode cX6_entry 53 = .ok (.invokevirtual 218, 3) := by decide +kernel
theorem dX6_entry_56 : decode cX6_entry 56 = .ok (.ireturn, 1) := by decide +kernel
theorem dX6_ranked_0 : decode cX6_ranked 0 = .ok (.aload_n 0, 1) := by decide +kernel
theorem dX6_ranked_1 : decode cX6_ranked 1 = .ok (.iload_n 1, 1) := by decide +kernel
theorem dX6_ranked_2 : decode cX6_ranked 2 = .ok (.ifCond .ge 7, 3) := by decide +kernel
theorem dX6_ranked_5 : decode cX6_ranked 5 = .ok (.iconst 1, 1) := by decide +kernel
theorem dX6_ranked_6 : decode cX6_ranked 6 = .ok (.goto 4, 3) := by decide +kernel
theorem dX6_ranked_9 : decode cX6_ranked 9 = .ok (.iconst 0, 1) := by decide +kernel
theorem dX6_ranked_10 : decode cX6_ranked 10 = .ok (.putfield 45, 3) := by decide +kernel
theorem dX6_ranked_13 : decode cX6_ranked 13 = .ok (.aload_n 0, 1) := by decide +kernel
theorem dX6_ranked_14 : decode cX6_ranked 14 = .ok (.getfield 45, 3) := by decide +kernel
theorem dX6_ranked_17 : decode cX6_ranked 17 = .ok (.ifCond .eq 5, 3) := by decide +kernel
theorem dX6_ranked_20 : decode cX6_ranked 20 = .ok (.iconst 0, 1) := by decide +kernel
theorem dX6_ranked_21 : decode cX6_ranked 21 = .ok (.ireturn, 1) := by decide +kernel
theorem dX6_ranked_22 : decode cX6_ranked 22 = .ok (.aload_n 0, 1) := by decide +kernel
theorem dX6_ranked_23 : decode cX6_ranked 23 = .ok (.invokevirtual 209, 3) := by decide +kernel
theorem dX6_ranked_26 : decode cX6_ranked 26 = .ok (.iload_n 1, 1) := by decide +kernel
theorem dX6_ranked_27 : decode cX6_ranked 27 = .ok (.aload_n 0, 1) := by decide +kernel
theorem dX6_ranked_28 : decode cX6_ranked 28 = .ok (.getfield 164, 3) := by decide +kernel
theorem dX6_ranked_31 : decode cX6_ranked 31 = .ok (.if_icmp .ge 12, 3) := by decide +kernel
theorem dX6_ranked_34 : decode cX6_ranked 34 = .ok (.aload_n 0, 1) := by decide +kernel
theorem dX6_ranked_35 : decode cX6_ranked 35 = .ok (.getfield 32, 3) := by decide +kernel
theorem dX6_ranked_38 : decode cX6_ranked 38 = .ok (.iload_n 1, 1) := by decide +kernel
theorem dX6_ranked_39 : decode cX6_ranked 39 = .ok (.iaload, 1) := by decide +kernel
theorem dX6_ranked_40 : decode cX6_ranked 40 = .ok (.goto 4, 3) := by decide +kernel
theorem dX6_ranked_43 : decode cX6_ranked 43 = .ok (.iconst (-1), 1) := by decide +kernel
theorem dX6_ranked_44 : decode cX6_ranked 44 = .ok (.ireturn, 1) := by decide +kernel
theorem dX6_wholeOf_0 : decode cX6_wholeOf 0 = .ok (.iload_n 1, 1) := by decide +kernel
theorem dX6_wholeOf_1 : decode cX6_wholeOf 1 = .ok (.tableswitch 120 0 9 #[55, 62, 67, 72, 95, 95, 103, 108, 108, 108], 55) := by decide +kernel
theorem dX6_wholeOf_56 : decode cX6_wholeOf 56 = .ok (.aload_n 0, 1) := by decide +kernel
theorem dX6_wholeOf_57 : decode cX6_wholeOf 57 = .ok (.getfield 7, 3) := by decide +kernel
theorem dX6_wholeOf_60 : decode cX6_wholeOf 60 = .ok (.iconst 0, 1) := by decide +kernel
theorem dX6_wholeOf_61 : decode cX6_wholeOf 61 = .ok (.iaload, 1) := by decide +kernel
theorem dX6_wholeOf_62 : decode cX6_wholeOf 62 = .ok (.ireturn, 1) := by decide +kernel
theorem dX6_wholeOf_63 : decode cX6_wholeOf 63 = .ok (.aload_n 0, 1) := by decide +kernel
theorem dX6_wholeOf_64 : decode cX6_wholeOf 64 = .ok (.getfield 164, 3) := by decide +kernel
theorem dX6_wholeOf_67 : decode cX6_wholeOf 67 = .ok (.ireturn, 1) := by decide +kernel
theorem dX6_wholeOf_68 : decode cX6_wholeOf 68 = .ok (.aload_n 0, 1) := by decide +kernel
theorem dX6_wholeOf_69 : decode cX6_wholeOf 69 = .ok (.invokevirtual 221, 3) := by decide +kernel
theorem dX6_wholeOf_72 : decode cX6_wholeOf 72 = .ok (.ireturn, 1) := by decide +kernel
theorem dX6_wholeOf_73 : decode cX6_wholeOf 73 = .ok (.aload_n 0, 1) := by decide +kernel
theorem dX6_wholeOf_74 : decode cX6_wholeOf 74 = .ok (.getfield 164, 3) := by decide +kernel
theorem dX6_wholeOf_77 : decode cX6_wholeOf 77 = .ok (.ifCond .ne 7, 3) := by decide +kernel
theorem dX6_wholeOf_80 : decode cX6_wholeOf 80 = .ok (.iconst 0, 1) := by decide +kernel
theorem dX6_wholeOf_81 : decode cX6_wholeOf 81 = .ok (.goto 14, 3) := by decide +kernel
theorem dX6_wholeOf_84 : decode cX6_wholeOf 84 = .ok (.aload_n 0, 1) := by decide +kernel
theorem dX6_wholeOf_85 : decode cX6_wholeOf 85 = .ok (.getfield 25, 3) := by decide +kernel
theorem dX6_wholeOf_88 : decode cX6_wholeOf 88 = .ok (.aload_n 0, 1) := by decide +kernel
theorem dX6_wholeOf_89 : decode cX6_wholeOf 89 = .ok (.getfield 32, 3) := by decide +kernel
theorem dX6_wholeOf_92 : decode cX6_wholeOf 92 = .ok (.iconst 0, 1) := by decide +kernel
theorem dX6_wholeOf_93 : decode cX6_wholeOf 93 = .ok (.iaload, 1) := by decide +kernel
theorem dX6_wholeOf_94 : decode cX6_wholeOf 94 = .ok (.iaload, 1) := by decide +kernel
theorem dX6_wholeOf_95 : decode cX6_wholeOf 95 = .ok (.ireturn, 1) := by decide +kernel
theorem dX6_wholeOf_96 : decode cX6_wholeOf 96 = .ok (.aload_n 0, 1) := by decide +kernel
theorem dX6_wholeOf_97 : decode cX6_wholeOf 97 = .ok (.iload_n 1, 1) := by decide +kernel
theorem dX6_wholeOf_98 : decode cX6_wholeOf 98 = .ok (.iconst 4, 1) := by decide +kernel
theorem dX6_wholeOf_99 : decode cX6_wholeOf 99 = .ok (.isub, 1) := by decide +kernel
theorem dX6_wholeOf_100 : decode cX6_wholeOf 100 = .ok (.invokevirtual 138, 3) := by decide +kernel
theorem dX6_wholeOf_103 : decode cX6_wholeOf 103 = .ok (.ireturn, 1) := by decide +kernel
theorem dX6_wholeOf_104 : decode cX6_wholeOf 104 = .ok (.aload_n 0, 1) := by decide +kernel
theorem dX6_wholeOf_105 : decode cX6_wholeOf 105 = .ok (.getfield 63, 3) := by decide +kernel
theorem dX6_wholeOf_108 : decode cX6_wholeOf 108 = .ok (.ireturn, 1) := by decide +kernel
theorem dX6_wholeOf_109 : decode cX6_wholeOf 109 = .ok (.aload_n 0, 1) := by decide +kernel
theorem dX6_wholeOf_110 : decode cX6_wholeOf 110 = .ok (.getfield 7, 3) := by decide +kernel
theorem dX6_wholeOf_113 : decode cX6_wholeOf 113 = .ok (.iconst 1, 1) := by decide +kernel
theorem dX6_wholeOf_114 : decode cX6_wholeOf 114 = .ok (.iload_n 1, 1) := by decide +kernel
theorem dX6_wholeOf_115 : decode cX6_wholeOf 115 = .ok (.iadd, 1) := by decide +kernel
theorem dX6_wholeOf_116 : decode cX6_wholeOf 116 = .ok (.bipush 7, 2) := by decide +kernel
theorem dX6_wholeOf_118 : decode cX6_wholeOf 118 = .ok (.isub, 1) := by decide +kernel
theorem dX6_wholeOf_119 : decode cX6_wholeOf 119 = .ok (.iaload, 1) := by decide +kernel
theorem dX6_wholeOf_120 : decode cX6_wholeOf 120 = .ok (.ireturn, 1) := by decide +kernel
theorem dX6_wholeOf_121 : decode cX6_wholeOf 121 = .ok (.aload_n 0, 1) := by decide +kernel
theorem dX6_wholeOf_122 : decode cX6_wholeOf 122 = .ok (.getfield 183, 3) := by decide +kernel
theorem dX6_wholeOf_125 : decode cX6_wholeOf 125 = .ok (.ireturn, 1) := by decide +kernel
theorem dX6_whole_0 : decode cX6_whole 0 = .ok (.aload_n 0, 1) := by decide +kernel
theorem dX6_whole_1 : decode cX6_whole 1 = .ok (.iload_n 1, 1) := by decide +kernel
theorem dX6_whole_2 : decode cX6_whole 2 = .ok (.iconst 0, 1) := by decide +kernel
theorem dX6_whole_3 : decode cX6_whole 3 = .ok (.bipush 10, 2) := by decide +kernel
theorem dX6_whole_5 : decode cX6_whole 5 = .ok (.invokestatic 51, 3) := by decide +kernel
theorem dX6_whole_8 : decode cX6_whole 8 = .ok (.ifCond .eq 7, 3) := by decide +kernel
theorem dX6_whole_11 : decode cX6_whole 11 = .ok (.iconst 0, 1) := by decide +kernel
theorem dX6_whole_12 : decode cX6_whole 12 = .ok (.goto 4, 3) := by decide +kernel
theorem dX6_whole_15 : decode cX6_whole 15 = .ok (.iconst 1, 1) := by decide +kernel
theorem dX6_whole_16 : decode cX6_whole 16 = .ok (.putfield 45, 3) := by decide +kernel
theorem dX6_whole_19 : decode cX6_whole 19 = .ok (.aload_n 0, 1) := by decide +kernel
theorem dX6_whole_20 : decode cX6_whole 20 = .ok (.getfield 45, 3) := by decide +kernel
theorem dX6_whole_23 : decode cX6_whole 23 = .ok (.ifCond .eq 5, 3) := by decide +kernel
theorem dX6_whole_26 : decode cX6_whole 26 = .ok (.iconst 0, 1) := by decide +kernel
theorem dX6_whole_27 : decode cX6_whole 27 = .ok (.ireturn, 1) := by decide +kernel
theorem dX6_whole_28 : decode cX6_whole 28 = .ok (.aload_n 0, 1) := by decide +kernel
theorem dX6_whole_29 : decode cX6_whole 29 = .ok (.invokevirtual 209, 3) := by decide +kernel
theorem dX6_whole_32 : decode cX6_whole 32 = .ok (.aload_n 0, 1) := by decide +kernel
theorem dX6_whole_33 : decode cX6_whole 33 = .ok (.invokevirtual 224, 3) := by decide +kernel
theorem dX6_whole_36 : decode cX6_whole 36 = .ok (.aload_n 0, 1) := by decide +kernel
theorem dX6_whole_37 : decode cX6_whole 37 = .ok (.iload_n 1, 1) := by decide +kernel
theorem dX6_whole_38 : decode cX6_whole 38 = .ok (.invokevirtual 227, 3) := by decide +kernel
theorem dX6_whole_41 : decode cX6_whole 41 = .ok (.ireturn, 1) := by decide +kernel
theorem dX6_listed_0 : decode cX6_listed 0 = .ok (.aload_n 0, 1) := by decide +kernel
theorem dX6_listed_1 : decode cX6_listed 1 = .ok (.iload_n 1, 1) := by decide +kernel
theorem dX6_listed_2 : decode cX6_listed 2 = .ok (.ifCond .ge 7, 3) := by decide +kernel
theorem dX6_listed_5 : decode cX6_listed 5 = .ok (.iconst 1, 1) := by decide +kernel
theorem dX6_listed_6 : decode cX6_listed 6 = .ok (.goto 4, 3) := by decide +kernel
theorem dX6_listed_9 : decode cX6_listed 9 = .ok (.iconst 0, 1) := by decide +kernel
theorem dX6_listed_10 : decode cX6_listed 10 = .ok (.putfield 45, 3) := by decide +kernel
theorem dX6_listed_13 : decode cX6_listed 13 = .ok (.aload_n 0, 1) := by decide +kernel
theorem dX6_listed_14 : decode cX6_listed 14 = .ok (.getfield 45, 3) := by decide +kernel
theorem dX6_listed_17 : decode cX6_listed 17 = .ok (.ifCond .eq 5, 3) := by decide +kernel
theorem dX6_listed_20 : decode cX6_listed 20 = .ok (.iconst 0, 1) := by decide +kernel
theorem dX6_listed_21 : decode cX6_listed 21 = .ok (.ireturn, 1) := by decide +kernel
theorem dX6_listed_22 : decode cX6_listed 22 = .ok (.aload_n 0, 1) := by decide +kernel
theorem dX6_listed_23 : decode cX6_listed 23 = .ok (.invokevirtual 193, 3) := by decide +kernel
theorem dX6_listed_26 : decode cX6_listed 26 = .ok (.iload_n 1, 1) := by decide +kernel
theorem dX6_listed_27 : decode cX6_listed 27 = .ok (.aload_n 0, 1) := by decide +kernel
theorem dX6_listed_28 : decode cX6_listed 28 = .ok (.getfield 7, 3) := by decide +kernel
theorem dX6_listed_31 : decode cX6_listed 31 = .ok (.iconst 0, 1) := by decide +kernel
theorem dX6_listed_32 : decode cX6_listed 32 = .ok (.iaload, 1) := by decide +kernel
theorem dX6_listed_33 : decode cX6_listed 33 = .ok (.if_icmp .ge 12, 3) := by decide +kernel
theorem dX6_listed_36 : decode cX6_listed 36 = .ok (.aload_n 0, 1) := by decide +kernel
theorem dX6_listed_37 : decode cX6_listed 37 = .ok (.getfield 39, 3) := by decide +kernel
theorem dX6_listed_40 : decode cX6_listed 40 = .ok (.iload_n 1, 1) := by decide +kernel
theorem dX6_listed_41 : decode cX6_listed 41 = .ok (.iaload, 1) := by decide +kernel
theorem dX6_listed_42 : decode cX6_listed 42 = .ok (.goto 4, 3) := by decide +kernel
theorem dX6_listed_45 : decode cX6_listed 45 = .ok (.iconst (-1), 1) := by decide +kernel
theorem dX6_listed_46 : decode cX6_listed 46 = .ok (.ireturn, 1) := by decide +kernel
theorem dX6_listingByte_0 : decode cX6_listingByte 0 = .ok (.aload_n 0, 1) := by decide +kernel
theorem dX6_listingByte_1 : decode cX6_listingByte 1 = .ok (.iload_n 1, 1) := by decide +kernel
theorem dX6_listingByte_2 : decode cX6_listingByte 2 = .ok (.ifCond .ge 7, 3) := by decide +kernel
theorem dX6_listingByte_5 : decode cX6_listingByte 5 = .ok (.iconst 1, 1) := by decide +kernel
theorem dX6_listingByte_6 : decode cX6_listingByte 6 = .ok (.goto 4, 3) := by decide +kernel
theorem dX6_listingByte_9 : decode cX6_listingByte 9 = .ok (.iconst 0, 1) := by decide +kernel
theorem dX6_listingByte_10 : decode cX6_listingByte 10 = .ok (.putfield 45, 3) := by decide +kernel
theorem dX6_listingByte_13 : decode cX6_listingByte 13 = .ok (.aload_n 0, 1) := by decide +kernel
theorem dX6_listingByte_14 : decode cX6_listingByte 14 = .ok (.getfield 45, 3) := by decide +kernel
theorem dX6_listingByte_17 : decode cX6_listingByte 17 = .ok (.ifCond .eq 5, 3) := by decide +kernel
theorem dX6_listingByte_20 : decode cX6_listingByte 20 = .ok (.iconst 0, 1) := by decide +kernel
theorem dX6_listingByte_21 : decode cX6_listingByte 21 = .ok (.ireturn, 1) := by decide +kernel
theorem dX6_listingByte_22 : decode cX6_listingByte 22 = .ok (.aload_n 0, 1) := by decide +kernel
theorem dX6_listingByte_23 : decode cX6_listingByte 23 = .ok (.invokevirtual 224, 3) := by decide +kernel
theorem dX6_listingByte_26 : decode cX6_listingByte 26 = .ok (.iload_n 1, 1) := by decide +kernel
theorem dX6_listingByte_27 : decode cX6_listingByte 27 = .ok (.aload_n 0, 1) := by decide +kernel
theorem dX6_listingByte_28 : decode cX6_listingByte 28 = .ok (.getfield 183, 3) := by decide +kernel
theorem dX6_listingByte_31 : decode cX6_listingByte 31 = .ok (.if_icmp .ge 12, 3) := by decide +kernel
theorem dX6_listingByte_34 : decode cX6_listingByte 34 = .ok (.aload_n 0, 1) := by decide +kernel
theorem dX6_listingByte_35 : decode cX6_listingByte 35 = .ok (.getfield 42, 3) := by decide +kernel
theorem dX6_listingByte_38 : decode cX6_listingByte 38 = .ok (.iload_n 1, 1) := by decide +kernel
theorem dX6_listingByte_39 : decode cX6_listingByte 39 = .ok (.iaload, 1) := by decide +kernel
theorem dX6_listingByte_40 : decode cX6_listingByte 40 = .ok (.goto 4, 3) := by decide +kernel
theorem dX6_listingByte_43 : decode cX6_listingByte 43 = .ok (.iconst (-1), 1) := by decide +kernel
theorem dX6_listingByte_44 : decode cX6_listingByte 44 = .ok (.ireturn, 1) := by decide +kernel
theorem dX6_servedBy_0 : decode cX6_servedBy 0 = .ok (.aload_n 0, 1) := by decide +kernel
theorem dX6_servedBy_1 : decode cX6_servedBy 1 = .ok (.invokevirtual 173, 3) := by decide +kernel
theorem dX6_servedBy_4 : decode cX6_servedBy 4 = .ok (.aload_n 0, 1) := by decide +kernel
theorem dX6_servedBy_5 : decode cX6_servedBy 5 = .ok (.iconst 1, 1) := by decide +kernel
theorem dX6_servedBy_6 : decode cX6_servedBy 6 = .ok (.iload_n 1, 1) := by decide +kernel
theorem dX6_servedBy_7 : decode cX6_servedBy 7 = .ok (.isub, 1) := by decide +kernel
theorem dX6_servedBy_8 : decode cX6_servedBy 8 = .ok (.putfield 35, 3) := by decide +kernel
theorem dX6_servedBy_11 : decode cX6_servedBy 11 = .ok (.aload_n 0, 1) := by decide +kernel
theorem dX6_servedBy_12 : decode cX6_servedBy 12 = .ok (.iconst (-1), 1) := by decide +kernel
theorem dX6_servedBy_13 : decode cX6_servedBy 13 = .ok (.invokevirtual 176, 3) := by decide +kernel
theorem dX6_servedBy_16 : decode cX6_servedBy 16 = .ok (.aload_n 0, 1) := by decide +kernel
theorem dX6_servedBy_17 : decode cX6_servedBy 17 = .ok (.iconst (-1), 1) := by decide +kernel
theorem dX6_servedBy_18 : decode cX6_servedBy 18 = .ok (.putfield 35, 3) := by decide +kernel
theorem dX6_servedBy_21 : decode cX6_servedBy 21 = .ok (.aload_n 0, 1) := by decide +kernel
theorem dX6_servedBy_22 : decode cX6_servedBy 22 = .ok (.invokevirtual 221, 3) := by decide +kernel
theorem dX6_servedBy_25 : decode cX6_servedBy 25 = .ok (.ireturn, 1) := by decide +kernel
theorem dX6_servedFor_0 : decode cX6_servedFor 0 = .ok (.aload_n 0, 1) := by decide +kernel
theorem dX6_servedFor_1 : decode cX6_servedFor 1 = .ok (.iload_n 1, 1) := by decide +kernel
theorem dX6_servedFor_2 : decode cX6_servedFor 2 = .ok (.iconst 0, 1) := by decide +kernel
theorem dX6_servedFor_3 : decode cX6_servedFor 3 = .ok (.iconst 1, 1) := by decide +kernel
theorem dX6_servedFor_4 : decode cX6_servedFor 4 = .ok (.invokestatic 51, 3) := by decide +kernel
theorem dX6_servedFor_7 : decode cX6_servedFor 7 = .ok (.ifCond .eq 7, 3) := by decide +kernel
theorem dX6_servedFor_10 : decode cX6_servedFor 10 = .ok (.iconst 0, 1) := by decide +kernel
theorem dX6_servedFor_11 : decode cX6_servedFor 11 = .ok (.goto 4, 3) := by decide +kernel
theorem dX6_servedFor_14 : decode cX6_servedFor 14 = .ok (.iconst 1, 1) := by decide +kernel
theorem dX6_servedFor_15 : decode cX6_servedFor 15 = .ok (.putfield 45, 3) := by decide +kernel
theorem dX6_servedFor_18 : decode cX6_servedFor 18 = .ok (.aload_n 0, 1) := by decide +kernel
theorem dX6_servedFor_19 : decode cX6_servedFor 19 = .ok (.getfield 45, 3) := by decide +kernel
theorem dX6_servedFor_22 : decode cX6_servedFor 22 = .ok (.ifCond .eq 7, 3) := by decide +kernel
theorem dX6_servedFor_25 : decode cX6_servedFor 25 = .ok (.iconst 0, 1) := by decide +kernel
theorem dX6_servedFor_26 : decode cX6_servedFor 26 = .ok (.goto 8, 3) := by decide +kernel
theorem dX6_servedFor_29 : decode cX6_servedFor 29 = .ok (.aload_n 0, 1) := by decide +kernel
theorem dX6_servedFor_30 : decode cX6_servedFor 30 = .ok (.iload_n 1, 1) := by decide +kernel
theorem dX6_servedFor_31 : decode cX6_servedFor 31 = .ok (.invokevirtual 230, 3) := by decide +kernel
theorem dX6_servedFor_34 : decode cX6_servedFor 34 = .ok (.ireturn, 1) := by decide +kernel
theorem dX6_servedWithout_0 : decode cX6_servedWithout 0 = .ok (.aload_n 0, 1) := by decide +kernel
theorem dX6_servedWithout_1 : decode cX6_servedWithout 1 = .ok (.aload_n 0, 1) := by decide +kernel
theorem dX6_servedWithout_2 : decode cX6_servedWithout 2 = .ok (.iload_n 1, 1) := by decide +kernel
theorem dX6_servedWithout_3 : decode cX6_servedWithout 3 = .ok (.invokevirtual 124, 3) := by decide +kernel
theorem dX6_servedWithout_6 : decode cX6_servedWithout 6 = .ok (.ifCond .eq 7, 3) := by decide +kernel
theorem dX6_servedWithout_9 : decode cX6_servedWithout 9 = .ok (.iconst 0, 1) := by decide +kernel
theorem dX6_servedWithout_10 : decode cX6_servedWithout 10 = .ok (.goto 4, 3) := by decide +kernel
theorem dX6_servedWithout_13 : decode cX6_servedWithout 13 = .ok (.iconst 1, 1) := by decide +kernel
theorem dX6_servedWithout_14 : decode cX6_servedWithout 14 = .ok (.putfield 45, 3) := by decide +kernel
theorem dX6_servedWithout_17 : decode cX6_servedWithout 17 = .ok (.aload_n 0, 1) := by decide +kernel
theorem dX6_servedWithout_18 : decode cX6_servedWithout 18 = .ok (.getfield 45, 3) := by decide +kernel
theorem dX6_servedWithout_21 : decode cX6_servedWithout 21 = .ok (.ifCond .eq 5, 3) := by decide +kernel
theorem dX6_servedWithout_24 : decode cX6_servedWithout 24 = .ok (.iconst 0, 1) := by decide +kernel
theorem dX6_servedWithout_25 : decode cX6_servedWithout 25 = .ok (.ireturn, 1) := by decide +kernel
theorem dX6_servedWithout_26 : decode cX6_servedWithout 26 = .ok (.aload_n 0, 1) := by decide +kernel
theorem dX6_servedWithout_27 : decode cX6_servedWithout 27 = .ok (.invokevirtual 173, 3) := by decide +kernel
theorem dX6_servedWithout_30 : decode cX6_servedWithout 30 = .ok (.aload_n 0, 1) := by decide +kernel
theorem dX6_servedWithout_31 : decode cX6_servedWithout 31 = .ok (.iload_n 1, 1) := by decide +kernel
theorem dX6_servedWithout_32 : decode cX6_servedWithout 32 = .ok (.invokevirtual 176, 3) := by decide +kernel
theorem dX6_servedWithout_35 : decode cX6_servedWithout 35 = .ok (.aload_n 0, 1) := by decide +kernel
theorem dX6_servedWithout_36 : decode cX6_servedWithout 36 = .ok (.invokevirtual 221, 3) := by decide +kernel
theorem dX6_servedWithout_39 : decode cX6_servedWithout 39 = .ok (.ireturn, 1) := by decide +kernel
theorem dX6_leastIn_0 : decode cX6_leastIn 0 = .ok (.aload_n 0, 1) := by decide +kernel
theorem dX6_leastIn_1 : decode cX6_leastIn 1 = .ok (.getfield 7, 3) := by decide +kernel
theorem dX6_leastIn_4 : decode cX6_leastIn 4 = .ok (.iload_n 1, 1) := by decide +kernel
theorem dX6_leastIn_5 : decode cX6_leastIn 5 = .ok (.iaload, 1) := by decide +kernel
theorem dX6_leastIn_6 : decode cX6_leastIn 6 = .ok (.istore_n 3, 1) := by decide +kernel
theorem dX6_leastIn_7 : decode cX6_leastIn 7 = .ok (.iconst (-1), 1) := by decide +kernel
theorem dX6_leastIn_8 : decode cX6_leastIn 8 = .ok (.istore 4, 2) := by decide +kernel
theorem dX6_leastIn_10 : decode cX6_leastIn 10 = .ok (.aload_n 0, 1) := by decide +kernel
theorem dX6_leastIn_11 : decode cX6_leastIn 11 = .ok (.invokevirtual 173, 3) := by decide +kernel
theorem dX6_leastIn_14 : decode cX6_leastIn 14 = .ok (.iconst 0, 1) := by decide +kernel
theorem dX6_leastIn_15 : decode cX6_leastIn 15 = .ok (.istore 5, 2) := by decide +kernel
theorem dX6_leastIn_17 : decode cX6_leastIn 17 = .ok (.iload 5, 2) := by decide +kernel
theorem dX6_leastIn_19 : decode cX6_leastIn 19 = .ok (.sipush 1000, 3) := by decide +kernel
theorem dX6_leastIn_22 : decode cX6_leastIn 22 = .ok (.if_icmp .gt 44, 3) := by decide +kernel
theorem dX6_leastIn_25 : decode cX6_leastIn 25 = .ok (.iload 4, 2) := by decide +kernel
theorem dX6_leastIn_27 : decode cX6_leastIn 27 = .ok (.iconst (-1), 1) := by decide +kernel
theorem dX6_leastIn_28 : decode cX6_leastIn 28 = .ok (.if_icmp .ne 38, 3) := by decide +kernel
theorem dX6_leastIn_31 : decode cX6_leastIn 31 = .ok (.aload_n 0, 1) := by decide +kernel
theorem dX6_leastIn_32 : decode cX6_leastIn 32 = .ok (.getfield 7, 3) := by decide +kernel
theorem dX6_leastIn_35 : decode cX6_leastIn 35 = .ok (.iload_n 1, 1) := by decide +kernel
theorem dX6_leastIn_36 : decode cX6_leastIn 36 = .ok (.iload 5, 2) := by decide +kernel
theorem dX6_leastIn_38 : decode cX6_leastIn 38 = .ok (.iastore, 1) := by decide +kernel
theorem dX6_leastIn_39 : decode cX6_leastIn 39 = .ok (.aload_n 0, 1) := by decide +kernel
theorem dX6_leastIn_40 : decode cX6_leastIn 40 = .ok (.iconst (-1), 1) := by decide +kernel
theorem dX6_leastIn_41 : decode cX6_leastIn 41 = .ok (.invokevirtual 176, 3) := by decide +kernel
theorem dX6_leastIn_44 : decode cX6_leastIn 44 = .ok (.aload_n 0, 1) := by decide +kernel
theorem dX6_leastIn_45 : decode cX6_leastIn 45 = .ok (.invokevirtual 221, 3) := by decide +kernel
theorem dX6_leastIn_48 : decode cX6_leastIn 48 = .ok (.iload_n 2, 1) := by decide +kernel
theorem dX6_leastIn_49 : decode cX6_leastIn 49 = .ok (.if_icmp .ne 8, 3) := by decide +kernel
theorem dX6_leastIn_52 : decode cX6_leastIn 52 = .ok (.iload 5, 2) := by decide +kernel
theorem dX6_leastIn_54 : decode cX6_leastIn 54 = .ok (.goto 4, 3) := by decide +kernel
theorem dX6_leastIn_57 : decode cX6_leastIn 57 = .ok (.iconst (-1), 1) := by decide +kernel
theorem dX6_leastIn_58 : decode cX6_leastIn 58 = .ok (.istore 4, 2) := by decide +kernel
theorem dX6_leastIn_60 : decode cX6_leastIn 60 = .ok (.iinc 5 1, 3) := by decide +kernel
theorem dX6_leastIn_63 : decode cX6_leastIn 63 = .ok (.goto (-46), 3) := by decide +kernel
theorem dX6_leastIn_66 : decode cX6_leastIn 66 = .ok (.aload_n 0, 1) := by decide +kernel
theorem dX6_leastIn_67 : decode cX6_leastIn 67 = .ok (.getfield 7, 3) := by decide +kernel
theorem dX6_leastIn_70 : decode cX6_leastIn 70 = .ok (.iload_n 1, 1) := by decide +kernel
theorem dX6_leastIn_71 : decode cX6_leastIn 71 = .ok (.iload_n 3, 1) := by decide +kernel
theorem dX6_leastIn_72 : decode cX6_leastIn 72 = .ok (.iastore, 1) := by decide +kernel
theorem dX6_leastIn_73 : decode cX6_leastIn 73 = .ok (.iload 4, 2) := by decide +kernel
theorem dX6_leastIn_75 : decode cX6_leastIn 75 = .ok (.ireturn, 1) := by decide +kernel
theorem dX6_leastWeight_0 : decode cX6_leastWeight 0 = .ok (.aload_n 0, 1) := by decide +kernel
theorem dX6_leastWeight_1 : decode cX6_leastWeight 1 = .ok (.aload_n 0, 1) := by decide +kernel
theorem dX6_leastWeight_2 : decode cX6_leastWeight 2 = .ok (.iload_n 1, 1) := by decide +kernel
theorem dX6_leastWeight_3 : decode cX6_leastWeight 3 = .ok (.iload_n 2, 1) := by decide +kernel
theorem dX6_leastWeight_4 : decode cX6_leastWeight 4 = .ok (.iload_n 3, 1) := by decide +kernel
theorem dX6_leastWeight_5 : decode cX6_leastWeight 5 = .ok (.invokevirtual 131, 3) := by decide +kernel
theorem dX6_leastWeight_8 : decode cX6_leastWeight 8 = .ok (.ifCond .eq 16, 3) := by decide +kernel
theorem dX6_leastWeight_11 : decode cX6_leastWeight 11 = .ok (.aload_n 0, 1) := by decide +kernel
theorem dX6_leastWeight_12 : decode cX6_leastWeight 12 = .ok (.iload 4, 2) := by decide +kernel
theorem dX6_leastWeight_14 : decode cX6_leastWeight 14 = .ok (.invokevirtual 124, 3) := by decide +kernel
theorem dX6_leastWeight_17 : decode cX6_leastWeight 17 = .ok (.ifCond .eq 7, 3) := by decide +kernel
theorem dX6_leastWeight_20 : decode cX6_leastWeight 20 = .ok (.iconst 0, 1) := by decide +kernel
theorem dX6_leastWeight_21 : decode cX6_leastWeight 21 = .ok (.goto 4, 3) := by decide +kernel
theorem dX6_leastWeight_24 : decode cX6_leastWeight 24 = .ok (.iconst 1, 1) := by decide +kernel
theorem dX6_leastWeight_25 : decode cX6_leastWeight 25 = .ok (.putfield 45, 3) := by decide +kernel
theorem dX6_leastWeight_28 : decode cX6_leastWeight 28 = .ok (.aload_n 0, 1) := by decide +kernel
theorem dX6_leastWeight_29 : decode cX6_leastWeight 29 = .ok (.getfield 45, 3) := by decide +kernel
theorem dX6_leastWeight_32 : decode cX6_leastWeight 32 = .ok (.ifCond .eq 7, 3) := by decide +kernel
theorem dX6_leastWeight_35 : decode cX6_leastWeight 35 = .ok (.iconst 0, 1) := by decide +kernel
theorem dX6_leastWeight_36 : decode cX6_leastWeight 36 = .ok (.goto 27, 3) := by decide +kernel
theorem dX6_leastWeight_39 : decode cX6_leastWeight 39 = .ok (.aload_n 0, 1) := by decide +kernel
theorem dX6_leastWeight_40 : decode cX6_leastWeight 40 = .ok (.sipush 138, 3) := by decide +kernel
theorem dX6_leastWeight_43 : decode cX6_leastWeight 43 = .ok (.bipush 40, 2) := by decide +kernel
theorem dX6_leastWeight_45 : decode cX6_leastWeight 45 = .ok (.iload_n 1, 1) := by decide +kernel
theorem dX6_leastWeight_46 : decode cX6_leastWeight 46 = .ok (.iload_n 2, 1) := by decide +kernel
theorem dX6_leastWeight_47 : decode cX6_leastWeight 47 = .ok (.invokestatic 59, 3) := by decide +kernel
theorem dX6_leastWeight_50 : decode cX6_leastWeight 50 = .ok (.imul, 1) := by decide +kernel
theorem dX6_leastWeight_51 : decode cX6_leastWeight 51 = .ok (.iadd, 1) := by decide +kernel
theorem dX6_leastWeight_52 : decode cX6_leastWeight 52 = .ok (.iconst 4, 1) := by decide +kernel
theorem dX6_leastWeight_53 : decode cX6_leastWeight 53 = .ok (.iload_n 3, 1) := by decide +kernel
theorem dX6_leastWeight_54 : decode cX6_leastWeight 54 = .ok (.imul, 1) := by decide +kernel
theorem dX6_leastWeight_55 : decode cX6_leastWeight 55 = .ok (.iadd, 1) := by decide +kernel
theorem dX6_leastWeight_56 : decode cX6_leastWeight 56 = .ok (.iconst 3, 1) := by decide +kernel
theorem dX6_leastWeight_57 : decode cX6_leastWeight 57 = .ok (.iadd, 1) := by decide +kernel
theorem dX6_leastWeight_58 : decode cX6_leastWeight 58 = .ok (.iload 4, 2) := by decide +kernel
theorem dX6_leastWeight_60 : decode cX6_leastWeight 60 = .ok (.invokevirtual 233, 3) := by decide +kernel
theorem dX6_leastWeight_63 : decode cX6_leastWeight 63 = .ok (.ireturn, 1) := by decide +kernel
theorem dX6_leastQuality_0 : decode cX6_leastQuality 0 = .ok (.aload_n 0, 1) := by decide +kernel
theorem dX6_leastQuality_1 : decode cX6_leastQuality 1 = .ok (.aload_n 0, 1) := by decide +kernel
theorem dX6_leastQuality_2 : decode cX6_leastQuality 2 = .ok (.iload_n 1, 1) := by decide +kernel
theorem dX6_leastQuality_3 : decode cX6_leastQuality 3 = .ok (.invokevirtual 124, 3) := by decide +kernel
theorem dX6_leastQuality_6 : decode cX6_leastQuality 6 = .ok (.ifCond .eq 7, 3) := by decide +kernel
theorem dX6_leastQuality_9 : decode cX6_leastQuality 9 = .ok (.iconst 0, 1) := by decide +kernel
theorem dX6_leastQuality_10 : decode cX6_leastQuality 10 = .ok (.goto 4, 3) := by decide +kernel
theorem dX6_leastQuality_13 : decode cX6_leastQuality 13 = .ok (.iconst 1, 1) := by decide +kernel
theorem dX6_leastQuality_14 : decode cX6_leastQuality 14 = .ok (.putfield 45, 3) := by decide +kernel
theorem dX6_leastQuality_17 : decode cX6_leastQuality 17 = .ok (.aload_n 0, 1) := by decide +kernel
theorem dX6_leastQuality_18 : decode cX6_leastQuality 18 = .ok (.getfield 45, 3) := by decide +kernel
theorem dX6_leastQuality_21 : decode cX6_leastQuality 21 = .ok (.ifCond .eq 7, 3) := by decide +kernel
theorem dX6_leastQuality_24 : decode cX6_leastQuality 24 = .ok (.iconst 0, 1) := by decide +kernel
theorem dX6_leastQuality_25 : decode cX6_leastQuality 25 = .ok (.goto 18, 3) := by decide +kernel
theorem dX6_leastQuality_28 : decode cX6_leastQuality 28 = .ok (.aload_n 0, 1) := by decide +kernel
theorem dX6_leastQuality_29 : decode cX6_leastQuality 29 = .ok (.bipush 10, 2) := by decide +kernel
theorem dX6_leastQuality_31 : decode cX6_leastQuality 31 = .ok (.bipush 8, 2) := by decide +kernel
theorem dX6_leastQuality_33 : decode cX6_leastQuality 33 = .ok (.iload_n 1, 1) := by decide +kernel
theorem dX6_leastQuality_34 : decode cX6_leastQuality 34 = .ok (.imul, 1) := by decide +kernel
theorem dX6_leastQuality_35 : decode cX6_leastQuality 35 = .ok (.iadd, 1) := by decide +kernel
theorem dX6_leastQuality_36 : decode cX6_leastQuality 36 = .ok (.bipush 7, 2) := by decide +kernel
theorem dX6_leastQuality_38 : decode cX6_leastQuality 38 = .ok (.iadd, 1) := by decide +kernel
theorem dX6_leastQuality_39 : decode cX6_leastQuality 39 = .ok (.iload_n 1, 1) := by decide +kernel
theorem dX6_leastQuality_40 : decode cX6_leastQuality 40 = .ok (.invokevirtual 233, 3) := by decide +kernel
theorem dX6_leastQuality_43 : decode cX6_leastQuality 43 = .ok (.ireturn, 1) := by decide +kernel
theorem dX6_agree_0 : decode cX6_agree 0 = .ok (.aload_n 0, 1) := by decide +kernel
theorem dX6_agree_1 : decode cX6_agree 1 = .ok (.iconst 0, 1) := by decide +kernel
theorem dX6_agree_2 : decode cX6_agree 2 = .ok (.putfield 45, 3) := by decide +kernel
theorem dX6_agree_5 : decode cX6_agree 5 = .ok (.aload_n 0, 1) := by decide +kernel
theorem dX6_agree_6 : decode cX6_agree 6 = .ok (.iconst 0, 1) := by decide +kernel
theorem dX6_agree_7 : decode cX6_agree 7 = .ok (.invokevirtual 230, 3) := by decide +kernel
theorem dX6_agree_10 : decode cX6_agree 10 = .ok (.aload_n 0, 1) := by decide +kernel
theorem dX6_agree_11 : decode cX6_agree 11 = .ok (.iconst 1, 1) := by decide +kernel
theorem dX6_agree_12 : decode cX6_agree 12 = .ok (.invokevirtual 230, 3) := by decide +kernel
theorem dX6_agree_15 : decode cX6_agree 15 = .ok (.if_icmp .ne 7, 3) := by decide +kernel
theorem dX6_agree_18 : decode cX6_agree 18 = .ok (.iconst 1, 1) := by decide +kernel
theorem dX6_agree_19 : decode cX6_agree 19 = .ok (.goto 4, 3) := by decide +kernel
theorem dX6_agree_22 : decode cX6_agree 22 = .ok (.iconst 0, 1) := by decide +kernel
theorem dX6_agree_23 : decode cX6_agree 23 = .ok (.ireturn, 1) := by decide +kernel
theorem dX6_undo_0 : decode cX6_undo 0 = .ok (.aload_n 0, 1) := by decide +kernel
theorem dX6_undo_1 : decode cX6_undo 1 = .ok (.aload_n 0, 1) := by decide +kernel
theorem dX6_undo_2 : decode cX6_undo 2 = .ok (.getfield 48, 3) := by decide +kernel
theorem dX6_undo_5 : decode cX6_undo 5 = .ok (.ifCond .ne 7, 3) := by decide +kernel
theorem dX6_undo_8 : decode cX6_undo 8 = .ok (.iconst 1, 1) := by decide +kernel
theorem dX6_undo_9 : decode cX6_undo 9 = .ok (.goto 4, 3) := by decide +kernel
theorem dX6_undo_12 : decode cX6_undo 12 = .ok (.iconst 0, 1) := by decide +kernel
theorem dX6_undo_13 : decode cX6_undo 13 = .ok (.putfield 45, 3) := by decide +kernel
theorem dX6_undo_16 : decode cX6_undo 16 = .ok (.aload_n 0, 1) := by decide +kernel
theorem dX6_undo_17 : decode cX6_undo 17 = .ok (.getfield 45, 3) := by decide +kernel
theorem dX6_undo_20 : decode cX6_undo 20 = .ok (.ifCond .eq 5, 3) := by decide +kernel
theorem dX6_undo_23 : decode cX6_undo 23 = .ok (.iconst 0, 1) := by decide +kernel
theorem dX6_undo_24 : decode cX6_undo 24 = .ok (.ireturn, 1) := by decide +kernel
theorem dX6_undo_25 : decode cX6_undo 25 = .ok (.aload_n 0, 1) := by decide +kernel
theorem dX6_undo_26 : decode cX6_undo 26 = .ok (.dup, 1) := by decide +kernel
theorem dX6_undo_27 : decode cX6_undo 27 = .ok (.getfield 48, 3) := by decide +kernel
theorem dX6_undo_30 : decode cX6_undo 30 = .ok (.iconst 1, 1) := by decide +kernel
theorem dX6_undo_31 : decode cX6_undo 31 = .ok (.isub, 1) := by decide +kernel
theorem dX6_undo_32 : decode cX6_undo 32 = .ok (.putfield 48, 3) := by decide +kernel
theorem dX6_undo_35 : decode cX6_undo 35 = .ok (.iconst 0, 1) := by decide +kernel
theorem dX6_undo_36 : decode cX6_undo 36 = .ok (.istore_n 1, 1) := by decide +kernel
theorem dX6_undo_37 : decode cX6_undo 37 = .ok (.iload_n 1, 1) := by decide +kernel
theorem dX6_undo_38 : decode cX6_undo 38 = .ok (.sipush 378, 3) := by decide +kernel
theorem dX6_undo_41 : decode cX6_undo 41 = .ok (.if_icmp .ge 30, 3) := by decide +kernel
theorem dX6_undo_44 : decode cX6_undo 44 = .ok (.aload_n 0, 1) := by decide +kernel
theorem dX6_undo_45 : decode cX6_undo 45 = .ok (.getfield 7, 3) := by decide +kernel
theorem dX6_undo_48 : decode cX6_undo 48 = .ok (.iload_n 1, 1) := by decide +kernel
theorem dX6_undo_49 : decode cX6_undo 49 = .ok (.aload_n 0, 1) := by decide +kernel
theorem dX6_undo_50 : decode cX6_undo 50 = .ok (.getfield 13, 3) := by decide +kernel
theorem dX6_undo_53 : decode cX6_undo 53 = .ok (.sipush 378, 3) := by decide +kernel
theorem dX6_undo_56 : decode cX6_undo 56 = .ok (.aload_n 0, 1) := by decide +kernel
theorem dX6_undo_57 : decode cX6_undo 57 = .ok (.getfield 48, 3) := by decide +kernel
theorem dX6_undo_60 : decode cX6_undo 60 = .ok (.imul, 1) := by decide +kernel
theorem dX6_undo_61 : decode cX6_undo 61 = .ok (.iload_n 1, 1) := by decide +kernel
theorem dX6_undo_62 : decode cX6_undo 62 = .ok (.iadd, 1) := by decide +kernel
theorem dX6_undo_63 : decode cX6_undo 63 = .ok (.iaload, 1) := by decide +kernel
theorem dX6_undo_64 : decode cX6_undo 64 = .ok (.iastore, 1) := by decide +kernel
theorem dX6_undo_65 : decode cX6_undo 65 = .ok (.iinc 1 1, 3) := by decide +kernel
theorem dX6_undo_68 : decode cX6_undo 68 = .ok (.goto (-31), 3) := by decide +kernel
theorem dX6_undo_71 : decode cX6_undo 71 = .ok (.aload_n 0, 1) := by decide +kernel
theorem dX6_undo_72 : decode cX6_undo 72 = .ok (.getfield 48, 3) := by decide +kernel
theorem dX6_undo_75 : decode cX6_undo 75 = .ok (.ireturn, 1) := by decide +kernel
theorem dX6_mix_0 : decode cX6_mix 0 = .ok (.aload_n 0, 1) := by decide +kernel
theorem dX6_mix_1 : decode cX6_mix 1 = .ok (.ldc2_w 236, 3) := by decide +kernel
theorem dX6_mix_4 : decode cX6_mix 4 = .ok (.aload_n 0, 1) := by decide +kernel
theorem dX6_mix_5 : decode cX6_mix 5 = .ok (.getfield 238, 3) := by decide +kernel
theorem dX6_mix_8 : decode cX6_mix 8 = .ok (.lmul, 1) := by decide +kernel
theorem dX6_mix_9 : decode cX6_mix 9 = .ok (.lload_n 1, 1) := by decide +kernel
theorem dX6_mix_10 : decode cX6_mix 10 = .ok (.ladd, 1) := by decide +kernel
theorem dX6_mix_11 : decode cX6_mix 11 = .ok (.putfield 238, 3) := by decide +kernel
theorem dX6_mix_14 : decode cX6_mix 14 = .ok (.return_, 1) := by decide +kernel
theorem dX6_mixThings_0 : decode cX6_mixThings 0 = .ok (.iconst 0, 1) := by decide +kernel
theorem dX6_mixThings_1 : decode cX6_mixThings 1 = .ok (.istore_n 1, 1) := by decide +kernel
theorem dX6_mixThings_2 : decode cX6_mixThings 2 = .ok (.iload_n 1, 1) := by decide +kernel
theorem dX6_mixThings_3 : decode cX6_mixThings 3 = .ok (.aload_n 0, 1) := by decide +kernel
theorem dX6_mixThings_4 : decode cX6_mixThings 4 = .ok (.getfield 7, 3) := by decide +kernel
theorem dX6_mixThings_7 : decode cX6_mixThings 7 = .ok (.iconst 0, 1) := by decide +kernel
theorem dX6_mixThings_8 : decode cX6_mixThings 8 = .ok (.iaload, 1) := by decide +kernel
theorem dX6_mixThings_9 : decode cX6_mixThings 9 = .ok (.if_icmp .ge 59, 3) := by decide +kernel
theorem dX6_mixThings_12 : decode cX6_mixThings 12 = .ok (.iconst 0, 1) := by decide +kernel
theorem dX6_mixThings_13 : decode cX6_mixThings 13 = .ok (.istore_n 2, 1) := by decide +kernel
theorem dX6_mixThings_14 : decode cX6_mixThings 14 = .ok (.iload_n 2, 1) := by decide +kernel
theorem dX6_mixThings_15 : decode cX6_mixThings 15 = .ok (.bipush 7, 2) := by decide +kernel
theorem dX6_mixThings_17 : decode cX6_mixThings 17 = .ok (.if_icmp .ge 20, 3) := by decide +kernel
theorem dX6_mixThings_20 : decode cX6_mixThings 20 = .ok (.aload_n 0, 1) := by decide +kernel
theorem dX6_mixThings_21 : decode cX6_mixThings 21 = .ok (.aload_n 0, 1) := by decide +kernel
theorem dX6_mixThings_22 : decode cX6_mixThings 22 = .ok (.iload_n 1, 1) := by decide +kernel
theorem dX6_mixThings_23 : decode cX6_mixThings 23 = .ok (.iload_n 2, 1) := by decide +kernel
theorem dX6_mixThings_24 : decode cX6_mixThings 24 = .ok (.invokevirtual 212, 3) := by decide +kernel
theorem dX6_mixThings_27 : decode cX6_mixThings 27 = .ok (.i2l, 1) := by decide +kernel
theorem dX6_mixThings_28 : decode cX6_mixThings 28 = .ok (.invokevirtual 242, 3) := by decide +kernel
theorem dX6_mixThings_31 : decode cX6_mixThings 31 = .ok (.iinc 2 1, 3) := by decide +kernel
theorem dX6_mixThings_34 : decode cX6_mixThings 34 = .ok (.goto (-20), 3) := by decide +kernel
theorem dX6_mixThings_37 : decode cX6_mixThings 37 = .ok (.iconst 0, 1) := by decide +kernel
theorem dX6_mixThings_38 : decode cX6_mixThings 38 = .ok (.istore_n 2, 1) := by decide +kernel
theorem dX6_mixThings_39 : decode cX6_mixThings 39 = .ok (.iload_n 2, 1) := by decide +kernel
theorem dX6_mixThings_40 : decode cX6_mixThings 40 = .ok (.bipush 6, 2) := by decide +kernel
theorem dX6_mixThings_42 : decode cX6_mixThings 42 = .ok (.if_icmp .ge 20, 3) := by decide +kernel
theorem dX6_mixThings_45 : decode cX6_mixThings 45 = .ok (.aload_n 0, 1) := by decide +kernel
theorem dX6_mixThings_46 : decode cX6_mixThings 46 = .ok (.aload_n 0, 1) := by decide +kernel
theorem dX6_mixThings_47 : decode cX6_mixThings 47 = .ok (.iload_n 2, 1) := by decide +kernel
theorem dX6_mixThings_48 : decode cX6_mixThings 48 = .ok (.iload_n 1, 1) := by decide +kernel
theorem dX6_mixThings_49 : decode cX6_mixThings 49 = .ok (.invokevirtual 155, 3) := by decide +kernel
theorem dX6_mixThings_52 : decode cX6_mixThings 52 = .ok (.i2l, 1) := by decide +kernel
theorem dX6_mixThings_53 : decode cX6_mixThings 53 = .ok (.invokevirtual 242, 3) := by decide +kernel
theorem dX6_mixThings_56 : decode cX6_mixThings 56 = .ok (.iinc 2 1, 3) := by decide +kernel
theorem dX6_mixThings_59 : decode cX6_mixThings 59 = .ok (.goto (-20), 3) := by decide +kernel
theorem dX6_mixThings_62 : decode cX6_mixThings 62 = .ok (.iinc 1 1, 3) := by decide +kernel
theorem dX6_mixThings_65 : decode cX6_mixThings 65 = .ok (.goto (-63), 3) := by decide +kernel
theorem dX6_mixThings_68 : decode cX6_mixThings 68 = .ok (.iconst 0, 1) := by decide +kernel
theorem dX6_mixThings_69 : decode cX6_mixThings 69 = .ok (.istore_n 1, 1) := by decide +kernel
theorem dX6_mixThings_70 : decode cX6_mixThings 70 = .ok (.iload_n 1, 1) := by decide +kernel
theorem dX6_mixThings_71 : decode cX6_mixThings 71 = .ok (.bipush 6, 2) := by decide +kernel
theorem dX6_mixThings_73 : decode cX6_mixThings 73 = .ok (.if_icmp .ge 47, 3) := by decide +kernel
theorem dX6_mixThings_76 : decode cX6_mixThings 76 = .ok (.iconst 0, 1) := by decide +kernel
theorem dX6_mixThings_77 : decode cX6_mixThings 77 = .ok (.istore_n 2, 1) := by decide +kernel
theorem dX6_mixThings_78 : decode cX6_mixThings 78 = .ok (.iload_n 2, 1) := by decide +kernel
theorem dX6_mixThings_79 : decode cX6_mixThings 79 = .ok (.iconst 4, 1) := by decide +kernel
theorem dX6_mixThings_80 : decode cX6_mixThings 80 = .ok (.aload_n 0, 1) := by decide +kernel
theorem dX6_mixThings_81 : decode cX6_mixThings 81 = .ok (.getfield 7, 3) := by decide +kernel
theorem dX6_mixThings_84 : decode cX6_mixThings 84 = .ok (.iconst 4, 1) := by decide +kernel
theorem dX6_mixThings_85 : decode cX6_mixThings 85 = .ok (.iload_n 1, 1) := by decide +kernel
theorem dX6_mixThings_86 : decode cX6_mixThings 86 = .ok (.iadd, 1) := by decide +kernel
theorem dX6_mixThings_87 : decode cX6_mixThings 87 = .ok (.iaload, 1) := by decide +kernel
theorem dX6_mixThings_88 : decode cX6_mixThings 88 = .ok (.imul, 1) := by decide +kernel
theorem dX6_mixThings_89 : decode cX6_mixThings 89 = .ok (.if_icmp .ge 25, 3) := by decide +kernel
theorem dX6_mixThings_92 : decode cX6_mixThings 92 = .ok (.aload_n 0, 1) := by decide +kernel
theorem dX6_mixThings_93 : decode cX6_mixThings 93 = .ok (.aload_n 0, 1) := by decide +kernel
theorem dX6_mixThings_94 : decode cX6_mixThings 94 = .ok (.iload_n 1, 1) := by decide +kernel
theorem dX6_mixThings_95 : decode cX6_mixThings 95 = .ok (.iload_n 2, 1) := by decide +kernel
theorem dX6_mixThings_96 : decode cX6_mixThings 96 = .ok (.iconst 4, 1) := by decide +kernel
theorem dX6_mixThings_97 : decode cX6_mixThings 97 = .ok (.idiv, 1) := by decide +kernel
theorem dX6_mixThings_98 : decode cX6_mixThings 98 = .ok (.iload_n 2, 1) := by decide +kernel
theorem dX6_mixThings_99 : decode cX6_mixThings 99 = .ok (.iconst 4, 1) := by decide +kernel
theorem dX6_mixThings_100 : decode cX6_mixThings 100 = .ok (.irem, 1) := by decide +kernel
theorem dX6_mixThings_101 : decode cX6_mixThings 101 = .ok (.invokevirtual 218, 3) := by decide +kernel
theorem dX6_mixThings_104 : decode cX6_mixThings 104 = .ok (.i2l, 1) := by decide +kernel
theorem dX6_mixThings_105 : decode cX6_mixThings 105 = .ok (.invokevirtual 242, 3) := by decide +kernel
theorem dX6_mixThings_108 : decode cX6_mixThings 108 = .ok (.iinc 2 1, 3) := by decide +kernel
theorem dX6_mixThings_111 : decode cX6_mixThings 111 = .ok (.goto (-33), 3) := by decide +kernel
theorem dX6_mixThings_114 : decode cX6_mixThings 114 = .ok (.iinc 1 1, 3) := by decide +kernel
theorem dX6_mixThings_117 : decode cX6_mixThings 117 = .ok (.goto (-47), 3) := by decide +kernel
theorem dX6_mixThings_120 : decode cX6_mixThings 120 = .ok (.return_, 1) := by decide +kernel
theorem dX6_digest_0 : decode cX6_digest 0 = .ok (.aload_n 0, 1) := by decide +kernel
theorem dX6_digest_1 : decode cX6_digest 1 = .ok (.iconst 0, 1) := by decide +kernel
theorem dX6_digest_2 : decode cX6_digest 2 = .ok (.putfield 45, 3) := by decide +kernel
theorem dX6_digest_5 : decode cX6_digest 5 = .ok (.aload_n 0, 1) := by decide +kernel
theorem dX6_digest_6 : decode cX6_digest 6 = .ok (.invokevirtual 209, 3) := by decide +kernel
theorem dX6_digest_9 : decode cX6_digest 9 = .ok (.aload_n 0, 1) := by decide +kernel
theorem dX6_digest_10 : decode cX6_digest 10 = .ok (.invokevirtual 224, 3) := by decide +kernel
theorem dX6_digest_13 : decode cX6_digest 13 = .ok (.aload_n 0, 1) := by decide +kernel
theorem dX6_digest_14 : decode cX6_digest 14 = .ok (.ldc2_w 246, 3) := by decide +kernel
theorem dX6_digest_17 : decode cX6_digest 17 = .ok (.putfield 238, 3) := by decide +kernel
theorem dX6_digest_20 : decode cX6_digest 20 = .ok (.aload_n 0, 1) := by decide +kernel
theorem dX6_digest_21 : decode cX6_digest 21 = .ok (.aload_n 0, 1) := by decide +kernel
theorem dX6_digest_22 : decode cX6_digest 22 = .ok (.getfield 48, 3) := by decide +kernel
theorem dX6_digest_25 : decode cX6_digest 25 = .ok (.i2l, 1) := by decide +kernel
theorem dX6_digest_26 : decode cX6_digest 26 = .ok (.invokevirtual 242, 3) := by decide +kernel
theorem dX6_digest_29 : decode cX6_digest 29 = .ok (.iconst 0, 1) := by decide +kernel
theorem dX6_digest_30 : decode cX6_digest 30 = .ok (.istore_n 1, 1) := by decide +kernel
theorem dX6_digest_31 : decode cX6_digest 31 = .ok (.iload_n 1, 1) := by decide +kernel
theorem dX6_digest_32 : decode cX6_digest 32 = .ok (.bipush 11, 2) := by decide +kernel
theorem dX6_digest_34 : decode cX6_digest 34 = .ok (.if_icmp .ge 19, 3) := by decide +kernel
theorem dX6_digest_37 : decode cX6_digest 37 = .ok (.aload_n 0, 1) := by decide +kernel
theorem dX6_digest_38 : decode cX6_digest 38 = .ok (.aload_n 0, 1) := by decide +kernel
theorem dX6_digest_39 : decode cX6_digest 39 = .ok (.iload_n 1, 1) := by decide +kernel
theorem dX6_digest_40 : decode cX6_digest 40 = .ok (.invokevirtual 227, 3) := by decide +kernel
theorem dX6_digest_43 : decode cX6_digest 43 = .ok (.i2l, 1) := by decide +kernel
theorem dX6_digest_44 : decode cX6_digest 44 = .ok (.invokevirtual 242, 3) := by decide +kernel
theorem dX6_digest_47 : decode cX6_digest 47 = .ok (.iinc 1 1, 3) := by decide +kernel
theorem dX6_digest_50 : decode cX6_digest 50 = .ok (.goto (-19), 3) := by decide +kernel
theorem dX6_digest_53 : decode cX6_digest 53 = .ok (.aload_n 0, 1) := by decide +kernel
theorem dX6_digest_54 : decode cX6_digest 54 = .ok (.invokevirtual 248, 3) := by decide +kernel
theorem dX6_digest_57 : decode cX6_digest 57 = .ok (.iconst 0, 1) := by decide +kernel
theorem dX6_digest_58 : decode cX6_digest 58 = .ok (.istore_n 1, 1) := by decide +kernel
theorem dX6_digest_59 : decode cX6_digest 59 = .ok (.iload_n 1, 1) := by decide +kernel
theorem dX6_digest_60 : decode cX6_digest 60 = .ok (.aload_n 0, 1) := by decide +kernel
theorem dX6_digest_61 : decode cX6_digest 61 = .ok (.getfield 164, 3) := by decide +kernel
theorem dX6_digest_64 : decode cX6_digest 64 = .ok (.if_icmp .ge 20, 3) := by decide +kernel
theorem dX6_digest_67 : decode cX6_digest 67 = .ok (.aload_n 0, 1) := by decide +kernel
theorem dX6_digest_68 : decode cX6_digest 68 = .ok (.aload_n 0, 1) := by decide +kernel
theorem dX6_digest_69 : decode cX6_digest 69 = .ok (.getfield 32, 3) := by decide +kernel
theorem dX6_digest_72 : decode cX6_digest 72 = .ok (.iload_n 1, 1) := by decide +kernel
theorem dX6_digest_73 : decode cX6_digest 73 = .ok (.iaload, 1) := by decide +kernel
theorem dX6_digest_74 : decode cX6_digest 74 = .ok (.i2l, 1) := by decide +kernel
theorem dX6_digest_75 : decode cX6_digest 75 = .ok (.invokevirtual 242, 3) := by decide +kernel
theorem dX6_digest_78 : decode cX6_digest 78 = .ok (.iinc 1 1, 3) := by decide +kernel
theorem dX6_digest_81 : decode cX6_digest 81 = .ok (.goto (-22), 3) := by decide +kernel
theorem dX6_digest_84 : decode cX6_digest 84 = .ok (.iconst 0, 1) := by decide +kernel
theorem dX6_digest_85 : decode cX6_digest 85 = .ok (.istore_n 1, 1) := by decide +kernel
theorem dX6_digest_86 : decode cX6_digest 86 = .ok (.iload_n 1, 1) := by decide +kernel
theorem dX6_digest_87 : decode cX6_digest 87 = .ok (.aload_n 0, 1) := by decide +kernel
theorem dX6_digest_88 : decode cX6_digest 88 = .ok (.getfield 183, 3) := by decide +kernel
theorem dX6_digest_91 : decode cX6_digest 91 = .ok (.if_icmp .ge 20, 3) := by decide +kernel
theorem dX6_digest_94 : decode cX6_digest 94 = .ok (.aload_n 0, 1) := by decide +kernel
theorem dX6_digest_95 : decode cX6_digest 95 = .ok (.aload_n 0, 1) := by decide +kernel
theorem dX6_digest_96 : decode cX6_digest 96 = .ok (.getfield 42, 3) := by decide +kernel
theorem dX6_digest_99 : decode cX6_digest 99 = .ok (.iload_n 1, 1) := by decide +kernel
theorem dX6_digest_100 : decode cX6_digest 100 = .ok (.iaload, 1) := by decide +kernel
theorem dX6_digest_101 : decode cX6_digest 101 = .ok (.i2l, 1) := by decide +kernel
theorem dX6_digest_102 : decode cX6_digest 102 = .ok (.invokevirtual 242, 3) := by decide +kernel
theorem dX6_digest_105 : decode cX6_digest 105 = .ok (.iinc 1 1, 3) := by decide +kernel
theorem dX6_digest_108 : decode cX6_digest 108 = .ok (.goto (-22), 3) := by decide +kernel
theorem dX6_digest_111 : decode cX6_digest 111 = .ok (.aload_n 0, 1) := by decide +kernel
theorem dX6_digest_112 : decode cX6_digest 112 = .ok (.getfield 238, 3) := by decide +kernel
theorem dX6_digest_115 : decode cX6_digest 115 = .ok (.lreturn, 1) := by decide +kernel
theorem dL_type_0 : decode cL_type 0 = .ok (.aload_n 2, 1) := by decide +kernel
theorem dL_type_1 : decode cL_type 1 = .ok (.iconst 0, 1) := by decide +kernel
theorem dL_type_2 : decode cL_type 2 = .ok (.aload_n 0, 1) := by decide +kernel
theorem dL_type_3 : decode cL_type 3 = .ok (.iload_n 1, 1) := by decide +kernel
theorem dL_type_4 : decode cL_type 4 = .ok (.invokevirtual 7, 3) := by decide +kernel
theorem dL_type_7 : decode cL_type 7 = .ok (.i2l, 1) := by decide +kernel
theorem dL_type_8 : decode cL_type 8 = .ok (.lastore, 1) := by decide +kernel
theorem dL_type_9 : decode cL_type 9 = .ok (.goto 9, 3) := by decide +kernel
theorem dL_type_12 : decode cL_type 12 = .ok (.astore_n 3, 1) := by decide +kernel
theorem dL_type_13 : decode cL_type 13 = .ok (.iconst 1, 1) := by decide +kernel
theorem dL_type_14 : decode cL_type 14 = .ok (.ireturn, 1) := by decide +kernel
theorem dL_type_15 : decode cL_type 15 = .ok (.astore_n 3, 1) := by decide +kernel
theorem dL_type_16 : decode cL_type 16 = .ok (.iconst 2, 1) := by decide +kernel
theorem dL_type_17 : decode cL_type 17 = .ok (.ireturn, 1) := by decide +kernel
theorem dL_type_18 : decode cL_type 18 = .ok (.iconst 0, 1) := by decide +kernel
theorem dL_type_19 : decode cL_type 19 = .ok (.ireturn, 1) := by decide +kernel
theorem dL_listFault_0 : decode cL_listFault 0 = .ok (.aload_n 2, 1) := by decide +kernel
theorem dL_listFault_1 : decode cL_listFault 1 = .ok (.iconst 0, 1) := by decide +kernel
theorem dL_listFault_2 : decode cL_listFault 2 = .ok (.aload_n 0, 1) := by decide +kernel
theorem dL_listFault_3 : decode cL_listFault 3 = .ok (.iload_n 1, 1) := by decide +kernel
theorem dL_listFault_4 : decode cL_listFault 4 = .ok (.invokevirtual 17, 3) := by decide +kernel
theorem dL_listFault_7 : decode cL_listFault 7 = .ok (.i2l, 1) := by decide +kernel
theorem dL_listFault_8 : decode cL_listFault 8 = .ok (.lastore, 1) := by decide +kernel
theorem dL_listFault_9 : decode cL_listFault 9 = .ok (.goto 6, 3) := by decide +kernel
theorem dL_listFault_12 : decode cL_listFault 12 = .ok (.astore_n 3, 1) := by decide +kernel
theorem dL_listFault_13 : decode cL_listFault 13 = .ok (.iconst 1, 1) := by decide +kernel
theorem dL_listFault_14 : decode cL_listFault 14 = .ok (.ireturn, 1) := by decide +kernel
theorem dL_listFault_15 : decode cL_listFault 15 = .ok (.iconst 0, 1) := by decide +kernel
theorem dL_listFault_16 : decode cL_listFault 16 = .ok (.ireturn, 1) := by decide +kernel
theorem dL_takeList_0 : decode cL_takeList 0 = .ok (.aload_n 3, 1) := by decide +kernel
theorem dL_takeList_1 : decode cL_takeList 1 = .ok (.iconst 0, 1) := by decide +kernel
theorem dL_takeList_2 : decode cL_takeList 2 = .ok (.aload_n 0, 1) := by decide +kernel
theorem dL_takeList_3 : decode cL_takeList 3 = .ok (.iload_n 1, 1) := by decide +kernel
theorem dL_takeList_4 : decode cL_takeList 4 = .ok (.iload_n 2, 1) := by decide +kernel
theorem dL_takeList_5 : decode cL_takeList 5 = .ok (.invokevirtual 22, 3) := by decide +kernel
theorem dL_takeList_8 : decode cL_takeList 8 = .ok (.i2l, 1) := by decide +kernel
theorem dL_takeList_9 : decode cL_takeList 9 = .ok (.lastore, 1) := by decide +kernel
theorem dL_takeList_10 : decode cL_takeList 10 = .ok (.goto 7, 3) := by decide +kernel
theorem dL_takeList_13 : decode cL_takeList 13 = .ok (.astore 4, 2) := by decide +kernel
theorem dL_takeList_15 : decode cL_takeList 15 = .ok (.iconst 1, 1) := by decide +kernel
theorem dL_takeList_16 : decode cL_takeList 16 = .ok (.ireturn, 1) := by decide +kernel
theorem dL_takeList_17 : decode cL_takeList 17 = .ok (.iconst 0, 1) := by decide +kernel
theorem dL_takeList_18 : decode cL_takeList 18 = .ok (.ireturn, 1) := by decide +kernel
theorem dL_addVariant_0 : decode cL_addVariant 0 = .ok (.aload_n 1, 1) := by decide +kernel
theorem dL_addVariant_1 : decode cL_addVariant 1 = .ok (.iconst 0, 1) := by decide +kernel
theorem dL_addVariant_2 : decode cL_addVariant 2 = .ok (.aload_n 0, 1) := by decide +kernel
theorem dL_addVariant_3 : decode cL_addVariant 3 = .ok (.invokevirtual 26, 3) := by decide +kernel
theorem dL_addVariant_6 : decode cL_addVariant 6 = .ok (.i2l, 1) := by decide +kernel
theorem dL_addVariant_7 : decode cL_addVariant 7 = .ok (.lastore, 1) := by decide +kernel
theorem dL_addVariant_8 : decode cL_addVariant 8 = .ok (.goto 6, 3) := by decide +kernel
theorem dL_addVariant_11 : decode cL_addVariant 11 = .ok (.astore_n 2, 1) := by decide +kernel
theorem dL_addVariant_12 : decode cL_addVariant 12 = .ok (.iconst 1, 1) := by decide +kernel
theorem dL_addVariant_13 : decode cL_addVariant 13 = .ok (.ireturn, 1) := by decide +kernel
theorem dL_addVariant_14 : decode cL_addVariant 14 = .ok (.iconst 0, 1) := by decide +kernel
theorem dL_addVariant_15 : decode cL_addVariant 15 = .ok (.ireturn, 1) := by decide +kernel
theorem dL_removeVariant_0 : decode cL_removeVariant 0 = .ok (.aload_n 2, 1) := by decide +kernel
theorem dL_removeVariant_1 : decode cL_removeVariant 1 = .ok (.iconst 0, 1) := by decide +kernel
theorem dL_removeVariant_2 : decode cL_removeVariant 2 = .ok (.aload_n 0, 1) := by decide +kernel
theorem dL_removeVariant_3 : decode cL_removeVariant 3 = .ok (.iload_n 1, 1) := by decide +kernel
theorem dL_removeVariant_4 : decode cL_removeVariant 4 = .ok (.invokevirtual 30, 3) := by decide +kernel
theorem dL_removeVariant_7 : decode cL_removeVariant 7 = .ok (.i2l, 1) := by decide +kernel
theorem dL_removeVariant_8 : decode cL_removeVariant 8 = .ok (.lastore, 1) := by decide +kernel
theorem dL_removeVariant_9 : decode cL_removeVariant 9 = .ok (.goto 6, 3) := by decide +kernel
theorem dL_removeVariant_12 : decode cL_removeVariant 12 = .ok (.astore_n 3, 1) := by decide +kernel
theorem dL_removeVariant_13 : decode cL_removeVariant 13 = .ok (.iconst 1, 1) := by decide +kernel
theorem dL_removeVariant_14 : decode cL_removeVariant 14 = .ok (.ireturn, 1) := by decide +kernel
theorem dL_removeVariant_15 : decode cL_removeVariant 15 = .ok (.iconst 0, 1) := by decide +kernel
theorem dL_removeVariant_16 : decode cL_removeVariant 16 = .ok (.ireturn, 1) := by decide +kernel
theorem dL_setQuality_0 : decode cL_setQuality 0 = .ok (.aload_n 3, 1) := by decide +kernel
theorem dL_setQuality_1 : decode cL_setQuality 1 = .ok (.iconst 0, 1) := by decide +kernel
theorem dL_setQuality_2 : decode cL_setQuality 2 = .ok (.aload_n 0, 1) := by decide +kernel
theorem dL_setQuality_3 : decode cL_setQuality 3 = .ok (.iload_n 1, 1) := by decide +kernel
theorem dL_setQuality_4 : decode cL_setQuality 4 = .ok (.iload_n 2, 1) := by decide +kernel
theorem dL_setQuality_5 : decode cL_setQuality 5 = .ok (.invokevirtual 33, 3) := by decide +kernel
theorem dL_setQuality_8 : decode cL_setQuality 8 = .ok (.i2l, 1) := by decide +kernel
theorem dL_setQuality_9 : decode cL_setQuality 9 = .ok (.lastore, 1) := by decide +kernel
theorem dL_setQuality_10 : decode cL_setQuality 10 = .ok (.goto 11, 3) := by decide +kernel
theorem dL_setQuality_13 : decode cL_setQuality 13 = .ok (.astore 4, 2) := by decide +kernel
theorem dL_setQuality_15 : decode cL_setQuality 15 = .ok (.iconst 1, 1) := by decide +kernel
theorem dL_setQuality_16 : decode cL_setQuality 16 = .ok (.ireturn, 1) := by decide +kernel
theorem dL_setQuality_17 : decode cL_setQuality 17 = .ok (.astore 4, 2) := by decide +kernel
theorem dL_setQuality_19 : decode cL_setQuality 19 = .ok (.iconst 2, 1) := by decide +kernel
theorem dL_setQuality_20 : decode cL_setQuality 20 = .ok (.ireturn, 1) := by decide +kernel
theorem dL_setQuality_21 : decode cL_setQuality 21 = .ok (.iconst 0, 1) := by decide +kernel
theorem dL_setQuality_22 : decode cL_setQuality 22 = .ok (.ireturn, 1) := by decide +kernel
theorem dL_setSize_0 : decode cL_setSize 0 = .ok (.aload_n 3, 1) := by decide +kernel
theorem dL_setSize_1 : decode cL_setSize 1 = .ok (.iconst 0, 1) := by decide +kernel
theorem dL_setSize_2 : decode cL_setSize 2 = .ok (.aload_n 0, 1) := by decide +kernel
theorem dL_setSize_3 : decode cL_setSize 3 = .ok (.iload_n 1, 1) := by decide +kernel
theorem dL_setSize_4 : decode cL_setSize 4 = .ok (.iload_n 2, 1) := by decide +kernel
theorem dL_setSize_5 : decode cL_setSize 5 = .ok (.invokevirtual 36, 3) := by decide +kernel
theorem dL_setSize_8 : decode cL_setSize 8 = .ok (.i2l, 1) := by decide +kernel
theorem dL_setSize_9 : decode cL_setSize 9 = .ok (.lastore, 1) := by decide +kernel
theorem dL_setSize_10 : decode cL_setSize 10 = .ok (.goto 11, 3) := by decide +kernel
theorem dL_setSize_13 : decode cL_setSize 13 = .ok (.astore 4, 2) := by decide +kernel
theorem dL_setSize_15 : decode cL_setSize 15 = .ok (.iconst 1, 1) := by decide +kernel
theorem dL_setSize_16 : decode cL_setSize 16 = .ok (.ireturn, 1) := by decide +kernel
theorem dL_setSize_17 : decode cL_setSize 17 = .ok (.astore 4, 2) := by decide +kernel
theorem dL_setSize_19 : decode cL_setSize 19 = .ok (.iconst 2, 1) := by decide +kernel
theorem dL_setSize_20 : decode cL_setSize 20 = .ok (.ireturn, 1) := by decide +kernel
theorem dL_setSize_21 : decode cL_setSize 21 = .ok (.iconst 0, 1) := by decide +kernel
theorem dL_setSize_22 : decode cL_setSize 22 = .ok (.ireturn, 1) := by decide +kernel
theorem dL_setWeight_0 : decode cL_setWeight 0 = .ok (.aload 5, 2) := by decide +kernel
theorem dL_setWeight_2 : decode cL_setWeight 2 = .ok (.iconst 0, 1) := by decide +kernel
theorem dL_setWeight_3 : decode cL_setWeight 3 = .ok (.aload_n 0, 1) := by decide +kernel
theorem dL_setWeight_4 : decode cL_setWeight 4 = .ok (.iload_n 1, 1) := by decide +kernel
theorem dL_setWeight_5 : decode cL_setWeight 5 = .ok (.iload_n 2, 1) := by decide +kernel
theorem dL_setWeight_6 : decode cL_setWeight 6 = .ok (.iload_n 3, 1) := by decide +kernel
theorem dL_setWeight_7 : decode cL_setWeight 7 = .ok (.iload 4, 2) := by decide +kernel
theorem dL_setWeight_9 : decode cL_setWeight 9 = .ok (.invokevirtual 39, 3) := by decide +kernel
theorem dL_setWeight_12 : decode cL_setWeight 12 = .ok (.i2l, 1) := by decide +kernel
theorem dL_setWeight_13 : decode cL_setWeight 13 = .ok (.lastore, 1) := by decide +kernel
theorem dL_setWeight_14 : decode cL_setWeight 14 = .ok (.goto 11, 3) := by decide +kernel
theorem dL_setWeight_17 : decode cL_setWeight 17 = .ok (.astore 6, 2) := by decide +kernel
theorem dL_setWeight_19 : decode cL_setWeight 19 = .ok (.iconst 1, 1) := by decide +kernel
theorem dL_setWeight_20 : decode cL_setWeight 20 = .ok (.ireturn, 1) := by decide +kernel
theorem dL_setWeight_21 : decode cL_setWeight 21 = .ok (.astore 6, 2) := by decide +kernel
theorem dL_setWeight_23 : decode cL_setWeight 23 = .ok (.iconst 2, 1) := by decide +kernel
theorem dL_setWeight_24 : decode cL_setWeight 24 = .ok (.ireturn, 1) := by decide +kernel
theorem dL_setWeight_25 : decode cL_setWeight 25 = .ok (.iconst 0, 1) := by decide +kernel
theorem dL_setWeight_26 : decode cL_setWeight 26 = .ok (.ireturn, 1) := by decide +kernel
theorem dL_removeEntry_0 : decode cL_removeEntry 0 = .ok (.aload 4, 2) := by decide +kernel
theorem dL_removeEntry_2 : decode cL_removeEntry 2 = .ok (.iconst 0, 1) := by decide +kernel
theorem dL_removeEntry_3 : decode cL_removeEntry 3 = .ok (.aload_n 0, 1) := by decide +kernel
theorem dL_removeEntry_4 : decode cL_removeEntry 4 = .ok (.iload_n 1, 1) := by decide +kernel
theorem dL_removeEntry_5 : decode cL_removeEntry 5 = .ok (.iload_n 2, 1) := by decide +kernel
theorem dL_removeEntry_6 : decode cL_removeEntry 6 = .ok (.iload_n 3, 1) := by decide +kernel
theorem dL_removeEntry_7 : decode cL_removeEntry 7 = .ok (.invokevirtual 43, 3) := by decide +kernel
theorem dL_removeEntry_10 : decode cL_removeEntry 10 = .ok (.i2l, 1) := by decide +kernel
theorem dL_removeEntry_11 : decode cL_removeEntry 11 = .ok (.lastore, 1) := by decide +kernel
theorem dL_removeEntry_12 : decode cL_removeEntry 12 = .ok (.goto 7, 3) := by decide +kernel
theorem dL_removeEntry_15 : decode cL_removeEntry 15 = .ok (.astore 5, 2) := by decide +kernel
theorem dL_removeEntry_17 : decode cL_removeEntry 17 = .ok (.iconst 1, 1) := by decide +kernel
theorem dL_removeEntry_18 : decode cL_removeEntry 18 = .ok (.ireturn, 1) := by decide +kernel
theorem dL_removeEntry_19 : decode cL_removeEntry 19 = .ok (.iconst 0, 1) := by decide +kernel
theorem dL_removeEntry_20 : decode cL_removeEntry 20 = .ok (.ireturn, 1) := by decide +kernel
theorem dL_setTies_0 : decode cL_setTies 0 = .ok (.aload 4, 2) := by decide +kernel
theorem dL_setTies_2 : decode cL_setTies 2 = .ok (.iconst 0, 1) := by decide +kernel
theorem dL_setTies_3 : decode cL_setTies 3 = .ok (.aload_n 0, 1) := by decide +kernel
theorem dL_setTies_4 : decode cL_setTies 4 = .ok (.iload_n 1, 1) := by decide +kernel
theorem dL_setTies_5 : decode cL_setTies 5 = .ok (.iload_n 2, 1) := by decide +kernel
theorem dL_setTies_6 : decode cL_setTies 6 = .ok (.iload_n 3, 1) := by decide +kernel
theorem dL_setTies_7 : decode cL_setTies 7 = .ok (.invokevirtual 47, 3) := by decide +kernel
theorem dL_setTies_10 : decode cL_setTies 10 = .ok (.i2l, 1) := by decide +kernel
theorem dL_setTies_11 : decode cL_setTies 11 = .ok (.lastore, 1) := by decide +kernel
theorem dL_setTies_12 : decode cL_setTies 12 = .ok (.goto 7, 3) := by decide +kernel
theorem dL_setTies_15 : decode cL_setTies 15 = .ok (.astore 5, 2) := by decide +kernel
theorem dL_setTies_17 : decode cL_setTies 17 = .ok (.iconst 1, 1) := by decide +kernel
theorem dL_setTies_18 : decode cL_setTies 18 = .ok (.ireturn, 1) := by decide +kernel
theorem dL_setTies_19 : decode cL_setTies 19 = .ok (.iconst 0, 1) := by decide +kernel
theorem dL_setTies_20 : decode cL_setTies 20 = .ok (.ireturn, 1) := by decide +kernel
theorem dL_variant_0 : decode cL_variant 0 = .ok (.aload_n 3, 1) := by decide +kernel
theorem dL_variant_1 : decode cL_variant 1 = .ok (.iconst 0, 1) := by decide +kernel
theorem dL_variant_2 : decode cL_variant 2 = .ok (.aload_n 0, 1) := by decide +kernel
theorem dL_variant_3 : decode cL_variant 3 = .ok (.iload_n 1, 1) := by decide +kernel
theorem dL_variant_4 : decode cL_variant 4 = .ok (.iload_n 2, 1) := by decide +kernel
theorem dL_variant_5 : decode cL_variant 5 = .ok (.invokevirtual 50, 3) := by decide +kernel
theorem dL_variant_8 : decode cL_variant 8 = .ok (.i2l, 1) := by decide +kernel
theorem dL_variant_9 : decode cL_variant 9 = .ok (.lastore, 1) := by decide +kernel
theorem dL_variant_10 : decode cL_variant 10 = .ok (.goto 11, 3) := by decide +kernel
theorem dL_variant_13 : decode cL_variant 13 = .ok (.astore 4, 2) := by decide +kernel
theorem dL_variant_15 : decode cL_variant 15 = .ok (.iconst 1, 1) := by decide +kernel
theorem dL_variant_16 : decode cL_variant 16 = .ok (.ireturn, 1) := by decide +kernel
theorem dL_variant_17 : decode cL_variant 17 = .ok (.astore 4, 2) := by decide +kernel
theorem dL_variant_19 : decode cL_variant 19 = .ok (.iconst 2, 1) := by decide +kernel
theorem dL_variant_20 : decode cL_variant 20 = .ok (.ireturn, 1) := by decide +kernel
theorem dL_variant_21 : decode cL_variant 21 = .ok (.iconst 0, 1) := by decide +kernel
theorem dL_variant_22 : decode cL_variant 22 = .ok (.ireturn, 1) := by decide +kernel
theorem dL_weight_0 : decode cL_weight 0 = .ok (.aload 4, 2) := by decide +kernel
theorem dL_weight_2 : decode cL_weight 2 = .ok (.iconst 0, 1) := by decide +kernel
theorem dL_weight_3 : decode cL_weight 3 = .ok (.aload_n 0, 1) := by decide +kernel
theorem dL_weight_4 : decode cL_weight 4 = .ok (.iload_n 1, 1) := by decide +kernel
theorem dL_weight_5 : decode cL_weight 5 = .ok (.iload_n 2, 1) := by decide +kernel
theorem dL_weight_6 : decode cL_weight 6 = .ok (.iload_n 3, 1) := by decide +kernel
theorem dL_weight_7 : decode cL_weight 7 = .ok (.invokevirtual 53, 3) := by decide +kernel
theorem dL_weight_10 : decode cL_weight 10 = .ok (.i2l, 1) := by decide +kernel
theorem dL_weight_11 : decode cL_weight 11 = .ok (.lastore, 1) := by decide +kernel
theorem dL_weight_12 : decode cL_weight 12 = .ok (.goto 7, 3) := by decide +kernel
theorem dL_weight_15 : decode cL_weight 15 = .ok (.astore 5, 2) := by decide +kernel
theorem dL_weight_17 : decode cL_weight 17 = .ok (.iconst 1, 1) := by decide +kernel
theorem dL_weight_18 : decode cL_weight 18 = .ok (.ireturn, 1) := by decide +kernel
theorem dL_weight_19 : decode cL_weight 19 = .ok (.iconst 0, 1) := by decide +kernel
theorem dL_weight_20 : decode cL_weight 20 = .ok (.ireturn, 1) := by decide +kernel
theorem dL_counting_0 : decode cL_counting 0 = .ok (.aload 4, 2) := by decide +kernel
theorem dL_counting_2 : decode cL_counting 2 = .ok (.iconst 0, 1) := by decide +kernel
theorem dL_counting_3 : decode cL_counting 3 = .ok (.aload_n 0, 1) := by decide +kernel
theorem dL_counting_4 : decode cL_counting 4 = .ok (.iload_n 1, 1) := by decide +kernel
theorem dL_counting_5 : decode cL_counting 5 = .ok (.iload_n 2, 1) := by decide +kernel
theorem dL_counting_6 : decode cL_counting 6 = .ok (.iload_n 3, 1) := by decide +kernel
theorem dL_counting_7 : decode cL_counting 7 = .ok (.invokevirtual 56, 3) := by decide +kernel
theorem dL_counting_10 : decode cL_counting 10 = .ok (.i2l, 1) := by decide +kernel
theorem dL_counting_11 : decode cL_counting 11 = .ok (.lastore, 1) := by decide +kernel
theorem dL_counting_12 : decode cL_counting 12 = .ok (.goto 7, 3) := by decide +kernel
theorem dL_counting_15 : decode cL_counting 15 = .ok (.astore 5, 2) := by decide +kernel
theorem dL_counting_17 : decode cL_counting 17 = .ok (.iconst 1, 1) := by decide +kernel
theorem dL_counting_18 : decode cL_counting 18 = .ok (.ireturn, 1) := by decide +kernel
theorem dL_counting_19 : decode cL_counting 19 = .ok (.iconst 0, 1) := by decide +kernel
theorem dL_counting_20 : decode cL_counting 20 = .ok (.ireturn, 1) := by decide +kernel
theorem dL_entry_0 : decode cL_entry 0 = .ok (.aload 5, 2) := by decide +kernel
theorem dL_entry_2 : decode cL_entry 2 = .ok (.iconst 0, 1) := by decide +kernel
theorem dL_entry_3 : decode cL_entry 3 = .ok (.aload_n 0, 1) := by decide +kernel
theorem dL_entry_4 : decode cL_entry 4 = .ok (.iload_n 1, 1) := by decide +kernel
theorem dL_entry_5 : decode cL_entry 5 = .ok (.iload_n 2, 1) := by decide +kernel
theorem dL_entry_6 : decode cL_entry 6 = .ok (.iload_n 3, 1) := by decide +kernel
theorem dL_entry_7 : decode cL_entry 7 = .ok (.iload 4, 2) := by decide +kernel
theorem dL_entry_9 : decode cL_entry 9 = .ok (.invokevirtual 59, 3) := by decide +kernel
theorem dL_entry_12 : decode cL_entry 12 = .ok (.i2l, 1) := by decide +kernel
theorem dL_entry_13 : decode cL_entry 13 = .ok (.lastore, 1) := by decide +kernel
theorem dL_entry_14 : decode cL_entry 14 = .ok (.goto 11, 3) := by decide +kernel
theorem dL_entry_17 : decode cL_entry 17 = .ok (.astore 6, 2) := by decide +kernel
theorem dL_entry_19 : decode cL_entry 19 = .ok (.iconst 1, 1) := by decide +kernel
theorem dL_entry_20 : decode cL_entry 20 = .ok (.ireturn, 1) := by decide +kernel
theorem dL_entry_21 : decode cL_entry 21 = .ok (.astore 6, 2) := by decide +kernel
theorem dL_entry_23 : decode cL_entry 23 = .ok (.iconst 2, 1) := by decide +kernel
theorem dL_entry_24 : decode cL_entry 24 = .ok (.ireturn, 1) := by decide +kernel
theorem dL_entry_25 : decode cL_entry 25 = .ok (.iconst 0, 1) := by decide +kernel
theorem dL_entry_26 : decode cL_entry 26 = .ok (.ireturn, 1) := by decide +kernel
theorem dL_ranked_0 : decode cL_ranked 0 = .ok (.aload_n 2, 1) := by decide +kernel
theorem dL_ranked_1 : decode cL_ranked 1 = .ok (.iconst 0, 1) := by decide +kernel
theorem dL_ranked_2 : decode cL_ranked 2 = .ok (.aload_n 0, 1) := by decide +kernel
theorem dL_ranked_3 : decode cL_ranked 3 = .ok (.iload_n 1, 1) := by decide +kernel
theorem dL_ranked_4 : decode cL_ranked 4 = .ok (.invokevirtual 62, 3) := by decide +kernel
theorem dL_ranked_7 : decode cL_ranked 7 = .ok (.i2l, 1) := by decide +kernel
theorem dL_ranked_8 : decode cL_ranked 8 = .ok (.lastore, 1) := by decide +kernel
theorem dL_ranked_9 : decode cL_ranked 9 = .ok (.goto 6, 3) := by decide +kernel
theorem dL_ranked_12 : decode cL_ranked 12 = .ok (.astore_n 3, 1) := by decide +kernel
theorem dL_ranked_13 : decode cL_ranked 13 = .ok (.iconst 1, 1) := by decide +kernel
theorem dL_ranked_14 : decode cL_ranked 14 = .ok (.ireturn, 1) := by decide +kernel
theorem dL_ranked_15 : decode cL_ranked 15 = .ok (.iconst 0, 1) := by decide +kernel
theorem dL_ranked_16 : decode cL_ranked 16 = .ok (.ireturn, 1) := by decide +kernel
theorem dL_whole_0 : decode cL_whole 0 = .ok (.aload_n 2, 1) := by decide +kernel
theorem dL_whole_1 : decode cL_whole 1 = .ok (.iconst 0, 1) := by decide +kernel
theorem dL_whole_2 : decode cL_whole 2 = .ok (.aload_n 0, 1) := by decide +kernel
theorem dL_whole_3 : decode cL_whole 3 = .ok (.iload_n 1, 1) := by decide +kernel
theorem dL_whole_4 : decode cL_whole 4 = .ok (.invokevirtual 65, 3) := by decide +kernel
theorem dL_whole_7 : decode cL_whole 7 = .ok (.i2l, 1) := by decide +kernel
theorem dL_whole_8 : decode cL_whole 8 = .ok (.lastore, 1) := by decide +kernel
theorem dL_whole_9 : decode cL_whole 9 = .ok (.goto 6, 3) := by decide +kernel
theorem dL_whole_12 : decode cL_whole 12 = .ok (.astore_n 3, 1) := by decide +kernel
theorem dL_whole_13 : decode cL_whole 13 = .ok (.iconst 1, 1) := by decide +kernel
theorem dL_whole_14 : decode cL_whole 14 = .ok (.ireturn, 1) := by decide +kernel
theorem dL_whole_15 : decode cL_whole 15 = .ok (.iconst 0, 1) := by decide +kernel
theorem dL_whole_16 : decode cL_whole 16 = .ok (.ireturn, 1) := by decide +kernel
theorem dL_listed_0 : decode cL_listed 0 = .ok (.aload_n 2, 1) := by decide +kernel
theorem dL_listed_1 : decode cL_listed 1 = .ok (.iconst 0, 1) := by decide +kernel
theorem dL_listed_2 : decode cL_listed 2 = .ok (.aload_n 0, 1) := by decide +kernel
theorem dL_listed_3 : decode cL_listed 3 = .ok (.iload_n 1, 1) := by decide +kernel
theorem dL_listed_4 : decode cL_listed 4 = .ok (.invokevirtual 68, 3) := by decide +kernel
theorem dL_listed_7 : decode cL_listed 7 = .ok (.i2l, 1) := by decide +kernel
theorem dL_listed_8 : decode cL_listed 8 = .ok (.lastore, 1) := by decide +kernel
theorem dL_listed_9 : decode cL_listed 9 = .ok (.goto 6, 3) := by decide +kernel
theorem dL_listed_12 : decode cL_listed 12 = .ok (.astore_n 3, 1) := by decide +kernel
theorem dL_listed_13 : decode cL_listed 13 = .ok (.iconst 1, 1) := by decide +kernel
theorem dL_listed_14 : decode cL_listed 14 = .ok (.ireturn, 1) := by decide +kernel
theorem dL_listed_15 : decode cL_listed 15 = .ok (.iconst 0, 1) := by decide +kernel
theorem dL_listed_16 : decode cL_listed 16 = .ok (.ireturn, 1) := by decide +kernel
theorem dL_listingByte_0 : decode cL_listingByte 0 = .ok (.aload_n 2, 1) := by decide +kernel
theorem dL_listingByte_1 : decode cL_listingByte 1 = .ok (.iconst 0, 1) := by decide +kernel
theorem dL_listingByte_2 : decode cL_listingByte 2 = .ok (.aload_n 0, 1) := by decide +kernel
theorem dL_listingByte_3 : decode cL_listingByte 3 = .ok (.iload_n 1, 1) := by decide +kernel
theorem dL_listingByte_4 : decode cL_listingByte 4 = .ok (.invokevirtual 71, 3) := by decide +kernel
theorem dL_listingByte_7 : decode cL_listingByte 7 = .ok (.i2l, 1) := by decide +kernel
theorem dL_listingByte_8 : decode cL_listingByte 8 = .ok (.lastore, 1) := by decide +kernel
theorem dL_listingByte_9 : decode cL_listingByte 9 = .ok (.goto 6, 3) := by decide +kernel
theorem dL_listingByte_12 : decode cL_listingByte 12 = .ok (.astore_n 3, 1) := by decide +kernel
theorem dL_listingByte_13 : decode cL_listingByte 13 = .ok (.iconst 1, 1) := by decide +kernel
theorem dL_listingByte_14 : decode cL_listingByte 14 = .ok (.ireturn, 1) := by decide +kernel
theorem dL_listingByte_15 : decode cL_listingByte 15 = .ok (.iconst 0, 1) := by decide +kernel
theorem dL_listingByte_16 : decode cL_listingByte 16 = .ok (.ireturn, 1) := by decide +kernel
theorem dL_servedFor_0 : decode cL_servedFor 0 = .ok (.aload_n 2, 1) := by decide +kernel
theorem dL_servedFor_1 : decode cL_servedFor 1 = .ok (.iconst 0, 1) := by decide +kernel
theorem dL_servedFor_2 : decode cL_servedFor 2 = .ok (.aload_n 0, 1) := by decide +kernel
theorem dL_servedFor_3 : decode cL_servedFor 3 = .ok (.iload_n 1, 1) := by decide +kernel
theorem dL_servedFor_4 : decode cL_servedFor 4 = .ok (.invokevirtual 74, 3) := by decide +kernel
theorem dL_servedFor_7 : decode cL_servedFor 7 = .ok (.i2l, 1) := by decide +kernel
theorem dL_servedFor_8 : decode cL_servedFor 8 = .ok (.lastore, 1) := by decide +kernel
theorem dL_servedFor_9 : decode cL_servedFor 9 = .ok (.goto 6, 3) := by decide +kernel
theorem dL_servedFor_12 : decode cL_servedFor 12 = .ok (.astore_n 3, 1) := by decide +kernel
theorem dL_servedFor_13 : decode cL_servedFor 13 = .ok (.iconst 1, 1) := by decide +kernel
theorem dL_servedFor_14 : decode cL_servedFor 14 = .ok (.ireturn, 1) := by decide +kernel
theorem dL_servedFor_15 : decode cL_servedFor 15 = .ok (.iconst 0, 1) := by decide +kernel
theorem dL_servedFor_16 : decode cL_servedFor 16 = .ok (.ireturn, 1) := by decide +kernel
theorem dL_servedWithout_0 : decode cL_servedWithout 0 = .ok (.aload_n 2, 1) := by decide +kernel
theorem dL_servedWithout_1 : decode cL_servedWithout 1 = .ok (.iconst 0, 1) := by decide +kernel
theorem dL_servedWithout_2 : decode cL_servedWithout 2 = .ok (.aload_n 0, 1) := by decide +kernel
theorem dL_servedWithout_3 : decode cL_servedWithout 3 = .ok (.iload_n 1, 1) := by decide +kernel
theorem dL_servedWithout_4 : decode cL_servedWithout 4 = .ok (.invokevirtual 77, 3) := by decide +kernel
theorem dL_servedWithout_7 : decode cL_servedWithout 7 = .ok (.i2l, 1) := by decide +kernel
theorem dL_servedWithout_8 : decode cL_servedWithout 8 = .ok (.lastore, 1) := by decide +kernel
theorem dL_servedWithout_9 : decode cL_servedWithout 9 = .ok (.goto 6, 3) := by decide +kernel
theorem dL_servedWithout_12 : decode cL_servedWithout 12 = .ok (.astore_n 3, 1) := by decide +kernel
theorem dL_servedWithout_13 : decode cL_servedWithout 13 = .ok (.iconst 1, 1) := by decide +kernel
theorem dL_servedWithout_14 : decode cL_servedWithout 14 = .ok (.ireturn, 1) := by decide +kernel
theorem dL_servedWithout_15 : decode cL_servedWithout 15 = .ok (.iconst 0, 1) := by decide +kernel
theorem dL_servedWithout_16 : decode cL_servedWithout 16 = .ok (.ireturn, 1) := by decide +kernel
theorem dL_leastWeight_0 : decode cL_leastWeight 0 = .ok (.aload 5, 2) := by decide +kernel
theorem dL_leastWeight_2 : decode cL_leastWeight 2 = .ok (.iconst 0, 1) := by decide +kernel
theorem dL_leastWeight_3 : decode cL_leastWeight 3 = .ok (.aload_n 0, 1) := by decide +kernel
theorem dL_leastWeight_4 : decode cL_leastWeight 4 = .ok (.iload_n 1, 1) := by decide +kernel
theorem dL_leastWeight_5 : decode cL_leastWeight 5 = .ok (.iload_n 2, 1) := by decide +kernel
theorem dL_leastWeight_6 : decode cL_leastWeight 6 = .ok (.iload_n 3, 1) := by decide +kernel
theorem dL_leastWeight_7 : decode cL_leastWeight 7 = .ok (.iload 4, 2) := by decide +kernel
theorem dL_leastWeight_9 : decode cL_leastWeight 9 = .ok (.invokevirtual 80, 3) := by decide +kernel
theorem dL_leastWeight_12 : decode cL_leastWeight 12 = .ok (.i2l, 1) := by decide +kernel
theorem dL_leastWeight_13 : decode cL_leastWeight 13 = .ok (.lastore, 1) := by decide +kernel
theorem dL_leastWeight_14 : decode cL_leastWeight 14 = .ok (.goto 7, 3) := by decide +kernel
theorem dL_leastWeight_17 : decode cL_leastWeight 17 = .ok (.astore 6, 2) := by decide +kernel
theorem dL_leastWeight_19 : decode cL_leastWeight 19 = .ok (.iconst 1, 1) := by decide +kernel
theorem dL_leastWeight_20 : decode cL_leastWeight 20 = .ok (.ireturn, 1) := by decide +kernel
theorem dL_leastWeight_21 : decode cL_leastWeight 21 = .ok (.iconst 0, 1) := by decide +kernel
theorem dL_leastWeight_22 : decode cL_leastWeight 22 = .ok (.ireturn, 1) := by decide +kernel
theorem dL_leastQuality_0 : decode cL_leastQuality 0 = .ok (.aload_n 2, 1) := by decide +kernel
theorem dL_leastQuality_1 : decode cL_leastQuality 1 = .ok (.iconst 0, 1) := by decide +kernel
theorem dL_leastQuality_2 : decode cL_leastQuality 2 = .ok (.aload_n 0, 1) := by decide +kernel
theorem dL_leastQuality_3 : decode cL_leastQuality 3 = .ok (.iload_n 1, 1) := by decide +kernel
theorem dL_leastQuality_4 : decode cL_leastQuality 4 = .ok (.invokevirtual 83, 3) := by decide +kernel
theorem dL_leastQuality_7 : decode cL_leastQuality 7 = .ok (.i2l, 1) := by decide +kernel
theorem dL_leastQuality_8 : decode cL_leastQuality 8 = .ok (.lastore, 1) := by decide +kernel
theorem dL_leastQuality_9 : decode cL_leastQuality 9 = .ok (.goto 6, 3) := by decide +kernel
theorem dL_leastQuality_12 : decode cL_leastQuality 12 = .ok (.astore_n 3, 1) := by decide +kernel
theorem dL_leastQuality_13 : decode cL_leastQuality 13 = .ok (.iconst 1, 1) := by decide +kernel
theorem dL_leastQuality_14 : decode cL_leastQuality 14 = .ok (.ireturn, 1) := by decide +kernel
theorem dL_leastQuality_15 : decode cL_leastQuality 15 = .ok (.iconst 0, 1) := by decide +kernel
theorem dL_leastQuality_16 : decode cL_leastQuality 16 = .ok (.ireturn, 1) := by decide +kernel
theorem dL_undo_0 : decode cL_undo 0 = .ok (.aload_n 1, 1) := by decide +kernel
theorem dL_undo_1 : decode cL_undo 1 = .ok (.iconst 0, 1) := by decide +kernel
theorem dL_undo_2 : decode cL_undo 2 = .ok (.aload_n 0, 1) := by decide +kernel
theorem dL_undo_3 : decode cL_undo 3 = .ok (.invokevirtual 86, 3) := by decide +kernel
theorem dL_undo_6 : decode cL_undo 6 = .ok (.i2l, 1) := by decide +kernel
theorem dL_undo_7 : decode cL_undo 7 = .ok (.lastore, 1) := by decide +kernel
theorem dL_undo_8 : decode cL_undo 8 = .ok (.goto 6, 3) := by decide +kernel
theorem dL_undo_11 : decode cL_undo 11 = .ok (.astore_n 2, 1) := by decide +kernel
theorem dL_undo_12 : decode cL_undo 12 = .ok (.iconst 1, 1) := by decide +kernel
theorem dL_undo_13 : decode cL_undo 13 = .ok (.ireturn, 1) := by decide +kernel
theorem dL_undo_14 : decode cL_undo 14 = .ok (.iconst 0, 1) := by decide +kernel
theorem dL_undo_15 : decode cL_undo 15 = .ok (.ireturn, 1) := by decide +kernel
theorem dL_law_0 : decode cL_law 0 = .ok (.new 8, 3) := by decide +kernel
theorem dL_law_3 : decode cL_law 3 = .ok (.dup, 1) := by decide +kernel
theorem dL_law_4 : decode cL_law 4 = .ok (.invokespecial 89, 3) := by decide +kernel
theorem dL_law_7 : decode cL_law 7 = .ok (.astore_n 1, 1) := by decide +kernel
theorem dL_law_8 : decode cL_law 8 = .ok (.new 90, 3) := by decide +kernel
theorem dL_law_11 : decode cL_law 11 = .ok (.dup, 1) := by decide +kernel
theorem dL_law_12 : decode cL_law 12 = .ok (.invokespecial 92, 3) := by decide +kernel
theorem dL_law_15 : decode cL_law 15 = .ok (.astore_n 2, 1) := by decide +kernel
theorem dL_law_16 : decode cL_law 16 = .ok (.iconst 1, 1) := by decide +kernel
theorem dL_law_17 : decode cL_law 17 = .ok (.newarray .long, 2) := by decide +kernel
theorem dL_law_19 : decode cL_law 19 = .ok (.astore_n 3, 1) := by decide +kernel
theorem dL_law_20 : decode cL_law 20 = .ok (.iconst 0, 1) := by decide +kernel
theorem dL_law_21 : decode cL_law 21 = .ok (.istore 4, 2) := by decide +kernel
theorem dL_law_23 : decode cL_law 23 = .ok (.iload 4, 2) := by decide +kernel
theorem dL_law_25 : decode cL_law 25 = .ok (.aload_n 0, 1) := by decide +kernel
theorem dL_law_26 : decode cL_law 26 = .ok (.arraylength, 1) := by decide +kernel
theorem dL_law_27 : decode cL_law 27 = .ok (.iconst 5, 1) := by decide +kernel
theorem dL_law_28 : decode cL_law 28 = .ok (.isub, 1) := by decide +kernel
theorem dL_law_29 : decode cL_law 29 = .ok (.if_icmp .gt 1723, 3) := by decide +kernel
theorem dL_law_32 : decode cL_law 32 = .ok (.aload_n 0, 1) := by decide +kernel
theorem dL_law_33 : decode cL_law 33 = .ok (.iload 4, 2) := by decide +kernel
theorem dL_law_35 : decode cL_law 35 = .ok (.iaload, 1) := by decide +kernel
theorem dL_law_36 : decode cL_law 36 = .ok (.bipush 31, 2) := by decide +kernel
theorem dL_law_38 : decode cL_law 38 = .ok (.iand, 1) := by decide +kernel
theorem dL_law_39 : decode cL_law 39 = .ok (.tableswitch 1707 0 27 #[125, 181, 194, 250, 263, 331, 375, 431, 499, 567, 659, 739, 752, 832, 900, 980, 1060, 1152, 1208, 1264, 1320, 1376, 1432, 1488, 1580, 1636, 1649, 1693], 125) := by decide +kernel
theorem dL_law_164 : decode cL_law 164 = .ok (.aload_n 1, 1) := by decide +kernel
theorem dL_law_165 : decode cL_law 165 = .ok (.aload_n 0, 1) := by decide +kernel
theorem dL_law_166 : decode cL_law 166 = .ok (.iload 4, 2) := by decide +kernel
theorem dL_law_168 : decode cL_law 168 = .ok (.iconst 1, 1) := by decide +kernel
theorem dL_law_169 : decode cL_law 169 = .ok (.iadd, 1) := by decide +kernel
theorem dL_law_170 : decode cL_law 170 = .ok (.iaload, 1) := by decide +kernel
theorem dL_law_171 : decode cL_law 171 = .ok (.aload_n 3, 1) := by decide +kernel
theorem dL_law_172 : decode cL_law 172 = .ok (.invokestatic 93, 3) := by decide +kernel
theorem dL_law_175 : decode cL_law 175 = .ok (.istore 5, 2) := by decide +kernel
theorem dL_law_177 : decode cL_law 177 = .ok (.aload_n 2, 1) := by decide +kernel
theorem dL_law_178 : decode cL_law 178 = .ok (.aload_n 0, 1) := by decide +kernel
theorem dL_law_179 : decode cL_law 179 = .ok (.iload 4, 2) := by decide +kernel
theorem dL_law_181 : decode cL_law 181 = .ok (.iconst 1, 1) := by decide +kernel
theorem dL_law_182 : decode cL_law 182 = .ok (.iadd, 1) := by decide +kernel
theorem dL_law_183 : decode cL_law 183 = .ok (.iaload, 1) := by decide +kernel
theorem dL_law_184 : decode cL_law 184 = .ok (.invokevirtual 98, 3) := by decide +kernel
theorem dL_law_187 : decode cL_law 187 = .ok (.istore 6, 2) := by decide +kernel
theorem dL_law_189 : decode cL_law 189 = .ok (.aload_n 2, 1) := by decide +kernel
theorem dL_law_190 : decode cL_law 190 = .ok (.invokevirtual 99, 3) := by decide +kernel
theorem dL_law_193 : decode cL_law 193 = .ok (.iload 5, 2) := by decide +kernel
theorem dL_law_195 : decode cL_law 195 = .ok (.if_icmp .eq 5, 3) := by decide +kernel
theorem dL_law_198 : decode cL_law 198 = .ok (.iconst 0, 1) := by decide +kernel
theorem dL_law_199 : decode cL_law 199 = .ok (.ireturn, 1) := by decide +kernel
theorem dL_law_200 : decode cL_law 200 = .ok (.iload 5, 2) := by decide +kernel
theorem dL_law_202 : decode cL_law 202 = .ok (.ifCond .ne 15, 3) := by decide +kernel
theorem dL_law_205 : decode cL_law 205 = .ok (.aload_n 3, 1) := by decide +kernel
theorem dL_law_206 : decode cL_law 206 = .ok (.iconst 0, 1) := by decide +kernel
theorem dL_law_207 : decode cL_law 207 = .ok (.laload, 1) := by decide +kernel
theorem dL_law_208 : decode cL_law 208 = .ok (.iload 6, 2) := by decide +kernel
theorem dL_law_210 : decode cL_law 210 = .ok (.i2l, 1) := by decide +kernel
theorem dL_law_211 : decode cL_law 211 = .ok (.lcmp, 1) := by decide +kernel
theorem dL_law_212 : decode cL_law 212 = .ok (.ifCond .eq 5, 3) := by decide +kernel
theorem dL_law_215 : decode cL_law 215 = .ok (.iconst 0, 1) := by decide +kernel
theorem dL_law_216 : decode cL_law 216 = .ok (.ireturn, 1) := by decide +kernel
theorem dL_law_217 : decode cL_law 217 = .ok (.goto 1529, 3) := by decide +kernel
theorem dL_law_220 : decode cL_law 220 = .ok (.aload_n 1, 1) := by decide +kernel
theorem dL_law_221 : decode cL_law 221 = .ok (.invokevirtual 102, 3) := by decide +kernel
theorem dL_law_224 : decode cL_law 224 = .ok (.aload_n 2, 1) := by decide +kernel
theorem dL_law_225 : decode cL_law 225 = .ok (.invokevirtual 105, 3) := by decide +kernel
theorem dL_law_228 : decode cL_law 228 = .ok (.if_icmp .eq 1518, 3) := by decide +kernel
theorem dL_law_231 : decode cL_law 231 = .ok (.iconst 0, 1) := by decide +kernel
theorem dL_law_232 : decode cL_law 232 = .ok (.ireturn, 1) := by decide +kernel
theorem dL_law_233 : decode cL_law 233 = .ok (.aload_n 1, 1) := by decide +kernel
theorem dL_law_234 : decode cL_law 234 = .ok (.aload_n 0, 1) := by decide +kernel
theorem dL_law_235 : decode cL_law 235 = .ok (.iload 4, 2) := by decide +kernel
theorem dL_law_237 : decode cL_law 237 = .ok (.iconst 1, 1) := by decide +kernel
theorem dL_law_238 : decode cL_law 238 = .ok (.iadd, 1) := by decide +kernel
theorem dL_law_239 : decode cL_law 239 = .ok (.iaload, 1) := by decide +kernel
theorem dL_law_240 : decode cL_law 240 = .ok (.aload_n 3, 1) := by decide +kernel
theorem dL_law_241 : decode cL_law 241 = .ok (.invokestatic 106, 3) := by decide +kernel
theorem dL_law_244 : decode cL_law 244 = .ok (.istore 5, 2) := by decide +kernel
theorem dL_law_246 : decode cL_law 246 = .ok (.aload_n 2, 1) := by decide +kernel
theorem dL_law_247 : decode cL_law 247 = .ok (.aload_n 0, 1) := by decide +kernel
theorem dL_law_248 : decode cL_law 248 = .ok (.iload 4, 2) := by decide +kernel
theorem dL_law_250 : decode cL_law 250 = .ok (.iconst 1, 1) := by decide +kernel
theorem dL_law_251 : decode cL_law 251 = .ok (.iadd, 1) := by decide +kernel
theorem dL_law_252 : decode cL_law 252 = .ok (.iaload, 1) := by decide +kernel
theorem dL_law_253 : decode cL_law 253 = .ok (.invokevirtual 108, 3) := by decide +kernel
theorem dL_law_256 : decode cL_law 256 = .ok (.istore 6, 2) := by decide +kernel
theorem dL_law_258 : decode cL_law 258 = .ok (.aload_n 2, 1) := by decide +kernel
theorem dL_law_259 : decode cL_law 259 = .ok (.invokevirtual 99, 3) := by decide +kernel
theorem dL_law_262 : decode cL_law 262 = .ok (.iload 5, 2) := by decide +kernel
theorem dL_law_264 : decode cL_law 264 = .ok (.if_icmp .eq 5, 3) := by decide +kernel
theorem dL_law_267 : decode cL_law 267 = .ok (.iconst 0, 1) := by decide +kernel
theorem dL_law_268 : decode cL_law 268 = .ok (.ireturn, 1) := by decide +kernel
theorem dL_law_269 : decode cL_law 269 = .ok (.iload 5, 2) := by decide +kernel
theorem dL_law_271 : decode cL_law 271 = .ok (.ifCond .ne 15, 3) := by decide +kernel
theorem dL_law_274 : decode cL_law 274 = .ok (.aload_n 3, 1) := by decide +kernel
theorem dL_law_275 : decode cL_law 275 = .ok (.iconst 0, 1) := by decide +kernel
theorem dL_law_276 : decode cL_law 276 = .ok (.laload, 1) := by decide +kernel
theorem dL_law_277 : decode cL_law 277 = .ok (.iload 6, 2) := by decide +kernel
theorem dL_law_279 : decode cL_law 279 = .ok (.i2l, 1) := by decide +kernel
theorem dL_law_280 : decode cL_law 280 = .ok (.lcmp, 1) := by decide +kernel
theorem dL_law_281 : decode cL_law 281 = .ok (.ifCond .eq 5, 3) := by decide +kernel
theorem dL_law_284 : decode cL_law 284 = .ok (.iconst 0, 1) := by decide +kernel
theorem dL_law_285 : decode cL_law 285 = .ok (.ireturn, 1) := by decide +kernel
theorem dL_law_286 : decode cL_law 286 = .ok (.goto 1460, 3) := by decide +kernel
theorem dL_law_289 : decode cL_law 289 = .ok (.aload_n 1, 1) := by decide +kernel
theorem dL_law_290 : decode cL_law 290 = .ok (.invokevirtual 109, 3) := by decide +kernel
theorem dL_law_293 : decode cL_law 293 = .ok (.aload_n 2, 1) := by decide +kernel
theorem dL_law_294 : decode cL_law 294 = .ok (.invokevirtual 112, 3) := by decide +kernel
theorem dL_law_297 : decode cL_law 297 = .ok (.if_icmp .eq 1449, 3) := by decide +kernel
theorem dL_law_300 : decode cL_law 300 = .ok (.iconst 0, 1) := by decide +kernel
theorem dL_law_301 : decode cL_law 301 = .ok (.ireturn, 1) := by decide +kernel
theorem dL_law_302 : decode cL_law 302 = .ok (.aload_n 1, 1) := by decide +kernel
theorem dL_law_303 : decode cL_law 303 = .ok (.aload_n 0, 1) := by decide +kernel
theorem dL_law_304 : decode cL_law 304 = .ok (.iload 4, 2) := by decide +kernel
theorem dL_law_306 : decode cL_law 306 = .ok (.iconst 1, 1) := by decide +kernel
theorem dL_law_307 : decode cL_law 307 = .ok (.iadd, 1) := by decide +kernel
theorem dL_law_308 : decode cL_law 308 = .ok (.iaload, 1) := by decide +kernel
theorem dL_law_309 : decode cL_law 309 = .ok (.aload_n 0, 1) := by decide +kernel
theorem dL_law_310 : decode cL_law 310 = .ok (.iload 4, 2) := by decide +kernel
theorem dL_law_312 : decode cL_law 312 = .ok (.iconst 2, 1) := by decide +kernel
theorem dL_law_313 : decode cL_law 313 = .ok (.iadd, 1) := by decide +kernel
theorem dL_law_314 : decode cL_law 314 = .ok (.iaload, 1) := by decide +kernel
theorem dL_law_315 : decode cL_law 315 = .ok (.aload_n 3, 1) := by decide +kernel
theorem dL_law_316 : decode cL_law 316 = .ok (.invokestatic 113, 3) := by decide +kernel
theorem dL_law_319 : decode cL_law 319 = .ok (.istore 5, 2) := by decide +kernel
theorem dL_law_321 : decode cL_law 321 = .ok (.aload_n 2, 1) := by decide +kernel
theorem dL_law_322 : decode cL_law 322 = .ok (.aload_n 0, 1) := by decide +kernel
theorem dL_law_323 : decode cL_law 323 = .ok (.iload 4, 2) := by decide +kernel
theorem dL_law_325 : decode cL_law 325 = .ok (.iconst 1, 1) := by decide +kernel
theorem dL_law_326 : decode cL_law 326 = .ok (.iadd, 1) := by decide +kernel
theorem dL_law_327 : decode cL_law 327 = .ok (.iaload, 1) := by decide +kernel
theorem dL_law_328 : decode cL_law 328 = .ok (.aload_n 0, 1) := by decide +kernel
theorem dL_law_329 : decode cL_law 329 = .ok (.iload 4, 2) := by decide +kernel
theorem dL_law_331 : decode cL_law 331 = .ok (.iconst 2, 1) := by decide +kernel
theorem dL_law_332 : decode cL_law 332 = .ok (.iadd, 1) := by decide +kernel
theorem dL_law_333 : decode cL_law 333 = .ok (.iaload, 1) := by decide +kernel
theorem dL_law_334 : decode cL_law 334 = .ok (.invokevirtual 116, 3) := by decide +kernel
theorem dL_law_337 : decode cL_law 337 = .ok (.istore 6, 2) := by decide +kernel
theorem dL_law_339 : decode cL_law 339 = .ok (.aload_n 2, 1) := by decide +kernel
theorem dL_law_340 : decode cL_law 340 = .ok (.invokevirtual 99, 3) := by decide +kernel
theorem dL_law_343 : decode cL_law 343 = .ok (.iload 5, 2) := by decide +kernel
theorem dL_law_345 : decode cL_law 345 = .ok (.if_icmp .eq 5, 3) := by decide +kernel
theorem dL_law_348 : decode cL_law 348 = .ok (.iconst 0, 1) := by decide +kernel
theorem dL_law_349 : decode cL_law 349 = .ok (.ireturn, 1) := by decide +kernel
theorem dL_law_350 : decode cL_law 350 = .ok (.iload 5, 2) := by decide +kernel
theorem dL_law_352 : decode cL_law 352 = .ok (.ifCond .ne 15, 3) := by decide +kernel
theorem dL_law_355 : decode cL_law 355 = .ok (.aload_n 3, 1) := by decide +kernel
theorem dL_law_356 : decode cL_law 356 = .ok (.iconst 0, 1) := by decide +kernel
theorem dL_law_357 : decode cL_law 357 = .ok (.laload, 1) := by decide +kernel
theorem dL_law_358 : decode cL_law 358 = .ok (.iload 6, 2) := by decide +kernel
theorem dL_law_360 : decode cL_law 360 = .ok (.i2l, 1) := by decide +kernel
theorem dL_law_361 : decode cL_law 361 = .ok (.lcmp, 1) := by decide +kernel
theorem dL_law_362 : decode cL_law 362 = .ok (.ifCond .eq 5, 3) := by decide +kernel
theorem dL_law_365 : decode cL_law 365 = .ok (.iconst 0, 1) := by decide +kernel
theorem dL_law_366 : decode cL_law 366 = .ok (.ireturn, 1) := by decide +kernel
theorem dL_law_367 : decode cL_law 367 = .ok (.goto 1379, 3) := by decide +kernel
theorem dL_law_370 : decode cL_law 370 = .ok (.aload_n 1, 1) := by decide +kernel
theorem dL_law_371 : decode cL_law 371 = .ok (.aload_n 3, 1) := by decide +kernel
theorem dL_law_372 : decode cL_law 372 = .ok (.invokestatic 117, 3) := by decide +kernel
theorem dL_law_375 : decode cL_law 375 = .ok (.istore 5, 2) := by decide +kernel
theorem dL_law_377 : decode cL_law 377 = .ok (.aload_n 2, 1) := by decide +kernel
theorem dL_law_378 : decode cL_law 378 = .ok (.invokevirtual 120, 3) := by decide +kernel
theorem dL_law_381 : decode cL_law 381 = .ok (.istore 6, 2) := by decide +kernel
theorem dL_law_383 : decode cL_law 383 = .ok (.aload_n 2, 1) := by decide +kernel
theorem dL_law_384 : decode cL_law 384 = .ok (.invokevirtual 99, 3) := by decide +kernel
theorem dL_law_387 : decode cL_law 387 = .ok (.iload 5, 2) := by decide +kernel
theorem dL_law_389 : decode cL_law 389 = .ok (.if_icmp .eq 5, 3) := by decide +kernel
theorem dL_law_392 : decode cL_law 392 = .ok (.iconst 0, 1) := by decide +kernel
theorem dL_law_393 : decode cL_law 393 = .ok (.ireturn, 1) := by decide +kernel
theorem dL_law_394 : decode cL_law 394 = .ok (.iload 5, 2) := by decide +kernel
theorem dL_law_396 : decode cL_law 396 = .ok (.ifCond .ne 15, 3) := by decide +kernel
theorem dL_law_399 : decode cL_law 399 = .ok (.aload_n 3, 1) := by decide +kernel
theorem dL_law_400 : decode cL_law 400 = .ok (.iconst 0, 1) := by decide +kernel
theorem dL_law_401 : decode cL_law 401 = .ok (.laload, 1) := by decide +kernel
theorem dL_law_402 : decode cL_law 402 = .ok (.iload 6, 2) := by decide +kernel
theorem dL_law_404 : decode cL_law 404 = .ok (.i2l, 1) := by decide +kernel
theorem dL_law_405 : decode cL_law 405 = .ok (.lcmp, 1) := by decide +kernel
theorem dL_law_406 : decode cL_law 406 = .ok (.ifCond .eq 5, 3) := by decide +kernel
theorem dL_law_409 : decode cL_law 409 = .ok (.iconst 0, 1) := by decide +kernel
theorem dL_law_410 : decode cL_law 410 = .ok (.ireturn, 1) := by decide +kernel
theorem dL_law_411 : decode cL_law 411 = .ok (.goto 1335, 3) := by decide +kernel
theorem dL_law_414 : decode cL_law 414 = .ok (.aload_n 1, 1) := by decide +kernel
theorem dL_law_415 : decode cL_law 415 = .ok (.aload_n 0, 1) := by decide +kernel
theorem dL_law_416 : decode cL_law 416 = .ok (.iload 4, 2) := by decide +kernel
theorem dL_law_418 : decode cL_law 418 = .ok (.iconst 1, 1) := by decide +kernel
theorem dL_law_419 : decode cL_law 419 = .ok (.iadd, 1) := by decide +kernel
theorem dL_law_420 : decode cL_law 420 = .ok (.iaload, 1) := by decide +kernel
theorem dL_law_421 : decode cL_law 421 = .ok (.aload_n 3, 1) := by decide +kernel
theorem dL_law_422 : decode cL_law 422 = .ok (.invokestatic 121, 3) := by decide +kernel
theorem dL_law_425 : decode cL_law 425 = .ok (.istore 5, 2) := by decide +kernel
theorem dL_law_427 : decode cL_law 427 = .ok (.aload_n 2, 1) := by decide +kernel
theorem dL_law_428 : decode cL_law 428 = .ok (.aload_n 0, 1) := by decide +kernel
theorem dL_law_429 : decode cL_law 429 = .ok (.iload 4, 2) := by decide +kernel
theorem dL_law_431 : decode cL_law 431 = .ok (.iconst 1, 1) := by decide +kernel
theorem dL_law_432 : decode cL_law 432 = .ok (.iadd, 1) := by decide +kernel
theorem dL_law_433 : decode cL_law 433 = .ok (.iaload, 1) := by decide +kernel
theorem dL_law_434 : decode cL_law 434 = .ok (.invokevirtual 123, 3) := by decide +kernel
theorem dL_law_437 : decode cL_law 437 = .ok (.istore 6, 2) := by decide +kernel
theorem dL_law_439 : decode cL_law 439 = .ok (.aload_n 2, 1) := by decide +kernel
theorem dL_law_440 : decode cL_law 440 = .ok (.invokevirtual 99, 3) := by decide +kernel
theorem dL_law_443 : decode cL_law 443 = .ok (.iload 5, 2) := by decide +kernel
theorem dL_law_445 : decode cL_law 445 = .ok (.if_icmp .eq 5, 3) := by decide +kernel
theorem dL_law_448 : decode cL_law 448 = .ok (.iconst 0, 1) := by decide +kernel
theorem dL_law_449 : decode cL_law 449 = .ok (.ireturn, 1) := by decide +kernel
theorem dL_law_450 : decode cL_law 450 = .ok (.iload 5, 2) := by decide +kernel
theorem dL_law_452 : decode cL_law 452 = .ok (.ifCond .ne 15, 3) := by decide +kernel
theorem dL_law_455 : decode cL_law 455 = .ok (.aload_n 3, 1) := by decide +kernel
theorem dL_law_456 : decode cL_law 456 = .ok (.iconst 0, 1) := by decide +kernel
theorem dL_law_457 : decode cL_law 457 = .ok (.laload, 1) := by decide +kernel
theorem dL_law_458 : decode cL_law 458 = .ok (.iload 6, 2) := by decide +kernel
theorem dL_law_460 : decode cL_law 460 = .ok (.i2l, 1) := by decide +kernel
theorem dL_law_461 : decode cL_law 461 = .ok (.lcmp, 1) := by decide +kernel
theorem dL_law_462 : decode cL_law 462 = .ok (.ifCond .eq 5, 3) := by decide +kernel
theorem dL_law_465 : decode cL_law 465 = .ok (.iconst 0, 1) := by decide +kernel
theorem dL_law_466 : decode cL_law 466 = .ok (.ireturn, 1) := by decide +kernel
theorem dL_law_467 : decode cL_law 467 = .ok (.goto 1279, 3) := by decide +kernel
theorem dL_law_470 : decode cL_law 470 = .ok (.aload_n 1, 1) := by decide +kernel
theorem dL_law_471 : decode cL_law 471 = .ok (.aload_n 0, 1) := by decide +kernel
theorem dL_law_472 : decode cL_law 472 = .ok (.iload 4, 2) := by decide +kernel
theorem dL_law_474 : decode cL_law 474 = .ok (.iconst 1, 1) := by decide +kernel
theorem dL_law_475 : decode cL_law 475 = .ok (.iadd, 1) := by decide +kernel
theorem dL_law_476 : decode cL_law 476 = .ok (.iaload, 1) := by decide +kernel
theorem dL_law_477 : decode cL_law 477 = .ok (.aload_n 0, 1) := by decide +kernel
theorem dL_law_478 : decode cL_law 478 = .ok (.iload 4, 2) := by decide +kernel
theorem dL_law_480 : decode cL_law 480 = .ok (.iconst 2, 1) := by decide +kernel
theorem dL_law_481 : decode cL_law 481 = .ok (.iadd, 1) := by decide +kernel
theorem dL_law_482 : decode cL_law 482 = .ok (.iaload, 1) := by decide +kernel
theorem dL_law_483 : decode cL_law 483 = .ok (.aload_n 3, 1) := by decide +kernel
theorem dL_law_484 : decode cL_law 484 = .ok (.invokestatic 124, 3) := by decide +kernel
theorem dL_law_487 : decode cL_law 487 = .ok (.istore 5, 2) := by decide +kernel
theorem dL_law_489 : decode cL_law 489 = .ok (.aload_n 2, 1) := by decide +kernel
theorem dL_law_490 : decode cL_law 490 = .ok (.aload_n 0, 1) := by decide +kernel
theorem dL_law_491 : decode cL_law 491 = .ok (.iload 4, 2) := by decide +kernel
theorem dL_law_493 : decode cL_law 493 = .ok (.iconst 1, 1) := by decide +kernel
theorem dL_law_494 : decode cL_law 494 = .ok (.iadd, 1) := by decide +kernel
theorem dL_law_495 : decode cL_law 495 = .ok (.iaload, 1) := by decide +kernel
theorem dL_law_496 : decode cL_law 496 = .ok (.aload_n 0, 1) := by decide +kernel
theorem dL_law_497 : decode cL_law 497 = .ok (.iload 4, 2) := by decide +kernel
theorem dL_law_499 : decode cL_law 499 = .ok (.iconst 2, 1) := by decide +kernel
theorem dL_law_500 : decode cL_law 500 = .ok (.iadd, 1) := by decide +kernel
theorem dL_law_501 : decode cL_law 501 = .ok (.iaload, 1) := by decide +kernel
theorem dL_law_502 : decode cL_law 502 = .ok (.invokevirtual 126, 3) := by decide +kernel
theorem dL_law_505 : decode cL_law 505 = .ok (.istore 6, 2) := by decide +kernel
theorem dL_law_507 : decode cL_law 507 = .ok (.aload_n 2, 1) := by decide +kernel
theorem dL_law_508 : decode cL_law 508 = .ok (.invokevirtual 99, 3) := by decide +kernel
theorem dL_law_511 : decode cL_law 511 = .ok (.iload 5, 2) := by decide +kernel
theorem dL_law_513 : decode cL_law 513 = .ok (.if_icmp .eq 5, 3) := by decide +kernel
theorem dL_law_516 : decode cL_law 516 = .ok (.iconst 0, 1) := by decide +kernel
theorem dL_law_517 : decode cL_law 517 = .ok (.ireturn, 1) := by decide +kernel
theorem dL_law_518 : decode cL_law 518 = .ok (.iload 5, 2) := by decide +kernel
theorem dL_law_520 : decode cL_law 520 = .ok (.ifCond .ne 15, 3) := by decide +kernel
theorem dL_law_523 : decode cL_law 523 = .ok (.aload_n 3, 1) := by decide +kernel
theorem dL_law_524 : decode cL_law 524 = .ok (.iconst 0, 1) := by decide +kernel
theorem dL_law_525 : decode cL_law 525 = .ok (.laload, 1) := by decide +kernel
theorem dL_law_526 : decode cL_law 526 = .ok (.iload 6, 2) := by decide +kernel
theorem dL_law_528 : decode cL_law 528 = .ok (.i2l, 1) := by decide +kernel
theorem dL_law_529 : decode cL_law 529 = .ok (.lcmp, 1) := by decide +kernel
theorem dL_law_530 : decode cL_law 530 = .ok (.ifCond .eq 5, 3) := by decide +kernel
theorem dL_law_533 : decode cL_law 533 = .ok (.iconst 0, 1) := by decide +kernel
theorem dL_law_534 : decode cL_law 534 = .ok (.ireturn, 1) := by decide +kernel
theorem dL_law_535 : decode cL_law 535 = .ok (.goto 1211, 3) := by decide +kernel
theorem dL_law_538 : decode cL_law 538 = .ok (.aload_n 1, 1) := by decide +kernel
theorem dL_law_539 : decode cL_law 539 = .ok (.aload_n 0, 1) := by decide +kernel
theorem dL_law_540 : decode cL_law 540 = .ok (.iload 4, 2) := by decide +kernel
theorem dL_law_542 : decode cL_law 542 = .ok (.iconst 1, 1) := by decide +kernel
theorem dL_law_543 : decode cL_law 543 = .ok (.iadd, 1) := by decide +kernel
theorem dL_law_544 : decode cL_law 544 = .ok (.iaload, 1) := by decide +kernel
theorem dL_law_545 : decode cL_law 545 = .ok (.aload_n 0, 1) := by decide +kernel
theorem dL_law_546 : decode cL_law 546 = .ok (.iload 4, 2) := by decide +kernel
theorem dL_law_548 : decode cL_law 548 = .ok (.iconst 2, 1) := by decide +kernel
theorem dL_law_549 : decode cL_law 549 = .ok (.iadd, 1) := by decide +kernel
theorem dL_law_550 : decode cL_law 550 = .ok (.iaload, 1) := by decide +kernel
theorem dL_law_551 : decode cL_law 551 = .ok (.aload_n 3, 1) := by decide +kernel
theorem dL_law_552 : decode cL_law 552 = .ok (.invokestatic 127, 3) := by decide +kernel
theorem dL_law_555 : decode cL_law 555 = .ok (.istore 5, 2) := by decide +kernel
theorem dL_law_557 : decode cL_law 557 = .ok (.aload_n 2, 1) := by decide +kernel
theorem dL_law_558 : decode cL_law 558 = .ok (.aload_n 0, 1) := by decide +kernel
theorem dL_law_559 : decode cL_law 559 = .ok (.iload 4, 2) := by decide +kernel
theorem dL_law_561 : decode cL_law 561 = .ok (.iconst 1, 1) := by decide +kernel
theorem dL_law_562 : decode cL_law 562 = .ok (.iadd, 1) := by decide +kernel
theorem dL_law_563 : decode cL_law 563 = .ok (.iaload, 1) := by decide +kernel
theorem dL_law_564 : decode cL_law 564 = .ok (.aload_n 0, 1) := by decide +kernel
theorem dL_law_565 : decode cL_law 565 = .ok (.iload 4, 2) := by decide +kernel
theorem dL_law_567 : decode cL_law 567 = .ok (.iconst 2, 1) := by decide +kernel
theorem dL_law_568 : decode cL_law 568 = .ok (.iadd, 1) := by decide +kernel
theorem dL_law_569 : decode cL_law 569 = .ok (.iaload, 1) := by decide +kernel
theorem dL_law_570 : decode cL_law 570 = .ok (.invokevirtual 129, 3) := by decide +kernel
theorem dL_law_573 : decode cL_law 573 = .ok (.istore 6, 2) := by decide +kernel
theorem dL_law_575 : decode cL_law 575 = .ok (.aload_n 2, 1) := by decide +kernel
theorem dL_law_576 : decode cL_law 576 = .ok (.invokevirtual 99, 3) := by decide +kernel
theorem dL_law_579 : decode cL_law 579 = .ok (.iload 5, 2) := by decide +kernel
theorem dL_law_581 : decode cL_law 581 = .ok (.if_icmp .eq 5, 3) := by decide +kernel
theorem dL_law_584 : decode cL_law 584 = .ok (.iconst 0, 1) := by decide +kernel
theorem dL_law_585 : decode cL_law 585 = .ok (.ireturn, 1) := by decide +kernel
theorem dL_law_586 : decode cL_law 586 = .ok (.iload 5, 2) := by decide +kernel
theorem dL_law_588 : decode cL_law 588 = .ok (.ifCond .ne 15, 3) := by decide +kernel
theorem dL_law_591 : decode cL_law 591 = .ok (.aload_n 3, 1) := by decide +kernel
theorem dL_law_592 : decode cL_law 592 = .ok (.iconst 0, 1) := by decide +kernel
theorem dL_law_593 : decode cL_law 593 = .ok (.laload, 1) := by decide +kernel
theorem dL_law_594 : decode cL_law 594 = .ok (.iload 6, 2) := by decide +kernel
theorem dL_law_596 : decode cL_law 596 = .ok (.i2l, 1) := by decide +kernel
theorem dL_law_597 : decode cL_law 597 = .ok (.lcmp, 1) := by decide +kernel
theorem dL_law_598 : decode cL_law 598 = .ok (.ifCond .eq 5, 3) := by decide +kernel
theorem dL_law_601 : decode cL_law 601 = .ok (.iconst 0, 1) := by decide +kernel
theorem dL_law_602 : decode cL_law 602 = .ok (.ireturn, 1) := by decide +kernel
theorem dL_law_603 : decode cL_law 603 = .ok (.goto 1143, 3) := by decide +kernel
theorem dL_law_606 : decode cL_law 606 = .ok (.aload_n 1, 1) := by decide +kernel
theorem dL_law_607 : decode cL_law 607 = .ok (.aload_n 0, 1) := by decide +kernel
theorem dL_law_608 : decode cL_law 608 = .ok (.iload 4, 2) := by decide +kernel
theorem dL_law_610 : decode cL_law 610 = .ok (.iconst 1, 1) := by decide +kernel
theorem dL_law_611 : decode cL_law 611 = .ok (.iadd, 1) := by decide +kernel
theorem dL_law_612 : decode cL_law 612 = .ok (.iaload, 1) := by decide +kernel
theorem dL_law_613 : decode cL_law 613 = .ok (.aload_n 0, 1) := by decide +kernel
theorem dL_law_614 : decode cL_law 614 = .ok (.iload 4, 2) := by decide +kernel
theorem dL_law_616 : decode cL_law 616 = .ok (.iconst 2, 1) := by decide +kernel
theorem dL_law_617 : decode cL_law 617 = .ok (.iadd, 1) := by decide +kernel
theorem dL_law_618 : decode cL_law 618 = .ok (.iaload, 1) := by decide +kernel
theorem dL_law_619 : decode cL_law 619 = .ok (.aload_n 0, 1) := by decide +kernel
theorem dL_law_620 : decode cL_law 620 = .ok (.iload 4, 2) := by decide +kernel
theorem dL_law_622 : decode cL_law 622 = .ok (.iconst 3, 1) := by decide +kernel
theorem dL_law_623 : decode cL_law 623 = .ok (.iadd, 1) := by decide +kernel
theorem dL_law_624 : decode cL_law 624 = .ok (.iaload, 1) := by decide +kernel
theorem dL_law_625 : decode cL_law 625 = .ok (.aload_n 0, 1) := by decide +kernel
theorem dL_law_626 : decode cL_law 626 = .ok (.iload 4, 2) := by decide +kernel
theorem dL_law_628 : decode cL_law 628 = .ok (.iconst 4, 1) := by decide +kernel
theorem dL_law_629 : decode cL_law 629 = .ok (.iadd, 1) := by decide +kernel
theorem dL_law_630 : decode cL_law 630 = .ok (.iaload, 1) := by decide +kernel
theorem dL_law_631 : decode cL_law 631 = .ok (.aload_n 3, 1) := by decide +kernel
theorem dL_law_632 : decode cL_law 632 = .ok (.invokestatic 130, 3) := by decide +kernel
theorem dL_law_635 : decode cL_law 635 = .ok (.istore 5, 2) := by decide +kernel
theorem dL_law_637 : decode cL_law 637 = .ok (.aload_n 2, 1) := by decide +kernel
theorem dL_law_638 : decode cL_law 638 = .ok (.aload_n 0, 1) := by decide +kernel
theorem dL_law_639 : decode cL_law 639 = .ok (.iload 4, 2) := by decide +kernel
theorem dL_law_641 : decode cL_law 641 = .ok (.iconst 1, 1) := by decide +kernel
theorem dL_law_642 : decode cL_law 642 = .ok (.iadd, 1) := by decide +kernel
theorem dL_law_643 : decode cL_law 643 = .ok (.iaload, 1) := by decide +kernel
theorem dL_law_644 : decode cL_law 644 = .ok (.aload_n 0, 1) := by decide +kernel
theorem dL_law_645 : decode cL_law 645 = .ok (.iload 4, 2) := by decide +kernel
theorem dL_law_647 : decode cL_law 647 = .ok (.iconst 2, 1) := by decide +kernel
theorem dL_law_648 : decode cL_law 648 = .ok (.iadd, 1) := by decide +kernel
theorem dL_law_649 : decode cL_law 649 = .ok (.iaload, 1) := by decide +kernel
theorem dL_law_650 : decode cL_law 650 = .ok (.aload_n 0, 1) := by decide +kernel
theorem dL_law_651 : decode cL_law 651 = .ok (.iload 4, 2) := by decide +kernel
theorem dL_law_653 : decode cL_law 653 = .ok (.iconst 3, 1) := by decide +kernel
theorem dL_law_654 : decode cL_law 654 = .ok (.iadd, 1) := by decide +kernel
theorem dL_law_655 : decode cL_law 655 = .ok (.iaload, 1) := by decide +kernel
theorem dL_law_656 : decode cL_law 656 = .ok (.aload_n 0, 1) := by decide +kernel
theorem dL_law_657 : decode cL_law 657 = .ok (.iload 4, 2) := by decide +kernel
theorem dL_law_659 : decode cL_law 659 = .ok (.iconst 4, 1) := by decide +kernel
theorem dL_law_660 : decode cL_law 660 = .ok (.iadd, 1) := by decide +kernel
theorem dL_law_661 : decode cL_law 661 = .ok (.iaload, 1) := by decide +kernel
theorem dL_law_662 : decode cL_law 662 = .ok (.invokevirtual 133, 3) := by decide +kernel
theorem dL_law_665 : decode cL_law 665 = .ok (.istore 6, 2) := by decide +kernel
theorem dL_law_667 : decode cL_law 667 = .ok (.aload_n 2, 1) := by decide +kernel
theorem dL_law_668 : decode cL_law 668 = .ok (.invokevirtual 99, 3) := by decide +kernel
theorem dL_law_671 : decode cL_law 671 = .ok (.iload 5, 2) := by decide +kernel
theorem dL_law_673 : decode cL_law 673 = .ok (.if_icmp .eq 5, 3) := by decide +kernel
theorem dL_law_676 : decode cL_law 676 = .ok (.iconst 0, 1) := by decide +kernel
theorem dL_law_677 : decode cL_law 677 = .ok (.ireturn, 1) := by decide +kernel
theorem dL_law_678 : decode cL_law 678 = .ok (.iload 5, 2) := by decide +kernel
theorem dL_law_680 : decode cL_law 680 = .ok (.ifCond .ne 15, 3) := by decide +kernel
theorem dL_law_683 : decode cL_law 683 = .ok (.aload_n 3, 1) := by decide +kernel
theorem dL_law_684 : decode cL_law 684 = .ok (.iconst 0, 1) := by decide +kernel
theorem dL_law_685 : decode cL_law 685 = .ok (.laload, 1) := by decide +kernel
theorem dL_law_686 : decode cL_law 686 = .ok (.iload 6, 2) := by decide +kernel
theorem dL_law_688 : decode cL_law 688 = .ok (.i2l, 1) := by decide +kernel
theorem dL_law_689 : decode cL_law 689 = .ok (.lcmp, 1) := by decide +kernel
theorem dL_law_690 : decode cL_law 690 = .ok (.ifCond .eq 5, 3) := by decide +kernel
theorem dL_law_693 : decode cL_law 693 = .ok (.iconst 0, 1) := by decide +kernel
theorem dL_law_694 : decode cL_law 694 = .ok (.ireturn, 1) := by decide +kernel
theorem dL_law_695 : decode cL_law 695 = .ok (.goto 1051, 3) := by decide +kernel
theorem dL_law_698 : decode cL_law 698 = .ok (.aload_n 1, 1) := by decide +kernel
theorem dL_law_699 : decode cL_law 699 = .ok (.aload_n 0, 1) := by decide +kernel
theorem dL_law_700 : decode cL_law 700 = .ok (.iload 4, 2) := by decide +kernel
theorem dL_law_702 : decode cL_law 702 = .ok (.iconst 1, 1) := by decide +kernel
theorem dL_law_703 : decode cL_law 703 = .ok (.iadd, 1) := by decide +kernel
theorem dL_law_704 : decode cL_law 704 = .ok (.iaload, 1) := by decide +kernel
theorem dL_law_705 : decode cL_law 705 = .ok (.aload_n 0, 1) := by decide +kernel
theorem dL_law_706 : decode cL_law 706 = .ok (.iload 4, 2) := by decide +kernel
theorem dL_law_708 : decode cL_law 708 = .ok (.iconst 2, 1) := by decide +kernel
theorem dL_law_709 : decode cL_law 709 = .ok (.iadd, 1) := by decide +kernel
theorem dL_law_710 : decode cL_law 710 = .ok (.iaload, 1) := by decide +kernel
theorem dL_law_711 : decode cL_law 711 = .ok (.aload_n 0, 1) := by decide +kernel
theorem dL_law_712 : decode cL_law 712 = .ok (.iload 4, 2) := by decide +kernel
theorem dL_law_714 : decode cL_law 714 = .ok (.iconst 3, 1) := by decide +kernel
theorem dL_law_715 : decode cL_law 715 = .ok (.iadd, 1) := by decide +kernel
theorem dL_law_716 : decode cL_law 716 = .ok (.iaload, 1) := by decide +kernel
theorem dL_law_717 : decode cL_law 717 = .ok (.aload_n 3, 1) := by decide +kernel
theorem dL_law_718 : decode cL_law 718 = .ok (.invokestatic 134, 3) := by decide +kernel
theorem dL_law_721 : decode cL_law 721 = .ok (.istore 5, 2) := by decide +kernel
theorem dL_law_723 : decode cL_law 723 = .ok (.aload_n 2, 1) := by decide +kernel
theorem dL_law_724 : decode cL_law 724 = .ok (.aload_n 0, 1) := by decide +kernel
theorem dL_law_725 : decode cL_law 725 = .ok (.iload 4, 2) := by decide +kernel
theorem dL_law_727 : decode cL_law 727 = .ok (.iconst 1, 1) := by decide +kernel
theorem dL_law_728 : decode cL_law 728 = .ok (.iadd, 1) := by decide +kernel
theorem dL_law_729 : decode cL_law 729 = .ok (.iaload, 1) := by decide +kernel
theorem dL_law_730 : decode cL_law 730 = .ok (.aload_n 0, 1) := by decide +kernel
theorem dL_law_731 : decode cL_law 731 = .ok (.iload 4, 2) := by decide +kernel
theorem dL_law_733 : decode cL_law 733 = .ok (.iconst 2, 1) := by decide +kernel
theorem dL_law_734 : decode cL_law 734 = .ok (.iadd, 1) := by decide +kernel
theorem dL_law_735 : decode cL_law 735 = .ok (.iaload, 1) := by decide +kernel
theorem dL_law_736 : decode cL_law 736 = .ok (.aload_n 0, 1) := by decide +kernel
theorem dL_law_737 : decode cL_law 737 = .ok (.iload 4, 2) := by decide +kernel
theorem dL_law_739 : decode cL_law 739 = .ok (.iconst 3, 1) := by decide +kernel
theorem dL_law_740 : decode cL_law 740 = .ok (.iadd, 1) := by decide +kernel
theorem dL_law_741 : decode cL_law 741 = .ok (.iaload, 1) := by decide +kernel
theorem dL_law_742 : decode cL_law 742 = .ok (.invokevirtual 137, 3) := by decide +kernel
theorem dL_law_745 : decode cL_law 745 = .ok (.istore 6, 2) := by decide +kernel
theorem dL_law_747 : decode cL_law 747 = .ok (.aload_n 2, 1) := by decide +kernel
theorem dL_law_748 : decode cL_law 748 = .ok (.invokevirtual 99, 3) := by decide +kernel
theorem dL_law_751 : decode cL_law 751 = .ok (.iload 5, 2) := by decide +kernel
theorem dL_law_753 : decode cL_law 753 = .ok (.if_icmp .eq 5, 3) := by decide +kernel
theorem dL_law_756 : decode cL_law 756 = .ok (.iconst 0, 1) := by decide +kernel
theorem dL_law_757 : decode cL_law 757 = .ok (.ireturn, 1) := by decide +kernel
theorem dL_law_758 : decode cL_law 758 = .ok (.iload 5, 2) := by decide +kernel
theorem dL_law_760 : decode cL_law 760 = .ok (.ifCond .ne 15, 3) := by decide +kernel
theorem dL_law_763 : decode cL_law 763 = .ok (.aload_n 3, 1) := by decide +kernel
theorem dL_law_764 : decode cL_law 764 = .ok (.iconst 0, 1) := by decide +kernel
theorem dL_law_765 : decode cL_law 765 = .ok (.laload, 1) := by decide +kernel
theorem dL_law_766 : decode cL_law 766 = .ok (.iload 6, 2) := by decide +kernel
theorem dL_law_768 : decode cL_law 768 = .ok (.i2l, 1) := by decide +kernel
theorem dL_law_769 : decode cL_law 769 = .ok (.lcmp, 1) := by decide +kernel
theorem dL_law_770 : decode cL_law 770 = .ok (.ifCond .eq 5, 3) := by decide +kernel
theorem dL_law_773 : decode cL_law 773 = .ok (.iconst 0, 1) := by decide +kernel
theorem dL_law_774 : decode cL_law 774 = .ok (.ireturn, 1) := by decide +kernel
theorem dL_law_775 : decode cL_law 775 = .ok (.goto 971, 3) := by decide +kernel
theorem dL_law_778 : decode cL_law 778 = .ok (.aload_n 1, 1) := by decide +kernel
theorem dL_law_779 : decode cL_law 779 = .ok (.invokevirtual 138, 3) := by decide +kernel
theorem dL_law_782 : decode cL_law 782 = .ok (.aload_n 2, 1) := by decide +kernel
theorem dL_law_783 : decode cL_law 783 = .ok (.invokevirtual 141, 3) := by decide +kernel
theorem dL_law_786 : decode cL_law 786 = .ok (.if_icmp .eq 960, 3) := by decide +kernel
theorem dL_law_789 : decode cL_law 789 = .ok (.iconst 0, 1) := by decide +kernel
theorem dL_law_790 : decode cL_law 790 = .ok (.ireturn, 1) := by decide +kernel
theorem dL_law_791 : decode cL_law 791 = .ok (.aload_n 1, 1) := by decide +kernel
theorem dL_law_792 : decode cL_law 792 = .ok (.aload_n 0, 1) := by decide +kernel
theorem dL_law_793 : decode cL_law 793 = .ok (.iload 4, 2) := by decide +kernel
theorem dL_law_795 : decode cL_law 795 = .ok (.iconst 1, 1) := by decide +kernel
theorem dL_law_796 : decode cL_law 796 = .ok (.iadd, 1) := by decide +kernel
theorem dL_law_797 : decode cL_law 797 = .ok (.iaload, 1) := by decide +kernel
theorem dL_law_798 : decode cL_law 798 = .ok (.aload_n 0, 1) := by decide +kernel
theorem dL_law_799 : decode cL_law 799 = .ok (.iload 4, 2) := by decide +kernel
theorem dL_law_801 : decode cL_law 801 = .ok (.iconst 2, 1) := by decide +kernel
theorem dL_law_802 : decode cL_law 802 = .ok (.iadd, 1) := by decide +kernel
theorem dL_law_803 : decode cL_law 803 = .ok (.iaload, 1) := by decide +kernel
theorem dL_law_804 : decode cL_law 804 = .ok (.aload_n 0, 1) := by decide +kernel
theorem dL_law_805 : decode cL_law 805 = .ok (.iload 4, 2) := by decide +kernel
theorem dL_law_807 : decode cL_law 807 = .ok (.iconst 3, 1) := by decide +kernel
theorem dL_law_808 : decode cL_law 808 = .ok (.iadd, 1) := by decide +kernel
theorem dL_law_809 : decode cL_law 809 = .ok (.iaload, 1) := by decide +kernel
theorem dL_law_810 : decode cL_law 810 = .ok (.aload_n 3, 1) := by decide +kernel
theorem dL_law_811 : decode cL_law 811 = .ok (.invokestatic 142, 3) := by decide +kernel
theorem dL_law_814 : decode cL_law 814 = .ok (.istore 5, 2) := by decide +kernel
theorem dL_law_816 : decode cL_law 816 = .ok (.aload_n 2, 1) := by decide +kernel
theorem dL_law_817 : decode cL_law 817 = .ok (.aload_n 0, 1) := by decide +kernel
theorem dL_law_818 : decode cL_law 818 = .ok (.iload 4, 2) := by decide +kernel
theorem dL_law_820 : decode cL_law 820 = .ok (.iconst 1, 1) := by decide +kernel
theorem dL_law_821 : decode cL_law 821 = .ok (.iadd, 1) := by decide +kernel
theorem dL_law_822 : decode cL_law 822 = .ok (.iaload, 1) := by decide +kernel
theorem dL_law_823 : decode cL_law 823 = .ok (.aload_n 0, 1) := by decide +kernel
theorem dL_law_824 : decode cL_law 824 = .ok (.iload 4, 2) := by decide +kernel
theorem dL_law_826 : decode cL_law 826 = .ok (.iconst 2, 1) := by decide +kernel
theorem dL_law_827 : decode cL_law 827 = .ok (.iadd, 1) := by decide +kernel
theorem dL_law_828 : decode cL_law 828 = .ok (.iaload, 1) := by decide +kernel
theorem dL_law_829 : decode cL_law 829 = .ok (.aload_n 0, 1) := by decide +kernel
theorem dL_law_830 : decode cL_law 830 = .ok (.iload 4, 2) := by decide +kernel
theorem dL_law_832 : decode cL_law 832 = .ok (.iconst 3, 1) := by decide +kernel
theorem dL_law_833 : decode cL_law 833 = .ok (.iadd, 1) := by decide +kernel
theorem dL_law_834 : decode cL_law 834 = .ok (.iaload, 1) := by decide +kernel
theorem dL_law_835 : decode cL_law 835 = .ok (.invokevirtual 144, 3) := by decide +kernel
theorem dL_law_838 : decode cL_law 838 = .ok (.istore 6, 2) := by decide +kernel
theorem dL_law_840 : decode cL_law 840 = .ok (.aload_n 2, 1) := by decide +kernel
theorem dL_law_841 : decode cL_law 841 = .ok (.invokevirtual 99, 3) := by decide +kernel
theorem dL_law_844 : decode cL_law 844 = .ok (.iload 5, 2) := by decide +kernel
theorem dL_law_846 : decode cL_law 846 = .ok (.if_icmp .eq 5, 3) := by decide +kernel
theorem dL_law_849 : decode cL_law 849 = .ok (.iconst 0, 1) := by decide +kernel
theorem dL_law_850 : decode cL_law 850 = .ok (.ireturn, 1) := by decide +kernel
theorem dL_law_851 : decode cL_law 851 = .ok (.iload 5, 2) := by decide +kernel
theorem dL_law_853 : decode cL_law 853 = .ok (.ifCond .ne 15, 3) := by decide +kernel
theorem dL_law_856 : decode cL_law 856 = .ok (.aload_n 3, 1) := by decide +kernel
theorem dL_law_857 : decode cL_law 857 = .ok (.iconst 0, 1) := by decide +kernel
theorem dL_law_858 : decode cL_law 858 = .ok (.laload, 1) := by decide +kernel
theorem dL_law_859 : decode cL_law 859 = .ok (.iload 6, 2) := by decide +kernel
theorem dL_law_861 : decode cL_law 861 = .ok (.i2l, 1) := by decide +kernel
theorem dL_law_862 : decode cL_law 862 = .ok (.lcmp, 1) := by decide +kernel
theorem dL_law_863 : decode cL_law 863 = .ok (.ifCond .eq 5, 3) := by decide +kernel
theorem dL_law_866 : decode cL_law 866 = .ok (.iconst 0, 1) := by decide +kernel
theorem dL_law_867 : decode cL_law 867 = .ok (.ireturn, 1) := by decide +kernel
theorem dL_law_868 : decode cL_law 868 = .ok (.goto 878, 3) := by decide +kernel
theorem dL_law_871 : decode cL_law 871 = .ok (.aload_n 1, 1) := by decide +kernel
theorem dL_law_872 : decode cL_law 872 = .ok (.aload_n 0, 1) := by decide +kernel
theorem dL_law_873 : decode cL_law 873 = .ok (.iload 4, 2) := by decide +kernel
theorem dL_law_875 : decode cL_law 875 = .ok (.iconst 1, 1) := by decide +kernel
theorem dL_law_876 : decode cL_law 876 = .ok (.iadd, 1) := by decide +kernel
theorem dL_law_877 : decode cL_law 877 = .ok (.iaload, 1) := by decide +kernel
theorem dL_law_878 : decode cL_law 878 = .ok (.aload_n 0, 1) := by decide +kernel
theorem dL_law_879 : decode cL_law 879 = .ok (.iload 4, 2) := by decide +kernel
theorem dL_law_881 : decode cL_law 881 = .ok (.iconst 2, 1) := by decide +kernel
theorem dL_law_882 : decode cL_law 882 = .ok (.iadd, 1) := by decide +kernel
theorem dL_law_883 : decode cL_law 883 = .ok (.iaload, 1) := by decide +kernel
theorem dL_law_884 : decode cL_law 884 = .ok (.aload_n 3, 1) := by decide +kernel
theorem dL_law_885 : decode cL_law 885 = .ok (.invokestatic 145, 3) := by decide +kernel
theorem dL_law_888 : decode cL_law 888 = .ok (.istore 5, 2) := by decide +kernel
theorem dL_law_890 : decode cL_law 890 = .ok (.aload_n 2, 1) := by decide +kernel
theorem dL_law_891 : decode cL_law 891 = .ok (.aload_n 0, 1) := by decide +kernel
theorem dL_law_892 : decode cL_law 892 = .ok (.iload 4, 2) := by decide +kernel
theorem dL_law_894 : decode cL_law 894 = .ok (.iconst 1, 1) := by decide +kernel
theorem dL_law_895 : decode cL_law 895 = .ok (.iadd, 1) := by decide +kernel
theorem dL_law_896 : decode cL_law 896 = .ok (.iaload, 1) := by decide +kernel
theorem dL_law_897 : decode cL_law 897 = .ok (.aload_n 0, 1) := by decide +kernel
theorem dL_law_898 : decode cL_law 898 = .ok (.iload 4, 2) := by decide +kernel
theorem dL_law_900 : decode cL_law 900 = .ok (.iconst 2, 1) := by decide +kernel
theorem dL_law_901 : decode cL_law 901 = .ok (.iadd, 1) := by decide +kernel
theorem dL_law_902 : decode cL_law 902 = .ok (.iaload, 1) := by decide +kernel
theorem dL_law_903 : decode cL_law 903 = .ok (.invokevirtual 147, 3) := by decide +kernel
theorem dL_law_906 : decode cL_law 906 = .ok (.istore 6, 2) := by decide +kernel
theorem dL_law_908 : decode cL_law 908 = .ok (.aload_n 2, 1) := by decide +kernel
theorem dL_law_909 : decode cL_law 909 = .ok (.invokevirtual 99, 3) := by decide +kernel
theorem dL_law_912 : decode cL_law 912 = .ok (.iload 5, 2) := by decide +kernel
theorem dL_law_914 : decode cL_law 914 = .ok (.if_icmp .eq 5, 3) := by decide +kernel
theorem dL_law_917 : decode cL_law 917 = .ok (.iconst 0, 1) := by decide +kernel
theorem dL_law_918 : decode cL_law 918 = .ok (.ireturn, 1) := by decide +kernel
theorem dL_law_919 : decode cL_law 919 = .ok (.iload 5, 2) := by decide +kernel
theorem dL_law_921 : decode cL_law 921 = .ok (.ifCond .ne 15, 3) := by decide +kernel
theorem dL_law_924 : decode cL_law 924 = .ok (.aload_n 3, 1) := by decide +kernel
theorem dL_law_925 : decode cL_law 925 = .ok (.iconst 0, 1) := by decide +kernel
theorem dL_law_926 : decode cL_law 926 = .ok (.laload, 1) := by decide +kernel
theorem dL_law_927 : decode cL_law 927 = .ok (.iload 6, 2) := by decide +kernel
theorem dL_law_929 : decode cL_law 929 = .ok (.i2l, 1) := by decide +kernel
theorem dL_law_930 : decode cL_law 930 = .ok (.lcmp, 1) := by decide +kernel
theorem dL_law_931 : decode cL_law 931 = .ok (.ifCond .eq 5, 3) := by decide +kernel
theorem dL_law_934 : decode cL_law 934 = .ok (.iconst 0, 1) := by decide +kernel
theorem dL_law_935 : decode cL_law 935 = .ok (.ireturn, 1) := by decide +kernel
theorem dL_law_936 : decode cL_law 936 = .ok (.goto 810, 3) := by decide +kernel
theorem dL_law_939 : decode cL_law 939 = .ok (.aload_n 1, 1) := by decide +kernel
theorem dL_law_940 : decode cL_law 940 = .ok (.aload_n 0, 1) := by decide +kernel
theorem dL_law_941 : decode cL_law 941 = .ok (.iload 4, 2) := by decide +kernel
theorem dL_law_943 : decode cL_law 943 = .ok (.iconst 1, 1) := by decide +kernel
theorem dL_law_944 : decode cL_law 944 = .ok (.iadd, 1) := by decide +kernel
theorem dL_law_945 : decode cL_law 945 = .ok (.iaload, 1) := by decide +kernel
theorem dL_law_946 : decode cL_law 946 = .ok (.aload_n 0, 1) := by decide +kernel
theorem dL_law_947 : decode cL_law 947 = .ok (.iload 4, 2) := by decide +kernel
theorem dL_law_949 : decode cL_law 949 = .ok (.iconst 2, 1) := by decide +kernel
theorem dL_law_950 : decode cL_law 950 = .ok (.iadd, 1) := by decide +kernel
theorem dL_law_951 : decode cL_law 951 = .ok (.iaload, 1) := by decide +kernel
theorem dL_law_952 : decode cL_law 952 = .ok (.aload_n 0, 1) := by decide +kernel
theorem dL_law_953 : decode cL_law 953 = .ok (.iload 4, 2) := by decide +kernel
theorem dL_law_955 : decode cL_law 955 = .ok (.iconst 3, 1) := by decide +kernel
theorem dL_law_956 : decode cL_law 956 = .ok (.iadd, 1) := by decide +kernel
theorem dL_law_957 : decode cL_law 957 = .ok (.iaload, 1) := by decide +kernel
theorem dL_law_958 : decode cL_law 958 = .ok (.aload_n 3, 1) := by decide +kernel
theorem dL_law_959 : decode cL_law 959 = .ok (.invokestatic 148, 3) := by decide +kernel
theorem dL_law_962 : decode cL_law 962 = .ok (.istore 5, 2) := by decide +kernel
theorem dL_law_964 : decode cL_law 964 = .ok (.aload_n 2, 1) := by decide +kernel
theorem dL_law_965 : decode cL_law 965 = .ok (.aload_n 0, 1) := by decide +kernel
theorem dL_law_966 : decode cL_law 966 = .ok (.iload 4, 2) := by decide +kernel
theorem dL_law_968 : decode cL_law 968 = .ok (.iconst 1, 1) := by decide +kernel
theorem dL_law_969 : decode cL_law 969 = .ok (.iadd, 1) := by decide +kernel
theorem dL_law_970 : decode cL_law 970 = .ok (.iaload, 1) := by decide +kernel
theorem dL_law_971 : decode cL_law 971 = .ok (.aload_n 0, 1) := by decide +kernel
theorem dL_law_972 : decode cL_law 972 = .ok (.iload 4, 2) := by decide +kernel
theorem dL_law_974 : decode cL_law 974 = .ok (.iconst 2, 1) := by decide +kernel
theorem dL_law_975 : decode cL_law 975 = .ok (.iadd, 1) := by decide +kernel
theorem dL_law_976 : decode cL_law 976 = .ok (.iaload, 1) := by decide +kernel
theorem dL_law_977 : decode cL_law 977 = .ok (.aload_n 0, 1) := by decide +kernel
theorem dL_law_978 : decode cL_law 978 = .ok (.iload 4, 2) := by decide +kernel
theorem dL_law_980 : decode cL_law 980 = .ok (.iconst 3, 1) := by decide +kernel
theorem dL_law_981 : decode cL_law 981 = .ok (.iadd, 1) := by decide +kernel
theorem dL_law_982 : decode cL_law 982 = .ok (.iaload, 1) := by decide +kernel
theorem dL_law_983 : decode cL_law 983 = .ok (.invokevirtual 150, 3) := by decide +kernel
theorem dL_law_986 : decode cL_law 986 = .ok (.istore 6, 2) := by decide +kernel
theorem dL_law_988 : decode cL_law 988 = .ok (.aload_n 2, 1) := by decide +kernel
theorem dL_law_989 : decode cL_law 989 = .ok (.invokevirtual 99, 3) := by decide +kernel
theorem dL_law_992 : decode cL_law 992 = .ok (.iload 5, 2) := by decide +kernel
theorem dL_law_994 : decode cL_law 994 = .ok (.if_icmp .eq 5, 3) := by decide +kernel
theorem dL_law_997 : decode cL_law 997 = .ok (.iconst 0, 1) := by decide +kernel
theorem dL_law_998 : decode cL_law 998 = .ok (.ireturn, 1) := by decide +kernel
theorem dL_law_999 : decode cL_law 999 = .ok (.iload 5, 2) := by decide +kernel
theorem dL_law_1001 : decode cL_law 1001 = .ok (.ifCond .ne 15, 3) := by decide +kernel
theorem dL_law_1004 : decode cL_law 1004 = .ok (.aload_n 3, 1) := by decide +kernel
theorem dL_law_1005 : decode cL_law 1005 = .ok (.iconst 0, 1) := by decide +kernel
theorem dL_law_1006 : decode cL_law 1006 = .ok (.laload, 1) := by decide +kernel
theorem dL_law_1007 : decode cL_law 1007 = .ok (.iload 6, 2) := by decide +kernel
theorem dL_law_1009 : decode cL_law 1009 = .ok (.i2l, 1) := by decide +kernel
theorem dL_law_1010 : decode cL_law 1010 = .ok (.lcmp, 1) := by decide +kernel
theorem dL_law_1011 : decode cL_law 1011 = .ok (.ifCond .eq 5, 3) := by decide +kernel
theorem dL_law_1014 : decode cL_law 1014 = .ok (.iconst 0, 1) := by decide +kernel
theorem dL_law_1015 : decode cL_law 1015 = .ok (.ireturn, 1) := by decide +kernel
theorem dL_law_1016 : decode cL_law 1016 = .ok (.goto 730, 3) := by decide +kernel
theorem dL_law_1019 : decode cL_law 1019 = .ok (.aload_n 1, 1) := by decide +kernel
theorem dL_law_1020 : decode cL_law 1020 = .ok (.aload_n 0, 1) := by decide +kernel
theorem dL_law_1021 : decode cL_law 1021 = .ok (.iload 4, 2) := by decide +kernel
theorem dL_law_1023 : decode cL_law 1023 = .ok (.iconst 1, 1) := by decide +kernel
theorem dL_law_1024 : decode cL_law 1024 = .ok (.iadd, 1) := by decide +kernel
theorem dL_law_1025 : decode cL_law 1025 = .ok (.iaload, 1) := by decide +kernel
theorem dL_law_1026 : decode cL_law 1026 = .ok (.aload_n 0, 1) := by decide +kernel
theorem dL_law_1027 : decode cL_law 1027 = .ok (.iload 4, 2) := by decide +kernel
theorem dL_law_1029 : decode cL_law 1029 = .ok (.iconst 2, 1) := by decide +kernel
theorem dL_law_1030 : decode cL_law 1030 = .ok (.iadd, 1) := by decide +kernel
theorem dL_law_1031 : decode cL_law 1031 = .ok (.iaload, 1) := by decide +kernel
theorem dL_law_1032 : decode cL_law 1032 = .ok (.aload_n 0, 1) := by decide +kernel
theorem dL_law_1033 : decode cL_law 1033 = .ok (.iload 4, 2) := by decide +kernel
theorem dL_law_1035 : decode cL_law 1035 = .ok (.iconst 3, 1) := by decide +kernel
theorem dL_law_1036 : decode cL_law 1036 = .ok (.iadd, 1) := by decide +kernel
theorem dL_law_1037 : decode cL_law 1037 = .ok (.iaload, 1) := by decide +kernel
theorem dL_law_1038 : decode cL_law 1038 = .ok (.aload_n 3, 1) := by decide +kernel
theorem dL_law_1039 : decode cL_law 1039 = .ok (.invokestatic 151, 3) := by decide +kernel
theorem dL_law_1042 : decode cL_law 1042 = .ok (.istore 5, 2) := by decide +kernel
theorem dL_law_1044 : decode cL_law 1044 = .ok (.aload_n 2, 1) := by decide +kernel
theorem dL_law_1045 : decode cL_law 1045 = .ok (.aload_n 0, 1) := by decide +kernel
theorem dL_law_1046 : decode cL_law 1046 = .ok (.iload 4, 2) := by decide +kernel
theorem dL_law_1048 : decode cL_law 1048 = .ok (.iconst 1, 1) := by decide +kernel
theorem dL_law_1049 : decode cL_law 1049 = .ok (.iadd, 1) := by decide +kernel
theorem dL_law_1050 : decode cL_law 1050 = .ok (.iaload, 1) := by decide +kernel
theorem dL_law_1051 : decode cL_law 1051 = .ok (.aload_n 0, 1) := by decide +kernel
theorem dL_law_1052 : decode cL_law 1052 = .ok (.iload 4, 2) := by decide +kernel
theorem dL_law_1054 : decode cL_law 1054 = .ok (.iconst 2, 1) := by decide +kernel
theorem dL_law_1055 : decode cL_law 1055 = .ok (.iadd, 1) := by decide +kernel
theorem dL_law_1056 : decode cL_law 1056 = .ok (.iaload, 1) := by decide +kernel
theorem dL_law_1057 : decode cL_law 1057 = .ok (.aload_n 0, 1) := by decide +kernel
theorem dL_law_1058 : decode cL_law 1058 = .ok (.iload 4, 2) := by decide +kernel
theorem dL_law_1060 : decode cL_law 1060 = .ok (.iconst 3, 1) := by decide +kernel
theorem dL_law_1061 : decode cL_law 1061 = .ok (.iadd, 1) := by decide +kernel
theorem dL_law_1062 : decode cL_law 1062 = .ok (.iaload, 1) := by decide +kernel
theorem dL_law_1063 : decode cL_law 1063 = .ok (.invokevirtual 153, 3) := by decide +kernel
theorem dL_law_1066 : decode cL_law 1066 = .ok (.istore 6, 2) := by decide +kernel
theorem dL_law_1068 : decode cL_law 1068 = .ok (.aload_n 2, 1) := by decide +kernel
theorem dL_law_1069 : decode cL_law 1069 = .ok (.invokevirtual 99, 3) := by decide +kernel
theorem dL_law_1072 : decode cL_law 1072 = .ok (.iload 5, 2) := by decide +kernel
theorem dL_law_1074 : decode cL_law 1074 = .ok (.if_icmp .eq 5, 3) := by decide +kernel
theorem dL_law_1077 : decode cL_law 1077 = .ok (.iconst 0, 1) := by decide +kernel
theorem dL_law_1078 : decode cL_law 1078 = .ok (.ireturn, 1) := by decide +kernel
theorem dL_law_1079 : decode cL_law 1079 = .ok (.iload 5, 2) := by decide +kernel
theorem dL_law_1081 : decode cL_law 1081 = .ok (.ifCond .ne 15, 3) := by decide +kernel
theorem dL_law_1084 : decode cL_law 1084 = .ok (.aload_n 3, 1) := by decide +kernel
theorem dL_law_1085 : decode cL_law 1085 = .ok (.iconst 0, 1) := by decide +kernel
theorem dL_law_1086 : decode cL_law 1086 = .ok (.laload, 1) := by decide +kernel
theorem dL_law_1087 : decode cL_law 1087 = .ok (.iload 6, 2) := by decide +kernel
theorem dL_law_1089 : decode cL_law 1089 = .ok (.i2l, 1) := by decide +kernel
theorem dL_law_1090 : decode cL_law 1090 = .ok (.lcmp, 1) := by decide +kernel
theorem dL_law_1091 : decode cL_law 1091 = .ok (.ifCond .eq 5, 3) := by decide +kernel
theorem dL_law_1094 : decode cL_law 1094 = .ok (.iconst 0, 1) := by decide +kernel
theorem dL_law_1095 : decode cL_law 1095 = .ok (.ireturn, 1) := by decide +kernel
theorem dL_law_1096 : decode cL_law 1096 = .ok (.goto 650, 3) := by decide +kernel
theorem dL_law_1099 : decode cL_law 1099 = .ok (.aload_n 1, 1) := by decide +kernel
theorem dL_law_1100 : decode cL_law 1100 = .ok (.aload_n 0, 1) := by decide +kernel
theorem dL_law_1101 : decode cL_law 1101 = .ok (.iload 4, 2) := by decide +kernel
theorem dL_law_1103 : decode cL_law 1103 = .ok (.iconst 1, 1) := by decide +kernel
theorem dL_law_1104 : decode cL_law 1104 = .ok (.iadd, 1) := by decide +kernel
theorem dL_law_1105 : decode cL_law 1105 = .ok (.iaload, 1) := by decide +kernel
theorem dL_law_1106 : decode cL_law 1106 = .ok (.aload_n 0, 1) := by decide +kernel
theorem dL_law_1107 : decode cL_law 1107 = .ok (.iload 4, 2) := by decide +kernel
theorem dL_law_1109 : decode cL_law 1109 = .ok (.iconst 2, 1) := by decide +kernel
theorem dL_law_1110 : decode cL_law 1110 = .ok (.iadd, 1) := by decide +kernel
theorem dL_law_1111 : decode cL_law 1111 = .ok (.iaload, 1) := by decide +kernel
theorem dL_law_1112 : decode cL_law 1112 = .ok (.aload_n 0, 1) := by decide +kernel
theorem dL_law_1113 : decode cL_law 1113 = .ok (.iload 4, 2) := by decide +kernel
theorem dL_law_1115 : decode cL_law 1115 = .ok (.iconst 3, 1) := by decide +kernel
theorem dL_law_1116 : decode cL_law 1116 = .ok (.iadd, 1) := by decide +kernel
theorem dL_law_1117 : decode cL_law 1117 = .ok (.iaload, 1) := by decide +kernel
theorem dL_law_1118 : decode cL_law 1118 = .ok (.aload_n 0, 1) := by decide +kernel
theorem dL_law_1119 : decode cL_law 1119 = .ok (.iload 4, 2) := by decide +kernel
theorem dL_law_1121 : decode cL_law 1121 = .ok (.iconst 4, 1) := by decide +kernel
theorem dL_law_1122 : decode cL_law 1122 = .ok (.iadd, 1) := by decide +kernel
theorem dL_law_1123 : decode cL_law 1123 = .ok (.iaload, 1) := by decide +kernel
theorem dL_law_1124 : decode cL_law 1124 = .ok (.aload_n 3, 1) := by decide +kernel
theorem dL_law_1125 : decode cL_law 1125 = .ok (.invokestatic 154, 3) := by decide +kernel
theorem dL_law_1128 : decode cL_law 1128 = .ok (.istore 5, 2) := by decide +kernel
theorem dL_law_1130 : decode cL_law 1130 = .ok (.aload_n 2, 1) := by decide +kernel
theorem dL_law_1131 : decode cL_law 1131 = .ok (.aload_n 0, 1) := by decide +kernel
theorem dL_law_1132 : decode cL_law 1132 = .ok (.iload 4, 2) := by decide +kernel
theorem dL_law_1134 : decode cL_law 1134 = .ok (.iconst 1, 1) := by decide +kernel
theorem dL_law_1135 : decode cL_law 1135 = .ok (.iadd, 1) := by decide +kernel
theorem dL_law_1136 : decode cL_law 1136 = .ok (.iaload, 1) := by decide +kernel
theorem dL_law_1137 : decode cL_law 1137 = .ok (.aload_n 0, 1) := by decide +kernel
theorem dL_law_1138 : decode cL_law 1138 = .ok (.iload 4, 2) := by decide +kernel
theorem dL_law_1140 : decode cL_law 1140 = .ok (.iconst 2, 1) := by decide +kernel
theorem dL_law_1141 : decode cL_law 1141 = .ok (.iadd, 1) := by decide +kernel
theorem dL_law_1142 : decode cL_law 1142 = .ok (.iaload, 1) := by decide +kernel
theorem dL_law_1143 : decode cL_law 1143 = .ok (.aload_n 0, 1) := by decide +kernel
theorem dL_law_1144 : decode cL_law 1144 = .ok (.iload 4, 2) := by decide +kernel
theorem dL_law_1146 : decode cL_law 1146 = .ok (.iconst 3, 1) := by decide +kernel
theorem dL_law_1147 : decode cL_law 1147 = .ok (.iadd, 1) := by decide +kernel
theorem dL_law_1148 : decode cL_law 1148 = .ok (.iaload, 1) := by decide +kernel
theorem dL_law_1149 : decode cL_law 1149 = .ok (.aload_n 0, 1) := by decide +kernel
theorem dL_law_1150 : decode cL_law 1150 = .ok (.iload 4, 2) := by decide +kernel
theorem dL_law_1152 : decode cL_law 1152 = .ok (.iconst 4, 1) := by decide +kernel
theorem dL_law_1153 : decode cL_law 1153 = .ok (.iadd, 1) := by decide +kernel
theorem dL_law_1154 : decode cL_law 1154 = .ok (.iaload, 1) := by decide +kernel
theorem dL_law_1155 : decode cL_law 1155 = .ok (.invokevirtual 156, 3) := by decide +kernel
theorem dL_law_1158 : decode cL_law 1158 = .ok (.istore 6, 2) := by decide +kernel
theorem dL_law_1160 : decode cL_law 1160 = .ok (.aload_n 2, 1) := by decide +kernel
theorem dL_law_1161 : decode cL_law 1161 = .ok (.invokevirtual 99, 3) := by decide +kernel
theorem dL_law_1164 : decode cL_law 1164 = .ok (.iload 5, 2) := by decide +kernel
theorem dL_law_1166 : decode cL_law 1166 = .ok (.if_icmp .eq 5, 3) := by decide +kernel
theorem dL_law_1169 : decode cL_law 1169 = .ok (.iconst 0, 1) := by decide +kernel
theorem dL_law_1170 : decode cL_law 1170 = .ok (.ireturn, 1) := by decide +kernel
theorem dL_law_1171 : decode cL_law 1171 = .ok (.iload 5, 2) := by decide +kernel
theorem dL_law_1173 : decode cL_law 1173 = .ok (.ifCond .ne 15, 3) := by decide +kernel
theorem dL_law_1176 : decode cL_law 1176 = .ok (.aload_n 3, 1) := by decide +kernel
theorem dL_law_1177 : decode cL_law 1177 = .ok (.iconst 0, 1) := by decide +kernel
theorem dL_law_1178 : decode cL_law 1178 = .ok (.laload, 1) := by decide +kernel
theorem dL_law_1179 : decode cL_law 1179 = .ok (.iload 6, 2) := by decide +kernel
theorem dL_law_1181 : decode cL_law 1181 = .ok (.i2l, 1) := by decide +kernel
theorem dL_law_1182 : decode cL_law 1182 = .ok (.lcmp, 1) := by decide +kernel
theorem dL_law_1183 : decode cL_law 1183 = .ok (.ifCond .eq 5, 3) := by decide +kernel
theorem dL_law_1186 : decode cL_law 1186 = .ok (.iconst 0, 1) := by decide +kernel
theorem dL_law_1187 : decode cL_law 1187 = .ok (.ireturn, 1) := by decide +kernel
theorem dL_law_1188 : decode cL_law 1188 = .ok (.goto 558, 3) := by decide +kernel
theorem dL_law_1191 : decode cL_law 1191 = .ok (.aload_n 1, 1) := by decide +kernel
theorem dL_law_1192 : decode cL_law 1192 = .ok (.aload_n 0, 1) := by decide +kernel
theorem dL_law_1193 : decode cL_law 1193 = .ok (.iload 4, 2) := by decide +kernel
theorem dL_law_1195 : decode cL_law 1195 = .ok (.iconst 1, 1) := by decide +kernel
theorem dL_law_1196 : decode cL_law 1196 = .ok (.iadd, 1) := by decide +kernel
theorem dL_law_1197 : decode cL_law 1197 = .ok (.iaload, 1) := by decide +kernel
theorem dL_law_1198 : decode cL_law 1198 = .ok (.aload_n 3, 1) := by decide +kernel
theorem dL_law_1199 : decode cL_law 1199 = .ok (.invokestatic 157, 3) := by decide +kernel
theorem dL_law_1202 : decode cL_law 1202 = .ok (.istore 5, 2) := by decide +kernel
theorem dL_law_1204 : decode cL_law 1204 = .ok (.aload_n 2, 1) := by decide +kernel
theorem dL_law_1205 : decode cL_law 1205 = .ok (.aload_n 0, 1) := by decide +kernel
theorem dL_law_1206 : decode cL_law 1206 = .ok (.iload 4, 2) := by decide +kernel
theorem dL_law_1208 : decode cL_law 1208 = .ok (.iconst 1, 1) := by decide +kernel
theorem dL_law_1209 : decode cL_law 1209 = .ok (.iadd, 1) := by decide +kernel
theorem dL_law_1210 : decode cL_law 1210 = .ok (.iaload, 1) := by decide +kernel
theorem dL_law_1211 : decode cL_law 1211 = .ok (.invokevirtual 159, 3) := by decide +kernel
theorem dL_law_1214 : decode cL_law 1214 = .ok (.istore 6, 2) := by decide +kernel
theorem dL_law_1216 : decode cL_law 1216 = .ok (.aload_n 2, 1) := by decide +kernel
theorem dL_law_1217 : decode cL_law 1217 = .ok (.invokevirtual 99, 3) := by decide +kernel
theorem dL_law_1220 : decode cL_law 1220 = .ok (.iload 5, 2) := by decide +kernel
theorem dL_law_1222 : decode cL_law 1222 = .ok (.if_icmp .eq 5, 3) := by decide +kernel
theorem dL_law_1225 : decode cL_law 1225 = .ok (.iconst 0, 1) := by decide +kernel
theorem dL_law_1226 : decode cL_law 1226 = .ok (.ireturn, 1) := by decide +kernel
theorem dL_law_1227 : decode cL_law 1227 = .ok (.iload 5, 2) := by decide +kernel
theorem dL_law_1229 : decode cL_law 1229 = .ok (.ifCond .ne 15, 3) := by decide +kernel
theorem dL_law_1232 : decode cL_law 1232 = .ok (.aload_n 3, 1) := by decide +kernel
theorem dL_law_1233 : decode cL_law 1233 = .ok (.iconst 0, 1) := by decide +kernel
theorem dL_law_1234 : decode cL_law 1234 = .ok (.laload, 1) := by decide +kernel
theorem dL_law_1235 : decode cL_law 1235 = .ok (.iload 6, 2) := by decide +kernel
theorem dL_law_1237 : decode cL_law 1237 = .ok (.i2l, 1) := by decide +kernel
theorem dL_law_1238 : decode cL_law 1238 = .ok (.lcmp, 1) := by decide +kernel
theorem dL_law_1239 : decode cL_law 1239 = .ok (.ifCond .eq 5, 3) := by decide +kernel
theorem dL_law_1242 : decode cL_law 1242 = .ok (.iconst 0, 1) := by decide +kernel
theorem dL_law_1243 : decode cL_law 1243 = .ok (.ireturn, 1) := by decide +kernel
theorem dL_law_1244 : decode cL_law 1244 = .ok (.goto 502, 3) := by decide +kernel
theorem dL_law_1247 : decode cL_law 1247 = .ok (.aload_n 1, 1) := by decide +kernel
theorem dL_law_1248 : decode cL_law 1248 = .ok (.aload_n 0, 1) := by decide +kernel
theorem dL_law_1249 : decode cL_law 1249 = .ok (.iload 4, 2) := by decide +kernel
theorem dL_law_1251 : decode cL_law 1251 = .ok (.iconst 1, 1) := by decide +kernel
theorem dL_law_1252 : decode cL_law 1252 = .ok (.iadd, 1) := by decide +kernel
theorem dL_law_1253 : decode cL_law 1253 = .ok (.iaload, 1) := by decide +kernel
theorem dL_law_1254 : decode cL_law 1254 = .ok (.aload_n 3, 1) := by decide +kernel
theorem dL_law_1255 : decode cL_law 1255 = .ok (.invokestatic 160, 3) := by decide +kernel
theorem dL_law_1258 : decode cL_law 1258 = .ok (.istore 5, 2) := by decide +kernel
theorem dL_law_1260 : decode cL_law 1260 = .ok (.aload_n 2, 1) := by decide +kernel
theorem dL_law_1261 : decode cL_law 1261 = .ok (.aload_n 0, 1) := by decide +kernel
theorem dL_law_1262 : decode cL_law 1262 = .ok (.iload 4, 2) := by decide +kernel
theorem dL_law_1264 : decode cL_law 1264 = .ok (.iconst 1, 1) := by decide +kernel
theorem dL_law_1265 : decode cL_law 1265 = .ok (.iadd, 1) := by decide +kernel
theorem dL_law_1266 : decode cL_law 1266 = .ok (.iaload, 1) := by decide +kernel
theorem dL_law_1267 : decode cL_law 1267 = .ok (.invokevirtual 162, 3) := by decide +kernel
theorem dL_law_1270 : decode cL_law 1270 = .ok (.istore 6, 2) := by decide +kernel
theorem dL_law_1272 : decode cL_law 1272 = .ok (.aload_n 2, 1) := by decide +kernel
theorem dL_law_1273 : decode cL_law 1273 = .ok (.invokevirtual 99, 3) := by decide +kernel
theorem dL_law_1276 : decode cL_law 1276 = .ok (.iload 5, 2) := by decide +kernel
theorem dL_law_1278 : decode cL_law 1278 = .ok (.if_icmp .eq 5, 3) := by decide +kernel
theorem dL_law_1281 : decode cL_law 1281 = .ok (.iconst 0, 1) := by decide +kernel
theorem dL_law_1282 : decode cL_law 1282 = .ok (.ireturn, 1) := by decide +kernel
theorem dL_law_1283 : decode cL_law 1283 = .ok (.iload 5, 2) := by decide +kernel
theorem dL_law_1285 : decode cL_law 1285 = .ok (.ifCond .ne 15, 3) := by decide +kernel
theorem dL_law_1288 : decode cL_law 1288 = .ok (.aload_n 3, 1) := by decide +kernel
theorem dL_law_1289 : decode cL_law 1289 = .ok (.iconst 0, 1) := by decide +kernel
theorem dL_law_1290 : decode cL_law 1290 = .ok (.laload, 1) := by decide +kernel
theorem dL_law_1291 : decode cL_law 1291 = .ok (.iload 6, 2) := by decide +kernel
theorem dL_law_1293 : decode cL_law 1293 = .ok (.i2l, 1) := by decide +kernel
theorem dL_law_1294 : decode cL_law 1294 = .ok (.lcmp, 1) := by decide +kernel
theorem dL_law_1295 : decode cL_law 1295 = .ok (.ifCond .eq 5, 3) := by decide +kernel
theorem dL_law_1298 : decode cL_law 1298 = .ok (.iconst 0, 1) := by decide +kernel
theorem dL_law_1299 : decode cL_law 1299 = .ok (.ireturn, 1) := by decide +kernel
theorem dL_law_1300 : decode cL_law 1300 = .ok (.goto 446, 3) := by decide +kernel
theorem dL_law_1303 : decode cL_law 1303 = .ok (.aload_n 1, 1) := by decide +kernel
theorem dL_law_1304 : decode cL_law 1304 = .ok (.aload_n 0, 1) := by decide +kernel
theorem dL_law_1305 : decode cL_law 1305 = .ok (.iload 4, 2) := by decide +kernel
theorem dL_law_1307 : decode cL_law 1307 = .ok (.iconst 1, 1) := by decide +kernel
theorem dL_law_1308 : decode cL_law 1308 = .ok (.iadd, 1) := by decide +kernel
theorem dL_law_1309 : decode cL_law 1309 = .ok (.iaload, 1) := by decide +kernel
theorem dL_law_1310 : decode cL_law 1310 = .ok (.aload_n 3, 1) := by decide +kernel
theorem dL_law_1311 : decode cL_law 1311 = .ok (.invokestatic 163, 3) := by decide +kernel
theorem dL_law_1314 : decode cL_law 1314 = .ok (.istore 5, 2) := by decide +kernel
theorem dL_law_1316 : decode cL_law 1316 = .ok (.aload_n 2, 1) := by decide +kernel
theorem dL_law_1317 : decode cL_law 1317 = .ok (.aload_n 0, 1) := by decide +kernel
theorem dL_law_1318 : decode cL_law 1318 = .ok (.iload 4, 2) := by decide +kernel
theorem dL_law_1320 : decode cL_law 1320 = .ok (.iconst 1, 1) := by decide +kernel
theorem dL_law_1321 : decode cL_law 1321 = .ok (.iadd, 1) := by decide +kernel
theorem dL_law_1322 : decode cL_law 1322 = .ok (.iaload, 1) := by decide +kernel
theorem dL_law_1323 : decode cL_law 1323 = .ok (.invokevirtual 165, 3) := by decide +kernel
theorem dL_law_1326 : decode cL_law 1326 = .ok (.istore 6, 2) := by decide +kernel
theorem dL_law_1328 : decode cL_law 1328 = .ok (.aload_n 2, 1) := by decide +kernel
theorem dL_law_1329 : decode cL_law 1329 = .ok (.invokevirtual 99, 3) := by decide +kernel
theorem dL_law_1332 : decode cL_law 1332 = .ok (.iload 5, 2) := by decide +kernel
theorem dL_law_1334 : decode cL_law 1334 = .ok (.if_icmp .eq 5, 3) := by decide +kernel
theorem dL_law_1337 : decode cL_law 1337 = .ok (.iconst 0, 1) := by decide +kernel
theorem dL_law_1338 : decode cL_law 1338 = .ok (.ireturn, 1) := by decide +kernel
theorem dL_law_1339 : decode cL_law 1339 = .ok (.iload 5, 2) := by decide +kernel
theorem dL_law_1341 : decode cL_law 1341 = .ok (.ifCond .ne 15, 3) := by decide +kernel
theorem dL_law_1344 : decode cL_law 1344 = .ok (.aload_n 3, 1) := by decide +kernel
theorem dL_law_1345 : decode cL_law 1345 = .ok (.iconst 0, 1) := by decide +kernel
theorem dL_law_1346 : decode cL_law 1346 = .ok (.laload, 1) := by decide +kernel
theorem dL_law_1347 : decode cL_law 1347 = .ok (.iload 6, 2) := by decide +kernel
theorem dL_law_1349 : decode cL_law 1349 = .ok (.i2l, 1) := by decide +kernel
theorem dL_law_1350 : decode cL_law 1350 = .ok (.lcmp, 1) := by decide +kernel
theorem dL_law_1351 : decode cL_law 1351 = .ok (.ifCond .eq 5, 3) := by decide +kernel
theorem dL_law_1354 : decode cL_law 1354 = .ok (.iconst 0, 1) := by decide +kernel
theorem dL_law_1355 : decode cL_law 1355 = .ok (.ireturn, 1) := by decide +kernel
theorem dL_law_1356 : decode cL_law 1356 = .ok (.goto 390, 3) := by decide +kernel
theorem dL_law_1359 : decode cL_law 1359 = .ok (.aload_n 1, 1) := by decide +kernel
theorem dL_law_1360 : decode cL_law 1360 = .ok (.aload_n 0, 1) := by decide +kernel
theorem dL_law_1361 : decode cL_law 1361 = .ok (.iload 4, 2) := by decide +kernel
theorem dL_law_1363 : decode cL_law 1363 = .ok (.iconst 1, 1) := by decide +kernel
theorem dL_law_1364 : decode cL_law 1364 = .ok (.iadd, 1) := by decide +kernel
theorem dL_law_1365 : decode cL_law 1365 = .ok (.iaload, 1) := by decide +kernel
theorem dL_law_1366 : decode cL_law 1366 = .ok (.aload_n 3, 1) := by decide +kernel
theorem dL_law_1367 : decode cL_law 1367 = .ok (.invokestatic 166, 3) := by decide +kernel
theorem dL_law_1370 : decode cL_law 1370 = .ok (.istore 5, 2) := by decide +kernel
theorem dL_law_1372 : decode cL_law 1372 = .ok (.aload_n 2, 1) := by decide +kernel
theorem dL_law_1373 : decode cL_law 1373 = .ok (.aload_n 0, 1) := by decide +kernel
theorem dL_law_1374 : decode cL_law 1374 = .ok (.iload 4, 2) := by decide +kernel
theorem dL_law_1376 : decode cL_law 1376 = .ok (.iconst 1, 1) := by decide +kernel
theorem dL_law_1377 : decode cL_law 1377 = .ok (.iadd, 1) := by decide +kernel
theorem dL_law_1378 : decode cL_law 1378 = .ok (.iaload, 1) := by decide +kernel
theorem dL_law_1379 : decode cL_law 1379 = .ok (.invokevirtual 168, 3) := by decide +kernel
theorem dL_law_1382 : decode cL_law 1382 = .ok (.istore 6, 2) := by decide +kernel
theorem dL_law_1384 : decode cL_law 1384 = .ok (.aload_n 2, 1) := by decide +kernel
theorem dL_law_1385 : decode cL_law 1385 = .ok (.invokevirtual 99, 3) := by decide +kernel
theorem dL_law_1388 : decode cL_law 1388 = .ok (.iload 5, 2) := by decide +kernel
theorem dL_law_1390 : decode cL_law 1390 = .ok (.if_icmp .eq 5, 3) := by decide +kernel
theorem dL_law_1393 : decode cL_law 1393 = .ok (.iconst 0, 1) := by decide +kernel
theorem dL_law_1394 : decode cL_law 1394 = .ok (.ireturn, 1) := by decide +kernel
theorem dL_law_1395 : decode cL_law 1395 = .ok (.iload 5, 2) := by decide +kernel
theorem dL_law_1397 : decode cL_law 1397 = .ok (.ifCond .ne 15, 3) := by decide +kernel
theorem dL_law_1400 : decode cL_law 1400 = .ok (.aload_n 3, 1) := by decide +kernel
theorem dL_law_1401 : decode cL_law 1401 = .ok (.iconst 0, 1) := by decide +kernel
theorem dL_law_1402 : decode cL_law 1402 = .ok (.laload, 1) := by decide +kernel
theorem dL_law_1403 : decode cL_law 1403 = .ok (.iload 6, 2) := by decide +kernel
theorem dL_law_1405 : decode cL_law 1405 = .ok (.i2l, 1) := by decide +kernel
theorem dL_law_1406 : decode cL_law 1406 = .ok (.lcmp, 1) := by decide +kernel
theorem dL_law_1407 : decode cL_law 1407 = .ok (.ifCond .eq 5, 3) := by decide +kernel
theorem dL_law_1410 : decode cL_law 1410 = .ok (.iconst 0, 1) := by decide +kernel
theorem dL_law_1411 : decode cL_law 1411 = .ok (.ireturn, 1) := by decide +kernel
theorem dL_law_1412 : decode cL_law 1412 = .ok (.goto 334, 3) := by decide +kernel
theorem dL_law_1415 : decode cL_law 1415 = .ok (.aload_n 1, 1) := by decide +kernel
theorem dL_law_1416 : decode cL_law 1416 = .ok (.aload_n 0, 1) := by decide +kernel
theorem dL_law_1417 : decode cL_law 1417 = .ok (.iload 4, 2) := by decide +kernel
theorem dL_law_1419 : decode cL_law 1419 = .ok (.iconst 1, 1) := by decide +kernel
theorem dL_law_1420 : decode cL_law 1420 = .ok (.iadd, 1) := by decide +kernel
theorem dL_law_1421 : decode cL_law 1421 = .ok (.iaload, 1) := by decide +kernel
theorem dL_law_1422 : decode cL_law 1422 = .ok (.aload_n 3, 1) := by decide +kernel
theorem dL_law_1423 : decode cL_law 1423 = .ok (.invokestatic 169, 3) := by decide +kernel
theorem dL_law_1426 : decode cL_law 1426 = .ok (.istore 5, 2) := by decide +kernel
theorem dL_law_1428 : decode cL_law 1428 = .ok (.aload_n 2, 1) := by decide +kernel
theorem dL_law_1429 : decode cL_law 1429 = .ok (.aload_n 0, 1) := by decide +kernel
theorem dL_law_1430 : decode cL_law 1430 = .ok (.iload 4, 2) := by decide +kernel
theorem dL_law_1432 : decode cL_law 1432 = .ok (.iconst 1, 1) := by decide +kernel
theorem dL_law_1433 : decode cL_law 1433 = .ok (.iadd, 1) := by decide +kernel
theorem dL_law_1434 : decode cL_law 1434 = .ok (.iaload, 1) := by decide +kernel
theorem dL_law_1435 : decode cL_law 1435 = .ok (.invokevirtual 171, 3) := by decide +kernel
theorem dL_law_1438 : decode cL_law 1438 = .ok (.istore 6, 2) := by decide +kernel
theorem dL_law_1440 : decode cL_law 1440 = .ok (.aload_n 2, 1) := by decide +kernel
theorem dL_law_1441 : decode cL_law 1441 = .ok (.invokevirtual 99, 3) := by decide +kernel
theorem dL_law_1444 : decode cL_law 1444 = .ok (.iload 5, 2) := by decide +kernel
theorem dL_law_1446 : decode cL_law 1446 = .ok (.if_icmp .eq 5, 3) := by decide +kernel
theorem dL_law_1449 : decode cL_law 1449 = .ok (.iconst 0, 1) := by decide +kernel
theorem dL_law_1450 : decode cL_law 1450 = .ok (.ireturn, 1) := by decide +kernel
theorem dL_law_1451 : decode cL_law 1451 = .ok (.iload 5, 2) := by decide +kernel
theorem dL_law_1453 : decode cL_law 1453 = .ok (.ifCond .ne 15, 3) := by decide +kernel
theorem dL_law_1456 : decode cL_law 1456 = .ok (.aload_n 3, 1) := by decide +kernel
theorem dL_law_1457 : decode cL_law 1457 = .ok (.iconst 0, 1) := by decide +kernel
theorem dL_law_1458 : decode cL_law 1458 = .ok (.laload, 1) := by decide +kernel
theorem dL_law_1459 : decode cL_law 1459 = .ok (.iload 6, 2) := by decide +kernel
theorem dL_law_1461 : decode cL_law 1461 = .ok (.i2l, 1) := by decide +kernel
theorem dL_law_1462 : decode cL_law 1462 = .ok (.lcmp, 1) := by decide +kernel
theorem dL_law_1463 : decode cL_law 1463 = .ok (.ifCond .eq 5, 3) := by decide +kernel
theorem dL_law_1466 : decode cL_law 1466 = .ok (.iconst 0, 1) := by decide +kernel
theorem dL_law_1467 : decode cL_law 1467 = .ok (.ireturn, 1) := by decide +kernel
theorem dL_law_1468 : decode cL_law 1468 = .ok (.goto 278, 3) := by decide +kernel
theorem dL_law_1471 : decode cL_law 1471 = .ok (.aload_n 1, 1) := by decide +kernel
theorem dL_law_1472 : decode cL_law 1472 = .ok (.aload_n 0, 1) := by decide +kernel
theorem dL_law_1473 : decode cL_law 1473 = .ok (.iload 4, 2) := by decide +kernel
theorem dL_law_1475 : decode cL_law 1475 = .ok (.iconst 1, 1) := by decide +kernel
theorem dL_law_1476 : decode cL_law 1476 = .ok (.iadd, 1) := by decide +kernel
theorem dL_law_1477 : decode cL_law 1477 = .ok (.iaload, 1) := by decide +kernel
theorem dL_law_1478 : decode cL_law 1478 = .ok (.aload_n 3, 1) := by decide +kernel
theorem dL_law_1479 : decode cL_law 1479 = .ok (.invokestatic 172, 3) := by decide +kernel
theorem dL_law_1482 : decode cL_law 1482 = .ok (.istore 5, 2) := by decide +kernel
theorem dL_law_1484 : decode cL_law 1484 = .ok (.aload_n 2, 1) := by decide +kernel
theorem dL_law_1485 : decode cL_law 1485 = .ok (.aload_n 0, 1) := by decide +kernel
theorem dL_law_1486 : decode cL_law 1486 = .ok (.iload 4, 2) := by decide +kernel
theorem dL_law_1488 : decode cL_law 1488 = .ok (.iconst 1, 1) := by decide +kernel
theorem dL_law_1489 : decode cL_law 1489 = .ok (.iadd, 1) := by decide +kernel
theorem dL_law_1490 : decode cL_law 1490 = .ok (.iaload, 1) := by decide +kernel
theorem dL_law_1491 : decode cL_law 1491 = .ok (.invokevirtual 174, 3) := by decide +kernel
theorem dL_law_1494 : decode cL_law 1494 = .ok (.istore 6, 2) := by decide +kernel
theorem dL_law_1496 : decode cL_law 1496 = .ok (.aload_n 2, 1) := by decide +kernel
theorem dL_law_1497 : decode cL_law 1497 = .ok (.invokevirtual 99, 3) := by decide +kernel
theorem dL_law_1500 : decode cL_law 1500 = .ok (.iload 5, 2) := by decide +kernel
theorem dL_law_1502 : decode cL_law 1502 = .ok (.if_icmp .eq 5, 3) := by decide +kernel
theorem dL_law_1505 : decode cL_law 1505 = .ok (.iconst 0, 1) := by decide +kernel
theorem dL_law_1506 : decode cL_law 1506 = .ok (.ireturn, 1) := by decide +kernel
theorem dL_law_1507 : decode cL_law 1507 = .ok (.iload 5, 2) := by decide +kernel
theorem dL_law_1509 : decode cL_law 1509 = .ok (.ifCond .ne 15, 3) := by decide +kernel
theorem dL_law_1512 : decode cL_law 1512 = .ok (.aload_n 3, 1) := by decide +kernel
theorem dL_law_1513 : decode cL_law 1513 = .ok (.iconst 0, 1) := by decide +kernel
theorem dL_law_1514 : decode cL_law 1514 = .ok (.laload, 1) := by decide +kernel
theorem dL_law_1515 : decode cL_law 1515 = .ok (.iload 6, 2) := by decide +kernel
theorem dL_law_1517 : decode cL_law 1517 = .ok (.i2l, 1) := by decide +kernel
theorem dL_law_1518 : decode cL_law 1518 = .ok (.lcmp, 1) := by decide +kernel
theorem dL_law_1519 : decode cL_law 1519 = .ok (.ifCond .eq 5, 3) := by decide +kernel
theorem dL_law_1522 : decode cL_law 1522 = .ok (.iconst 0, 1) := by decide +kernel
theorem dL_law_1523 : decode cL_law 1523 = .ok (.ireturn, 1) := by decide +kernel
theorem dL_law_1524 : decode cL_law 1524 = .ok (.goto 222, 3) := by decide +kernel
theorem dL_law_1527 : decode cL_law 1527 = .ok (.aload_n 1, 1) := by decide +kernel
theorem dL_law_1528 : decode cL_law 1528 = .ok (.aload_n 0, 1) := by decide +kernel
theorem dL_law_1529 : decode cL_law 1529 = .ok (.iload 4, 2) := by decide +kernel
theorem dL_law_1531 : decode cL_law 1531 = .ok (.iconst 1, 1) := by decide +kernel
theorem dL_law_1532 : decode cL_law 1532 = .ok (.iadd, 1) := by decide +kernel
theorem dL_law_1533 : decode cL_law 1533 = .ok (.iaload, 1) := by decide +kernel
theorem dL_law_1534 : decode cL_law 1534 = .ok (.aload_n 0, 1) := by decide +kernel
theorem dL_law_1535 : decode cL_law 1535 = .ok (.iload 4, 2) := by decide +kernel
theorem dL_law_1537 : decode cL_law 1537 = .ok (.iconst 2, 1) := by decide +kernel
theorem dL_law_1538 : decode cL_law 1538 = .ok (.iadd, 1) := by decide +kernel
theorem dL_law_1539 : decode cL_law 1539 = .ok (.iaload, 1) := by decide +kernel
theorem dL_law_1540 : decode cL_law 1540 = .ok (.aload_n 0, 1) := by decide +kernel
theorem dL_law_1541 : decode cL_law 1541 = .ok (.iload 4, 2) := by decide +kernel
theorem dL_law_1543 : decode cL_law 1543 = .ok (.iconst 3, 1) := by decide +kernel
theorem dL_law_1544 : decode cL_law 1544 = .ok (.iadd, 1) := by decide +kernel
theorem dL_law_1545 : decode cL_law 1545 = .ok (.iaload, 1) := by decide +kernel
theorem dL_law_1546 : decode cL_law 1546 = .ok (.aload_n 0, 1) := by decide +kernel
theorem dL_law_1547 : decode cL_law 1547 = .ok (.iload 4, 2) := by decide +kernel
theorem dL_law_1549 : decode cL_law 1549 = .ok (.iconst 4, 1) := by decide +kernel
theorem dL_law_1550 : decode cL_law 1550 = .ok (.iadd, 1) := by decide +kernel
theorem dL_law_1551 : decode cL_law 1551 = .ok (.iaload, 1) := by decide +kernel
theorem dL_law_1552 : decode cL_law 1552 = .ok (.aload_n 3, 1) := by decide +kernel
theorem dL_law_1553 : decode cL_law 1553 = .ok (.invokestatic 175, 3) := by decide +kernel
theorem dL_law_1556 : decode cL_law 1556 = .ok (.istore 5, 2) := by decide +kernel
theorem dL_law_1558 : decode cL_law 1558 = .ok (.aload_n 2, 1) := by decide +kernel
theorem dL_law_1559 : decode cL_law 1559 = .ok (.aload_n 0, 1) := by decide +kernel
theorem dL_law_1560 : decode cL_law 1560 = .ok (.iload 4, 2) := by decide +kernel
theorem dL_law_1562 : decode cL_law 1562 = .ok (.iconst 1, 1) := by decide +kernel
theorem dL_law_1563 : decode cL_law 1563 = .ok (.iadd, 1) := by decide +kernel
theorem dL_law_1564 : decode cL_law 1564 = .ok (.iaload, 1) := by decide +kernel
theorem dL_law_1565 : decode cL_law 1565 = .ok (.aload_n 0, 1) := by decide +kernel
theorem dL_law_1566 : decode cL_law 1566 = .ok (.iload 4, 2) := by decide +kernel
theorem dL_law_1568 : decode cL_law 1568 = .ok (.iconst 2, 1) := by decide +kernel
theorem dL_law_1569 : decode cL_law 1569 = .ok (.iadd, 1) := by decide +kernel
theorem dL_law_1570 : decode cL_law 1570 = .ok (.iaload, 1) := by decide +kernel
theorem dL_law_1571 : decode cL_law 1571 = .ok (.aload_n 0, 1) := by decide +kernel
theorem dL_law_1572 : decode cL_law 1572 = .ok (.iload 4, 2) := by decide +kernel
theorem dL_law_1574 : decode cL_law 1574 = .ok (.iconst 3, 1) := by decide +kernel
theorem dL_law_1575 : decode cL_law 1575 = .ok (.iadd, 1) := by decide +kernel
theorem dL_law_1576 : decode cL_law 1576 = .ok (.iaload, 1) := by decide +kernel
theorem dL_law_1577 : decode cL_law 1577 = .ok (.aload_n 0, 1) := by decide +kernel
theorem dL_law_1578 : decode cL_law 1578 = .ok (.iload 4, 2) := by decide +kernel
theorem dL_law_1580 : decode cL_law 1580 = .ok (.iconst 4, 1) := by decide +kernel
theorem dL_law_1581 : decode cL_law 1581 = .ok (.iadd, 1) := by decide +kernel
theorem dL_law_1582 : decode cL_law 1582 = .ok (.iaload, 1) := by decide +kernel
theorem dL_law_1583 : decode cL_law 1583 = .ok (.invokevirtual 177, 3) := by decide +kernel
theorem dL_law_1586 : decode cL_law 1586 = .ok (.istore 6, 2) := by decide +kernel
theorem dL_law_1588 : decode cL_law 1588 = .ok (.aload_n 2, 1) := by decide +kernel
theorem dL_law_1589 : decode cL_law 1589 = .ok (.invokevirtual 99, 3) := by decide +kernel
theorem dL_law_1592 : decode cL_law 1592 = .ok (.iload 5, 2) := by decide +kernel
theorem dL_law_1594 : decode cL_law 1594 = .ok (.if_icmp .eq 5, 3) := by decide +kernel
theorem dL_law_1597 : decode cL_law 1597 = .ok (.iconst 0, 1) := by decide +kernel
theorem dL_law_1598 : decode cL_law 1598 = .ok (.ireturn, 1) := by decide +kernel
theorem dL_law_1599 : decode cL_law 1599 = .ok (.iload 5, 2) := by decide +kernel
theorem dL_law_1601 : decode cL_law 1601 = .ok (.ifCond .ne 15, 3) := by decide +kernel
theorem dL_law_1604 : decode cL_law 1604 = .ok (.aload_n 3, 1) := by decide +kernel
theorem dL_law_1605 : decode cL_law 1605 = .ok (.iconst 0, 1) := by decide +kernel
theorem dL_law_1606 : decode cL_law 1606 = .ok (.laload, 1) := by decide +kernel
theorem dL_law_1607 : decode cL_law 1607 = .ok (.iload 6, 2) := by decide +kernel
theorem dL_law_1609 : decode cL_law 1609 = .ok (.i2l, 1) := by decide +kernel
theorem dL_law_1610 : decode cL_law 1610 = .ok (.lcmp, 1) := by decide +kernel
theorem dL_law_1611 : decode cL_law 1611 = .ok (.ifCond .eq 5, 3) := by decide +kernel
theorem dL_law_1614 : decode cL_law 1614 = .ok (.iconst 0, 1) := by decide +kernel
theorem dL_law_1615 : decode cL_law 1615 = .ok (.ireturn, 1) := by decide +kernel
theorem dL_law_1616 : decode cL_law 1616 = .ok (.goto 130, 3) := by decide +kernel
theorem dL_law_1619 : decode cL_law 1619 = .ok (.aload_n 1, 1) := by decide +kernel
theorem dL_law_1620 : decode cL_law 1620 = .ok (.aload_n 0, 1) := by decide +kernel
theorem dL_law_1621 : decode cL_law 1621 = .ok (.iload 4, 2) := by decide +kernel
theorem dL_law_1623 : decode cL_law 1623 = .ok (.iconst 1, 1) := by decide +kernel
theorem dL_law_1624 : decode cL_law 1624 = .ok (.iadd, 1) := by decide +kernel
theorem dL_law_1625 : decode cL_law 1625 = .ok (.iaload, 1) := by decide +kernel
theorem dL_law_1626 : decode cL_law 1626 = .ok (.aload_n 3, 1) := by decide +kernel
theorem dL_law_1627 : decode cL_law 1627 = .ok (.invokestatic 178, 3) := by decide +kernel
theorem dL_law_1630 : decode cL_law 1630 = .ok (.istore 5, 2) := by decide +kernel
theorem dL_law_1632 : decode cL_law 1632 = .ok (.aload_n 2, 1) := by decide +kernel
theorem dL_law_1633 : decode cL_law 1633 = .ok (.aload_n 0, 1) := by decide +kernel
theorem dL_law_1634 : decode cL_law 1634 = .ok (.iload 4, 2) := by decide +kernel
theorem dL_law_1636 : decode cL_law 1636 = .ok (.iconst 1, 1) := by decide +kernel
theorem dL_law_1637 : decode cL_law 1637 = .ok (.iadd, 1) := by decide +kernel
theorem dL_law_1638 : decode cL_law 1638 = .ok (.iaload, 1) := by decide +kernel
theorem dL_law_1639 : decode cL_law 1639 = .ok (.invokevirtual 180, 3) := by decide +kernel
theorem dL_law_1642 : decode cL_law 1642 = .ok (.istore 6, 2) := by decide +kernel
theorem dL_law_1644 : decode cL_law 1644 = .ok (.aload_n 2, 1) := by decide +kernel
theorem dL_law_1645 : decode cL_law 1645 = .ok (.invokevirtual 99, 3) := by decide +kernel
theorem dL_law_1648 : decode cL_law 1648 = .ok (.iload 5, 2) := by decide +kernel
theorem dL_law_1650 : decode cL_law 1650 = .ok (.if_icmp .eq 5, 3) := by decide +kernel
theorem dL_law_1653 : decode cL_law 1653 = .ok (.iconst 0, 1) := by decide +kernel
theorem dL_law_1654 : decode cL_law 1654 = .ok (.ireturn, 1) := by decide +kernel
theorem dL_law_1655 : decode cL_law 1655 = .ok (.iload 5, 2) := by decide +kernel
theorem dL_law_1657 : decode cL_law 1657 = .ok (.ifCond .ne 15, 3) := by decide +kernel
theorem dL_law_1660 : decode cL_law 1660 = .ok (.aload_n 3, 1) := by decide +kernel
theorem dL_law_1661 : decode cL_law 1661 = .ok (.iconst 0, 1) := by decide +kernel
theorem dL_law_1662 : decode cL_law 1662 = .ok (.laload, 1) := by decide +kernel
theorem dL_law_1663 : decode cL_law 1663 = .ok (.iload 6, 2) := by decide +kernel
theorem dL_law_1665 : decode cL_law 1665 = .ok (.i2l, 1) := by decide +kernel
theorem dL_law_1666 : decode cL_law 1666 = .ok (.lcmp, 1) := by decide +kernel
theorem dL_law_1667 : decode cL_law 1667 = .ok (.ifCond .eq 5, 3) := by decide +kernel
theorem dL_law_1670 : decode cL_law 1670 = .ok (.iconst 0, 1) := by decide +kernel
theorem dL_law_1671 : decode cL_law 1671 = .ok (.ireturn, 1) := by decide +kernel
theorem dL_law_1672 : decode cL_law 1672 = .ok (.goto 74, 3) := by decide +kernel
theorem dL_law_1675 : decode cL_law 1675 = .ok (.aload_n 1, 1) := by decide +kernel
theorem dL_law_1676 : decode cL_law 1676 = .ok (.invokevirtual 181, 3) := by decide +kernel
theorem dL_law_1679 : decode cL_law 1679 = .ok (.aload_n 2, 1) := by decide +kernel
theorem dL_law_1680 : decode cL_law 1680 = .ok (.invokevirtual 185, 3) := by decide +kernel
theorem dL_law_1683 : decode cL_law 1683 = .ok (.if_icmp .eq 63, 3) := by decide +kernel
theorem dL_law_1686 : decode cL_law 1686 = .ok (.iconst 0, 1) := by decide +kernel
theorem dL_law_1687 : decode cL_law 1687 = .ok (.ireturn, 1) := by decide +kernel
theorem dL_law_1688 : decode cL_law 1688 = .ok (.aload_n 1, 1) := by decide +kernel
theorem dL_law_1689 : decode cL_law 1689 = .ok (.aload_n 3, 1) := by decide +kernel
theorem dL_law_1690 : decode cL_law 1690 = .ok (.invokestatic 186, 3) := by decide +kernel
theorem dL_law_1693 : decode cL_law 1693 = .ok (.istore 5, 2) := by decide +kernel
theorem dL_law_1695 : decode cL_law 1695 = .ok (.aload_n 2, 1) := by decide +kernel
theorem dL_law_1696 : decode cL_law 1696 = .ok (.invokevirtual 188, 3) := by decide +kernel
theorem dL_law_1699 : decode cL_law 1699 = .ok (.istore 6, 2) := by decide +kernel
theorem dL_law_1701 : decode cL_law 1701 = .ok (.aload_n 2, 1) := by decide +kernel
theorem dL_law_1702 : decode cL_law 1702 = .ok (.invokevirtual 99, 3) := by decide +kernel
theorem dL_law_1705 : decode cL_law 1705 = .ok (.iload 5, 2) := by decide +kernel
theorem dL_law_1707 : decode cL_law 1707 = .ok (.if_icmp .eq 5, 3) := by decide +kernel
theorem dL_law_1710 : decode cL_law 1710 = .ok (.iconst 0, 1) := by decide +kernel
theorem dL_law_1711 : decode cL_law 1711 = .ok (.ireturn, 1) := by decide +kernel
theorem dL_law_1712 : decode cL_law 1712 = .ok (.iload 5, 2) := by decide +kernel
theorem dL_law_1714 : decode cL_law 1714 = .ok (.ifCond .ne 15, 3) := by decide +kernel
theorem dL_law_1717 : decode cL_law 1717 = .ok (.aload_n 3, 1) := by decide +kernel
theorem dL_law_1718 : decode cL_law 1718 = .ok (.iconst 0, 1) := by decide +kernel
theorem dL_law_1719 : decode cL_law 1719 = .ok (.laload, 1) := by decide +kernel
theorem dL_law_1720 : decode cL_law 1720 = .ok (.iload 6, 2) := by decide +kernel
theorem dL_law_1722 : decode cL_law 1722 = .ok (.i2l, 1) := by decide +kernel
theorem dL_law_1723 : decode cL_law 1723 = .ok (.lcmp, 1) := by decide +kernel
theorem dL_law_1724 : decode cL_law 1724 = .ok (.ifCond .eq 5, 3) := by decide +kernel
theorem dL_law_1727 : decode cL_law 1727 = .ok (.iconst 0, 1) := by decide +kernel
theorem dL_law_1728 : decode cL_law 1728 = .ok (.ireturn, 1) := by decide +kernel
theorem dL_law_1729 : decode cL_law 1729 = .ok (.goto 17, 3) := by decide +kernel
theorem dL_law_1732 : decode cL_law 1732 = .ok (.aload_n 1, 1) := by decide +kernel
theorem dL_law_1733 : decode cL_law 1733 = .ok (.invokevirtual 189, 3) := by decide +kernel
theorem dL_law_1736 : decode cL_law 1736 = .ok (.aload_n 2, 1) := by decide +kernel
theorem dL_law_1737 : decode cL_law 1737 = .ok (.invokevirtual 193, 3) := by decide +kernel
theorem dL_law_1740 : decode cL_law 1740 = .ok (.lcmp, 1) := by decide +kernel
theorem dL_law_1741 : decode cL_law 1741 = .ok (.ifCond .eq 5, 3) := by decide +kernel
theorem dL_law_1744 : decode cL_law 1744 = .ok (.iconst 0, 1) := by decide +kernel
theorem dL_law_1745 : decode cL_law 1745 = .ok (.ireturn, 1) := by decide +kernel
theorem dL_law_1746 : decode cL_law 1746 = .ok (.iinc 4 5, 3) := by decide +kernel
theorem dL_law_1749 : decode cL_law 1749 = .ok (.goto (-1726), 3) := by decide +kernel
theorem dL_law_1752 : decode cL_law 1752 = .ok (.iconst 1, 1) := by decide +kernel
theorem dL_law_1753 : decode cL_law 1753 = .ok (.ireturn, 1) := by decide +kernel
