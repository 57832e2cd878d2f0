theorem dX8_init_0 : decode cX8_init 0 = .ok (.aload_n 0, 1) := by decide +kernel
theorem dX8_init_1 : decode cX8_init 1 = .ok (.invokespecial 3, 3) := by decide +kernel
theorem dX8_init_4 : decode cX8_init 4 = .ok (.aload_n 0, 1) := by decide +kernel
theorem dX8_init_5 : decode cX8_init 5 = .ok (.new 9, 3) := by decide +kernel
theorem dX8_init_8 : decode cX8_init 8 = .ok (.dup, 1) := by decide +kernel
theorem dX8_init_9 : decode cX8_init 9 = .ok (.aload_n 1, 1) := by decide +kernel
theorem dX8_init_10 : decode cX8_init 10 = .ok (.invokespecial 11, 3) := by decide +kernel
theorem dX8_init_13 : decode cX8_init 13 = .ok (.putfield 14, 3) := by decide +kernel
theorem dX8_init_16 : decode cX8_init 16 = .ok (.aload_n 0, 1) := by decide +kernel
theorem dX8_init_17 : decode cX8_init 17 = .ok (.new 20, 3) := by decide +kernel
theorem dX8_init_20 : decode cX8_init 20 = .ok (.dup, 1) := by decide +kernel
theorem dX8_init_21 : decode cX8_init 21 = .ok (.invokespecial 22, 3) := by decide +kernel
theorem dX8_init_24 : decode cX8_init 24 = .ok (.putfield 23, 3) := by decide +kernel
theorem dX8_init_27 : decode cX8_init 27 = .ok (.aload_n 0, 1) := by decide +kernel
theorem dX8_init_28 : decode cX8_init 28 = .ok (.iconst (-1), 1) := by decide +kernel
theorem dX8_init_29 : decode cX8_init 29 = .ok (.putfield 27, 3) := by decide +kernel
theorem dX8_init_32 : decode cX8_init 32 = .ok (.return_, 1) := by decide +kernel
theorem dX8_translate_0 : decode cX8_translate 0 = .ok (.aload_n 0, 1) := by decide +kernel
theorem dX8_translate_1 : decode cX8_translate 1 = .ok (.aload_n 1, 1) := by decide +kernel
theorem dX8_translate_2 : decode cX8_translate 2 = .ok (.putfield 31, 3) := by decide +kernel
theorem dX8_translate_5 : decode cX8_translate 5 = .ok (.aload_n 0, 1) := by decide +kernel
theorem dX8_translate_6 : decode cX8_translate 6 = .ok (.getfield 31, 3) := by decide +kernel
theorem dX8_translate_9 : decode cX8_translate 9 = .ok (.invokevirtual 35, 3) := by decide +kernel
theorem dX8_translate_12 : decode cX8_translate 12 = .ok (.aload_n 0, 1) := by decide +kernel
theorem dX8_translate_13 : decode cX8_translate 13 = .ok (.getfield 14, 3) := by decide +kernel
theorem dX8_translate_16 : decode cX8_translate 16 = .ok (.invokevirtual 40, 3) := by decide +kernel
theorem dX8_translate_19 : decode cX8_translate 19 = .ok (.aload_n 0, 1) := by decide +kernel
theorem dX8_translate_20 : decode cX8_translate 20 = .ok (.getfield 23, 3) := by decide +kernel
theorem dX8_translate_23 : decode cX8_translate 23 = .ok (.aload_n 0, 1) := by decide +kernel
theorem dX8_translate_24 : decode cX8_translate 24 = .ok (.getfield 31, 3) := by decide +kernel
theorem dX8_translate_27 : decode cX8_translate 27 = .ok (.invokevirtual 43, 3) := by decide +kernel
theorem dX8_translate_30 : decode cX8_translate 30 = .ok (.aload_n 0, 1) := by decide +kernel
theorem dX8_translate_31 : decode cX8_translate 31 = .ok (.iconst 0, 1) := by decide +kernel
theorem dX8_translate_32 : decode cX8_translate 32 = .ok (.putfield 47, 3) := by decide +kernel
theorem dX8_translate_35 : decode cX8_translate 35 = .ok (.aload_n 0, 1) := by decide +kernel
theorem dX8_translate_36 : decode cX8_translate 36 = .ok (.iconst 0, 1) := by decide +kernel
theorem dX8_translate_37 : decode cX8_translate 37 = .ok (.putfield 50, 3) := by decide +kernel
theorem dX8_translate_40 : decode cX8_translate 40 = .ok (.aload_n 0, 1) := by decide +kernel
theorem dX8_translate_41 : decode cX8_translate 41 = .ok (.iconst 0, 1) := by decide +kernel
theorem dX8_translate_42 : decode cX8_translate 42 = .ok (.putfield 53, 3) := by decide +kernel
theorem dX8_translate_45 : decode cX8_translate 45 = .ok (.aload_n 0, 1) := by decide +kernel
theorem dX8_translate_46 : decode cX8_translate 46 = .ok (.iconst (-1), 1) := by decide +kernel
theorem dX8_translate_47 : decode cX8_translate 47 = .ok (.putfield 27, 3) := by decide +kernel
theorem dX8_translate_50 : decode cX8_translate 50 = .ok (.aload_n 0, 1) := by decide +kernel
theorem dX8_translate_51 : decode cX8_translate 51 = .ok (.invokevirtual 56, 3) := by decide +kernel
theorem dX8_translate_54 : decode cX8_translate 54 = .ok (.ifCond .eq 11, 3) := by decide +kernel
theorem dX8_translate_57 : decode cX8_translate 57 = .ok (.aload_n 0, 1) := by decide +kernel
theorem dX8_translate_58 : decode cX8_translate 58 = .ok (.iconst (-1), 1) := by decide +kernel
theorem dX8_translate_59 : decode cX8_translate 59 = .ok (.invokevirtual 60, 3) := by decide +kernel
theorem dX8_translate_62 : decode cX8_translate 62 = .ok (.ifCond .ne 5, 3) := by decide +kernel
theorem dX8_translate_65 : decode cX8_translate 65 = .ok (.iconst 0, 1) := by decide +kernel
theorem dX8_translate_66 : decode cX8_translate 66 = .ok (.ireturn, 1) := by decide +kernel
theorem dX8_translate_67 : decode cX8_translate 67 = .ok (.aload_n 0, 1) := by decide +kernel
theorem dX8_translate_68 : decode cX8_translate 68 = .ok (.getfield 23, 3) := by decide +kernel
theorem dX8_translate_71 : decode cX8_translate 71 = .ok (.invokevirtual 64, 3) := by decide +kernel
theorem dX8_translate_74 : decode cX8_translate 74 = .ok (.iconst 1, 1) := by decide +kernel
theorem dX8_translate_75 : decode cX8_translate 75 = .ok (.ireturn, 1) := by decide +kernel
theorem dX8_statements_0 : decode cX8_statements 0 = .ok (.iconst 0, 1) := by decide +kernel
theorem dX8_statements_1 : decode cX8_statements 1 = .ok (.istore_n 1, 1) := by decide +kernel
theorem dX8_statements_2 : decode cX8_statements 2 = .ok (.iload_n 1, 1) := by decide +kernel
theorem dX8_statements_3 : decode cX8_statements 3 = .ok (.sipush 700, 3) := by decide +kernel
theorem dX8_statements_6 : decode cX8_statements 6 = .ok (.if_icmp .ge 28, 3) := by decide +kernel
theorem dX8_statements_9 : decode cX8_statements 9 = .ok (.aload_n 0, 1) := by decide +kernel
theorem dX8_statements_10 : decode cX8_statements 10 = .ok (.getfield 14, 3) := by decide +kernel
theorem dX8_statements_13 : decode cX8_statements 13 = .ok (.invokevirtual 67, 3) := by decide +kernel
theorem dX8_statements_16 : decode cX8_statements 16 = .ok (.ifCond .eq 18, 3) := by decide +kernel
theorem dX8_statements_19 : decode cX8_statements 19 = .ok (.aload_n 0, 1) := by decide +kernel
theorem dX8_statements_20 : decode cX8_statements 20 = .ok (.invokevirtual 70, 3) := by decide +kernel
theorem dX8_statements_23 : decode cX8_statements 23 = .ok (.ifCond .ne 5, 3) := by decide +kernel
theorem dX8_statements_26 : decode cX8_statements 26 = .ok (.iconst 0, 1) := by decide +kernel
theorem dX8_statements_27 : decode cX8_statements 27 = .ok (.ireturn, 1) := by decide +kernel
theorem dX8_statements_28 : decode cX8_statements 28 = .ok (.iinc 1 1, 3) := by decide +kernel
theorem dX8_statements_31 : decode cX8_statements 31 = .ok (.goto (-29), 3) := by decide +kernel
theorem dX8_statements_34 : decode cX8_statements 34 = .ok (.iconst 1, 1) := by decide +kernel
theorem dX8_statements_35 : decode cX8_statements 35 = .ok (.ireturn, 1) := by decide +kernel
theorem dX8_statement_0 : decode cX8_statement 0 = .ok (.aload_n 0, 1) := by decide +kernel
theorem dX8_statement_1 : decode cX8_statement 1 = .ok (.getfield 14, 3) := by decide +kernel
theorem dX8_statement_4 : decode cX8_statement 4 = .ok (.ldc 73, 2) := by decide +kernel
theorem dX8_statement_6 : decode cX8_statement 6 = .ok (.invokevirtual 75, 3) := by decide +kernel
theorem dX8_statement_9 : decode cX8_statement 9 = .ok (.ifCond .eq 8, 3) := by decide +kernel
theorem dX8_statement_12 : decode cX8_statement 12 = .ok (.aload_n 0, 1) := by decide +kernel
theorem dX8_statement_13 : decode cX8_statement 13 = .ok (.invokevirtual 79, 3) := by decide +kernel
theorem dX8_statement_16 : decode cX8_statement 16 = .ok (.ireturn, 1) := by decide +kernel
theorem dX8_statement_17 : decode cX8_statement 17 = .ok (.aload_n 0, 1) := by decide +kernel
theorem dX8_statement_18 : decode cX8_statement 18 = .ok (.getfield 14, 3) := by decide +kernel
theorem dX8_statement_21 : decode cX8_statement 21 = .ok (.ldc 82, 2) := by decide +kernel
theorem dX8_statement_23 : decode cX8_statement 23 = .ok (.invokevirtual 75, 3) := by decide +kernel
theorem dX8_statement_26 : decode cX8_statement 26 = .ok (.ifCond .eq 8, 3) := by decide +kernel
theorem dX8_statement_29 : decode cX8_statement 29 = .ok (.aload_n 0, 1) := by decide +kernel
theorem dX8_statement_30 : decode cX8_statement 30 = .ok (.invokevirtual 84, 3) := by decide +kernel
theorem dX8_statement_33 : decode cX8_statement 33 = .ok (.ireturn, 1) := by decide +kernel
theorem dX8_statement_34 : decode cX8_statement 34 = .ok (.aload_n 0, 1) := by decide +kernel
theorem dX8_statement_35 : decode cX8_statement 35 = .ok (.getfield 14, 3) := by decide +kernel
theorem dX8_statement_38 : decode cX8_statement 38 = .ok (.ldc 87, 2) := by decide +kernel
theorem dX8_statement_40 : decode cX8_statement 40 = .ok (.invokevirtual 75, 3) := by decide +kernel
theorem dX8_statement_43 : decode cX8_statement 43 = .ok (.ifCond .eq 8, 3) := by decide +kernel
theorem dX8_statement_46 : decode cX8_statement 46 = .ok (.aload_n 0, 1) := by decide +kernel
theorem dX8_statement_47 : decode cX8_statement 47 = .ok (.invokevirtual 89, 3) := by decide +kernel
theorem dX8_statement_50 : decode cX8_statement 50 = .ok (.ireturn, 1) := by decide +kernel
theorem dX8_statement_51 : decode cX8_statement 51 = .ok (.aload_n 0, 1) := by decide +kernel
theorem dX8_statement_52 : decode cX8_statement 52 = .ok (.getfield 14, 3) := by decide +kernel
theorem dX8_statement_55 : decode cX8_statement 55 = .ok (.invokevirtual 92, 3) := by decide +kernel
theorem dX8_statement_58 : decode cX8_statement 58 = .ok (.istore_n 1, 1) := by decide +kernel
theorem dX8_statement_59 : decode cX8_statement 59 = .ok (.iload_n 1, 1) := by decide +kernel
theorem dX8_statement_60 : decode cX8_statement 60 = .ok (.iconst (-1), 1) := by decide +kernel
theorem dX8_statement_61 : decode cX8_statement 61 = .ok (.if_icmp .ne 11, 3) := by decide +kernel
theorem dX8_statement_64 : decode cX8_statement 64 = .ok (.aload_n 0, 1) := by decide +kernel
theorem dX8_statement_65 : decode cX8_statement 65 = .ok (.iconst 1, 1) := by decide +kernel
theorem dX8_statement_66 : decode cX8_statement 66 = .ok (.invokevirtual 96, 3) := by decide +kernel
theorem dX8_statement_69 : decode cX8_statement 69 = .ok (.goto 8, 3) := by decide +kernel
theorem dX8_statement_72 : decode cX8_statement 72 = .ok (.aload_n 0, 1) := by decide +kernel
theorem dX8_statement_73 : decode cX8_statement 73 = .ok (.iload_n 1, 1) := by decide +kernel
theorem dX8_statement_74 : decode cX8_statement 74 = .ok (.invokevirtual 99, 3) := by decide +kernel
theorem dX8_statement_77 : decode cX8_statement 77 = .ok (.ireturn, 1) := by decide +kernel
theorem dX8_assignment_0 : decode cX8_assignment 0 = .ok (.aload_n 0, 1) := by decide +kernel
theorem dX8_assignment_1 : decode cX8_assignment 1 = .ok (.getfield 14, 3) := by decide +kernel
theorem dX8_assignment_4 : decode cX8_assignment 4 = .ok (.getfield 102, 3) := by decide +kernel
theorem dX8_assignment_7 : decode cX8_assignment 7 = .ok (.istore_n 2, 1) := by decide +kernel
theorem dX8_assignment_8 : decode cX8_assignment 8 = .ok (.aload_n 0, 1) := by decide +kernel
theorem dX8_assignment_9 : decode cX8_assignment 9 = .ok (.getfield 14, 3) := by decide +kernel
theorem dX8_assignment_12 : decode cX8_assignment 12 = .ok (.iconst 1, 1) := by decide +kernel
theorem dX8_assignment_13 : decode cX8_assignment 13 = .ok (.invokevirtual 103, 3) := by decide +kernel
theorem dX8_assignment_16 : decode cX8_assignment 16 = .ok (.aload_n 0, 1) := by decide +kernel
theorem dX8_assignment_17 : decode cX8_assignment 17 = .ok (.getfield 23, 3) := by decide +kernel
theorem dX8_assignment_20 : decode cX8_assignment 20 = .ok (.invokevirtual 107, 3) := by decide +kernel
theorem dX8_assignment_23 : decode cX8_assignment 23 = .ok (.aload_n 0, 1) := by decide +kernel
theorem dX8_assignment_24 : decode cX8_assignment 24 = .ok (.bipush 61, 2) := by decide +kernel
theorem dX8_assignment_26 : decode cX8_assignment 26 = .ok (.invokevirtual 110, 3) := by decide +kernel
theorem dX8_assignment_29 : decode cX8_assignment 29 = .ok (.ifCond .ne 5, 3) := by decide +kernel
theorem dX8_assignment_32 : decode cX8_assignment 32 = .ok (.iconst 0, 1) := by decide +kernel
theorem dX8_assignment_33 : decode cX8_assignment 33 = .ok (.ireturn, 1) := by decide +kernel
theorem dX8_assignment_34 : decode cX8_assignment 34 = .ok (.aload_n 0, 1) := by decide +kernel
theorem dX8_assignment_35 : decode cX8_assignment 35 = .ok (.invokevirtual 113, 3) := by decide +kernel
theorem dX8_assignment_38 : decode cX8_assignment 38 = .ok (.istore_n 3, 1) := by decide +kernel
theorem dX8_assignment_39 : decode cX8_assignment 39 = .ok (.iload_n 3, 1) := by decide +kernel
theorem dX8_assignment_40 : decode cX8_assignment 40 = .ok (.sipush (-209), 3) := by decide +kernel
theorem dX8_assignment_43 : decode cX8_assignment 43 = .ok (.if_icmp .eq 12, 3) := by decide +kernel
theorem dX8_assignment_46 : decode cX8_assignment 46 = .ok (.aload_n 0, 1) := by decide +kernel
theorem dX8_assignment_47 : decode cX8_assignment 47 = .ok (.bipush 59, 2) := by decide +kernel
theorem dX8_assignment_49 : decode cX8_assignment 49 = .ok (.invokevirtual 110, 3) := by decide +kernel
theorem dX8_assignment_52 : decode cX8_assignment 52 = .ok (.ifCond .ne 5, 3) := by decide +kernel
theorem dX8_assignment_55 : decode cX8_assignment 55 = .ok (.iconst 0, 1) := by decide +kernel
theorem dX8_assignment_56 : decode cX8_assignment 56 = .ok (.ireturn, 1) := by decide +kernel
theorem dX8_assignment_57 : decode cX8_assignment 57 = .ok (.iload_n 3, 1) := by decide +kernel
theorem dX8_assignment_58 : decode cX8_assignment 58 = .ok (.invokestatic 118, 3) := by decide +kernel
theorem dX8_assignment_61 : decode cX8_assignment 61 = .ok (.ifCond .ne 12, 3) := by decide +kernel
theorem dX8_assignment_64 : decode cX8_assignment 64 = .ok (.aload_n 0, 1) := by decide +kernel
theorem dX8_assignment_65 : decode cX8_assignment 65 = .ok (.iconst 3, 1) := by decide +kernel
theorem dX8_assignment_66 : decode cX8_assignment 66 = .ok (.iload_n 3, 1) := by decide +kernel
theorem dX8_assignment_67 : decode cX8_assignment 67 = .ok (.iconst 0, 1) := by decide +kernel
theorem dX8_assignment_68 : decode cX8_assignment 68 = .ok (.iload_n 2, 1) := by decide +kernel
theorem dX8_assignment_69 : decode cX8_assignment 69 = .ok (.invokevirtual 121, 3) := by decide +kernel
theorem dX8_assignment_72 : decode cX8_assignment 72 = .ok (.istore_n 3, 1) := by decide +kernel
theorem dX8_assignment_73 : decode cX8_assignment 73 = .ok (.iload_n 3, 1) := by decide +kernel
theorem dX8_assignment_74 : decode cX8_assignment 74 = .ok (.sipush (-209), 3) := by decide +kernel
theorem dX8_assignment_77 : decode cX8_assignment 77 = .ok (.if_icmp .ne 5, 3) := by decide +kernel
theorem dX8_assignment_80 : decode cX8_assignment 80 = .ok (.iconst 0, 1) := by decide +kernel
theorem dX8_assignment_81 : decode cX8_assignment 81 = .ok (.ireturn, 1) := by decide +kernel
theorem dX8_assignment_82 : decode cX8_assignment 82 = .ok (.aload_n 0, 1) := by decide +kernel
theorem dX8_assignment_83 : decode cX8_assignment 83 = .ok (.getfield 31, 3) := by decide +kernel
theorem dX8_assignment_86 : decode cX8_assignment 86 = .ok (.getfield 125, 3) := by decide +kernel
theorem dX8_assignment_89 : decode cX8_assignment 89 = .ok (.iload_n 3, 1) := by decide +kernel
theorem dX8_assignment_90 : decode cX8_assignment 90 = .ok (.invokestatic 129, 3) := by decide +kernel
theorem dX8_assignment_93 : decode cX8_assignment 93 = .ok (.aaload, 1) := by decide +kernel
theorem dX8_assignment_94 : decode cX8_assignment 94 = .ok (.iload_n 1, 1) := by decide +kernel
theorem dX8_assignment_95 : decode cX8_assignment 95 = .ok (.putfield 133, 3) := by decide +kernel
theorem dX8_assignment_98 : decode cX8_assignment 98 = .ok (.iconst 1, 1) := by decide +kernel
theorem dX8_assignment_99 : decode cX8_assignment 99 = .ok (.ireturn, 1) := by decide +kernel
theorem dX8_write_0 : decode cX8_write 0 = .ok (.aload_n 0, 1) := by decide +kernel
theorem dX8_write_1 : decode cX8_write 1 = .ok (.getfield 14, 3) := by decide +kernel
theorem dX8_write_4 : decode cX8_write 4 = .ok (.getfield 102, 3) := by decide +kernel
theorem dX8_write_7 : decode cX8_write 7 = .ok (.istore_n 1, 1) := by decide +kernel
theorem dX8_write_8 : decode cX8_write 8 = .ok (.aload_n 0, 1) := by decide +kernel
theorem dX8_write_9 : decode cX8_write 9 = .ok (.getfield 14, 3) := by decide +kernel
theorem dX8_write_12 : decode cX8_write 12 = .ok (.iconst 1, 1) := by decide +kernel
theorem dX8_write_13 : decode cX8_write 13 = .ok (.invokevirtual 103, 3) := by decide +kernel
theorem dX8_write_16 : decode cX8_write 16 = .ok (.aload_n 0, 1) := by decide +kernel
theorem dX8_write_17 : decode cX8_write 17 = .ok (.getfield 23, 3) := by decide +kernel
theorem dX8_write_20 : decode cX8_write 20 = .ok (.invokevirtual 107, 3) := by decide +kernel
theorem dX8_write_23 : decode cX8_write 23 = .ok (.aload_n 0, 1) := by decide +kernel
theorem dX8_write_24 : decode cX8_write 24 = .ok (.bipush 91, 2) := by decide +kernel
theorem dX8_write_26 : decode cX8_write 26 = .ok (.bipush 93, 2) := by decide +kernel
theorem dX8_write_28 : decode cX8_write 28 = .ok (.invokevirtual 138, 3) := by decide +kernel
theorem dX8_write_31 : decode cX8_write 31 = .ok (.istore_n 2, 1) := by decide +kernel
theorem dX8_write_32 : decode cX8_write 32 = .ok (.iload_n 2, 1) := by decide +kernel
theorem dX8_write_33 : decode cX8_write 33 = .ok (.sipush (-209), 3) := by decide +kernel
theorem dX8_write_36 : decode cX8_write 36 = .ok (.if_icmp .eq 12, 3) := by decide +kernel
theorem dX8_write_39 : decode cX8_write 39 = .ok (.aload_n 0, 1) := by decide +kernel
theorem dX8_write_40 : decode cX8_write 40 = .ok (.bipush 61, 2) := by decide +kernel
theorem dX8_write_42 : decode cX8_write 42 = .ok (.invokevirtual 110, 3) := by decide +kernel
theorem dX8_write_45 : decode cX8_write 45 = .ok (.ifCond .ne 5, 3) := by decide +kernel
theorem dX8_write_48 : decode cX8_write 48 = .ok (.iconst 0, 1) := by decide +kernel
theorem dX8_write_49 : decode cX8_write 49 = .ok (.ireturn, 1) := by decide +kernel
theorem dX8_write_50 : decode cX8_write 50 = .ok (.aload_n 0, 1) := by decide +kernel
theorem dX8_write_51 : decode cX8_write 51 = .ok (.invokevirtual 113, 3) := by decide +kernel
theorem dX8_write_54 : decode cX8_write 54 = .ok (.istore_n 3, 1) := by decide +kernel
theorem dX8_write_55 : decode cX8_write 55 = .ok (.iload_n 3, 1) := by decide +kernel
theorem dX8_write_56 : decode cX8_write 56 = .ok (.sipush (-209), 3) := by decide +kernel
theorem dX8_write_59 : decode cX8_write 59 = .ok (.if_icmp .eq 12, 3) := by decide +kernel
theorem dX8_write_62 : decode cX8_write 62 = .ok (.aload_n 0, 1) := by decide +kernel
theorem dX8_write_63 : decode cX8_write 63 = .ok (.bipush 59, 2) := by decide +kernel
theorem dX8_write_65 : decode cX8_write 65 = .ok (.invokevirtual 110, 3) := by decide +kernel
theorem dX8_write_68 : decode cX8_write 68 = .ok (.ifCond .ne 5, 3) := by decide +kernel
theorem dX8_write_71 : decode cX8_write 71 = .ok (.iconst 0, 1) := by decide +kernel
theorem dX8_write_72 : decode cX8_write 72 = .ok (.ireturn, 1) := by decide +kernel
theorem dX8_write_73 : decode cX8_write 73 = .ok (.aload_n 0, 1) := by decide +kernel
theorem dX8_write_74 : decode cX8_write 74 = .ok (.iconst 2, 1) := by decide +kernel
theorem dX8_write_75 : decode cX8_write 75 = .ok (.iload_n 2, 1) := by decide +kernel
theorem dX8_write_76 : decode cX8_write 76 = .ok (.iload_n 3, 1) := by decide +kernel
theorem dX8_write_77 : decode cX8_write 77 = .ok (.iload_n 1, 1) := by decide +kernel
theorem dX8_write_78 : decode cX8_write 78 = .ok (.invokevirtual 121, 3) := by decide +kernel
theorem dX8_write_81 : decode cX8_write 81 = .ok (.sipush (-209), 3) := by decide +kernel
theorem dX8_write_84 : decode cX8_write 84 = .ok (.if_icmp .eq 7, 3) := by decide +kernel
theorem dX8_write_87 : decode cX8_write 87 = .ok (.iconst 1, 1) := by decide +kernel
theorem dX8_write_88 : decode cX8_write 88 = .ok (.goto 4, 3) := by decide +kernel
theorem dX8_write_91 : decode cX8_write 91 = .ok (.iconst 0, 1) := by decide +kernel
theorem dX8_write_92 : decode cX8_write 92 = .ok (.ireturn, 1) := by decide +kernel
theorem dX8_ifStatement_0 : decode cX8_ifStatement 0 = .ok (.aload_n 0, 1) := by decide +kernel
theorem dX8_ifStatement_1 : decode cX8_ifStatement 1 = .ok (.getfield 14, 3) := by decide +kernel
theorem dX8_ifStatement_4 : decode cX8_ifStatement 4 = .ok (.iconst 2, 1) := by decide +kernel
theorem dX8_ifStatement_5 : decode cX8_ifStatement 5 = .ok (.invokevirtual 103, 3) := by decide +kernel
theorem dX8_ifStatement_8 : decode cX8_ifStatement 8 = .ok (.aload_n 0, 1) := by decide +kernel
theorem dX8_ifStatement_9 : decode cX8_ifStatement 9 = .ok (.getfield 23, 3) := by decide +kernel
theorem dX8_ifStatement_12 : decode cX8_ifStatement 12 = .ok (.invokevirtual 142, 3) := by decide +kernel
theorem dX8_ifStatement_15 : decode cX8_ifStatement 15 = .ok (.istore_n 1, 1) := by decide +kernel
theorem dX8_ifStatement_16 : decode cX8_ifStatement 16 = .ok (.aload_n 0, 1) := by decide +kernel
theorem dX8_ifStatement_17 : decode cX8_ifStatement 17 = .ok (.getfield 23, 3) := by decide +kernel
theorem dX8_ifStatement_20 : decode cX8_ifStatement 20 = .ok (.invokevirtual 142, 3) := by decide +kernel
theorem dX8_ifStatement_23 : decode cX8_ifStatement 23 = .ok (.istore_n 2, 1) := by decide +kernel
theorem dX8_ifStatement_24 : decode cX8_ifStatement 24 = .ok (.aload_n 0, 1) := by decide +kernel
theorem dX8_ifStatement_25 : decode cX8_ifStatement 25 = .ok (.iload_n 1, 1) := by decide +kernel
theorem dX8_ifStatement_26 : decode cX8_ifStatement 26 = .ok (.iload_n 2, 1) := by decide +kernel
theorem dX8_ifStatement_27 : decode cX8_ifStatement 27 = .ok (.invokevirtual 145, 3) := by decide +kernel
theorem dX8_ifStatement_30 : decode cX8_ifStatement 30 = .ok (.ifCond .eq 11, 3) := by decide +kernel
theorem dX8_ifStatement_33 : decode cX8_ifStatement 33 = .ok (.aload_n 0, 1) := by decide +kernel
theorem dX8_ifStatement_34 : decode cX8_ifStatement 34 = .ok (.iload_n 1, 1) := by decide +kernel
theorem dX8_ifStatement_35 : decode cX8_ifStatement 35 = .ok (.invokevirtual 149, 3) := by decide +kernel
theorem dX8_ifStatement_38 : decode cX8_ifStatement 38 = .ok (.ifCond .ne 5, 3) := by decide +kernel
theorem dX8_ifStatement_41 : decode cX8_ifStatement 41 = .ok (.iconst 0, 1) := by decide +kernel
theorem dX8_ifStatement_42 : decode cX8_ifStatement 42 = .ok (.ireturn, 1) := by decide +kernel
theorem dX8_ifStatement_43 : decode cX8_ifStatement 43 = .ok (.aload_n 0, 1) := by decide +kernel
theorem dX8_ifStatement_44 : decode cX8_ifStatement 44 = .ok (.getfield 14, 3) := by decide +kernel
theorem dX8_ifStatement_47 : decode cX8_ifStatement 47 = .ok (.ldc 152, 2) := by decide +kernel
theorem dX8_ifStatement_49 : decode cX8_ifStatement 49 = .ok (.invokevirtual 75, 3) := by decide +kernel
theorem dX8_ifStatement_52 : decode cX8_ifStatement 52 = .ok (.ifCond .ne 21, 3) := by decide +kernel
theorem dX8_ifStatement_55 : decode cX8_ifStatement 55 = .ok (.aload_n 0, 1) := by decide +kernel
theorem dX8_ifStatement_56 : decode cX8_ifStatement 56 = .ok (.getfield 23, 3) := by decide +kernel
theorem dX8_ifStatement_59 : decode cX8_ifStatement 59 = .ok (.iload_n 2, 1) := by decide +kernel
theorem dX8_ifStatement_60 : decode cX8_ifStatement 60 = .ok (.invokevirtual 154, 3) := by decide +kernel
theorem dX8_ifStatement_63 : decode cX8_ifStatement 63 = .ok (.aload_n 0, 1) := by decide +kernel
theorem dX8_ifStatement_64 : decode cX8_ifStatement 64 = .ok (.getfield 23, 3) := by decide +kernel
theorem dX8_ifStatement_67 : decode cX8_ifStatement 67 = .ok (.iload_n 2, 1) := by decide +kernel
theorem dX8_ifStatement_68 : decode cX8_ifStatement 68 = .ok (.invokevirtual 157, 3) := by decide +kernel
theorem dX8_ifStatement_71 : decode cX8_ifStatement 71 = .ok (.iconst 1, 1) := by decide +kernel
theorem dX8_ifStatement_72 : decode cX8_ifStatement 72 = .ok (.ireturn, 1) := by decide +kernel
theorem dX8_ifStatement_73 : decode cX8_ifStatement 73 = .ok (.aload_n 0, 1) := by decide +kernel
theorem dX8_ifStatement_74 : decode cX8_ifStatement 74 = .ok (.getfield 14, 3) := by decide +kernel
theorem dX8_ifStatement_77 : decode cX8_ifStatement 77 = .ok (.iconst 4, 1) := by decide +kernel
theorem dX8_ifStatement_78 : decode cX8_ifStatement 78 = .ok (.invokevirtual 103, 3) := by decide +kernel
theorem dX8_ifStatement_81 : decode cX8_ifStatement 81 = .ok (.aload_n 0, 1) := by decide +kernel
theorem dX8_ifStatement_82 : decode cX8_ifStatement 82 = .ok (.getfield 23, 3) := by decide +kernel
theorem dX8_ifStatement_85 : decode cX8_ifStatement 85 = .ok (.invokevirtual 142, 3) := by decide +kernel
theorem dX8_ifStatement_88 : decode cX8_ifStatement 88 = .ok (.istore_n 3, 1) := by decide +kernel
theorem dX8_ifStatement_89 : decode cX8_ifStatement 89 = .ok (.aload_n 0, 1) := by decide +kernel
theorem dX8_ifStatement_90 : decode cX8_ifStatement 90 = .ok (.getfield 23, 3) := by decide +kernel
theorem dX8_ifStatement_93 : decode cX8_ifStatement 93 = .ok (.iload_n 3, 1) := by decide +kernel
theorem dX8_ifStatement_94 : decode cX8_ifStatement 94 = .ok (.invokevirtual 154, 3) := by decide +kernel
theorem dX8_ifStatement_97 : decode cX8_ifStatement 97 = .ok (.aload_n 0, 1) := by decide +kernel
theorem dX8_ifStatement_98 : decode cX8_ifStatement 98 = .ok (.iload_n 2, 1) := by decide +kernel
theorem dX8_ifStatement_99 : decode cX8_ifStatement 99 = .ok (.invokevirtual 149, 3) := by decide +kernel
theorem dX8_ifStatement_102 : decode cX8_ifStatement 102 = .ok (.ifCond .ne 5, 3) := by decide +kernel
theorem dX8_ifStatement_105 : decode cX8_ifStatement 105 = .ok (.iconst 0, 1) := by decide +kernel
theorem dX8_ifStatement_106 : decode cX8_ifStatement 106 = .ok (.ireturn, 1) := by decide +kernel
theorem dX8_ifStatement_107 : decode cX8_ifStatement 107 = .ok (.aload_n 0, 1) := by decide +kernel
theorem dX8_ifStatement_108 : decode cX8_ifStatement 108 = .ok (.getfield 23, 3) := by decide +kernel
theorem dX8_ifStatement_111 : decode cX8_ifStatement 111 = .ok (.iload_n 3, 1) := by decide +kernel
theorem dX8_ifStatement_112 : decode cX8_ifStatement 112 = .ok (.invokevirtual 154, 3) := by decide +kernel
theorem dX8_ifStatement_115 : decode cX8_ifStatement 115 = .ok (.aload_n 0, 1) := by decide +kernel
theorem dX8_ifStatement_116 : decode cX8_ifStatement 116 = .ok (.getfield 23, 3) := by decide +kernel
theorem dX8_ifStatement_119 : decode cX8_ifStatement 119 = .ok (.iload_n 3, 1) := by decide +kernel
theorem dX8_ifStatement_120 : decode cX8_ifStatement 120 = .ok (.invokevirtual 157, 3) := by decide +kernel
theorem dX8_ifStatement_123 : decode cX8_ifStatement 123 = .ok (.iconst 1, 1) := by decide +kernel
theorem dX8_ifStatement_124 : decode cX8_ifStatement 124 = .ok (.ireturn, 1) := by decide +kernel
theorem dX8_whileStatement_0 : decode cX8_whileStatement 0 = .ok (.aload_n 0, 1) := by decide +kernel
theorem dX8_whileStatement_1 : decode cX8_whileStatement 1 = .ok (.getfield 14, 3) := by decide +kernel
theorem dX8_whileStatement_4 : decode cX8_whileStatement 4 = .ok (.iconst 5, 1) := by decide +kernel
theorem dX8_whileStatement_5 : decode cX8_whileStatement 5 = .ok (.invokevirtual 103, 3) := by decide +kernel
theorem dX8_whileStatement_8 : decode cX8_whileStatement 8 = .ok (.aload_n 0, 1) := by decide +kernel
theorem dX8_whileStatement_9 : decode cX8_whileStatement 9 = .ok (.getfield 23, 3) := by decide +kernel
theorem dX8_whileStatement_12 : decode cX8_whileStatement 12 = .ok (.invokevirtual 142, 3) := by decide +kernel
theorem dX8_whileStatement_15 : decode cX8_whileStatement 15 = .ok (.istore_n 1, 1) := by decide +kernel
theorem dX8_whileStatement_16 : decode cX8_whileStatement 16 = .ok (.aload_n 0, 1) := by decide +kernel
theorem dX8_whileStatement_17 : decode cX8_whileStatement 17 = .ok (.getfield 23, 3) := by decide +kernel
theorem dX8_whileStatement_20 : decode cX8_whileStatement 20 = .ok (.invokevirtual 142, 3) := by decide +kernel
theorem dX8_whileStatement_23 : decode cX8_whileStatement 23 = .ok (.istore_n 2, 1) := by decide +kernel
theorem dX8_whileStatement_24 : decode cX8_whileStatement 24 = .ok (.aload_n 0, 1) := by decide +kernel
theorem dX8_whileStatement_25 : decode cX8_whileStatement 25 = .ok (.getfield 23, 3) := by decide +kernel
theorem dX8_whileStatement_28 : decode cX8_whileStatement 28 = .ok (.invokevirtual 142, 3) := by decide +kernel
theorem dX8_whileStatement_31 : decode cX8_whileStatement 31 = .ok (.istore_n 3, 1) := by decide +kernel
theorem dX8_whileStatement_32 : decode cX8_whileStatement 32 = .ok (.aload_n 0, 1) := by decide +kernel
theorem dX8_whileStatement_33 : decode cX8_whileStatement 33 = .ok (.getfield 23, 3) := by decide +kernel
theorem dX8_whileStatement_36 : decode cX8_whileStatement 36 = .ok (.iload_n 1, 1) := by decide +kernel
theorem dX8_whileStatement_37 : decode cX8_whileStatement 37 = .ok (.invokevirtual 154, 3) := by decide +kernel
theorem dX8_whileStatement_40 : decode cX8_whileStatement 40 = .ok (.aload_n 0, 1) := by decide +kernel
theorem dX8_whileStatement_41 : decode cX8_whileStatement 41 = .ok (.getfield 23, 3) := by decide +kernel
theorem dX8_whileStatement_44 : decode cX8_whileStatement 44 = .ok (.iload_n 1, 1) := by decide +kernel
theorem dX8_whileStatement_45 : decode cX8_whileStatement 45 = .ok (.invokevirtual 157, 3) := by decide +kernel
theorem dX8_whileStatement_48 : decode cX8_whileStatement 48 = .ok (.aload_n 0, 1) := by decide +kernel
theorem dX8_whileStatement_49 : decode cX8_whileStatement 49 = .ok (.iload_n 2, 1) := by decide +kernel
theorem dX8_whileStatement_50 : decode cX8_whileStatement 50 = .ok (.iload_n 3, 1) := by decide +kernel
theorem dX8_whileStatement_51 : decode cX8_whileStatement 51 = .ok (.invokevirtual 145, 3) := by decide +kernel
theorem dX8_whileStatement_54 : decode cX8_whileStatement 54 = .ok (.ifCond .eq 11, 3) := by decide +kernel
theorem dX8_whileStatement_57 : decode cX8_whileStatement 57 = .ok (.aload_n 0, 1) := by decide +kernel
theorem dX8_whileStatement_58 : decode cX8_whileStatement 58 = .ok (.iload_n 2, 1) := by decide +kernel
theorem dX8_whileStatement_59 : decode cX8_whileStatement 59 = .ok (.invokevirtual 149, 3) := by decide +kernel
theorem dX8_whileStatement_62 : decode cX8_whileStatement 62 = .ok (.ifCond .ne 5, 3) := by decide +kernel
theorem dX8_whileStatement_65 : decode cX8_whileStatement 65 = .ok (.iconst 0, 1) := by decide +kernel
theorem dX8_whileStatement_66 : decode cX8_whileStatement 66 = .ok (.ireturn, 1) := by decide +kernel
theorem dX8_whileStatement_67 : decode cX8_whileStatement 67 = .ok (.aload_n 0, 1) := by decide +kernel
theorem dX8_whileStatement_68 : decode cX8_whileStatement 68 = .ok (.getfield 23, 3) := by decide +kernel
theorem dX8_whileStatement_71 : decode cX8_whileStatement 71 = .ok (.iload_n 1, 1) := by decide +kernel
theorem dX8_whileStatement_72 : decode cX8_whileStatement 72 = .ok (.invokevirtual 154, 3) := by decide +kernel
theorem dX8_whileStatement_75 : decode cX8_whileStatement 75 = .ok (.aload_n 0, 1) := by decide +kernel
theorem dX8_whileStatement_76 : decode cX8_whileStatement 76 = .ok (.getfield 23, 3) := by decide +kernel
theorem dX8_whileStatement_79 : decode cX8_whileStatement 79 = .ok (.iload_n 3, 1) := by decide +kernel
theorem dX8_whileStatement_80 : decode cX8_whileStatement 80 = .ok (.invokevirtual 157, 3) := by decide +kernel
theorem dX8_whileStatement_83 : decode cX8_whileStatement 83 = .ok (.iconst 1, 1) := by decide +kernel
theorem dX8_whileStatement_84 : decode cX8_whileStatement 84 = .ok (.ireturn, 1) := by decide +kernel
theorem dX8_choice_0 : decode cX8_choice 0 = .ok (.aload_n 0, 1) := by decide +kernel
theorem dX8_choice_1 : decode cX8_choice 1 = .ok (.getfield 23, 3) := by decide +kernel
theorem dX8_choice_4 : decode cX8_choice 4 = .ok (.invokevirtual 107, 3) := by decide +kernel
theorem dX8_choice_7 : decode cX8_choice 7 = .ok (.aload_n 0, 1) := by decide +kernel
theorem dX8_choice_8 : decode cX8_choice 8 = .ok (.invokevirtual 113, 3) := by decide +kernel
theorem dX8_choice_11 : decode cX8_choice 11 = .ok (.istore_n 3, 1) := by decide +kernel
theorem dX8_choice_12 : decode cX8_choice 12 = .ok (.iload_n 3, 1) := by decide +kernel
theorem dX8_choice_13 : decode cX8_choice 13 = .ok (.sipush (-209), 3) := by decide +kernel
theorem dX8_choice_16 : decode cX8_choice 16 = .ok (.if_icmp .ne 5, 3) := by decide +kernel
theorem dX8_choice_19 : decode cX8_choice 19 = .ok (.iconst 0, 1) := by decide +kernel
theorem dX8_choice_20 : decode cX8_choice 20 = .ok (.ireturn, 1) := by decide +kernel
theorem dX8_choice_21 : decode cX8_choice 21 = .ok (.aload_n 0, 1) := by decide +kernel
theorem dX8_choice_22 : decode cX8_choice 22 = .ok (.getfield 23, 3) := by decide +kernel
theorem dX8_choice_25 : decode cX8_choice 25 = .ok (.iload_n 3, 1) := by decide +kernel
theorem dX8_choice_26 : decode cX8_choice 26 = .ok (.iload_n 1, 1) := by decide +kernel
theorem dX8_choice_27 : decode cX8_choice 27 = .ok (.iload_n 2, 1) := by decide +kernel
theorem dX8_choice_28 : decode cX8_choice 28 = .ok (.invokevirtual 160, 3) := by decide +kernel
theorem dX8_choice_31 : decode cX8_choice 31 = .ok (.iconst 1, 1) := by decide +kernel
theorem dX8_choice_32 : decode cX8_choice 32 = .ok (.ireturn, 1) := by decide +kernel
theorem dX8_body_0 : decode cX8_body 0 = .ok (.aload_n 0, 1) := by decide +kernel
theorem dX8_body_1 : decode cX8_body 1 = .ok (.bipush 123, 2) := by decide +kernel
theorem dX8_body_3 : decode cX8_body 3 = .ok (.invokevirtual 60, 3) := by decide +kernel
theorem dX8_body_6 : decode cX8_body 6 = .ok (.ifCond .ne 5, 3) := by decide +kernel
theorem dX8_body_9 : decode cX8_body 9 = .ok (.iconst 0, 1) := by decide +kernel
theorem dX8_body_10 : decode cX8_body 10 = .ok (.ireturn, 1) := by decide +kernel
theorem dX8_body_11 : decode cX8_body 11 = .ok (.aload_n 0, 1) := by decide +kernel
theorem dX8_body_12 : decode cX8_body 12 = .ok (.getfield 47, 3) := by decide +kernel
theorem dX8_body_15 : decode cX8_body 15 = .ok (.bipush 10, 2) := by decide +kernel
theorem dX8_body_17 : decode cX8_body 17 = .ok (.if_icmp .ne 9, 3) := by decide +kernel
theorem dX8_body_20 : decode cX8_body 20 = .ok (.aload_n 0, 1) := by decide +kernel
theorem dX8_body_21 : decode cX8_body 21 = .ok (.iconst 3, 1) := by decide +kernel
theorem dX8_body_22 : decode cX8_body 22 = .ok (.invokevirtual 96, 3) := by decide +kernel
theorem dX8_body_25 : decode cX8_body 25 = .ok (.ireturn, 1) := by decide +kernel
theorem dX8_body_26 : decode cX8_body 26 = .ok (.aload_n 0, 1) := by decide +kernel
theorem dX8_body_27 : decode cX8_body 27 = .ok (.dup, 1) := by decide +kernel
theorem dX8_body_28 : decode cX8_body 28 = .ok (.getfield 47, 3) := by decide +kernel
theorem dX8_body_31 : decode cX8_body 31 = .ok (.iconst 1, 1) := by decide +kernel
theorem dX8_body_32 : decode cX8_body 32 = .ok (.iadd, 1) := by decide +kernel
theorem dX8_body_33 : decode cX8_body 33 = .ok (.putfield 47, 3) := by decide +kernel
theorem dX8_body_36 : decode cX8_body 36 = .ok (.aload_n 0, 1) := by decide +kernel
theorem dX8_body_37 : decode cX8_body 37 = .ok (.getfield 14, 3) := by decide +kernel
theorem dX8_body_40 : decode cX8_body 40 = .ok (.iconst 1, 1) := by decide +kernel
theorem dX8_body_41 : decode cX8_body 41 = .ok (.invokevirtual 103, 3) := by decide +kernel
theorem dX8_body_44 : decode cX8_body 44 = .ok (.aload_n 0, 1) := by decide +kernel
theorem dX8_body_45 : decode cX8_body 45 = .ok (.getfield 23, 3) := by decide +kernel
theorem dX8_body_48 : decode cX8_body 48 = .ok (.iload_n 1, 1) := by decide +kernel
theorem dX8_body_49 : decode cX8_body 49 = .ok (.invokevirtual 157, 3) := by decide +kernel
theorem dX8_body_52 : decode cX8_body 52 = .ok (.aload_n 0, 1) := by decide +kernel
theorem dX8_body_53 : decode cX8_body 53 = .ok (.invokevirtual 56, 3) := by decide +kernel
theorem dX8_body_56 : decode cX8_body 56 = .ok (.ifCond .eq 12, 3) := by decide +kernel
theorem dX8_body_59 : decode cX8_body 59 = .ok (.aload_n 0, 1) := by decide +kernel
theorem dX8_body_60 : decode cX8_body 60 = .ok (.bipush 125, 2) := by decide +kernel
theorem dX8_body_62 : decode cX8_body 62 = .ok (.invokevirtual 110, 3) := by decide +kernel
theorem dX8_body_65 : decode cX8_body 65 = .ok (.ifCond .ne 5, 3) := by decide +kernel
theorem dX8_body_68 : decode cX8_body 68 = .ok (.iconst 0, 1) := by decide +kernel
theorem dX8_body_69 : decode cX8_body 69 = .ok (.ireturn, 1) := by decide +kernel
theorem dX8_body_70 : decode cX8_body 70 = .ok (.aload_n 0, 1) := by decide +kernel
theorem dX8_body_71 : decode cX8_body 71 = .ok (.dup, 1) := by decide +kernel
theorem dX8_body_72 : decode cX8_body 72 = .ok (.getfield 47, 3) := by decide +kernel
theorem dX8_body_75 : decode cX8_body 75 = .ok (.iconst 1, 1) := by decide +kernel
theorem dX8_body_76 : decode cX8_body 76 = .ok (.isub, 1) := by decide +kernel
theorem dX8_body_77 : decode cX8_body 77 = .ok (.putfield 47, 3) := by decide +kernel
theorem dX8_body_80 : decode cX8_body 80 = .ok (.iconst 1, 1) := by decide +kernel
theorem dX8_body_81 : decode cX8_body 81 = .ok (.ireturn, 1) := by decide +kernel
theorem dX8_expression_0 : decode cX8_expression 0 = .ok (.aload_n 0, 1) := by decide +kernel
theorem dX8_expression_1 : decode cX8_expression 1 = .ok (.invokevirtual 164, 3) := by decide +kernel
theorem dX8_expression_4 : decode cX8_expression 4 = .ok (.istore_n 1, 1) := by decide +kernel
theorem dX8_expression_5 : decode cX8_expression 5 = .ok (.iload_n 1, 1) := by decide +kernel
theorem dX8_expression_6 : decode cX8_expression 6 = .ok (.sipush (-209), 3) := by decide +kernel
theorem dX8_expression_9 : decode cX8_expression 9 = .ok (.if_icmp .ne 5, 3) := by decide +kernel
theorem dX8_expression_12 : decode cX8_expression 12 = .ok (.iload_n 1, 1) := by decide +kernel
theorem dX8_expression_13 : decode cX8_expression 13 = .ok (.ireturn, 1) := by decide +kernel
theorem dX8_expression_14 : decode cX8_expression 14 = .ok (.aload_n 0, 1) := by decide +kernel
theorem dX8_expression_15 : decode cX8_expression 15 = .ok (.getfield 14, 3) := by decide +kernel
theorem dX8_expression_18 : decode cX8_expression 18 = .ok (.invokevirtual 167, 3) := by decide +kernel
theorem dX8_expression_21 : decode cX8_expression 21 = .ok (.istore_n 2, 1) := by decide +kernel
theorem dX8_expression_22 : decode cX8_expression 22 = .ok (.iload_n 2, 1) := by decide +kernel
theorem dX8_expression_23 : decode cX8_expression 23 = .ok (.bipush 60, 2) := by decide +kernel
theorem dX8_expression_25 : decode cX8_expression 25 = .ok (.if_icmp .eq 11, 3) := by decide +kernel
theorem dX8_expression_28 : decode cX8_expression 28 = .ok (.iload_n 2, 1) := by decide +kernel
theorem dX8_expression_29 : decode cX8_expression 29 = .ok (.bipush 61, 2) := by decide +kernel
theorem dX8_expression_31 : decode cX8_expression 31 = .ok (.if_icmp .eq 5, 3) := by decide +kernel
theorem dX8_expression_34 : decode cX8_expression 34 = .ok (.iload_n 1, 1) := by decide +kernel
theorem dX8_expression_35 : decode cX8_expression 35 = .ok (.ireturn, 1) := by decide +kernel
theorem dX8_expression_36 : decode cX8_expression 36 = .ok (.aload_n 0, 1) := by decide +kernel
theorem dX8_expression_37 : decode cX8_expression 37 = .ok (.getfield 14, 3) := by decide +kernel
theorem dX8_expression_40 : decode cX8_expression 40 = .ok (.getfield 102, 3) := by decide +kernel
theorem dX8_expression_43 : decode cX8_expression 43 = .ok (.istore_n 3, 1) := by decide +kernel
theorem dX8_expression_44 : decode cX8_expression 44 = .ok (.aload_n 0, 1) := by decide +kernel
theorem dX8_expression_45 : decode cX8_expression 45 = .ok (.getfield 14, 3) := by decide +kernel
theorem dX8_expression_48 : decode cX8_expression 48 = .ok (.iconst 1, 1) := by decide +kernel
theorem dX8_expression_49 : decode cX8_expression 49 = .ok (.invokevirtual 103, 3) := by decide +kernel
theorem dX8_expression_52 : decode cX8_expression 52 = .ok (.aload_n 0, 1) := by decide +kernel
theorem dX8_expression_53 : decode cX8_expression 53 = .ok (.iload_n 2, 1) := by decide +kernel
theorem dX8_expression_54 : decode cX8_expression 54 = .ok (.iload_n 1, 1) := by decide +kernel
theorem dX8_expression_55 : decode cX8_expression 55 = .ok (.aload_n 0, 1) := by decide +kernel
theorem dX8_expression_56 : decode cX8_expression 56 = .ok (.invokevirtual 164, 3) := by decide +kernel
theorem dX8_expression_59 : decode cX8_expression 59 = .ok (.iload_n 3, 1) := by decide +kernel
theorem dX8_expression_60 : decode cX8_expression 60 = .ok (.invokevirtual 121, 3) := by decide +kernel
theorem dX8_expression_63 : decode cX8_expression 63 = .ok (.ireturn, 1) := by decide +kernel
theorem dX8_sum_0 : decode cX8_sum 0 = .ok (.aload_n 0, 1) := by decide +kernel
theorem dX8_sum_1 : decode cX8_sum 1 = .ok (.invokevirtual 170, 3) := by decide +kernel
theorem dX8_sum_4 : decode cX8_sum 4 = .ok (.istore_n 1, 1) := by decide +kernel
theorem dX8_sum_5 : decode cX8_sum 5 = .ok (.iconst 0, 1) := by decide +kernel
theorem dX8_sum_6 : decode cX8_sum 6 = .ok (.istore_n 2, 1) := by decide +kernel
theorem dX8_sum_7 : decode cX8_sum 7 = .ok (.iload_n 2, 1) := by decide +kernel
theorem dX8_sum_8 : decode cX8_sum 8 = .ok (.sipush 700, 3) := by decide +kernel
theorem dX8_sum_11 : decode cX8_sum 11 = .ok (.if_icmp .ge 68, 3) := by decide +kernel
theorem dX8_sum_14 : decode cX8_sum 14 = .ok (.iload_n 1, 1) := by decide +kernel
theorem dX8_sum_15 : decode cX8_sum 15 = .ok (.sipush (-209), 3) := by decide +kernel
theorem dX8_sum_18 : decode cX8_sum 18 = .ok (.if_icmp .eq 61, 3) := by decide +kernel
theorem dX8_sum_21 : decode cX8_sum 21 = .ok (.aload_n 0, 1) := by decide +kernel
theorem dX8_sum_22 : decode cX8_sum 22 = .ok (.getfield 14, 3) := by decide +kernel
theorem dX8_sum_25 : decode cX8_sum 25 = .ok (.invokevirtual 167, 3) := by decide +kernel
theorem dX8_sum_28 : decode cX8_sum 28 = .ok (.istore_n 3, 1) := by decide +kernel
theorem dX8_sum_29 : decode cX8_sum 29 = .ok (.iload_n 3, 1) := by decide +kernel
theorem dX8_sum_30 : decode cX8_sum 30 = .ok (.bipush 43, 2) := by decide +kernel
theorem dX8_sum_32 : decode cX8_sum 32 = .ok (.if_icmp .eq 11, 3) := by decide +kernel
theorem dX8_sum_35 : decode cX8_sum 35 = .ok (.iload_n 3, 1) := by decide +kernel
theorem dX8_sum_36 : decode cX8_sum 36 = .ok (.bipush 45, 2) := by decide +kernel
theorem dX8_sum_38 : decode cX8_sum 38 = .ok (.if_icmp .eq 5, 3) := by decide +kernel
theorem dX8_sum_41 : decode cX8_sum 41 = .ok (.iload_n 1, 1) := by decide +kernel
theorem dX8_sum_42 : decode cX8_sum 42 = .ok (.ireturn, 1) := by decide +kernel
theorem dX8_sum_43 : decode cX8_sum 43 = .ok (.aload_n 0, 1) := by decide +kernel
theorem dX8_sum_44 : decode cX8_sum 44 = .ok (.getfield 14, 3) := by decide +kernel
theorem dX8_sum_47 : decode cX8_sum 47 = .ok (.getfield 102, 3) := by decide +kernel
theorem dX8_sum_50 : decode cX8_sum 50 = .ok (.istore 4, 2) := by decide +kernel
theorem dX8_sum_52 : decode cX8_sum 52 = .ok (.aload_n 0, 1) := by decide +kernel
theorem dX8_sum_53 : decode cX8_sum 53 = .ok (.getfield 14, 3) := by decide +kernel
theorem dX8_sum_56 : decode cX8_sum 56 = .ok (.iconst 1, 1) := by decide +kernel
theorem dX8_sum_57 : decode cX8_sum 57 = .ok (.invokevirtual 103, 3) := by decide +kernel
theorem dX8_sum_60 : decode cX8_sum 60 = .ok (.aload_n 0, 1) := by decide +kernel
theorem dX8_sum_61 : decode cX8_sum 61 = .ok (.iload_n 3, 1) := by decide +kernel
theorem dX8_sum_62 : decode cX8_sum 62 = .ok (.iload_n 1, 1) := by decide +kernel
theorem dX8_sum_63 : decode cX8_sum 63 = .ok (.aload_n 0, 1) := by decide +kernel
theorem dX8_sum_64 : decode cX8_sum 64 = .ok (.invokevirtual 170, 3) := by decide +kernel
theorem dX8_sum_67 : decode cX8_sum 67 = .ok (.iload 4, 2) := by decide +kernel
theorem dX8_sum_69 : decode cX8_sum 69 = .ok (.invokevirtual 121, 3) := by decide +kernel
theorem dX8_sum_72 : decode cX8_sum 72 = .ok (.istore_n 1, 1) := by decide +kernel
theorem dX8_sum_73 : decode cX8_sum 73 = .ok (.iinc 2 1, 3) := by decide +kernel
theorem dX8_sum_76 : decode cX8_sum 76 = .ok (.goto (-69), 3) := by decide +kernel
theorem dX8_sum_79 : decode cX8_sum 79 = .ok (.iload_n 1, 1) := by decide +kernel
theorem dX8_sum_80 : decode cX8_sum 80 = .ok (.ireturn, 1) := by decide +kernel
theorem dX8_term_0 : decode cX8_term 0 = .ok (.aload_n 0, 1) := by decide +kernel
theorem dX8_term_1 : decode cX8_term 1 = .ok (.invokevirtual 173, 3) := by decide +kernel
theorem dX8_term_4 : decode cX8_term 4 = .ok (.istore_n 1, 1) := by decide +kernel
theorem dX8_term_5 : decode cX8_term 5 = .ok (.iconst 0, 1) := by decide +kernel
theorem dX8_term_6 : decode cX8_term 6 = .ok (.istore_n 2, 1) := by decide +kernel
theorem dX8_term_7 : decode cX8_term 7 = .ok (.iload_n 2, 1) := by decide +kernel
theorem dX8_term_8 : decode cX8_term 8 = .ok (.sipush 700, 3) := by decide +kernel
theorem dX8_term_11 : decode cX8_term 11 = .ok (.if_icmp .ge 59, 3) := by decide +kernel
theorem dX8_term_14 : decode cX8_term 14 = .ok (.iload_n 1, 1) := by decide +kernel
theorem dX8_term_15 : decode cX8_term 15 = .ok (.sipush (-209), 3) := by decide +kernel
theorem dX8_term_18 : decode cX8_term 18 = .ok (.if_icmp .eq 52, 3) := by decide +kernel
theorem dX8_term_21 : decode cX8_term 21 = .ok (.aload_n 0, 1) := by decide +kernel
theorem dX8_term_22 : decode cX8_term 22 = .ok (.getfield 14, 3) := by decide +kernel
theorem dX8_term_25 : decode cX8_term 25 = .ok (.invokevirtual 167, 3) := by decide +kernel
theorem dX8_term_28 : decode cX8_term 28 = .ok (.bipush 42, 2) := by decide +kernel
theorem dX8_term_30 : decode cX8_term 30 = .ok (.if_icmp .eq 5, 3) := by decide +kernel
theorem dX8_term_33 : decode cX8_term 33 = .ok (.iload_n 1, 1) := by decide +kernel
theorem dX8_term_34 : decode cX8_term 34 = .ok (.ireturn, 1) := by decide +kernel
theorem dX8_term_35 : decode cX8_term 35 = .ok (.aload_n 0, 1) := by decide +kernel
theorem dX8_term_36 : decode cX8_term 36 = .ok (.getfield 14, 3) := by decide +kernel
theorem dX8_term_39 : decode cX8_term 39 = .ok (.getfield 102, 3) := by decide +kernel
theorem dX8_term_42 : decode cX8_term 42 = .ok (.istore_n 3, 1) := by decide +kernel
theorem dX8_term_43 : decode cX8_term 43 = .ok (.aload_n 0, 1) := by decide +kernel
theorem dX8_term_44 : decode cX8_term 44 = .ok (.getfield 14, 3) := by decide +kernel
theorem dX8_term_47 : decode cX8_term 47 = .ok (.iconst 1, 1) := by decide +kernel
theorem dX8_term_48 : decode cX8_term 48 = .ok (.invokevirtual 103, 3) := by decide +kernel
theorem dX8_term_51 : decode cX8_term 51 = .ok (.aload_n 0, 1) := by decide +kernel
theorem dX8_term_52 : decode cX8_term 52 = .ok (.bipush 42, 2) := by decide +kernel
theorem dX8_term_54 : decode cX8_term 54 = .ok (.iload_n 1, 1) := by decide +kernel
theorem dX8_term_55 : decode cX8_term 55 = .ok (.aload_n 0, 1) := by decide +kernel
theorem dX8_term_56 : decode cX8_term 56 = .ok (.invokevirtual 173, 3) := by decide +kernel
theorem dX8_term_59 : decode cX8_term 59 = .ok (.iload_n 3, 1) := by decide +kernel
theorem dX8_term_60 : decode cX8_term 60 = .ok (.invokevirtual 121, 3) := by decide +kernel
theorem dX8_term_63 : decode cX8_term 63 = .ok (.istore_n 1, 1) := by decide +kernel
theorem dX8_term_64 : decode cX8_term 64 = .ok (.iinc 2 1, 3) := by decide +kernel
theorem dX8_term_67 : decode cX8_term 67 = .ok (.goto (-60), 3) := by decide +kernel
theorem dX8_term_70 : decode cX8_term 70 = .ok (.iload_n 1, 1) := by decide +kernel
theorem dX8_term_71 : decode cX8_term 71 = .ok (.ireturn, 1) := by decide +kernel
theorem dX8_factor_0 : decode cX8_factor 0 = .ok (.aload_n 0, 1) := by decide +kernel
theorem dX8_factor_1 : decode cX8_factor 1 = .ok (.getfield 14, 3) := by decide +kernel
theorem dX8_factor_4 : decode cX8_factor 4 = .ok (.invokevirtual 167, 3) := by decide +kernel
theorem dX8_factor_7 : decode cX8_factor 7 = .ok (.bipush 40, 2) := by decide +kernel
theorem dX8_factor_9 : decode cX8_factor 9 = .ok (.if_icmp .ne 12, 3) := by decide +kernel
theorem dX8_factor_12 : decode cX8_factor 12 = .ok (.aload_n 0, 1) := by decide +kernel
theorem dX8_factor_13 : decode cX8_factor 13 = .ok (.bipush 40, 2) := by decide +kernel
theorem dX8_factor_15 : decode cX8_factor 15 = .ok (.bipush 41, 2) := by decide +kernel
theorem dX8_factor_17 : decode cX8_factor 17 = .ok (.invokevirtual 138, 3) := by decide +kernel
theorem dX8_factor_20 : decode cX8_factor 20 = .ok (.ireturn, 1) := by decide +kernel
theorem dX8_factor_21 : decode cX8_factor 21 = .ok (.aload_n 0, 1) := by decide +kernel
theorem dX8_factor_22 : decode cX8_factor 22 = .ok (.getfield 14, 3) := by decide +kernel
theorem dX8_factor_25 : decode cX8_factor 25 = .ok (.invokevirtual 176, 3) := by decide +kernel
theorem dX8_factor_28 : decode cX8_factor 28 = .ok (.ifCond .eq 8, 3) := by decide +kernel
theorem dX8_factor_31 : decode cX8_factor 31 = .ok (.aload_n 0, 1) := by decide +kernel
theorem dX8_factor_32 : decode cX8_factor 32 = .ok (.invokevirtual 179, 3) := by decide +kernel
theorem dX8_factor_35 : decode cX8_factor 35 = .ok (.ireturn, 1) := by decide +kernel
theorem dX8_factor_36 : decode cX8_factor 36 = .ok (.aload_n 0, 1) := by decide +kernel
theorem dX8_factor_37 : decode cX8_factor 37 = .ok (.getfield 14, 3) := by decide +kernel
theorem dX8_factor_40 : decode cX8_factor 40 = .ok (.ldc 87, 2) := by decide +kernel
theorem dX8_factor_42 : decode cX8_factor 42 = .ok (.invokevirtual 75, 3) := by decide +kernel
theorem dX8_factor_45 : decode cX8_factor 45 = .ok (.ifCond .eq 8, 3) := by decide +kernel
theorem dX8_factor_48 : decode cX8_factor 48 = .ok (.aload_n 0, 1) := by decide +kernel
theorem dX8_factor_49 : decode cX8_factor 49 = .ok (.invokevirtual 182, 3) := by decide +kernel
theorem dX8_factor_52 : decode cX8_factor 52 = .ok (.ireturn, 1) := by decide +kernel
theorem dX8_factor_53 : decode cX8_factor 53 = .ok (.aload_n 0, 1) := by decide +kernel
theorem dX8_factor_54 : decode cX8_factor 54 = .ok (.getfield 14, 3) := by decide +kernel
theorem dX8_factor_57 : decode cX8_factor 57 = .ok (.invokevirtual 92, 3) := by decide +kernel
theorem dX8_factor_60 : decode cX8_factor 60 = .ok (.istore_n 1, 1) := by decide +kernel
theorem dX8_factor_61 : decode cX8_factor 61 = .ok (.iload_n 1, 1) := by decide +kernel
theorem dX8_factor_62 : decode cX8_factor 62 = .ok (.iconst (-1), 1) := by decide +kernel
theorem dX8_factor_63 : decode cX8_factor 63 = .ok (.if_icmp .ne 13, 3) := by decide +kernel
theorem dX8_factor_66 : decode cX8_factor 66 = .ok (.aload_n 0, 1) := by decide +kernel
theorem dX8_factor_67 : decode cX8_factor 67 = .ok (.iconst 1, 1) := by decide +kernel
theorem dX8_factor_68 : decode cX8_factor 68 = .ok (.invokevirtual 96, 3) := by decide +kernel
theorem dX8_factor_71 : decode cX8_factor 71 = .ok (.pop, 1) := by decide +kernel
theorem dX8_factor_72 : decode cX8_factor 72 = .ok (.sipush (-209), 3) := by decide +kernel
theorem dX8_factor_75 : decode cX8_factor 75 = .ok (.ireturn, 1) := by decide +kernel
theorem dX8_factor_76 : decode cX8_factor 76 = .ok (.aload_n 0, 1) := by decide +kernel
theorem dX8_factor_77 : decode cX8_factor 77 = .ok (.getfield 14, 3) := by decide +kernel
theorem dX8_factor_80 : decode cX8_factor 80 = .ok (.iconst 1, 1) := by decide +kernel
theorem dX8_factor_81 : decode cX8_factor 81 = .ok (.invokevirtual 103, 3) := by decide +kernel
theorem dX8_factor_84 : decode cX8_factor 84 = .ok (.iload_n 1, 1) := by decide +kernel
theorem dX8_factor_85 : decode cX8_factor 85 = .ok (.invokestatic 185, 3) := by decide +kernel
theorem dX8_factor_88 : decode cX8_factor 88 = .ok (.ireturn, 1) := by decide +kernel
theorem dX8_number_0 : decode cX8_number 0 = .ok (.aload_n 0, 1) := by decide +kernel
theorem dX8_number_1 : decode cX8_number 1 = .ok (.getfield 14, 3) := by decide +kernel
theorem dX8_number_4 : decode cX8_number 4 = .ok (.getfield 102, 3) := by decide +kernel
theorem dX8_number_7 : decode cX8_number 7 = .ok (.istore_n 1, 1) := by decide +kernel
theorem dX8_number_8 : decode cX8_number 8 = .ok (.aload_n 0, 1) := by decide +kernel
theorem dX8_number_9 : decode cX8_number 9 = .ok (.getfield 14, 3) := by decide +kernel
theorem dX8_number_12 : decode cX8_number 12 = .ok (.invokevirtual 188, 3) := by decide +kernel
theorem dX8_number_15 : decode cX8_number 15 = .ok (.lstore_n 2, 1) := by decide +kernel
theorem dX8_number_16 : decode cX8_number 16 = .ok (.lload_n 2, 1) := by decide +kernel
theorem dX8_number_17 : decode cX8_number 17 = .ok (.ldc2_w 192, 3) := by decide +kernel
theorem dX8_number_20 : decode cX8_number 20 = .ok (.lcmp, 1) := by decide +kernel
theorem dX8_number_21 : decode cX8_number 21 = .ok (.ifCond .le 14, 3) := by decide +kernel
theorem dX8_number_24 : decode cX8_number 24 = .ok (.aload_n 0, 1) := by decide +kernel
theorem dX8_number_25 : decode cX8_number 25 = .ok (.iconst 2, 1) := by decide +kernel
theorem dX8_number_26 : decode cX8_number 26 = .ok (.iload_n 1, 1) := by decide +kernel
theorem dX8_number_27 : decode cX8_number 27 = .ok (.invokevirtual 194, 3) := by decide +kernel
theorem dX8_number_30 : decode cX8_number 30 = .ok (.pop, 1) := by decide +kernel
theorem dX8_number_31 : decode cX8_number 31 = .ok (.sipush (-209), 3) := by decide +kernel
theorem dX8_number_34 : decode cX8_number 34 = .ok (.ireturn, 1) := by decide +kernel
theorem dX8_number_35 : decode cX8_number 35 = .ok (.lload_n 2, 1) := by decide +kernel
theorem dX8_number_36 : decode cX8_number 36 = .ok (.l2i, 1) := by decide +kernel
theorem dX8_number_37 : decode cX8_number 37 = .ok (.ireturn, 1) := by decide +kernel
theorem dX8_read_0 : decode cX8_read 0 = .ok (.aload_n 0, 1) := by decide +kernel
theorem dX8_read_1 : decode cX8_read 1 = .ok (.getfield 14, 3) := by decide +kernel
theorem dX8_read_4 : decode cX8_read 4 = .ok (.getfield 102, 3) := by decide +kernel
theorem dX8_read_7 : decode cX8_read 7 = .ok (.istore_n 1, 1) := by decide +kernel
theorem dX8_read_8 : decode cX8_read 8 = .ok (.aload_n 0, 1) := by decide +kernel
theorem dX8_read_9 : decode cX8_read 9 = .ok (.getfield 14, 3) := by decide +kernel
theorem dX8_read_12 : decode cX8_read 12 = .ok (.iconst 1, 1) := by decide +kernel
theorem dX8_read_13 : decode cX8_read 13 = .ok (.invokevirtual 103, 3) := by decide +kernel
theorem dX8_read_16 : decode cX8_read 16 = .ok (.aload_n 0, 1) := by decide +kernel
theorem dX8_read_17 : decode cX8_read 17 = .ok (.bipush 91, 2) := by decide +kernel
theorem dX8_read_19 : decode cX8_read 19 = .ok (.bipush 93, 2) := by decide +kernel
theorem dX8_read_21 : decode cX8_read 21 = .ok (.invokevirtual 138, 3) := by decide +kernel
theorem dX8_read_24 : decode cX8_read 24 = .ok (.istore_n 2, 1) := by decide +kernel
theorem dX8_read_25 : decode cX8_read 25 = .ok (.iload_n 2, 1) := by decide +kernel
theorem dX8_read_26 : decode cX8_read 26 = .ok (.sipush (-209), 3) := by decide +kernel
theorem dX8_read_29 : decode cX8_read 29 = .ok (.if_icmp .ne 7, 3) := by decide +kernel
theorem dX8_read_32 : decode cX8_read 32 = .ok (.iload_n 2, 1) := by decide +kernel
theorem dX8_read_33 : decode cX8_read 33 = .ok (.goto 11, 3) := by decide +kernel
theorem dX8_read_36 : decode cX8_read 36 = .ok (.aload_n 0, 1) := by decide +kernel
theorem dX8_read_37 : decode cX8_read 37 = .ok (.iconst 1, 1) := by decide +kernel
theorem dX8_read_38 : decode cX8_read 38 = .ok (.iload_n 2, 1) := by decide +kernel
theorem dX8_read_39 : decode cX8_read 39 = .ok (.iconst 0, 1) := by decide +kernel
theorem dX8_read_40 : decode cX8_read 40 = .ok (.iload_n 1, 1) := by decide +kernel
theorem dX8_read_41 : decode cX8_read 41 = .ok (.invokevirtual 121, 3) := by decide +kernel
theorem dX8_read_44 : decode cX8_read 44 = .ok (.ireturn, 1) := by decide +kernel
theorem dX8_enclosed_0 : decode cX8_enclosed 0 = .ok (.aload_n 0, 1) := by decide +kernel
theorem dX8_enclosed_1 : decode cX8_enclosed 1 = .ok (.iload_n 1, 1) := by decide +kernel
theorem dX8_enclosed_2 : decode cX8_enclosed 2 = .ok (.invokevirtual 60, 3) := by decide +kernel
theorem dX8_enclosed_5 : decode cX8_enclosed 5 = .ok (.ifCond .ne 7, 3) := by decide +kernel
theorem dX8_enclosed_8 : decode cX8_enclosed 8 = .ok (.sipush (-209), 3) := by decide +kernel
theorem dX8_enclosed_11 : decode cX8_enclosed 11 = .ok (.ireturn, 1) := by decide +kernel
theorem dX8_enclosed_12 : decode cX8_enclosed 12 = .ok (.aload_n 0, 1) := by decide +kernel
theorem dX8_enclosed_13 : decode cX8_enclosed 13 = .ok (.getfield 50, 3) := by decide +kernel
theorem dX8_enclosed_16 : decode cX8_enclosed 16 = .ok (.bipush 20, 2) := by decide +kernel
theorem dX8_enclosed_18 : decode cX8_enclosed 18 = .ok (.if_icmp .ne 13, 3) := by decide +kernel
theorem dX8_enclosed_21 : decode cX8_enclosed 21 = .ok (.aload_n 0, 1) := by decide +kernel
theorem dX8_enclosed_22 : decode cX8_enclosed 22 = .ok (.iconst 3, 1) := by decide +kernel
theorem dX8_enclosed_23 : decode cX8_enclosed 23 = .ok (.invokevirtual 96, 3) := by decide +kernel
theorem dX8_enclosed_26 : decode cX8_enclosed 26 = .ok (.pop, 1) := by decide +kernel
theorem dX8_enclosed_27 : decode cX8_enclosed 27 = .ok (.sipush (-209), 3) := by decide +kernel
theorem dX8_enclosed_30 : decode cX8_enclosed 30 = .ok (.ireturn, 1) := by decide +kernel
theorem dX8_enclosed_31 : decode cX8_enclosed 31 = .ok (.aload_n 0, 1) := by decide +kernel
theorem dX8_enclosed_32 : decode cX8_enclosed 32 = .ok (.dup, 1) := by decide +kernel
theorem dX8_enclosed_33 : decode cX8_enclosed 33 = .ok (.getfield 50, 3) := by decide +kernel
theorem dX8_enclosed_36 : decode cX8_enclosed 36 = .ok (.iconst 1, 1) := by decide +kernel
theorem dX8_enclosed_37 : decode cX8_enclosed 37 = .ok (.iadd, 1) := by decide +kernel
theorem dX8_enclosed_38 : decode cX8_enclosed 38 = .ok (.putfield 50, 3) := by decide +kernel
theorem dX8_enclosed_41 : decode cX8_enclosed 41 = .ok (.aload_n 0, 1) := by decide +kernel
theorem dX8_enclosed_42 : decode cX8_enclosed 42 = .ok (.getfield 14, 3) := by decide +kernel
theorem dX8_enclosed_45 : decode cX8_enclosed 45 = .ok (.iconst 1, 1) := by decide +kernel
theorem dX8_enclosed_46 : decode cX8_enclosed 46 = .ok (.invokevirtual 103, 3) := by decide +kernel
theorem dX8_enclosed_49 : decode cX8_enclosed 49 = .ok (.aload_n 0, 1) := by decide +kernel
theorem dX8_enclosed_50 : decode cX8_enclosed 50 = .ok (.invokevirtual 113, 3) := by decide +kernel
theorem dX8_enclosed_53 : decode cX8_enclosed 53 = .ok (.istore_n 3, 1) := by decide +kernel
theorem dX8_enclosed_54 : decode cX8_enclosed 54 = .ok (.iload_n 3, 1) := by decide +kernel
theorem dX8_enclosed_55 : decode cX8_enclosed 55 = .ok (.sipush (-209), 3) := by decide +kernel
theorem dX8_enclosed_58 : decode cX8_enclosed 58 = .ok (.if_icmp .eq 11, 3) := by decide +kernel
theorem dX8_enclosed_61 : decode cX8_enclosed 61 = .ok (.aload_n 0, 1) := by decide +kernel
theorem dX8_enclosed_62 : decode cX8_enclosed 62 = .ok (.iload_n 2, 1) := by decide +kernel
theorem dX8_enclosed_63 : decode cX8_enclosed 63 = .ok (.invokevirtual 110, 3) := by decide +kernel
theorem dX8_enclosed_66 : decode cX8_enclosed 66 = .ok (.ifCond .ne 7, 3) := by decide +kernel
theorem dX8_enclosed_69 : decode cX8_enclosed 69 = .ok (.sipush (-209), 3) := by decide +kernel
theorem dX8_enclosed_72 : decode cX8_enclosed 72 = .ok (.ireturn, 1) := by decide +kernel
theorem dX8_enclosed_73 : decode cX8_enclosed 73 = .ok (.aload_n 0, 1) := by decide +kernel
theorem dX8_enclosed_74 : decode cX8_enclosed 74 = .ok (.dup, 1) := by decide +kernel
theorem dX8_enclosed_75 : decode cX8_enclosed 75 = .ok (.getfield 50, 3) := by decide +kernel
theorem dX8_enclosed_78 : decode cX8_enclosed 78 = .ok (.iconst 1, 1) := by decide +kernel
theorem dX8_enclosed_79 : decode cX8_enclosed 79 = .ok (.isub, 1) := by decide +kernel
theorem dX8_enclosed_80 : decode cX8_enclosed 80 = .ok (.putfield 50, 3) := by decide +kernel
theorem dX8_enclosed_83 : decode cX8_enclosed 83 = .ok (.iload_n 3, 1) := by decide +kernel
theorem dX8_enclosed_84 : decode cX8_enclosed 84 = .ok (.ireturn, 1) := by decide +kernel
theorem dX8_add_0 : decode cX8_add 0 = .ok (.iload_n 3, 1) := by decide +kernel
theorem dX8_add_1 : decode cX8_add 1 = .ok (.sipush (-209), 3) := by decide +kernel
theorem dX8_add_4 : decode cX8_add 4 = .ok (.if_icmp .ne 5, 3) := by decide +kernel
theorem dX8_add_7 : decode cX8_add 7 = .ok (.iload_n 3, 1) := by decide +kernel
theorem dX8_add_8 : decode cX8_add 8 = .ok (.ireturn, 1) := by decide +kernel
theorem dX8_add_9 : decode cX8_add 9 = .ok (.aload_n 0, 1) := by decide +kernel
theorem dX8_add_10 : decode cX8_add 10 = .ok (.getfield 31, 3) := by decide +kernel
theorem dX8_add_13 : decode cX8_add 13 = .ok (.invokevirtual 197, 3) := by decide +kernel
theorem dX8_add_16 : decode cX8_add 16 = .ok (.ifCond .eq 15, 3) := by decide +kernel
theorem dX8_add_19 : decode cX8_add 19 = .ok (.aload_n 0, 1) := by decide +kernel
theorem dX8_add_20 : decode cX8_add 20 = .ok (.iconst 3, 1) := by decide +kernel
theorem dX8_add_21 : decode cX8_add 21 = .ok (.iload 4, 2) := by decide +kernel
theorem dX8_add_23 : decode cX8_add 23 = .ok (.invokevirtual 194, 3) := by decide +kernel
theorem dX8_add_26 : decode cX8_add 26 = .ok (.pop, 1) := by decide +kernel
theorem dX8_add_27 : decode cX8_add 27 = .ok (.sipush (-209), 3) := by decide +kernel
theorem dX8_add_30 : decode cX8_add 30 = .ok (.ireturn, 1) := by decide +kernel
theorem dX8_add_31 : decode cX8_add 31 = .ok (.aload_n 0, 1) := by decide +kernel
theorem dX8_add_32 : decode cX8_add 32 = .ok (.getfield 31, 3) := by decide +kernel
theorem dX8_add_35 : decode cX8_add 35 = .ok (.iload_n 1, 1) := by decide +kernel
theorem dX8_add_36 : decode cX8_add 36 = .ok (.iload_n 2, 1) := by decide +kernel
theorem dX8_add_37 : decode cX8_add 37 = .ok (.iload_n 3, 1) := by decide +kernel
theorem dX8_add_38 : decode cX8_add 38 = .ok (.invokevirtual 200, 3) := by decide +kernel
theorem dX8_add_41 : decode cX8_add 41 = .ok (.getfield 204, 3) := by decide +kernel
theorem dX8_add_44 : decode cX8_add 44 = .ok (.invokestatic 206, 3) := by decide +kernel
theorem dX8_add_47 : decode cX8_add 47 = .ok (.ireturn, 1) := by decide +kernel
theorem dX8_meets_0 : decode cX8_meets 0 = .ok (.aload_n 0, 1) := by decide +kernel
theorem dX8_meets_1 : decode cX8_meets 1 = .ok (.getfield 14, 3) := by decide +kernel
theorem dX8_meets_4 : decode cX8_meets 4 = .ok (.invokevirtual 167, 3) := by decide +kernel
theorem dX8_meets_7 : decode cX8_meets 7 = .ok (.iload_n 1, 1) := by decide +kernel
theorem dX8_meets_8 : decode cX8_meets 8 = .ok (.if_icmp .eq 18, 3) := by decide +kernel
theorem dX8_meets_11 : decode cX8_meets 11 = .ok (.aload_n 0, 1) := by decide +kernel
theorem dX8_meets_12 : decode cX8_meets 12 = .ok (.iconst 1, 1) := by decide +kernel
theorem dX8_meets_13 : decode cX8_meets 13 = .ok (.aload_n 0, 1) := by decide +kernel
theorem dX8_meets_14 : decode cX8_meets 14 = .ok (.getfield 14, 3) := by decide +kernel
theorem dX8_meets_17 : decode cX8_meets 17 = .ok (.getfield 102, 3) := by decide +kernel
theorem dX8_meets_20 : decode cX8_meets 20 = .ok (.invokevirtual 194, 3) := by decide +kernel
theorem dX8_meets_23 : decode cX8_meets 23 = .ok (.ifCond .eq 7, 3) := by decide +kernel
theorem dX8_meets_26 : decode cX8_meets 26 = .ok (.iconst 1, 1) := by decide +kernel
theorem dX8_meets_27 : decode cX8_meets 27 = .ok (.goto 4, 3) := by decide +kernel
theorem dX8_meets_30 : decode cX8_meets 30 = .ok (.iconst 0, 1) := by decide +kernel
theorem dX8_meets_31 : decode cX8_meets 31 = .ok (.ireturn, 1) := by decide +kernel
theorem dX8_passes_0 : decode cX8_passes 0 = .ok (.aload_n 0, 1) := by decide +kernel
theorem dX8_passes_1 : decode cX8_passes 1 = .ok (.iload_n 1, 1) := by decide +kernel
theorem dX8_passes_2 : decode cX8_passes 2 = .ok (.invokevirtual 60, 3) := by decide +kernel
theorem dX8_passes_5 : decode cX8_passes 5 = .ok (.ifCond .ne 5, 3) := by decide +kernel
theorem dX8_passes_8 : decode cX8_passes 8 = .ok (.iconst 0, 1) := by decide +kernel
theorem dX8_passes_9 : decode cX8_passes 9 = .ok (.ireturn, 1) := by decide +kernel
theorem dX8_passes_10 : decode cX8_passes 10 = .ok (.aload_n 0, 1) := by decide +kernel
theorem dX8_passes_11 : decode cX8_passes 11 = .ok (.getfield 14, 3) := by decide +kernel
theorem dX8_passes_14 : decode cX8_passes 14 = .ok (.iconst 1, 1) := by decide +kernel
theorem dX8_passes_15 : decode cX8_passes 15 = .ok (.invokevirtual 103, 3) := by decide +kernel
theorem dX8_passes_18 : decode cX8_passes 18 = .ok (.iconst 1, 1) := by decide +kernel
theorem dX8_passes_19 : decode cX8_passes 19 = .ok (.ireturn, 1) := by decide +kernel
theorem dX8_refuseHere_0 : decode cX8_refuseHere 0 = .ok (.aload_n 0, 1) := by decide +kernel
theorem dX8_refuseHere_1 : decode cX8_refuseHere 1 = .ok (.iload_n 1, 1) := by decide +kernel
theorem dX8_refuseHere_2 : decode cX8_refuseHere 2 = .ok (.aload_n 0, 1) := by decide +kernel
theorem dX8_refuseHere_3 : decode cX8_refuseHere 3 = .ok (.getfield 14, 3) := by decide +kernel
theorem dX8_refuseHere_6 : decode cX8_refuseHere 6 = .ok (.getfield 102, 3) := by decide +kernel
theorem dX8_refuseHere_9 : decode cX8_refuseHere 9 = .ok (.invokevirtual 194, 3) := by decide +kernel
theorem dX8_refuseHere_12 : decode cX8_refuseHere 12 = .ok (.ireturn, 1) := by decide +kernel
theorem dX8_refuse_0 : decode cX8_refuse 0 = .ok (.aload_n 0, 1) := by decide +kernel
theorem dX8_refuse_1 : decode cX8_refuse 1 = .ok (.iload_n 1, 1) := by decide +kernel
theorem dX8_refuse_2 : decode cX8_refuse 2 = .ok (.putfield 53, 3) := by decide +kernel
theorem dX8_refuse_5 : decode cX8_refuse 5 = .ok (.aload_n 0, 1) := by decide +kernel
theorem dX8_refuse_6 : decode cX8_refuse 6 = .ok (.iload_n 2, 1) := by decide +kernel
theorem dX8_refuse_7 : decode cX8_refuse 7 = .ok (.putfield 27, 3) := by decide +kernel
theorem dX8_refuse_10 : decode cX8_refuse 10 = .ok (.iconst 0, 1) := by decide +kernel
theorem dX8_refuse_11 : decode cX8_refuse 11 = .ok (.ireturn, 1) := by decide +kernel
theorem dX9_init_0 : decode cX9_init 0 = .ok (.aload_n 0, 1) := by decide +kernel
theorem dX9_init_1 : decode cX9_init 1 = .ok (.invokespecial 3, 3) := by decide +kernel
theorem dX9_init_4 : decode cX9_init 4 = .ok (.aload_n 0, 1) := by decide +kernel
theorem dX9_init_5 : decode cX9_init 5 = .ok (.sipush 350, 3) := by decide +kernel
theorem dX9_init_8 : decode cX9_init 8 = .ok (.newarray .int, 2) := by decide +kernel
theorem dX9_init_10 : decode cX9_init 10 = .ok (.putfield 9, 3) := by decide +kernel
theorem dX9_init_13 : decode cX9_init 13 = .ok (.aload_n 0, 1) := by decide +kernel
theorem dX9_init_14 : decode cX9_init 14 = .ok (.sipush 350, 3) := by decide +kernel
theorem dX9_init_17 : decode cX9_init 17 = .ok (.newarray .int, 2) := by decide +kernel
theorem dX9_init_19 : decode cX9_init 19 = .ok (.putfield 15, 3) := by decide +kernel
theorem dX9_init_22 : decode cX9_init 22 = .ok (.return_, 1) := by decide +kernel
theorem dX9_start_0 : decode cX9_start 0 = .ok (.aload_n 0, 1) := by decide +kernel
theorem dX9_start_1 : decode cX9_start 1 = .ok (.aload_n 1, 1) := by decide +kernel
theorem dX9_start_2 : decode cX9_start 2 = .ok (.putfield 18, 3) := by decide +kernel
theorem dX9_start_5 : decode cX9_start 5 = .ok (.aload_n 0, 1) := by decide +kernel
theorem dX9_start_6 : decode cX9_start 6 = .ok (.iconst 0, 1) := by decide +kernel
theorem dX9_start_7 : decode cX9_start 7 = .ok (.putfield 22, 3) := by decide +kernel
theorem dX9_start_10 : decode cX9_start 10 = .ok (.aload_n 0, 1) := by decide +kernel
theorem dX9_start_11 : decode cX9_start 11 = .ok (.aload_n 0, 1) := by decide +kernel
theorem dX9_start_12 : decode cX9_start 12 = .ok (.invokevirtual 26, 3) := by decide +kernel
theorem dX9_start_15 : decode cX9_start 15 = .ok (.invokevirtual 30, 3) := by decide +kernel
theorem dX9_start_18 : decode cX9_start 18 = .ok (.return_, 1) := by decide +kernel
theorem dX9_addJoint_0 : decode cX9_addJoint 0 = .ok (.aload_n 0, 1) := by decide +kernel
theorem dX9_addJoint_1 : decode cX9_addJoint 1 = .ok (.getfield 22, 3) := by decide +kernel
theorem dX9_addJoint_4 : decode cX9_addJoint 4 = .ok (.istore_n 1, 1) := by decide +kernel
theorem dX9_addJoint_5 : decode cX9_addJoint 5 = .ok (.aload_n 0, 1) := by decide +kernel
theorem dX9_addJoint_6 : decode cX9_addJoint 6 = .ok (.getfield 9, 3) := by decide +kernel
theorem dX9_addJoint_9 : decode cX9_addJoint 9 = .ok (.iload_n 1, 1) := by decide +kernel
theorem dX9_addJoint_10 : decode cX9_addJoint 10 = .ok (.iconst (-1), 1) := by decide +kernel
theorem dX9_addJoint_11 : decode cX9_addJoint 11 = .ok (.iastore, 1) := by decide +kernel
theorem dX9_addJoint_12 : decode cX9_addJoint 12 = .ok (.aload_n 0, 1) := by decide +kernel
theorem dX9_addJoint_13 : decode cX9_addJoint 13 = .ok (.getfield 15, 3) := by decide +kernel
theorem dX9_addJoint_16 : decode cX9_addJoint 16 = .ok (.iload_n 1, 1) := by decide +kernel
theorem dX9_addJoint_17 : decode cX9_addJoint 17 = .ok (.iconst (-1), 1) := by decide +kernel
theorem dX9_addJoint_18 : decode cX9_addJoint 18 = .ok (.iastore, 1) := by decide +kernel
theorem dX9_addJoint_19 : decode cX9_addJoint 19 = .ok (.aload_n 0, 1) := by decide +kernel
theorem dX9_addJoint_20 : decode cX9_addJoint 20 = .ok (.dup, 1) := by decide +kernel
theorem dX9_addJoint_21 : decode cX9_addJoint 21 = .ok (.getfield 22, 3) := by decide +kernel
theorem dX9_addJoint_24 : decode cX9_addJoint 24 = .ok (.iconst 1, 1) := by decide +kernel
theorem dX9_addJoint_25 : decode cX9_addJoint 25 = .ok (.iadd, 1) := by decide +kernel
theorem dX9_addJoint_26 : decode cX9_addJoint 26 = .ok (.putfield 22, 3) := by decide +kernel
theorem dX9_addJoint_29 : decode cX9_addJoint 29 = .ok (.iload_n 1, 1) := by decide +kernel
theorem dX9_addJoint_30 : decode cX9_addJoint 30 = .ok (.ireturn, 1) := by decide +kernel
theorem dX9_standAt_0 : decode cX9_standAt 0 = .ok (.aload_n 0, 1) := by decide +kernel
theorem dX9_standAt_1 : decode cX9_standAt 1 = .ok (.iload_n 1, 1) := by decide +kernel
theorem dX9_standAt_2 : decode cX9_standAt 2 = .ok (.putfield 34, 3) := by decide +kernel
theorem dX9_standAt_5 : decode cX9_standAt 5 = .ok (.aload_n 0, 1) := by decide +kernel
theorem dX9_standAt_6 : decode cX9_standAt 6 = .ok (.aconst_null, 1) := by decide +kernel
theorem dX9_standAt_7 : decode cX9_standAt 7 = .ok (.putfield 37, 3) := by decide +kernel
theorem dX9_standAt_10 : decode cX9_standAt 10 = .ok (.return_, 1) := by decide +kernel
theorem dX9_openBlock_0 : decode cX9_openBlock 0 = .ok (.aload_n 0, 1) := by decide +kernel
theorem dX9_openBlock_1 : decode cX9_openBlock 1 = .ok (.getfield 37, 3) := by decide +kernel
theorem dX9_openBlock_4 : decode cX9_openBlock 4 = .ok (.ifnonnull 30, 3) := by decide +kernel
theorem dX9_openBlock_7 : decode cX9_openBlock 7 = .ok (.aload_n 0, 1) := by decide +kernel
theorem dX9_openBlock_8 : decode cX9_openBlock 8 = .ok (.getfield 9, 3) := by decide +kernel
theorem dX9_openBlock_11 : decode cX9_openBlock 11 = .ok (.aload_n 0, 1) := by decide +kernel
theorem dX9_openBlock_12 : decode cX9_openBlock 12 = .ok (.getfield 34, 3) := by decide +kernel
theorem dX9_openBlock_15 : decode cX9_openBlock 15 = .ok (.aload_n 0, 1) := by decide +kernel
theorem dX9_openBlock_16 : decode cX9_openBlock 16 = .ok (.getfield 18, 3) := by decide +kernel
theorem dX9_openBlock_19 : decode cX9_openBlock 19 = .ok (.getfield 41, 3) := by decide +kernel
theorem dX9_openBlock_22 : decode cX9_openBlock 22 = .ok (.iastore, 1) := by decide +kernel
theorem dX9_openBlock_23 : decode cX9_openBlock 23 = .ok (.aload_n 0, 1) := by decide +kernel
theorem dX9_openBlock_24 : decode cX9_openBlock 24 = .ok (.aload_n 0, 1) := by decide +kernel
theorem dX9_openBlock_25 : decode cX9_openBlock 25 = .ok (.getfield 18, 3) := by decide +kernel
theorem dX9_openBlock_28 : decode cX9_openBlock 28 = .ok (.invokevirtual 46, 3) := by decide +kernel
theorem dX9_openBlock_31 : decode cX9_openBlock 31 = .ok (.putfield 37, 3) := by decide +kernel
theorem dX9_openBlock_34 : decode cX9_openBlock 34 = .ok (.return_, 1) := by decide +kernel
theorem dX9_choose_0 : decode cX9_choose 0 = .ok (.aload_n 0, 1) := by decide +kernel
theorem dX9_choose_1 : decode cX9_choose 1 = .ok (.getfield 37, 3) := by decide +kernel
theorem dX9_choose_4 : decode cX9_choose 4 = .ok (.ifnull 35, 3) := by decide +kernel
theorem dX9_choose_7 : decode cX9_choose 7 = .ok (.aload_n 0, 1) := by decide +kernel
theorem dX9_choose_8 : decode cX9_choose 8 = .ok (.getfield 37, 3) := by decide +kernel
theorem dX9_choose_11 : decode cX9_choose 11 = .ok (.iconst 1, 1) := by decide +kernel
theorem dX9_choose_12 : decode cX9_choose 12 = .ok (.putfield 50, 3) := by decide +kernel
theorem dX9_choose_15 : decode cX9_choose 15 = .ok (.aload_n 0, 1) := by decide +kernel
theorem dX9_choose_16 : decode cX9_choose 16 = .ok (.getfield 37, 3) := by decide +kernel
theorem dX9_choose_19 : decode cX9_choose 19 = .ok (.iload_n 1, 1) := by decide +kernel
theorem dX9_choose_20 : decode cX9_choose 20 = .ok (.putfield 56, 3) := by decide +kernel
theorem dX9_choose_23 : decode cX9_choose 23 = .ok (.aload_n 0, 1) := by decide +kernel
theorem dX9_choose_24 : decode cX9_choose 24 = .ok (.getfield 37, 3) := by decide +kernel
theorem dX9_choose_27 : decode cX9_choose 27 = .ok (.iload_n 2, 1) := by decide +kernel
theorem dX9_choose_28 : decode cX9_choose 28 = .ok (.putfield 59, 3) := by decide +kernel
theorem dX9_choose_31 : decode cX9_choose 31 = .ok (.aload_n 0, 1) := by decide +kernel
theorem dX9_choose_32 : decode cX9_choose 32 = .ok (.getfield 37, 3) := by decide +kernel
theorem dX9_choose_35 : decode cX9_choose 35 = .ok (.iload_n 3, 1) := by decide +kernel
theorem dX9_choose_36 : decode cX9_choose 36 = .ok (.putfield 62, 3) := by decide +kernel
theorem dX9_choose_39 : decode cX9_choose 39 = .ok (.return_, 1) := by decide +kernel
theorem dX9_goTo_0 : decode cX9_goTo 0 = .ok (.aload_n 0, 1) := by decide +kernel
theorem dX9_goTo_1 : decode cX9_goTo 1 = .ok (.getfield 37, 3) := by decide +kernel
theorem dX9_goTo_4 : decode cX9_goTo 4 = .ok (.ifnonnull 16, 3) := by decide +kernel
theorem dX9_goTo_7 : decode cX9_goTo 7 = .ok (.aload_n 0, 1) := by decide +kernel
theorem dX9_goTo_8 : decode cX9_goTo 8 = .ok (.getfield 15, 3) := by decide +kernel
theorem dX9_goTo_11 : decode cX9_goTo 11 = .ok (.aload_n 0, 1) := by decide +kernel
theorem dX9_goTo_12 : decode cX9_goTo 12 = .ok (.getfield 34, 3) := by decide +kernel
theorem dX9_goTo_15 : decode cX9_goTo 15 = .ok (.iload_n 1, 1) := by decide +kernel
theorem dX9_goTo_16 : decode cX9_goTo 16 = .ok (.iastore, 1) := by decide +kernel
theorem dX9_goTo_17 : decode cX9_goTo 17 = .ok (.goto 11, 3) := by decide +kernel
theorem dX9_goTo_20 : decode cX9_goTo 20 = .ok (.aload_n 0, 1) := by decide +kernel
theorem dX9_goTo_21 : decode cX9_goTo 21 = .ok (.getfield 37, 3) := by decide +kernel
theorem dX9_goTo_24 : decode cX9_goTo 24 = .ok (.iload_n 1, 1) := by decide +kernel
theorem dX9_goTo_25 : decode cX9_goTo 25 = .ok (.putfield 59, 3) := by decide +kernel
theorem dX9_goTo_28 : decode cX9_goTo 28 = .ok (.return_, 1) := by decide +kernel
theorem dX9_settle_0 : decode cX9_settle 0 = .ok (.iconst 0, 1) := by decide +kernel
theorem dX9_settle_1 : decode cX9_settle 1 = .ok (.istore_n 1, 1) := by decide +kernel
theorem dX9_settle_2 : decode cX9_settle 2 = .ok (.iload_n 1, 1) := by decide +kernel
theorem dX9_settle_3 : decode cX9_settle 3 = .ok (.aload_n 0, 1) := by decide +kernel
theorem dX9_settle_4 : decode cX9_settle 4 = .ok (.getfield 18, 3) := by decide +kernel
theorem dX9_settle_7 : decode cX9_settle 7 = .ok (.getfield 41, 3) := by decide +kernel
theorem dX9_settle_10 : decode cX9_settle 10 = .ok (.if_icmp .ge 43, 3) := by decide +kernel
theorem dX9_settle_13 : decode cX9_settle 13 = .ok (.aload_n 0, 1) := by decide +kernel
theorem dX9_settle_14 : decode cX9_settle 14 = .ok (.getfield 18, 3) := by decide +kernel
theorem dX9_settle_17 : decode cX9_settle 17 = .ok (.getfield 65, 3) := by decide +kernel
theorem dX9_settle_20 : decode cX9_settle 20 = .ok (.iload_n 1, 1) := by decide +kernel
theorem dX9_settle_21 : decode cX9_settle 21 = .ok (.aaload, 1) := by decide +kernel
theorem dX9_settle_22 : decode cX9_settle 22 = .ok (.astore_n 2, 1) := by decide +kernel
theorem dX9_settle_23 : decode cX9_settle 23 = .ok (.aload_n 2, 1) := by decide +kernel
theorem dX9_settle_24 : decode cX9_settle 24 = .ok (.aload_n 0, 1) := by decide +kernel
theorem dX9_settle_25 : decode cX9_settle 25 = .ok (.aload_n 2, 1) := by decide +kernel
theorem dX9_settle_26 : decode cX9_settle 26 = .ok (.getfield 59, 3) := by decide +kernel
theorem dX9_settle_29 : decode cX9_settle 29 = .ok (.invokevirtual 69, 3) := by decide +kernel
theorem dX9_settle_32 : decode cX9_settle 32 = .ok (.putfield 59, 3) := by decide +kernel
theorem dX9_settle_35 : decode cX9_settle 35 = .ok (.aload_n 2, 1) := by decide +kernel
theorem dX9_settle_36 : decode cX9_settle 36 = .ok (.aload_n 0, 1) := by decide +kernel
theorem dX9_settle_37 : decode cX9_settle 37 = .ok (.aload_n 2, 1) := by decide +kernel
theorem dX9_settle_38 : decode cX9_settle 38 = .ok (.getfield 62, 3) := by decide +kernel
theorem dX9_settle_41 : decode cX9_settle 41 = .ok (.invokevirtual 69, 3) := by decide +kernel
theorem dX9_settle_44 : decode cX9_settle 44 = .ok (.putfield 62, 3) := by decide +kernel
theorem dX9_settle_47 : decode cX9_settle 47 = .ok (.iinc 1 1, 3) := by decide +kernel
theorem dX9_settle_50 : decode cX9_settle 50 = .ok (.goto (-48), 3) := by decide +kernel
theorem dX9_settle_53 : decode cX9_settle 53 = .ok (.return_, 1) := by decide +kernel
theorem dX9_blockFrom_0 : decode cX9_blockFrom 0 = .ok (.iload_n 1, 1) := by decide +kernel
theorem dX9_blockFrom_1 : decode cX9_blockFrom 1 = .ok (.istore_n 2, 1) := by decide +kernel
theorem dX9_blockFrom_2 : decode cX9_blockFrom 2 = .ok (.iconst 0, 1) := by decide +kernel
theorem dX9_blockFrom_3 : decode cX9_blockFrom 3 = .ok (.istore_n 3, 1) := by decide +kernel
theorem dX9_blockFrom_4 : decode cX9_blockFrom 4 = .ok (.iload_n 3, 1) := by decide +kernel
theorem dX9_blockFrom_5 : decode cX9_blockFrom 5 = .ok (.aload_n 0, 1) := by decide +kernel
theorem dX9_blockFrom_6 : decode cX9_blockFrom 6 = .ok (.getfield 22, 3) := by decide +kernel
theorem dX9_blockFrom_9 : decode cX9_blockFrom 9 = .ok (.if_icmp .ge 38, 3) := by decide +kernel
theorem dX9_blockFrom_12 : decode cX9_blockFrom 12 = .ok (.iload_n 2, 1) := by decide +kernel
theorem dX9_blockFrom_13 : decode cX9_blockFrom 13 = .ok (.iconst (-1), 1) := by decide +kernel
theorem dX9_blockFrom_14 : decode cX9_blockFrom 14 = .ok (.if_icmp .eq 33, 3) := by decide +kernel
theorem dX9_blockFrom_17 : decode cX9_blockFrom 17 = .ok (.aload_n 0, 1) := by decide +kernel
theorem dX9_blockFrom_18 : decode cX9_blockFrom 18 = .ok (.getfield 9, 3) := by decide +kernel
theorem dX9_blockFrom_21 : decode cX9_blockFrom 21 = .ok (.iload_n 2, 1) := by decide +kernel
theorem dX9_blockFrom_22 : decode cX9_blockFrom 22 = .ok (.iaload, 1) := by decide +kernel
theorem dX9_blockFrom_23 : decode cX9_blockFrom 23 = .ok (.iconst (-1), 1) := by decide +kernel
theorem dX9_blockFrom_24 : decode cX9_blockFrom 24 = .ok (.if_icmp .eq 10, 3) := by decide +kernel
theorem dX9_blockFrom_27 : decode cX9_blockFrom 27 = .ok (.aload_n 0, 1) := by decide +kernel
theorem dX9_blockFrom_28 : decode cX9_blockFrom 28 = .ok (.getfield 9, 3) := by decide +kernel
theorem dX9_blockFrom_31 : decode cX9_blockFrom 31 = .ok (.iload_n 2, 1) := by decide +kernel
theorem dX9_blockFrom_32 : decode cX9_blockFrom 32 = .ok (.iaload, 1) := by decide +kernel
theorem dX9_blockFrom_33 : decode cX9_blockFrom 33 = .ok (.ireturn, 1) := by decide +kernel
theorem dX9_blockFrom_34 : decode cX9_blockFrom 34 = .ok (.aload_n 0, 1) := by decide +kernel
theorem dX9_blockFrom_35 : decode cX9_blockFrom 35 = .ok (.getfield 15, 3) := by decide +kernel
theorem dX9_blockFrom_38 : decode cX9_blockFrom 38 = .ok (.iload_n 2, 1) := by decide +kernel
theorem dX9_blockFrom_39 : decode cX9_blockFrom 39 = .ok (.iaload, 1) := by decide +kernel
theorem dX9_blockFrom_40 : decode cX9_blockFrom 40 = .ok (.istore_n 2, 1) := by decide +kernel
theorem dX9_blockFrom_41 : decode cX9_blockFrom 41 = .ok (.iinc 3 1, 3) := by decide +kernel
theorem dX9_blockFrom_44 : decode cX9_blockFrom 44 = .ok (.goto (-40), 3) := by decide +kernel
theorem dX9_blockFrom_47 : decode cX9_blockFrom 47 = .ok (.iconst (-1), 1) := by decide +kernel
theorem dX9_blockFrom_48 : decode cX9_blockFrom 48 = .ok (.ireturn, 1) := by decide +kernel
theorem dX10_init_0 : decode cX10_init 0 = .ok (.aload_n 0, 1) := by decide +kernel
theorem dX10_init_1 : decode cX10_init 1 = .ok (.invokespecial 3, 3) := by decide +kernel
theorem dX10_init_4 : decode cX10_init 4 = .ok (.aload_n 0, 1) := by decide +kernel
theorem dX10_init_5 : decode cX10_init 5 = .ok (.new 9, 3) := by decide +kernel
theorem dX10_init_8 : decode cX10_init 8 = .ok (.dup, 1) := by decide +kernel
theorem dX10_init_9 : decode cX10_init 9 = .ok (.invokespecial 11, 3) := by decide +kernel
theorem dX10_init_12 : decode cX10_init 12 = .ok (.putfield 12, 3) := by decide +kernel
theorem dX10_init_15 : decode cX10_init 15 = .ok (.aload_n 0, 1) := by decide +kernel
theorem dX10_init_16 : decode cX10_init 16 = .ok (.new 16, 3) := by decide +kernel
theorem dX10_init_19 : decode cX10_init 19 = .ok (.dup, 1) := by decide +kernel
theorem dX10_init_20 : decode cX10_init 20 = .ok (.aload_n 0, 1) := by decide +kernel
theorem dX10_init_21 : decode cX10_init 21 = .ok (.getfield 12, 3) := by decide +kernel
theorem dX10_init_24 : decode cX10_init 24 = .ok (.invokespecial 18, 3) := by decide +kernel
theorem dX10_init_27 : decode cX10_init 27 = .ok (.putfield 21, 3) := by decide +kernel
theorem dX10_init_30 : decode cX10_init 30 = .ok (.aload_n 0, 1) := by decide +kernel
theorem dX10_init_31 : decode cX10_init 31 = .ok (.new 25, 3) := by decide +kernel
theorem dX10_init_34 : decode cX10_init 34 = .ok (.dup, 1) := by decide +kernel
theorem dX10_init_35 : decode cX10_init 35 = .ok (.invokespecial 27, 3) := by decide +kernel
theorem dX10_init_38 : decode cX10_init 38 = .ok (.putfield 28, 3) := by decide +kernel
theorem dX10_init_41 : decode cX10_init 41 = .ok (.aload_n 0, 1) := by decide +kernel
theorem dX10_init_42 : decode cX10_init 42 = .ok (.new 32, 3) := by decide +kernel
theorem dX10_init_45 : decode cX10_init 45 = .ok (.dup, 1) := by decide +kernel
theorem dX10_init_46 : decode cX10_init 46 = .ok (.invokespecial 34, 3) := by decide +kernel
theorem dX10_init_49 : decode cX10_init 49 = .ok (.putfield 35, 3) := by decide +kernel
theorem dX10_init_52 : decode cX10_init 52 = .ok (.aload_n 0, 1) := by decide +kernel
theorem dX10_init_53 : decode cX10_init 53 = .ok (.new 39, 3) := by decide +kernel
theorem dX10_init_56 : decode cX10_init 56 = .ok (.dup, 1) := by decide +kernel
theorem dX10_init_57 : decode cX10_init 57 = .ok (.invokespecial 41, 3) := by decide +kernel
theorem dX10_init_60 : decode cX10_init 60 = .ok (.putfield 42, 3) := by decide +kernel
theorem dX10_init_63 : decode cX10_init 63 = .ok (.aload_n 0, 1) := by decide +kernel
theorem dX10_init_64 : decode cX10_init 64 = .ok (.new 39, 3) := by decide +kernel
theorem dX10_init_67 : decode cX10_init 67 = .ok (.dup, 1) := by decide +kernel
theorem dX10_init_68 : decode cX10_init 68 = .ok (.invokespecial 41, 3) := by decide +kernel
theorem dX10_init_71 : decode cX10_init 71 = .ok (.putfield 46, 3) := by decide +kernel
theorem dX10_init_74 : decode cX10_init 74 = .ok (.aload_n 0, 1) := by decide +kernel
theorem dX10_init_75 : decode cX10_init 75 = .ok (.getfield 35, 3) := by decide +kernel
theorem dX10_init_78 : decode cX10_init 78 = .ok (.aload_n 0, 1) := by decide +kernel
theorem dX10_init_79 : decode cX10_init 79 = .ok (.getfield 42, 3) := by decide +kernel
theorem dX10_init_82 : decode cX10_init 82 = .ok (.invokevirtual 49, 3) := by decide +kernel
theorem dX10_init_85 : decode cX10_init 85 = .ok (.return_, 1) := by decide +kernel
theorem dX10_feed_0 : decode cX10_feed 0 = .ok (.iload_n 1, 1) := by decide +kernel
theorem dX10_feed_1 : decode cX10_feed 1 = .ok (.iconst 1, 1) := by decide +kernel
theorem dX10_feed_2 : decode cX10_feed 2 = .ok (.if_icmp .lt 9, 3) := by decide +kernel
theorem dX10_feed_5 : decode cX10_feed 5 = .ok (.iload_n 1, 1) := by decide +kernel
theorem dX10_feed_6 : decode cX10_feed 6 = .ok (.bipush 8, 2) := by decide +kernel
theorem dX10_feed_8 : decode cX10_feed 8 = .ok (.if_icmp .le 11, 3) := by decide +kernel
theorem dX10_feed_11 : decode cX10_feed 11 = .ok (.new 53, 3) := by decide +kernel
theorem dX10_feed_14 : decode cX10_feed 14 = .ok (.dup, 1) := by decide +kernel
theorem dX10_feed_15 : decode cX10_feed 15 = .ok (.invokespecial 55, 3) := by decide +kernel
theorem dX10_feed_18 : decode cX10_feed 18 = .ok (.athrow, 1) := by decide +kernel
theorem dX10_feed_19 : decode cX10_feed 19 = .ok (.aload_n 0, 1) := by decide +kernel
theorem dX10_feed_20 : decode cX10_feed 20 = .ok (.getfield 12, 3) := by decide +kernel
theorem dX10_feed_23 : decode cX10_feed 23 = .ok (.iload_n 1, 1) := by decide +kernel
theorem dX10_feed_24 : decode cX10_feed 24 = .ok (.lload_n 2, 1) := by decide +kernel
theorem dX10_feed_25 : decode cX10_feed 25 = .ok (.invokevirtual 56, 3) := by decide +kernel
theorem dX10_feed_28 : decode cX10_feed 28 = .ok (.ifCond .eq 13, 3) := by decide +kernel
theorem dX10_feed_31 : decode cX10_feed 31 = .ok (.aload_n 0, 1) := by decide +kernel
theorem dX10_feed_32 : decode cX10_feed 32 = .ok (.getfield 12, 3) := by decide +kernel
theorem dX10_feed_35 : decode cX10_feed 35 = .ok (.getfield 60, 3) := by decide +kernel
theorem dX10_feed_38 : decode cX10_feed 38 = .ok (.goto 4, 3) := by decide +kernel
theorem dX10_feed_41 : decode cX10_feed 41 = .ok (.iconst (-1), 1) := by decide +kernel
theorem dX10_feed_42 : decode cX10_feed 42 = .ok (.ireturn, 1) := by decide +kernel
theorem dX10_wipe_0 : decode cX10_wipe 0 = .ok (.aload_n 0, 1) := by decide +kernel
theorem dX10_wipe_1 : decode cX10_wipe 1 = .ok (.getfield 12, 3) := by decide +kernel
theorem dX10_wipe_4 : decode cX10_wipe 4 = .ok (.invokevirtual 64, 3) := by decide +kernel
theorem dX10_wipe_7 : decode cX10_wipe 7 = .ok (.ireturn, 1) := by decide +kernel
theorem dX10_units_0 : decode cX10_units 0 = .ok (.iload_n 1, 1) := by decide +kernel
theorem dX10_units_1 : decode cX10_units 1 = .ok (.iload_n 2, 1) := by decide +kernel
theorem dX10_units_2 : decode cX10_units 2 = .ok (.iload_n 3, 1) := by decide +kernel
theorem dX10_units_3 : decode cX10_units 3 = .ok (.invokestatic 68, 3) := by decide +kernel
theorem dX10_units_6 : decode cX10_units 6 = .ok (.ifCond .ne 11, 3) := by decide +kernel
theorem dX10_units_9 : decode cX10_units 9 = .ok (.new 53, 3) := by decide +kernel
theorem dX10_units_12 : decode cX10_units 12 = .ok (.dup, 1) := by decide +kernel
theorem dX10_units_13 : decode cX10_units 13 = .ok (.invokespecial 55, 3) := by decide +kernel
theorem dX10_units_16 : decode cX10_units 16 = .ok (.athrow, 1) := by decide +kernel
theorem dX10_units_17 : decode cX10_units 17 = .ok (.aload_n 0, 1) := by decide +kernel
theorem dX10_units_18 : decode cX10_units 18 = .ok (.getfield 28, 3) := by decide +kernel
theorem dX10_units_21 : decode cX10_units 21 = .ok (.iload_n 1, 1) := by decide +kernel
theorem dX10_units_22 : decode cX10_units 22 = .ok (.iload_n 2, 1) := by decide +kernel
theorem dX10_units_23 : decode cX10_units 23 = .ok (.iload_n 3, 1) := by decide +kernel
theorem dX10_units_24 : decode cX10_units 24 = .ok (.invokevirtual 72, 3) := by decide +kernel
theorem dX10_units_27 : decode cX10_units 27 = .ok (.aload_n 0, 1) := by decide +kernel
theorem dX10_units_28 : decode cX10_units 28 = .ok (.getfield 28, 3) := by decide +kernel
theorem dX10_units_31 : decode cX10_units 31 = .ok (.aload_n 0, 1) := by decide +kernel
theorem dX10_units_32 : decode cX10_units 32 = .ok (.getfield 42, 3) := by decide +kernel
theorem dX10_units_35 : decode cX10_units 35 = .ok (.invokevirtual 76, 3) := by decide +kernel
theorem dX10_units_38 : decode cX10_units 38 = .ok (.aload_n 0, 1) := by decide +kernel
theorem dX10_units_39 : decode cX10_units 39 = .ok (.getfield 35, 3) := by decide +kernel
theorem dX10_units_42 : decode cX10_units 42 = .ok (.aload_n 0, 1) := by decide +kernel
theorem dX10_units_43 : decode cX10_units 43 = .ok (.getfield 42, 3) := by decide +kernel
theorem dX10_units_46 : decode cX10_units 46 = .ok (.invokevirtual 49, 3) := by decide +kernel
theorem dX10_units_49 : decode cX10_units 49 = .ok (.return_, 1) := by decide +kernel
theorem dX10_compile_0 : decode cX10_compile 0 = .ok (.aload_n 0, 1) := by decide +kernel
theorem dX10_compile_1 : decode cX10_compile 1 = .ok (.getfield 21, 3) := by decide +kernel
theorem dX10_compile_4 : decode cX10_compile 4 = .ok (.aload_n 0, 1) := by decide +kernel
theorem dX10_compile_5 : decode cX10_compile 5 = .ok (.getfield 46, 3) := by decide +kernel
theorem dX10_compile_8 : decode cX10_compile 8 = .ok (.invokevirtual 79, 3) := by decide +kernel
theorem dX10_compile_11 : decode cX10_compile 11 = .ok (.ifCond .ne 5, 3) := by decide +kernel
theorem dX10_compile_14 : decode cX10_compile 14 = .ok (.iconst (-1), 1) := by decide +kernel
theorem dX10_compile_15 : decode cX10_compile 15 = .ok (.ireturn, 1) := by decide +kernel
theorem dX10_compile_16 : decode cX10_compile 16 = .ok (.aload_n 0, 1) := by decide +kernel
theorem dX10_compile_17 : decode cX10_compile 17 = .ok (.getfield 42, 3) := by decide +kernel
theorem dX10_compile_20 : decode cX10_compile 20 = .ok (.astore_n 1, 1) := by decide +kernel
theorem dX10_compile_21 : decode cX10_compile 21 = .ok (.aload_n 0, 1) := by decide +kernel
theorem dX10_compile_22 : decode cX10_compile 22 = .ok (.aload_n 0, 1) := by decide +kernel
theorem dX10_compile_23 : decode cX10_compile 23 = .ok (.getfield 46, 3) := by decide +kernel
theorem dX10_compile_26 : decode cX10_compile 26 = .ok (.putfield 42, 3) := by decide +kernel
theorem dX10_compile_29 : decode cX10_compile 29 = .ok (.aload_n 0, 1) := by decide +kernel
theorem dX10_compile_30 : decode cX10_compile 30 = .ok (.aload_n 1, 1) := by decide +kernel
theorem dX10_compile_31 : decode cX10_compile 31 = .ok (.putfield 46, 3) := by decide +kernel
theorem dX10_compile_34 : decode cX10_compile 34 = .ok (.aload_n 0, 1) := by decide +kernel
theorem dX10_compile_35 : decode cX10_compile 35 = .ok (.getfield 28, 3) := by decide +kernel
theorem dX10_compile_38 : decode cX10_compile 38 = .ok (.aload_n 0, 1) := by decide +kernel
theorem dX10_compile_39 : decode cX10_compile 39 = .ok (.getfield 42, 3) := by decide +kernel
theorem dX10_compile_42 : decode cX10_compile 42 = .ok (.invokevirtual 76, 3) := by decide +kernel
theorem dX10_compile_45 : decode cX10_compile 45 = .ok (.aload_n 0, 1) := by decide +kernel
theorem dX10_compile_46 : decode cX10_compile 46 = .ok (.getfield 35, 3) := by decide +kernel
theorem dX10_compile_49 : decode cX10_compile 49 = .ok (.aload_n 0, 1) := by decide +kernel
theorem dX10_compile_50 : decode cX10_compile 50 = .ok (.getfield 42, 3) := by decide +kernel
theorem dX10_compile_53 : decode cX10_compile 53 = .ok (.invokevirtual 49, 3) := by decide +kernel
theorem dX10_compile_56 : decode cX10_compile 56 = .ok (.aload_n 0, 1) := by decide +kernel
theorem dX10_compile_57 : decode cX10_compile 57 = .ok (.getfield 42, 3) := by decide +kernel
theorem dX10_compile_60 : decode cX10_compile 60 = .ok (.getfield 83, 3) := by decide +kernel
theorem dX10_compile_63 : decode cX10_compile 63 = .ok (.ireturn, 1) := by decide +kernel
theorem dX10_fault_0 : decode cX10_fault 0 = .ok (.aload_n 0, 1) := by decide +kernel
theorem dX10_fault_1 : decode cX10_fault 1 = .ok (.getfield 21, 3) := by decide +kernel
theorem dX10_fault_4 : decode cX10_fault 4 = .ok (.getfield 86, 3) := by decide +kernel
theorem dX10_fault_7 : decode cX10_fault 7 = .ok (.ireturn, 1) := by decide +kernel
theorem dX10_place_0 : decode cX10_place 0 = .ok (.aload_n 0, 1) := by decide +kernel
theorem dX10_place_1 : decode cX10_place 1 = .ok (.getfield 21, 3) := by decide +kernel
theorem dX10_place_4 : decode cX10_place 4 = .ok (.getfield 89, 3) := by decide +kernel
theorem dX10_place_7 : decode cX10_place 7 = .ok (.ireturn, 1) := by decide +kernel
theorem dX10_told_0 : decode cX10_told 0 = .ok (.iload_n 1, 1) := by decide +kernel
theorem dX10_told_1 : decode cX10_told 1 = .ok (.tableswitch 78 0 6 #[43, 51, 59, 67, 67, 67, 67], 43) := by decide +kernel
theorem dX10_told_44 : decode cX10_told 44 = .ok (.aload_n 0, 1) := by decide +kernel
theorem dX10_told_45 : decode cX10_told 45 = .ok (.getfield 42, 3) := by decide +kernel
theorem dX10_told_48 : decode cX10_told 48 = .ok (.getfield 92, 3) := by decide +kernel
theorem dX10_told_51 : decode cX10_told 51 = .ok (.ireturn, 1) := by decide +kernel
theorem dX10_told_52 : decode cX10_told 52 = .ok (.aload_n 0, 1) := by decide +kernel
theorem dX10_told_53 : decode cX10_told 53 = .ok (.getfield 42, 3) := by decide +kernel
theorem dX10_told_56 : decode cX10_told 56 = .ok (.invokevirtual 95, 3) := by decide +kernel
theorem dX10_told_59 : decode cX10_told 59 = .ok (.ireturn, 1) := by decide +kernel
theorem dX10_told_60 : decode cX10_told 60 = .ok (.aload_n 0, 1) := by decide +kernel
theorem dX10_told_61 : decode cX10_told 61 = .ok (.getfield 42, 3) := by decide +kernel
theorem dX10_told_64 : decode cX10_told 64 = .ok (.invokevirtual 98, 3) := by decide +kernel
theorem dX10_told_67 : decode cX10_told 67 = .ok (.ireturn, 1) := by decide +kernel
theorem dX10_told_68 : decode cX10_told 68 = .ok (.aload_n 0, 1) := by decide +kernel
theorem dX10_told_69 : decode cX10_told 69 = .ok (.getfield 42, 3) := by decide +kernel
theorem dX10_told_72 : decode cX10_told 72 = .ok (.iload_n 1, 1) := by decide +kernel
theorem dX10_told_73 : decode cX10_told 73 = .ok (.iconst 3, 1) := by decide +kernel
theorem dX10_told_74 : decode cX10_told 74 = .ok (.isub, 1) := by decide +kernel
theorem dX10_told_75 : decode cX10_told 75 = .ok (.invokevirtual 101, 3) := by decide +kernel
theorem dX10_told_78 : decode cX10_told 78 = .ok (.ireturn, 1) := by decide +kernel
theorem dX10_told_79 : decode cX10_told 79 = .ok (.new 53, 3) := by decide +kernel
theorem dX10_told_82 : decode cX10_told 82 = .ok (.dup, 1) := by decide +kernel
theorem dX10_told_83 : decode cX10_told 83 = .ok (.invokespecial 55, 3) := by decide +kernel
theorem dX10_told_86 : decode cX10_told 86 = .ok (.athrow, 1) := by decide +kernel
theorem dX10_block_0 : decode cX10_block 0 = .ok (.iload_n 1, 1) := by decide +kernel
theorem dX10_block_1 : decode cX10_block 1 = .ok (.ifCond .lt 14, 3) := by decide +kernel
theorem dX10_block_4 : decode cX10_block 4 = .ok (.iload_n 1, 1) := by decide +kernel
theorem dX10_block_5 : decode cX10_block 5 = .ok (.aload_n 0, 1) := by decide +kernel
theorem dX10_block_6 : decode cX10_block 6 = .ok (.getfield 42, 3) := by decide +kernel
theorem dX10_block_9 : decode cX10_block 9 = .ok (.getfield 92, 3) := by decide +kernel
theorem dX10_block_12 : decode cX10_block 12 = .ok (.if_icmp .lt 11, 3) := by decide +kernel
theorem dX10_block_15 : decode cX10_block 15 = .ok (.new 105, 3) := by decide +kernel
theorem dX10_block_18 : decode cX10_block 18 = .ok (.dup, 1) := by decide +kernel
theorem dX10_block_19 : decode cX10_block 19 = .ok (.invokespecial 107, 3) := by decide +kernel
theorem dX10_block_22 : decode cX10_block 22 = .ok (.athrow, 1) := by decide +kernel
theorem dX10_block_23 : decode cX10_block 23 = .ok (.aload_n 0, 1) := by decide +kernel
theorem dX10_block_24 : decode cX10_block 24 = .ok (.getfield 42, 3) := by decide +kernel
theorem dX10_block_27 : decode cX10_block 27 = .ok (.getfield 108, 3) := by decide +kernel
theorem dX10_block_30 : decode cX10_block 30 = .ok (.iload_n 1, 1) := by decide +kernel
theorem dX10_block_31 : decode cX10_block 31 = .ok (.aaload, 1) := by decide +kernel
theorem dX10_block_32 : decode cX10_block 32 = .ok (.astore_n 3, 1) := by decide +kernel
theorem dX10_block_33 : decode cX10_block 33 = .ok (.iload_n 2, 1) := by decide +kernel
theorem dX10_block_34 : decode cX10_block 34 = .ok (.tableswitch 70 0 4 #[34, 39, 55, 60, 65], 34) := by decide +kernel
theorem dX10_block_68 : decode cX10_block 68 = .ok (.aload_n 3, 1) := by decide +kernel
theorem dX10_block_69 : decode cX10_block 69 = .ok (.getfield 112, 3) := by decide +kernel
theorem dX10_block_72 : decode cX10_block 72 = .ok (.ireturn, 1) := by decide +kernel
theorem dX10_block_73 : decode cX10_block 73 = .ok (.aload_n 3, 1) := by decide +kernel
theorem dX10_block_74 : decode cX10_block 74 = .ok (.getfield 117, 3) := by decide +kernel
theorem dX10_block_77 : decode cX10_block 77 = .ok (.ifCond .ne 7, 3) := by decide +kernel
theorem dX10_block_80 : decode cX10_block 80 = .ok (.iconst (-1), 1) := by decide +kernel
theorem dX10_block_81 : decode cX10_block 81 = .ok (.goto 7, 3) := by decide +kernel
theorem dX10_block_84 : decode cX10_block 84 = .ok (.aload_n 3, 1) := by decide +kernel
theorem dX10_block_85 : decode cX10_block 85 = .ok (.getfield 120, 3) := by decide +kernel
theorem dX10_block_88 : decode cX10_block 88 = .ok (.ireturn, 1) := by decide +kernel
theorem dX10_block_89 : decode cX10_block 89 = .ok (.aload_n 3, 1) := by decide +kernel
theorem dX10_block_90 : decode cX10_block 90 = .ok (.getfield 117, 3) := by decide +kernel
theorem dX10_block_93 : decode cX10_block 93 = .ok (.ireturn, 1) := by decide +kernel
theorem dX10_block_94 : decode cX10_block 94 = .ok (.aload_n 3, 1) := by decide +kernel
theorem dX10_block_95 : decode cX10_block 95 = .ok (.getfield 123, 3) := by decide +kernel
theorem dX10_block_98 : decode cX10_block 98 = .ok (.ireturn, 1) := by decide +kernel
theorem dX10_block_99 : decode cX10_block 99 = .ok (.aload_n 3, 1) := by decide +kernel
theorem dX10_block_100 : decode cX10_block 100 = .ok (.getfield 126, 3) := by decide +kernel
theorem dX10_block_103 : decode cX10_block 103 = .ok (.ireturn, 1) := by decide +kernel
theorem dX10_block_104 : decode cX10_block 104 = .ok (.new 53, 3) := by decide +kernel
theorem dX10_block_107 : decode cX10_block 107 = .ok (.dup, 1) := by decide +kernel
theorem dX10_block_108 : decode cX10_block 108 = .ok (.invokespecial 55, 3) := by decide +kernel
theorem dX10_block_111 : decode cX10_block 111 = .ok (.athrow, 1) := by decide +kernel
theorem dX10_operation_0 : decode cX10_operation 0 = .ok (.iload_n 1, 1) := by decide +kernel
theorem dX10_operation_1 : decode cX10_operation 1 = .ok (.ifCond .lt 14, 3) := by decide +kernel
theorem dX10_operation_4 : decode cX10_operation 4 = .ok (.iload_n 1, 1) := by decide +kernel
theorem dX10_operation_5 : decode cX10_operation 5 = .ok (.aload_n 0, 1) := by decide +kernel
theorem dX10_operation_6 : decode cX10_operation 6 = .ok (.getfield 42, 3) := by decide +kernel
theorem dX10_operation_9 : decode cX10_operation 9 = .ok (.getfield 83, 3) := by decide +kernel
theorem dX10_operation_12 : decode cX10_operation 12 = .ok (.if_icmp .lt 11, 3) := by decide +kernel
theorem dX10_operation_15 : decode cX10_operation 15 = .ok (.new 105, 3) := by decide +kernel
theorem dX10_operation_18 : decode cX10_operation 18 = .ok (.dup, 1) := by decide +kernel
theorem dX10_operation_19 : decode cX10_operation 19 = .ok (.invokespecial 107, 3) := by decide +kernel
theorem dX10_operation_22 : decode cX10_operation 22 = .ok (.athrow, 1) := by decide +kernel
theorem dX10_operation_23 : decode cX10_operation 23 = .ok (.aload_n 0, 1) := by decide +kernel
theorem dX10_operation_24 : decode cX10_operation 24 = .ok (.getfield 42, 3) := by decide +kernel
theorem dX10_operation_27 : decode cX10_operation 27 = .ok (.getfield 129, 3) := by decide +kernel
theorem dX10_operation_30 : decode cX10_operation 30 = .ok (.iload_n 1, 1) := by decide +kernel
theorem dX10_operation_31 : decode cX10_operation 31 = .ok (.aaload, 1) := by decide +kernel
theorem dX10_operation_32 : decode cX10_operation 32 = .ok (.astore_n 3, 1) := by decide +kernel
theorem dX10_operation_33 : decode cX10_operation 33 = .ok (.iload_n 2, 1) := by decide +kernel
theorem dX10_operation_34 : decode cX10_operation 34 = .ok (.tableswitch 68 0 5 #[38, 43, 48, 53, 58, 63], 38) := by decide +kernel
theorem dX10_operation_72 : decode cX10_operation 72 = .ok (.aload_n 3, 1) := by decide +kernel
theorem dX10_operation_73 : decode cX10_operation 73 = .ok (.getfield 133, 3) := by decide +kernel
theorem dX10_operation_76 : decode cX10_operation 76 = .ok (.ireturn, 1) := by decide +kernel
theorem dX10_operation_77 : decode cX10_operation 77 = .ok (.aload_n 3, 1) := by decide +kernel
theorem dX10_operation_78 : decode cX10_operation 78 = .ok (.getfield 138, 3) := by decide +kernel
theorem dX10_operation_81 : decode cX10_operation 81 = .ok (.ireturn, 1) := by decide +kernel
theorem dX10_operation_82 : decode cX10_operation 82 = .ok (.aload_n 3, 1) := by decide +kernel
theorem dX10_operation_83 : decode cX10_operation 83 = .ok (.getfield 140, 3) := by decide +kernel
theorem dX10_operation_86 : decode cX10_operation 86 = .ok (.ireturn, 1) := by decide +kernel
theorem dX10_operation_87 : decode cX10_operation 87 = .ok (.aload_n 3, 1) := by decide +kernel
theorem dX10_operation_88 : decode cX10_operation 88 = .ok (.getfield 142, 3) := by decide +kernel
theorem dX10_operation_91 : decode cX10_operation 91 = .ok (.ireturn, 1) := by decide +kernel
theorem dX10_operation_92 : decode cX10_operation 92 = .ok (.aload_n 3, 1) := by decide +kernel
theorem dX10_operation_93 : decode cX10_operation 93 = .ok (.getfield 145, 3) := by decide +kernel
theorem dX10_operation_96 : decode cX10_operation 96 = .ok (.ireturn, 1) := by decide +kernel
theorem dX10_operation_97 : decode cX10_operation 97 = .ok (.aload_n 3, 1) := by decide +kernel
theorem dX10_operation_98 : decode cX10_operation 98 = .ok (.getfield 148, 3) := by decide +kernel
theorem dX10_operation_101 : decode cX10_operation 101 = .ok (.ireturn, 1) := by decide +kernel
theorem dX10_operation_102 : decode cX10_operation 102 = .ok (.new 53, 3) := by decide +kernel
theorem dX10_operation_105 : decode cX10_operation 105 = .ok (.dup, 1) := by decide +kernel
theorem dX10_operation_106 : decode cX10_operation 106 = .ok (.invokespecial 55, 3) := by decide +kernel
theorem dX10_operation_109 : decode cX10_operation 109 = .ok (.athrow, 1) := by decide +kernel
theorem dX10_set_0 : decode cX10_set 0 = .ok (.aload_n 0, 1) := by decide +kernel
theorem dX10_set_1 : decode cX10_set 1 = .ok (.iload_n 1, 1) := by decide +kernel
theorem dX10_set_2 : decode cX10_set 2 = .ok (.invokevirtual 151, 3) := by decide +kernel
theorem dX10_set_5 : decode cX10_set 5 = .ok (.istore_n 3, 1) := by decide +kernel
theorem dX10_set_6 : decode cX10_set 6 = .ok (.aload_n 0, 1) := by decide +kernel
theorem dX10_set_7 : decode cX10_set 7 = .ok (.getfield 35, 3) := by decide +kernel
theorem dX10_set_10 : decode cX10_set 10 = .ok (.getfield 154, 3) := by decide +kernel
theorem dX10_set_13 : decode cX10_set 13 = .ok (.iload_n 1, 1) := by decide +kernel
theorem dX10_set_14 : decode cX10_set 14 = .ok (.iload_n 2, 1) := by decide +kernel
theorem dX10_set_15 : decode cX10_set 15 = .ok (.iastore, 1) := by decide +kernel
theorem dX10_set_16 : decode cX10_set 16 = .ok (.iload_n 3, 1) := by decide +kernel
theorem dX10_set_17 : decode cX10_set 17 = .ok (.ireturn, 1) := by decide +kernel
theorem dX10_get_0 : decode cX10_get 0 = .ok (.iload_n 1, 1) := by decide +kernel
theorem dX10_get_1 : decode cX10_get 1 = .ok (.ifCond .lt 9, 3) := by decide +kernel
theorem dX10_get_4 : decode cX10_get 4 = .ok (.iload_n 1, 1) := by decide +kernel
theorem dX10_get_5 : decode cX10_get 5 = .ok (.bipush 8, 2) := by decide +kernel
theorem dX10_get_7 : decode cX10_get 7 = .ok (.if_icmp .lt 11, 3) := by decide +kernel
theorem dX10_get_10 : decode cX10_get 10 = .ok (.new 105, 3) := by decide +kernel
theorem dX10_get_13 : decode cX10_get 13 = .ok (.dup, 1) := by decide +kernel
theorem dX10_get_14 : decode cX10_get 14 = .ok (.invokespecial 107, 3) := by decide +kernel
theorem dX10_get_17 : decode cX10_get 17 = .ok (.athrow, 1) := by decide +kernel
theorem dX10_get_18 : decode cX10_get 18 = .ok (.aload_n 0, 1) := by decide +kernel
theorem dX10_get_19 : decode cX10_get 19 = .ok (.getfield 35, 3) := by decide +kernel
theorem dX10_get_22 : decode cX10_get 22 = .ok (.getfield 154, 3) := by decide +kernel
theorem dX10_get_25 : decode cX10_get 25 = .ok (.iload_n 1, 1) := by decide +kernel
theorem dX10_get_26 : decode cX10_get 26 = .ok (.iaload, 1) := by decide +kernel
theorem dX10_get_27 : decode cX10_get 27 = .ok (.ireturn, 1) := by decide +kernel
theorem dX10_poke_0 : decode cX10_poke 0 = .ok (.aload_n 0, 1) := by decide +kernel
theorem dX10_poke_1 : decode cX10_poke 1 = .ok (.iload_n 1, 1) := by decide +kernel
theorem dX10_poke_2 : decode cX10_poke 2 = .ok (.invokevirtual 158, 3) := by decide +kernel
theorem dX10_poke_5 : decode cX10_poke 5 = .ok (.istore_n 3, 1) := by decide +kernel
theorem dX10_poke_6 : decode cX10_poke 6 = .ok (.aload_n 0, 1) := by decide +kernel
theorem dX10_poke_7 : decode cX10_poke 7 = .ok (.getfield 35, 3) := by decide +kernel
theorem dX10_poke_10 : decode cX10_poke 10 = .ok (.getfield 161, 3) := by decide +kernel
theorem dX10_poke_13 : decode cX10_poke 13 = .ok (.iload_n 1, 1) := by decide +kernel
theorem dX10_poke_14 : decode cX10_poke 14 = .ok (.iload_n 2, 1) := by decide +kernel
theorem dX10_poke_15 : decode cX10_poke 15 = .ok (.iastore, 1) := by decide +kernel
theorem dX10_poke_16 : decode cX10_poke 16 = .ok (.iload_n 3, 1) := by decide +kernel
theorem dX10_poke_17 : decode cX10_poke 17 = .ok (.ireturn, 1) := by decide +kernel
theorem dX10_peek_0 : decode cX10_peek 0 = .ok (.iload_n 1, 1) := by decide +kernel
theorem dX10_peek_1 : decode cX10_peek 1 = .ok (.ifCond .lt 9, 3) := by decide +kernel
theorem dX10_peek_4 : decode cX10_peek 4 = .ok (.iload_n 1, 1) := by decide +kernel
theorem dX10_peek_5 : decode cX10_peek 5 = .ok (.bipush 16, 2) := by decide +kernel
theorem dX10_peek_7 : decode cX10_peek 7 = .ok (.if_icmp .lt 11, 3) := by decide +kernel
theorem dX10_peek_10 : decode cX10_peek 10 = .ok (.new 105, 3) := by decide +kernel
theorem dX10_peek_13 : decode cX10_peek 13 = .ok (.dup, 1) := by decide +kernel
theorem dX10_peek_14 : decode cX10_peek 14 = .ok (.invokespecial 107, 3) := by decide +kernel
theorem dX10_peek_17 : decode cX10_peek 17 = .ok (.athrow, 1) := by decide +kernel
theorem dX10_peek_18 : decode cX10_peek 18 = .ok (.aload_n 0, 1) := by decide +kernel
theorem dX10_peek_19 : decode cX10_peek 19 = .ok (.getfield 35, 3) := by decide +kernel
theorem dX10_peek_22 : decode cX10_peek 22 = .ok (.getfield 161, 3) := by decide +kernel
theorem dX10_peek_25 : decode cX10_peek 25 = .ok (.iload_n 1, 1) := by decide +kernel
theorem dX10_peek_26 : decode cX10_peek 26 = .ok (.iaload, 1) := by decide +kernel
theorem dX10_peek_27 : decode cX10_peek 27 = .ok (.ireturn, 1) := by decide +kernel
theorem dX10_restart_0 : decode cX10_restart 0 = .ok (.aload_n 0, 1) := by decide +kernel
theorem dX10_restart_1 : decode cX10_restart 1 = .ok (.getfield 35, 3) := by decide +kernel
theorem dX10_restart_4 : decode cX10_restart 4 = .ok (.aload_n 0, 1) := by decide +kernel
theorem dX10_restart_5 : decode cX10_restart 5 = .ok (.getfield 42, 3) := by decide +kernel
theorem dX10_restart_8 : decode cX10_restart 8 = .ok (.invokevirtual 49, 3) := by decide +kernel
theorem dX10_restart_11 : decode cX10_restart 11 = .ok (.return_, 1) := by decide +kernel
theorem dX10_run_0 : decode cX10_run 0 = .ok (.iload_n 1, 1) := by decide +kernel
theorem dX10_run_1 : decode cX10_run 1 = .ok (.ifCond .lt 10, 3) := by decide +kernel
theorem dX10_run_4 : decode cX10_run 4 = .ok (.iload_n 1, 1) := by decide +kernel
theorem dX10_run_5 : decode cX10_run 5 = .ok (.sipush 5000, 3) := by decide +kernel
theorem dX10_run_8 : decode cX10_run 8 = .ok (.if_icmp .le 11, 3) := by decide +kernel
theorem dX10_run_11 : decode cX10_run 11 = .ok (.new 53, 3) := by decide +kernel
theorem dX10_run_14 : decode cX10_run 14 = .ok (.dup, 1) := by decide +kernel
theorem dX10_run_15 : decode cX10_run 15 = .ok (.invokespecial 55, 3) := by decide +kernel
theorem dX10_run_18 : decode cX10_run 18 = .ok (.athrow, 1) := by decide +kernel
theorem dX10_run_19 : decode cX10_run 19 = .ok (.aload_n 0, 1) := by decide +kernel
theorem dX10_run_20 : decode cX10_run 20 = .ok (.getfield 35, 3) := by decide +kernel
theorem dX10_run_23 : decode cX10_run 23 = .ok (.iload_n 1, 1) := by decide +kernel
theorem dX10_run_24 : decode cX10_run 24 = .ok (.invokevirtual 164, 3) := by decide +kernel
theorem dX10_run_27 : decode cX10_run 27 = .ok (.ireturn, 1) := by decide +kernel
theorem dX10_at_0 : decode cX10_at 0 = .ok (.aload_n 0, 1) := by decide +kernel
theorem dX10_at_1 : decode cX10_at 1 = .ok (.getfield 35, 3) := by decide +kernel
theorem dX10_at_4 : decode cX10_at 4 = .ok (.getfield 167, 3) := by decide +kernel
theorem dX10_at_7 : decode cX10_at 7 = .ok (.ireturn, 1) := by decide +kernel
theorem dX10_cycles_0 : decode cX10_cycles 0 = .ok (.aload_n 0, 1) := by decide +kernel
theorem dX10_cycles_1 : decode cX10_cycles 1 = .ok (.getfield 35, 3) := by decide +kernel
theorem dX10_cycles_4 : decode cX10_cycles 4 = .ok (.getfield 170, 3) := by decide +kernel
theorem dX10_cycles_7 : decode cX10_cycles 7 = .ok (.lreturn, 1) := by decide +kernel
theorem dJ9_max_7cf53_0 : decode cJ9_max_7cf53 0 = .ok (.iload_n 0, 1) := by decide +kernel
theorem dJ9_max_7cf53_1 : decode cJ9_max_7cf53 1 = .ok (.iload_n 1, 1) := by decide +kernel
theorem dJ9_max_7cf53_2 : decode cJ9_max_7cf53 2 = .ok (.if_icmp .lt 7, 3) := by decide +kernel
theorem dJ9_max_7cf53_5 : decode cJ9_max_7cf53 5 = .ok (.iload_n 0, 1) := by decide +kernel
theorem dJ9_max_7cf53_6 : decode cJ9_max_7cf53 6 = .ok (.goto 4, 3) := by decide +kernel
theorem dJ9_max_7cf53_9 : decode cJ9_max_7cf53 9 = .ok (.iload_n 1, 1) := by decide +kernel
theorem dJ9_max_7cf53_10 : decode cJ9_max_7cf53 10 = .ok (.ireturn, 1) := by decide +kernel
theorem dJ9_min_f86c9_0 : decode cJ9_min_f86c9 0 = .ok (.lload_n 0, 1) := by decide +kernel
theorem dJ9_min_f86c9_1 : decode cJ9_min_f86c9 1 = .ok (.lload_n 2, 1) := by decide +kernel
theorem dJ9_min_f86c9_2 : decode cJ9_min_f86c9 2 = .ok (.lcmp, 1) := by decide +kernel
theorem dJ9_min_f86c9_3 : decode cJ9_min_f86c9 3 = .ok (.ifCond .gt 7, 3) := by decide +kernel
theorem dJ9_min_f86c9_6 : decode cJ9_min_f86c9 6 = .ok (.lload_n 0, 1) := by decide +kernel
theorem dJ9_min_f86c9_7 : decode cJ9_min_f86c9 7 = .ok (.goto 4, 3) := by decide +kernel
theorem dJ9_min_f86c9_10 : decode cJ9_min_f86c9 10 = .ok (.lload_n 2, 1) := by decide +kernel
theorem dJ9_min_f86c9_11 : decode cJ9_min_f86c9 11 = .ok (.lreturn, 1) := by decide +kernel
theorem dJ0_length_8abf5_0 : decode cJ0_length_8abf5 0 = .ok (.aload_n 0, 1) := by decide +kernel
theorem dJ0_length_8abf5_1 : decode cJ0_length_8abf5 1 = .ok (.getfield 9, 3) := by decide +kernel
theorem dJ0_length_8abf5_4 : decode cJ0_length_8abf5 4 = .ok (.arraylength, 1) := by decide +kernel
theorem dJ0_length_8abf5_5 : decode cJ0_length_8abf5 5 = .ok (.aload_n 0, 1) := by decide +kernel
theorem dJ0_length_8abf5_6 : decode cJ0_length_8abf5 6 = .ok (.invokevirtual 335, 3) := by decide +kernel
theorem dJ0_length_8abf5_9 : decode cJ0_length_8abf5 9 = .ok (.ishr, 1) := by decide +kernel
theorem dJ0_length_8abf5_10 : decode cJ0_length_8abf5 10 = .ok (.ireturn, 1) := by decide +kernel
theorem dJ0_charAt_5068e_0 : decode cJ0_charAt_5068e 0 = .ok (.aload_n 0, 1) := by decide +kernel
theorem dJ0_charAt_5068e_1 : decode cJ0_charAt_5068e 1 = .ok (.invokevirtual 492, 3) := by decide +kernel
theorem dJ0_charAt_5068e_4 : decode cJ0_charAt_5068e 4 = .ok (.ifCond .eq 12, 3) := by decide +kernel
theorem dJ0_charAt_5068e_7 : decode cJ0_charAt_5068e 7 = .ok (.aload_n 0, 1) := by decide +kernel
theorem dJ0_charAt_5068e_8 : decode cJ0_charAt_5068e 8 = .ok (.getfield 9, 3) := by decide +kernel
theorem dJ0_charAt_5068e_11 : decode cJ0_charAt_5068e 11 = .ok (.iload_n 1, 1) := by decide +kernel
theorem dJ0_charAt_5068e_12 : decode cJ0_charAt_5068e 12 = .ok (.invokestatic 495, 3) := by decide +kernel
theorem dJ0_charAt_5068e_15 : decode cJ0_charAt_5068e 15 = .ok (.ireturn, 1) := by decide +kernel
theorem dJ0_charAt_5068e_16 : decode cJ0_charAt_5068e 16 = .ok (.aload_n 0, 1) := by decide +kernel
theorem dJ0_charAt_5068e_17 : decode cJ0_charAt_5068e 17 = .ok (.getfield 9, 3) := by decide +kernel
theorem dJ0_charAt_5068e_20 : decode cJ0_charAt_5068e 20 = .ok (.iload_n 1, 1) := by decide +kernel
theorem dJ0_charAt_5068e_21 : decode cJ0_charAt_5068e 21 = .ok (.invokestatic 498, 3) := by decide +kernel
theorem dJ0_charAt_5068e_24 : decode cJ0_charAt_5068e 24 = .ok (.ireturn, 1) := by decide +kernel
theorem dJ0_coder_7d493_0 : decode cJ0_coder_7d493 0 = .ok (.getstatic 38, 3) := by decide +kernel
theorem dJ0_coder_7d493_3 : decode cJ0_coder_7d493 3 = .ok (.ifCond .eq 10, 3) := by decide +kernel
theorem dJ0_coder_7d493_6 : decode cJ0_coder_7d493 6 = .ok (.aload_n 0, 1) := by decide +kernel
theorem dJ0_coder_7d493_7 : decode cJ0_coder_7d493 7 = .ok (.getfield 15, 3) := by decide +kernel
theorem dJ0_coder_7d493_10 : decode cJ0_coder_7d493 10 = .ok (.goto 4, 3) := by decide +kernel
theorem dJ0_coder_7d493_13 : decode cJ0_coder_7d493 13 = .ok (.iconst 1, 1) := by decide +kernel
theorem dJ0_coder_7d493_14 : decode cJ0_coder_7d493 14 = .ok (.ireturn, 1) := by decide +kernel
theorem dJ0_isLatin1_aae02_0 : decode cJ0_isLatin1_aae02 0 = .ok (.getstatic 38, 3) := by decide +kernel
theorem dJ0_isLatin1_aae02_3 : decode cJ0_isLatin1_aae02 3 = .ok (.ifCond .eq 14, 3) := by decide +kernel
theorem dJ0_isLatin1_aae02_6 : decode cJ0_isLatin1_aae02 6 = .ok (.aload_n 0, 1) := by decide +kernel
theorem dJ0_isLatin1_aae02_7 : decode cJ0_isLatin1_aae02 7 = .ok (.getfield 15, 3) := by decide +kernel
theorem dJ0_isLatin1_aae02_10 : decode cJ0_isLatin1_aae02 10 = .ok (.ifCond .ne 7, 3) := by decide +kernel
theorem dJ0_isLatin1_aae02_13 : decode cJ0_isLatin1_aae02 13 = .ok (.iconst 1, 1) := by decide +kernel
theorem dJ0_isLatin1_aae02_14 : decode cJ0_isLatin1_aae02 14 = .ok (.goto 4, 3) := by decide +kernel
theorem dJ0_isLatin1_aae02_17 : decode cJ0_isLatin1_aae02 17 = .ok (.iconst 0, 1) := by decide +kernel
theorem dJ0_isLatin1_aae02_18 : decode cJ0_isLatin1_aae02 18 = .ok (.ireturn, 1) := by decide +kernel
theorem dJ0_checkIndex_df160_0 : decode cJ0_checkIndex_df160 0 = .ok (.iload_n 0, 1) := by decide +kernel
theorem dJ0_checkIndex_df160_1 : decode cJ0_checkIndex_df160 1 = .ok (.iload_n 1, 1) := by decide +kernel
theorem dJ0_checkIndex_df160_2 : decode cJ0_checkIndex_df160 2 = .ok (.getstatic 1053, 3) := by decide +kernel
theorem dJ0_checkIndex_df160_5 : decode cJ0_checkIndex_df160 5 = .ok (.invokestatic 1059, 3) := by decide +kernel
theorem dJ0_checkIndex_df160_8 : decode cJ0_checkIndex_df160 8 = .ok (.pop, 1) := by decide +kernel
theorem dJ0_checkIndex_df160_9 : decode cJ0_checkIndex_df160 9 = .ok (.return_, 1) := by decide +kernel
theorem dJ1_charAt_3b067_0 : decode cJ1_charAt_3b067 0 = .ok (.iload_n 1, 1) := by decide +kernel
theorem dJ1_charAt_3b067_1 : decode cJ1_charAt_3b067 1 = .ok (.aload_n 0, 1) := by decide +kernel
theorem dJ1_charAt_3b067_2 : decode cJ1_charAt_3b067 2 = .ok (.arraylength, 1) := by decide +kernel
theorem dJ1_charAt_3b067_3 : decode cJ1_charAt_3b067 3 = .ok (.invokestatic 9, 3) := by decide +kernel
theorem dJ1_charAt_3b067_6 : decode cJ1_charAt_3b067 6 = .ok (.aload_n 0, 1) := by decide +kernel
theorem dJ1_charAt_3b067_7 : decode cJ1_charAt_3b067 7 = .ok (.iload_n 1, 1) := by decide +kernel
theorem dJ1_charAt_3b067_8 : decode cJ1_charAt_3b067 8 = .ok (.baload, 1) := by decide +kernel
theorem dJ1_charAt_3b067_9 : decode cJ1_charAt_3b067 9 = .ok (.sipush 255, 3) := by decide +kernel
theorem dJ1_charAt_3b067_12 : decode cJ1_charAt_3b067 12 = .ok (.iand, 1) := by decide +kernel
theorem dJ1_charAt_3b067_13 : decode cJ1_charAt_3b067 13 = .ok (.i2c, 1) := by decide +kernel
theorem dJ1_charAt_3b067_14 : decode cJ1_charAt_3b067 14 = .ok (.ireturn, 1) := by decide +kernel
theorem dJ2_getChar_3b067_0 : decode cJ2_getChar_3b067 0 = .ok (.getstatic 44, 3) := by decide +kernel
theorem dJ2_getChar_3b067_3 : decode cJ2_getChar_3b067 3 = .ok (.ifCond .ne 25, 3) := by decide +kernel
theorem dJ2_getChar_3b067_6 : decode cJ2_getChar_3b067 6 = .ok (.iload_n 1, 1) := by decide +kernel
theorem dJ2_getChar_3b067_7 : decode cJ2_getChar_3b067 7 = .ok (.ifCond .lt 11, 3) := by decide +kernel
theorem dJ2_getChar_3b067_10 : decode cJ2_getChar_3b067 10 = .ok (.iload_n 1, 1) := by decide +kernel
theorem dJ2_getChar_3b067_11 : decode cJ2_getChar_3b067 11 = .ok (.aload_n 0, 1) := by decide +kernel
theorem dJ2_getChar_3b067_12 : decode cJ2_getChar_3b067 12 = .ok (.invokestatic 48, 3) := by decide +kernel
theorem dJ2_getChar_3b067_15 : decode cJ2_getChar_3b067 15 = .ok (.if_icmp .lt 13, 3) := by decide +kernel
theorem dJ2_getChar_3b067_18 : decode cJ2_getChar_3b067 18 = .ok (.new 52, 3) := by decide +kernel
theorem dJ2_getChar_3b067_21 : decode cJ2_getChar_3b067 21 = .ok (.dup, 1) := by decide +kernel
theorem dJ2_getChar_3b067_22 : decode cJ2_getChar_3b067 22 = .ok (.ldc 54, 2) := by decide +kernel
theorem dJ2_getChar_3b067_24 : decode cJ2_getChar_3b067 24 = .ok (.invokespecial 56, 3) := by decide +kernel
theorem dJ2_getChar_3b067_27 : decode cJ2_getChar_3b067 27 = .ok (.athrow, 1) := by decide +kernel
theorem dJ2_getChar_3b067_28 : decode cJ2_getChar_3b067 28 = .ok (.iload_n 1, 1) := by decide +kernel
theorem dJ2_getChar_3b067_29 : decode cJ2_getChar_3b067 29 = .ok (.iconst 1, 1) := by decide +kernel
theorem dJ2_getChar_3b067_30 : decode cJ2_getChar_3b067 30 = .ok (.ishl, 1) := by decide +kernel
theorem dJ2_getChar_3b067_31 : decode cJ2_getChar_3b067 31 = .ok (.istore_n 1, 1) := by decide +kernel
theorem dJ2_getChar_3b067_32 : decode cJ2_getChar_3b067 32 = .ok (.aload_n 0, 1) := by decide +kernel
theorem dJ2_getChar_3b067_33 : decode cJ2_getChar_3b067 33 = .ok (.iload_n 1, 1) := by decide +kernel
theorem dJ2_getChar_3b067_34 : decode cJ2_getChar_3b067 34 = .ok (.iinc 1 1, 3) := by decide +kernel
theorem dJ2_getChar_3b067_37 : decode cJ2_getChar_3b067 37 = .ok (.baload, 1) := by decide +kernel
theorem dJ2_getChar_3b067_38 : decode cJ2_getChar_3b067 38 = .ok (.sipush 255, 3) := by decide +kernel
theorem dJ2_getChar_3b067_41 : decode cJ2_getChar_3b067 41 = .ok (.iand, 1) := by decide +kernel
theorem dJ2_getChar_3b067_42 : decode cJ2_getChar_3b067 42 = .ok (.getstatic 59, 3) := by decide +kernel
theorem dJ2_getChar_3b067_45 : decode cJ2_getChar_3b067 45 = .ok (.ishl, 1) := by decide +kernel
theorem dJ2_getChar_3b067_46 : decode cJ2_getChar_3b067 46 = .ok (.aload_n 0, 1) := by decide +kernel
theorem dJ2_getChar_3b067_47 : decode cJ2_getChar_3b067 47 = .ok (.iload_n 1, 1) := by decide +kernel
theorem dJ2_getChar_3b067_48 : decode cJ2_getChar_3b067 48 = .ok (.baload, 1) := by decide +kernel
theorem dJ2_getChar_3b067_49 : decode cJ2_getChar_3b067 49 = .ok (.sipush 255, 3) := by decide +kernel
theorem dJ2_getChar_3b067_52 : decode cJ2_getChar_3b067 52 = .ok (.iand, 1) := by decide +kernel
theorem dJ2_getChar_3b067_53 : decode cJ2_getChar_3b067 53 = .ok (.getstatic 63, 3) := by decide +kernel
theorem dJ2_getChar_3b067_56 : decode cJ2_getChar_3b067 56 = .ok (.ishl, 1) := by decide +kernel
theorem dJ2_getChar_3b067_57 : decode cJ2_getChar_3b067 57 = .ok (.ior, 1) := by decide +kernel
theorem dJ2_getChar_3b067_58 : decode cJ2_getChar_3b067 58 = .ok (.i2c, 1) := by decide +kernel
theorem dJ2_getChar_3b067_59 : decode cJ2_getChar_3b067 59 = .ok (.ireturn, 1) := by decide +kernel
theorem dJ2_length_9d52b_0 : decode cJ2_length_9d52b 0 = .ok (.aload_n 0, 1) := by decide +kernel
theorem dJ2_length_9d52b_1 : decode cJ2_length_9d52b 1 = .ok (.arraylength, 1) := by decide +kernel
theorem dJ2_length_9d52b_2 : decode cJ2_length_9d52b 2 = .ok (.iconst 1, 1) := by decide +kernel
theorem dJ2_length_9d52b_3 : decode cJ2_length_9d52b 3 = .ok (.ishr, 1) := by decide +kernel
theorem dJ2_length_9d52b_4 : decode cJ2_length_9d52b 4 = .ok (.ireturn, 1) := by decide +kernel
theorem dJ2_charAt_3b067_0 : decode cJ2_charAt_3b067 0 = .ok (.iload_n 1, 1) := by decide +kernel
theorem dJ2_charAt_3b067_1 : decode cJ2_charAt_3b067 1 = .ok (.aload_n 0, 1) := by decide +kernel
theorem dJ2_charAt_3b067_2 : decode cJ2_charAt_3b067 2 = .ok (.invokestatic 67, 3) := by decide +kernel
theorem dJ2_charAt_3b067_5 : decode cJ2_charAt_3b067 5 = .ok (.aload_n 0, 1) := by decide +kernel
theorem dJ2_charAt_3b067_6 : decode cJ2_charAt_3b067 6 = .ok (.iload_n 1, 1) := by decide +kernel
theorem dJ2_charAt_3b067_7 : decode cJ2_charAt_3b067 7 = .ok (.invokestatic 71, 3) := by decide +kernel
theorem dJ2_charAt_3b067_10 : decode cJ2_charAt_3b067 10 = .ok (.ireturn, 1) := by decide +kernel
theorem dJ2_checkIndex_2214a_0 : decode cJ2_checkIndex_2214a 0 = .ok (.iload_n 0, 1) := by decide +kernel
theorem dJ2_checkIndex_2214a_1 : decode cJ2_checkIndex_2214a 1 = .ok (.aload_n 1, 1) := by decide +kernel
theorem dJ2_checkIndex_2214a_2 : decode cJ2_checkIndex_2214a 2 = .ok (.invokestatic 48, 3) := by decide +kernel
theorem dJ2_checkIndex_2214a_5 : decode cJ2_checkIndex_2214a 5 = .ok (.invokestatic 414, 3) := by decide +kernel
theorem dJ2_checkIndex_2214a_8 : decode cJ2_checkIndex_2214a 8 = .ok (.return_, 1) := by decide +kernel
theorem dJ3_checkIndex_8e157_0 : decode cJ3_checkIndex_8e157 0 = .ok (.iload_n 0, 1) := by decide +kernel
theorem dJ3_checkIndex_8e157_1 : decode cJ3_checkIndex_8e157 1 = .ok (.ifCond .lt 8, 3) := by decide +kernel
theorem dJ3_checkIndex_8e157_4 : decode cJ3_checkIndex_8e157 4 = .ok (.iload_n 0, 1) := by decide +kernel
theorem dJ3_checkIndex_8e157_5 : decode cJ3_checkIndex_8e157 5 = .ok (.iload_n 1, 1) := by decide +kernel
theorem dJ3_checkIndex_8e157_6 : decode cJ3_checkIndex_8e157 6 = .ok (.if_icmp .lt 10, 3) := by decide +kernel
theorem dJ3_checkIndex_8e157_9 : decode cJ3_checkIndex_8e157 9 = .ok (.aload_n 2, 1) := by decide +kernel
theorem dJ3_checkIndex_8e157_10 : decode cJ3_checkIndex_8e157 10 = .ok (.iload_n 0, 1) := by decide +kernel
theorem dJ3_checkIndex_8e157_11 : decode cJ3_checkIndex_8e157 11 = .ok (.iload_n 1, 1) := by decide +kernel
theorem dJ3_checkIndex_8e157_12 : decode cJ3_checkIndex_8e157 12 = .ok (.invokestatic 95, 3) := by decide +kernel
theorem dJ3_checkIndex_8e157_15 : decode cJ3_checkIndex_8e157 15 = .ok (.athrow, 1) := by decide +kernel
theorem dJ3_checkIndex_8e157_16 : decode cJ3_checkIndex_8e157 16 = .ok (.iload_n 0, 1) := by decide +kernel
theorem dJ3_checkIndex_8e157_17 : decode cJ3_checkIndex_8e157 17 = .ok (.ireturn, 1) := by decide +kernel
theorem dL_feed_0 : decode cL_feed 0 = .ok (.aload 4, 2) := by decide +kernel
theorem dL_feed_2 : decode cL_feed 2 = .ok (.iconst 0, 1) := by decide +kernel
theorem dL_feed_3 : decode cL_feed 3 = .ok (.aload_n 0, 1) := by decide +kernel
theorem dL_feed_4 : decode cL_feed 4 = .ok (.iload_n 1, 1) := by decide +kernel
theorem dL_feed_5 : decode cL_feed 5 = .ok (.lload_n 2, 1) := by decide +kernel
theorem dL_feed_6 : decode cL_feed 6 = .ok (.invokevirtual 7, 3) := by decide +kernel
theorem dL_feed_9 : decode cL_feed 9 = .ok (.i2l, 1) := by decide +kernel
theorem dL_feed_10 : decode cL_feed 10 = .ok (.lastore, 1) := by decide +kernel
theorem dL_feed_11 : decode cL_feed 11 = .ok (.goto 7, 3) := by decide +kernel
theorem dL_feed_14 : decode cL_feed 14 = .ok (.astore 5, 2) := by decide +kernel
theorem dL_feed_16 : decode cL_feed 16 = .ok (.iconst 1, 1) := by decide +kernel
theorem dL_feed_17 : decode cL_feed 17 = .ok (.ireturn, 1) := by decide +kernel
theorem dL_feed_18 : decode cL_feed 18 = .ok (.iconst 0, 1) := by decide +kernel
theorem dL_feed_19 : decode cL_feed 19 = .ok (.ireturn, 1) := by decide +kernel
theorem dL_units_0 : decode cL_units 0 = .ok (.aload_n 0, 1) := by decide +kernel
theorem dL_units_1 : decode cL_units 1 = .ok (.iload_n 1, 1) := by decide +kernel
theorem dL_units_2 : decode cL_units 2 = .ok (.iload_n 2, 1) := by decide +kernel
theorem dL_units_3 : decode cL_units 3 = .ok (.iload_n 3, 1) := by decide +kernel
theorem dL_units_4 : decode cL_units 4 = .ok (.invokevirtual 15, 3) := by decide +kernel
theorem dL_units_7 : decode cL_units 7 = .ok (.goto 7, 3) := by decide +kernel
theorem dL_units_10 : decode cL_units 10 = .ok (.astore 4, 2) := by decide +kernel
theorem dL_units_12 : decode cL_units 12 = .ok (.iconst 1, 1) := by decide +kernel
theorem dL_units_13 : decode cL_units 13 = .ok (.ireturn, 1) := by decide +kernel
theorem dL_units_14 : decode cL_units 14 = .ok (.iconst 0, 1) := by decide +kernel
theorem dL_units_15 : decode cL_units 15 = .ok (.ireturn, 1) := by decide +kernel
theorem dL_told_0 : decode cL_told 0 = .ok (.aload_n 2, 1) := by decide +kernel
theorem dL_told_1 : decode cL_told 1 = .ok (.iconst 0, 1) := by decide +kernel
theorem dL_told_2 : decode cL_told 2 = .ok (.aload_n 0, 1) := by decide +kernel
theorem dL_told_3 : decode cL_told 3 = .ok (.iload_n 1, 1) := by decide +kernel
theorem dL_told_4 : decode cL_told 4 = .ok (.invokevirtual 19, 3) := by decide +kernel
theorem dL_told_7 : decode cL_told 7 = .ok (.i2l, 1) := by decide +kernel
theorem dL_told_8 : decode cL_told 8 = .ok (.lastore, 1) := by decide +kernel
theorem dL_told_9 : decode cL_told 9 = .ok (.goto 6, 3) := by decide +kernel
theorem dL_told_12 : decode cL_told 12 = .ok (.astore_n 3, 1) := by decide +kernel
theorem dL_told_13 : decode cL_told 13 = .ok (.iconst 1, 1) := by decide +kernel
theorem dL_told_14 : decode cL_told 14 = .ok (.ireturn, 1) := by decide +kernel
theorem dL_told_15 : decode cL_told 15 = .ok (.iconst 0, 1) := by decide +kernel
theorem dL_told_16 : decode cL_told 16 = .ok (.ireturn, 1) := by decide +kernel
theorem dL_block_0 : decode cL_block 0 = .ok (.aload_n 3, 1) := by decide +kernel
theorem dL_block_1 : decode cL_block 1 = .ok (.iconst 0, 1) := by decide +kernel
theorem dL_block_2 : decode cL_block 2 = .ok (.aload_n 0, 1) := by decide +kernel
theorem dL_block_3 : decode cL_block 3 = .ok (.iload_n 1, 1) := by decide +kernel
theorem dL_block_4 : decode cL_block 4 = .ok (.iload_n 2, 1) := by decide +kernel
theorem dL_block_5 : decode cL_block 5 = .ok (.invokevirtual 23, 3) := by decide +kernel
theorem dL_block_8 : decode cL_block 8 = .ok (.i2l, 1) := by decide +kernel
theorem dL_block_9 : decode cL_block 9 = .ok (.lastore, 1) := by decide +kernel
theorem dL_block_10 : decode cL_block 10 = .ok (.goto 11, 3) := by decide +kernel
theorem dL_block_13 : decode cL_block 13 = .ok (.astore 4, 2) := by decide +kernel
theorem dL_block_15 : decode cL_block 15 = .ok (.iconst 1, 1) := by decide +kernel
theorem dL_block_16 : decode cL_block 16 = .ok (.ireturn, 1) := by decide +kernel
theorem dL_block_17 : decode cL_block 17 = .ok (.astore 4, 2) := by decide +kernel
theorem dL_block_19 : decode cL_block 19 = .ok (.iconst 2, 1) := by decide +kernel
theorem dL_block_20 : decode cL_block 20 = .ok (.ireturn, 1) := by decide +kernel
theorem dL_block_21 : decode cL_block 21 = .ok (.iconst 0, 1) := by decide +kernel
theorem dL_block_22 : decode cL_block 22 = .ok (.ireturn, 1) := by decide +kernel
theorem dL_operation_0 : decode cL_operation 0 = .ok (.aload_n 3, 1) := by decide +kernel
theorem dL_operation_1 : decode cL_operation 1 = .ok (.iconst 0, 1) := by decide +kernel
theorem dL_operation_2 : decode cL_operation 2 = .ok (.aload_n 0, 1) := by decide +kernel
theorem dL_operation_3 : decode cL_operation 3 = .ok (.iload_n 1, 1) := by decide +kernel
theorem dL_operation_4 : decode cL_operation 4 = .ok (.iload_n 2, 1) := by decide +kernel
theorem dL_operation_5 : decode cL_operation 5 = .ok (.invokevirtual 29, 3) := by decide +kernel
theorem dL_operation_8 : decode cL_operation 8 = .ok (.i2l, 1) := by decide +kernel
theorem dL_operation_9 : decode cL_operation 9 = .ok (.lastore, 1) := by decide +kernel
theorem dL_operation_10 : decode cL_operation 10 = .ok (.goto 11, 3) := by decide +kernel
theorem dL_operation_13 : decode cL_operation 13 = .ok (.astore 4, 2) := by decide +kernel
theorem dL_operation_15 : decode cL_operation 15 = .ok (.iconst 1, 1) := by decide +kernel
theorem dL_operation_16 : decode cL_operation 16 = .ok (.ireturn, 1) := by decide +kernel
theorem dL_operation_17 : decode cL_operation 17 = .ok (.astore 4, 2) := by decide +kernel
theorem dL_operation_19 : decode cL_operation 19 = .ok (.iconst 2, 1) := by decide +kernel
theorem dL_operation_20 : decode cL_operation 20 = .ok (.ireturn, 1) := by decide +kernel
theorem dL_operation_21 : decode cL_operation 21 = .ok (.iconst 0, 1) := by decide +kernel
theorem dL_operation_22 : decode cL_operation 22 = .ok (.ireturn, 1) := by decide +kernel
theorem dL_set_0 : decode cL_set 0 = .ok (.aload_n 3, 1) := by decide +kernel
theorem dL_set_1 : decode cL_set 1 = .ok (.iconst 0, 1) := by decide +kernel
theorem dL_set_2 : decode cL_set 2 = .ok (.aload_n 0, 1) := by decide +kernel
theorem dL_set_3 : decode cL_set 3 = .ok (.iload_n 1, 1) := by decide +kernel
theorem dL_set_4 : decode cL_set 4 = .ok (.iload_n 2, 1) := by decide +kernel
theorem dL_set_5 : decode cL_set 5 = .ok (.invokevirtual 32, 3) := by decide +kernel
theorem dL_set_8 : decode cL_set 8 = .ok (.i2l, 1) := by decide +kernel
theorem dL_set_9 : decode cL_set 9 = .ok (.lastore, 1) := by decide +kernel
theorem dL_set_10 : decode cL_set 10 = .ok (.goto 7, 3) := by decide +kernel
theorem dL_set_13 : decode cL_set 13 = .ok (.astore 4, 2) := by decide +kernel
theorem dL_set_15 : decode cL_set 15 = .ok (.iconst 1, 1) := by decide +kernel
theorem dL_set_16 : decode cL_set 16 = .ok (.ireturn, 1) := by decide +kernel
theorem dL_set_17 : decode cL_set 17 = .ok (.iconst 0, 1) := by decide +kernel
theorem dL_set_18 : decode cL_set 18 = .ok (.ireturn, 1) := by decide +kernel
theorem dL_get_0 : decode cL_get 0 = .ok (.aload_n 2, 1) := by decide +kernel
theorem dL_get_1 : decode cL_get 1 = .ok (.iconst 0, 1) := by decide +kernel
theorem dL_get_2 : decode cL_get 2 = .ok (.aload_n 0, 1) := by decide +kernel
theorem dL_get_3 : decode cL_get 3 = .ok (.iload_n 1, 1) := by decide +kernel
theorem dL_get_4 : decode cL_get 4 = .ok (.invokevirtual 35, 3) := by decide +kernel
theorem dL_get_7 : decode cL_get 7 = .ok (.i2l, 1) := by decide +kernel
theorem dL_get_8 : decode cL_get 8 = .ok (.lastore, 1) := by decide +kernel
theorem dL_get_9 : decode cL_get 9 = .ok (.goto 6, 3) := by decide +kernel
theorem dL_get_12 : decode cL_get 12 = .ok (.astore_n 3, 1) := by decide +kernel
theorem dL_get_13 : decode cL_get 13 = .ok (.iconst 1, 1) := by decide +kernel
theorem dL_get_14 : decode cL_get 14 = .ok (.ireturn, 1) := by decide +kernel
theorem dL_get_15 : decode cL_get 15 = .ok (.iconst 0, 1) := by decide +kernel
theorem dL_get_16 : decode cL_get 16 = .ok (.ireturn, 1) := by decide +kernel
theorem dL_poke_0 : decode cL_poke 0 = .ok (.aload_n 3, 1) := by decide +kernel
theorem dL_poke_1 : decode cL_poke 1 = .ok (.iconst 0, 1) := by decide +kernel
theorem dL_poke_2 : decode cL_poke 2 = .ok (.aload_n 0, 1) := by decide +kernel
theorem dL_poke_3 : decode cL_poke 3 = .ok (.iload_n 1, 1) := by decide +kernel
theorem dL_poke_4 : decode cL_poke 4 = .ok (.iload_n 2, 1) := by decide +kernel
theorem dL_poke_5 : decode cL_poke 5 = .ok (.invokevirtual 38, 3) := by decide +kernel
theorem dL_poke_8 : decode cL_poke 8 = .ok (.i2l, 1) := by decide +kernel
theorem dL_poke_9 : decode cL_poke 9 = .ok (.lastore, 1) := by decide +kernel
theorem dL_poke_10 : decode cL_poke 10 = .ok (.goto 7, 3) := by decide +kernel
theorem dL_poke_13 : decode cL_poke 13 = .ok (.astore 4, 2) := by decide +kernel
theorem dL_poke_15 : decode cL_poke 15 = .ok (.iconst 1, 1) := by decide +kernel
theorem dL_poke_16 : decode cL_poke 16 = .ok (.ireturn, 1) := by decide +kernel
theorem dL_poke_17 : decode cL_poke 17 = .ok (.iconst 0, 1) := by decide +kernel
theorem dL_poke_18 : decode cL_poke 18 = .ok (.ireturn, 1) := by decide +kernel
theorem dL_peek_0 : decode cL_peek 0 = .ok (.aload_n 2, 1) := by decide +kernel
theorem dL_peek_1 : decode cL_peek 1 = .ok (.iconst 0, 1) := by decide +kernel
theorem dL_peek_2 : decode cL_peek 2 = .ok (.aload_n 0, 1) := by decide +kernel
theorem dL_peek_3 : decode cL_peek 3 = .ok (.iload_n 1, 1) := by decide +kernel
theorem dL_peek_4 : decode cL_peek 4 = .ok (.invokevirtual 41, 3) := by decide +kernel
theorem dL_peek_7 : decode cL_peek 7 = .ok (.i2l, 1) := by decide +kernel
theorem dL_peek_8 : decode cL_peek 8 = .ok (.lastore, 1) := by decide +kernel
theorem dL_peek_9 : decode cL_peek 9 = .ok (.goto 6, 3) := by decide +kernel
theorem dL_peek_12 : decode cL_peek 12 = .ok (.astore_n 3, 1) := by decide +kernel
theorem dL_peek_13 : decode cL_peek 13 = .ok (.iconst 1, 1) := by decide +kernel
theorem dL_peek_14 : decode cL_peek 14 = .ok (.ireturn, 1) := by decide +kernel
theorem dL_peek_15 : decode cL_peek 15 = .ok (.iconst 0, 1) := by decide +kernel
theorem dL_peek_16 : decode cL_peek 16 = .ok (.ireturn, 1) := by decide +kernel
theorem dL_run_0 : decode cL_run 0 = .ok (.aload_n 2, 1) := by decide +kernel
theorem dL_run_1 : decode cL_run 1 = .ok (.iconst 0, 1) := by decide +kernel
theorem dL_run_2 : decode cL_run 2 = .ok (.aload_n 0, 1) := by decide +kernel
theorem dL_run_3 : decode cL_run 3 = .ok (.iload_n 1, 1) := by decide +kernel
theorem dL_run_4 : decode cL_run 4 = .ok (.invokevirtual 44, 3) := by decide +kernel
theorem dL_run_7 : decode cL_run 7 = .ok (.i2l, 1) := by decide +kernel
theorem dL_run_8 : decode cL_run 8 = .ok (.lastore, 1) := by decide +kernel
theorem dL_run_9 : decode cL_run 9 = .ok (.goto 6, 3) := by decide +kernel
theorem dL_run_12 : decode cL_run 12 = .ok (.astore_n 3, 1) := by decide +kernel
theorem dL_run_13 : decode cL_run 13 = .ok (.iconst 1, 1) := by decide +kernel
theorem dL_run_14 : decode cL_run 14 = .ok (.ireturn, 1) := by decide +kernel
theorem dL_run_15 : decode cL_run 15 = .ok (.iconst 0, 1) := by decide +kernel
theorem dL_run_16 : decode cL_run 16 = .ok (.ireturn, 1) := by decide +kernel
theorem dL_law_0 : decode cL_law 0 = .ok (.new 8, 3) := by decide +kernel
theorem dL_law_3 : decode cL_law 3 = .ok (.dup, 1) := by decide +kernel
theorem dL_law_4 : decode cL_law 4 = .ok (.invokespecial 47, 3) := by decide +kernel
theorem dL_law_7 : decode cL_law 7 = .ok (.astore_n 1, 1) := by decide +kernel
theorem dL_law_8 : decode cL_law 8 = .ok (.new 48, 3) := by decide +kernel
theorem dL_law_11 : decode cL_law 11 = .ok (.dup, 1) := by decide +kernel
theorem dL_law_12 : decode cL_law 12 = .ok (.invokespecial 50, 3) := by decide +kernel
theorem dL_law_15 : decode cL_law 15 = .ok (.astore_n 2, 1) := by decide +kernel
theorem dL_law_16 : decode cL_law 16 = .ok (.iconst 1, 1) := by decide +kernel
theorem dL_law_17 : decode cL_law 17 = .ok (.newarray .long, 2) := by decide +kernel
theorem dL_law_19 : decode cL_law 19 = .ok (.astore_n 3, 1) := by decide +kernel
theorem dL_law_20 : decode cL_law 20 = .ok (.iconst 0, 1) := by decide +kernel
theorem dL_law_21 : decode cL_law 21 = .ok (.istore 4, 2) := by decide +kernel
theorem dL_law_23 : decode cL_law 23 = .ok (.iload 4, 2) := by decide +kernel
theorem dL_law_25 : decode cL_law 25 = .ok (.aload_n 0, 1) := by decide +kernel
theorem dL_law_26 : decode cL_law 26 = .ok (.arraylength, 1) := by decide +kernel
theorem dL_law_27 : decode cL_law 27 = .ok (.iconst 4, 1) := by decide +kernel
theorem dL_law_28 : decode cL_law 28 = .ok (.isub, 1) := by decide +kernel
theorem dL_law_29 : decode cL_law 29 = .ok (.if_icmp .gt 843, 3) := by decide +kernel
theorem dL_law_32 : decode cL_law 32 = .ok (.aload_n 0, 1) := by decide +kernel
theorem dL_law_33 : decode cL_law 33 = .ok (.iload 4, 2) := by decide +kernel
theorem dL_law_35 : decode cL_law 35 = .ok (.iaload, 1) := by decide +kernel
theorem dL_law_36 : decode cL_law 36 = .ok (.bipush 31, 2) := by decide +kernel
theorem dL_law_38 : decode cL_law 38 = .ok (.iand, 1) := by decide +kernel
theorem dL_law_39 : decode cL_law 39 = .ok (.tableswitch 827 0 16 #[81, 181, 194, 254, 267, 280, 293, 349, 417, 485, 553, 609, 677, 733, 744, 800, 813], 81) := by decide +kernel
theorem dL_law_120 : decode cL_law 120 = .ok (.aload_n 1, 1) := by decide +kernel
theorem dL_law_121 : decode cL_law 121 = .ok (.aload_n 0, 1) := by decide +kernel
theorem dL_law_122 : decode cL_law 122 = .ok (.iload 4, 2) := by decide +kernel
theorem dL_law_124 : decode cL_law 124 = .ok (.iconst 1, 1) := by decide +kernel
theorem dL_law_125 : decode cL_law 125 = .ok (.iadd, 1) := by decide +kernel
theorem dL_law_126 : decode cL_law 126 = .ok (.iaload, 1) := by decide +kernel
theorem dL_law_127 : decode cL_law 127 = .ok (.aload_n 0, 1) := by decide +kernel
theorem dL_law_128 : decode cL_law 128 = .ok (.iload 4, 2) := by decide +kernel
theorem dL_law_130 : decode cL_law 130 = .ok (.iconst 2, 1) := by decide +kernel
theorem dL_law_131 : decode cL_law 131 = .ok (.iadd, 1) := by decide +kernel
theorem dL_law_132 : decode cL_law 132 = .ok (.iaload, 1) := by decide +kernel
theorem dL_law_133 : decode cL_law 133 = .ok (.i2l, 1) := by decide +kernel
theorem dL_law_134 : decode cL_law 134 = .ok (.bipush 32, 2) := by decide +kernel
theorem dL_law_136 : decode cL_law 136 = .ok (.lshl, 1) := by decide +kernel
theorem dL_law_137 : decode cL_law 137 = .ok (.aload_n 0, 1) := by decide +kernel
theorem dL_law_138 : decode cL_law 138 = .ok (.iload 4, 2) := by decide +kernel
theorem dL_law_140 : decode cL_law 140 = .ok (.iconst 3, 1) := by decide +kernel
theorem dL_law_141 : decode cL_law 141 = .ok (.iadd, 1) := by decide +kernel
theorem dL_law_142 : decode cL_law 142 = .ok (.iaload, 1) := by decide +kernel
theorem dL_law_143 : decode cL_law 143 = .ok (.i2l, 1) := by decide +kernel
theorem dL_law_144 : decode cL_law 144 = .ok (.ldc2_w 51, 3) := by decide +kernel
theorem dL_law_147 : decode cL_law 147 = .ok (.land, 1) := by decide +kernel
theorem dL_law_148 : decode cL_law 148 = .ok (.lor, 1) := by decide +kernel
theorem dL_law_149 : decode cL_law 149 = .ok (.aload_n 3, 1) := by decide +kernel
theorem dL_law_150 : decode cL_law 150 = .ok (.invokestatic 53, 3) := by decide +kernel
theorem dL_law_153 : decode cL_law 153 = .ok (.istore 5, 2) := by decide +kernel
theorem dL_law_155 : decode cL_law 155 = .ok (.aload_n 2, 1) := by decide +kernel
theorem dL_law_156 : decode cL_law 156 = .ok (.aload_n 0, 1) := by decide +kernel
theorem dL_law_157 : decode cL_law 157 = .ok (.iload 4, 2) := by decide +kernel
theorem dL_law_159 : decode cL_law 159 = .ok (.iconst 1, 1) := by decide +kernel
theorem dL_law_160 : decode cL_law 160 = .ok (.iadd, 1) := by decide +kernel
theorem dL_law_161 : decode cL_law 161 = .ok (.iaload, 1) := by decide +kernel
theorem dL_law_162 : decode cL_law 162 = .ok (.aload_n 0, 1) := by decide +kernel
theorem dL_law_163 : decode cL_law 163 = .ok (.iload 4, 2) := by decide +kernel
theorem dL_law_165 : decode cL_law 165 = .ok (.iconst 2, 1) := by decide +kernel
theorem dL_law_166 : decode cL_law 166 = .ok (.iadd, 1) := by decide +kernel
theorem dL_law_167 : decode cL_law 167 = .ok (.iaload, 1) := by decide +kernel
theorem dL_law_168 : decode cL_law 168 = .ok (.i2l, 1) := by decide +kernel
theorem dL_law_169 : decode cL_law 169 = .ok (.bipush 32, 2) := by decide +kernel
theorem dL_law_171 : decode cL_law 171 = .ok (.lshl, 1) := by decide +kernel
theorem dL_law_172 : decode cL_law 172 = .ok (.aload_n 0, 1) := by decide +kernel
theorem dL_law_173 : decode cL_law 173 = .ok (.iload 4, 2) := by decide +kernel
theorem dL_law_175 : decode cL_law 175 = .ok (.iconst 3, 1) := by decide +kernel
theorem dL_law_176 : decode cL_law 176 = .ok (.iadd, 1) := by decide +kernel
theorem dL_law_177 : decode cL_law 177 = .ok (.iaload, 1) := by decide +kernel
theorem dL_law_178 : decode cL_law 178 = .ok (.i2l, 1) := by decide +kernel
theorem dL_law_179 : decode cL_law 179 = .ok (.ldc2_w 51, 3) := by decide +kernel
theorem dL_law_182 : decode cL_law 182 = .ok (.land, 1) := by decide +kernel
theorem dL_law_183 : decode cL_law 183 = .ok (.lor, 1) := by decide +kernel
theorem dL_law_184 : decode cL_law 184 = .ok (.invokevirtual 58, 3) := by decide +kernel
theorem dL_law_187 : decode cL_law 187 = .ok (.istore 6, 2) := by decide +kernel
theorem dL_law_189 : decode cL_law 189 = .ok (.aload_n 2, 1) := by decide +kernel
theorem dL_law_190 : decode cL_law 190 = .ok (.invokevirtual 59, 3) := by decide +kernel
theorem dL_law_193 : decode cL_law 193 = .ok (.iload 5, 2) := by decide +kernel
theorem dL_law_195 : decode cL_law 195 = .ok (.if_icmp .eq 5, 3) := by decide +kernel
theorem dL_law_198 : decode cL_law 198 = .ok (.iconst 0, 1) := by decide +kernel
theorem dL_law_199 : decode cL_law 199 = .ok (.ireturn, 1) := by decide +kernel
theorem dL_law_200 : decode cL_law 200 = .ok (.iload 5, 2) := by decide +kernel
theorem dL_law_202 : decode cL_law 202 = .ok (.ifCond .ne 15, 3) := by decide +kernel
theorem dL_law_205 : decode cL_law 205 = .ok (.aload_n 3, 1) := by decide +kernel
theorem dL_law_206 : decode cL_law 206 = .ok (.iconst 0, 1) := by decide +kernel
theorem dL_law_207 : decode cL_law 207 = .ok (.laload, 1) := by decide +kernel
theorem dL_law_208 : decode cL_law 208 = .ok (.iload 6, 2) := by decide +kernel
theorem dL_law_210 : decode cL_law 210 = .ok (.i2l, 1) := by decide +kernel
theorem dL_law_211 : decode cL_law 211 = .ok (.lcmp, 1) := by decide +kernel
theorem dL_law_212 : decode cL_law 212 = .ok (.ifCond .eq 5, 3) := by decide +kernel
theorem dL_law_215 : decode cL_law 215 = .ok (.iconst 0, 1) := by decide +kernel
theorem dL_law_216 : decode cL_law 216 = .ok (.ireturn, 1) := by decide +kernel
theorem dL_law_217 : decode cL_law 217 = .ok (.goto 649, 3) := by decide +kernel
theorem dL_law_220 : decode cL_law 220 = .ok (.aload_n 1, 1) := by decide +kernel
theorem dL_law_221 : decode cL_law 221 = .ok (.invokevirtual 63, 3) := by decide +kernel
theorem dL_law_224 : decode cL_law 224 = .ok (.aload_n 2, 1) := by decide +kernel
theorem dL_law_225 : decode cL_law 225 = .ok (.invokevirtual 66, 3) := by decide +kernel
theorem dL_law_228 : decode cL_law 228 = .ok (.if_icmp .eq 638, 3) := by decide +kernel
theorem dL_law_231 : decode cL_law 231 = .ok (.iconst 0, 1) := by decide +kernel
theorem dL_law_232 : decode cL_law 232 = .ok (.ireturn, 1) := by decide +kernel
theorem dL_law_233 : decode cL_law 233 = .ok (.aload_n 1, 1) := by decide +kernel
theorem dL_law_234 : decode cL_law 234 = .ok (.aload_n 0, 1) := by decide +kernel
theorem dL_law_235 : decode cL_law 235 = .ok (.iload 4, 2) := by decide +kernel
theorem dL_law_237 : decode cL_law 237 = .ok (.iconst 1, 1) := by decide +kernel
theorem dL_law_238 : decode cL_law 238 = .ok (.iadd, 1) := by decide +kernel
theorem dL_law_239 : decode cL_law 239 = .ok (.iaload, 1) := by decide +kernel
theorem dL_law_240 : decode cL_law 240 = .ok (.aload_n 0, 1) := by decide +kernel
theorem dL_law_241 : decode cL_law 241 = .ok (.iload 4, 2) := by decide +kernel
theorem dL_law_243 : decode cL_law 243 = .ok (.iconst 2, 1) := by decide +kernel
theorem dL_law_244 : decode cL_law 244 = .ok (.iadd, 1) := by decide +kernel
theorem dL_law_245 : decode cL_law 245 = .ok (.iaload, 1) := by decide +kernel
theorem dL_law_246 : decode cL_law 246 = .ok (.aload_n 0, 1) := by decide +kernel
theorem dL_law_247 : decode cL_law 247 = .ok (.iload 4, 2) := by decide +kernel
theorem dL_law_249 : decode cL_law 249 = .ok (.iconst 3, 1) := by decide +kernel
theorem dL_law_250 : decode cL_law 250 = .ok (.iadd, 1) := by decide +kernel
theorem dL_law_251 : decode cL_law 251 = .ok (.iaload, 1) := by decide +kernel
theorem dL_law_252 : decode cL_law 252 = .ok (.invokestatic 67, 3) := by decide +kernel
theorem dL_law_255 : decode cL_law 255 = .ok (.istore 5, 2) := by decide +kernel
theorem dL_law_257 : decode cL_law 257 = .ok (.aload_n 2, 1) := by decide +kernel
theorem dL_law_258 : decode cL_law 258 = .ok (.aload_n 0, 1) := by decide +kernel
theorem dL_law_259 : decode cL_law 259 = .ok (.iload 4, 2) := by decide +kernel
theorem dL_law_261 : decode cL_law 261 = .ok (.iconst 1, 1) := by decide +kernel
theorem dL_law_262 : decode cL_law 262 = .ok (.iadd, 1) := by decide +kernel
theorem dL_law_263 : decode cL_law 263 = .ok (.iaload, 1) := by decide +kernel
theorem dL_law_264 : decode cL_law 264 = .ok (.aload_n 0, 1) := by decide +kernel
theorem dL_law_265 : decode cL_law 265 = .ok (.iload 4, 2) := by decide +kernel
theorem dL_law_267 : decode cL_law 267 = .ok (.iconst 2, 1) := by decide +kernel
theorem dL_law_268 : decode cL_law 268 = .ok (.iadd, 1) := by decide +kernel
theorem dL_law_269 : decode cL_law 269 = .ok (.iaload, 1) := by decide +kernel
theorem dL_law_270 : decode cL_law 270 = .ok (.aload_n 0, 1) := by decide +kernel
theorem dL_law_271 : decode cL_law 271 = .ok (.iload 4, 2) := by decide +kernel
theorem dL_law_273 : decode cL_law 273 = .ok (.iconst 3, 1) := by decide +kernel
theorem dL_law_274 : decode cL_law 274 = .ok (.iadd, 1) := by decide +kernel
theorem dL_law_275 : decode cL_law 275 = .ok (.iaload, 1) := by decide +kernel
theorem dL_law_276 : decode cL_law 276 = .ok (.invokevirtual 70, 3) := by decide +kernel
theorem dL_law_279 : decode cL_law 279 = .ok (.aload_n 2, 1) := by decide +kernel
theorem dL_law_280 : decode cL_law 280 = .ok (.invokevirtual 59, 3) := by decide +kernel
theorem dL_law_283 : decode cL_law 283 = .ok (.iload 5, 2) := by decide +kernel
theorem dL_law_285 : decode cL_law 285 = .ok (.if_icmp .eq 5, 3) := by decide +kernel
theorem dL_law_288 : decode cL_law 288 = .ok (.iconst 0, 1) := by decide +kernel
theorem dL_law_289 : decode cL_law 289 = .ok (.ireturn, 1) := by decide +kernel
theorem dL_law_290 : decode cL_law 290 = .ok (.goto 576, 3) := by decide +kernel
theorem dL_law_293 : decode cL_law 293 = .ok (.aload_n 1, 1) := by decide +kernel
theorem dL_law_294 : decode cL_law 294 = .ok (.invokevirtual 71, 3) := by decide +kernel
theorem dL_law_297 : decode cL_law 297 = .ok (.aload_n 2, 1) := by decide +kernel
theorem dL_law_298 : decode cL_law 298 = .ok (.invokevirtual 74, 3) := by decide +kernel
theorem dL_law_301 : decode cL_law 301 = .ok (.if_icmp .eq 565, 3) := by decide +kernel
theorem dL_law_304 : decode cL_law 304 = .ok (.iconst 0, 1) := by decide +kernel
theorem dL_law_305 : decode cL_law 305 = .ok (.ireturn, 1) := by decide +kernel
theorem dL_law_306 : decode cL_law 306 = .ok (.aload_n 1, 1) := by decide +kernel
theorem dL_law_307 : decode cL_law 307 = .ok (.invokevirtual 75, 3) := by decide +kernel
theorem dL_law_310 : decode cL_law 310 = .ok (.aload_n 2, 1) := by decide +kernel
theorem dL_law_311 : decode cL_law 311 = .ok (.invokevirtual 78, 3) := by decide +kernel
theorem dL_law_314 : decode cL_law 314 = .ok (.if_icmp .eq 552, 3) := by decide +kernel
theorem dL_law_317 : decode cL_law 317 = .ok (.iconst 0, 1) := by decide +kernel
theorem dL_law_318 : decode cL_law 318 = .ok (.ireturn, 1) := by decide +kernel
theorem dL_law_319 : decode cL_law 319 = .ok (.aload_n 1, 1) := by decide +kernel
theorem dL_law_320 : decode cL_law 320 = .ok (.invokevirtual 79, 3) := by decide +kernel
theorem dL_law_323 : decode cL_law 323 = .ok (.aload_n 2, 1) := by decide +kernel
theorem dL_law_324 : decode cL_law 324 = .ok (.invokevirtual 82, 3) := by decide +kernel
theorem dL_law_327 : decode cL_law 327 = .ok (.if_icmp .eq 539, 3) := by decide +kernel
theorem dL_law_330 : decode cL_law 330 = .ok (.iconst 0, 1) := by decide +kernel
theorem dL_law_331 : decode cL_law 331 = .ok (.ireturn, 1) := by decide +kernel
theorem dL_law_332 : decode cL_law 332 = .ok (.aload_n 1, 1) := by decide +kernel
theorem dL_law_333 : decode cL_law 333 = .ok (.aload_n 0, 1) := by decide +kernel
theorem dL_law_334 : decode cL_law 334 = .ok (.iload 4, 2) := by decide +kernel
theorem dL_law_336 : decode cL_law 336 = .ok (.iconst 1, 1) := by decide +kernel
theorem dL_law_337 : decode cL_law 337 = .ok (.iadd, 1) := by decide +kernel
theorem dL_law_338 : decode cL_law 338 = .ok (.iaload, 1) := by decide +kernel
theorem dL_law_339 : decode cL_law 339 = .ok (.aload_n 3, 1) := by decide +kernel
theorem dL_law_340 : decode cL_law 340 = .ok (.invokestatic 83, 3) := by decide +kernel
theorem dL_law_343 : decode cL_law 343 = .ok (.istore 5, 2) := by decide +kernel
theorem dL_law_345 : decode cL_law 345 = .ok (.aload_n 2, 1) := by decide +kernel
theorem dL_law_346 : decode cL_law 346 = .ok (.aload_n 0, 1) := by decide +kernel
theorem dL_law_347 : decode cL_law 347 = .ok (.iload 4, 2) := by decide +kernel
theorem dL_law_349 : decode cL_law 349 = .ok (.iconst 1, 1) := by decide +kernel
theorem dL_law_350 : decode cL_law 350 = .ok (.iadd, 1) := by decide +kernel
theorem dL_law_351 : decode cL_law 351 = .ok (.iaload, 1) := by decide +kernel
theorem dL_law_352 : decode cL_law 352 = .ok (.invokevirtual 86, 3) := by decide +kernel
theorem dL_law_355 : decode cL_law 355 = .ok (.istore 6, 2) := by decide +kernel
theorem dL_law_357 : decode cL_law 357 = .ok (.aload_n 2, 1) := by decide +kernel
theorem dL_law_358 : decode cL_law 358 = .ok (.invokevirtual 59, 3) := by decide +kernel
theorem dL_law_361 : decode cL_law 361 = .ok (.iload 5, 2) := by decide +kernel
theorem dL_law_363 : decode cL_law 363 = .ok (.if_icmp .eq 5, 3) := by decide +kernel
theorem dL_law_366 : decode cL_law 366 = .ok (.iconst 0, 1) := by decide +kernel
theorem dL_law_367 : decode cL_law 367 = .ok (.ireturn, 1) := by decide +kernel
theorem dL_law_368 : decode cL_law 368 = .ok (.iload 5, 2) := by decide +kernel
theorem dL_law_370 : decode cL_law 370 = .ok (.ifCond .ne 15, 3) := by decide +kernel
theorem dL_law_373 : decode cL_law 373 = .ok (.aload_n 3, 1) := by decide +kernel
theorem dL_law_374 : decode cL_law 374 = .ok (.iconst 0, 1) := by decide +kernel
theorem dL_law_375 : decode cL_law 375 = .ok (.laload, 1) := by decide +kernel
theorem dL_law_376 : decode cL_law 376 = .ok (.iload 6, 2) := by decide +kernel
theorem dL_law_378 : decode cL_law 378 = .ok (.i2l, 1) := by decide +kernel
theorem dL_law_379 : decode cL_law 379 = .ok (.lcmp, 1) := by decide +kernel
theorem dL_law_380 : decode cL_law 380 = .ok (.ifCond .eq 5, 3) := by decide +kernel
theorem dL_law_383 : decode cL_law 383 = .ok (.iconst 0, 1) := by decide +kernel
theorem dL_law_384 : decode cL_law 384 = .ok (.ireturn, 1) := by decide +kernel
theorem dL_law_385 : decode cL_law 385 = .ok (.goto 481, 3) := by decide +kernel
theorem dL_law_388 : decode cL_law 388 = .ok (.aload_n 1, 1) := by decide +kernel
theorem dL_law_389 : decode cL_law 389 = .ok (.aload_n 0, 1) := by decide +kernel
theorem dL_law_390 : decode cL_law 390 = .ok (.iload 4, 2) := by decide +kernel
theorem dL_law_392 : decode cL_law 392 = .ok (.iconst 1, 1) := by decide +kernel
theorem dL_law_393 : decode cL_law 393 = .ok (.iadd, 1) := by decide +kernel
theorem dL_law_394 : decode cL_law 394 = .ok (.iaload, 1) := by decide +kernel
theorem dL_law_395 : decode cL_law 395 = .ok (.aload_n 0, 1) := by decide +kernel
theorem dL_law_396 : decode cL_law 396 = .ok (.iload 4, 2) := by decide +kernel
theorem dL_law_398 : decode cL_law 398 = .ok (.iconst 2, 1) := by decide +kernel
theorem dL_law_399 : decode cL_law 399 = .ok (.iadd, 1) := by decide +kernel
theorem dL_law_400 : decode cL_law 400 = .ok (.iaload, 1) := by decide +kernel
theorem dL_law_401 : decode cL_law 401 = .ok (.aload_n 3, 1) := by decide +kernel
theorem dL_law_402 : decode cL_law 402 = .ok (.invokestatic 87, 3) := by decide +kernel
theorem dL_law_405 : decode cL_law 405 = .ok (.istore 5, 2) := by decide +kernel
theorem dL_law_407 : decode cL_law 407 = .ok (.aload_n 2, 1) := by decide +kernel
theorem dL_law_408 : decode cL_law 408 = .ok (.aload_n 0, 1) := by decide +kernel
theorem dL_law_409 : decode cL_law 409 = .ok (.iload 4, 2) := by decide +kernel
theorem dL_law_411 : decode cL_law 411 = .ok (.iconst 1, 1) := by decide +kernel
theorem dL_law_412 : decode cL_law 412 = .ok (.iadd, 1) := by decide +kernel
theorem dL_law_413 : decode cL_law 413 = .ok (.iaload, 1) := by decide +kernel
theorem dL_law_414 : decode cL_law 414 = .ok (.aload_n 0, 1) := by decide +kernel
theorem dL_law_415 : decode cL_law 415 = .ok (.iload 4, 2) := by decide +kernel
theorem dL_law_417 : decode cL_law 417 = .ok (.iconst 2, 1) := by decide +kernel
theorem dL_law_418 : decode cL_law 418 = .ok (.iadd, 1) := by decide +kernel
theorem dL_law_419 : decode cL_law 419 = .ok (.iaload, 1) := by decide +kernel
theorem dL_law_420 : decode cL_law 420 = .ok (.invokevirtual 90, 3) := by decide +kernel
theorem dL_law_423 : decode cL_law 423 = .ok (.istore 6, 2) := by decide +kernel
theorem dL_law_425 : decode cL_law 425 = .ok (.aload_n 2, 1) := by decide +kernel
theorem dL_law_426 : decode cL_law 426 = .ok (.invokevirtual 59, 3) := by decide +kernel
theorem dL_law_429 : decode cL_law 429 = .ok (.iload 5, 2) := by decide +kernel
theorem dL_law_431 : decode cL_law 431 = .ok (.if_icmp .eq 5, 3) := by decide +kernel
theorem dL_law_434 : decode cL_law 434 = .ok (.iconst 0, 1) := by decide +kernel
theorem dL_law_435 : decode cL_law 435 = .ok (.ireturn, 1) := by decide +kernel
theorem dL_law_436 : decode cL_law 436 = .ok (.iload 5, 2) := by decide +kernel
theorem dL_law_438 : decode cL_law 438 = .ok (.ifCond .ne 15, 3) := by decide +kernel
theorem dL_law_441 : decode cL_law 441 = .ok (.aload_n 3, 1) := by decide +kernel
theorem dL_law_442 : decode cL_law 442 = .ok (.iconst 0, 1) := by decide +kernel
theorem dL_law_443 : decode cL_law 443 = .ok (.laload, 1) := by decide +kernel
theorem dL_law_444 : decode cL_law 444 = .ok (.iload 6, 2) := by decide +kernel
theorem dL_law_446 : decode cL_law 446 = .ok (.i2l, 1) := by decide +kernel
theorem dL_law_447 : decode cL_law 447 = .ok (.lcmp, 1) := by decide +kernel
theorem dL_law_448 : decode cL_law 448 = .ok (.ifCond .eq 5, 3) := by decide +kernel
theorem dL_law_451 : decode cL_law 451 = .ok (.iconst 0, 1) := by decide +kernel
theorem dL_law_452 : decode cL_law 452 = .ok (.ireturn, 1) := by decide +kernel
theorem dL_law_453 : decode cL_law 453 = .ok (.goto 413, 3) := by decide +kernel
theorem dL_law_456 : decode cL_law 456 = .ok (.aload_n 1, 1) := by decide +kernel
theorem dL_law_457 : decode cL_law 457 = .ok (.aload_n 0, 1) := by decide +kernel
theorem dL_law_458 : decode cL_law 458 = .ok (.iload 4, 2) := by decide +kernel
theorem dL_law_460 : decode cL_law 460 = .ok (.iconst 1, 1) := by decide +kernel
theorem dL_law_461 : decode cL_law 461 = .ok (.iadd, 1) := by decide +kernel
theorem dL_law_462 : decode cL_law 462 = .ok (.iaload, 1) := by decide +kernel
theorem dL_law_463 : decode cL_law 463 = .ok (.aload_n 0, 1) := by decide +kernel
theorem dL_law_464 : decode cL_law 464 = .ok (.iload 4, 2) := by decide +kernel
theorem dL_law_466 : decode cL_law 466 = .ok (.iconst 2, 1) := by decide +kernel
theorem dL_law_467 : decode cL_law 467 = .ok (.iadd, 1) := by decide +kernel
theorem dL_law_468 : decode cL_law 468 = .ok (.iaload, 1) := by decide +kernel
theorem dL_law_469 : decode cL_law 469 = .ok (.aload_n 3, 1) := by decide +kernel
theorem dL_law_470 : decode cL_law 470 = .ok (.invokestatic 91, 3) := by decide +kernel
theorem dL_law_473 : decode cL_law 473 = .ok (.istore 5, 2) := by decide +kernel
theorem dL_law_475 : decode cL_law 475 = .ok (.aload_n 2, 1) := by decide +kernel
theorem dL_law_476 : decode cL_law 476 = .ok (.aload_n 0, 1) := by decide +kernel
theorem dL_law_477 : decode cL_law 477 = .ok (.iload 4, 2) := by decide +kernel
theorem dL_law_479 : decode cL_law 479 = .ok (.iconst 1, 1) := by decide +kernel
theorem dL_law_480 : decode cL_law 480 = .ok (.iadd, 1) := by decide +kernel
theorem dL_law_481 : decode cL_law 481 = .ok (.iaload, 1) := by decide +kernel
theorem dL_law_482 : decode cL_law 482 = .ok (.aload_n 0, 1) := by decide +kernel
theorem dL_law_483 : decode cL_law 483 = .ok (.iload 4, 2) := by decide +kernel
theorem dL_law_485 : decode cL_law 485 = .ok (.iconst 2, 1) := by decide +kernel
theorem dL_law_486 : decode cL_law 486 = .ok (.iadd, 1) := by decide +kernel
theorem dL_law_487 : decode cL_law 487 = .ok (.iaload, 1) := by decide +kernel
theorem dL_law_488 : decode cL_law 488 = .ok (.invokevirtual 93, 3) := by decide +kernel
theorem dL_law_491 : decode cL_law 491 = .ok (.istore 6, 2) := by decide +kernel
theorem dL_law_493 : decode cL_law 493 = .ok (.aload_n 2, 1) := by decide +kernel
theorem dL_law_494 : decode cL_law 494 = .ok (.invokevirtual 59, 3) := by decide +kernel
theorem dL_law_497 : decode cL_law 497 = .ok (.iload 5, 2) := by decide +kernel
theorem dL_law_499 : decode cL_law 499 = .ok (.if_icmp .eq 5, 3) := by decide +kernel
theorem dL_law_502 : decode cL_law 502 = .ok (.iconst 0, 1) := by decide +kernel
theorem dL_law_503 : decode cL_law 503 = .ok (.ireturn, 1) := by decide +kernel
theorem dL_law_504 : decode cL_law 504 = .ok (.iload 5, 2) := by decide +kernel
theorem dL_law_506 : decode cL_law 506 = .ok (.ifCond .ne 15, 3) := by decide +kernel
theorem dL_law_509 : decode cL_law 509 = .ok (.aload_n 3, 1) := by decide +kernel
theorem dL_law_510 : decode cL_law 510 = .ok (.iconst 0, 1) := by decide +kernel
theorem dL_law_511 : decode cL_law 511 = .ok (.laload, 1) := by decide +kernel
theorem dL_law_512 : decode cL_law 512 = .ok (.iload 6, 2) := by decide +kernel
theorem dL_law_514 : decode cL_law 514 = .ok (.i2l, 1) := by decide +kernel
theorem dL_law_515 : decode cL_law 515 = .ok (.lcmp, 1) := by decide +kernel
theorem dL_law_516 : decode cL_law 516 = .ok (.ifCond .eq 5, 3) := by decide +kernel
theorem dL_law_519 : decode cL_law 519 = .ok (.iconst 0, 1) := by decide +kernel
theorem dL_law_520 : decode cL_law 520 = .ok (.ireturn, 1) := by decide +kernel
theorem dL_law_521 : decode cL_law 521 = .ok (.goto 345, 3) := by decide +kernel
theorem dL_law_524 : decode cL_law 524 = .ok (.aload_n 1, 1) := by decide +kernel
theorem dL_law_525 : decode cL_law 525 = .ok (.aload_n 0, 1) := by decide +kernel
theorem dL_law_526 : decode cL_law 526 = .ok (.iload 4, 2) := by decide +kernel
theorem dL_law_528 : decode cL_law 528 = .ok (.iconst 1, 1) := by decide +kernel
theorem dL_law_529 : decode cL_law 529 = .ok (.iadd, 1) := by decide +kernel
theorem dL_law_530 : decode cL_law 530 = .ok (.iaload, 1) := by decide +kernel
theorem dL_law_531 : decode cL_law 531 = .ok (.aload_n 0, 1) := by decide +kernel
theorem dL_law_532 : decode cL_law 532 = .ok (.iload 4, 2) := by decide +kernel
theorem dL_law_534 : decode cL_law 534 = .ok (.iconst 2, 1) := by decide +kernel
theorem dL_law_535 : decode cL_law 535 = .ok (.iadd, 1) := by decide +kernel
theorem dL_law_536 : decode cL_law 536 = .ok (.iaload, 1) := by decide +kernel
theorem dL_law_537 : decode cL_law 537 = .ok (.aload_n 3, 1) := by decide +kernel
theorem dL_law_538 : decode cL_law 538 = .ok (.invokestatic 94, 3) := by decide +kernel
theorem dL_law_541 : decode cL_law 541 = .ok (.istore 5, 2) := by decide +kernel
theorem dL_law_543 : decode cL_law 543 = .ok (.aload_n 2, 1) := by decide +kernel
theorem dL_law_544 : decode cL_law 544 = .ok (.aload_n 0, 1) := by decide +kernel
theorem dL_law_545 : decode cL_law 545 = .ok (.iload 4, 2) := by decide +kernel
theorem dL_law_547 : decode cL_law 547 = .ok (.iconst 1, 1) := by decide +kernel
theorem dL_law_548 : decode cL_law 548 = .ok (.iadd, 1) := by decide +kernel
theorem dL_law_549 : decode cL_law 549 = .ok (.iaload, 1) := by decide +kernel
theorem dL_law_550 : decode cL_law 550 = .ok (.aload_n 0, 1) := by decide +kernel
theorem dL_law_551 : decode cL_law 551 = .ok (.iload 4, 2) := by decide +kernel
theorem dL_law_553 : decode cL_law 553 = .ok (.iconst 2, 1) := by decide +kernel
theorem dL_law_554 : decode cL_law 554 = .ok (.iadd, 1) := by decide +kernel
theorem dL_law_555 : decode cL_law 555 = .ok (.iaload, 1) := by decide +kernel
theorem dL_law_556 : decode cL_law 556 = .ok (.invokevirtual 96, 3) := by decide +kernel
theorem dL_law_559 : decode cL_law 559 = .ok (.istore 6, 2) := by decide +kernel
theorem dL_law_561 : decode cL_law 561 = .ok (.aload_n 2, 1) := by decide +kernel
theorem dL_law_562 : decode cL_law 562 = .ok (.invokevirtual 59, 3) := by decide +kernel
theorem dL_law_565 : decode cL_law 565 = .ok (.iload 5, 2) := by decide +kernel
theorem dL_law_567 : decode cL_law 567 = .ok (.if_icmp .eq 5, 3) := by decide +kernel
theorem dL_law_570 : decode cL_law 570 = .ok (.iconst 0, 1) := by decide +kernel
theorem dL_law_571 : decode cL_law 571 = .ok (.ireturn, 1) := by decide +kernel
theorem dL_law_572 : decode cL_law 572 = .ok (.iload 5, 2) := by decide +kernel
theorem dL_law_574 : decode cL_law 574 = .ok (.ifCond .ne 15, 3) := by decide +kernel
theorem dL_law_577 : decode cL_law 577 = .ok (.aload_n 3, 1) := by decide +kernel
theorem dL_law_578 : decode cL_law 578 = .ok (.iconst 0, 1) := by decide +kernel
theorem dL_law_579 : decode cL_law 579 = .ok (.laload, 1) := by decide +kernel
theorem dL_law_580 : decode cL_law 580 = .ok (.iload 6, 2) := by decide +kernel
theorem dL_law_582 : decode cL_law 582 = .ok (.i2l, 1) := by decide +kernel
theorem dL_law_583 : decode cL_law 583 = .ok (.lcmp, 1) := by decide +kernel
theorem dL_law_584 : decode cL_law 584 = .ok (.ifCond .eq 5, 3) := by decide +kernel
theorem dL_law_587 : decode cL_law 587 = .ok (.iconst 0, 1) := by decide +kernel
theorem dL_law_588 : decode cL_law 588 = .ok (.ireturn, 1) := by decide +kernel
theorem dL_law_589 : decode cL_law 589 = .ok (.goto 277, 3) := by decide +kernel
theorem dL_law_592 : decode cL_law 592 = .ok (.aload_n 1, 1) := by decide +kernel
theorem dL_law_593 : decode cL_law 593 = .ok (.aload_n 0, 1) := by decide +kernel
theorem dL_law_594 : decode cL_law 594 = .ok (.iload 4, 2) := by decide +kernel
theorem dL_law_596 : decode cL_law 596 = .ok (.iconst 1, 1) := by decide +kernel
theorem dL_law_597 : decode cL_law 597 = .ok (.iadd, 1) := by decide +kernel
theorem dL_law_598 : decode cL_law 598 = .ok (.iaload, 1) := by decide +kernel
theorem dL_law_599 : decode cL_law 599 = .ok (.aload_n 3, 1) := by decide +kernel
theorem dL_law_600 : decode cL_law 600 = .ok (.invokestatic 97, 3) := by decide +kernel
theorem dL_law_603 : decode cL_law 603 = .ok (.istore 5, 2) := by decide +kernel
theorem dL_law_605 : decode cL_law 605 = .ok (.aload_n 2, 1) := by decide +kernel
theorem dL_law_606 : decode cL_law 606 = .ok (.aload_n 0, 1) := by decide +kernel
theorem dL_law_607 : decode cL_law 607 = .ok (.iload 4, 2) := by decide +kernel
theorem dL_law_609 : decode cL_law 609 = .ok (.iconst 1, 1) := by decide +kernel
theorem dL_law_610 : decode cL_law 610 = .ok (.iadd, 1) := by decide +kernel
theorem dL_law_611 : decode cL_law 611 = .ok (.iaload, 1) := by decide +kernel
theorem dL_law_612 : decode cL_law 612 = .ok (.invokevirtual 99, 3) := by decide +kernel
theorem dL_law_615 : decode cL_law 615 = .ok (.istore 6, 2) := by decide +kernel
theorem dL_law_617 : decode cL_law 617 = .ok (.aload_n 2, 1) := by decide +kernel
theorem dL_law_618 : decode cL_law 618 = .ok (.invokevirtual 59, 3) := by decide +kernel
theorem dL_law_621 : decode cL_law 621 = .ok (.iload 5, 2) := by decide +kernel
theorem dL_law_623 : decode cL_law 623 = .ok (.if_icmp .eq 5, 3) := by decide +kernel
theorem dL_law_626 : decode cL_law 626 = .ok (.iconst 0, 1) := by decide +kernel
theorem dL_law_627 : decode cL_law 627 = .ok (.ireturn, 1) := by decide +kernel
theorem dL_law_628 : decode cL_law 628 = .ok (.iload 5, 2) := by decide +kernel
theorem dL_law_630 : decode cL_law 630 = .ok (.ifCond .ne 15, 3) := by decide +kernel
theorem dL_law_633 : decode cL_law 633 = .ok (.aload_n 3, 1) := by decide +kernel
theorem dL_law_634 : decode cL_law 634 = .ok (.iconst 0, 1) := by decide +kernel
theorem dL_law_635 : decode cL_law 635 = .ok (.laload, 1) := by decide +kernel
theorem dL_law_636 : decode cL_law 636 = .ok (.iload 6, 2) := by decide +kernel
theorem dL_law_638 : decode cL_law 638 = .ok (.i2l, 1) := by decide +kernel
theorem dL_law_639 : decode cL_law 639 = .ok (.lcmp, 1) := by decide +kernel
theorem dL_law_640 : decode cL_law 640 = .ok (.ifCond .eq 5, 3) := by decide +kernel
theorem dL_law_643 : decode cL_law 643 = .ok (.iconst 0, 1) := by decide +kernel
theorem dL_law_644 : decode cL_law 644 = .ok (.ireturn, 1) := by decide +kernel
theorem dL_law_645 : decode cL_law 645 = .ok (.goto 221, 3) := by decide +kernel
theorem dL_law_648 : decode cL_law 648 = .ok (.aload_n 1, 1) := by decide +kernel
theorem dL_law_649 : decode cL_law 649 = .ok (.aload_n 0, 1) := by decide +kernel
theorem dL_law_650 : decode cL_law 650 = .ok (.iload 4, 2) := by decide +kernel
theorem dL_law_652 : decode cL_law 652 = .ok (.iconst 1, 1) := by decide +kernel
theorem dL_law_653 : decode cL_law 653 = .ok (.iadd, 1) := by decide +kernel
theorem dL_law_654 : decode cL_law 654 = .ok (.iaload, 1) := by decide +kernel
theorem dL_law_655 : decode cL_law 655 = .ok (.aload_n 0, 1) := by decide +kernel
theorem dL_law_656 : decode cL_law 656 = .ok (.iload 4, 2) := by decide +kernel
theorem dL_law_658 : decode cL_law 658 = .ok (.iconst 2, 1) := by decide +kernel
theorem dL_law_659 : decode cL_law 659 = .ok (.iadd, 1) := by decide +kernel
theorem dL_law_660 : decode cL_law 660 = .ok (.iaload, 1) := by decide +kernel
theorem dL_law_661 : decode cL_law 661 = .ok (.aload_n 3, 1) := by decide +kernel
theorem dL_law_662 : decode cL_law 662 = .ok (.invokestatic 100, 3) := by decide +kernel
theorem dL_law_665 : decode cL_law 665 = .ok (.istore 5, 2) := by decide +kernel
theorem dL_law_667 : decode cL_law 667 = .ok (.aload_n 2, 1) := by decide +kernel
theorem dL_law_668 : decode cL_law 668 = .ok (.aload_n 0, 1) := by decide +kernel
theorem dL_law_669 : decode cL_law 669 = .ok (.iload 4, 2) := by decide +kernel
theorem dL_law_671 : decode cL_law 671 = .ok (.iconst 1, 1) := by decide +kernel
theorem dL_law_672 : decode cL_law 672 = .ok (.iadd, 1) := by decide +kernel
theorem dL_law_673 : decode cL_law 673 = .ok (.iaload, 1) := by decide +kernel
theorem dL_law_674 : decode cL_law 674 = .ok (.aload_n 0, 1) := by decide +kernel
theorem dL_law_675 : decode cL_law 675 = .ok (.iload 4, 2) := by decide +kernel
theorem dL_law_677 : decode cL_law 677 = .ok (.iconst 2, 1) := by decide +kernel
theorem dL_law_678 : decode cL_law 678 = .ok (.iadd, 1) := by decide +kernel
theorem dL_law_679 : decode cL_law 679 = .ok (.iaload, 1) := by decide +kernel
theorem dL_law_680 : decode cL_law 680 = .ok (.invokevirtual 102, 3) := by decide +kernel
theorem dL_law_683 : decode cL_law 683 = .ok (.istore 6, 2) := by decide +kernel
theorem dL_law_685 : decode cL_law 685 = .ok (.aload_n 2, 1) := by decide +kernel
theorem dL_law_686 : decode cL_law 686 = .ok (.invokevirtual 59, 3) := by decide +kernel
theorem dL_law_689 : decode cL_law 689 = .ok (.iload 5, 2) := by decide +kernel
theorem dL_law_691 : decode cL_law 691 = .ok (.if_icmp .eq 5, 3) := by decide +kernel
theorem dL_law_694 : decode cL_law 694 = .ok (.iconst 0, 1) := by decide +kernel
theorem dL_law_695 : decode cL_law 695 = .ok (.ireturn, 1) := by decide +kernel
theorem dL_law_696 : decode cL_law 696 = .ok (.iload 5, 2) := by decide +kernel
theorem dL_law_698 : decode cL_law 698 = .ok (.ifCond .ne 15, 3) := by decide +kernel
theorem dL_law_701 : decode cL_law 701 = .ok (.aload_n 3, 1) := by decide +kernel
theorem dL_law_702 : decode cL_law 702 = .ok (.iconst 0, 1) := by decide +kernel
theorem dL_law_703 : decode cL_law 703 = .ok (.laload, 1) := by decide +kernel
theorem dL_law_704 : decode cL_law 704 = .ok (.iload 6, 2) := by decide +kernel
theorem dL_law_706 : decode cL_law 706 = .ok (.i2l, 1) := by decide +kernel
theorem dL_law_707 : decode cL_law 707 = .ok (.lcmp, 1) := by decide +kernel
theorem dL_law_708 : decode cL_law 708 = .ok (.ifCond .eq 5, 3) := by decide +kernel
theorem dL_law_711 : decode cL_law 711 = .ok (.iconst 0, 1) := by decide +kernel
theorem dL_law_712 : decode cL_law 712 = .ok (.ireturn, 1) := by decide +kernel
theorem dL_law_713 : decode cL_law 713 = .ok (.goto 153, 3) := by decide +kernel
theorem dL_law_716 : decode cL_law 716 = .ok (.aload_n 1, 1) := by decide +kernel
theorem dL_law_717 : decode cL_law 717 = .ok (.aload_n 0, 1) := by decide +kernel
theorem dL_law_718 : decode cL_law 718 = .ok (.iload 4, 2) := by decide +kernel
theorem dL_law_720 : decode cL_law 720 = .ok (.iconst 1, 1) := by decide +kernel
theorem dL_law_721 : decode cL_law 721 = .ok (.iadd, 1) := by decide +kernel
theorem dL_law_722 : decode cL_law 722 = .ok (.iaload, 1) := by decide +kernel
theorem dL_law_723 : decode cL_law 723 = .ok (.aload_n 3, 1) := by decide +kernel
theorem dL_law_724 : decode cL_law 724 = .ok (.invokestatic 103, 3) := by decide +kernel
theorem dL_law_727 : decode cL_law 727 = .ok (.istore 5, 2) := by decide +kernel
theorem dL_law_729 : decode cL_law 729 = .ok (.aload_n 2, 1) := by decide +kernel
theorem dL_law_730 : decode cL_law 730 = .ok (.aload_n 0, 1) := by decide +kernel
theorem dL_law_731 : decode cL_law 731 = .ok (.iload 4, 2) := by decide +kernel
theorem dL_law_733 : decode cL_law 733 = .ok (.iconst 1, 1) := by decide +kernel
theorem dL_law_734 : decode cL_law 734 = .ok (.iadd, 1) := by decide +kernel
theorem dL_law_735 : decode cL_law 735 = .ok (.iaload, 1) := by decide +kernel
theorem dL_law_736 : decode cL_law 736 = .ok (.invokevirtual 105, 3) := by decide +kernel
theorem dL_law_739 : decode cL_law 739 = .ok (.istore 6, 2) := by decide +kernel
theorem dL_law_741 : decode cL_law 741 = .ok (.aload_n 2, 1) := by decide +kernel
theorem dL_law_742 : decode cL_law 742 = .ok (.invokevirtual 59, 3) := by decide +kernel
theorem dL_law_745 : decode cL_law 745 = .ok (.iload 5, 2) := by decide +kernel
theorem dL_law_747 : decode cL_law 747 = .ok (.if_icmp .eq 5, 3) := by decide +kernel
theorem dL_law_750 : decode cL_law 750 = .ok (.iconst 0, 1) := by decide +kernel
theorem dL_law_751 : decode cL_law 751 = .ok (.ireturn, 1) := by decide +kernel
theorem dL_law_752 : decode cL_law 752 = .ok (.iload 5, 2) := by decide +kernel
theorem dL_law_754 : decode cL_law 754 = .ok (.ifCond .ne 15, 3) := by decide +kernel
theorem dL_law_757 : decode cL_law 757 = .ok (.aload_n 3, 1) := by decide +kernel
theorem dL_law_758 : decode cL_law 758 = .ok (.iconst 0, 1) := by decide +kernel
theorem dL_law_759 : decode cL_law 759 = .ok (.laload, 1) := by decide +kernel
theorem dL_law_760 : decode cL_law 760 = .ok (.iload 6, 2) := by decide +kernel
theorem dL_law_762 : decode cL_law 762 = .ok (.i2l, 1) := by decide +kernel
theorem dL_law_763 : decode cL_law 763 = .ok (.lcmp, 1) := by decide +kernel
theorem dL_law_764 : decode cL_law 764 = .ok (.ifCond .eq 5, 3) := by decide +kernel
theorem dL_law_767 : decode cL_law 767 = .ok (.iconst 0, 1) := by decide +kernel
theorem dL_law_768 : decode cL_law 768 = .ok (.ireturn, 1) := by decide +kernel
theorem dL_law_769 : decode cL_law 769 = .ok (.goto 97, 3) := by decide +kernel
theorem dL_law_772 : decode cL_law 772 = .ok (.aload_n 1, 1) := by decide +kernel
theorem dL_law_773 : decode cL_law 773 = .ok (.invokevirtual 106, 3) := by decide +kernel
theorem dL_law_776 : decode cL_law 776 = .ok (.aload_n 2, 1) := by decide +kernel
theorem dL_law_777 : decode cL_law 777 = .ok (.invokevirtual 109, 3) := by decide +kernel
theorem dL_law_780 : decode cL_law 780 = .ok (.goto 86, 3) := by decide +kernel
theorem dL_law_783 : decode cL_law 783 = .ok (.aload_n 1, 1) := by decide +kernel
theorem dL_law_784 : decode cL_law 784 = .ok (.aload_n 0, 1) := by decide +kernel
theorem dL_law_785 : decode cL_law 785 = .ok (.iload 4, 2) := by decide +kernel
theorem dL_law_787 : decode cL_law 787 = .ok (.iconst 1, 1) := by decide +kernel
theorem dL_law_788 : decode cL_law 788 = .ok (.iadd, 1) := by decide +kernel
theorem dL_law_789 : decode cL_law 789 = .ok (.iaload, 1) := by decide +kernel
theorem dL_law_790 : decode cL_law 790 = .ok (.aload_n 3, 1) := by decide +kernel
theorem dL_law_791 : decode cL_law 791 = .ok (.invokestatic 110, 3) := by decide +kernel
theorem dL_law_794 : decode cL_law 794 = .ok (.istore 5, 2) := by decide +kernel
theorem dL_law_796 : decode cL_law 796 = .ok (.aload_n 2, 1) := by decide +kernel
theorem dL_law_797 : decode cL_law 797 = .ok (.aload_n 0, 1) := by decide +kernel
theorem dL_law_798 : decode cL_law 798 = .ok (.iload 4, 2) := by decide +kernel
theorem dL_law_800 : decode cL_law 800 = .ok (.iconst 1, 1) := by decide +kernel
theorem dL_law_801 : decode cL_law 801 = .ok (.iadd, 1) := by decide +kernel
theorem dL_law_802 : decode cL_law 802 = .ok (.iaload, 1) := by decide +kernel
theorem dL_law_803 : decode cL_law 803 = .ok (.invokevirtual 112, 3) := by decide +kernel
theorem dL_law_806 : decode cL_law 806 = .ok (.istore 6, 2) := by decide +kernel
theorem dL_law_808 : decode cL_law 808 = .ok (.aload_n 2, 1) := by decide +kernel
theorem dL_law_809 : decode cL_law 809 = .ok (.invokevirtual 59, 3) := by decide +kernel
theorem dL_law_812 : decode cL_law 812 = .ok (.iload 5, 2) := by decide +kernel
theorem dL_law_814 : decode cL_law 814 = .ok (.if_icmp .eq 5, 3) := by decide +kernel
theorem dL_law_817 : decode cL_law 817 = .ok (.iconst 0, 1) := by decide +kernel
theorem dL_law_818 : decode cL_law 818 = .ok (.ireturn, 1) := by decide +kernel
theorem dL_law_819 : decode cL_law 819 = .ok (.iload 5, 2) := by decide +kernel
theorem dL_law_821 : decode cL_law 821 = .ok (.ifCond .ne 15, 3) := by decide +kernel
theorem dL_law_824 : decode cL_law 824 = .ok (.aload_n 3, 1) := by decide +kernel
theorem dL_law_825 : decode cL_law 825 = .ok (.iconst 0, 1) := by decide +kernel
theorem dL_law_826 : decode cL_law 826 = .ok (.laload, 1) := by decide +kernel
theorem dL_law_827 : decode cL_law 827 = .ok (.iload 6, 2) := by decide +kernel
theorem dL_law_829 : decode cL_law 829 = .ok (.i2l, 1) := by decide +kernel
theorem dL_law_830 : decode cL_law 830 = .ok (.lcmp, 1) := by decide +kernel
theorem dL_law_831 : decode cL_law 831 = .ok (.ifCond .eq 5, 3) := by decide +kernel
theorem dL_law_834 : decode cL_law 834 = .ok (.iconst 0, 1) := by decide +kernel
theorem dL_law_835 : decode cL_law 835 = .ok (.ireturn, 1) := by decide +kernel
theorem dL_law_836 : decode cL_law 836 = .ok (.goto 30, 3) := by decide +kernel
theorem dL_law_839 : decode cL_law 839 = .ok (.aload_n 1, 1) := by decide +kernel
theorem dL_law_840 : decode cL_law 840 = .ok (.invokevirtual 113, 3) := by decide +kernel
theorem dL_law_843 : decode cL_law 843 = .ok (.aload_n 2, 1) := by decide +kernel
theorem dL_law_844 : decode cL_law 844 = .ok (.invokevirtual 116, 3) := by decide +kernel
theorem dL_law_847 : decode cL_law 847 = .ok (.if_icmp .eq 19, 3) := by decide +kernel
theorem dL_law_850 : decode cL_law 850 = .ok (.iconst 0, 1) := by decide +kernel
theorem dL_law_851 : decode cL_law 851 = .ok (.ireturn, 1) := by decide +kernel
theorem dL_law_852 : decode cL_law 852 = .ok (.aload_n 1, 1) := by decide +kernel
theorem dL_law_853 : decode cL_law 853 = .ok (.invokevirtual 117, 3) := by decide +kernel
theorem dL_law_856 : decode cL_law 856 = .ok (.aload_n 2, 1) := by decide +kernel
theorem dL_law_857 : decode cL_law 857 = .ok (.invokevirtual 121, 3) := by decide +kernel
theorem dL_law_860 : decode cL_law 860 = .ok (.lcmp, 1) := by decide +kernel
theorem dL_law_861 : decode cL_law 861 = .ok (.ifCond .eq 5, 3) := by decide +kernel
theorem dL_law_864 : decode cL_law 864 = .ok (.iconst 0, 1) := by decide +kernel
theorem dL_law_865 : decode cL_law 865 = .ok (.ireturn, 1) := by decide +kernel
theorem dL_law_866 : decode cL_law 866 = .ok (.iinc 4 4, 3) := by decide +kernel
theorem dL_law_869 : decode cL_law 869 = .ok (.goto (-846), 3) := by decide +kernel
theorem dL_law_872 : decode cL_law 872 = .ok (.iconst 1, 1) := by decide +kernel
theorem dL_law_873 : decode cL_law 873 = .ok (.ireturn, 1) := by decide +kernel
