theorem dX11_usesVariable_20 : decode cX11_usesVariable 20 = .ok (.iload_n 2, 1) := by decide +kernel
theorem dX11_usesVariable_21 : decode cX11_usesVariable 21 = .ok (.if_icmp .eq 31, 3) := by decide +kernel
theorem dX11_usesVariable_24 : decode cX11_usesVariable 24 = .ok (.aload_n 0, 1) := by decide +kernel
theorem dX11_usesVariable_25 : decode cX11_usesVariable 25 = .ok (.getfield 54, 3) := by decide +kernel
theorem dX11_usesVariable_28 : decode cX11_usesVariable 28 = .ok (.iconst 2, 1) := by decide +kernel
theorem dX11_usesVariable_29 : decode cX11_usesVariable 29 = .ok (.iload_n 1, 1) := by decide +kernel
theorem dX11_usesVariable_30 : decode cX11_usesVariable 30 = .ok (.imul, 1) := by decide +kernel
theorem dX11_usesVariable_31 : decode cX11_usesVariable 31 = .ok (.iconst 1, 1) := by decide +kernel
theorem dX11_usesVariable_32 : decode cX11_usesVariable 32 = .ok (.iadd, 1) := by decide +kernel
theorem dX11_usesVariable_33 : decode cX11_usesVariable 33 = .ok (.iaload, 1) := by decide +kernel
theorem dX11_usesVariable_34 : decode cX11_usesVariable 34 = .ok (.iconst 2, 1) := by decide +kernel
theorem dX11_usesVariable_35 : decode cX11_usesVariable 35 = .ok (.if_icmp .ne 21, 3) := by decide +kernel
theorem dX11_usesVariable_38 : decode cX11_usesVariable 38 = .ok (.aload_n 0, 1) := by decide +kernel
theorem dX11_usesVariable_39 : decode cX11_usesVariable 39 = .ok (.getfield 57, 3) := by decide +kernel
theorem dX11_usesVariable_42 : decode cX11_usesVariable 42 = .ok (.iconst 2, 1) := by decide +kernel
theorem dX11_usesVariable_43 : decode cX11_usesVariable 43 = .ok (.iload_n 1, 1) := by decide +kernel
theorem dX11_usesVariable_44 : decode cX11_usesVariable 44 = .ok (.imul, 1) := by decide +kernel
theorem dX11_usesVariable_45 : decode cX11_usesVariable 45 = .ok (.iconst 1, 1) := by decide +kernel
theorem dX11_usesVariable_46 : decode cX11_usesVariable 46 = .ok (.iadd, 1) := by decide +kernel
theorem dX11_usesVariable_47 : decode cX11_usesVariable 47 = .ok (.iaload, 1) := by decide +kernel
theorem dX11_usesVariable_48 : decode cX11_usesVariable 48 = .ok (.iload_n 2, 1) := by decide +kernel
theorem dX11_usesVariable_49 : decode cX11_usesVariable 49 = .ok (.if_icmp .ne 7, 3) := by decide +kernel
theorem dX11_usesVariable_52 : decode cX11_usesVariable 52 = .ok (.iconst 1, 1) := by decide +kernel
theorem dX11_usesVariable_53 : decode cX11_usesVariable 53 = .ok (.goto 4, 3) := by decide +kernel
theorem dX11_usesVariable_56 : decode cX11_usesVariable 56 = .ok (.iconst 0, 1) := by decide +kernel
theorem dX11_usesVariable_57 : decode cX11_usesVariable 57 = .ok (.ireturn, 1) := by decide +kernel
theorem dX11_usesValue_0 : decode cX11_usesValue 0 = .ok (.aload_n 0, 1) := by decide +kernel
theorem dX11_usesValue_1 : decode cX11_usesValue 1 = .ok (.getfield 54, 3) := by decide +kernel
theorem dX11_usesValue_4 : decode cX11_usesValue 4 = .ok (.iconst 2, 1) := by decide +kernel
theorem dX11_usesValue_5 : decode cX11_usesValue 5 = .ok (.iload_n 1, 1) := by decide +kernel
theorem dX11_usesValue_6 : decode cX11_usesValue 6 = .ok (.imul, 1) := by decide +kernel
theorem dX11_usesValue_7 : decode cX11_usesValue 7 = .ok (.iaload, 1) := by decide +kernel
theorem dX11_usesValue_8 : decode cX11_usesValue 8 = .ok (.iconst 3, 1) := by decide +kernel
theorem dX11_usesValue_9 : decode cX11_usesValue 9 = .ok (.if_icmp .ne 15, 3) := by decide +kernel
theorem dX11_usesValue_12 : decode cX11_usesValue 12 = .ok (.aload_n 0, 1) := by decide +kernel
theorem dX11_usesValue_13 : decode cX11_usesValue 13 = .ok (.getfield 57, 3) := by decide +kernel
theorem dX11_usesValue_16 : decode cX11_usesValue 16 = .ok (.iconst 2, 1) := by decide +kernel
theorem dX11_usesValue_17 : decode cX11_usesValue 17 = .ok (.iload_n 1, 1) := by decide +kernel
theorem dX11_usesValue_18 : decode cX11_usesValue 18 = .ok (.imul, 1) := by decide +kernel
theorem dX11_usesValue_19 : decode cX11_usesValue 19 = .ok (.iaload, 1) := by decide +kernel
theorem dX11_usesValue_20 : decode cX11_usesValue 20 = .ok (.iload_n 2, 1) := by decide +kernel
theorem dX11_usesValue_21 : decode cX11_usesValue 21 = .ok (.if_icmp .eq 31, 3) := by decide +kernel
theorem dX11_usesValue_24 : decode cX11_usesValue 24 = .ok (.aload_n 0, 1) := by decide +kernel
theorem dX11_usesValue_25 : decode cX11_usesValue 25 = .ok (.getfield 54, 3) := by decide +kernel
theorem dX11_usesValue_28 : decode cX11_usesValue 28 = .ok (.iconst 2, 1) := by decide +kernel
theorem dX11_usesValue_29 : decode cX11_usesValue 29 = .ok (.iload_n 1, 1) := by decide +kernel
theorem dX11_usesValue_30 : decode cX11_usesValue 30 = .ok (.imul, 1) := by decide +kernel
theorem dX11_usesValue_31 : decode cX11_usesValue 31 = .ok (.iconst 1, 1) := by decide +kernel
theorem dX11_usesValue_32 : decode cX11_usesValue 32 = .ok (.iadd, 1) := by decide +kernel
theorem dX11_usesValue_33 : decode cX11_usesValue 33 = .ok (.iaload, 1) := by decide +kernel
theorem dX11_usesValue_34 : decode cX11_usesValue 34 = .ok (.iconst 3, 1) := by decide +kernel
theorem dX11_usesValue_35 : decode cX11_usesValue 35 = .ok (.if_icmp .ne 21, 3) := by decide +kernel
theorem dX11_usesValue_38 : decode cX11_usesValue 38 = .ok (.aload_n 0, 1) := by decide +kernel
theorem dX11_usesValue_39 : decode cX11_usesValue 39 = .ok (.getfield 57, 3) := by decide +kernel
theorem dX11_usesValue_42 : decode cX11_usesValue 42 = .ok (.iconst 2, 1) := by decide +kernel
theorem dX11_usesValue_43 : decode cX11_usesValue 43 = .ok (.iload_n 1, 1) := by decide +kernel
theorem dX11_usesValue_44 : decode cX11_usesValue 44 = .ok (.imul, 1) := by decide +kernel
theorem dX11_usesValue_45 : decode cX11_usesValue 45 = .ok (.iconst 1, 1) := by decide +kernel
theorem dX11_usesValue_46 : decode cX11_usesValue 46 = .ok (.iadd, 1) := by decide +kernel
theorem dX11_usesValue_47 : decode cX11_usesValue 47 = .ok (.iaload, 1) := by decide +kernel
theorem dX11_usesValue_48 : decode cX11_usesValue 48 = .ok (.iload_n 2, 1) := by decide +kernel
theorem dX11_usesValue_49 : decode cX11_usesValue 49 = .ok (.if_icmp .ne 7, 3) := by decide +kernel
theorem dX11_usesValue_52 : decode cX11_usesValue 52 = .ok (.iconst 1, 1) := by decide +kernel
theorem dX11_usesValue_53 : decode cX11_usesValue 53 = .ok (.goto 4, 3) := by decide +kernel
theorem dX11_usesValue_56 : decode cX11_usesValue 56 = .ok (.iconst 0, 1) := by decide +kernel
theorem dX11_usesValue_57 : decode cX11_usesValue 57 = .ok (.ireturn, 1) := by decide +kernel
theorem dX11_comesBehind_0 : decode cX11_comesBehind 0 = .ok (.aload_n 0, 1) := by decide +kernel
theorem dX11_comesBehind_1 : decode cX11_comesBehind 1 = .ok (.iload_n 1, 1) := by decide +kernel
theorem dX11_comesBehind_2 : decode cX11_comesBehind 2 = .ok (.iload_n 2, 1) := by decide +kernel
theorem dX11_comesBehind_3 : decode cX11_comesBehind 3 = .ok (.invokevirtual 270, 3) := by decide +kernel
theorem dX11_comesBehind_6 : decode cX11_comesBehind 6 = .ok (.ifCond .eq 5, 3) := by decide +kernel
theorem dX11_comesBehind_9 : decode cX11_comesBehind 9 = .ok (.iconst 1, 1) := by decide +kernel
theorem dX11_comesBehind_10 : decode cX11_comesBehind 10 = .ok (.ireturn, 1) := by decide +kernel
theorem dX11_comesBehind_11 : decode cX11_comesBehind 11 = .ok (.aload_n 0, 1) := by decide +kernel
theorem dX11_comesBehind_12 : decode cX11_comesBehind 12 = .ok (.getfield 60, 3) := by decide +kernel
theorem dX11_comesBehind_15 : decode cX11_comesBehind 15 = .ok (.iload_n 2, 1) := by decide +kernel
theorem dX11_comesBehind_16 : decode cX11_comesBehind 16 = .ok (.iaload, 1) := by decide +kernel
theorem dX11_comesBehind_17 : decode cX11_comesBehind 17 = .ok (.ifCond .lt 34, 3) := by decide +kernel
theorem dX11_comesBehind_20 : decode cX11_comesBehind 20 = .ok (.aload_n 0, 1) := by decide +kernel
theorem dX11_comesBehind_21 : decode cX11_comesBehind 21 = .ok (.iload_n 1, 1) := by decide +kernel
theorem dX11_comesBehind_22 : decode cX11_comesBehind 22 = .ok (.aload_n 0, 1) := by decide +kernel
theorem dX11_comesBehind_23 : decode cX11_comesBehind 23 = .ok (.getfield 60, 3) := by decide +kernel
theorem dX11_comesBehind_26 : decode cX11_comesBehind 26 = .ok (.iload_n 2, 1) := by decide +kernel
theorem dX11_comesBehind_27 : decode cX11_comesBehind 27 = .ok (.iaload, 1) := by decide +kernel
theorem dX11_comesBehind_28 : decode cX11_comesBehind 28 = .ok (.invokevirtual 274, 3) := by decide +kernel
theorem dX11_comesBehind_31 : decode cX11_comesBehind 31 = .ok (.ifCond .ne 18, 3) := by decide +kernel
theorem dX11_comesBehind_34 : decode cX11_comesBehind 34 = .ok (.aload_n 0, 1) := by decide +kernel
theorem dX11_comesBehind_35 : decode cX11_comesBehind 35 = .ok (.getfield 60, 3) := by decide +kernel
theorem dX11_comesBehind_38 : decode cX11_comesBehind 38 = .ok (.iload_n 1, 1) := by decide +kernel
theorem dX11_comesBehind_39 : decode cX11_comesBehind 39 = .ok (.iaload, 1) := by decide +kernel
theorem dX11_comesBehind_40 : decode cX11_comesBehind 40 = .ok (.aload_n 0, 1) := by decide +kernel
theorem dX11_comesBehind_41 : decode cX11_comesBehind 41 = .ok (.getfield 60, 3) := by decide +kernel
theorem dX11_comesBehind_44 : decode cX11_comesBehind 44 = .ok (.iload_n 2, 1) := by decide +kernel
theorem dX11_comesBehind_45 : decode cX11_comesBehind 45 = .ok (.iaload, 1) := by decide +kernel
theorem dX11_comesBehind_46 : decode cX11_comesBehind 46 = .ok (.if_icmp .ne 5, 3) := by decide +kernel
theorem dX11_comesBehind_49 : decode cX11_comesBehind 49 = .ok (.iconst 1, 1) := by decide +kernel
theorem dX11_comesBehind_50 : decode cX11_comesBehind 50 = .ok (.ireturn, 1) := by decide +kernel
theorem dX11_comesBehind_51 : decode cX11_comesBehind 51 = .ok (.aload_n 0, 1) := by decide +kernel
theorem dX11_comesBehind_52 : decode cX11_comesBehind 52 = .ok (.getfield 60, 3) := by decide +kernel
theorem dX11_comesBehind_55 : decode cX11_comesBehind 55 = .ok (.iload_n 1, 1) := by decide +kernel
theorem dX11_comesBehind_56 : decode cX11_comesBehind 56 = .ok (.iaload, 1) := by decide +kernel
theorem dX11_comesBehind_57 : decode cX11_comesBehind 57 = .ok (.ifCond .lt 19, 3) := by decide +kernel
theorem dX11_comesBehind_60 : decode cX11_comesBehind 60 = .ok (.aload_n 0, 1) := by decide +kernel
theorem dX11_comesBehind_61 : decode cX11_comesBehind 61 = .ok (.iload_n 2, 1) := by decide +kernel
theorem dX11_comesBehind_62 : decode cX11_comesBehind 62 = .ok (.aload_n 0, 1) := by decide +kernel
theorem dX11_comesBehind_63 : decode cX11_comesBehind 63 = .ok (.getfield 60, 3) := by decide +kernel
theorem dX11_comesBehind_66 : decode cX11_comesBehind 66 = .ok (.iload_n 1, 1) := by decide +kernel
theorem dX11_comesBehind_67 : decode cX11_comesBehind 67 = .ok (.iaload, 1) := by decide +kernel
theorem dX11_comesBehind_68 : decode cX11_comesBehind 68 = .ok (.invokevirtual 274, 3) := by decide +kernel
theorem dX11_comesBehind_71 : decode cX11_comesBehind 71 = .ok (.ifCond .eq 5, 3) := by decide +kernel
theorem dX11_comesBehind_74 : decode cX11_comesBehind 74 = .ok (.iconst 1, 1) := by decide +kernel
theorem dX11_comesBehind_75 : decode cX11_comesBehind 75 = .ok (.ireturn, 1) := by decide +kernel
theorem dX11_comesBehind_76 : decode cX11_comesBehind 76 = .ok (.aload_n 0, 1) := by decide +kernel
theorem dX11_comesBehind_77 : decode cX11_comesBehind 77 = .ok (.getfield 51, 3) := by decide +kernel
theorem dX11_comesBehind_80 : decode cX11_comesBehind 80 = .ok (.iload_n 2, 1) := by decide +kernel
theorem dX11_comesBehind_81 : decode cX11_comesBehind 81 = .ok (.iaload, 1) := by decide +kernel
theorem dX11_comesBehind_82 : decode cX11_comesBehind 82 = .ok (.invokestatic 277, 3) := by decide +kernel
theorem dX11_comesBehind_85 : decode cX11_comesBehind 85 = .ok (.iconst 2, 1) := by decide +kernel
theorem dX11_comesBehind_86 : decode cX11_comesBehind 86 = .ok (.if_icmp .ne 20, 3) := by decide +kernel
theorem dX11_comesBehind_89 : decode cX11_comesBehind 89 = .ok (.aload_n 0, 1) := by decide +kernel
theorem dX11_comesBehind_90 : decode cX11_comesBehind 90 = .ok (.getfield 51, 3) := by decide +kernel
theorem dX11_comesBehind_93 : decode cX11_comesBehind 93 = .ok (.iload_n 1, 1) := by decide +kernel
theorem dX11_comesBehind_94 : decode cX11_comesBehind 94 = .ok (.iaload, 1) := by decide +kernel
theorem dX11_comesBehind_95 : decode cX11_comesBehind 95 = .ok (.invokestatic 277, 3) := by decide +kernel
theorem dX11_comesBehind_98 : decode cX11_comesBehind 98 = .ok (.iconst 2, 1) := by decide +kernel
theorem dX11_comesBehind_99 : decode cX11_comesBehind 99 = .ok (.if_icmp .ne 7, 3) := by decide +kernel
theorem dX11_comesBehind_102 : decode cX11_comesBehind 102 = .ok (.iconst 1, 1) := by decide +kernel
theorem dX11_comesBehind_103 : decode cX11_comesBehind 103 = .ok (.goto 4, 3) := by decide +kernel
theorem dX11_comesBehind_106 : decode cX11_comesBehind 106 = .ok (.iconst 0, 1) := by decide +kernel
theorem dX11_comesBehind_107 : decode cX11_comesBehind 107 = .ok (.istore_n 3, 1) := by decide +kernel
theorem dX11_comesBehind_108 : decode cX11_comesBehind 108 = .ok (.iload_n 3, 1) := by decide +kernel
theorem dX11_comesBehind_109 : decode cX11_comesBehind 109 = .ok (.ifCond .eq 29, 3) := by decide +kernel
theorem dX11_comesBehind_112 : decode cX11_comesBehind 112 = .ok (.aload_n 0, 1) := by decide +kernel
theorem dX11_comesBehind_113 : decode cX11_comesBehind 113 = .ok (.getfield 51, 3) := by decide +kernel
theorem dX11_comesBehind_116 : decode cX11_comesBehind 116 = .ok (.iload_n 2, 1) := by decide +kernel
theorem dX11_comesBehind_117 : decode cX11_comesBehind 117 = .ok (.iaload, 1) := by decide +kernel
theorem dX11_comesBehind_118 : decode cX11_comesBehind 118 = .ok (.bipush 6, 2) := by decide +kernel
theorem dX11_comesBehind_120 : decode cX11_comesBehind 120 = .ok (.if_icmp .eq 14, 3) := by decide +kernel
theorem dX11_comesBehind_123 : decode cX11_comesBehind 123 = .ok (.aload_n 0, 1) := by decide +kernel
theorem dX11_comesBehind_124 : decode cX11_comesBehind 124 = .ok (.getfield 51, 3) := by decide +kernel
theorem dX11_comesBehind_127 : decode cX11_comesBehind 127 = .ok (.iload_n 1, 1) := by decide +kernel
theorem dX11_comesBehind_128 : decode cX11_comesBehind 128 = .ok (.iaload, 1) := by decide +kernel
theorem dX11_comesBehind_129 : decode cX11_comesBehind 129 = .ok (.bipush 6, 2) := by decide +kernel
theorem dX11_comesBehind_131 : decode cX11_comesBehind 131 = .ok (.if_icmp .ne 7, 3) := by decide +kernel
theorem dX11_comesBehind_134 : decode cX11_comesBehind 134 = .ok (.iconst 1, 1) := by decide +kernel
theorem dX11_comesBehind_135 : decode cX11_comesBehind 135 = .ok (.goto 4, 3) := by decide +kernel
theorem dX11_comesBehind_138 : decode cX11_comesBehind 138 = .ok (.iconst 0, 1) := by decide +kernel
theorem dX11_comesBehind_139 : decode cX11_comesBehind 139 = .ok (.ireturn, 1) := by decide +kernel
theorem dX11_first_0 : decode cX11_first 0 = .ok (.iconst 0, 1) := by decide +kernel
theorem dX11_first_1 : decode cX11_first 1 = .ok (.istore_n 2, 1) := by decide +kernel
theorem dX11_first_2 : decode cX11_first 2 = .ok (.iload_n 2, 1) := by decide +kernel
theorem dX11_first_3 : decode cX11_first 3 = .ok (.aload_n 0, 1) := by decide +kernel
theorem dX11_first_4 : decode cX11_first 4 = .ok (.getfield 261, 3) := by decide +kernel
theorem dX11_first_7 : decode cX11_first 7 = .ok (.if_icmp .ge 21, 3) := by decide +kernel
theorem dX11_first_10 : decode cX11_first 10 = .ok (.aload_n 0, 1) := by decide +kernel
theorem dX11_first_11 : decode cX11_first 11 = .ok (.getfield 63, 3) := by decide +kernel
theorem dX11_first_14 : decode cX11_first 14 = .ok (.iload_n 2, 1) := by decide +kernel
theorem dX11_first_15 : decode cX11_first 15 = .ok (.iaload, 1) := by decide +kernel
theorem dX11_first_16 : decode cX11_first 16 = .ok (.iload_n 1, 1) := by decide +kernel
theorem dX11_first_17 : decode cX11_first 17 = .ok (.if_icmp .ne 5, 3) := by decide +kernel
theorem dX11_first_20 : decode cX11_first 20 = .ok (.iload_n 2, 1) := by decide +kernel
theorem dX11_first_21 : decode cX11_first 21 = .ok (.ireturn, 1) := by decide +kernel
theorem dX11_first_22 : decode cX11_first 22 = .ok (.iinc 2 1, 3) := by decide +kernel
theorem dX11_first_25 : decode cX11_first 25 = .ok (.goto (-23), 3) := by decide +kernel
theorem dX11_first_28 : decode cX11_first 28 = .ok (.iconst (-1), 1) := by decide +kernel
theorem dX11_first_29 : decode cX11_first 29 = .ok (.ireturn, 1) := by decide +kernel
theorem dX11_behindAll_0 : decode cX11_behindAll 0 = .ok (.iconst 0, 1) := by decide +kernel
theorem dX11_behindAll_1 : decode cX11_behindAll 1 = .ok (.istore_n 2, 1) := by decide +kernel
theorem dX11_behindAll_2 : decode cX11_behindAll 2 = .ok (.iconst 0, 1) := by decide +kernel
theorem dX11_behindAll_3 : decode cX11_behindAll 3 = .ok (.istore_n 3, 1) := by decide +kernel
theorem dX11_behindAll_4 : decode cX11_behindAll 4 = .ok (.iload_n 3, 1) := by decide +kernel
theorem dX11_behindAll_5 : decode cX11_behindAll 5 = .ok (.aload_n 0, 1) := by decide +kernel
theorem dX11_behindAll_6 : decode cX11_behindAll 6 = .ok (.getfield 261, 3) := by decide +kernel
theorem dX11_behindAll_9 : decode cX11_behindAll 9 = .ok (.if_icmp .ge 27, 3) := by decide +kernel
theorem dX11_behindAll_12 : decode cX11_behindAll 12 = .ok (.aload_n 0, 1) := by decide +kernel
theorem dX11_behindAll_13 : decode cX11_behindAll 13 = .ok (.getfield 63, 3) := by decide +kernel
theorem dX11_behindAll_16 : decode cX11_behindAll 16 = .ok (.iload_n 3, 1) := by decide +kernel
theorem dX11_behindAll_17 : decode cX11_behindAll 17 = .ok (.iaload, 1) := by decide +kernel
theorem dX11_behindAll_18 : decode cX11_behindAll 18 = .ok (.iload_n 1, 1) := by decide +kernel
theorem dX11_behindAll_19 : decode cX11_behindAll 19 = .ok (.if_icmp .ne 9, 3) := by decide +kernel
theorem dX11_behindAll_22 : decode cX11_behindAll 22 = .ok (.iload_n 3, 1) := by decide +kernel
theorem dX11_behindAll_23 : decode cX11_behindAll 23 = .ok (.iconst 1, 1) := by decide +kernel
theorem dX11_behindAll_24 : decode cX11_behindAll 24 = .ok (.iadd, 1) := by decide +kernel
theorem dX11_behindAll_25 : decode cX11_behindAll 25 = .ok (.goto 4, 3) := by decide +kernel
theorem dX11_behindAll_28 : decode cX11_behindAll 28 = .ok (.iload_n 2, 1) := by decide +kernel
theorem dX11_behindAll_29 : decode cX11_behindAll 29 = .ok (.istore_n 2, 1) := by decide +kernel
theorem dX11_behindAll_30 : decode cX11_behindAll 30 = .ok (.iinc 3 1, 3) := by decide +kernel
theorem dX11_behindAll_33 : decode cX11_behindAll 33 = .ok (.goto (-29), 3) := by decide +kernel
theorem dX11_behindAll_36 : decode cX11_behindAll 36 = .ok (.iload_n 2, 1) := by decide +kernel
theorem dX11_behindAll_37 : decode cX11_behindAll 37 = .ok (.ireturn, 1) := by decide +kernel
theorem dX11_latencyOf_0 : decode cX11_latencyOf 0 = .ok (.aload_n 0, 1) := by decide +kernel
theorem dX11_latencyOf_1 : decode cX11_latencyOf 1 = .ok (.getfield 84, 3) := by decide +kernel
theorem dX11_latencyOf_4 : decode cX11_latencyOf 4 = .ok (.aload_n 0, 1) := by decide +kernel
theorem dX11_latencyOf_5 : decode cX11_latencyOf 5 = .ok (.getfield 51, 3) := by decide +kernel
theorem dX11_latencyOf_8 : decode cX11_latencyOf 8 = .ok (.iload_n 1, 1) := by decide +kernel
theorem dX11_latencyOf_9 : decode cX11_latencyOf 9 = .ok (.iaload, 1) := by decide +kernel
theorem dX11_latencyOf_10 : decode cX11_latencyOf 10 = .ok (.invokestatic 277, 3) := by decide +kernel
theorem dX11_latencyOf_13 : decode cX11_latencyOf 13 = .ok (.iaload, 1) := by decide +kernel
theorem dX11_latencyOf_14 : decode cX11_latencyOf 14 = .ok (.ireturn, 1) := by decide +kernel
theorem dX11_endOf_0 : decode cX11_endOf 0 = .ok (.aload_n 0, 1) := by decide +kernel
theorem dX11_endOf_1 : decode cX11_endOf 1 = .ok (.getfield 90, 3) := by decide +kernel
theorem dX11_endOf_4 : decode cX11_endOf 4 = .ok (.iload_n 1, 1) := by decide +kernel
theorem dX11_endOf_5 : decode cX11_endOf 5 = .ok (.iaload, 1) := by decide +kernel
theorem dX11_endOf_6 : decode cX11_endOf 6 = .ok (.aload_n 0, 1) := by decide +kernel
theorem dX11_endOf_7 : decode cX11_endOf 7 = .ok (.iload_n 1, 1) := by decide +kernel
theorem dX11_endOf_8 : decode cX11_endOf 8 = .ok (.invokevirtual 280, 3) := by decide +kernel
theorem dX11_endOf_11 : decode cX11_endOf 11 = .ok (.iadd, 1) := by decide +kernel
theorem dX11_endOf_12 : decode cX11_endOf 12 = .ok (.ireturn, 1) := by decide +kernel
theorem dX11_isReady_0 : decode cX11_isReady 0 = .ok (.aload_n 0, 1) := by decide +kernel
theorem dX11_isReady_1 : decode cX11_isReady 1 = .ok (.iload_n 2, 1) := by decide +kernel
theorem dX11_isReady_2 : decode cX11_isReady 2 = .ok (.invokevirtual 283, 3) := by decide +kernel
theorem dX11_isReady_5 : decode cX11_isReady 5 = .ok (.istore 4, 2) := by decide +kernel
theorem dX11_isReady_7 : decode cX11_isReady 7 = .ok (.iload 4, 2) := by decide +kernel
theorem dX11_isReady_9 : decode cX11_isReady 9 = .ok (.iload_n 1, 1) := by decide +kernel
theorem dX11_isReady_10 : decode cX11_isReady 10 = .ok (.if_icmp .ge 41, 3) := by decide +kernel
theorem dX11_isReady_13 : decode cX11_isReady 13 = .ok (.aload_n 0, 1) := by decide +kernel
theorem dX11_isReady_14 : decode cX11_isReady 14 = .ok (.iload_n 1, 1) := by decide +kernel
theorem dX11_isReady_15 : decode cX11_isReady 15 = .ok (.iload 4, 2) := by decide +kernel
theorem dX11_isReady_17 : decode cX11_isReady 17 = .ok (.invokevirtual 286, 3) := by decide +kernel
theorem dX11_isReady_20 : decode cX11_isReady 20 = .ok (.ifCond .eq 25, 3) := by decide +kernel
theorem dX11_isReady_23 : decode cX11_isReady 23 = .ok (.aload_n 0, 1) := by decide +kernel
theorem dX11_isReady_24 : decode cX11_isReady 24 = .ok (.getfield 90, 3) := by decide +kernel
theorem dX11_isReady_27 : decode cX11_isReady 27 = .ok (.iload 4, 2) := by decide +kernel
theorem dX11_isReady_29 : decode cX11_isReady 29 = .ok (.iaload, 1) := by decide +kernel
theorem dX11_isReady_30 : decode cX11_isReady 30 = .ok (.ifCond .lt 13, 3) := by decide +kernel
theorem dX11_isReady_33 : decode cX11_isReady 33 = .ok (.aload_n 0, 1) := by decide +kernel
theorem dX11_isReady_34 : decode cX11_isReady 34 = .ok (.iload 4, 2) := by decide +kernel
theorem dX11_isReady_36 : decode cX11_isReady 36 = .ok (.invokevirtual 289, 3) := by decide +kernel
theorem dX11_isReady_39 : decode cX11_isReady 39 = .ok (.iload_n 3, 1) := by decide +kernel
theorem dX11_isReady_40 : decode cX11_isReady 40 = .ok (.if_icmp .le 5, 3) := by decide +kernel
theorem dX11_isReady_43 : decode cX11_isReady 43 = .ok (.iconst 0, 1) := by decide +kernel
theorem dX11_isReady_44 : decode cX11_isReady 44 = .ok (.ireturn, 1) := by decide +kernel
theorem dX11_isReady_45 : decode cX11_isReady 45 = .ok (.iinc 4 1, 3) := by decide +kernel
theorem dX11_isReady_48 : decode cX11_isReady 48 = .ok (.goto (-41), 3) := by decide +kernel
theorem dX11_isReady_51 : decode cX11_isReady 51 = .ok (.iconst 1, 1) := by decide +kernel
theorem dX11_isReady_52 : decode cX11_isReady 52 = .ok (.ireturn, 1) := by decide +kernel
theorem dX11_freeUnit_0 : decode cX11_freeUnit 0 = .ok (.aload_n 0, 1) := by decide +kernel
theorem dX11_freeUnit_1 : decode cX11_freeUnit 1 = .ok (.getfield 51, 3) := by decide +kernel
theorem dX11_freeUnit_4 : decode cX11_freeUnit 4 = .ok (.iload_n 1, 1) := by decide +kernel
theorem dX11_freeUnit_5 : decode cX11_freeUnit 5 = .ok (.iaload, 1) := by decide +kernel
theorem dX11_freeUnit_6 : decode cX11_freeUnit 6 = .ok (.invokestatic 277, 3) := by decide +kernel
theorem dX11_freeUnit_9 : decode cX11_freeUnit 9 = .ok (.istore 4, 2) := by decide +kernel
theorem dX11_freeUnit_11 : decode cX11_freeUnit 11 = .ok (.aload_n 0, 1) := by decide +kernel
theorem dX11_freeUnit_12 : decode cX11_freeUnit 12 = .ok (.iload_n 2, 1) := by decide +kernel
theorem dX11_freeUnit_13 : decode cX11_freeUnit 13 = .ok (.invokevirtual 283, 3) := by decide +kernel
theorem dX11_freeUnit_16 : decode cX11_freeUnit 16 = .ok (.istore 5, 2) := by decide +kernel
theorem dX11_freeUnit_18 : decode cX11_freeUnit 18 = .ok (.aload_n 0, 1) := by decide +kernel
theorem dX11_freeUnit_19 : decode cX11_freeUnit 19 = .ok (.iload_n 2, 1) := by decide +kernel
theorem dX11_freeUnit_20 : decode cX11_freeUnit 20 = .ok (.invokevirtual 292, 3) := by decide +kernel
theorem dX11_freeUnit_23 : decode cX11_freeUnit 23 = .ok (.istore 6, 2) := by decide +kernel
theorem dX11_freeUnit_25 : decode cX11_freeUnit 25 = .ok (.iconst 0, 1) := by decide +kernel
theorem dX11_freeUnit_26 : decode cX11_freeUnit 26 = .ok (.istore 7, 2) := by decide +kernel
theorem dX11_freeUnit_28 : decode cX11_freeUnit 28 = .ok (.iload 4, 2) := by decide +kernel
theorem dX11_freeUnit_30 : decode cX11_freeUnit 30 = .ok (.iconst 3, 1) := by decide +kernel
theorem dX11_freeUnit_31 : decode cX11_freeUnit 31 = .ok (.if_icmp .eq 15, 3) := by decide +kernel
theorem dX11_freeUnit_34 : decode cX11_freeUnit 34 = .ok (.iload 7, 2) := by decide +kernel
theorem dX11_freeUnit_36 : decode cX11_freeUnit 36 = .ok (.aload_n 0, 1) := by decide +kernel
theorem dX11_freeUnit_37 : decode cX11_freeUnit 37 = .ok (.getfield 81, 3) := by decide +kernel
theorem dX11_freeUnit_40 : decode cX11_freeUnit 40 = .ok (.iload 4, 2) := by decide +kernel
theorem dX11_freeUnit_42 : decode cX11_freeUnit 42 = .ok (.iaload, 1) := by decide +kernel
theorem dX11_freeUnit_43 : decode cX11_freeUnit 43 = .ok (.if_icmp .ge 119, 3) := by decide +kernel
theorem dX11_freeUnit_46 : decode cX11_freeUnit 46 = .ok (.iconst 1, 1) := by decide +kernel
theorem dX11_freeUnit_47 : decode cX11_freeUnit 47 = .ok (.istore 8, 2) := by decide +kernel
theorem dX11_freeUnit_49 : decode cX11_freeUnit 49 = .ok (.iload 5, 2) := by decide +kernel
theorem dX11_freeUnit_51 : decode cX11_freeUnit 51 = .ok (.istore 9, 2) := by decide +kernel
theorem dX11_freeUnit_53 : decode cX11_freeUnit 53 = .ok (.iload 9, 2) := by decide +kernel
theorem dX11_freeUnit_55 : decode cX11_freeUnit 55 = .ok (.iload 6, 2) := by decide +kernel
theorem dX11_freeUnit_57 : decode cX11_freeUnit 57 = .ok (.if_icmp .ge 91, 3) := by decide +kernel
theorem dX11_freeUnit_60 : decode cX11_freeUnit 60 = .ok (.aload_n 0, 1) := by decide +kernel
theorem dX11_freeUnit_61 : decode cX11_freeUnit 61 = .ok (.getfield 90, 3) := by decide +kernel
theorem dX11_freeUnit_64 : decode cX11_freeUnit 64 = .ok (.iload 9, 2) := by decide +kernel
theorem dX11_freeUnit_66 : decode cX11_freeUnit 66 = .ok (.iaload, 1) := by decide +kernel
theorem dX11_freeUnit_67 : decode cX11_freeUnit 67 = .ok (.ifCond .lt 28, 3) := by decide +kernel
theorem dX11_freeUnit_70 : decode cX11_freeUnit 70 = .ok (.aload_n 0, 1) := by decide +kernel
theorem dX11_freeUnit_71 : decode cX11_freeUnit 71 = .ok (.getfield 90, 3) := by decide +kernel
theorem dX11_freeUnit_74 : decode cX11_freeUnit 74 = .ok (.iload 9, 2) := by decide +kernel
theorem dX11_freeUnit_76 : decode cX11_freeUnit 76 = .ok (.iaload, 1) := by decide +kernel
theorem dX11_freeUnit_77 : decode cX11_freeUnit 77 = .ok (.iload_n 3, 1) := by decide +kernel
theorem dX11_freeUnit_78 : decode cX11_freeUnit 78 = .ok (.if_icmp .gt 17, 3) := by decide +kernel
theorem dX11_freeUnit_81 : decode cX11_freeUnit 81 = .ok (.aload_n 0, 1) := by decide +kernel
theorem dX11_freeUnit_82 : decode cX11_freeUnit 82 = .ok (.iload 9, 2) := by decide +kernel
theorem dX11_freeUnit_84 : decode cX11_freeUnit 84 = .ok (.invokevirtual 289, 3) := by decide +kernel
theorem dX11_freeUnit_87 : decode cX11_freeUnit 87 = .ok (.iload_n 3, 1) := by decide +kernel
theorem dX11_freeUnit_88 : decode cX11_freeUnit 88 = .ok (.if_icmp .le 7, 3) := by decide +kernel
theorem dX11_freeUnit_91 : decode cX11_freeUnit 91 = .ok (.iconst 1, 1) := by decide +kernel
theorem dX11_freeUnit_92 : decode cX11_freeUnit 92 = .ok (.goto 4, 3) := by decide +kernel
theorem dX11_freeUnit_95 : decode cX11_freeUnit 95 = .ok (.iconst 0, 1) := by decide +kernel
theorem dX11_freeUnit_96 : decode cX11_freeUnit 96 = .ok (.istore 10, 2) := by decide +kernel
theorem dX11_freeUnit_98 : decode cX11_freeUnit 98 = .ok (.iload 8, 2) := by decide +kernel
theorem dX11_freeUnit_100 : decode cX11_freeUnit 100 = .ok (.ifCond .eq 39, 3) := by decide +kernel
theorem dX11_freeUnit_103 : decode cX11_freeUnit 103 = .ok (.iload 10, 2) := by decide +kernel
theorem dX11_freeUnit_105 : decode cX11_freeUnit 105 = .ok (.ifCond .eq 30, 3) := by decide +kernel
theorem dX11_freeUnit_108 : decode cX11_freeUnit 108 = .ok (.aload_n 0, 1) := by decide +kernel
theorem dX11_freeUnit_109 : decode cX11_freeUnit 109 = .ok (.getfield 51, 3) := by decide +kernel
theorem dX11_freeUnit_112 : decode cX11_freeUnit 112 = .ok (.iload 9, 2) := by decide +kernel
theorem dX11_freeUnit_114 : decode cX11_freeUnit 114 = .ok (.iaload, 1) := by decide +kernel
theorem dX11_freeUnit_115 : decode cX11_freeUnit 115 = .ok (.invokestatic 277, 3) := by decide +kernel
theorem dX11_freeUnit_118 : decode cX11_freeUnit 118 = .ok (.iload 4, 2) := by decide +kernel
theorem dX11_freeUnit_120 : decode cX11_freeUnit 120 = .ok (.if_icmp .ne 15, 3) := by decide +kernel
theorem dX11_freeUnit_123 : decode cX11_freeUnit 123 = .ok (.aload_n 0, 1) := by decide +kernel
theorem dX11_freeUnit_124 : decode cX11_freeUnit 124 = .ok (.getfield 93, 3) := by decide +kernel
theorem dX11_freeUnit_127 : decode cX11_freeUnit 127 = .ok (.iload 9, 2) := by decide +kernel
theorem dX11_freeUnit_129 : decode cX11_freeUnit 129 = .ok (.iaload, 1) := by decide +kernel
theorem dX11_freeUnit_130 : decode cX11_freeUnit 130 = .ok (.iload 7, 2) := by decide +kernel
theorem dX11_freeUnit_132 : decode cX11_freeUnit 132 = .ok (.if_icmp .eq 7, 3) := by decide +kernel
theorem dX11_freeUnit_135 : decode cX11_freeUnit 135 = .ok (.iconst 1, 1) := by decide +kernel
theorem dX11_freeUnit_136 : decode cX11_freeUnit 136 = .ok (.goto 4, 3) := by decide +kernel
theorem dX11_freeUnit_139 : decode cX11_freeUnit 139 = .ok (.iconst 0, 1) := by decide +kernel
theorem dX11_freeUnit_140 : decode cX11_freeUnit 140 = .ok (.istore 8, 2) := by decide +kernel
theorem dX11_freeUnit_142 : decode cX11_freeUnit 142 = .ok (.iinc 9 1, 3) := by decide +kernel
theorem dX11_freeUnit_145 : decode cX11_freeUnit 145 = .ok (.goto (-92), 3) := by decide +kernel
theorem dX11_freeUnit_148 : decode cX11_freeUnit 148 = .ok (.iload 8, 2) := by decide +kernel
theorem dX11_freeUnit_150 : decode cX11_freeUnit 150 = .ok (.ifCond .eq 6, 3) := by decide +kernel
theorem dX11_freeUnit_153 : decode cX11_freeUnit 153 = .ok (.iload 7, 2) := by decide +kernel
theorem dX11_freeUnit_155 : decode cX11_freeUnit 155 = .ok (.ireturn, 1) := by decide +kernel
theorem dX11_freeUnit_156 : decode cX11_freeUnit 156 = .ok (.iinc 7 1, 3) := by decide +kernel
theorem dX11_freeUnit_159 : decode cX11_freeUnit 159 = .ok (.goto (-131), 3) := by decide +kernel
theorem dX11_freeUnit_162 : decode cX11_freeUnit 162 = .ok (.iconst (-1), 1) := by decide +kernel
theorem dX11_freeUnit_163 : decode cX11_freeUnit 163 = .ok (.ireturn, 1) := by decide +kernel
theorem dX11_beginOne_0 : decode cX11_beginOne 0 = .ok (.iconst (-1), 1) := by decide +kernel
theorem dX11_beginOne_1 : decode cX11_beginOne 1 = .ok (.istore_n 3, 1) := by decide +kernel
theorem dX11_beginOne_2 : decode cX11_beginOne 2 = .ok (.iconst (-1), 1) := by decide +kernel
theorem dX11_beginOne_3 : decode cX11_beginOne 3 = .ok (.istore 4, 2) := by decide +kernel
theorem dX11_beginOne_5 : decode cX11_beginOne 5 = .ok (.aload_n 0, 1) := by decide +kernel
theorem dX11_beginOne_6 : decode cX11_beginOne 6 = .ok (.iload_n 1, 1) := by decide +kernel
theorem dX11_beginOne_7 : decode cX11_beginOne 7 = .ok (.invokevirtual 292, 3) := by decide +kernel
theorem dX11_beginOne_10 : decode cX11_beginOne 10 = .ok (.istore 5, 2) := by decide +kernel
theorem dX11_beginOne_12 : decode cX11_beginOne 12 = .ok (.aload_n 0, 1) := by decide +kernel
theorem dX11_beginOne_13 : decode cX11_beginOne 13 = .ok (.iload_n 1, 1) := by decide +kernel
theorem dX11_beginOne_14 : decode cX11_beginOne 14 = .ok (.invokevirtual 283, 3) := by decide +kernel
theorem dX11_beginOne_17 : decode cX11_beginOne 17 = .ok (.istore 6, 2) := by decide +kernel
theorem dX11_beginOne_19 : decode cX11_beginOne 19 = .ok (.iload 6, 2) := by decide +kernel
theorem dX11_beginOne_21 : decode cX11_beginOne 21 = .ok (.iload 5, 2) := by decide +kernel
theorem dX11_beginOne_23 : decode cX11_beginOne 23 = .ok (.if_icmp .ge 84, 3) := by decide +kernel
theorem dX11_beginOne_26 : decode cX11_beginOne 26 = .ok (.iload_n 3, 1) := by decide +kernel
theorem dX11_beginOne_27 : decode cX11_beginOne 27 = .ok (.ifCond .lt 19, 3) := by decide +kernel
theorem dX11_beginOne_30 : decode cX11_beginOne 30 = .ok (.aload_n 0, 1) := by decide +kernel
theorem dX11_beginOne_31 : decode cX11_beginOne 31 = .ok (.getfield 87, 3) := by decide +kernel
theorem dX11_beginOne_34 : decode cX11_beginOne 34 = .ok (.iload 6, 2) := by decide +kernel
theorem dX11_beginOne_36 : decode cX11_beginOne 36 = .ok (.iaload, 1) := by decide +kernel
theorem dX11_beginOne_37 : decode cX11_beginOne 37 = .ok (.aload_n 0, 1) := by decide +kernel
theorem dX11_beginOne_38 : decode cX11_beginOne 38 = .ok (.getfield 87, 3) := by decide +kernel
theorem dX11_beginOne_41 : decode cX11_beginOne 41 = .ok (.iload_n 3, 1) := by decide +kernel
theorem dX11_beginOne_42 : decode cX11_beginOne 42 = .ok (.iaload, 1) := by decide +kernel
theorem dX11_beginOne_43 : decode cX11_beginOne 43 = .ok (.if_icmp .le 7, 3) := by decide +kernel
theorem dX11_beginOne_46 : decode cX11_beginOne 46 = .ok (.iconst 1, 1) := by decide +kernel
theorem dX11_beginOne_47 : decode cX11_beginOne 47 = .ok (.goto 4, 3) := by decide +kernel
theorem dX11_beginOne_50 : decode cX11_beginOne 50 = .ok (.iconst 0, 1) := by decide +kernel
theorem dX11_beginOne_51 : decode cX11_beginOne 51 = .ok (.istore 7, 2) := by decide +kernel
theorem dX11_beginOne_53 : decode cX11_beginOne 53 = .ok (.aload_n 0, 1) := by decide +kernel
theorem dX11_beginOne_54 : decode cX11_beginOne 54 = .ok (.getfield 90, 3) := by decide +kernel
theorem dX11_beginOne_57 : decode cX11_beginOne 57 = .ok (.iload 6, 2) := by decide +kernel
theorem dX11_beginOne_59 : decode cX11_beginOne 59 = .ok (.iaload, 1) := by decide +kernel
theorem dX11_beginOne_60 : decode cX11_beginOne 60 = .ok (.ifCond .ge 41, 3) := by decide +kernel
theorem dX11_beginOne_63 : decode cX11_beginOne 63 = .ok (.iload 7, 2) := by decide +kernel
theorem dX11_beginOne_65 : decode cX11_beginOne 65 = .ok (.ifCond .eq 36, 3) := by decide +kernel
theorem dX11_beginOne_68 : decode cX11_beginOne 68 = .ok (.aload_n 0, 1) := by decide +kernel
theorem dX11_beginOne_69 : decode cX11_beginOne 69 = .ok (.iload 6, 2) := by decide +kernel
theorem dX11_beginOne_71 : decode cX11_beginOne 71 = .ok (.iload_n 1, 1) := by decide +kernel
theorem dX11_beginOne_72 : decode cX11_beginOne 72 = .ok (.iload_n 2, 1) := by decide +kernel
theorem dX11_beginOne_73 : decode cX11_beginOne 73 = .ok (.invokevirtual 295, 3) := by decide +kernel
theorem dX11_beginOne_76 : decode cX11_beginOne 76 = .ok (.ifCond .eq 25, 3) := by decide +kernel
theorem dX11_beginOne_79 : decode cX11_beginOne 79 = .ok (.aload_n 0, 1) := by decide +kernel
theorem dX11_beginOne_80 : decode cX11_beginOne 80 = .ok (.iload 6, 2) := by decide +kernel
theorem dX11_beginOne_82 : decode cX11_beginOne 82 = .ok (.iload_n 1, 1) := by decide +kernel
theorem dX11_beginOne_83 : decode cX11_beginOne 83 = .ok (.iload_n 2, 1) := by decide +kernel
theorem dX11_beginOne_84 : decode cX11_beginOne 84 = .ok (.invokevirtual 299, 3) := by decide +kernel
theorem dX11_beginOne_87 : decode cX11_beginOne 87 = .ok (.istore 8, 2) := by decide +kernel
theorem dX11_beginOne_89 : decode cX11_beginOne 89 = .ok (.iload 8, 2) := by decide +kernel
theorem dX11_beginOne_91 : decode cX11_beginOne 91 = .ok (.ifCond .lt 10, 3) := by decide +kernel
theorem dX11_beginOne_94 : decode cX11_beginOne 94 = .ok (.iload 6, 2) := by decide +kernel
theorem dX11_beginOne_96 : decode cX11_beginOne 96 = .ok (.istore_n 3, 1) := by decide +kernel
theorem dX11_beginOne_97 : decode cX11_beginOne 97 = .ok (.iload 8, 2) := by decide +kernel
theorem dX11_beginOne_99 : decode cX11_beginOne 99 = .ok (.istore 4, 2) := by decide +kernel
theorem dX11_beginOne_101 : decode cX11_beginOne 101 = .ok (.iinc 6 1, 3) := by decide +kernel
theorem dX11_beginOne_104 : decode cX11_beginOne 104 = .ok (.goto (-85), 3) := by decide +kernel
theorem dX11_beginOne_107 : decode cX11_beginOne 107 = .ok (.iload_n 3, 1) := by decide +kernel
theorem dX11_beginOne_108 : decode cX11_beginOne 108 = .ok (.ifCond .ge 5, 3) := by decide +kernel
theorem dX11_beginOne_111 : decode cX11_beginOne 111 = .ok (.iconst 0, 1) := by decide +kernel
theorem dX11_beginOne_112 : decode cX11_beginOne 112 = .ok (.ireturn, 1) := by decide +kernel
theorem dX11_beginOne_113 : decode cX11_beginOne 113 = .ok (.aload_n 0, 1) := by decide +kernel
theorem dX11_beginOne_114 : decode cX11_beginOne 114 = .ok (.getfield 90, 3) := by decide +kernel
theorem dX11_beginOne_117 : decode cX11_beginOne 117 = .ok (.iload_n 3, 1) := by decide +kernel
theorem dX11_beginOne_118 : decode cX11_beginOne 118 = .ok (.iload_n 2, 1) := by decide +kernel
theorem dX11_beginOne_119 : decode cX11_beginOne 119 = .ok (.iastore, 1) := by decide +kernel
theorem dX11_beginOne_120 : decode cX11_beginOne 120 = .ok (.aload_n 0, 1) := by decide +kernel
theorem dX11_beginOne_121 : decode cX11_beginOne 121 = .ok (.getfield 93, 3) := by decide +kernel
theorem dX11_beginOne_124 : decode cX11_beginOne 124 = .ok (.iload_n 3, 1) := by decide +kernel
theorem dX11_beginOne_125 : decode cX11_beginOne 125 = .ok (.iload 4, 2) := by decide +kernel
theorem dX11_beginOne_127 : decode cX11_beginOne 127 = .ok (.iastore, 1) := by decide +kernel
theorem dX11_beginOne_128 : decode cX11_beginOne 128 = .ok (.iconst 1, 1) := by decide +kernel
theorem dX11_beginOne_129 : decode cX11_beginOne 129 = .ok (.ireturn, 1) := by decide +kernel
theorem dX11_layBlock_0 : decode cX11_layBlock 0 = .ok (.aload_n 0, 1) := by decide +kernel
theorem dX11_layBlock_1 : decode cX11_layBlock 1 = .ok (.iload_n 1, 1) := by decide +kernel
theorem dX11_layBlock_2 : decode cX11_layBlock 2 = .ok (.invokevirtual 283, 3) := by decide +kernel
theorem dX11_layBlock_5 : decode cX11_layBlock 5 = .ok (.istore_n 2, 1) := by decide +kernel
theorem dX11_layBlock_6 : decode cX11_layBlock 6 = .ok (.aload_n 0, 1) := by decide +kernel
theorem dX11_layBlock_7 : decode cX11_layBlock 7 = .ok (.iload_n 1, 1) := by decide +kernel
theorem dX11_layBlock_8 : decode cX11_layBlock 8 = .ok (.invokevirtual 292, 3) := by decide +kernel
theorem dX11_layBlock_11 : decode cX11_layBlock 11 = .ok (.istore_n 3, 1) := by decide +kernel
theorem dX11_layBlock_12 : decode cX11_layBlock 12 = .ok (.iload_n 3, 1) := by decide +kernel
theorem dX11_layBlock_13 : decode cX11_layBlock 13 = .ok (.iconst 1, 1) := by decide +kernel
theorem dX11_layBlock_14 : decode cX11_layBlock 14 = .ok (.isub, 1) := by decide +kernel
theorem dX11_layBlock_15 : decode cX11_layBlock 15 = .ok (.istore 4, 2) := by decide +kernel
theorem dX11_layBlock_17 : decode cX11_layBlock 17 = .ok (.iload 4, 2) := by decide +kernel
theorem dX11_layBlock_19 : decode cX11_layBlock 19 = .ok (.iload_n 2, 1) := by decide +kernel
theorem dX11_layBlock_20 : decode cX11_layBlock 20 = .ok (.if_icmp .lt 95, 3) := by decide +kernel
theorem dX11_layBlock_23 : decode cX11_layBlock 23 = .ok (.iload_n 2, 1) := by decide +kernel
theorem dX11_layBlock_24 : decode cX11_layBlock 24 = .ok (.ifCond .lt 91, 3) := by decide +kernel
theorem dX11_layBlock_27 : decode cX11_layBlock 27 = .ok (.iconst 0, 1) := by decide +kernel
theorem dX11_layBlock_28 : decode cX11_layBlock 28 = .ok (.istore 5, 2) := by decide +kernel
theorem dX11_layBlock_30 : decode cX11_layBlock 30 = .ok (.iload 4, 2) := by decide +kernel
theorem dX11_layBlock_32 : decode cX11_layBlock 32 = .ok (.iconst 1, 1) := by decide +kernel
theorem dX11_layBlock_33 : decode cX11_layBlock 33 = .ok (.iadd, 1) := by decide +kernel
theorem dX11_layBlock_34 : decode cX11_layBlock 34 = .ok (.istore 6, 2) := by decide +kernel
theorem dX11_layBlock_36 : decode cX11_layBlock 36 = .ok (.iload 6, 2) := by decide +kernel
theorem dX11_layBlock_38 : decode cX11_layBlock 38 = .ok (.iload_n 3, 1) := by decide +kernel
theorem dX11_layBlock_39 : decode cX11_layBlock 39 = .ok (.if_icmp .ge 46, 3) := by decide +kernel
theorem dX11_layBlock_42 : decode cX11_layBlock 42 = .ok (.aload_n 0, 1) := by decide +kernel
theorem dX11_layBlock_43 : decode cX11_layBlock 43 = .ok (.iload 6, 2) := by decide +kernel
theorem dX11_layBlock_45 : decode cX11_layBlock 45 = .ok (.iload 4, 2) := by decide +kernel
theorem dX11_layBlock_47 : decode cX11_layBlock 47 = .ok (.invokevirtual 286, 3) := by decide +kernel
theorem dX11_layBlock_50 : decode cX11_layBlock 50 = .ok (.ifCond .eq 25, 3) := by decide +kernel
theorem dX11_layBlock_53 : decode cX11_layBlock 53 = .ok (.aload_n 0, 1) := by decide +kernel
theorem dX11_layBlock_54 : decode cX11_layBlock 54 = .ok (.getfield 87, 3) := by decide +kernel
theorem dX11_layBlock_57 : decode cX11_layBlock 57 = .ok (.iload 6, 2) := by decide +kernel
theorem dX11_layBlock_59 : decode cX11_layBlock 59 = .ok (.iaload, 1) := by decide +kernel
theorem dX11_layBlock_60 : decode cX11_layBlock 60 = .ok (.iload 5, 2) := by decide +kernel
theorem dX11_layBlock_62 : decode cX11_layBlock 62 = .ok (.if_icmp .le 13, 3) := by decide +kernel
theorem dX11_layBlock_65 : decode cX11_layBlock 65 = .ok (.aload_n 0, 1) := by decide +kernel
theorem dX11_layBlock_66 : decode cX11_layBlock 66 = .ok (.getfield 87, 3) := by decide +kernel
theorem dX11_layBlock_69 : decode cX11_layBlock 69 = .ok (.iload 6, 2) := by decide +kernel
theorem dX11_layBlock_71 : decode cX11_layBlock 71 = .ok (.iaload, 1) := by decide +kernel
theorem dX11_layBlock_72 : decode cX11_layBlock 72 = .ok (.goto 5, 3) := by decide +kernel
theorem dX11_layBlock_75 : decode cX11_layBlock 75 = .ok (.iload 5, 2) := by decide +kernel
theorem dX11_layBlock_77 : decode cX11_layBlock 77 = .ok (.istore 5, 2) := by decide +kernel
theorem dX11_layBlock_79 : decode cX11_layBlock 79 = .ok (.iinc 6 1, 3) := by decide +kernel
theorem dX11_layBlock_82 : decode cX11_layBlock 82 = .ok (.goto (-46), 3) := by decide +kernel
theorem dX11_layBlock_85 : decode cX11_layBlock 85 = .ok (.aload_n 0, 1) := by decide +kernel
theorem dX11_layBlock_86 : decode cX11_layBlock 86 = .ok (.getfield 87, 3) := by decide +kernel
theorem dX11_layBlock_89 : decode cX11_layBlock 89 = .ok (.iload 4, 2) := by decide +kernel
theorem dX11_layBlock_91 : decode cX11_layBlock 91 = .ok (.aload_n 0, 1) := by decide +kernel
theorem dX11_layBlock_92 : decode cX11_layBlock 92 = .ok (.iload 4, 2) := by decide +kernel
theorem dX11_layBlock_94 : decode cX11_layBlock 94 = .ok (.invokevirtual 280, 3) := by decide +kernel
theorem dX11_layBlock_97 : decode cX11_layBlock 97 = .ok (.iload 5, 2) := by decide +kernel
theorem dX11_layBlock_99 : decode cX11_layBlock 99 = .ok (.iadd, 1) := by decide +kernel
theorem dX11_layBlock_100 : decode cX11_layBlock 100 = .ok (.iastore, 1) := by decide +kernel
theorem dX11_layBlock_101 : decode cX11_layBlock 101 = .ok (.aload_n 0, 1) := by decide +kernel
theorem dX11_layBlock_102 : decode cX11_layBlock 102 = .ok (.getfield 90, 3) := by decide +kernel
theorem dX11_layBlock_105 : decode cX11_layBlock 105 = .ok (.iload 4, 2) := by decide +kernel
theorem dX11_layBlock_107 : decode cX11_layBlock 107 = .ok (.iconst (-1), 1) := by decide +kernel
theorem dX11_layBlock_108 : decode cX11_layBlock 108 = .ok (.iastore, 1) := by decide +kernel
theorem dX11_layBlock_109 : decode cX11_layBlock 109 = .ok (.iinc 4 (-1), 3) := by decide +kernel
theorem dX11_layBlock_112 : decode cX11_layBlock 112 = .ok (.goto (-95), 3) := by decide +kernel
theorem dX11_layBlock_115 : decode cX11_layBlock 115 = .ok (.iload_n 2, 1) := by decide +kernel
theorem dX11_layBlock_116 : decode cX11_layBlock 116 = .ok (.ifCond .ge 7, 3) := by decide +kernel
theorem dX11_layBlock_119 : decode cX11_layBlock 119 = .ok (.iconst 0, 1) := by decide +kernel
theorem dX11_layBlock_120 : decode cX11_layBlock 120 = .ok (.goto 6, 3) := by decide +kernel
theorem dX11_layBlock_123 : decode cX11_layBlock 123 = .ok (.iload_n 3, 1) := by decide +kernel
theorem dX11_layBlock_124 : decode cX11_layBlock 124 = .ok (.iload_n 2, 1) := by decide +kernel
theorem dX11_layBlock_125 : decode cX11_layBlock 125 = .ok (.isub, 1) := by decide +kernel
theorem dX11_layBlock_126 : decode cX11_layBlock 126 = .ok (.istore 4, 2) := by decide +kernel
theorem dX11_layBlock_128 : decode cX11_layBlock 128 = .ok (.iconst 0, 1) := by decide +kernel
theorem dX11_layBlock_129 : decode cX11_layBlock 129 = .ok (.istore 5, 2) := by decide +kernel
theorem dX11_layBlock_131 : decode cX11_layBlock 131 = .ok (.iload 4, 2) := by decide +kernel
theorem dX11_layBlock_133 : decode cX11_layBlock 133 = .ok (.ifCond .le 25, 3) := by decide +kernel
theorem dX11_layBlock_136 : decode cX11_layBlock 136 = .ok (.aload_n 0, 1) := by decide +kernel
theorem dX11_layBlock_137 : decode cX11_layBlock 137 = .ok (.iload_n 1, 1) := by decide +kernel
theorem dX11_layBlock_138 : decode cX11_layBlock 138 = .ok (.iload 5, 2) := by decide +kernel
theorem dX11_layBlock_140 : decode cX11_layBlock 140 = .ok (.invokevirtual 303, 3) := by decide +kernel
theorem dX11_layBlock_143 : decode cX11_layBlock 143 = .ok (.ifCond .eq 9, 3) := by decide +kernel
theorem dX11_layBlock_146 : decode cX11_layBlock 146 = .ok (.iinc 4 (-1), 3) := by decide +kernel
theorem dX11_layBlock_149 : decode cX11_layBlock 149 = .ok (.goto (-13), 3) := by decide +kernel
theorem dX11_layBlock_152 : decode cX11_layBlock 152 = .ok (.iinc 5 1, 3) := by decide +kernel
theorem dX11_layBlock_155 : decode cX11_layBlock 155 = .ok (.goto (-24), 3) := by decide +kernel
theorem dX11_layBlock_158 : decode cX11_layBlock 158 = .ok (.aload_n 0, 1) := by decide +kernel
theorem dX11_layBlock_159 : decode cX11_layBlock 159 = .ok (.getfield 99, 3) := by decide +kernel
theorem dX11_layBlock_162 : decode cX11_layBlock 162 = .ok (.iload_n 1, 1) := by decide +kernel
theorem dX11_layBlock_163 : decode cX11_layBlock 163 = .ok (.iconst 1, 1) := by decide +kernel
theorem dX11_layBlock_164 : decode cX11_layBlock 164 = .ok (.iastore, 1) := by decide +kernel
theorem dX11_layBlock_165 : decode cX11_layBlock 165 = .ok (.iload_n 2, 1) := by decide +kernel
theorem dX11_layBlock_166 : decode cX11_layBlock 166 = .ok (.istore 5, 2) := by decide +kernel
theorem dX11_layBlock_168 : decode cX11_layBlock 168 = .ok (.iload 5, 2) := by decide +kernel
theorem dX11_layBlock_170 : decode cX11_layBlock 170 = .ok (.iload_n 3, 1) := by decide +kernel
theorem dX11_layBlock_171 : decode cX11_layBlock 171 = .ok (.if_icmp .ge 49, 3) := by decide +kernel
theorem dX11_layBlock_174 : decode cX11_layBlock 174 = .ok (.iload_n 2, 1) := by decide +kernel
theorem dX11_layBlock_175 : decode cX11_layBlock 175 = .ok (.ifCond .lt 45, 3) := by decide +kernel
theorem dX11_layBlock_178 : decode cX11_layBlock 178 = .ok (.aload_n 0, 1) := by decide +kernel
theorem dX11_layBlock_179 : decode cX11_layBlock 179 = .ok (.getfield 99, 3) := by decide +kernel
theorem dX11_layBlock_182 : decode cX11_layBlock 182 = .ok (.iload_n 1, 1) := by decide +kernel
theorem dX11_layBlock_183 : decode cX11_layBlock 183 = .ok (.aload_n 0, 1) := by decide +kernel
theorem dX11_layBlock_184 : decode cX11_layBlock 184 = .ok (.iload 5, 2) := by decide +kernel
theorem dX11_layBlock_186 : decode cX11_layBlock 186 = .ok (.invokevirtual 289, 3) := by decide +kernel
theorem dX11_layBlock_189 : decode cX11_layBlock 189 = .ok (.aload_n 0, 1) := by decide +kernel
theorem dX11_layBlock_190 : decode cX11_layBlock 190 = .ok (.getfield 99, 3) := by decide +kernel
theorem dX11_layBlock_193 : decode cX11_layBlock 193 = .ok (.iload_n 1, 1) := by decide +kernel
theorem dX11_layBlock_194 : decode cX11_layBlock 194 = .ok (.iaload, 1) := by decide +kernel
theorem dX11_layBlock_195 : decode cX11_layBlock 195 = .ok (.if_icmp .le 12, 3) := by decide +kernel
theorem dX11_layBlock_198 : decode cX11_layBlock 198 = .ok (.aload_n 0, 1) := by decide +kernel
theorem dX11_layBlock_199 : decode cX11_layBlock 199 = .ok (.iload 5, 2) := by decide +kernel
theorem dX11_layBlock_201 : decode cX11_layBlock 201 = .ok (.invokevirtual 289, 3) := by decide +kernel
theorem dX11_layBlock_204 : decode cX11_layBlock 204 = .ok (.goto 9, 3) := by decide +kernel
theorem dX11_layBlock_207 : decode cX11_layBlock 207 = .ok (.aload_n 0, 1) := by decide +kernel
theorem dX11_layBlock_208 : decode cX11_layBlock 208 = .ok (.getfield 99, 3) := by decide +kernel
theorem dX11_layBlock_211 : decode cX11_layBlock 211 = .ok (.iload_n 1, 1) := by decide +kernel
theorem dX11_layBlock_212 : decode cX11_layBlock 212 = .ok (.iaload, 1) := by decide +kernel
theorem dX11_layBlock_213 : decode cX11_layBlock 213 = .ok (.iastore, 1) := by decide +kernel
theorem dX11_layBlock_214 : decode cX11_layBlock 214 = .ok (.iinc 5 1, 3) := by decide +kernel
theorem dX11_layBlock_217 : decode cX11_layBlock 217 = .ok (.goto (-49), 3) := by decide +kernel
theorem dX11_layBlock_220 : decode cX11_layBlock 220 = .ok (.return_, 1) := by decide +kernel
theorem dX11_isEnd_0 : decode cX11_isEnd 0 = .ok (.aload_n 0, 1) := by decide +kernel
theorem dX11_isEnd_1 : decode cX11_isEnd 1 = .ok (.getfield 78, 3) := by decide +kernel
theorem dX11_isEnd_4 : decode cX11_isEnd 4 = .ok (.iload_n 2, 1) := by decide +kernel
theorem dX11_isEnd_5 : decode cX11_isEnd 5 = .ok (.baload, 1) := by decide +kernel
theorem dX11_isEnd_6 : decode cX11_isEnd 6 = .ok (.ifCond .eq 27, 3) := by decide +kernel
theorem dX11_isEnd_9 : decode cX11_isEnd 9 = .ok (.aload_n 0, 1) := by decide +kernel
theorem dX11_isEnd_10 : decode cX11_isEnd 10 = .ok (.getfield 66, 3) := by decide +kernel
theorem dX11_isEnd_13 : decode cX11_isEnd 13 = .ok (.iload_n 2, 1) := by decide +kernel
theorem dX11_isEnd_14 : decode cX11_isEnd 14 = .ok (.iaload, 1) := by decide +kernel
theorem dX11_isEnd_15 : decode cX11_isEnd 15 = .ok (.iconst 3, 1) := by decide +kernel
theorem dX11_isEnd_16 : decode cX11_isEnd 16 = .ok (.if_icmp .ne 17, 3) := by decide +kernel
theorem dX11_isEnd_19 : decode cX11_isEnd 19 = .ok (.aload_n 0, 1) := by decide +kernel
theorem dX11_isEnd_20 : decode cX11_isEnd 20 = .ok (.getfield 69, 3) := by decide +kernel
theorem dX11_isEnd_23 : decode cX11_isEnd 23 = .ok (.iload_n 2, 1) := by decide +kernel
theorem dX11_isEnd_24 : decode cX11_isEnd 24 = .ok (.iaload, 1) := by decide +kernel
theorem dX11_isEnd_25 : decode cX11_isEnd 25 = .ok (.iload_n 1, 1) := by decide +kernel
theorem dX11_isEnd_26 : decode cX11_isEnd 26 = .ok (.if_icmp .ne 7, 3) := by decide +kernel
theorem dX11_isEnd_29 : decode cX11_isEnd 29 = .ok (.iconst 1, 1) := by decide +kernel
theorem dX11_isEnd_30 : decode cX11_isEnd 30 = .ok (.goto 4, 3) := by decide +kernel
theorem dX11_isEnd_33 : decode cX11_isEnd 33 = .ok (.iconst 0, 1) := by decide +kernel
theorem dX11_isEnd_34 : decode cX11_isEnd 34 = .ok (.ireturn, 1) := by decide +kernel
theorem dX11_heldTo_0 : decode cX11_heldTo 0 = .ok (.aload_n 0, 1) := by decide +kernel
theorem dX11_heldTo_1 : decode cX11_heldTo 1 = .ok (.getfield 63, 3) := by decide +kernel
theorem dX11_heldTo_4 : decode cX11_heldTo 4 = .ok (.iload_n 1, 1) := by decide +kernel
theorem dX11_heldTo_5 : decode cX11_heldTo 5 = .ok (.iaload, 1) := by decide +kernel
theorem dX11_heldTo_6 : decode cX11_heldTo 6 = .ok (.istore_n 2, 1) := by decide +kernel
theorem dX11_heldTo_7 : decode cX11_heldTo 7 = .ok (.aload_n 0, 1) := by decide +kernel
theorem dX11_heldTo_8 : decode cX11_heldTo 8 = .ok (.iload_n 1, 1) := by decide +kernel
theorem dX11_heldTo_9 : decode cX11_heldTo 9 = .ok (.iload_n 2, 1) := by decide +kernel
theorem dX11_heldTo_10 : decode cX11_heldTo 10 = .ok (.invokevirtual 306, 3) := by decide +kernel
theorem dX11_heldTo_13 : decode cX11_heldTo 13 = .ok (.ifCond .eq 14, 3) := by decide +kernel
theorem dX11_heldTo_16 : decode cX11_heldTo 16 = .ok (.aload_n 0, 1) := by decide +kernel
theorem dX11_heldTo_17 : decode cX11_heldTo 17 = .ok (.getfield 99, 3) := by decide +kernel
theorem dX11_heldTo_20 : decode cX11_heldTo 20 = .ok (.iload_n 2, 1) := by decide +kernel
theorem dX11_heldTo_21 : decode cX11_heldTo 21 = .ok (.iaload, 1) := by decide +kernel
theorem dX11_heldTo_22 : decode cX11_heldTo 22 = .ok (.iconst 1, 1) := by decide +kernel
theorem dX11_heldTo_23 : decode cX11_heldTo 23 = .ok (.isub, 1) := by decide +kernel
theorem dX11_heldTo_24 : decode cX11_heldTo 24 = .ok (.goto 5, 3) := by decide +kernel
theorem dX11_heldTo_27 : decode cX11_heldTo 27 = .ok (.bipush (-2), 2) := by decide +kernel
theorem dX11_heldTo_29 : decode cX11_heldTo 29 = .ok (.istore_n 3, 1) := by decide +kernel
theorem dX11_heldTo_30 : decode cX11_heldTo 30 = .ok (.aload_n 0, 1) := by decide +kernel
theorem dX11_heldTo_31 : decode cX11_heldTo 31 = .ok (.iload_n 2, 1) := by decide +kernel
theorem dX11_heldTo_32 : decode cX11_heldTo 32 = .ok (.invokevirtual 292, 3) := by decide +kernel
theorem dX11_heldTo_35 : decode cX11_heldTo 35 = .ok (.istore 4, 2) := by decide +kernel
theorem dX11_heldTo_37 : decode cX11_heldTo 37 = .ok (.iload_n 1, 1) := by decide +kernel
theorem dX11_heldTo_38 : decode cX11_heldTo 38 = .ok (.iconst 1, 1) := by decide +kernel
theorem dX11_heldTo_39 : decode cX11_heldTo 39 = .ok (.iadd, 1) := by decide +kernel
theorem dX11_heldTo_40 : decode cX11_heldTo 40 = .ok (.istore 5, 2) := by decide +kernel
theorem dX11_heldTo_42 : decode cX11_heldTo 42 = .ok (.iload 5, 2) := by decide +kernel
theorem dX11_heldTo_44 : decode cX11_heldTo 44 = .ok (.iload 4, 2) := by decide +kernel
theorem dX11_heldTo_46 : decode cX11_heldTo 46 = .ok (.if_icmp .ge 42, 3) := by decide +kernel
theorem dX11_heldTo_49 : decode cX11_heldTo 49 = .ok (.aload_n 0, 1) := by decide +kernel
theorem dX11_heldTo_50 : decode cX11_heldTo 50 = .ok (.iload 5, 2) := by decide +kernel
theorem dX11_heldTo_52 : decode cX11_heldTo 52 = .ok (.iload_n 1, 1) := by decide +kernel
theorem dX11_heldTo_53 : decode cX11_heldTo 53 = .ok (.invokevirtual 270, 3) := by decide +kernel
theorem dX11_heldTo_56 : decode cX11_heldTo 56 = .ok (.ifCond .eq 24, 3) := by decide +kernel
theorem dX11_heldTo_59 : decode cX11_heldTo 59 = .ok (.aload_n 0, 1) := by decide +kernel
theorem dX11_heldTo_60 : decode cX11_heldTo 60 = .ok (.getfield 90, 3) := by decide +kernel
theorem dX11_heldTo_63 : decode cX11_heldTo 63 = .ok (.iload 5, 2) := by decide +kernel
theorem dX11_heldTo_65 : decode cX11_heldTo 65 = .ok (.iaload, 1) := by decide +kernel
theorem dX11_heldTo_66 : decode cX11_heldTo 66 = .ok (.iload_n 3, 1) := by decide +kernel
theorem dX11_heldTo_67 : decode cX11_heldTo 67 = .ok (.if_icmp .le 13, 3) := by decide +kernel
theorem dX11_heldTo_70 : decode cX11_heldTo 70 = .ok (.aload_n 0, 1) := by decide +kernel
theorem dX11_heldTo_71 : decode cX11_heldTo 71 = .ok (.getfield 90, 3) := by decide +kernel
theorem dX11_heldTo_74 : decode cX11_heldTo 74 = .ok (.iload 5, 2) := by decide +kernel
theorem dX11_heldTo_76 : decode cX11_heldTo 76 = .ok (.iaload, 1) := by decide +kernel
theorem dX11_heldTo_77 : decode cX11_heldTo 77 = .ok (.goto 4, 3) := by decide +kernel
theorem dX11_heldTo_80 : decode cX11_heldTo 80 = .ok (.iload_n 3, 1) := by decide +kernel
theorem dX11_heldTo_81 : decode cX11_heldTo 81 = .ok (.istore_n 3, 1) := by decide +kernel
theorem dX11_heldTo_82 : decode cX11_heldTo 82 = .ok (.iinc 5 1, 3) := by decide +kernel
theorem dX11_heldTo_85 : decode cX11_heldTo 85 = .ok (.goto (-43), 3) := by decide +kernel
theorem dX11_heldTo_88 : decode cX11_heldTo 88 = .ok (.iload_n 3, 1) := by decide +kernel
theorem dX11_heldTo_89 : decode cX11_heldTo 89 = .ok (.ireturn, 1) := by decide +kernel
theorem dX11_holds_0 : decode cX11_holds 0 = .ok (.aload_n 0, 1) := by decide +kernel
theorem dX11_holds_1 : decode cX11_holds 1 = .ok (.getfield 60, 3) := by decide +kernel
theorem dX11_holds_4 : decode cX11_holds 4 = .ok (.iload_n 1, 1) := by decide +kernel
theorem dX11_holds_5 : decode cX11_holds 5 = .ok (.iaload, 1) := by decide +kernel
theorem dX11_holds_6 : decode cX11_holds 6 = .ok (.ifCond .ge 18, 3) := by decide +kernel
theorem dX11_holds_9 : decode cX11_holds 9 = .ok (.aload_n 0, 1) := by decide +kernel
theorem dX11_holds_10 : decode cX11_holds 10 = .ok (.getfield 111, 3) := by decide +kernel
theorem dX11_holds_13 : decode cX11_holds 13 = .ok (.iload_n 1, 1) := by decide +kernel
theorem dX11_holds_14 : decode cX11_holds 14 = .ok (.iaload, 1) := by decide +kernel
theorem dX11_holds_15 : decode cX11_holds 15 = .ok (.bipush (-2), 2) := by decide +kernel
theorem dX11_holds_17 : decode cX11_holds 17 = .ok (.if_icmp .le 7, 3) := by decide +kernel
theorem dX11_holds_20 : decode cX11_holds 20 = .ok (.iconst 1, 1) := by decide +kernel
theorem dX11_holds_21 : decode cX11_holds 21 = .ok (.goto 4, 3) := by decide +kernel
theorem dX11_holds_24 : decode cX11_holds 24 = .ok (.iconst 0, 1) := by decide +kernel
theorem dX11_holds_25 : decode cX11_holds 25 = .ok (.ireturn, 1) := by decide +kernel
theorem dX11_meet_0 : decode cX11_meet 0 = .ok (.aload_n 0, 1) := by decide +kernel
theorem dX11_meet_1 : decode cX11_meet 1 = .ok (.iload_n 1, 1) := by decide +kernel
theorem dX11_meet_2 : decode cX11_meet 2 = .ok (.invokevirtual 289, 3) := by decide +kernel
theorem dX11_meet_5 : decode cX11_meet 5 = .ok (.aload_n 0, 1) := by decide +kernel
theorem dX11_meet_6 : decode cX11_meet 6 = .ok (.getfield 111, 3) := by decide +kernel
theorem dX11_meet_9 : decode cX11_meet 9 = .ok (.iload_n 2, 1) := by decide +kernel
theorem dX11_meet_10 : decode cX11_meet 10 = .ok (.iaload, 1) := by decide +kernel
theorem dX11_meet_11 : decode cX11_meet 11 = .ok (.if_icmp .gt 21, 3) := by decide +kernel
theorem dX11_meet_14 : decode cX11_meet 14 = .ok (.aload_n 0, 1) := by decide +kernel
theorem dX11_meet_15 : decode cX11_meet 15 = .ok (.iload_n 2, 1) := by decide +kernel
theorem dX11_meet_16 : decode cX11_meet 16 = .ok (.invokevirtual 289, 3) := by decide +kernel
theorem dX11_meet_19 : decode cX11_meet 19 = .ok (.aload_n 0, 1) := by decide +kernel
theorem dX11_meet_20 : decode cX11_meet 20 = .ok (.getfield 111, 3) := by decide +kernel
theorem dX11_meet_23 : decode cX11_meet 23 = .ok (.iload_n 1, 1) := by decide +kernel
theorem dX11_meet_24 : decode cX11_meet 24 = .ok (.iaload, 1) := by decide +kernel
theorem dX11_meet_25 : decode cX11_meet 25 = .ok (.if_icmp .gt 7, 3) := by decide +kernel
theorem dX11_meet_28 : decode cX11_meet 28 = .ok (.iconst 1, 1) := by decide +kernel
theorem dX11_meet_29 : decode cX11_meet 29 = .ok (.goto 4, 3) := by decide +kernel
theorem dX11_meet_32 : decode cX11_meet 32 = .ok (.iconst 0, 1) := by decide +kernel
theorem dX11_meet_33 : decode cX11_meet 33 = .ok (.ireturn, 1) := by decide +kernel
theorem dX11_isBefore_0 : decode cX11_isBefore 0 = .ok (.aload_n 0, 1) := by decide +kernel
theorem dX11_isBefore_1 : decode cX11_isBefore 1 = .ok (.iload_n 1, 1) := by decide +kernel
theorem dX11_isBefore_2 : decode cX11_isBefore 2 = .ok (.invokevirtual 289, 3) := by decide +kernel
theorem dX11_isBefore_5 : decode cX11_isBefore 5 = .ok (.aload_n 0, 1) := by decide +kernel
theorem dX11_isBefore_6 : decode cX11_isBefore 6 = .ok (.iload_n 2, 1) := by decide +kernel
theorem dX11_isBefore_7 : decode cX11_isBefore 7 = .ok (.invokevirtual 289, 3) := by decide +kernel
theorem dX11_isBefore_10 : decode cX11_isBefore 10 = .ok (.if_icmp .lt 21, 3) := by decide +kernel
theorem dX11_isBefore_13 : decode cX11_isBefore 13 = .ok (.aload_n 0, 1) := by decide +kernel
theorem dX11_isBefore_14 : decode cX11_isBefore 14 = .ok (.iload_n 1, 1) := by decide +kernel
theorem dX11_isBefore_15 : decode cX11_isBefore 15 = .ok (.invokevirtual 289, 3) := by decide +kernel
theorem dX11_isBefore_18 : decode cX11_isBefore 18 = .ok (.aload_n 0, 1) := by decide +kernel
theorem dX11_isBefore_19 : decode cX11_isBefore 19 = .ok (.iload_n 2, 1) := by decide +kernel
theorem dX11_isBefore_20 : decode cX11_isBefore 20 = .ok (.invokevirtual 289, 3) := by decide +kernel
theorem dX11_isBefore_23 : decode cX11_isBefore 23 = .ok (.if_icmp .ne 12, 3) := by decide +kernel
theorem dX11_isBefore_26 : decode cX11_isBefore 26 = .ok (.iload_n 1, 1) := by decide +kernel
theorem dX11_isBefore_27 : decode cX11_isBefore 27 = .ok (.iload_n 2, 1) := by decide +kernel
theorem dX11_isBefore_28 : decode cX11_isBefore 28 = .ok (.if_icmp .ge 7, 3) := by decide +kernel
theorem dX11_isBefore_31 : decode cX11_isBefore 31 = .ok (.iconst 1, 1) := by decide +kernel
theorem dX11_isBefore_32 : decode cX11_isBefore 32 = .ok (.goto 4, 3) := by decide +kernel
theorem dX11_isBefore_35 : decode cX11_isBefore 35 = .ok (.iconst 0, 1) := by decide +kernel
theorem dX11_isBefore_36 : decode cX11_isBefore 36 = .ok (.ireturn, 1) := by decide +kernel
theorem dX11_bindOne_0 : decode cX11_bindOne 0 = .ok (.iconst (-1), 1) := by decide +kernel
theorem dX11_bindOne_1 : decode cX11_bindOne 1 = .ok (.istore_n 2, 1) := by decide +kernel
theorem dX11_bindOne_2 : decode cX11_bindOne 2 = .ok (.iconst 1, 1) := by decide +kernel
theorem dX11_bindOne_3 : decode cX11_bindOne 3 = .ok (.istore_n 3, 1) := by decide +kernel
theorem dX11_bindOne_4 : decode cX11_bindOne 4 = .ok (.aload_n 0, 1) := by decide +kernel
theorem dX11_bindOne_5 : decode cX11_bindOne 5 = .ok (.iload_n 1, 1) := by decide +kernel
theorem dX11_bindOne_6 : decode cX11_bindOne 6 = .ok (.invokevirtual 289, 3) := by decide +kernel
theorem dX11_bindOne_9 : decode cX11_bindOne 9 = .ok (.aload_n 0, 1) := by decide +kernel
theorem dX11_bindOne_10 : decode cX11_bindOne 10 = .ok (.getfield 111, 3) := by decide +kernel
theorem dX11_bindOne_13 : decode cX11_bindOne 13 = .ok (.iload_n 1, 1) := by decide +kernel
theorem dX11_bindOne_14 : decode cX11_bindOne 14 = .ok (.iaload, 1) := by decide +kernel
theorem dX11_bindOne_15 : decode cX11_bindOne 15 = .ok (.if_icmp .le 7, 3) := by decide +kernel
theorem dX11_bindOne_18 : decode cX11_bindOne 18 = .ok (.iconst 1, 1) := by decide +kernel
theorem dX11_bindOne_19 : decode cX11_bindOne 19 = .ok (.goto 4, 3) := by decide +kernel
theorem dX11_bindOne_22 : decode cX11_bindOne 22 = .ok (.iconst 0, 1) := by decide +kernel
theorem dX11_bindOne_23 : decode cX11_bindOne 23 = .ok (.istore 4, 2) := by decide +kernel
theorem dX11_bindOne_25 : decode cX11_bindOne 25 = .ok (.iload_n 3, 1) := by decide +kernel
theorem dX11_bindOne_26 : decode cX11_bindOne 26 = .ok (.ifCond .eq 87, 3) := by decide +kernel
theorem dX11_bindOne_29 : decode cX11_bindOne 29 = .ok (.iinc 2 1, 3) := by decide +kernel
theorem dX11_bindOne_32 : decode cX11_bindOne 32 = .ok (.iconst 0, 1) := by decide +kernel
theorem dX11_bindOne_33 : decode cX11_bindOne 33 = .ok (.istore_n 3, 1) := by decide +kernel
theorem dX11_bindOne_34 : decode cX11_bindOne 34 = .ok (.iconst 0, 1) := by decide +kernel
theorem dX11_bindOne_35 : decode cX11_bindOne 35 = .ok (.istore 5, 2) := by decide +kernel
theorem dX11_bindOne_37 : decode cX11_bindOne 37 = .ok (.iload 5, 2) := by decide +kernel
theorem dX11_bindOne_39 : decode cX11_bindOne 39 = .ok (.aload_n 0, 1) := by decide +kernel
theorem dX11_bindOne_40 : decode cX11_bindOne 40 = .ok (.getfield 261, 3) := by decide +kernel
theorem dX11_bindOne_43 : decode cX11_bindOne 43 = .ok (.if_icmp .ge 67, 3) := by decide +kernel
theorem dX11_bindOne_46 : decode cX11_bindOne 46 = .ok (.iload_n 3, 1) := by decide +kernel
theorem dX11_bindOne_47 : decode cX11_bindOne 47 = .ok (.ifCond .ne 51, 3) := by decide +kernel
theorem dX11_bindOne_50 : decode cX11_bindOne 50 = .ok (.iload 5, 2) := by decide +kernel
theorem dX11_bindOne_52 : decode cX11_bindOne 52 = .ok (.iload_n 1, 1) := by decide +kernel
theorem dX11_bindOne_53 : decode cX11_bindOne 53 = .ok (.if_icmp .eq 49, 3) := by decide +kernel
theorem dX11_bindOne_56 : decode cX11_bindOne 56 = .ok (.iload 4, 2) := by decide +kernel
theorem dX11_bindOne_58 : decode cX11_bindOne 58 = .ok (.ifCond .ne 44, 3) := by decide +kernel
theorem dX11_bindOne_61 : decode cX11_bindOne 61 = .ok (.aload_n 0, 1) := by decide +kernel
theorem dX11_bindOne_62 : decode cX11_bindOne 62 = .ok (.getfield 63, 3) := by decide +kernel
theorem dX11_bindOne_65 : decode cX11_bindOne 65 = .ok (.iload 5, 2) := by decide +kernel
theorem dX11_bindOne_67 : decode cX11_bindOne 67 = .ok (.iaload, 1) := by decide +kernel
theorem dX11_bindOne_68 : decode cX11_bindOne 68 = .ok (.aload_n 0, 1) := by decide +kernel
theorem dX11_bindOne_69 : decode cX11_bindOne 69 = .ok (.getfield 63, 3) := by decide +kernel
theorem dX11_bindOne_72 : decode cX11_bindOne 72 = .ok (.iload_n 1, 1) := by decide +kernel
theorem dX11_bindOne_73 : decode cX11_bindOne 73 = .ok (.iaload, 1) := by decide +kernel
theorem dX11_bindOne_74 : decode cX11_bindOne 74 = .ok (.if_icmp .ne 28, 3) := by decide +kernel
theorem dX11_bindOne_77 : decode cX11_bindOne 77 = .ok (.aload_n 0, 1) := by decide +kernel
theorem dX11_bindOne_78 : decode cX11_bindOne 78 = .ok (.getfield 96, 3) := by decide +kernel
theorem dX11_bindOne_81 : decode cX11_bindOne 81 = .ok (.iload 5, 2) := by decide +kernel
theorem dX11_bindOne_83 : decode cX11_bindOne 83 = .ok (.iaload, 1) := by decide +kernel
theorem dX11_bindOne_84 : decode cX11_bindOne 84 = .ok (.iload_n 2, 1) := by decide +kernel
theorem dX11_bindOne_85 : decode cX11_bindOne 85 = .ok (.if_icmp .ne 17, 3) := by decide +kernel
theorem dX11_bindOne_88 : decode cX11_bindOne 88 = .ok (.aload_n 0, 1) := by decide +kernel
theorem dX11_bindOne_89 : decode cX11_bindOne 89 = .ok (.iload_n 1, 1) := by decide +kernel
theorem dX11_bindOne_90 : decode cX11_bindOne 90 = .ok (.iload 5, 2) := by decide +kernel
theorem dX11_bindOne_92 : decode cX11_bindOne 92 = .ok (.invokevirtual 309, 3) := by decide +kernel
theorem dX11_bindOne_95 : decode cX11_bindOne 95 = .ok (.ifCond .eq 7, 3) := by decide +kernel
theorem dX11_bindOne_98 : decode cX11_bindOne 98 = .ok (.iconst 1, 1) := by decide +kernel
theorem dX11_bindOne_99 : decode cX11_bindOne 99 = .ok (.goto 4, 3) := by decide +kernel
theorem dX11_bindOne_102 : decode cX11_bindOne 102 = .ok (.iconst 0, 1) := by decide +kernel
theorem dX11_bindOne_103 : decode cX11_bindOne 103 = .ok (.istore_n 3, 1) := by decide +kernel
theorem dX11_bindOne_104 : decode cX11_bindOne 104 = .ok (.iinc 5 1, 3) := by decide +kernel
theorem dX11_bindOne_107 : decode cX11_bindOne 107 = .ok (.goto (-70), 3) := by decide +kernel
theorem dX11_bindOne_110 : decode cX11_bindOne 110 = .ok (.goto (-85), 3) := by decide +kernel
theorem dX11_bindOne_113 : decode cX11_bindOne 113 = .ok (.aload_n 0, 1) := by decide +kernel
theorem dX11_bindOne_114 : decode cX11_bindOne 114 = .ok (.getfield 96, 3) := by decide +kernel
theorem dX11_bindOne_117 : decode cX11_bindOne 117 = .ok (.iload_n 1, 1) := by decide +kernel
theorem dX11_bindOne_118 : decode cX11_bindOne 118 = .ok (.iload_n 2, 1) := by decide +kernel
theorem dX11_bindOne_119 : decode cX11_bindOne 119 = .ok (.iastore, 1) := by decide +kernel
theorem dX11_bindOne_120 : decode cX11_bindOne 120 = .ok (.return_, 1) := by decide +kernel
theorem dX11_bindRegisters_0 : decode cX11_bindRegisters 0 = .ok (.iconst 0, 1) := by decide +kernel
theorem dX11_bindRegisters_1 : decode cX11_bindRegisters 1 = .ok (.istore_n 1, 1) := by decide +kernel
theorem dX11_bindRegisters_2 : decode cX11_bindRegisters 2 = .ok (.iload_n 1, 1) := by decide +kernel
theorem dX11_bindRegisters_3 : decode cX11_bindRegisters 3 = .ok (.aload_n 0, 1) := by decide +kernel
theorem dX11_bindRegisters_4 : decode cX11_bindRegisters 4 = .ok (.getfield 261, 3) := by decide +kernel
theorem dX11_bindRegisters_7 : decode cX11_bindRegisters 7 = .ok (.if_icmp .ge 27, 3) := by decide +kernel
theorem dX11_bindRegisters_10 : decode cX11_bindRegisters 10 = .ok (.aload_n 0, 1) := by decide +kernel
theorem dX11_bindRegisters_11 : decode cX11_bindRegisters 11 = .ok (.getfield 96, 3) := by decide +kernel
theorem dX11_bindRegisters_14 : decode cX11_bindRegisters 14 = .ok (.iload_n 1, 1) := by decide +kernel
theorem dX11_bindRegisters_15 : decode cX11_bindRegisters 15 = .ok (.iconst (-1), 1) := by decide +kernel
theorem dX11_bindRegisters_16 : decode cX11_bindRegisters 16 = .ok (.iastore, 1) := by decide +kernel
theorem dX11_bindRegisters_17 : decode cX11_bindRegisters 17 = .ok (.aload_n 0, 1) := by decide +kernel
theorem dX11_bindRegisters_18 : decode cX11_bindRegisters 18 = .ok (.getfield 111, 3) := by decide +kernel
theorem dX11_bindRegisters_21 : decode cX11_bindRegisters 21 = .ok (.iload_n 1, 1) := by decide +kernel
theorem dX11_bindRegisters_22 : decode cX11_bindRegisters 22 = .ok (.aload_n 0, 1) := by decide +kernel
theorem dX11_bindRegisters_23 : decode cX11_bindRegisters 23 = .ok (.iload_n 1, 1) := by decide +kernel
theorem dX11_bindRegisters_24 : decode cX11_bindRegisters 24 = .ok (.invokevirtual 312, 3) := by decide +kernel
theorem dX11_bindRegisters_27 : decode cX11_bindRegisters 27 = .ok (.iastore, 1) := by decide +kernel
theorem dX11_bindRegisters_28 : decode cX11_bindRegisters 28 = .ok (.iinc 1 1, 3) := by decide +kernel
theorem dX11_bindRegisters_31 : decode cX11_bindRegisters 31 = .ok (.goto (-29), 3) := by decide +kernel
theorem dX11_bindRegisters_34 : decode cX11_bindRegisters 34 = .ok (.iconst 0, 1) := by decide +kernel
theorem dX11_bindRegisters_35 : decode cX11_bindRegisters 35 = .ok (.istore_n 1, 1) := by decide +kernel
theorem dX11_bindRegisters_36 : decode cX11_bindRegisters 36 = .ok (.iconst 0, 1) := by decide +kernel
theorem dX11_bindRegisters_37 : decode cX11_bindRegisters 37 = .ok (.istore_n 2, 1) := by decide +kernel
theorem dX11_bindRegisters_38 : decode cX11_bindRegisters 38 = .ok (.iload_n 2, 1) := by decide +kernel
theorem dX11_bindRegisters_39 : decode cX11_bindRegisters 39 = .ok (.aload_n 0, 1) := by decide +kernel
theorem dX11_bindRegisters_40 : decode cX11_bindRegisters 40 = .ok (.getfield 261, 3) := by decide +kernel
theorem dX11_bindRegisters_43 : decode cX11_bindRegisters 43 = .ok (.if_icmp .ge 25, 3) := by decide +kernel
theorem dX11_bindRegisters_46 : decode cX11_bindRegisters 46 = .ok (.aload_n 0, 1) := by decide +kernel
theorem dX11_bindRegisters_47 : decode cX11_bindRegisters 47 = .ok (.iload_n 2, 1) := by decide +kernel
theorem dX11_bindRegisters_48 : decode cX11_bindRegisters 48 = .ok (.invokevirtual 315, 3) := by decide +kernel
theorem dX11_bindRegisters_51 : decode cX11_bindRegisters 51 = .ok (.ifCond .eq 9, 3) := by decide +kernel
theorem dX11_bindRegisters_54 : decode cX11_bindRegisters 54 = .ok (.iload_n 1, 1) := by decide +kernel
theorem dX11_bindRegisters_55 : decode cX11_bindRegisters 55 = .ok (.iconst 1, 1) := by decide +kernel
theorem dX11_bindRegisters_56 : decode cX11_bindRegisters 56 = .ok (.iadd, 1) := by decide +kernel
theorem dX11_bindRegisters_57 : decode cX11_bindRegisters 57 = .ok (.goto 4, 3) := by decide +kernel
theorem dX11_bindRegisters_60 : decode cX11_bindRegisters 60 = .ok (.iload_n 1, 1) := by decide +kernel
theorem dX11_bindRegisters_61 : decode cX11_bindRegisters 61 = .ok (.istore_n 1, 1) := by decide +kernel
theorem dX11_bindRegisters_62 : decode cX11_bindRegisters 62 = .ok (.iinc 2 1, 3) := by decide +kernel
theorem dX11_bindRegisters_65 : decode cX11_bindRegisters 65 = .ok (.goto (-27), 3) := by decide +kernel
theorem dX11_bindRegisters_68 : decode cX11_bindRegisters 68 = .ok (.iload_n 1, 1) := by decide +kernel
theorem dX11_bindRegisters_69 : decode cX11_bindRegisters 69 = .ok (.ifCond .le 80, 3) := by decide +kernel
theorem dX11_bindRegisters_72 : decode cX11_bindRegisters 72 = .ok (.iconst (-1), 1) := by decide +kernel
theorem dX11_bindRegisters_73 : decode cX11_bindRegisters 73 = .ok (.istore_n 2, 1) := by decide +kernel
theorem dX11_bindRegisters_74 : decode cX11_bindRegisters 74 = .ok (.iconst 0, 1) := by decide +kernel
theorem dX11_bindRegisters_75 : decode cX11_bindRegisters 75 = .ok (.istore_n 3, 1) := by decide +kernel
theorem dX11_bindRegisters_76 : decode cX11_bindRegisters 76 = .ok (.iload_n 3, 1) := by decide +kernel
theorem dX11_bindRegisters_77 : decode cX11_bindRegisters 77 = .ok (.aload_n 0, 1) := by decide +kernel
theorem dX11_bindRegisters_78 : decode cX11_bindRegisters 78 = .ok (.getfield 261, 3) := by decide +kernel
theorem dX11_bindRegisters_81 : decode cX11_bindRegisters 81 = .ok (.if_icmp .ge 57, 3) := by decide +kernel
theorem dX11_bindRegisters_84 : decode cX11_bindRegisters 84 = .ok (.aload_n 0, 1) := by decide +kernel
theorem dX11_bindRegisters_85 : decode cX11_bindRegisters 85 = .ok (.iload_n 3, 1) := by decide +kernel
theorem dX11_bindRegisters_86 : decode cX11_bindRegisters 86 = .ok (.invokevirtual 315, 3) := by decide +kernel
theorem dX11_bindRegisters_89 : decode cX11_bindRegisters 89 = .ok (.ifCond .eq 16, 3) := by decide +kernel
theorem dX11_bindRegisters_92 : decode cX11_bindRegisters 92 = .ok (.aload_n 0, 1) := by decide +kernel
theorem dX11_bindRegisters_93 : decode cX11_bindRegisters 93 = .ok (.getfield 96, 3) := by decide +kernel
theorem dX11_bindRegisters_96 : decode cX11_bindRegisters 96 = .ok (.iload_n 3, 1) := by decide +kernel
theorem dX11_bindRegisters_97 : decode cX11_bindRegisters 97 = .ok (.iaload, 1) := by decide +kernel
theorem dX11_bindRegisters_98 : decode cX11_bindRegisters 98 = .ok (.ifCond .ge 7, 3) := by decide +kernel
theorem dX11_bindRegisters_101 : decode cX11_bindRegisters 101 = .ok (.iconst 1, 1) := by decide +kernel
theorem dX11_bindRegisters_102 : decode cX11_bindRegisters 102 = .ok (.goto 4, 3) := by decide +kernel
theorem dX11_bindRegisters_105 : decode cX11_bindRegisters 105 = .ok (.iconst 0, 1) := by decide +kernel
theorem dX11_bindRegisters_106 : decode cX11_bindRegisters 106 = .ok (.istore 4, 2) := by decide +kernel
theorem dX11_bindRegisters_108 : decode cX11_bindRegisters 108 = .ok (.iload 4, 2) := by decide +kernel
theorem dX11_bindRegisters_110 : decode cX11_bindRegisters 110 = .ok (.ifCond .eq 20, 3) := by decide +kernel
theorem dX11_bindRegisters_113 : decode cX11_bindRegisters 113 = .ok (.iload_n 2, 1) := by decide +kernel
theorem dX11_bindRegisters_114 : decode cX11_bindRegisters 114 = .ok (.ifCond .lt 12, 3) := by decide +kernel
theorem dX11_bindRegisters_117 : decode cX11_bindRegisters 117 = .ok (.aload_n 0, 1) := by decide +kernel
theorem dX11_bindRegisters_118 : decode cX11_bindRegisters 118 = .ok (.iload_n 3, 1) := by decide +kernel
theorem dX11_bindRegisters_119 : decode cX11_bindRegisters 119 = .ok (.iload_n 2, 1) := by decide +kernel
theorem dX11_bindRegisters_120 : decode cX11_bindRegisters 120 = .ok (.invokevirtual 318, 3) := by decide +kernel
theorem dX11_bindRegisters_123 : decode cX11_bindRegisters 123 = .ok (.ifCond .eq 7, 3) := by decide +kernel
theorem dX11_bindRegisters_126 : decode cX11_bindRegisters 126 = .ok (.iload_n 3, 1) := by decide +kernel
theorem dX11_bindRegisters_127 : decode cX11_bindRegisters 127 = .ok (.goto 4, 3) := by decide +kernel
theorem dX11_bindRegisters_130 : decode cX11_bindRegisters 130 = .ok (.iload_n 2, 1) := by decide +kernel
theorem dX11_bindRegisters_131 : decode cX11_bindRegisters 131 = .ok (.istore_n 2, 1) := by decide +kernel
theorem dX11_bindRegisters_132 : decode cX11_bindRegisters 132 = .ok (.iinc 3 1, 3) := by decide +kernel
theorem dX11_bindRegisters_135 : decode cX11_bindRegisters 135 = .ok (.goto (-59), 3) := by decide +kernel
theorem dX11_bindRegisters_138 : decode cX11_bindRegisters 138 = .ok (.aload_n 0, 1) := by decide +kernel
theorem dX11_bindRegisters_139 : decode cX11_bindRegisters 139 = .ok (.iload_n 2, 1) := by decide +kernel
theorem dX11_bindRegisters_140 : decode cX11_bindRegisters 140 = .ok (.invokevirtual 321, 3) := by decide +kernel
theorem dX11_bindRegisters_143 : decode cX11_bindRegisters 143 = .ok (.iinc 1 (-1), 3) := by decide +kernel
theorem dX11_bindRegisters_146 : decode cX11_bindRegisters 146 = .ok (.goto (-78), 3) := by decide +kernel
theorem dX11_bindRegisters_149 : decode cX11_bindRegisters 149 = .ok (.return_, 1) := by decide +kernel
theorem dX11_lay_0 : decode cX11_lay 0 = .ok (.iconst 0, 1) := by decide +kernel
theorem dX11_lay_1 : decode cX11_lay 1 = .ok (.istore_n 1, 1) := by decide +kernel
theorem dX11_lay_2 : decode cX11_lay 2 = .ok (.iload_n 1, 1) := by decide +kernel
theorem dX11_lay_3 : decode cX11_lay 3 = .ok (.aload_n 0, 1) := by decide +kernel
theorem dX11_lay_4 : decode cX11_lay 4 = .ok (.getfield 264, 3) := by decide +kernel
theorem dX11_lay_7 : decode cX11_lay 7 = .ok (.if_icmp .ge 14, 3) := by decide +kernel
theorem dX11_lay_10 : decode cX11_lay 10 = .ok (.aload_n 0, 1) := by decide +kernel
theorem dX11_lay_11 : decode cX11_lay 11 = .ok (.iload_n 1, 1) := by decide +kernel
theorem dX11_lay_12 : decode cX11_lay 12 = .ok (.invokevirtual 324, 3) := by decide +kernel
theorem dX11_lay_15 : decode cX11_lay 15 = .ok (.iinc 1 1, 3) := by decide +kernel
theorem dX11_lay_18 : decode cX11_lay 18 = .ok (.goto (-16), 3) := by decide +kernel
theorem dX11_lay_21 : decode cX11_lay 21 = .ok (.aload_n 0, 1) := by decide +kernel
theorem dX11_lay_22 : decode cX11_lay 22 = .ok (.invokevirtual 327, 3) := by decide +kernel
theorem dX11_lay_25 : decode cX11_lay 25 = .ok (.aload_n 0, 1) := by decide +kernel
theorem dX11_lay_26 : decode cX11_lay 26 = .ok (.invokevirtual 330, 3) := by decide +kernel
theorem dX11_lay_29 : decode cX11_lay 29 = .ok (.return_, 1) := by decide +kernel
theorem dX11_units_0 : decode cX11_units 0 = .ok (.aload_n 0, 1) := by decide +kernel
theorem dX11_units_1 : decode cX11_units 1 = .ok (.iload_n 1, 1) := by decide +kernel
theorem dX11_units_2 : decode cX11_units 2 = .ok (.ifCond .lt 37, 3) := by decide +kernel
theorem dX11_units_5 : decode cX11_units 5 = .ok (.iload_n 1, 1) := by decide +kernel
theorem dX11_units_6 : decode cX11_units 6 = .ok (.iconst 2, 1) := by decide +kernel
theorem dX11_units_7 : decode cX11_units 7 = .ok (.if_icmp .gt 32, 3) := by decide +kernel
theorem dX11_units_10 : decode cX11_units 10 = .ok (.iload_n 2, 1) := by decide +kernel
theorem dX11_units_11 : decode cX11_units 11 = .ok (.iconst 1, 1) := by decide +kernel
theorem dX11_units_12 : decode cX11_units 12 = .ok (.if_icmp .lt 27, 3) := by decide +kernel
theorem dX11_units_15 : decode cX11_units 15 = .ok (.iload_n 2, 1) := by decide +kernel
theorem dX11_units_16 : decode cX11_units 16 = .ok (.iconst 4, 1) := by decide +kernel
theorem dX11_units_17 : decode cX11_units 17 = .ok (.if_icmp .gt 22, 3) := by decide +kernel
theorem dX11_units_20 : decode cX11_units 20 = .ok (.iload_n 3, 1) := by decide +kernel
theorem dX11_units_21 : decode cX11_units 21 = .ok (.iconst 1, 1) := by decide +kernel
theorem dX11_units_22 : decode cX11_units 22 = .ok (.if_icmp .lt 17, 3) := by decide +kernel
theorem dX11_units_25 : decode cX11_units 25 = .ok (.iload_n 3, 1) := by decide +kernel
theorem dX11_units_26 : decode cX11_units 26 = .ok (.iconst 4, 1) := by decide +kernel
theorem dX11_units_27 : decode cX11_units 27 = .ok (.if_icmp .gt 12, 3) := by decide +kernel
theorem dX11_units_30 : decode cX11_units 30 = .ok (.iload_n 1, 1) := by decide +kernel
theorem dX11_units_31 : decode cX11_units 31 = .ok (.ifCond .ne 12, 3) := by decide +kernel
theorem dX11_units_34 : decode cX11_units 34 = .ok (.iload_n 3, 1) := by decide +kernel
theorem dX11_units_35 : decode cX11_units 35 = .ok (.iconst 1, 1) := by decide +kernel
theorem dX11_units_36 : decode cX11_units 36 = .ok (.if_icmp .eq 7, 3) := by decide +kernel
theorem dX11_units_39 : decode cX11_units 39 = .ok (.iconst 1, 1) := by decide +kernel
theorem dX11_units_40 : decode cX11_units 40 = .ok (.goto 4, 3) := by decide +kernel
theorem dX11_units_43 : decode cX11_units 43 = .ok (.iconst 0, 1) := by decide +kernel
theorem dX11_units_44 : decode cX11_units 44 = .ok (.putfield 117, 3) := by decide +kernel
theorem dX11_units_47 : decode cX11_units 47 = .ok (.aload_n 0, 1) := by decide +kernel
theorem dX11_units_48 : decode cX11_units 48 = .ok (.getfield 117, 3) := by decide +kernel
theorem dX11_units_51 : decode cX11_units 51 = .ok (.ifCond .ne 21, 3) := by decide +kernel
theorem dX11_units_54 : decode cX11_units 54 = .ok (.aload_n 0, 1) := by decide +kernel
theorem dX11_units_55 : decode cX11_units 55 = .ok (.getfield 81, 3) := by decide +kernel
theorem dX11_units_58 : decode cX11_units 58 = .ok (.iload_n 1, 1) := by decide +kernel
theorem dX11_units_59 : decode cX11_units 59 = .ok (.iload_n 2, 1) := by decide +kernel
theorem dX11_units_60 : decode cX11_units 60 = .ok (.iastore, 1) := by decide +kernel
theorem dX11_units_61 : decode cX11_units 61 = .ok (.aload_n 0, 1) := by decide +kernel
theorem dX11_units_62 : decode cX11_units 62 = .ok (.getfield 84, 3) := by decide +kernel
theorem dX11_units_65 : decode cX11_units 65 = .ok (.iload_n 1, 1) := by decide +kernel
theorem dX11_units_66 : decode cX11_units 66 = .ok (.iload_n 3, 1) := by decide +kernel
theorem dX11_units_67 : decode cX11_units 67 = .ok (.iastore, 1) := by decide +kernel
theorem dX11_units_68 : decode cX11_units 68 = .ok (.aload_n 0, 1) := by decide +kernel
theorem dX11_units_69 : decode cX11_units 69 = .ok (.invokevirtual 267, 3) := by decide +kernel
theorem dX11_units_72 : decode cX11_units 72 = .ok (.return_, 1) := by decide +kernel
theorem dX11_told_0 : decode cX11_told 0 = .ok (.aload_n 0, 1) := by decide +kernel
theorem dX11_told_1 : decode cX11_told 1 = .ok (.iload_n 1, 1) := by decide +kernel
theorem dX11_told_2 : decode cX11_told 2 = .ok (.ifCond .lt 9, 3) := by decide +kernel
theorem dX11_told_5 : decode cX11_told 5 = .ok (.iload_n 1, 1) := by decide +kernel
theorem dX11_told_6 : decode cX11_told 6 = .ok (.bipush 6, 2) := by decide +kernel
theorem dX11_told_8 : decode cX11_told 8 = .ok (.if_icmp .le 7, 3) := by decide +kernel
theorem dX11_told_11 : decode cX11_told 11 = .ok (.iconst 1, 1) := by decide +kernel
theorem dX11_told_12 : decode cX11_told 12 = .ok (.goto 4, 3) := by decide +kernel
theorem dX11_told_15 : decode cX11_told 15 = .ok (.iconst 0, 1) := by decide +kernel
theorem dX11_told_16 : decode cX11_told 16 = .ok (.putfield 117, 3) := by decide +kernel
theorem dX11_told_19 : decode cX11_told 19 = .ok (.aload_n 0, 1) := by decide +kernel
theorem dX11_told_20 : decode cX11_told 20 = .ok (.getfield 117, 3) := by decide +kernel
theorem dX11_told_23 : decode cX11_told 23 = .ok (.ifCond .le 5, 3) := by decide +kernel
theorem dX11_told_26 : decode cX11_told 26 = .ok (.iconst 0, 1) := by decide +kernel
theorem dX11_told_27 : decode cX11_told 27 = .ok (.ireturn, 1) := by decide +kernel
theorem dX11_told_28 : decode cX11_told 28 = .ok (.iconst 0, 1) := by decide +kernel
theorem dX11_told_29 : decode cX11_told 29 = .ok (.istore_n 2, 1) := by decide +kernel
theorem dX11_told_30 : decode cX11_told 30 = .ok (.iconst 0, 1) := by decide +kernel
theorem dX11_told_31 : decode cX11_told 31 = .ok (.istore_n 3, 1) := by decide +kernel
theorem dX11_told_32 : decode cX11_told 32 = .ok (.iconst 0, 1) := by decide +kernel
theorem dX11_told_33 : decode cX11_told 33 = .ok (.istore 4, 2) := by decide +kernel
theorem dX11_told_35 : decode cX11_told 35 = .ok (.iload 4, 2) := by decide +kernel
theorem dX11_told_37 : decode cX11_told 37 = .ok (.aload_n 0, 1) := by decide +kernel
theorem dX11_told_38 : decode cX11_told 38 = .ok (.getfield 264, 3) := by decide +kernel
theorem dX11_told_41 : decode cX11_told 41 = .ok (.if_icmp .ge 19, 3) := by decide +kernel
theorem dX11_told_44 : decode cX11_told 44 = .ok (.iload_n 2, 1) := by decide +kernel
theorem dX11_told_45 : decode cX11_told 45 = .ok (.aload_n 0, 1) := by decide +kernel
theorem dX11_told_46 : decode cX11_told 46 = .ok (.getfield 99, 3) := by decide +kernel
theorem dX11_told_49 : decode cX11_told 49 = .ok (.iload 4, 2) := by decide +kernel
theorem dX11_told_51 : decode cX11_told 51 = .ok (.iaload, 1) := by decide +kernel
theorem dX11_told_52 : decode cX11_told 52 = .ok (.iadd, 1) := by decide +kernel
theorem dX11_told_53 : decode cX11_told 53 = .ok (.istore_n 2, 1) := by decide +kernel
theorem dX11_told_54 : decode cX11_told 54 = .ok (.iinc 4 1, 3) := by decide +kernel
theorem dX11_told_57 : decode cX11_told 57 = .ok (.goto (-22), 3) := by decide +kernel
theorem dX11_told_60 : decode cX11_told 60 = .ok (.iconst 0, 1) := by decide +kernel
theorem dX11_told_61 : decode cX11_told 61 = .ok (.istore 4, 2) := by decide +kernel
theorem dX11_told_63 : decode cX11_told 63 = .ok (.iload 4, 2) := by decide +kernel
theorem dX11_told_65 : decode cX11_told 65 = .ok (.aload_n 0, 1) := by decide +kernel
theorem dX11_told_66 : decode cX11_told 66 = .ok (.getfield 261, 3) := by decide +kernel
theorem dX11_told_69 : decode cX11_told 69 = .ok (.if_icmp .ge 70, 3) := by decide +kernel
theorem dX11_told_72 : decode cX11_told 72 = .ok (.iload_n 1, 1) := by decide +kernel
theorem dX11_told_73 : decode cX11_told 73 = .ok (.iconst 2, 1) := by decide +kernel
theorem dX11_told_74 : decode cX11_told 74 = .ok (.if_icmp .ne 15, 3) := by decide +kernel
theorem dX11_told_77 : decode cX11_told 77 = .ok (.aload_n 0, 1) := by decide +kernel
theorem dX11_told_78 : decode cX11_told 78 = .ok (.getfield 96, 3) := by decide +kernel
theorem dX11_told_81 : decode cX11_told 81 = .ok (.iload 4, 2) := by decide +kernel
theorem dX11_told_83 : decode cX11_told 83 = .ok (.iaload, 1) := by decide +kernel
theorem dX11_told_84 : decode cX11_told 84 = .ok (.iconst 1, 1) := by decide +kernel
theorem dX11_told_85 : decode cX11_told 85 = .ok (.iadd, 1) := by decide +kernel
theorem dX11_told_86 : decode cX11_told 86 = .ok (.goto 32, 3) := by decide +kernel
theorem dX11_told_89 : decode cX11_told 89 = .ok (.aload_n 0, 1) := by decide +kernel
theorem dX11_told_90 : decode cX11_told 90 = .ok (.getfield 51, 3) := by decide +kernel
theorem dX11_told_93 : decode cX11_told 93 = .ok (.iload 4, 2) := by decide +kernel
theorem dX11_told_95 : decode cX11_told 95 = .ok (.iaload, 1) := by decide +kernel
theorem dX11_told_96 : decode cX11_told 96 = .ok (.invokestatic 277, 3) := by decide +kernel
theorem dX11_told_99 : decode cX11_told 99 = .ok (.iload_n 1, 1) := by decide +kernel
theorem dX11_told_100 : decode cX11_told 100 = .ok (.iconst 3, 1) := by decide +kernel
theorem dX11_told_101 : decode cX11_told 101 = .ok (.isub, 1) := by decide +kernel
theorem dX11_told_102 : decode cX11_told 102 = .ok (.if_icmp .ne 15, 3) := by decide +kernel
theorem dX11_told_105 : decode cX11_told 105 = .ok (.aload_n 0, 1) := by decide +kernel
theorem dX11_told_106 : decode cX11_told 106 = .ok (.getfield 93, 3) := by decide +kernel
theorem dX11_told_109 : decode cX11_told 109 = .ok (.iload 4, 2) := by decide +kernel
theorem dX11_told_111 : decode cX11_told 111 = .ok (.iaload, 1) := by decide +kernel
theorem dX11_told_112 : decode cX11_told 112 = .ok (.iconst 1, 1) := by decide +kernel
theorem dX11_told_113 : decode cX11_told 113 = .ok (.iadd, 1) := by decide +kernel
theorem dX11_told_114 : decode cX11_told 114 = .ok (.goto 4, 3) := by decide +kernel
theorem dX11_told_117 : decode cX11_told 117 = .ok (.iconst 0, 1) := by decide +kernel
theorem dX11_told_118 : decode cX11_told 118 = .ok (.istore 5, 2) := by decide +kernel
theorem dX11_told_120 : decode cX11_told 120 = .ok (.iload 5, 2) := by decide +kernel
theorem dX11_told_122 : decode cX11_told 122 = .ok (.iload_n 3, 1) := by decide +kernel
theorem dX11_told_123 : decode cX11_told 123 = .ok (.if_icmp .le 8, 3) := by decide +kernel
theorem dX11_told_126 : decode cX11_told 126 = .ok (.iload 5, 2) := by decide +kernel
theorem dX11_told_128 : decode cX11_told 128 = .ok (.goto 4, 3) := by decide +kernel
theorem dX11_told_131 : decode cX11_told 131 = .ok (.iload_n 3, 1) := by decide +kernel
theorem dX11_told_132 : decode cX11_told 132 = .ok (.istore_n 3, 1) := by decide +kernel
theorem dX11_told_133 : decode cX11_told 133 = .ok (.iinc 4 1, 3) := by decide +kernel
theorem dX11_told_136 : decode cX11_told 136 = .ok (.goto (-73), 3) := by decide +kernel
theorem dX11_told_139 : decode cX11_told 139 = .ok (.iload_n 1, 1) := by decide +kernel
theorem dX11_told_140 : decode cX11_told 140 = .ok (.ifCond .ne 10, 3) := by decide +kernel
theorem dX11_told_143 : decode cX11_told 143 = .ok (.aload_n 0, 1) := by decide +kernel
theorem dX11_told_144 : decode cX11_told 144 = .ok (.getfield 264, 3) := by decide +kernel
theorem dX11_told_147 : decode cX11_told 147 = .ok (.goto 13, 3) := by decide +kernel
theorem dX11_told_150 : decode cX11_told 150 = .ok (.iload_n 1, 1) := by decide +kernel
theorem dX11_told_151 : decode cX11_told 151 = .ok (.iconst 1, 1) := by decide +kernel
theorem dX11_told_152 : decode cX11_told 152 = .ok (.if_icmp .ne 7, 3) := by decide +kernel
theorem dX11_told_155 : decode cX11_told 155 = .ok (.iload_n 2, 1) := by decide +kernel
theorem dX11_told_156 : decode cX11_told 156 = .ok (.goto 4, 3) := by decide +kernel
theorem dX11_told_159 : decode cX11_told 159 = .ok (.iload_n 3, 1) := by decide +kernel
theorem dX11_told_160 : decode cX11_told 160 = .ok (.ireturn, 1) := by decide +kernel
theorem dX11_block_0 : decode cX11_block 0 = .ok (.aload_n 0, 1) := by decide +kernel
theorem dX11_block_1 : decode cX11_block 1 = .ok (.iload_n 1, 1) := by decide +kernel
theorem dX11_block_2 : decode cX11_block 2 = .ok (.ifCond .lt 11, 3) := by decide +kernel
theorem dX11_block_5 : decode cX11_block 5 = .ok (.iload_n 1, 1) := by decide +kernel
theorem dX11_block_6 : decode cX11_block 6 = .ok (.aload_n 0, 1) := by decide +kernel
theorem dX11_block_7 : decode cX11_block 7 = .ok (.getfield 264, 3) := by decide +kernel
theorem dX11_block_10 : decode cX11_block 10 = .ok (.if_icmp .lt 7, 3) := by decide +kernel
theorem dX11_block_13 : decode cX11_block 13 = .ok (.iconst 1, 1) := by decide +kernel
theorem dX11_block_14 : decode cX11_block 14 = .ok (.goto 17, 3) := by decide +kernel
theorem dX11_block_17 : decode cX11_block 17 = .ok (.iload_n 2, 1) := by decide +kernel
theorem dX11_block_18 : decode cX11_block 18 = .ok (.ifCond .lt 8, 3) := by decide +kernel
theorem dX11_block_21 : decode cX11_block 21 = .ok (.iload_n 2, 1) := by decide +kernel
theorem dX11_block_22 : decode cX11_block 22 = .ok (.iconst 4, 1) := by decide +kernel
theorem dX11_block_23 : decode cX11_block 23 = .ok (.if_icmp .le 7, 3) := by decide +kernel
theorem dX11_block_26 : decode cX11_block 26 = .ok (.iconst 2, 1) := by decide +kernel
theorem dX11_block_27 : decode cX11_block 27 = .ok (.goto 4, 3) := by decide +kernel
theorem dX11_block_30 : decode cX11_block 30 = .ok (.iconst 0, 1) := by decide +kernel
theorem dX11_block_31 : decode cX11_block 31 = .ok (.putfield 117, 3) := by decide +kernel
theorem dX11_block_34 : decode cX11_block 34 = .ok (.aload_n 0, 1) := by decide +kernel
theorem dX11_block_35 : decode cX11_block 35 = .ok (.getfield 117, 3) := by decide +kernel
theorem dX11_block_38 : decode cX11_block 38 = .ok (.ifCond .le 5, 3) := by decide +kernel
theorem dX11_block_41 : decode cX11_block 41 = .ok (.iconst 0, 1) := by decide +kernel
theorem dX11_block_42 : decode cX11_block 42 = .ok (.ireturn, 1) := by decide +kernel
theorem dX11_block_43 : decode cX11_block 43 = .ok (.aload_n 0, 1) := by decide +kernel
theorem dX11_block_44 : decode cX11_block 44 = .ok (.iload_n 1, 1) := by decide +kernel
theorem dX11_block_45 : decode cX11_block 45 = .ok (.invokevirtual 283, 3) := by decide +kernel
theorem dX11_block_48 : decode cX11_block 48 = .ok (.istore_n 3, 1) := by decide +kernel
theorem dX11_block_49 : decode cX11_block 49 = .ok (.iload_n 2, 1) := by decide +kernel
theorem dX11_block_50 : decode cX11_block 50 = .ok (.ifCond .ne 12, 3) := by decide +kernel
theorem dX11_block_53 : decode cX11_block 53 = .ok (.aload_n 0, 1) := by decide +kernel
theorem dX11_block_54 : decode cX11_block 54 = .ok (.getfield 99, 3) := by decide +kernel
theorem dX11_block_57 : decode cX11_block 57 = .ok (.iload_n 1, 1) := by decide +kernel
theorem dX11_block_58 : decode cX11_block 58 = .ok (.iaload, 1) := by decide +kernel
theorem dX11_block_59 : decode cX11_block 59 = .ok (.goto 55, 3) := by decide +kernel
theorem dX11_block_62 : decode cX11_block 62 = .ok (.iload_n 2, 1) := by decide +kernel
theorem dX11_block_63 : decode cX11_block 63 = .ok (.iconst 1, 1) := by decide +kernel
theorem dX11_block_64 : decode cX11_block 64 = .ok (.if_icmp .ne 7, 3) := by decide +kernel
theorem dX11_block_67 : decode cX11_block 67 = .ok (.iload_n 3, 1) := by decide +kernel
theorem dX11_block_68 : decode cX11_block 68 = .ok (.goto 46, 3) := by decide +kernel
theorem dX11_block_71 : decode cX11_block 71 = .ok (.iload_n 2, 1) := by decide +kernel
theorem dX11_block_72 : decode cX11_block 72 = .ok (.iconst 2, 1) := by decide +kernel
theorem dX11_block_73 : decode cX11_block 73 = .ok (.if_icmp .ne 21, 3) := by decide +kernel
theorem dX11_block_76 : decode cX11_block 76 = .ok (.iload_n 3, 1) := by decide +kernel
theorem dX11_block_77 : decode cX11_block 77 = .ok (.ifCond .ge 7, 3) := by decide +kernel
theorem dX11_block_80 : decode cX11_block 80 = .ok (.iconst 0, 1) := by decide +kernel
theorem dX11_block_81 : decode cX11_block 81 = .ok (.goto 33, 3) := by decide +kernel
theorem dX11_block_84 : decode cX11_block 84 = .ok (.aload_n 0, 1) := by decide +kernel
theorem dX11_block_85 : decode cX11_block 85 = .ok (.iload_n 1, 1) := by decide +kernel
theorem dX11_block_86 : decode cX11_block 86 = .ok (.invokevirtual 292, 3) := by decide +kernel
theorem dX11_block_89 : decode cX11_block 89 = .ok (.iload_n 3, 1) := by decide +kernel
theorem dX11_block_90 : decode cX11_block 90 = .ok (.isub, 1) := by decide +kernel
theorem dX11_block_91 : decode cX11_block 91 = .ok (.goto 23, 3) := by decide +kernel
theorem dX11_block_94 : decode cX11_block 94 = .ok (.iload_n 2, 1) := by decide +kernel
theorem dX11_block_95 : decode cX11_block 95 = .ok (.iconst 3, 1) := by decide +kernel
theorem dX11_block_96 : decode cX11_block 96 = .ok (.if_icmp .ne 12, 3) := by decide +kernel
theorem dX11_block_99 : decode cX11_block 99 = .ok (.aload_n 0, 1) := by decide +kernel
theorem dX11_block_100 : decode cX11_block 100 = .ok (.getfield 72, 3) := by decide +kernel
theorem dX11_block_103 : decode cX11_block 103 = .ok (.iload_n 1, 1) := by decide +kernel
theorem dX11_block_104 : decode cX11_block 104 = .ok (.iaload, 1) := by decide +kernel
theorem dX11_block_105 : decode cX11_block 105 = .ok (.goto 9, 3) := by decide +kernel
theorem dX11_block_108 : decode cX11_block 108 = .ok (.aload_n 0, 1) := by decide +kernel
theorem dX11_block_109 : decode cX11_block 109 = .ok (.getfield 75, 3) := by decide +kernel
theorem dX11_block_112 : decode cX11_block 112 = .ok (.iload_n 1, 1) := by decide +kernel
theorem dX11_block_113 : decode cX11_block 113 = .ok (.iaload, 1) := by decide +kernel
theorem dX11_block_114 : decode cX11_block 114 = .ok (.ireturn, 1) := by decide +kernel
theorem dX11_operation_0 : decode cX11_operation 0 = .ok (.aload_n 0, 1) := by decide +kernel
theorem dX11_operation_1 : decode cX11_operation 1 = .ok (.iload_n 1, 1) := by decide +kernel
theorem dX11_operation_2 : decode cX11_operation 2 = .ok (.ifCond .lt 11, 3) := by decide +kernel
theorem dX11_operation_5 : decode cX11_operation 5 = .ok (.iload_n 1, 1) := by decide +kernel
theorem dX11_operation_6 : decode cX11_operation 6 = .ok (.aload_n 0, 1) := by decide +kernel
theorem dX11_operation_7 : decode cX11_operation 7 = .ok (.getfield 261, 3) := by decide +kernel
theorem dX11_operation_10 : decode cX11_operation 10 = .ok (.if_icmp .lt 7, 3) := by decide +kernel
theorem dX11_operation_13 : decode cX11_operation 13 = .ok (.iconst 1, 1) := by decide +kernel
theorem dX11_operation_14 : decode cX11_operation 14 = .ok (.goto 17, 3) := by decide +kernel
theorem dX11_operation_17 : decode cX11_operation 17 = .ok (.iload_n 2, 1) := by decide +kernel
theorem dX11_operation_18 : decode cX11_operation 18 = .ok (.ifCond .lt 8, 3) := by decide +kernel
theorem dX11_operation_21 : decode cX11_operation 21 = .ok (.iload_n 2, 1) := by decide +kernel
theorem dX11_operation_22 : decode cX11_operation 22 = .ok (.iconst 5, 1) := by decide +kernel
theorem dX11_operation_23 : decode cX11_operation 23 = .ok (.if_icmp .le 7, 3) := by decide +kernel
theorem dX11_operation_26 : decode cX11_operation 26 = .ok (.iconst 2, 1) := by decide +kernel
theorem dX11_operation_27 : decode cX11_operation 27 = .ok (.goto 4, 3) := by decide +kernel
theorem dX11_operation_30 : decode cX11_operation 30 = .ok (.iconst 0, 1) := by decide +kernel
theorem dX11_operation_31 : decode cX11_operation 31 = .ok (.putfield 117, 3) := by decide +kernel
theorem dX11_operation_34 : decode cX11_operation 34 = .ok (.aload_n 0, 1) := by decide +kernel
theorem dX11_operation_35 : decode cX11_operation 35 = .ok (.getfield 117, 3) := by decide +kernel
theorem dX11_operation_38 : decode cX11_operation 38 = .ok (.ifCond .le 5, 3) := by decide +kernel
theorem dX11_operation_41 : decode cX11_operation 41 = .ok (.iconst 0, 1) := by decide +kernel
theorem dX11_operation_42 : decode cX11_operation 42 = .ok (.ireturn, 1) := by decide +kernel
theorem dX11_operation_43 : decode cX11_operation 43 = .ok (.iload_n 2, 1) := by decide +kernel
theorem dX11_operation_44 : decode cX11_operation 44 = .ok (.ifCond .ne 15, 3) := by decide +kernel
theorem dX11_operation_47 : decode cX11_operation 47 = .ok (.aload_n 0, 1) := by decide +kernel
theorem dX11_operation_48 : decode cX11_operation 48 = .ok (.getfield 51, 3) := by decide +kernel
theorem dX11_operation_51 : decode cX11_operation 51 = .ok (.iload_n 1, 1) := by decide +kernel
theorem dX11_operation_52 : decode cX11_operation 52 = .ok (.iaload, 1) := by decide +kernel
theorem dX11_operation_53 : decode cX11_operation 53 = .ok (.invokestatic 277, 3) := by decide +kernel
theorem dX11_operation_56 : decode cX11_operation 56 = .ok (.goto 65, 3) := by decide +kernel
theorem dX11_operation_59 : decode cX11_operation 59 = .ok (.iload_n 2, 1) := by decide +kernel
theorem dX11_operation_60 : decode cX11_operation 60 = .ok (.iconst 1, 1) := by decide +kernel
theorem dX11_operation_61 : decode cX11_operation 61 = .ok (.if_icmp .ne 12, 3) := by decide +kernel
theorem dX11_operation_64 : decode cX11_operation 64 = .ok (.aload_n 0, 1) := by decide +kernel
theorem dX11_operation_65 : decode cX11_operation 65 = .ok (.getfield 63, 3) := by decide +kernel
theorem dX11_operation_68 : decode cX11_operation 68 = .ok (.iload_n 1, 1) := by decide +kernel
theorem dX11_operation_69 : decode cX11_operation 69 = .ok (.iaload, 1) := by decide +kernel
theorem dX11_operation_70 : decode cX11_operation 70 = .ok (.goto 51, 3) := by decide +kernel
theorem dX11_operation_73 : decode cX11_operation 73 = .ok (.iload_n 2, 1) := by decide +kernel
theorem dX11_operation_74 : decode cX11_operation 74 = .ok (.iconst 2, 1) := by decide +kernel
theorem dX11_operation_75 : decode cX11_operation 75 = .ok (.if_icmp .ne 12, 3) := by decide +kernel
theorem dX11_operation_78 : decode cX11_operation 78 = .ok (.aload_n 0, 1) := by decide +kernel
theorem dX11_operation_79 : decode cX11_operation 79 = .ok (.getfield 90, 3) := by decide +kernel
theorem dX11_operation_82 : decode cX11_operation 82 = .ok (.iload_n 1, 1) := by decide +kernel
theorem dX11_operation_83 : decode cX11_operation 83 = .ok (.iaload, 1) := by decide +kernel
theorem dX11_operation_84 : decode cX11_operation 84 = .ok (.goto 37, 3) := by decide +kernel
theorem dX11_operation_87 : decode cX11_operation 87 = .ok (.iload_n 2, 1) := by decide +kernel
theorem dX11_operation_88 : decode cX11_operation 88 = .ok (.iconst 3, 1) := by decide +kernel
theorem dX11_operation_89 : decode cX11_operation 89 = .ok (.if_icmp .ne 12, 3) := by decide +kernel
theorem dX11_operation_92 : decode cX11_operation 92 = .ok (.aload_n 0, 1) := by decide +kernel
theorem dX11_operation_93 : decode cX11_operation 93 = .ok (.getfield 87, 3) := by decide +kernel
theorem dX11_operation_96 : decode cX11_operation 96 = .ok (.iload_n 1, 1) := by decide +kernel
theorem dX11_operation_97 : decode cX11_operation 97 = .ok (.iaload, 1) := by decide +kernel
theorem dX11_operation_98 : decode cX11_operation 98 = .ok (.goto 23, 3) := by decide +kernel
theorem dX11_operation_101 : decode cX11_operation 101 = .ok (.iload_n 2, 1) := by decide +kernel
theorem dX11_operation_102 : decode cX11_operation 102 = .ok (.iconst 4, 1) := by decide +kernel
theorem dX11_operation_103 : decode cX11_operation 103 = .ok (.if_icmp .ne 12, 3) := by decide +kernel
theorem dX11_operation_106 : decode cX11_operation 106 = .ok (.aload_n 0, 1) := by decide +kernel
theorem dX11_operation_107 : decode cX11_operation 107 = .ok (.getfield 93, 3) := by decide +kernel
theorem dX11_operation_110 : decode cX11_operation 110 = .ok (.iload_n 1, 1) := by decide +kernel
theorem dX11_operation_111 : decode cX11_operation 111 = .ok (.iaload, 1) := by decide +kernel
theorem dX11_operation_112 : decode cX11_operation 112 = .ok (.goto 9, 3) := by decide +kernel
theorem dX11_operation_115 : decode cX11_operation 115 = .ok (.aload_n 0, 1) := by decide +kernel
theorem dX11_operation_116 : decode cX11_operation 116 = .ok (.getfield 96, 3) := by decide +kernel
theorem dX11_operation_119 : decode cX11_operation 119 = .ok (.iload_n 1, 1) := by decide +kernel
theorem dX11_operation_120 : decode cX11_operation 120 = .ok (.iaload, 1) := by decide +kernel
theorem dX11_operation_121 : decode cX11_operation 121 = .ok (.ireturn, 1) := by decide +kernel
theorem dX11_set_0 : decode cX11_set 0 = .ok (.aload_n 0, 1) := by decide +kernel
theorem dX11_set_1 : decode cX11_set 1 = .ok (.iload_n 1, 1) := by decide +kernel
theorem dX11_set_2 : decode cX11_set 2 = .ok (.ifCond .lt 9, 3) := by decide +kernel
theorem dX11_set_5 : decode cX11_set 5 = .ok (.iload_n 1, 1) := by decide +kernel
theorem dX11_set_6 : decode cX11_set 6 = .ok (.bipush 7, 2) := by decide +kernel
theorem dX11_set_8 : decode cX11_set 8 = .ok (.if_icmp .le 7, 3) := by decide +kernel
theorem dX11_set_11 : decode cX11_set 11 = .ok (.iconst 1, 1) := by decide +kernel
theorem dX11_set_12 : decode cX11_set 12 = .ok (.goto 4, 3) := by decide +kernel
theorem dX11_set_15 : decode cX11_set 15 = .ok (.iconst 0, 1) := by decide +kernel
theorem dX11_set_16 : decode cX11_set 16 = .ok (.putfield 117, 3) := by decide +kernel
theorem dX11_set_19 : decode cX11_set 19 = .ok (.aload_n 0, 1) := by decide +kernel
theorem dX11_set_20 : decode cX11_set 20 = .ok (.getfield 117, 3) := by decide +kernel
theorem dX11_set_23 : decode cX11_set 23 = .ok (.ifCond .le 5, 3) := by decide +kernel
theorem dX11_set_26 : decode cX11_set 26 = .ok (.iconst 0, 1) := by decide +kernel
theorem dX11_set_27 : decode cX11_set 27 = .ok (.ireturn, 1) := by decide +kernel
theorem dX11_set_28 : decode cX11_set 28 = .ok (.aload_n 0, 1) := by decide +kernel
theorem dX11_set_29 : decode cX11_set 29 = .ok (.getfield 102, 3) := by decide +kernel
theorem dX11_set_32 : decode cX11_set 32 = .ok (.iload_n 1, 1) := by decide +kernel
theorem dX11_set_33 : decode cX11_set 33 = .ok (.iaload, 1) := by decide +kernel
theorem dX11_set_34 : decode cX11_set 34 = .ok (.istore_n 3, 1) := by decide +kernel
theorem dX11_set_35 : decode cX11_set 35 = .ok (.aload_n 0, 1) := by decide +kernel
theorem dX11_set_36 : decode cX11_set 36 = .ok (.getfield 102, 3) := by decide +kernel
theorem dX11_set_39 : decode cX11_set 39 = .ok (.iload_n 1, 1) := by decide +kernel
theorem dX11_set_40 : decode cX11_set 40 = .ok (.iload_n 2, 1) := by decide +kernel
theorem dX11_set_41 : decode cX11_set 41 = .ok (.iastore, 1) := by decide +kernel
theorem dX11_set_42 : decode cX11_set 42 = .ok (.iload_n 3, 1) := by decide +kernel
theorem dX11_set_43 : decode cX11_set 43 = .ok (.ireturn, 1) := by decide +kernel
theorem dX11_get_0 : decode cX11_get 0 = .ok (.aload_n 0, 1) := by decide +kernel
theorem dX11_get_1 : decode cX11_get 1 = .ok (.iload_n 1, 1) := by decide +kernel
theorem dX11_get_2 : decode cX11_get 2 = .ok (.ifCond .lt 9, 3) := by decide +kernel
theorem dX11_get_5 : decode cX11_get 5 = .ok (.iload_n 1, 1) := by decide +kernel
theorem dX11_get_6 : decode cX11_get 6 = .ok (.bipush 7, 2) := by decide +kernel
theorem dX11_get_8 : decode cX11_get 8 = .ok (.if_icmp .le 7, 3) := by decide +kernel
theorem dX11_get_11 : decode cX11_get 11 = .ok (.iconst 1, 1) := by decide +kernel
theorem dX11_get_12 : decode cX11_get 12 = .ok (.goto 4, 3) := by decide +kernel
theorem dX11_get_15 : decode cX11_get 15 = .ok (.iconst 0, 1) := by decide +kernel
theorem dX11_get_16 : decode cX11_get 16 = .ok (.putfield 117, 3) := by decide +kernel
theorem dX11_get_19 : decode cX11_get 19 = .ok (.aload_n 0, 1) := by decide +kernel
theorem dX11_get_20 : decode cX11_get 20 = .ok (.getfield 117, 3) := by decide +kernel
theorem dX11_get_23 : decode cX11_get 23 = .ok (.ifCond .le 7, 3) := by decide +kernel
theorem dX11_get_26 : decode cX11_get 26 = .ok (.iconst 0, 1) := by decide +kernel
theorem dX11_get_27 : decode cX11_get 27 = .ok (.goto 9, 3) := by decide +kernel
theorem dX11_get_30 : decode cX11_get 30 = .ok (.aload_n 0, 1) := by decide +kernel
theorem dX11_get_31 : decode cX11_get 31 = .ok (.getfield 102, 3) := by decide +kernel
theorem dX11_get_34 : decode cX11_get 34 = .ok (.iload_n 1, 1) := by decide +kernel
theorem dX11_get_35 : decode cX11_get 35 = .ok (.iaload, 1) := by decide +kernel
theorem dX11_get_36 : decode cX11_get 36 = .ok (.ireturn, 1) := by decide +kernel
theorem dX11_poke_0 : decode cX11_poke 0 = .ok (.aload_n 0, 1) := by decide +kernel
theorem dX11_poke_1 : decode cX11_poke 1 = .ok (.iload_n 1, 1) := by decide +kernel
theorem dX11_poke_2 : decode cX11_poke 2 = .ok (.ifCond .lt 9, 3) := by decide +kernel
theorem dX11_poke_5 : decode cX11_poke 5 = .ok (.iload_n 1, 1) := by decide +kernel
theorem dX11_poke_6 : decode cX11_poke 6 = .ok (.bipush 15, 2) := by decide +kernel
theorem dX11_poke_8 : decode cX11_poke 8 = .ok (.if_icmp .le 7, 3) := by decide +kernel
theorem dX11_poke_11 : decode cX11_poke 11 = .ok (.iconst 1, 1) := by decide +kernel
theorem dX11_poke_12 : decode cX11_poke 12 = .ok (.goto 4, 3) := by decide +kernel
theorem dX11_poke_15 : decode cX11_poke 15 = .ok (.iconst 0, 1) := by decide +kernel
theorem dX11_poke_16 : decode cX11_poke 16 = .ok (.putfield 117, 3) := by decide +kernel
theorem dX11_poke_19 : decode cX11_poke 19 = .ok (.aload_n 0, 1) := by decide +kernel
theorem dX11_poke_20 : decode cX11_poke 20 = .ok (.getfield 117, 3) := by decide +kernel
theorem dX11_poke_23 : decode cX11_poke 23 = .ok (.ifCond .le 5, 3) := by decide +kernel
theorem dX11_poke_26 : decode cX11_poke 26 = .ok (.iconst 0, 1) := by decide +kernel
theorem dX11_poke_27 : decode cX11_poke 27 = .ok (.ireturn, 1) := by decide +kernel
theorem dX11_poke_28 : decode cX11_poke 28 = .ok (.aload_n 0, 1) := by decide +kernel
theorem dX11_poke_29 : decode cX11_poke 29 = .ok (.getfield 105, 3) := by decide +kernel
theorem dX11_poke_32 : decode cX11_poke 32 = .ok (.iload_n 1, 1) := by decide +kernel
theorem dX11_poke_33 : decode cX11_poke 33 = .ok (.iaload, 1) := by decide +kernel
theorem dX11_poke_34 : decode cX11_poke 34 = .ok (.istore_n 3, 1) := by decide +kernel
theorem dX11_poke_35 : decode cX11_poke 35 = .ok (.aload_n 0, 1) := by decide +kernel
theorem dX11_poke_36 : decode cX11_poke 36 = .ok (.getfield 105, 3) := by decide +kernel
theorem dX11_poke_39 : decode cX11_poke 39 = .ok (.iload_n 1, 1) := by decide +kernel
theorem dX11_poke_40 : decode cX11_poke 40 = .ok (.iload_n 2, 1) := by decide +kernel
theorem dX11_poke_41 : decode cX11_poke 41 = .ok (.iastore, 1) := by decide +kernel
theorem dX11_poke_42 : decode cX11_poke 42 = .ok (.iload_n 3, 1) := by decide +kernel
theorem dX11_poke_43 : decode cX11_poke 43 = .ok (.ireturn, 1) := by decide +kernel
theorem dX11_peek_0 : decode cX11_peek 0 = .ok (.aload_n 0, 1) := by decide +kernel
theorem dX11_peek_1 : decode cX11_peek 1 = .ok (.iload_n 1, 1) := by decide +kernel
theorem dX11_peek_2 : decode cX11_peek 2 = .ok (.ifCond .lt 9, 3) := by decide +kernel
theorem dX11_peek_5 : decode cX11_peek 5 = .ok (.iload_n 1, 1) := by decide +kernel
theorem dX11_peek_6 : decode cX11_peek 6 = .ok (.bipush 15, 2) := by decide +kernel
theorem dX11_peek_8 : decode cX11_peek 8 = .ok (.if_icmp .le 7, 3) := by decide +kernel
theorem dX11_peek_11 : decode cX11_peek 11 = .ok (.iconst 1, 1) := by decide +kernel
theorem dX11_peek_12 : decode cX11_peek 12 = .ok (.goto 4, 3) := by decide +kernel
theorem dX11_peek_15 : decode cX11_peek 15 = .ok (.iconst 0, 1) := by decide +kernel
theorem dX11_peek_16 : decode cX11_peek 16 = .ok (.putfield 117, 3) := by decide +kernel
theorem dX11_peek_19 : decode cX11_peek 19 = .ok (.aload_n 0, 1) := by decide +kernel
theorem dX11_peek_20 : decode cX11_peek 20 = .ok (.getfield 117, 3) := by decide +kernel
theorem dX11_peek_23 : decode cX11_peek 23 = .ok (.ifCond .le 7, 3) := by decide +kernel
theorem dX11_peek_26 : decode cX11_peek 26 = .ok (.iconst 0, 1) := by decide +kernel
theorem dX11_peek_27 : decode cX11_peek 27 = .ok (.goto 9, 3) := by decide +kernel
theorem dX11_peek_30 : decode cX11_peek 30 = .ok (.aload_n 0, 1) := by decide +kernel
theorem dX11_peek_31 : decode cX11_peek 31 = .ok (.getfield 105, 3) := by decide +kernel
theorem dX11_peek_34 : decode cX11_peek 34 = .ok (.iload_n 1, 1) := by decide +kernel
theorem dX11_peek_35 : decode cX11_peek 35 = .ok (.iaload, 1) := by decide +kernel
theorem dX11_peek_36 : decode cX11_peek 36 = .ok (.ireturn, 1) := by decide +kernel
theorem dX11_stand_0 : decode cX11_stand 0 = .ok (.aload_n 0, 1) := by decide +kernel
theorem dX11_stand_1 : decode cX11_stand 1 = .ok (.aload_n 0, 1) := by decide +kernel
theorem dX11_stand_2 : decode cX11_stand 2 = .ok (.getfield 264, 3) := by decide +kernel
theorem dX11_stand_5 : decode cX11_stand 5 = .ok (.ifCond .le 7, 3) := by decide +kernel
theorem dX11_stand_8 : decode cX11_stand 8 = .ok (.iconst 0, 1) := by decide +kernel
theorem dX11_stand_9 : decode cX11_stand 9 = .ok (.goto 4, 3) := by decide +kernel
theorem dX11_stand_12 : decode cX11_stand 12 = .ok (.iconst (-1), 1) := by decide +kernel
theorem dX11_stand_13 : decode cX11_stand 13 = .ok (.putfield 333, 3) := by decide +kernel
theorem dX11_stand_16 : decode cX11_stand 16 = .ok (.aload_n 0, 1) := by decide +kernel
theorem dX11_stand_17 : decode cX11_stand 17 = .ok (.lconst 0, 1) := by decide +kernel
theorem dX11_stand_18 : decode cX11_stand 18 = .ok (.putfield 336, 3) := by decide +kernel
theorem dX11_stand_21 : decode cX11_stand 21 = .ok (.return_, 1) := by decide +kernel
theorem dX11_restart_0 : decode cX11_restart 0 = .ok (.aload_n 0, 1) := by decide +kernel
theorem dX11_restart_1 : decode cX11_restart 1 = .ok (.iconst 0, 1) := by decide +kernel
theorem dX11_restart_2 : decode cX11_restart 2 = .ok (.putfield 117, 3) := by decide +kernel
theorem dX11_restart_5 : decode cX11_restart 5 = .ok (.aload_n 0, 1) := by decide +kernel
theorem dX11_restart_6 : decode cX11_restart 6 = .ok (.invokevirtual 330, 3) := by decide +kernel
theorem dX11_restart_9 : decode cX11_restart 9 = .ok (.return_, 1) := by decide +kernel
theorem dX11_look_0 : decode cX11_look 0 = .ok (.iload_n 1, 1) := by decide +kernel
theorem dX11_look_1 : decode cX11_look 1 = .ok (.iconst 1, 1) := by decide +kernel
theorem dX11_look_2 : decode cX11_look 2 = .ok (.if_icmp .ne 7, 3) := by decide +kernel
theorem dX11_look_5 : decode cX11_look 5 = .ok (.iload_n 2, 1) := by decide +kernel
theorem dX11_look_6 : decode cX11_look 6 = .ok (.goto 32, 3) := by decide +kernel
theorem dX11_look_9 : decode cX11_look 9 = .ok (.iload_n 1, 1) := by decide +kernel
theorem dX11_look_10 : decode cX11_look 10 = .ok (.iconst 2, 1) := by decide +kernel
theorem dX11_look_11 : decode cX11_look 11 = .ok (.if_icmp .ne 12, 3) := by decide +kernel
theorem dX11_look_14 : decode cX11_look 14 = .ok (.aload_n 0, 1) := by decide +kernel
theorem dX11_look_15 : decode cX11_look 15 = .ok (.getfield 102, 3) := by decide +kernel
theorem dX11_look_18 : decode cX11_look 18 = .ok (.iload_n 2, 1) := by decide +kernel
theorem dX11_look_19 : decode cX11_look 19 = .ok (.iaload, 1) := by decide +kernel
theorem dX11_look_20 : decode cX11_look 20 = .ok (.goto 18, 3) := by decide +kernel
theorem dX11_look_23 : decode cX11_look 23 = .ok (.iload_n 1, 1) := by decide +kernel
theorem dX11_look_24 : decode cX11_look 24 = .ok (.iconst 3, 1) := by decide +kernel
theorem dX11_look_25 : decode cX11_look 25 = .ok (.if_icmp .ne 12, 3) := by decide +kernel
theorem dX11_look_28 : decode cX11_look 28 = .ok (.aload_n 0, 1) := by decide +kernel
theorem dX11_look_29 : decode cX11_look 29 = .ok (.getfield 108, 3) := by decide +kernel
theorem dX11_look_32 : decode cX11_look 32 = .ok (.iload_n 2, 1) := by decide +kernel
theorem dX11_look_33 : decode cX11_look 33 = .ok (.iaload, 1) := by decide +kernel
theorem dX11_look_34 : decode cX11_look 34 = .ok (.goto 4, 3) := by decide +kernel
theorem dX11_look_37 : decode cX11_look 37 = .ok (.iconst 0, 1) := by decide +kernel
theorem dX11_look_38 : decode cX11_look 38 = .ok (.ireturn, 1) := by decide +kernel
theorem dX11_doOperation_0 : decode cX11_doOperation 0 = .ok (.aload_n 0, 1) := by decide +kernel
theorem dX11_doOperation_1 : decode cX11_doOperation 1 = .ok (.aload_n 0, 1) := by decide +kernel
theorem dX11_doOperation_2 : decode cX11_doOperation 2 = .ok (.getfield 54, 3) := by decide +kernel
theorem dX11_doOperation_5 : decode cX11_doOperation 5 = .ok (.iconst 2, 1) := by decide +kernel
theorem dX11_doOperation_6 : decode cX11_doOperation 6 = .ok (.iload_n 1, 1) := by decide +kernel
theorem dX11_doOperation_7 : decode cX11_doOperation 7 = .ok (.imul, 1) := by decide +kernel
theorem dX11_doOperation_8 : decode cX11_doOperation 8 = .ok (.iaload, 1) := by decide +kernel
theorem dX11_doOperation_9 : decode cX11_doOperation 9 = .ok (.aload_n 0, 1) := by decide +kernel
theorem dX11_doOperation_10 : decode cX11_doOperation 10 = .ok (.getfield 57, 3) := by decide +kernel
theorem dX11_doOperation_13 : decode cX11_doOperation 13 = .ok (.iconst 2, 1) := by decide +kernel
theorem dX11_doOperation_14 : decode cX11_doOperation 14 = .ok (.iload_n 1, 1) := by decide +kernel
theorem dX11_doOperation_15 : decode cX11_doOperation 15 = .ok (.imul, 1) := by decide +kernel
theorem dX11_doOperation_16 : decode cX11_doOperation 16 = .ok (.iaload, 1) := by decide +kernel
theorem dX11_doOperation_17 : decode cX11_doOperation 17 = .ok (.invokevirtual 340, 3) := by decide +kernel
theorem dX11_doOperation_20 : decode cX11_doOperation 20 = .ok (.istore_n 2, 1) := by decide +kernel
theorem dX11_doOperation_21 : decode cX11_doOperation 21 = .ok (.aload_n 0, 1) := by decide +kernel
theorem dX11_doOperation_22 : decode cX11_doOperation 22 = .ok (.aload_n 0, 1) := by decide +kernel
theorem dX11_doOperation_23 : decode cX11_doOperation 23 = .ok (.getfield 54, 3) := by decide +kernel
theorem dX11_doOperation_26 : decode cX11_doOperation 26 = .ok (.iconst 2, 1) := by decide +kernel
theorem dX11_doOperation_27 : decode cX11_doOperation 27 = .ok (.iload_n 1, 1) := by decide +kernel
theorem dX11_doOperation_28 : decode cX11_doOperation 28 = .ok (.imul, 1) := by decide +kernel
theorem dX11_doOperation_29 : decode cX11_doOperation 29 = .ok (.iconst 1, 1) := by decide +kernel
theorem dX11_doOperation_30 : decode cX11_doOperation 30 = .ok (.iadd, 1) := by decide +kernel
theorem dX11_doOperation_31 : decode cX11_doOperation 31 = .ok (.iaload, 1) := by decide +kernel
theorem dX11_doOperation_32 : decode cX11_doOperation 32 = .ok (.aload_n 0, 1) := by decide +kernel
theorem dX11_doOperation_33 : decode cX11_doOperation 33 = .ok (.getfield 57, 3) := by decide +kernel
theorem dX11_doOperation_36 : decode cX11_doOperation 36 = .ok (.iconst 2, 1) := by decide +kernel
theorem dX11_doOperation_37 : decode cX11_doOperation 37 = .ok (.iload_n 1, 1) := by decide +kernel
theorem dX11_doOperation_38 : decode cX11_doOperation 38 = .ok (.imul, 1) := by decide +kernel
theorem dX11_doOperation_39 : decode cX11_doOperation 39 = .ok (.iconst 1, 1) := by decide +kernel
theorem dX11_doOperation_40 : decode cX11_doOperation 40 = .ok (.iadd, 1) := by decide +kernel
theorem dX11_doOperation_41 : decode cX11_doOperation 41 = .ok (.iaload, 1) := by decide +kernel
theorem dX11_doOperation_42 : decode cX11_doOperation 42 = .ok (.invokevirtual 340, 3) := by decide +kernel
theorem dX11_doOperation_45 : decode cX11_doOperation 45 = .ok (.istore_n 3, 1) := by decide +kernel
theorem dX11_doOperation_46 : decode cX11_doOperation 46 = .ok (.aload_n 0, 1) := by decide +kernel
theorem dX11_doOperation_47 : decode cX11_doOperation 47 = .ok (.getfield 51, 3) := by decide +kernel
theorem dX11_doOperation_50 : decode cX11_doOperation 50 = .ok (.iload_n 1, 1) := by decide +kernel
theorem dX11_doOperation_51 : decode cX11_doOperation 51 = .ok (.iaload, 1) := by decide +kernel
theorem dX11_doOperation_52 : decode cX11_doOperation 52 = .ok (.tableswitch 149 0 6 #[44, 56, 68, 80, 99, 118, 136], 44) := by decide +kernel
theorem dX11_doOperation_96 : decode cX11_doOperation 96 = .ok (.aload_n 0, 1) := by decide +kernel
theorem dX11_doOperation_97 : decode cX11_doOperation 97 = .ok (.getfield 108, 3) := by decide +kernel
theorem dX11_doOperation_100 : decode cX11_doOperation 100 = .ok (.iload_n 1, 1) := by decide +kernel
theorem dX11_doOperation_101 : decode cX11_doOperation 101 = .ok (.iload_n 2, 1) := by decide +kernel
theorem dX11_doOperation_102 : decode cX11_doOperation 102 = .ok (.iload_n 3, 1) := by decide +kernel
theorem dX11_doOperation_103 : decode cX11_doOperation 103 = .ok (.iadd, 1) := by decide +kernel
theorem dX11_doOperation_104 : decode cX11_doOperation 104 = .ok (.iastore, 1) := by decide +kernel
theorem dX11_doOperation_105 : decode cX11_doOperation 105 = .ok (.goto 103, 3) := by decide +kernel
theorem dX11_doOperation_108 : decode cX11_doOperation 108 = .ok (.aload_n 0, 1) := by decide +kernel
theorem dX11_doOperation_109 : decode cX11_doOperation 109 = .ok (.getfield 108, 3) := by decide +kernel
theorem dX11_doOperation_112 : decode cX11_doOperation 112 = .ok (.iload_n 1, 1) := by decide +kernel
theorem dX11_doOperation_113 : decode cX11_doOperation 113 = .ok (.iload_n 2, 1) := by decide +kernel
theorem dX11_doOperation_114 : decode cX11_doOperation 114 = .ok (.iload_n 3, 1) := by decide +kernel
theorem dX11_doOperation_115 : decode cX11_doOperation 115 = .ok (.isub, 1) := by decide +kernel
theorem dX11_doOperation_116 : decode cX11_doOperation 116 = .ok (.iastore, 1) := by decide +kernel
theorem dX11_doOperation_117 : decode cX11_doOperation 117 = .ok (.goto 91, 3) := by decide +kernel
theorem dX11_doOperation_120 : decode cX11_doOperation 120 = .ok (.aload_n 0, 1) := by decide +kernel
theorem dX11_doOperation_121 : decode cX11_doOperation 121 = .ok (.getfield 108, 3) := by decide +kernel
theorem dX11_doOperation_124 : decode cX11_doOperation 124 = .ok (.iload_n 1, 1) := by decide +kernel
theorem dX11_doOperation_125 : decode cX11_doOperation 125 = .ok (.iload_n 2, 1) := by decide +kernel
theorem dX11_doOperation_126 : decode cX11_doOperation 126 = .ok (.iload_n 3, 1) := by decide +kernel
theorem dX11_doOperation_127 : decode cX11_doOperation 127 = .ok (.imul, 1) := by decide +kernel
theorem dX11_doOperation_128 : decode cX11_doOperation 128 = .ok (.iastore, 1) := by decide +kernel
theorem dX11_doOperation_129 : decode cX11_doOperation 129 = .ok (.goto 79, 3) := by decide +kernel
theorem dX11_doOperation_132 : decode cX11_doOperation 132 = .ok (.aload_n 0, 1) := by decide +kernel
theorem dX11_doOperation_133 : decode cX11_doOperation 133 = .ok (.getfield 108, 3) := by decide +kernel
theorem dX11_doOperation_136 : decode cX11_doOperation 136 = .ok (.iload_n 1, 1) := by decide +kernel
theorem dX11_doOperation_137 : decode cX11_doOperation 137 = .ok (.iload_n 2, 1) := by decide +kernel
theorem dX11_doOperation_138 : decode cX11_doOperation 138 = .ok (.iload_n 3, 1) := by decide +kernel
theorem dX11_doOperation_139 : decode cX11_doOperation 139 = .ok (.if_icmp .ge 7, 3) := by decide +kernel
theorem dX11_doOperation_142 : decode cX11_doOperation 142 = .ok (.iconst 1, 1) := by decide +kernel
theorem dX11_doOperation_143 : decode cX11_doOperation 143 = .ok (.goto 4, 3) := by decide +kernel
theorem dX11_doOperation_146 : decode cX11_doOperation 146 = .ok (.iconst 0, 1) := by decide +kernel
theorem dX11_doOperation_147 : decode cX11_doOperation 147 = .ok (.iastore, 1) := by decide +kernel
theorem dX11_doOperation_148 : decode cX11_doOperation 148 = .ok (.goto 60, 3) := by decide +kernel
theorem dX11_doOperation_151 : decode cX11_doOperation 151 = .ok (.aload_n 0, 1) := by decide +kernel
theorem dX11_doOperation_152 : decode cX11_doOperation 152 = .ok (.getfield 108, 3) := by decide +kernel
theorem dX11_doOperation_155 : decode cX11_doOperation 155 = .ok (.iload_n 1, 1) := by decide +kernel
theorem dX11_doOperation_156 : decode cX11_doOperation 156 = .ok (.iload_n 2, 1) := by decide +kernel
theorem dX11_doOperation_157 : decode cX11_doOperation 157 = .ok (.iload_n 3, 1) := by decide +kernel
theorem dX11_doOperation_158 : decode cX11_doOperation 158 = .ok (.if_icmp .ne 7, 3) := by decide +kernel
theorem dX11_doOperation_161 : decode cX11_doOperation 161 = .ok (.iconst 1, 1) := by decide +kernel
theorem dX11_doOperation_162 : decode cX11_doOperation 162 = .ok (.goto 4, 3) := by decide +kernel
theorem dX11_doOperation_165 : decode cX11_doOperation 165 = .ok (.iconst 0, 1) := by decide +kernel
theorem dX11_doOperation_166 : decode cX11_doOperation 166 = .ok (.iastore, 1) := by decide +kernel
theorem dX11_doOperation_167 : decode cX11_doOperation 167 = .ok (.goto 41, 3) := by decide +kernel
theorem dX11_doOperation_170 : decode cX11_doOperation 170 = .ok (.aload_n 0, 1) := by decide +kernel
theorem dX11_doOperation_171 : decode cX11_doOperation 171 = .ok (.getfield 108, 3) := by decide +kernel
theorem dX11_doOperation_174 : decode cX11_doOperation 174 = .ok (.iload_n 1, 1) := by decide +kernel
theorem dX11_doOperation_175 : decode cX11_doOperation 175 = .ok (.aload_n 0, 1) := by decide +kernel
theorem dX11_doOperation_176 : decode cX11_doOperation 176 = .ok (.getfield 105, 3) := by decide +kernel
theorem dX11_doOperation_179 : decode cX11_doOperation 179 = .ok (.iload_n 2, 1) := by decide +kernel
theorem dX11_doOperation_180 : decode cX11_doOperation 180 = .ok (.bipush 15, 2) := by decide +kernel
theorem dX11_doOperation_182 : decode cX11_doOperation 182 = .ok (.iand, 1) := by decide +kernel
theorem dX11_doOperation_183 : decode cX11_doOperation 183 = .ok (.iaload, 1) := by decide +kernel
theorem dX11_doOperation_184 : decode cX11_doOperation 184 = .ok (.iastore, 1) := by decide +kernel
theorem dX11_doOperation_185 : decode cX11_doOperation 185 = .ok (.goto 23, 3) := by decide +kernel
theorem dX11_doOperation_188 : decode cX11_doOperation 188 = .ok (.aload_n 0, 1) := by decide +kernel
theorem dX11_doOperation_189 : decode cX11_doOperation 189 = .ok (.getfield 105, 3) := by decide +kernel
theorem dX11_doOperation_192 : decode cX11_doOperation 192 = .ok (.iload_n 2, 1) := by decide +kernel
theorem dX11_doOperation_193 : decode cX11_doOperation 193 = .ok (.bipush 15, 2) := by decide +kernel
theorem dX11_doOperation_195 : decode cX11_doOperation 195 = .ok (.iand, 1) := by decide +kernel
theorem dX11_doOperation_196 : decode cX11_doOperation 196 = .ok (.iload_n 3, 1) := by decide +kernel
theorem dX11_doOperation_197 : decode cX11_doOperation 197 = .ok (.iastore, 1) := by decide +kernel
theorem dX11_doOperation_198 : decode cX11_doOperation 198 = .ok (.goto 10, 3) := by decide +kernel
theorem dX11_doOperation_201 : decode cX11_doOperation 201 = .ok (.aload_n 0, 1) := by decide +kernel
theorem dX11_doOperation_202 : decode cX11_doOperation 202 = .ok (.getfield 108, 3) := by decide +kernel
theorem dX11_doOperation_205 : decode cX11_doOperation 205 = .ok (.iload_n 1, 1) := by decide +kernel
theorem dX11_doOperation_206 : decode cX11_doOperation 206 = .ok (.iload_n 2, 1) := by decide +kernel
theorem dX11_doOperation_207 : decode cX11_doOperation 207 = .ok (.iastore, 1) := by decide +kernel
theorem dX11_doOperation_208 : decode cX11_doOperation 208 = .ok (.aload_n 0, 1) := by decide +kernel
theorem dX11_doOperation_209 : decode cX11_doOperation 209 = .ok (.getfield 60, 3) := by decide +kernel
theorem dX11_doOperation_212 : decode cX11_doOperation 212 = .ok (.iload_n 1, 1) := by decide +kernel
theorem dX11_doOperation_213 : decode cX11_doOperation 213 = .ok (.iaload, 1) := by decide +kernel
theorem dX11_doOperation_214 : decode cX11_doOperation 214 = .ok (.ifCond .lt 20, 3) := by decide +kernel
theorem dX11_doOperation_217 : decode cX11_doOperation 217 = .ok (.aload_n 0, 1) := by decide +kernel
theorem dX11_doOperation_218 : decode cX11_doOperation 218 = .ok (.getfield 102, 3) := by decide +kernel
theorem dX11_doOperation_221 : decode cX11_doOperation 221 = .ok (.aload_n 0, 1) := by decide +kernel
theorem dX11_doOperation_222 : decode cX11_doOperation 222 = .ok (.getfield 60, 3) := by decide +kernel
theorem dX11_doOperation_225 : decode cX11_doOperation 225 = .ok (.iload_n 1, 1) := by decide +kernel
theorem dX11_doOperation_226 : decode cX11_doOperation 226 = .ok (.iaload, 1) := by decide +kernel
theorem dX11_doOperation_227 : decode cX11_doOperation 227 = .ok (.aload_n 0, 1) := by decide +kernel
theorem dX11_doOperation_228 : decode cX11_doOperation 228 = .ok (.getfield 108, 3) := by decide +kernel
theorem dX11_doOperation_231 : decode cX11_doOperation 231 = .ok (.iload_n 1, 1) := by decide +kernel
theorem dX11_doOperation_232 : decode cX11_doOperation 232 = .ok (.iaload, 1) := by decide +kernel
theorem dX11_doOperation_233 : decode cX11_doOperation 233 = .ok (.iastore, 1) := by decide +kernel
theorem dX11_doOperation_234 : decode cX11_doOperation 234 = .ok (.return_, 1) := by decide +kernel
theorem dX11_run_0 : decode cX11_run 0 = .ok (.aload_n 0, 1) := by decide +kernel
theorem dX11_run_1 : decode cX11_run 1 = .ok (.iload_n 1, 1) := by decide +kernel
theorem dX11_run_2 : decode cX11_run 2 = .ok (.ifCond .lt 10, 3) := by decide +kernel
theorem dX11_run_5 : decode cX11_run 5 = .ok (.iload_n 1, 1) := by decide +kernel
theorem dX11_run_6 : decode cX11_run 6 = .ok (.sipush 5000, 3) := by decide +kernel
theorem dX11_run_9 : decode cX11_run 9 = .ok (.if_icmp .le 7, 3) := by decide +kernel
theorem dX11_run_12 : decode cX11_run 12 = .ok (.iconst 1, 1) := by decide +kernel
theorem dX11_run_13 : decode cX11_run 13 = .ok (.goto 4, 3) := by decide +kernel
theorem dX11_run_16 : decode cX11_run 16 = .ok (.iconst 0, 1) := by decide +kernel
theorem dX11_run_17 : decode cX11_run 17 = .ok (.putfield 117, 3) := by decide +kernel
theorem dX11_run_20 : decode cX11_run 20 = .ok (.iconst 0, 1) := by decide +kernel
theorem dX11_run_21 : decode cX11_run 21 = .ok (.istore_n 2, 1) := by decide +kernel
theorem dX11_run_22 : decode cX11_run 22 = .ok (.aload_n 0, 1) := by decide +kernel
theorem dX11_run_23 : decode cX11_run 23 = .ok (.getfield 117, 3) := by decide +kernel
theorem dX11_run_26 : decode cX11_run 26 = .ok (.ifCond .ne 136, 3) := by decide +kernel
theorem dX11_run_29 : decode cX11_run 29 = .ok (.aload_n 0, 1) := by decide +kernel
theorem dX11_run_30 : decode cX11_run 30 = .ok (.getfield 333, 3) := by decide +kernel
theorem dX11_run_33 : decode cX11_run 33 = .ok (.ifCond .lt 129, 3) := by decide +kernel
theorem dX11_run_36 : decode cX11_run 36 = .ok (.iload_n 2, 1) := by decide +kernel
theorem dX11_run_37 : decode cX11_run 37 = .ok (.iload_n 1, 1) := by decide +kernel
theorem dX11_run_38 : decode cX11_run 38 = .ok (.if_icmp .ge 124, 3) := by decide +kernel
theorem dX11_run_41 : decode cX11_run 41 = .ok (.iconst 0, 1) := by decide +kernel
theorem dX11_run_42 : decode cX11_run 42 = .ok (.istore_n 3, 1) := by decide +kernel
theorem dX11_run_43 : decode cX11_run 43 = .ok (.iload_n 3, 1) := by decide +kernel
theorem dX11_run_44 : decode cX11_run 44 = .ok (.aload_n 0, 1) := by decide +kernel
theorem dX11_run_45 : decode cX11_run 45 = .ok (.getfield 261, 3) := by decide +kernel
theorem dX11_run_48 : decode cX11_run 48 = .ok (.if_icmp .ge 27, 3) := by decide +kernel
theorem dX11_run_51 : decode cX11_run 51 = .ok (.aload_n 0, 1) := by decide +kernel
theorem dX11_run_52 : decode cX11_run 52 = .ok (.getfield 63, 3) := by decide +kernel
theorem dX11_run_55 : decode cX11_run 55 = .ok (.iload_n 3, 1) := by decide +kernel
theorem dX11_run_56 : decode cX11_run 56 = .ok (.iaload, 1) := by decide +kernel
theorem dX11_run_57 : decode cX11_run 57 = .ok (.aload_n 0, 1) := by decide +kernel
theorem dX11_run_58 : decode cX11_run 58 = .ok (.getfield 333, 3) := by decide +kernel
theorem dX11_run_61 : decode cX11_run 61 = .ok (.if_icmp .ne 8, 3) := by decide +kernel
theorem dX11_run_64 : decode cX11_run 64 = .ok (.aload_n 0, 1) := by decide +kernel
theorem dX11_run_65 : decode cX11_run 65 = .ok (.iload_n 3, 1) := by decide +kernel
theorem dX11_run_66 : decode cX11_run 66 = .ok (.invokevirtual 344, 3) := by decide +kernel
theorem dX11_run_69 : decode cX11_run 69 = .ok (.iinc 3 1, 3) := by decide +kernel
theorem dX11_run_72 : decode cX11_run 72 = .ok (.goto (-29), 3) := by decide +kernel
theorem dX11_run_75 : decode cX11_run 75 = .ok (.iload_n 2, 1) := by decide +kernel
theorem dX11_run_76 : decode cX11_run 76 = .ok (.aload_n 0, 1) := by decide +kernel
theorem dX11_run_77 : decode cX11_run 77 = .ok (.getfield 99, 3) := by decide +kernel
theorem dX11_run_80 : decode cX11_run 80 = .ok (.aload_n 0, 1) := by decide +kernel
theorem dX11_run_81 : decode cX11_run 81 = .ok (.getfield 333, 3) := by decide +kernel
theorem dX11_run_84 : decode cX11_run 84 = .ok (.iaload, 1) := by decide +kernel
theorem dX11_run_85 : decode cX11_run 85 = .ok (.iadd, 1) := by decide +kernel
theorem dX11_run_86 : decode cX11_run 86 = .ok (.istore_n 2, 1) := by decide +kernel
theorem dX11_run_87 : decode cX11_run 87 = .ok (.aload_n 0, 1) := by decide +kernel
theorem dX11_run_88 : decode cX11_run 88 = .ok (.getfield 78, 3) := by decide +kernel
theorem dX11_run_91 : decode cX11_run 91 = .ok (.aload_n 0, 1) := by decide +kernel
theorem dX11_run_92 : decode cX11_run 92 = .ok (.getfield 333, 3) := by decide +kernel
theorem dX11_run_95 : decode cX11_run 95 = .ok (.baload, 1) := by decide +kernel
theorem dX11_run_96 : decode cX11_run 96 = .ok (.ifCond .eq 28, 3) := by decide +kernel
theorem dX11_run_99 : decode cX11_run 99 = .ok (.aload_n 0, 1) := by decide +kernel
theorem dX11_run_100 : decode cX11_run 100 = .ok (.aload_n 0, 1) := by decide +kernel
theorem dX11_run_101 : decode cX11_run 101 = .ok (.getfield 66, 3) := by decide +kernel
theorem dX11_run_104 : decode cX11_run 104 = .ok (.aload_n 0, 1) := by decide +kernel
theorem dX11_run_105 : decode cX11_run 105 = .ok (.getfield 333, 3) := by decide +kernel
theorem dX11_run_108 : decode cX11_run 108 = .ok (.iaload, 1) := by decide +kernel
theorem dX11_run_109 : decode cX11_run 109 = .ok (.aload_n 0, 1) := by decide +kernel
theorem dX11_run_110 : decode cX11_run 110 = .ok (.getfield 69, 3) := by decide +kernel
theorem dX11_run_113 : decode cX11_run 113 = .ok (.aload_n 0, 1) := by decide +kernel
theorem dX11_run_114 : decode cX11_run 114 = .ok (.getfield 333, 3) := by decide +kernel
theorem dX11_run_117 : decode cX11_run 117 = .ok (.iaload, 1) := by decide +kernel
theorem dX11_run_118 : decode cX11_run 118 = .ok (.invokevirtual 340, 3) := by decide +kernel
theorem dX11_run_121 : decode cX11_run 121 = .ok (.ifCond .eq 7, 3) := by decide +kernel
theorem dX11_run_124 : decode cX11_run 124 = .ok (.iconst 1, 1) := by decide +kernel
theorem dX11_run_125 : decode cX11_run 125 = .ok (.goto 4, 3) := by decide +kernel
theorem dX11_run_128 : decode cX11_run 128 = .ok (.iconst 0, 1) := by decide +kernel
theorem dX11_run_129 : decode cX11_run 129 = .ok (.istore_n 3, 1) := by decide +kernel
theorem dX11_run_130 : decode cX11_run 130 = .ok (.aload_n 0, 1) := by decide +kernel
theorem dX11_run_131 : decode cX11_run 131 = .ok (.iload_n 3, 1) := by decide +kernel
theorem dX11_run_132 : decode cX11_run 132 = .ok (.ifCond .eq 15, 3) := by decide +kernel
theorem dX11_run_135 : decode cX11_run 135 = .ok (.aload_n 0, 1) := by decide +kernel
theorem dX11_run_136 : decode cX11_run 136 = .ok (.getfield 72, 3) := by decide +kernel
theorem dX11_run_139 : decode cX11_run 139 = .ok (.aload_n 0, 1) := by decide +kernel
theorem dX11_run_140 : decode cX11_run 140 = .ok (.getfield 333, 3) := by decide +kernel
theorem dX11_run_143 : decode cX11_run 143 = .ok (.iaload, 1) := by decide +kernel
theorem dX11_run_144 : decode cX11_run 144 = .ok (.goto 12, 3) := by decide +kernel
theorem dX11_run_147 : decode cX11_run 147 = .ok (.aload_n 0, 1) := by decide +kernel
theorem dX11_run_148 : decode cX11_run 148 = .ok (.getfield 75, 3) := by decide +kernel
theorem dX11_run_151 : decode cX11_run 151 = .ok (.aload_n 0, 1) := by decide +kernel
theorem dX11_run_152 : decode cX11_run 152 = .ok (.getfield 333, 3) := by decide +kernel
theorem dX11_run_155 : decode cX11_run 155 = .ok (.iaload, 1) := by decide +kernel
theorem dX11_run_156 : decode cX11_run 156 = .ok (.putfield 333, 3) := by decide +kernel
theorem dX11_run_159 : decode cX11_run 159 = .ok (.goto (-137), 3) := by decide +kernel
theorem dX11_run_162 : decode cX11_run 162 = .ok (.aload_n 0, 1) := by decide +kernel
theorem dX11_run_163 : decode cX11_run 163 = .ok (.aload_n 0, 1) := by decide +kernel
theorem dX11_run_164 : decode cX11_run 164 = .ok (.getfield 336, 3) := by decide +kernel
theorem dX11_run_167 : decode cX11_run 167 = .ok (.iload_n 2, 1) := by decide +kernel
theorem dX11_run_168 : decode cX11_run 168 = .ok (.i2l, 1) := by decide +kernel
theorem dX11_run_169 : decode cX11_run 169 = .ok (.ladd, 1) := by decide +kernel
theorem dX11_run_170 : decode cX11_run 170 = .ok (.putfield 336, 3) := by decide +kernel
theorem dX11_run_173 : decode cX11_run 173 = .ok (.iload_n 2, 1) := by decide +kernel
theorem dX11_run_174 : decode cX11_run 174 = .ok (.ireturn, 1) := by decide +kernel
theorem dX11_at_0 : decode cX11_at 0 = .ok (.aload_n 0, 1) := by decide +kernel
theorem dX11_at_1 : decode cX11_at 1 = .ok (.iconst 0, 1) := by decide +kernel
theorem dX11_at_2 : decode cX11_at 2 = .ok (.putfield 117, 3) := by decide +kernel
theorem dX11_at_5 : decode cX11_at 5 = .ok (.aload_n 0, 1) := by decide +kernel
theorem dX11_at_6 : decode cX11_at 6 = .ok (.getfield 333, 3) := by decide +kernel
theorem dX11_at_9 : decode cX11_at 9 = .ok (.ireturn, 1) := by decide +kernel
theorem dX11_cycles_0 : decode cX11_cycles 0 = .ok (.aload_n 0, 1) := by decide +kernel
theorem dX11_cycles_1 : decode cX11_cycles 1 = .ok (.iconst 0, 1) := by decide +kernel
theorem dX11_cycles_2 : decode cX11_cycles 2 = .ok (.putfield 117, 3) := by decide +kernel
theorem dX11_cycles_5 : decode cX11_cycles 5 = .ok (.aload_n 0, 1) := by decide +kernel
theorem dX11_cycles_6 : decode cX11_cycles 6 = .ok (.getfield 336, 3) := by decide +kernel
theorem dX11_cycles_9 : decode cX11_cycles 9 = .ok (.lreturn, 1) := by decide +kernel
