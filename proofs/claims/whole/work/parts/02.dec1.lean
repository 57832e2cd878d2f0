theorem dX0_init_0 : decode cX0_init 0 = .ok (.aload_n 0, 1) := by decide +kernel
theorem dX0_init_1 : decode cX0_init 1 = .ok (.invokespecial 3, 3) := by decide +kernel
theorem dX0_init_4 : decode cX0_init 4 = .ok (.return_, 1) := by decide +kernel
theorem dX0_become_0 : decode cX0_become 0 = .ok (.aload_n 0, 1) := by decide +kernel
theorem dX0_become_1 : decode cX0_become 1 = .ok (.iload_n 1, 1) := by decide +kernel
theorem dX0_become_2 : decode cX0_become 2 = .ok (.putfield 9, 3) := by decide +kernel
theorem dX0_become_5 : decode cX0_become 5 = .ok (.aload_n 0, 1) := by decide +kernel
theorem dX0_become_6 : decode cX0_become 6 = .ok (.iconst 0, 1) := by decide +kernel
theorem dX0_become_7 : decode cX0_become 7 = .ok (.putfield 15, 3) := by decide +kernel
theorem dX0_become_10 : decode cX0_become 10 = .ok (.aload_n 0, 1) := by decide +kernel
theorem dX0_become_11 : decode cX0_become 11 = .ok (.iconst 0, 1) := by decide +kernel
theorem dX0_become_12 : decode cX0_become 12 = .ok (.putfield 18, 3) := by decide +kernel
theorem dX0_become_15 : decode cX0_become 15 = .ok (.aload_n 0, 1) := by decide +kernel
theorem dX0_become_16 : decode cX0_become 16 = .ok (.iconst 0, 1) := by decide +kernel
theorem dX0_become_17 : decode cX0_become 17 = .ok (.putfield 24, 3) := by decide +kernel
theorem dX0_become_20 : decode cX0_become 20 = .ok (.aload_n 0, 1) := by decide +kernel
theorem dX0_become_21 : decode cX0_become 21 = .ok (.iconst (-1), 1) := by decide +kernel
theorem dX0_become_22 : decode cX0_become 22 = .ok (.putfield 27, 3) := by decide +kernel
theorem dX0_become_25 : decode cX0_become 25 = .ok (.aload_n 0, 1) := by decide +kernel
theorem dX0_become_26 : decode cX0_become 26 = .ok (.iconst (-1), 1) := by decide +kernel
theorem dX0_become_27 : decode cX0_become 27 = .ok (.putfield 30, 3) := by decide +kernel
theorem dX0_become_30 : decode cX0_become 30 = .ok (.return_, 1) := by decide +kernel
theorem dX1_init_0 : decode cX1_init 0 = .ok (.aload_n 0, 1) := by decide +kernel
theorem dX1_init_1 : decode cX1_init 1 = .ok (.invokespecial 3, 3) := by decide +kernel
theorem dX1_init_4 : decode cX1_init 4 = .ok (.aload_n 0, 1) := by decide +kernel
theorem dX1_init_5 : decode cX1_init 5 = .ok (.iconst 3, 1) := by decide +kernel
theorem dX1_init_6 : decode cX1_init 6 = .ok (.newarray .int, 2) := by decide +kernel
theorem dX1_init_8 : decode cX1_init 8 = .ok (.dup, 1) := by decide +kernel
theorem dX1_init_9 : decode cX1_init 9 = .ok (.iconst 0, 1) := by decide +kernel
theorem dX1_init_10 : decode cX1_init 10 = .ok (.iconst 1, 1) := by decide +kernel
theorem dX1_init_11 : decode cX1_init 11 = .ok (.iastore, 1) := by decide +kernel
theorem dX1_init_12 : decode cX1_init 12 = .ok (.dup, 1) := by decide +kernel
theorem dX1_init_13 : decode cX1_init 13 = .ok (.iconst 1, 1) := by decide +kernel
theorem dX1_init_14 : decode cX1_init 14 = .ok (.iconst 1, 1) := by decide +kernel
theorem dX1_init_15 : decode cX1_init 15 = .ok (.iastore, 1) := by decide +kernel
theorem dX1_init_16 : decode cX1_init 16 = .ok (.dup, 1) := by decide +kernel
theorem dX1_init_17 : decode cX1_init 17 = .ok (.iconst 2, 1) := by decide +kernel
theorem dX1_init_18 : decode cX1_init 18 = .ok (.iconst 1, 1) := by decide +kernel
theorem dX1_init_19 : decode cX1_init 19 = .ok (.iastore, 1) := by decide +kernel
theorem dX1_init_20 : decode cX1_init 20 = .ok (.putfield 9, 3) := by decide +kernel
theorem dX1_init_23 : decode cX1_init 23 = .ok (.aload_n 0, 1) := by decide +kernel
theorem dX1_init_24 : decode cX1_init 24 = .ok (.iconst 4, 1) := by decide +kernel
theorem dX1_init_25 : decode cX1_init 25 = .ok (.newarray .int, 2) := by decide +kernel
theorem dX1_init_27 : decode cX1_init 27 = .ok (.dup, 1) := by decide +kernel
theorem dX1_init_28 : decode cX1_init 28 = .ok (.iconst 0, 1) := by decide +kernel
theorem dX1_init_29 : decode cX1_init 29 = .ok (.iconst 1, 1) := by decide +kernel
theorem dX1_init_30 : decode cX1_init 30 = .ok (.iastore, 1) := by decide +kernel
theorem dX1_init_31 : decode cX1_init 31 = .ok (.dup, 1) := by decide +kernel
theorem dX1_init_32 : decode cX1_init 32 = .ok (.iconst 1, 1) := by decide +kernel
theorem dX1_init_33 : decode cX1_init 33 = .ok (.iconst 1, 1) := by decide +kernel
theorem dX1_init_34 : decode cX1_init 34 = .ok (.iastore, 1) := by decide +kernel
theorem dX1_init_35 : decode cX1_init 35 = .ok (.dup, 1) := by decide +kernel
theorem dX1_init_36 : decode cX1_init 36 = .ok (.iconst 2, 1) := by decide +kernel
theorem dX1_init_37 : decode cX1_init 37 = .ok (.iconst 1, 1) := by decide +kernel
theorem dX1_init_38 : decode cX1_init 38 = .ok (.iastore, 1) := by decide +kernel
theorem dX1_init_39 : decode cX1_init 39 = .ok (.dup, 1) := by decide +kernel
theorem dX1_init_40 : decode cX1_init 40 = .ok (.iconst 3, 1) := by decide +kernel
theorem dX1_init_41 : decode cX1_init 41 = .ok (.iconst 1, 1) := by decide +kernel
theorem dX1_init_42 : decode cX1_init 42 = .ok (.iastore, 1) := by decide +kernel
theorem dX1_init_43 : decode cX1_init 43 = .ok (.putfield 15, 3) := by decide +kernel
theorem dX1_init_46 : decode cX1_init 46 = .ok (.aload_n 0, 1) := by decide +kernel
theorem dX1_init_47 : decode cX1_init 47 = .ok (.bipush 12, 2) := by decide +kernel
theorem dX1_init_49 : decode cX1_init 49 = .ok (.newarray .int, 2) := by decide +kernel
theorem dX1_init_51 : decode cX1_init 51 = .ok (.putfield 18, 3) := by decide +kernel
theorem dX1_init_54 : decode cX1_init 54 = .ok (.aload_n 0, 1) := by decide +kernel
theorem dX1_init_55 : decode cX1_init 55 = .ok (.sipush 200, 3) := by decide +kernel
theorem dX1_init_58 : decode cX1_init 58 = .ok (.newarray .int, 2) := by decide +kernel
theorem dX1_init_60 : decode cX1_init 60 = .ok (.putfield 21, 3) := by decide +kernel
theorem dX1_init_63 : decode cX1_init 63 = .ok (.aload_n 0, 1) := by decide +kernel
theorem dX1_init_64 : decode cX1_init 64 = .ok (.sipush 200, 3) := by decide +kernel
theorem dX1_init_67 : decode cX1_init 67 = .ok (.anewarray 24, 3) := by decide +kernel
theorem dX1_init_70 : decode cX1_init 70 = .ok (.putfield 26, 3) := by decide +kernel
theorem dX1_init_73 : decode cX1_init 73 = .ok (.return_, 1) := by decide +kernel
theorem dX1_allows_0 : decode cX1_allows 0 = .ok (.iload_n 0, 1) := by decide +kernel
theorem dX1_allows_1 : decode cX1_allows 1 = .ok (.ifCond .lt 40, 3) := by decide +kernel
theorem dX1_allows_4 : decode cX1_allows 4 = .ok (.iload_n 0, 1) := by decide +kernel
theorem dX1_allows_5 : decode cX1_allows 5 = .ok (.iconst 2, 1) := by decide +kernel
theorem dX1_allows_6 : decode cX1_allows 6 = .ok (.if_icmp .gt 35, 3) := by decide +kernel
theorem dX1_allows_9 : decode cX1_allows 9 = .ok (.iload_n 1, 1) := by decide +kernel
theorem dX1_allows_10 : decode cX1_allows 10 = .ok (.iconst 1, 1) := by decide +kernel
theorem dX1_allows_11 : decode cX1_allows 11 = .ok (.if_icmp .lt 30, 3) := by decide +kernel
theorem dX1_allows_14 : decode cX1_allows 14 = .ok (.iload_n 1, 1) := by decide +kernel
theorem dX1_allows_15 : decode cX1_allows 15 = .ok (.iconst 4, 1) := by decide +kernel
theorem dX1_allows_16 : decode cX1_allows 16 = .ok (.if_icmp .gt 25, 3) := by decide +kernel
theorem dX1_allows_19 : decode cX1_allows 19 = .ok (.iload_n 2, 1) := by decide +kernel
theorem dX1_allows_20 : decode cX1_allows 20 = .ok (.iconst 1, 1) := by decide +kernel
theorem dX1_allows_21 : decode cX1_allows 21 = .ok (.if_icmp .lt 20, 3) := by decide +kernel
theorem dX1_allows_24 : decode cX1_allows 24 = .ok (.iload_n 2, 1) := by decide +kernel
theorem dX1_allows_25 : decode cX1_allows 25 = .ok (.iload_n 0, 1) := by decide +kernel
theorem dX1_allows_26 : decode cX1_allows 26 = .ok (.ifCond .ne 7, 3) := by decide +kernel
theorem dX1_allows_29 : decode cX1_allows 29 = .ok (.iconst 1, 1) := by decide +kernel
theorem dX1_allows_30 : decode cX1_allows 30 = .ok (.goto 4, 3) := by decide +kernel
theorem dX1_allows_33 : decode cX1_allows 33 = .ok (.iconst 4, 1) := by decide +kernel
theorem dX1_allows_34 : decode cX1_allows 34 = .ok (.if_icmp .gt 7, 3) := by decide +kernel
theorem dX1_allows_37 : decode cX1_allows 37 = .ok (.iconst 1, 1) := by decide +kernel
theorem dX1_allows_38 : decode cX1_allows 38 = .ok (.goto 4, 3) := by decide +kernel
theorem dX1_allows_41 : decode cX1_allows 41 = .ok (.iconst 0, 1) := by decide +kernel
theorem dX1_allows_42 : decode cX1_allows 42 = .ok (.ireturn, 1) := by decide +kernel
theorem dX1_supply_0 : decode cX1_supply 0 = .ok (.aload_n 0, 1) := by decide +kernel
theorem dX1_supply_1 : decode cX1_supply 1 = .ok (.getfield 9, 3) := by decide +kernel
theorem dX1_supply_4 : decode cX1_supply 4 = .ok (.iload_n 1, 1) := by decide +kernel
theorem dX1_supply_5 : decode cX1_supply 5 = .ok (.iload_n 2, 1) := by decide +kernel
theorem dX1_supply_6 : decode cX1_supply 6 = .ok (.iastore, 1) := by decide +kernel
theorem dX1_supply_7 : decode cX1_supply 7 = .ok (.aload_n 0, 1) := by decide +kernel
theorem dX1_supply_8 : decode cX1_supply 8 = .ok (.getfield 15, 3) := by decide +kernel
theorem dX1_supply_11 : decode cX1_supply 11 = .ok (.iload_n 1, 1) := by decide +kernel
theorem dX1_supply_12 : decode cX1_supply 12 = .ok (.iload_n 3, 1) := by decide +kernel
theorem dX1_supply_13 : decode cX1_supply 13 = .ok (.iastore, 1) := by decide +kernel
theorem dX1_supply_14 : decode cX1_supply 14 = .ok (.return_, 1) := by decide +kernel
theorem dX1_lay_0 : decode cX1_lay 0 = .ok (.iconst 0, 1) := by decide +kernel
theorem dX1_lay_1 : decode cX1_lay 1 = .ok (.istore_n 2, 1) := by decide +kernel
theorem dX1_lay_2 : decode cX1_lay 2 = .ok (.iload_n 2, 1) := by decide +kernel
theorem dX1_lay_3 : decode cX1_lay 3 = .ok (.aload_n 1, 1) := by decide +kernel
theorem dX1_lay_4 : decode cX1_lay 4 = .ok (.getfield 30, 3) := by decide +kernel
theorem dX1_lay_7 : decode cX1_lay 7 = .ok (.if_icmp .ge 52, 3) := by decide +kernel
theorem dX1_lay_10 : decode cX1_lay 10 = .ok (.aload_n 1, 1) := by decide +kernel
theorem dX1_lay_11 : decode cX1_lay 11 = .ok (.getfield 36, 3) := by decide +kernel
theorem dX1_lay_14 : decode cX1_lay 14 = .ok (.iload_n 2, 1) := by decide +kernel
theorem dX1_lay_15 : decode cX1_lay 15 = .ok (.aaload, 1) := by decide +kernel
theorem dX1_lay_16 : decode cX1_lay 16 = .ok (.astore_n 3, 1) := by decide +kernel
theorem dX1_lay_17 : decode cX1_lay 17 = .ok (.aload_n 0, 1) := by decide +kernel
theorem dX1_lay_18 : decode cX1_lay 18 = .ok (.aload_n 1, 1) := by decide +kernel
theorem dX1_lay_19 : decode cX1_lay 19 = .ok (.aload_n 3, 1) := by decide +kernel
theorem dX1_lay_20 : decode cX1_lay 20 = .ok (.invokevirtual 40, 3) := by decide +kernel
theorem dX1_lay_23 : decode cX1_lay 23 = .ok (.aload_n 0, 1) := by decide +kernel
theorem dX1_lay_24 : decode cX1_lay 24 = .ok (.aload_n 1, 1) := by decide +kernel
theorem dX1_lay_25 : decode cX1_lay 25 = .ok (.aload_n 3, 1) := by decide +kernel
theorem dX1_lay_26 : decode cX1_lay 26 = .ok (.invokevirtual 44, 3) := by decide +kernel
theorem dX1_lay_29 : decode cX1_lay 29 = .ok (.aload_n 0, 1) := by decide +kernel
theorem dX1_lay_30 : decode cX1_lay 30 = .ok (.aload_n 1, 1) := by decide +kernel
theorem dX1_lay_31 : decode cX1_lay 31 = .ok (.aload_n 3, 1) := by decide +kernel
theorem dX1_lay_32 : decode cX1_lay 32 = .ok (.invokevirtual 47, 3) := by decide +kernel
theorem dX1_lay_35 : decode cX1_lay 35 = .ok (.aload_n 0, 1) := by decide +kernel
theorem dX1_lay_36 : decode cX1_lay 36 = .ok (.aload_n 1, 1) := by decide +kernel
theorem dX1_lay_37 : decode cX1_lay 37 = .ok (.aload_n 3, 1) := by decide +kernel
theorem dX1_lay_38 : decode cX1_lay 38 = .ok (.invokevirtual 50, 3) := by decide +kernel
theorem dX1_lay_41 : decode cX1_lay 41 = .ok (.aload_n 0, 1) := by decide +kernel
theorem dX1_lay_42 : decode cX1_lay 42 = .ok (.aload_n 1, 1) := by decide +kernel
theorem dX1_lay_43 : decode cX1_lay 43 = .ok (.aload_n 3, 1) := by decide +kernel
theorem dX1_lay_44 : decode cX1_lay 44 = .ok (.invokevirtual 53, 3) := by decide +kernel
theorem dX1_lay_47 : decode cX1_lay 47 = .ok (.aload_n 0, 1) := by decide +kernel
theorem dX1_lay_48 : decode cX1_lay 48 = .ok (.aload_n 1, 1) := by decide +kernel
theorem dX1_lay_49 : decode cX1_lay 49 = .ok (.aload_n 3, 1) := by decide +kernel
theorem dX1_lay_50 : decode cX1_lay 50 = .ok (.invokevirtual 56, 3) := by decide +kernel
theorem dX1_lay_53 : decode cX1_lay 53 = .ok (.iinc 2 1, 3) := by decide +kernel
theorem dX1_lay_56 : decode cX1_lay 56 = .ok (.goto (-54), 3) := by decide +kernel
theorem dX1_lay_59 : decode cX1_lay 59 = .ok (.return_, 1) := by decide +kernel
theorem dX1_prepare_0 : decode cX1_prepare 0 = .ok (.aload_n 2, 1) := by decide +kernel
theorem dX1_prepare_1 : decode cX1_prepare 1 = .ok (.getfield 59, 3) := by decide +kernel
theorem dX1_prepare_4 : decode cX1_prepare 4 = .ok (.istore_n 3, 1) := by decide +kernel
theorem dX1_prepare_5 : decode cX1_prepare 5 = .ok (.iload_n 3, 1) := by decide +kernel
theorem dX1_prepare_6 : decode cX1_prepare 6 = .ok (.aload_n 2, 1) := by decide +kernel
theorem dX1_prepare_7 : decode cX1_prepare 7 = .ok (.getfield 59, 3) := by decide +kernel
theorem dX1_prepare_10 : decode cX1_prepare 10 = .ok (.aload_n 2, 1) := by decide +kernel
theorem dX1_prepare_11 : decode cX1_prepare 11 = .ok (.getfield 64, 3) := by decide +kernel
theorem dX1_prepare_14 : decode cX1_prepare 14 = .ok (.iadd, 1) := by decide +kernel
theorem dX1_prepare_15 : decode cX1_prepare 15 = .ok (.if_icmp .ge 62, 3) := by decide +kernel
theorem dX1_prepare_18 : decode cX1_prepare 18 = .ok (.aload_n 1, 1) := by decide +kernel
theorem dX1_prepare_19 : decode cX1_prepare 19 = .ok (.getfield 66, 3) := by decide +kernel
theorem dX1_prepare_22 : decode cX1_prepare 22 = .ok (.iload_n 3, 1) := by decide +kernel
theorem dX1_prepare_23 : decode cX1_prepare 23 = .ok (.aaload, 1) := by decide +kernel
theorem dX1_prepare_24 : decode cX1_prepare 24 = .ok (.astore 4, 2) := by decide +kernel
theorem dX1_prepare_26 : decode cX1_prepare 26 = .ok (.aload 4, 2) := by decide +kernel
theorem dX1_prepare_28 : decode cX1_prepare 28 = .ok (.aload_n 0, 1) := by decide +kernel
theorem dX1_prepare_29 : decode cX1_prepare 29 = .ok (.getfield 15, 3) := by decide +kernel
theorem dX1_prepare_32 : decode cX1_prepare 32 = .ok (.aload 4, 2) := by decide +kernel
theorem dX1_prepare_34 : decode cX1_prepare 34 = .ok (.getfield 69, 3) := by decide +kernel
theorem dX1_prepare_37 : decode cX1_prepare 37 = .ok (.iaload, 1) := by decide +kernel
theorem dX1_prepare_38 : decode cX1_prepare 38 = .ok (.putfield 72, 3) := by decide +kernel
theorem dX1_prepare_41 : decode cX1_prepare 41 = .ok (.aload 4, 2) := by decide +kernel
theorem dX1_prepare_43 : decode cX1_prepare 43 = .ok (.iconst (-1), 1) := by decide +kernel
theorem dX1_prepare_44 : decode cX1_prepare 44 = .ok (.putfield 74, 3) := by decide +kernel
theorem dX1_prepare_47 : decode cX1_prepare 47 = .ok (.aload 4, 2) := by decide +kernel
theorem dX1_prepare_49 : decode cX1_prepare 49 = .ok (.iconst (-1), 1) := by decide +kernel
theorem dX1_prepare_50 : decode cX1_prepare 50 = .ok (.putfield 77, 3) := by decide +kernel
theorem dX1_prepare_53 : decode cX1_prepare 53 = .ok (.aload 4, 2) := by decide +kernel
theorem dX1_prepare_55 : decode cX1_prepare 55 = .ok (.iconst 0, 1) := by decide +kernel
theorem dX1_prepare_56 : decode cX1_prepare 56 = .ok (.putfield 80, 3) := by decide +kernel
theorem dX1_prepare_59 : decode cX1_prepare 59 = .ok (.aload 4, 2) := by decide +kernel
theorem dX1_prepare_61 : decode cX1_prepare 61 = .ok (.iconst 0, 1) := by decide +kernel
theorem dX1_prepare_62 : decode cX1_prepare 62 = .ok (.putfield 83, 3) := by decide +kernel
theorem dX1_prepare_65 : decode cX1_prepare 65 = .ok (.aload 4, 2) := by decide +kernel
theorem dX1_prepare_67 : decode cX1_prepare 67 = .ok (.iconst (-1), 1) := by decide +kernel
theorem dX1_prepare_68 : decode cX1_prepare 68 = .ok (.putfield 86, 3) := by decide +kernel
theorem dX1_prepare_71 : decode cX1_prepare 71 = .ok (.iinc 3 1, 3) := by decide +kernel
theorem dX1_prepare_74 : decode cX1_prepare 74 = .ok (.goto (-69), 3) := by decide +kernel
theorem dX1_prepare_77 : decode cX1_prepare 77 = .ok (.iconst 0, 1) := by decide +kernel
theorem dX1_prepare_78 : decode cX1_prepare 78 = .ok (.istore_n 3, 1) := by decide +kernel
theorem dX1_prepare_79 : decode cX1_prepare 79 = .ok (.iload_n 3, 1) := by decide +kernel
theorem dX1_prepare_80 : decode cX1_prepare 80 = .ok (.bipush 12, 2) := by decide +kernel
theorem dX1_prepare_82 : decode cX1_prepare 82 = .ok (.if_icmp .ge 16, 3) := by decide +kernel
theorem dX1_prepare_85 : decode cX1_prepare 85 = .ok (.aload_n 0, 1) := by decide +kernel
theorem dX1_prepare_86 : decode cX1_prepare 86 = .ok (.getfield 18, 3) := by decide +kernel
theorem dX1_prepare_89 : decode cX1_prepare 89 = .ok (.iload_n 3, 1) := by decide +kernel
theorem dX1_prepare_90 : decode cX1_prepare 90 = .ok (.iconst 0, 1) := by decide +kernel
theorem dX1_prepare_91 : decode cX1_prepare 91 = .ok (.iastore, 1) := by decide +kernel
theorem dX1_prepare_92 : decode cX1_prepare 92 = .ok (.iinc 3 1, 3) := by decide +kernel
theorem dX1_prepare_95 : decode cX1_prepare 95 = .ok (.goto (-16), 3) := by decide +kernel
theorem dX1_prepare_98 : decode cX1_prepare 98 = .ok (.iconst 0, 1) := by decide +kernel
theorem dX1_prepare_99 : decode cX1_prepare 99 = .ok (.istore_n 3, 1) := by decide +kernel
theorem dX1_prepare_100 : decode cX1_prepare 100 = .ok (.iload_n 3, 1) := by decide +kernel
theorem dX1_prepare_101 : decode cX1_prepare 101 = .ok (.sipush 200, 3) := by decide +kernel
theorem dX1_prepare_104 : decode cX1_prepare 104 = .ok (.if_icmp .ge 16, 3) := by decide +kernel
theorem dX1_prepare_107 : decode cX1_prepare 107 = .ok (.aload_n 0, 1) := by decide +kernel
theorem dX1_prepare_108 : decode cX1_prepare 108 = .ok (.getfield 21, 3) := by decide +kernel
theorem dX1_prepare_111 : decode cX1_prepare 111 = .ok (.iload_n 3, 1) := by decide +kernel
theorem dX1_prepare_112 : decode cX1_prepare 112 = .ok (.iconst (-1), 1) := by decide +kernel
theorem dX1_prepare_113 : decode cX1_prepare 113 = .ok (.iastore, 1) := by decide +kernel
theorem dX1_prepare_114 : decode cX1_prepare 114 = .ok (.iinc 3 1, 3) := by decide +kernel
theorem dX1_prepare_117 : decode cX1_prepare 117 = .ok (.goto (-17), 3) := by decide +kernel
theorem dX1_prepare_120 : decode cX1_prepare 120 = .ok (.return_, 1) := by decide +kernel
theorem dX1_measureHeights_0 : decode cX1_measureHeights 0 = .ok (.aload_n 2, 1) := by decide +kernel
theorem dX1_measureHeights_1 : decode cX1_measureHeights 1 = .ok (.getfield 59, 3) := by decide +kernel
theorem dX1_measureHeights_4 : decode cX1_measureHeights 4 = .ok (.aload_n 2, 1) := by decide +kernel
theorem dX1_measureHeights_5 : decode cX1_measureHeights 5 = .ok (.getfield 64, 3) := by decide +kernel
theorem dX1_measureHeights_8 : decode cX1_measureHeights 8 = .ok (.iadd, 1) := by decide +kernel
theorem dX1_measureHeights_9 : decode cX1_measureHeights 9 = .ok (.istore_n 3, 1) := by decide +kernel
theorem dX1_measureHeights_10 : decode cX1_measureHeights 10 = .ok (.iload_n 3, 1) := by decide +kernel
theorem dX1_measureHeights_11 : decode cX1_measureHeights 11 = .ok (.iconst 1, 1) := by decide +kernel
theorem dX1_measureHeights_12 : decode cX1_measureHeights 12 = .ok (.isub, 1) := by decide +kernel
theorem dX1_measureHeights_13 : decode cX1_measureHeights 13 = .ok (.istore 4, 2) := by decide +kernel
theorem dX1_measureHeights_15 : decode cX1_measureHeights 15 = .ok (.iload 4, 2) := by decide +kernel
theorem dX1_measureHeights_17 : decode cX1_measureHeights 17 = .ok (.aload_n 2, 1) := by decide +kernel
theorem dX1_measureHeights_18 : decode cX1_measureHeights 18 = .ok (.getfield 59, 3) := by decide +kernel
theorem dX1_measureHeights_21 : decode cX1_measureHeights 21 = .ok (.if_icmp .lt 94, 3) := by decide +kernel
theorem dX1_measureHeights_24 : decode cX1_measureHeights 24 = .ok (.aload_n 1, 1) := by decide +kernel
theorem dX1_measureHeights_25 : decode cX1_measureHeights 25 = .ok (.getfield 66, 3) := by decide +kernel
theorem dX1_measureHeights_28 : decode cX1_measureHeights 28 = .ok (.iload 4, 2) := by decide +kernel
theorem dX1_measureHeights_30 : decode cX1_measureHeights 30 = .ok (.aaload, 1) := by decide +kernel
theorem dX1_measureHeights_31 : decode cX1_measureHeights 31 = .ok (.astore 5, 2) := by decide +kernel
theorem dX1_measureHeights_33 : decode cX1_measureHeights 33 = .ok (.iconst 0, 1) := by decide +kernel
theorem dX1_measureHeights_34 : decode cX1_measureHeights 34 = .ok (.istore 6, 2) := by decide +kernel
theorem dX1_measureHeights_36 : decode cX1_measureHeights 36 = .ok (.iload 4, 2) := by decide +kernel
theorem dX1_measureHeights_38 : decode cX1_measureHeights 38 = .ok (.iconst 1, 1) := by decide +kernel
theorem dX1_measureHeights_39 : decode cX1_measureHeights 39 = .ok (.iadd, 1) := by decide +kernel
theorem dX1_measureHeights_40 : decode cX1_measureHeights 40 = .ok (.istore 7, 2) := by decide +kernel
theorem dX1_measureHeights_42 : decode cX1_measureHeights 42 = .ok (.iload 7, 2) := by decide +kernel
theorem dX1_measureHeights_44 : decode cX1_measureHeights 44 = .ok (.iload_n 3, 1) := by decide +kernel
theorem dX1_measureHeights_45 : decode cX1_measureHeights 45 = .ok (.if_icmp .ge 51, 3) := by decide +kernel
theorem dX1_measureHeights_48 : decode cX1_measureHeights 48 = .ok (.aload_n 1, 1) := by decide +kernel
theorem dX1_measureHeights_49 : decode cX1_measureHeights 49 = .ok (.getfield 66, 3) := by decide +kernel
theorem dX1_measureHeights_52 : decode cX1_measureHeights 52 = .ok (.iload 7, 2) := by decide +kernel
theorem dX1_measureHeights_54 : decode cX1_measureHeights 54 = .ok (.aaload, 1) := by decide +kernel
theorem dX1_measureHeights_55 : decode cX1_measureHeights 55 = .ok (.astore 8, 2) := by decide +kernel
theorem dX1_measureHeights_57 : decode cX1_measureHeights 57 = .ok (.aload 8, 2) := by decide +kernel
theorem dX1_measureHeights_59 : decode cX1_measureHeights 59 = .ok (.aload 5, 2) := by decide +kernel
theorem dX1_measureHeights_61 : decode cX1_measureHeights 61 = .ok (.invokevirtual 89, 3) := by decide +kernel
theorem dX1_measureHeights_64 : decode cX1_measureHeights 64 = .ok (.ifCond .eq 26, 3) := by decide +kernel
theorem dX1_measureHeights_67 : decode cX1_measureHeights 67 = .ok (.iload 6, 2) := by decide +kernel
theorem dX1_measureHeights_69 : decode cX1_measureHeights 69 = .ok (.aload 8, 2) := by decide +kernel
theorem dX1_measureHeights_71 : decode cX1_measureHeights 71 = .ok (.getfield 93, 3) := by decide +kernel
theorem dX1_measureHeights_74 : decode cX1_measureHeights 74 = .ok (.invokestatic 96, 3) := by decide +kernel
theorem dX1_measureHeights_77 : decode cX1_measureHeights 77 = .ok (.istore 6, 2) := by decide +kernel
theorem dX1_measureHeights_79 : decode cX1_measureHeights 79 = .ok (.aload 8, 2) := by decide +kernel
theorem dX1_measureHeights_81 : decode cX1_measureHeights 81 = .ok (.dup, 1) := by decide +kernel
theorem dX1_measureHeights_82 : decode cX1_measureHeights 82 = .ok (.getfield 80, 3) := by decide +kernel
theorem dX1_measureHeights_85 : decode cX1_measureHeights 85 = .ok (.iconst 1, 1) := by decide +kernel
theorem dX1_measureHeights_86 : decode cX1_measureHeights 86 = .ok (.iadd, 1) := by decide +kernel
theorem dX1_measureHeights_87 : decode cX1_measureHeights 87 = .ok (.putfield 80, 3) := by decide +kernel
theorem dX1_measureHeights_90 : decode cX1_measureHeights 90 = .ok (.iinc 7 1, 3) := by decide +kernel
theorem dX1_measureHeights_93 : decode cX1_measureHeights 93 = .ok (.goto (-51), 3) := by decide +kernel
theorem dX1_measureHeights_96 : decode cX1_measureHeights 96 = .ok (.aload 5, 2) := by decide +kernel
theorem dX1_measureHeights_98 : decode cX1_measureHeights 98 = .ok (.aload 5, 2) := by decide +kernel
theorem dX1_measureHeights_100 : decode cX1_measureHeights 100 = .ok (.getfield 72, 3) := by decide +kernel
theorem dX1_measureHeights_103 : decode cX1_measureHeights 103 = .ok (.iload 6, 2) := by decide +kernel
theorem dX1_measureHeights_105 : decode cX1_measureHeights 105 = .ok (.iadd, 1) := by decide +kernel
theorem dX1_measureHeights_106 : decode cX1_measureHeights 106 = .ok (.putfield 93, 3) := by decide +kernel
theorem dX1_measureHeights_109 : decode cX1_measureHeights 109 = .ok (.iinc 4 (-1), 3) := by decide +kernel
theorem dX1_measureHeights_112 : decode cX1_measureHeights 112 = .ok (.goto (-97), 3) := by decide +kernel
theorem dX1_measureHeights_115 : decode cX1_measureHeights 115 = .ok (.return_, 1) := by decide +kernel
theorem dX1_rank_0 : decode cX1_rank 0 = .ok (.iconst 0, 1) := by decide +kernel
theorem dX1_rank_1 : decode cX1_rank 1 = .ok (.istore_n 3, 1) := by decide +kernel
theorem dX1_rank_2 : decode cX1_rank 2 = .ok (.iload_n 3, 1) := by decide +kernel
theorem dX1_rank_3 : decode cX1_rank 3 = .ok (.aload_n 2, 1) := by decide +kernel
theorem dX1_rank_4 : decode cX1_rank 4 = .ok (.getfield 64, 3) := by decide +kernel
theorem dX1_rank_7 : decode cX1_rank 7 = .ok (.if_icmp .ge 81, 3) := by decide +kernel
theorem dX1_rank_10 : decode cX1_rank 10 = .ok (.aload_n 1, 1) := by decide +kernel
theorem dX1_rank_11 : decode cX1_rank 11 = .ok (.getfield 66, 3) := by decide +kernel
theorem dX1_rank_14 : decode cX1_rank 14 = .ok (.aload_n 2, 1) := by decide +kernel
theorem dX1_rank_15 : decode cX1_rank 15 = .ok (.getfield 59, 3) := by decide +kernel
theorem dX1_rank_18 : decode cX1_rank 18 = .ok (.iload_n 3, 1) := by decide +kernel
theorem dX1_rank_19 : decode cX1_rank 19 = .ok (.iadd, 1) := by decide +kernel
theorem dX1_rank_20 : decode cX1_rank 20 = .ok (.aaload, 1) := by decide +kernel
theorem dX1_rank_21 : decode cX1_rank 21 = .ok (.astore 4, 2) := by decide +kernel
theorem dX1_rank_23 : decode cX1_rank 23 = .ok (.iload_n 3, 1) := by decide +kernel
theorem dX1_rank_24 : decode cX1_rank 24 = .ok (.istore 5, 2) := by decide +kernel
theorem dX1_rank_26 : decode cX1_rank 26 = .ok (.iload 5, 2) := by decide +kernel
theorem dX1_rank_28 : decode cX1_rank 28 = .ok (.ifCond .le 45, 3) := by decide +kernel
theorem dX1_rank_31 : decode cX1_rank 31 = .ok (.aload_n 0, 1) := by decide +kernel
theorem dX1_rank_32 : decode cX1_rank 32 = .ok (.getfield 26, 3) := by decide +kernel
theorem dX1_rank_35 : decode cX1_rank 35 = .ok (.iload 5, 2) := by decide +kernel
theorem dX1_rank_37 : decode cX1_rank 37 = .ok (.iconst 1, 1) := by decide +kernel
theorem dX1_rank_38 : decode cX1_rank 38 = .ok (.isub, 1) := by decide +kernel
theorem dX1_rank_39 : decode cX1_rank 39 = .ok (.aaload, 1) := by decide +kernel
theorem dX1_rank_40 : decode cX1_rank 40 = .ok (.getfield 93, 3) := by decide +kernel
theorem dX1_rank_43 : decode cX1_rank 43 = .ok (.aload 4, 2) := by decide +kernel
theorem dX1_rank_45 : decode cX1_rank 45 = .ok (.getfield 93, 3) := by decide +kernel
theorem dX1_rank_48 : decode cX1_rank 48 = .ok (.if_icmp .ge 25, 3) := by decide +kernel
theorem dX1_rank_51 : decode cX1_rank 51 = .ok (.aload_n 0, 1) := by decide +kernel
theorem dX1_rank_52 : decode cX1_rank 52 = .ok (.getfield 26, 3) := by decide +kernel
theorem dX1_rank_55 : decode cX1_rank 55 = .ok (.iload 5, 2) := by decide +kernel
theorem dX1_rank_57 : decode cX1_rank 57 = .ok (.aload_n 0, 1) := by decide +kernel
theorem dX1_rank_58 : decode cX1_rank 58 = .ok (.getfield 26, 3) := by decide +kernel
theorem dX1_rank_61 : decode cX1_rank 61 = .ok (.iload 5, 2) := by decide +kernel
theorem dX1_rank_63 : decode cX1_rank 63 = .ok (.iconst 1, 1) := by decide +kernel
theorem dX1_rank_64 : decode cX1_rank 64 = .ok (.isub, 1) := by decide +kernel
theorem dX1_rank_65 : decode cX1_rank 65 = .ok (.aaload, 1) := by decide +kernel
theorem dX1_rank_66 : decode cX1_rank 66 = .ok (.aastore, 1) := by decide +kernel
theorem dX1_rank_67 : decode cX1_rank 67 = .ok (.iinc 5 (-1), 3) := by decide +kernel
theorem dX1_rank_70 : decode cX1_rank 70 = .ok (.goto (-44), 3) := by decide +kernel
theorem dX1_rank_73 : decode cX1_rank 73 = .ok (.aload_n 0, 1) := by decide +kernel
theorem dX1_rank_74 : decode cX1_rank 74 = .ok (.getfield 26, 3) := by decide +kernel
theorem dX1_rank_77 : decode cX1_rank 77 = .ok (.iload 5, 2) := by decide +kernel
theorem dX1_rank_79 : decode cX1_rank 79 = .ok (.aload 4, 2) := by decide +kernel
theorem dX1_rank_81 : decode cX1_rank 81 = .ok (.aastore, 1) := by decide +kernel
theorem dX1_rank_82 : decode cX1_rank 82 = .ok (.iinc 3 1, 3) := by decide +kernel
theorem dX1_rank_85 : decode cX1_rank 85 = .ok (.goto (-83), 3) := by decide +kernel
theorem dX1_rank_88 : decode cX1_rank 88 = .ok (.return_, 1) := by decide +kernel
theorem dX1_beginAll_0 : decode cX1_beginAll 0 = .ok (.aload_n 2, 1) := by decide +kernel
theorem dX1_beginAll_1 : decode cX1_beginAll 1 = .ok (.iconst 1, 1) := by decide +kernel
theorem dX1_beginAll_2 : decode cX1_beginAll 2 = .ok (.putfield 102, 3) := by decide +kernel
theorem dX1_beginAll_5 : decode cX1_beginAll 5 = .ok (.iconst 0, 1) := by decide +kernel
theorem dX1_beginAll_6 : decode cX1_beginAll 6 = .ok (.istore_n 3, 1) := by decide +kernel
theorem dX1_beginAll_7 : decode cX1_beginAll 7 = .ok (.iconst 0, 1) := by decide +kernel
theorem dX1_beginAll_8 : decode cX1_beginAll 8 = .ok (.istore 4, 2) := by decide +kernel
theorem dX1_beginAll_10 : decode cX1_beginAll 10 = .ok (.iload 4, 2) := by decide +kernel
theorem dX1_beginAll_12 : decode cX1_beginAll 12 = .ok (.sipush 800, 3) := by decide +kernel
theorem dX1_beginAll_15 : decode cX1_beginAll 15 = .ok (.if_icmp .ge 93, 3) := by decide +kernel
theorem dX1_beginAll_18 : decode cX1_beginAll 18 = .ok (.iload_n 3, 1) := by decide +kernel
theorem dX1_beginAll_19 : decode cX1_beginAll 19 = .ok (.aload_n 2, 1) := by decide +kernel
theorem dX1_beginAll_20 : decode cX1_beginAll 20 = .ok (.getfield 64, 3) := by decide +kernel
theorem dX1_beginAll_23 : decode cX1_beginAll 23 = .ok (.if_icmp .ge 85, 3) := by decide +kernel
theorem dX1_beginAll_26 : decode cX1_beginAll 26 = .ok (.aload_n 0, 1) := by decide +kernel
theorem dX1_beginAll_27 : decode cX1_beginAll 27 = .ok (.iconst 0, 1) := by decide +kernel
theorem dX1_beginAll_28 : decode cX1_beginAll 28 = .ok (.putfield 105, 3) := by decide +kernel
theorem dX1_beginAll_31 : decode cX1_beginAll 31 = .ok (.iconst 0, 1) := by decide +kernel
theorem dX1_beginAll_32 : decode cX1_beginAll 32 = .ok (.istore 5, 2) := by decide +kernel
theorem dX1_beginAll_34 : decode cX1_beginAll 34 = .ok (.iload 5, 2) := by decide +kernel
theorem dX1_beginAll_36 : decode cX1_beginAll 36 = .ok (.aload_n 2, 1) := by decide +kernel
theorem dX1_beginAll_37 : decode cX1_beginAll 37 = .ok (.getfield 64, 3) := by decide +kernel
theorem dX1_beginAll_40 : decode cX1_beginAll 40 = .ok (.if_icmp .ge 62, 3) := by decide +kernel
theorem dX1_beginAll_43 : decode cX1_beginAll 43 = .ok (.aload_n 0, 1) := by decide +kernel
theorem dX1_beginAll_44 : decode cX1_beginAll 44 = .ok (.aload_n 0, 1) := by decide +kernel
theorem dX1_beginAll_45 : decode cX1_beginAll 45 = .ok (.getfield 26, 3) := by decide +kernel
theorem dX1_beginAll_48 : decode cX1_beginAll 48 = .ok (.iload 5, 2) := by decide +kernel
theorem dX1_beginAll_50 : decode cX1_beginAll 50 = .ok (.aaload, 1) := by decide +kernel
theorem dX1_beginAll_51 : decode cX1_beginAll 51 = .ok (.iload 4, 2) := by decide +kernel
theorem dX1_beginAll_53 : decode cX1_beginAll 53 = .ok (.invokevirtual 108, 3) := by decide +kernel
theorem dX1_beginAll_56 : decode cX1_beginAll 56 = .ok (.ifCond .eq 40, 3) := by decide +kernel
theorem dX1_beginAll_59 : decode cX1_beginAll 59 = .ok (.iinc 3 1, 3) := by decide +kernel
theorem dX1_beginAll_62 : decode cX1_beginAll 62 = .ok (.aload_n 2, 1) := by decide +kernel
theorem dX1_beginAll_63 : decode cX1_beginAll 63 = .ok (.aload_n 2, 1) := by decide +kernel
theorem dX1_beginAll_64 : decode cX1_beginAll 64 = .ok (.getfield 102, 3) := by decide +kernel
theorem dX1_beginAll_67 : decode cX1_beginAll 67 = .ok (.aload_n 0, 1) := by decide +kernel
theorem dX1_beginAll_68 : decode cX1_beginAll 68 = .ok (.getfield 26, 3) := by decide +kernel
theorem dX1_beginAll_71 : decode cX1_beginAll 71 = .ok (.iload 5, 2) := by decide +kernel
theorem dX1_beginAll_73 : decode cX1_beginAll 73 = .ok (.aaload, 1) := by decide +kernel
theorem dX1_beginAll_74 : decode cX1_beginAll 74 = .ok (.invokevirtual 112, 3) := by decide +kernel
theorem dX1_beginAll_77 : decode cX1_beginAll 77 = .ok (.invokestatic 96, 3) := by decide +kernel
theorem dX1_beginAll_80 : decode cX1_beginAll 80 = .ok (.putfield 102, 3) := by decide +kernel
theorem dX1_beginAll_83 : decode cX1_beginAll 83 = .ok (.aload_n 0, 1) := by decide +kernel
theorem dX1_beginAll_84 : decode cX1_beginAll 84 = .ok (.aload_n 1, 1) := by decide +kernel
theorem dX1_beginAll_85 : decode cX1_beginAll 85 = .ok (.aload_n 2, 1) := by decide +kernel
theorem dX1_beginAll_86 : decode cX1_beginAll 86 = .ok (.aload_n 0, 1) := by decide +kernel
theorem dX1_beginAll_87 : decode cX1_beginAll 87 = .ok (.getfield 26, 3) := by decide +kernel
theorem dX1_beginAll_90 : decode cX1_beginAll 90 = .ok (.iload 5, 2) := by decide +kernel
theorem dX1_beginAll_92 : decode cX1_beginAll 92 = .ok (.aaload, 1) := by decide +kernel
theorem dX1_beginAll_93 : decode cX1_beginAll 93 = .ok (.invokevirtual 116, 3) := by decide +kernel
theorem dX1_beginAll_96 : decode cX1_beginAll 96 = .ok (.iinc 5 1, 3) := by decide +kernel
theorem dX1_beginAll_99 : decode cX1_beginAll 99 = .ok (.goto (-65), 3) := by decide +kernel
theorem dX1_beginAll_102 : decode cX1_beginAll 102 = .ok (.iinc 4 1, 3) := by decide +kernel
theorem dX1_beginAll_105 : decode cX1_beginAll 105 = .ok (.goto (-95), 3) := by decide +kernel
theorem dX1_beginAll_108 : decode cX1_beginAll 108 = .ok (.return_, 1) := by decide +kernel
theorem dX1_begins_0 : decode cX1_begins 0 = .ok (.aload_n 1, 1) := by decide +kernel
theorem dX1_begins_1 : decode cX1_begins 1 = .ok (.invokevirtual 120, 3) := by decide +kernel
theorem dX1_begins_4 : decode cX1_begins 4 = .ok (.ifCond .ne 18, 3) := by decide +kernel
theorem dX1_begins_7 : decode cX1_begins 7 = .ok (.aload_n 1, 1) := by decide +kernel
theorem dX1_begins_8 : decode cX1_begins 8 = .ok (.getfield 80, 3) := by decide +kernel
theorem dX1_begins_11 : decode cX1_begins 11 = .ok (.ifCond .gt 11, 3) := by decide +kernel
theorem dX1_begins_14 : decode cX1_begins 14 = .ok (.aload_n 1, 1) := by decide +kernel
theorem dX1_begins_15 : decode cX1_begins 15 = .ok (.getfield 83, 3) := by decide +kernel
theorem dX1_begins_18 : decode cX1_begins 18 = .ok (.iload_n 2, 1) := by decide +kernel
theorem dX1_begins_19 : decode cX1_begins 19 = .ok (.if_icmp .le 5, 3) := by decide +kernel
theorem dX1_begins_22 : decode cX1_begins 22 = .ok (.iconst 0, 1) := by decide +kernel
theorem dX1_begins_23 : decode cX1_begins 23 = .ok (.ireturn, 1) := by decide +kernel
theorem dX1_begins_24 : decode cX1_begins 24 = .ok (.aload_n 1, 1) := by decide +kernel
theorem dX1_begins_25 : decode cX1_begins 25 = .ok (.getfield 69, 3) := by decide +kernel
theorem dX1_begins_28 : decode cX1_begins 28 = .ok (.iconst 3, 1) := by decide +kernel
theorem dX1_begins_29 : decode cX1_begins 29 = .ok (.if_icmp .ne 10, 3) := by decide +kernel
theorem dX1_begins_32 : decode cX1_begins 32 = .ok (.aload_n 0, 1) := by decide +kernel
theorem dX1_begins_33 : decode cX1_begins 33 = .ok (.getfield 105, 3) := by decide +kernel
theorem dX1_begins_36 : decode cX1_begins 36 = .ok (.goto 12, 3) := by decide +kernel
theorem dX1_begins_39 : decode cX1_begins 39 = .ok (.aload_n 0, 1) := by decide +kernel
theorem dX1_begins_40 : decode cX1_begins 40 = .ok (.aload_n 1, 1) := by decide +kernel
theorem dX1_begins_41 : decode cX1_begins 41 = .ok (.getfield 69, 3) := by decide +kernel
theorem dX1_begins_44 : decode cX1_begins 44 = .ok (.iload_n 2, 1) := by decide +kernel
theorem dX1_begins_45 : decode cX1_begins 45 = .ok (.invokevirtual 124, 3) := by decide +kernel
theorem dX1_begins_48 : decode cX1_begins 48 = .ok (.istore_n 3, 1) := by decide +kernel
theorem dX1_begins_49 : decode cX1_begins 49 = .ok (.iload_n 3, 1) := by decide +kernel
theorem dX1_begins_50 : decode cX1_begins 50 = .ok (.iconst (-1), 1) := by decide +kernel
theorem dX1_begins_51 : decode cX1_begins 51 = .ok (.if_icmp .ne 5, 3) := by decide +kernel
theorem dX1_begins_54 : decode cX1_begins 54 = .ok (.iconst 0, 1) := by decide +kernel
theorem dX1_begins_55 : decode cX1_begins 55 = .ok (.ireturn, 1) := by decide +kernel
theorem dX1_begins_56 : decode cX1_begins 56 = .ok (.aload_n 1, 1) := by decide +kernel
theorem dX1_begins_57 : decode cX1_begins 57 = .ok (.iload_n 2, 1) := by decide +kernel
theorem dX1_begins_58 : decode cX1_begins 58 = .ok (.putfield 74, 3) := by decide +kernel
theorem dX1_begins_61 : decode cX1_begins 61 = .ok (.aload_n 1, 1) := by decide +kernel
theorem dX1_begins_62 : decode cX1_begins 62 = .ok (.iload_n 3, 1) := by decide +kernel
theorem dX1_begins_63 : decode cX1_begins 63 = .ok (.putfield 127, 3) := by decide +kernel
theorem dX1_begins_66 : decode cX1_begins 66 = .ok (.aload_n 1, 1) := by decide +kernel
theorem dX1_begins_67 : decode cX1_begins 67 = .ok (.getfield 69, 3) := by decide +kernel
theorem dX1_begins_70 : decode cX1_begins 70 = .ok (.iconst 3, 1) := by decide +kernel
theorem dX1_begins_71 : decode cX1_begins 71 = .ok (.if_icmp .ne 16, 3) := by decide +kernel
theorem dX1_begins_74 : decode cX1_begins 74 = .ok (.aload_n 0, 1) := by decide +kernel
theorem dX1_begins_75 : decode cX1_begins 75 = .ok (.dup, 1) := by decide +kernel
theorem dX1_begins_76 : decode cX1_begins 76 = .ok (.getfield 105, 3) := by decide +kernel
theorem dX1_begins_79 : decode cX1_begins 79 = .ok (.iconst 1, 1) := by decide +kernel
theorem dX1_begins_80 : decode cX1_begins 80 = .ok (.iadd, 1) := by decide +kernel
theorem dX1_begins_81 : decode cX1_begins 81 = .ok (.putfield 105, 3) := by decide +kernel
theorem dX1_begins_84 : decode cX1_begins 84 = .ok (.goto 20, 3) := by decide +kernel
theorem dX1_begins_87 : decode cX1_begins 87 = .ok (.aload_n 0, 1) := by decide +kernel
theorem dX1_begins_88 : decode cX1_begins 88 = .ok (.getfield 18, 3) := by decide +kernel
theorem dX1_begins_91 : decode cX1_begins 91 = .ok (.aload_n 1, 1) := by decide +kernel
theorem dX1_begins_92 : decode cX1_begins 92 = .ok (.getfield 69, 3) := by decide +kernel
theorem dX1_begins_95 : decode cX1_begins 95 = .ok (.iconst 4, 1) := by decide +kernel
theorem dX1_begins_96 : decode cX1_begins 96 = .ok (.imul, 1) := by decide +kernel
theorem dX1_begins_97 : decode cX1_begins 97 = .ok (.iload_n 3, 1) := by decide +kernel
theorem dX1_begins_98 : decode cX1_begins 98 = .ok (.iadd, 1) := by decide +kernel
theorem dX1_begins_99 : decode cX1_begins 99 = .ok (.aload_n 1, 1) := by decide +kernel
theorem dX1_begins_100 : decode cX1_begins 100 = .ok (.invokevirtual 112, 3) := by decide +kernel
theorem dX1_begins_103 : decode cX1_begins 103 = .ok (.iastore, 1) := by decide +kernel
theorem dX1_begins_104 : decode cX1_begins 104 = .ok (.iconst 1, 1) := by decide +kernel
theorem dX1_begins_105 : decode cX1_begins 105 = .ok (.ireturn, 1) := by decide +kernel
theorem dX1_freeUnit_0 : decode cX1_freeUnit 0 = .ok (.iconst 0, 1) := by decide +kernel
theorem dX1_freeUnit_1 : decode cX1_freeUnit 1 = .ok (.istore_n 3, 1) := by decide +kernel
theorem dX1_freeUnit_2 : decode cX1_freeUnit 2 = .ok (.iload_n 3, 1) := by decide +kernel
theorem dX1_freeUnit_3 : decode cX1_freeUnit 3 = .ok (.aload_n 0, 1) := by decide +kernel
theorem dX1_freeUnit_4 : decode cX1_freeUnit 4 = .ok (.getfield 9, 3) := by decide +kernel
theorem dX1_freeUnit_7 : decode cX1_freeUnit 7 = .ok (.iload_n 1, 1) := by decide +kernel
theorem dX1_freeUnit_8 : decode cX1_freeUnit 8 = .ok (.iaload, 1) := by decide +kernel
theorem dX1_freeUnit_9 : decode cX1_freeUnit 9 = .ok (.if_icmp .ge 25, 3) := by decide +kernel
theorem dX1_freeUnit_12 : decode cX1_freeUnit 12 = .ok (.aload_n 0, 1) := by decide +kernel
theorem dX1_freeUnit_13 : decode cX1_freeUnit 13 = .ok (.getfield 18, 3) := by decide +kernel
theorem dX1_freeUnit_16 : decode cX1_freeUnit 16 = .ok (.iload_n 1, 1) := by decide +kernel
theorem dX1_freeUnit_17 : decode cX1_freeUnit 17 = .ok (.iconst 4, 1) := by decide +kernel
theorem dX1_freeUnit_18 : decode cX1_freeUnit 18 = .ok (.imul, 1) := by decide +kernel
theorem dX1_freeUnit_19 : decode cX1_freeUnit 19 = .ok (.iload_n 3, 1) := by decide +kernel
theorem dX1_freeUnit_20 : decode cX1_freeUnit 20 = .ok (.iadd, 1) := by decide +kernel
theorem dX1_freeUnit_21 : decode cX1_freeUnit 21 = .ok (.iaload, 1) := by decide +kernel
theorem dX1_freeUnit_22 : decode cX1_freeUnit 22 = .ok (.iload_n 2, 1) := by decide +kernel
theorem dX1_freeUnit_23 : decode cX1_freeUnit 23 = .ok (.if_icmp .gt 5, 3) := by decide +kernel
theorem dX1_freeUnit_26 : decode cX1_freeUnit 26 = .ok (.iload_n 3, 1) := by decide +kernel
theorem dX1_freeUnit_27 : decode cX1_freeUnit 27 = .ok (.ireturn, 1) := by decide +kernel
theorem dX1_freeUnit_28 : decode cX1_freeUnit 28 = .ok (.iinc 3 1, 3) := by decide +kernel
theorem dX1_freeUnit_31 : decode cX1_freeUnit 31 = .ok (.goto (-29), 3) := by decide +kernel
theorem dX1_freeUnit_34 : decode cX1_freeUnit 34 = .ok (.iconst (-1), 1) := by decide +kernel
theorem dX1_freeUnit_35 : decode cX1_freeUnit 35 = .ok (.ireturn, 1) := by decide +kernel
theorem dX1_tellThoseBehind_0 : decode cX1_tellThoseBehind 0 = .ok (.aload_n 3, 1) := by decide +kernel
theorem dX1_tellThoseBehind_1 : decode cX1_tellThoseBehind 1 = .ok (.getfield 130, 3) := by decide +kernel
theorem dX1_tellThoseBehind_4 : decode cX1_tellThoseBehind 4 = .ok (.iconst 1, 1) := by decide +kernel
theorem dX1_tellThoseBehind_5 : decode cX1_tellThoseBehind 5 = .ok (.iadd, 1) := by decide +kernel
theorem dX1_tellThoseBehind_6 : decode cX1_tellThoseBehind 6 = .ok (.istore 4, 2) := by decide +kernel
theorem dX1_tellThoseBehind_8 : decode cX1_tellThoseBehind 8 = .ok (.iload 4, 2) := by decide +kernel
theorem dX1_tellThoseBehind_10 : decode cX1_tellThoseBehind 10 = .ok (.aload_n 2, 1) := by decide +kernel
theorem dX1_tellThoseBehind_11 : decode cX1_tellThoseBehind 11 = .ok (.getfield 59, 3) := by decide +kernel
theorem dX1_tellThoseBehind_14 : decode cX1_tellThoseBehind 14 = .ok (.aload_n 2, 1) := by decide +kernel
theorem dX1_tellThoseBehind_15 : decode cX1_tellThoseBehind 15 = .ok (.getfield 64, 3) := by decide +kernel
theorem dX1_tellThoseBehind_18 : decode cX1_tellThoseBehind 18 = .ok (.iadd, 1) := by decide +kernel
theorem dX1_tellThoseBehind_19 : decode cX1_tellThoseBehind 19 = .ok (.if_icmp .ge 55, 3) := by decide +kernel
theorem dX1_tellThoseBehind_22 : decode cX1_tellThoseBehind 22 = .ok (.aload_n 1, 1) := by decide +kernel
theorem dX1_tellThoseBehind_23 : decode cX1_tellThoseBehind 23 = .ok (.getfield 66, 3) := by decide +kernel
theorem dX1_tellThoseBehind_26 : decode cX1_tellThoseBehind 26 = .ok (.iload 4, 2) := by decide +kernel
theorem dX1_tellThoseBehind_28 : decode cX1_tellThoseBehind 28 = .ok (.aaload, 1) := by decide +kernel
theorem dX1_tellThoseBehind_29 : decode cX1_tellThoseBehind 29 = .ok (.astore 5, 2) := by decide +kernel
theorem dX1_tellThoseBehind_31 : decode cX1_tellThoseBehind 31 = .ok (.aload 5, 2) := by decide +kernel
theorem dX1_tellThoseBehind_33 : decode cX1_tellThoseBehind 33 = .ok (.aload_n 3, 1) := by decide +kernel
theorem dX1_tellThoseBehind_34 : decode cX1_tellThoseBehind 34 = .ok (.invokevirtual 89, 3) := by decide +kernel
theorem dX1_tellThoseBehind_37 : decode cX1_tellThoseBehind 37 = .ok (.ifCond .eq 31, 3) := by decide +kernel
theorem dX1_tellThoseBehind_40 : decode cX1_tellThoseBehind 40 = .ok (.aload 5, 2) := by decide +kernel
theorem dX1_tellThoseBehind_42 : decode cX1_tellThoseBehind 42 = .ok (.dup, 1) := by decide +kernel
theorem dX1_tellThoseBehind_43 : decode cX1_tellThoseBehind 43 = .ok (.getfield 80, 3) := by decide +kernel
theorem dX1_tellThoseBehind_46 : decode cX1_tellThoseBehind 46 = .ok (.iconst 1, 1) := by decide +kernel
theorem dX1_tellThoseBehind_47 : decode cX1_tellThoseBehind 47 = .ok (.isub, 1) := by decide +kernel
theorem dX1_tellThoseBehind_48 : decode cX1_tellThoseBehind 48 = .ok (.putfield 80, 3) := by decide +kernel
theorem dX1_tellThoseBehind_51 : decode cX1_tellThoseBehind 51 = .ok (.aload 5, 2) := by decide +kernel
theorem dX1_tellThoseBehind_53 : decode cX1_tellThoseBehind 53 = .ok (.aload 5, 2) := by decide +kernel
theorem dX1_tellThoseBehind_55 : decode cX1_tellThoseBehind 55 = .ok (.getfield 83, 3) := by decide +kernel
theorem dX1_tellThoseBehind_58 : decode cX1_tellThoseBehind 58 = .ok (.aload_n 3, 1) := by decide +kernel
theorem dX1_tellThoseBehind_59 : decode cX1_tellThoseBehind 59 = .ok (.invokevirtual 112, 3) := by decide +kernel
theorem dX1_tellThoseBehind_62 : decode cX1_tellThoseBehind 62 = .ok (.invokestatic 96, 3) := by decide +kernel
theorem dX1_tellThoseBehind_65 : decode cX1_tellThoseBehind 65 = .ok (.putfield 83, 3) := by decide +kernel
theorem dX1_tellThoseBehind_68 : decode cX1_tellThoseBehind 68 = .ok (.iinc 4 1, 3) := by decide +kernel
theorem dX1_tellThoseBehind_71 : decode cX1_tellThoseBehind 71 = .ok (.goto (-63), 3) := by decide +kernel
theorem dX1_tellThoseBehind_74 : decode cX1_tellThoseBehind 74 = .ok (.return_, 1) := by decide +kernel
theorem dX1_noteUses_0 : decode cX1_noteUses 0 = .ok (.aload_n 2, 1) := by decide +kernel
theorem dX1_noteUses_1 : decode cX1_noteUses 1 = .ok (.getfield 59, 3) := by decide +kernel
theorem dX1_noteUses_4 : decode cX1_noteUses 4 = .ok (.istore_n 3, 1) := by decide +kernel
theorem dX1_noteUses_5 : decode cX1_noteUses 5 = .ok (.iload_n 3, 1) := by decide +kernel
theorem dX1_noteUses_6 : decode cX1_noteUses 6 = .ok (.aload_n 2, 1) := by decide +kernel
theorem dX1_noteUses_7 : decode cX1_noteUses 7 = .ok (.getfield 59, 3) := by decide +kernel
theorem dX1_noteUses_10 : decode cX1_noteUses 10 = .ok (.aload_n 2, 1) := by decide +kernel
theorem dX1_noteUses_11 : decode cX1_noteUses 11 = .ok (.getfield 64, 3) := by decide +kernel
theorem dX1_noteUses_14 : decode cX1_noteUses 14 = .ok (.iadd, 1) := by decide +kernel
theorem dX1_noteUses_15 : decode cX1_noteUses 15 = .ok (.if_icmp .ge 47, 3) := by decide +kernel
theorem dX1_noteUses_18 : decode cX1_noteUses 18 = .ok (.aload_n 1, 1) := by decide +kernel
theorem dX1_noteUses_19 : decode cX1_noteUses 19 = .ok (.getfield 66, 3) := by decide +kernel
theorem dX1_noteUses_22 : decode cX1_noteUses 22 = .ok (.iload_n 3, 1) := by decide +kernel
theorem dX1_noteUses_23 : decode cX1_noteUses 23 = .ok (.aaload, 1) := by decide +kernel
theorem dX1_noteUses_24 : decode cX1_noteUses 24 = .ok (.astore 4, 2) := by decide +kernel
theorem dX1_noteUses_26 : decode cX1_noteUses 26 = .ok (.aload_n 0, 1) := by decide +kernel
theorem dX1_noteUses_27 : decode cX1_noteUses 27 = .ok (.aload_n 1, 1) := by decide +kernel
theorem dX1_noteUses_28 : decode cX1_noteUses 28 = .ok (.aload 4, 2) := by decide +kernel
theorem dX1_noteUses_30 : decode cX1_noteUses 30 = .ok (.getfield 133, 3) := by decide +kernel
theorem dX1_noteUses_33 : decode cX1_noteUses 33 = .ok (.aload 4, 2) := by decide +kernel
theorem dX1_noteUses_35 : decode cX1_noteUses 35 = .ok (.getfield 74, 3) := by decide +kernel
theorem dX1_noteUses_38 : decode cX1_noteUses 38 = .ok (.invokevirtual 136, 3) := by decide +kernel
theorem dX1_noteUses_41 : decode cX1_noteUses 41 = .ok (.aload_n 0, 1) := by decide +kernel
theorem dX1_noteUses_42 : decode cX1_noteUses 42 = .ok (.aload_n 1, 1) := by decide +kernel
theorem dX1_noteUses_43 : decode cX1_noteUses 43 = .ok (.aload 4, 2) := by decide +kernel
theorem dX1_noteUses_45 : decode cX1_noteUses 45 = .ok (.getfield 140, 3) := by decide +kernel
theorem dX1_noteUses_48 : decode cX1_noteUses 48 = .ok (.aload 4, 2) := by decide +kernel
theorem dX1_noteUses_50 : decode cX1_noteUses 50 = .ok (.getfield 74, 3) := by decide +kernel
theorem dX1_noteUses_53 : decode cX1_noteUses 53 = .ok (.invokevirtual 136, 3) := by decide +kernel
theorem dX1_noteUses_56 : decode cX1_noteUses 56 = .ok (.iinc 3 1, 3) := by decide +kernel
theorem dX1_noteUses_59 : decode cX1_noteUses 59 = .ok (.goto (-54), 3) := by decide +kernel
theorem dX1_noteUses_62 : decode cX1_noteUses 62 = .ok (.aload_n 2, 1) := by decide +kernel
theorem dX1_noteUses_63 : decode cX1_noteUses 63 = .ok (.getfield 143, 3) := by decide +kernel
theorem dX1_noteUses_66 : decode cX1_noteUses 66 = .ok (.ifCond .eq 18, 3) := by decide +kernel
theorem dX1_noteUses_69 : decode cX1_noteUses 69 = .ok (.aload_n 0, 1) := by decide +kernel
theorem dX1_noteUses_70 : decode cX1_noteUses 70 = .ok (.aload_n 1, 1) := by decide +kernel
theorem dX1_noteUses_71 : decode cX1_noteUses 71 = .ok (.aload_n 2, 1) := by decide +kernel
theorem dX1_noteUses_72 : decode cX1_noteUses 72 = .ok (.getfield 147, 3) := by decide +kernel
theorem dX1_noteUses_75 : decode cX1_noteUses 75 = .ok (.aload_n 2, 1) := by decide +kernel
theorem dX1_noteUses_76 : decode cX1_noteUses 76 = .ok (.getfield 102, 3) := by decide +kernel
theorem dX1_noteUses_79 : decode cX1_noteUses 79 = .ok (.iconst 1, 1) := by decide +kernel
theorem dX1_noteUses_80 : decode cX1_noteUses 80 = .ok (.isub, 1) := by decide +kernel
theorem dX1_noteUses_81 : decode cX1_noteUses 81 = .ok (.invokevirtual 136, 3) := by decide +kernel
theorem dX1_noteUses_84 : decode cX1_noteUses 84 = .ok (.return_, 1) := by decide +kernel
theorem dX1_noteUse_0 : decode cX1_noteUse 0 = .ok (.iload_n 2, 1) := by decide +kernel
theorem dX1_noteUse_1 : decode cX1_noteUse 1 = .ok (.invokestatic 150, 3) := by decide +kernel
theorem dX1_noteUse_4 : decode cX1_noteUse 4 = .ok (.ifCond .eq 28, 3) := by decide +kernel
theorem dX1_noteUse_7 : decode cX1_noteUse 7 = .ok (.aload_n 1, 1) := by decide +kernel
theorem dX1_noteUse_8 : decode cX1_noteUse 8 = .ok (.getfield 66, 3) := by decide +kernel
theorem dX1_noteUse_11 : decode cX1_noteUse 11 = .ok (.iload_n 2, 1) := by decide +kernel
theorem dX1_noteUse_12 : decode cX1_noteUse 12 = .ok (.invokestatic 156, 3) := by decide +kernel
theorem dX1_noteUse_15 : decode cX1_noteUse 15 = .ok (.aaload, 1) := by decide +kernel
theorem dX1_noteUse_16 : decode cX1_noteUse 16 = .ok (.astore 4, 2) := by decide +kernel
theorem dX1_noteUse_18 : decode cX1_noteUse 18 = .ok (.aload 4, 2) := by decide +kernel
theorem dX1_noteUse_20 : decode cX1_noteUse 20 = .ok (.aload 4, 2) := by decide +kernel
theorem dX1_noteUse_22 : decode cX1_noteUse 22 = .ok (.getfield 86, 3) := by decide +kernel
theorem dX1_noteUse_25 : decode cX1_noteUse 25 = .ok (.iload_n 3, 1) := by decide +kernel
theorem dX1_noteUse_26 : decode cX1_noteUse 26 = .ok (.invokestatic 96, 3) := by decide +kernel
theorem dX1_noteUse_29 : decode cX1_noteUse 29 = .ok (.putfield 86, 3) := by decide +kernel
theorem dX1_noteUse_32 : decode cX1_noteUse 32 = .ok (.return_, 1) := by decide +kernel
theorem dX1_bindRegisters_0 : decode cX1_bindRegisters 0 = .ok (.iconst 1, 1) := by decide +kernel
theorem dX1_bindRegisters_1 : decode cX1_bindRegisters 1 = .ok (.istore_n 3, 1) := by decide +kernel
theorem dX1_bindRegisters_2 : decode cX1_bindRegisters 2 = .ok (.iload_n 3, 1) := by decide +kernel
theorem dX1_bindRegisters_3 : decode cX1_bindRegisters 3 = .ok (.aload_n 2, 1) := by decide +kernel
theorem dX1_bindRegisters_4 : decode cX1_bindRegisters 4 = .ok (.getfield 102, 3) := by decide +kernel
theorem dX1_bindRegisters_7 : decode cX1_bindRegisters 7 = .ok (.if_icmp .gt 76, 3) := by decide +kernel
theorem dX1_bindRegisters_10 : decode cX1_bindRegisters 10 = .ok (.aload_n 2, 1) := by decide +kernel
theorem dX1_bindRegisters_11 : decode cX1_bindRegisters 11 = .ok (.getfield 59, 3) := by decide +kernel
theorem dX1_bindRegisters_14 : decode cX1_bindRegisters 14 = .ok (.istore 4, 2) := by decide +kernel
theorem dX1_bindRegisters_16 : decode cX1_bindRegisters 16 = .ok (.iload 4, 2) := by decide +kernel
theorem dX1_bindRegisters_18 : decode cX1_bindRegisters 18 = .ok (.aload_n 2, 1) := by decide +kernel
theorem dX1_bindRegisters_19 : decode cX1_bindRegisters 19 = .ok (.getfield 59, 3) := by decide +kernel
theorem dX1_bindRegisters_22 : decode cX1_bindRegisters 22 = .ok (.aload_n 2, 1) := by decide +kernel
theorem dX1_bindRegisters_23 : decode cX1_bindRegisters 23 = .ok (.getfield 64, 3) := by decide +kernel
theorem dX1_bindRegisters_26 : decode cX1_bindRegisters 26 = .ok (.iadd, 1) := by decide +kernel
theorem dX1_bindRegisters_27 : decode cX1_bindRegisters 27 = .ok (.if_icmp .ge 50, 3) := by decide +kernel
theorem dX1_bindRegisters_30 : decode cX1_bindRegisters 30 = .ok (.aload_n 1, 1) := by decide +kernel
theorem dX1_bindRegisters_31 : decode cX1_bindRegisters 31 = .ok (.getfield 66, 3) := by decide +kernel
theorem dX1_bindRegisters_34 : decode cX1_bindRegisters 34 = .ok (.iload 4, 2) := by decide +kernel
theorem dX1_bindRegisters_36 : decode cX1_bindRegisters 36 = .ok (.aaload, 1) := by decide +kernel
theorem dX1_bindRegisters_37 : decode cX1_bindRegisters 37 = .ok (.astore 5, 2) := by decide +kernel
theorem dX1_bindRegisters_39 : decode cX1_bindRegisters 39 = .ok (.aload 5, 2) := by decide +kernel
theorem dX1_bindRegisters_41 : decode cX1_bindRegisters 41 = .ok (.invokevirtual 112, 3) := by decide +kernel
theorem dX1_bindRegisters_44 : decode cX1_bindRegisters 44 = .ok (.iload_n 3, 1) := by decide +kernel
theorem dX1_bindRegisters_45 : decode cX1_bindRegisters 45 = .ok (.if_icmp .ne 26, 3) := by decide +kernel
theorem dX1_bindRegisters_48 : decode cX1_bindRegisters 48 = .ok (.aload 5, 2) := by decide +kernel
theorem dX1_bindRegisters_50 : decode cX1_bindRegisters 50 = .ok (.invokevirtual 160, 3) := by decide +kernel
theorem dX1_bindRegisters_53 : decode cX1_bindRegisters 53 = .ok (.ifCond .eq 18, 3) := by decide +kernel
theorem dX1_bindRegisters_56 : decode cX1_bindRegisters 56 = .ok (.aload 5, 2) := by decide +kernel
theorem dX1_bindRegisters_58 : decode cX1_bindRegisters 58 = .ok (.aload_n 0, 1) := by decide +kernel
theorem dX1_bindRegisters_59 : decode cX1_bindRegisters 59 = .ok (.iload_n 3, 1) := by decide +kernel
theorem dX1_bindRegisters_60 : decode cX1_bindRegisters 60 = .ok (.aload 5, 2) := by decide +kernel
theorem dX1_bindRegisters_62 : decode cX1_bindRegisters 62 = .ok (.getfield 86, 3) := by decide +kernel
theorem dX1_bindRegisters_65 : decode cX1_bindRegisters 65 = .ok (.invokevirtual 163, 3) := by decide +kernel
theorem dX1_bindRegisters_68 : decode cX1_bindRegisters 68 = .ok (.putfield 77, 3) := by decide +kernel
theorem dX1_bindRegisters_71 : decode cX1_bindRegisters 71 = .ok (.iinc 4 1, 3) := by decide +kernel
theorem dX1_bindRegisters_74 : decode cX1_bindRegisters 74 = .ok (.goto (-58), 3) := by decide +kernel
theorem dX1_bindRegisters_77 : decode cX1_bindRegisters 77 = .ok (.iinc 3 1, 3) := by decide +kernel
theorem dX1_bindRegisters_80 : decode cX1_bindRegisters 80 = .ok (.goto (-78), 3) := by decide +kernel
theorem dX1_bindRegisters_83 : decode cX1_bindRegisters 83 = .ok (.return_, 1) := by decide +kernel
theorem dX1_freeRegister_0 : decode cX1_freeRegister 0 = .ok (.iload_n 2, 1) := by decide +kernel
theorem dX1_freeRegister_1 : decode cX1_freeRegister 1 = .ok (.iload_n 1, 1) := by decide +kernel
theorem dX1_freeRegister_2 : decode cX1_freeRegister 2 = .ok (.if_icmp .ge 5, 3) := by decide +kernel
theorem dX1_freeRegister_5 : decode cX1_freeRegister 5 = .ok (.iconst 0, 1) := by decide +kernel
theorem dX1_freeRegister_6 : decode cX1_freeRegister 6 = .ok (.ireturn, 1) := by decide +kernel
theorem dX1_freeRegister_7 : decode cX1_freeRegister 7 = .ok (.iconst 0, 1) := by decide +kernel
theorem dX1_freeRegister_8 : decode cX1_freeRegister 8 = .ok (.istore_n 3, 1) := by decide +kernel
theorem dX1_freeRegister_9 : decode cX1_freeRegister 9 = .ok (.iload_n 3, 1) := by decide +kernel
theorem dX1_freeRegister_10 : decode cX1_freeRegister 10 = .ok (.sipush 200, 3) := by decide +kernel
theorem dX1_freeRegister_13 : decode cX1_freeRegister 13 = .ok (.if_icmp .ge 28, 3) := by decide +kernel
theorem dX1_freeRegister_16 : decode cX1_freeRegister 16 = .ok (.aload_n 0, 1) := by decide +kernel
theorem dX1_freeRegister_17 : decode cX1_freeRegister 17 = .ok (.getfield 21, 3) := by decide +kernel
theorem dX1_freeRegister_20 : decode cX1_freeRegister 20 = .ok (.iload_n 3, 1) := by decide +kernel
theorem dX1_freeRegister_21 : decode cX1_freeRegister 21 = .ok (.iaload, 1) := by decide +kernel
theorem dX1_freeRegister_22 : decode cX1_freeRegister 22 = .ok (.iload_n 1, 1) := by decide +kernel
theorem dX1_freeRegister_23 : decode cX1_freeRegister 23 = .ok (.if_icmp .ge 12, 3) := by decide +kernel
theorem dX1_freeRegister_26 : decode cX1_freeRegister 26 = .ok (.aload_n 0, 1) := by decide +kernel
theorem dX1_freeRegister_27 : decode cX1_freeRegister 27 = .ok (.getfield 21, 3) := by decide +kernel
theorem dX1_freeRegister_30 : decode cX1_freeRegister 30 = .ok (.iload_n 3, 1) := by decide +kernel
theorem dX1_freeRegister_31 : decode cX1_freeRegister 31 = .ok (.iload_n 2, 1) := by decide +kernel
theorem dX1_freeRegister_32 : decode cX1_freeRegister 32 = .ok (.iastore, 1) := by decide +kernel
theorem dX1_freeRegister_33 : decode cX1_freeRegister 33 = .ok (.iload_n 3, 1) := by decide +kernel
theorem dX1_freeRegister_34 : decode cX1_freeRegister 34 = .ok (.ireturn, 1) := by decide +kernel
theorem dX1_freeRegister_35 : decode cX1_freeRegister 35 = .ok (.iinc 3 1, 3) := by decide +kernel
theorem dX1_freeRegister_38 : decode cX1_freeRegister 38 = .ok (.goto (-29), 3) := by decide +kernel
theorem dX1_freeRegister_41 : decode cX1_freeRegister 41 = .ok (.iconst (-1), 1) := by decide +kernel
theorem dX1_freeRegister_42 : decode cX1_freeRegister 42 = .ok (.ireturn, 1) := by decide +kernel
theorem dX2_init_0 : decode cX2_init 0 = .ok (.aload_n 0, 1) := by decide +kernel
theorem dX2_init_1 : decode cX2_init 1 = .ok (.invokespecial 3, 3) := by decide +kernel
theorem dX2_init_4 : decode cX2_init 4 = .ok (.aload_n 0, 1) := by decide +kernel
theorem dX2_init_5 : decode cX2_init 5 = .ok (.bipush 8, 2) := by decide +kernel
theorem dX2_init_7 : decode cX2_init 7 = .ok (.newarray .int, 2) := by decide +kernel
theorem dX2_init_9 : decode cX2_init 9 = .ok (.putfield 9, 3) := by decide +kernel
theorem dX2_init_12 : decode cX2_init 12 = .ok (.aload_n 0, 1) := by decide +kernel
theorem dX2_init_13 : decode cX2_init 13 = .ok (.bipush 16, 2) := by decide +kernel
theorem dX2_init_15 : decode cX2_init 15 = .ok (.newarray .int, 2) := by decide +kernel
theorem dX2_init_17 : decode cX2_init 17 = .ok (.putfield 15, 3) := by decide +kernel
theorem dX2_init_20 : decode cX2_init 20 = .ok (.aload_n 0, 1) := by decide +kernel
theorem dX2_init_21 : decode cX2_init 21 = .ok (.sipush 200, 3) := by decide +kernel
theorem dX2_init_24 : decode cX2_init 24 = .ok (.newarray .int, 2) := by decide +kernel
theorem dX2_init_26 : decode cX2_init 26 = .ok (.putfield 18, 3) := by decide +kernel
theorem dX2_init_29 : decode cX2_init 29 = .ok (.return_, 1) := by decide +kernel
theorem dX2_begin_0 : decode cX2_begin 0 = .ok (.aload_n 0, 1) := by decide +kernel
theorem dX2_begin_1 : decode cX2_begin 1 = .ok (.aload_n 1, 1) := by decide +kernel
theorem dX2_begin_2 : decode cX2_begin 2 = .ok (.putfield 21, 3) := by decide +kernel
theorem dX2_begin_5 : decode cX2_begin 5 = .ok (.aload_n 0, 1) := by decide +kernel
theorem dX2_begin_6 : decode cX2_begin 6 = .ok (.aload_n 1, 1) := by decide +kernel
theorem dX2_begin_7 : decode cX2_begin 7 = .ok (.getfield 25, 3) := by decide +kernel
theorem dX2_begin_10 : decode cX2_begin 10 = .ok (.ifCond .le 7, 3) := by decide +kernel
theorem dX2_begin_13 : decode cX2_begin 13 = .ok (.iconst 0, 1) := by decide +kernel
theorem dX2_begin_14 : decode cX2_begin 14 = .ok (.goto 4, 3) := by decide +kernel
theorem dX2_begin_17 : decode cX2_begin 17 = .ok (.iconst (-1), 1) := by decide +kernel
theorem dX2_begin_18 : decode cX2_begin 18 = .ok (.putfield 31, 3) := by decide +kernel
theorem dX2_begin_21 : decode cX2_begin 21 = .ok (.aload_n 0, 1) := by decide +kernel
theorem dX2_begin_22 : decode cX2_begin 22 = .ok (.lconst 0, 1) := by decide +kernel
theorem dX2_begin_23 : decode cX2_begin 23 = .ok (.putfield 34, 3) := by decide +kernel
theorem dX2_begin_26 : decode cX2_begin 26 = .ok (.return_, 1) := by decide +kernel
theorem dX2_advance_0 : decode cX2_advance 0 = .ok (.iconst 0, 1) := by decide +kernel
theorem dX2_advance_1 : decode cX2_advance 1 = .ok (.istore_n 2, 1) := by decide +kernel
theorem dX2_advance_2 : decode cX2_advance 2 = .ok (.iconst 0, 1) := by decide +kernel
theorem dX2_advance_3 : decode cX2_advance 3 = .ok (.istore_n 3, 1) := by decide +kernel
theorem dX2_advance_4 : decode cX2_advance 4 = .ok (.iload_n 3, 1) := by decide +kernel
theorem dX2_advance_5 : decode cX2_advance 5 = .ok (.iload_n 1, 1) := by decide +kernel
theorem dX2_advance_6 : decode cX2_advance 6 = .ok (.if_icmp .ge 50, 3) := by decide +kernel
theorem dX2_advance_9 : decode cX2_advance 9 = .ok (.iload_n 2, 1) := by decide +kernel
theorem dX2_advance_10 : decode cX2_advance 10 = .ok (.iload_n 1, 1) := by decide +kernel
theorem dX2_advance_11 : decode cX2_advance 11 = .ok (.if_icmp .ge 45, 3) := by decide +kernel
theorem dX2_advance_14 : decode cX2_advance 14 = .ok (.aload_n 0, 1) := by decide +kernel
theorem dX2_advance_15 : decode cX2_advance 15 = .ok (.getfield 31, 3) := by decide +kernel
theorem dX2_advance_18 : decode cX2_advance 18 = .ok (.iconst (-1), 1) := by decide +kernel
theorem dX2_advance_19 : decode cX2_advance 19 = .ok (.if_icmp .eq 37, 3) := by decide +kernel
theorem dX2_advance_22 : decode cX2_advance 22 = .ok (.aload_n 0, 1) := by decide +kernel
theorem dX2_advance_23 : decode cX2_advance 23 = .ok (.getfield 21, 3) := by decide +kernel
theorem dX2_advance_26 : decode cX2_advance 26 = .ok (.getfield 38, 3) := by decide +kernel
theorem dX2_advance_29 : decode cX2_advance 29 = .ok (.aload_n 0, 1) := by decide +kernel
theorem dX2_advance_30 : decode cX2_advance 30 = .ok (.getfield 31, 3) := by decide +kernel
theorem dX2_advance_33 : decode cX2_advance 33 = .ok (.aaload, 1) := by decide +kernel
theorem dX2_advance_34 : decode cX2_advance 34 = .ok (.astore 4, 2) := by decide +kernel
theorem dX2_advance_36 : decode cX2_advance 36 = .ok (.aload_n 0, 1) := by decide +kernel
theorem dX2_advance_37 : decode cX2_advance 37 = .ok (.aload 4, 2) := by decide +kernel
theorem dX2_advance_39 : decode cX2_advance 39 = .ok (.invokevirtual 42, 3) := by decide +kernel
theorem dX2_advance_42 : decode cX2_advance 42 = .ok (.iload_n 2, 1) := by decide +kernel
theorem dX2_advance_43 : decode cX2_advance 43 = .ok (.aload 4, 2) := by decide +kernel
theorem dX2_advance_45 : decode cX2_advance 45 = .ok (.getfield 46, 3) := by decide +kernel
theorem dX2_advance_48 : decode cX2_advance 48 = .ok (.iadd, 1) := by decide +kernel
theorem dX2_advance_49 : decode cX2_advance 49 = .ok (.istore_n 2, 1) := by decide +kernel
theorem dX2_advance_50 : decode cX2_advance 50 = .ok (.iinc 3 1, 3) := by decide +kernel
theorem dX2_advance_53 : decode cX2_advance 53 = .ok (.goto (-49), 3) := by decide +kernel
theorem dX2_advance_56 : decode cX2_advance 56 = .ok (.aload_n 0, 1) := by decide +kernel
theorem dX2_advance_57 : decode cX2_advance 57 = .ok (.dup, 1) := by decide +kernel
theorem dX2_advance_58 : decode cX2_advance 58 = .ok (.getfield 34, 3) := by decide +kernel
theorem dX2_advance_61 : decode cX2_advance 61 = .ok (.iload_n 2, 1) := by decide +kernel
theorem dX2_advance_62 : decode cX2_advance 62 = .ok (.i2l, 1) := by decide +kernel
theorem dX2_advance_63 : decode cX2_advance 63 = .ok (.ladd, 1) := by decide +kernel
theorem dX2_advance_64 : decode cX2_advance 64 = .ok (.putfield 34, 3) := by decide +kernel
theorem dX2_advance_67 : decode cX2_advance 67 = .ok (.iload_n 2, 1) := by decide +kernel
theorem dX2_advance_68 : decode cX2_advance 68 = .ok (.ireturn, 1) := by decide +kernel
theorem dX2_perform_0 : decode cX2_perform 0 = .ok (.aload_n 1, 1) := by decide +kernel
theorem dX2_perform_1 : decode cX2_perform 1 = .ok (.getfield 51, 3) := by decide +kernel
theorem dX2_perform_4 : decode cX2_perform 4 = .ok (.istore_n 2, 1) := by decide +kernel
theorem dX2_perform_5 : decode cX2_perform 5 = .ok (.iload_n 2, 1) := by decide +kernel
theorem dX2_perform_6 : decode cX2_perform 6 = .ok (.aload_n 1, 1) := by decide +kernel
theorem dX2_perform_7 : decode cX2_perform 7 = .ok (.getfield 51, 3) := by decide +kernel
theorem dX2_perform_10 : decode cX2_perform 10 = .ok (.aload_n 1, 1) := by decide +kernel
theorem dX2_perform_11 : decode cX2_perform 11 = .ok (.getfield 54, 3) := by decide +kernel
theorem dX2_perform_14 : decode cX2_perform 14 = .ok (.iadd, 1) := by decide +kernel
theorem dX2_perform_15 : decode cX2_perform 15 = .ok (.if_icmp .ge 53, 3) := by decide +kernel
theorem dX2_perform_18 : decode cX2_perform 18 = .ok (.aload_n 0, 1) := by decide +kernel
theorem dX2_perform_19 : decode cX2_perform 19 = .ok (.getfield 21, 3) := by decide +kernel
theorem dX2_perform_22 : decode cX2_perform 22 = .ok (.getfield 57, 3) := by decide +kernel
theorem dX2_perform_25 : decode cX2_perform 25 = .ok (.iload_n 2, 1) := by decide +kernel
theorem dX2_perform_26 : decode cX2_perform 26 = .ok (.aaload, 1) := by decide +kernel
theorem dX2_perform_27 : decode cX2_perform 27 = .ok (.astore_n 3, 1) := by decide +kernel
theorem dX2_perform_28 : decode cX2_perform 28 = .ok (.aload_n 0, 1) := by decide +kernel
theorem dX2_perform_29 : decode cX2_perform 29 = .ok (.getfield 18, 3) := by decide +kernel
theorem dX2_perform_32 : decode cX2_perform 32 = .ok (.iload_n 2, 1) := by decide +kernel
theorem dX2_perform_33 : decode cX2_perform 33 = .ok (.aload_n 0, 1) := by decide +kernel
theorem dX2_perform_34 : decode cX2_perform 34 = .ok (.aload_n 3, 1) := by decide +kernel
theorem dX2_perform_35 : decode cX2_perform 35 = .ok (.invokevirtual 61, 3) := by decide +kernel
theorem dX2_perform_38 : decode cX2_perform 38 = .ok (.iastore, 1) := by decide +kernel
theorem dX2_perform_39 : decode cX2_perform 39 = .ok (.aload_n 3, 1) := by decide +kernel
theorem dX2_perform_40 : decode cX2_perform 40 = .ok (.getfield 65, 3) := by decide +kernel
theorem dX2_perform_43 : decode cX2_perform 43 = .ok (.iconst (-1), 1) := by decide +kernel
theorem dX2_perform_44 : decode cX2_perform 44 = .ok (.if_icmp .eq 18, 3) := by decide +kernel
theorem dX2_perform_47 : decode cX2_perform 47 = .ok (.aload_n 0, 1) := by decide +kernel
theorem dX2_perform_48 : decode cX2_perform 48 = .ok (.getfield 9, 3) := by decide +kernel
theorem dX2_perform_51 : decode cX2_perform 51 = .ok (.aload_n 3, 1) := by decide +kernel
theorem dX2_perform_52 : decode cX2_perform 52 = .ok (.getfield 65, 3) := by decide +kernel
theorem dX2_perform_55 : decode cX2_perform 55 = .ok (.aload_n 0, 1) := by decide +kernel
theorem dX2_perform_56 : decode cX2_perform 56 = .ok (.getfield 18, 3) := by decide +kernel
theorem dX2_perform_59 : decode cX2_perform 59 = .ok (.iload_n 2, 1) := by decide +kernel
theorem dX2_perform_60 : decode cX2_perform 60 = .ok (.iaload, 1) := by decide +kernel
theorem dX2_perform_61 : decode cX2_perform 61 = .ok (.iastore, 1) := by decide +kernel
theorem dX2_perform_62 : decode cX2_perform 62 = .ok (.iinc 2 1, 3) := by decide +kernel
theorem dX2_perform_65 : decode cX2_perform 65 = .ok (.goto (-60), 3) := by decide +kernel
theorem dX2_perform_68 : decode cX2_perform 68 = .ok (.aload_n 1, 1) := by decide +kernel
theorem dX2_perform_69 : decode cX2_perform 69 = .ok (.getfield 70, 3) := by decide +kernel
theorem dX2_perform_72 : decode cX2_perform 72 = .ok (.ifCond .eq 14, 3) := by decide +kernel
theorem dX2_perform_75 : decode cX2_perform 75 = .ok (.aload_n 0, 1) := by decide +kernel
theorem dX2_perform_76 : decode cX2_perform 76 = .ok (.aload_n 1, 1) := by decide +kernel
theorem dX2_perform_77 : decode cX2_perform 77 = .ok (.getfield 74, 3) := by decide +kernel
theorem dX2_perform_80 : decode cX2_perform 80 = .ok (.invokevirtual 77, 3) := by decide +kernel
theorem dX2_perform_83 : decode cX2_perform 83 = .ok (.ifCond .eq 7, 3) := by decide +kernel
theorem dX2_perform_86 : decode cX2_perform 86 = .ok (.iconst 1, 1) := by decide +kernel
theorem dX2_perform_87 : decode cX2_perform 87 = .ok (.goto 4, 3) := by decide +kernel
theorem dX2_perform_90 : decode cX2_perform 90 = .ok (.iconst 0, 1) := by decide +kernel
theorem dX2_perform_91 : decode cX2_perform 91 = .ok (.istore_n 2, 1) := by decide +kernel
theorem dX2_perform_92 : decode cX2_perform 92 = .ok (.aload_n 0, 1) := by decide +kernel
theorem dX2_perform_93 : decode cX2_perform 93 = .ok (.iload_n 2, 1) := by decide +kernel
theorem dX2_perform_94 : decode cX2_perform 94 = .ok (.ifCond .eq 10, 3) := by decide +kernel
theorem dX2_perform_97 : decode cX2_perform 97 = .ok (.aload_n 1, 1) := by decide +kernel
theorem dX2_perform_98 : decode cX2_perform 98 = .ok (.getfield 81, 3) := by decide +kernel
theorem dX2_perform_101 : decode cX2_perform 101 = .ok (.goto 7, 3) := by decide +kernel
theorem dX2_perform_104 : decode cX2_perform 104 = .ok (.aload_n 1, 1) := by decide +kernel
theorem dX2_perform_105 : decode cX2_perform 105 = .ok (.getfield 84, 3) := by decide +kernel
theorem dX2_perform_108 : decode cX2_perform 108 = .ok (.putfield 31, 3) := by decide +kernel
theorem dX2_perform_111 : decode cX2_perform 111 = .ok (.return_, 1) := by decide +kernel
theorem dX2_outcome_0 : decode cX2_outcome 0 = .ok (.aload_n 0, 1) := by decide +kernel
theorem dX2_outcome_1 : decode cX2_outcome 1 = .ok (.aload_n 1, 1) := by decide +kernel
theorem dX2_outcome_2 : decode cX2_outcome 2 = .ok (.getfield 87, 3) := by decide +kernel
theorem dX2_outcome_5 : decode cX2_outcome 5 = .ok (.invokevirtual 77, 3) := by decide +kernel
theorem dX2_outcome_8 : decode cX2_outcome 8 = .ok (.istore_n 2, 1) := by decide +kernel
theorem dX2_outcome_9 : decode cX2_outcome 9 = .ok (.aload_n 0, 1) := by decide +kernel
theorem dX2_outcome_10 : decode cX2_outcome 10 = .ok (.aload_n 1, 1) := by decide +kernel
theorem dX2_outcome_11 : decode cX2_outcome 11 = .ok (.getfield 90, 3) := by decide +kernel
theorem dX2_outcome_14 : decode cX2_outcome 14 = .ok (.invokevirtual 77, 3) := by decide +kernel
theorem dX2_outcome_17 : decode cX2_outcome 17 = .ok (.istore_n 3, 1) := by decide +kernel
theorem dX2_outcome_18 : decode cX2_outcome 18 = .ok (.aload_n 1, 1) := by decide +kernel
theorem dX2_outcome_19 : decode cX2_outcome 19 = .ok (.getfield 93, 3) := by decide +kernel
theorem dX2_outcome_22 : decode cX2_outcome 22 = .ok (.lookupswitch 122 #[(1, 100), (2, 110), (42, 74), (43, 66), (45, 70), (60, 78), (61, 89)], 66) := by decide +kernel
theorem dX2_outcome_88 : decode cX2_outcome 88 = .ok (.iload_n 2, 1) := by decide +kernel
theorem dX2_outcome_89 : decode cX2_outcome 89 = .ok (.iload_n 3, 1) := by decide +kernel
theorem dX2_outcome_90 : decode cX2_outcome 90 = .ok (.iadd, 1) := by decide +kernel
theorem dX2_outcome_91 : decode cX2_outcome 91 = .ok (.ireturn, 1) := by decide +kernel
theorem dX2_outcome_92 : decode cX2_outcome 92 = .ok (.iload_n 2, 1) := by decide +kernel
theorem dX2_outcome_93 : decode cX2_outcome 93 = .ok (.iload_n 3, 1) := by decide +kernel
theorem dX2_outcome_94 : decode cX2_outcome 94 = .ok (.isub, 1) := by decide +kernel
theorem dX2_outcome_95 : decode cX2_outcome 95 = .ok (.ireturn, 1) := by decide +kernel
theorem dX2_outcome_96 : decode cX2_outcome 96 = .ok (.iload_n 2, 1) := by decide +kernel
theorem dX2_outcome_97 : decode cX2_outcome 97 = .ok (.iload_n 3, 1) := by decide +kernel
theorem dX2_outcome_98 : decode cX2_outcome 98 = .ok (.imul, 1) := by decide +kernel
theorem dX2_outcome_99 : decode cX2_outcome 99 = .ok (.ireturn, 1) := by decide +kernel
theorem dX2_outcome_100 : decode cX2_outcome 100 = .ok (.iload_n 2, 1) := by decide +kernel
theorem dX2_outcome_101 : decode cX2_outcome 101 = .ok (.iload_n 3, 1) := by decide +kernel
theorem dX2_outcome_102 : decode cX2_outcome 102 = .ok (.if_icmp .ge 7, 3) := by decide +kernel
theorem dX2_outcome_105 : decode cX2_outcome 105 = .ok (.iconst 1, 1) := by decide +kernel
theorem dX2_outcome_106 : decode cX2_outcome 106 = .ok (.goto 4, 3) := by decide +kernel
theorem dX2_outcome_109 : decode cX2_outcome 109 = .ok (.iconst 0, 1) := by decide +kernel
theorem dX2_outcome_110 : decode cX2_outcome 110 = .ok (.ireturn, 1) := by decide +kernel
theorem dX2_outcome_111 : decode cX2_outcome 111 = .ok (.iload_n 2, 1) := by decide +kernel
theorem dX2_outcome_112 : decode cX2_outcome 112 = .ok (.iload_n 3, 1) := by decide +kernel
theorem dX2_outcome_113 : decode cX2_outcome 113 = .ok (.if_icmp .ne 7, 3) := by decide +kernel
theorem dX2_outcome_116 : decode cX2_outcome 116 = .ok (.iconst 1, 1) := by decide +kernel
theorem dX2_outcome_117 : decode cX2_outcome 117 = .ok (.goto 4, 3) := by decide +kernel
theorem dX2_outcome_120 : decode cX2_outcome 120 = .ok (.iconst 0, 1) := by decide +kernel
theorem dX2_outcome_121 : decode cX2_outcome 121 = .ok (.ireturn, 1) := by decide +kernel
theorem dX2_outcome_122 : decode cX2_outcome 122 = .ok (.aload_n 0, 1) := by decide +kernel
theorem dX2_outcome_123 : decode cX2_outcome 123 = .ok (.getfield 15, 3) := by decide +kernel
theorem dX2_outcome_126 : decode cX2_outcome 126 = .ok (.iload_n 2, 1) := by decide +kernel
theorem dX2_outcome_127 : decode cX2_outcome 127 = .ok (.bipush 15, 2) := by decide +kernel
theorem dX2_outcome_129 : decode cX2_outcome 129 = .ok (.iand, 1) := by decide +kernel
theorem dX2_outcome_130 : decode cX2_outcome 130 = .ok (.iaload, 1) := by decide +kernel
theorem dX2_outcome_131 : decode cX2_outcome 131 = .ok (.ireturn, 1) := by decide +kernel
theorem dX2_outcome_132 : decode cX2_outcome 132 = .ok (.aload_n 0, 1) := by decide +kernel
theorem dX2_outcome_133 : decode cX2_outcome 133 = .ok (.getfield 15, 3) := by decide +kernel
theorem dX2_outcome_136 : decode cX2_outcome 136 = .ok (.iload_n 2, 1) := by decide +kernel
theorem dX2_outcome_137 : decode cX2_outcome 137 = .ok (.bipush 15, 2) := by decide +kernel
theorem dX2_outcome_139 : decode cX2_outcome 139 = .ok (.iand, 1) := by decide +kernel
theorem dX2_outcome_140 : decode cX2_outcome 140 = .ok (.iload_n 3, 1) := by decide +kernel
theorem dX2_outcome_141 : decode cX2_outcome 141 = .ok (.iastore, 1) := by decide +kernel
theorem dX2_outcome_142 : decode cX2_outcome 142 = .ok (.iload_n 3, 1) := by decide +kernel
theorem dX2_outcome_143 : decode cX2_outcome 143 = .ok (.ireturn, 1) := by decide +kernel
theorem dX2_outcome_144 : decode cX2_outcome 144 = .ok (.iload_n 2, 1) := by decide +kernel
theorem dX2_outcome_145 : decode cX2_outcome 145 = .ok (.ireturn, 1) := by decide +kernel
theorem dX2_taken_0 : decode cX2_taken 0 = .ok (.iload_n 1, 1) := by decide +kernel
theorem dX2_taken_1 : decode cX2_taken 1 = .ok (.invokestatic 96, 3) := by decide +kernel
theorem dX2_taken_4 : decode cX2_taken 4 = .ok (.ifCond .eq 5, 3) := by decide +kernel
theorem dX2_taken_7 : decode cX2_taken 7 = .ok (.iload_n 1, 1) := by decide +kernel
theorem dX2_taken_8 : decode cX2_taken 8 = .ok (.ireturn, 1) := by decide +kernel
theorem dX2_taken_9 : decode cX2_taken 9 = .ok (.iload_n 1, 1) := by decide +kernel
theorem dX2_taken_10 : decode cX2_taken 10 = .ok (.invokestatic 102, 3) := by decide +kernel
theorem dX2_taken_13 : decode cX2_taken 13 = .ok (.ifCond .eq 15, 3) := by decide +kernel
theorem dX2_taken_16 : decode cX2_taken 16 = .ok (.aload_n 0, 1) := by decide +kernel
theorem dX2_taken_17 : decode cX2_taken 17 = .ok (.getfield 18, 3) := by decide +kernel
theorem dX2_taken_20 : decode cX2_taken 20 = .ok (.iload_n 1, 1) := by decide +kernel
theorem dX2_taken_21 : decode cX2_taken 21 = .ok (.invokestatic 105, 3) := by decide +kernel
theorem dX2_taken_24 : decode cX2_taken 24 = .ok (.iaload, 1) := by decide +kernel
theorem dX2_taken_25 : decode cX2_taken 25 = .ok (.goto 12, 3) := by decide +kernel
theorem dX2_taken_28 : decode cX2_taken 28 = .ok (.aload_n 0, 1) := by decide +kernel
theorem dX2_taken_29 : decode cX2_taken 29 = .ok (.getfield 9, 3) := by decide +kernel
theorem dX2_taken_32 : decode cX2_taken 32 = .ok (.iload_n 1, 1) := by decide +kernel
theorem dX2_taken_33 : decode cX2_taken 33 = .ok (.invokestatic 108, 3) := by decide +kernel
theorem dX2_taken_36 : decode cX2_taken 36 = .ok (.iaload, 1) := by decide +kernel
theorem dX2_taken_37 : decode cX2_taken 37 = .ok (.ireturn, 1) := by decide +kernel
theorem dX3_ofVariable_0 : decode cX3_ofVariable 0 = .ok (.iconst (-1), 1) := by decide +kernel
theorem dX3_ofVariable_1 : decode cX3_ofVariable 1 = .ok (.iload_n 0, 1) := by decide +kernel
theorem dX3_ofVariable_2 : decode cX3_ofVariable 2 = .ok (.isub, 1) := by decide +kernel
theorem dX3_ofVariable_3 : decode cX3_ofVariable 3 = .ok (.ireturn, 1) := by decide +kernel
theorem dX3_ofValue_0 : decode cX3_ofValue 0 = .ok (.bipush (-9), 2) := by decide +kernel
theorem dX3_ofValue_2 : decode cX3_ofValue 2 = .ok (.iload_n 0, 1) := by decide +kernel
theorem dX3_ofValue_3 : decode cX3_ofValue 3 = .ok (.isub, 1) := by decide +kernel
theorem dX3_ofValue_4 : decode cX3_ofValue 4 = .ok (.ireturn, 1) := by decide +kernel
theorem dX3_isNumber_0 : decode cX3_isNumber 0 = .ok (.iload_n 0, 1) := by decide +kernel
theorem dX3_isNumber_1 : decode cX3_isNumber 1 = .ok (.ifCond .lt 7, 3) := by decide +kernel
theorem dX3_isNumber_4 : decode cX3_isNumber 4 = .ok (.iconst 1, 1) := by decide +kernel
theorem dX3_isNumber_5 : decode cX3_isNumber 5 = .ok (.goto 4, 3) := by decide +kernel
theorem dX3_isNumber_8 : decode cX3_isNumber 8 = .ok (.iconst 0, 1) := by decide +kernel
theorem dX3_isNumber_9 : decode cX3_isNumber 9 = .ok (.ireturn, 1) := by decide +kernel
theorem dX3_isValue_0 : decode cX3_isValue 0 = .ok (.iload_n 0, 1) := by decide +kernel
theorem dX3_isValue_1 : decode cX3_isValue 1 = .ok (.bipush (-9), 2) := by decide +kernel
theorem dX3_isValue_3 : decode cX3_isValue 3 = .ok (.if_icmp .gt 14, 3) := by decide +kernel
theorem dX3_isValue_6 : decode cX3_isValue 6 = .ok (.iload_n 0, 1) := by decide +kernel
theorem dX3_isValue_7 : decode cX3_isValue 7 = .ok (.sipush (-209), 3) := by decide +kernel
theorem dX3_isValue_10 : decode cX3_isValue 10 = .ok (.if_icmp .le 7, 3) := by decide +kernel
theorem dX3_isValue_13 : decode cX3_isValue 13 = .ok (.iconst 1, 1) := by decide +kernel
theorem dX3_isValue_14 : decode cX3_isValue 14 = .ok (.goto 4, 3) := by decide +kernel
theorem dX3_isValue_17 : decode cX3_isValue 17 = .ok (.iconst 0, 1) := by decide +kernel
theorem dX3_isValue_18 : decode cX3_isValue 18 = .ok (.ireturn, 1) := by decide +kernel
theorem dX3_variableOf_0 : decode cX3_variableOf 0 = .ok (.iconst (-1), 1) := by decide +kernel
theorem dX3_variableOf_1 : decode cX3_variableOf 1 = .ok (.iload_n 0, 1) := by decide +kernel
theorem dX3_variableOf_2 : decode cX3_variableOf 2 = .ok (.isub, 1) := by decide +kernel
theorem dX3_variableOf_3 : decode cX3_variableOf 3 = .ok (.ireturn, 1) := by decide +kernel
theorem dX3_operationOf_0 : decode cX3_operationOf 0 = .ok (.bipush (-9), 2) := by decide +kernel
theorem dX3_operationOf_2 : decode cX3_operationOf 2 = .ok (.iload_n 0, 1) := by decide +kernel
theorem dX3_operationOf_3 : decode cX3_operationOf 3 = .ok (.isub, 1) := by decide +kernel
theorem dX3_operationOf_4 : decode cX3_operationOf 4 = .ok (.ireturn, 1) := by decide +kernel
theorem dX4_init_0 : decode cX4_init 0 = .ok (.aload_n 0, 1) := by decide +kernel
theorem dX4_init_1 : decode cX4_init 1 = .ok (.invokespecial 3, 3) := by decide +kernel
theorem dX4_init_4 : decode cX4_init 4 = .ok (.return_, 1) := by decide +kernel
theorem dX4_become_0 : decode cX4_become 0 = .ok (.aload_n 0, 1) := by decide +kernel
theorem dX4_become_1 : decode cX4_become 1 = .ok (.iload_n 1, 1) := by decide +kernel
theorem dX4_become_2 : decode cX4_become 2 = .ok (.putfield 9, 3) := by decide +kernel
theorem dX4_become_5 : decode cX4_become 5 = .ok (.aload_n 0, 1) := by decide +kernel
theorem dX4_become_6 : decode cX4_become 6 = .ok (.iload_n 2, 1) := by decide +kernel
theorem dX4_become_7 : decode cX4_become 7 = .ok (.putfield 15, 3) := by decide +kernel
theorem dX4_become_10 : decode cX4_become 10 = .ok (.aload_n 0, 1) := by decide +kernel
theorem dX4_become_11 : decode cX4_become 11 = .ok (.iload_n 3, 1) := by decide +kernel
theorem dX4_become_12 : decode cX4_become 12 = .ok (.putfield 18, 3) := by decide +kernel
theorem dX4_become_15 : decode cX4_become 15 = .ok (.aload_n 0, 1) := by decide +kernel
theorem dX4_become_16 : decode cX4_become 16 = .ok (.iload_n 1, 1) := by decide +kernel
theorem dX4_become_17 : decode cX4_become 17 = .ok (.invokestatic 21, 3) := by decide +kernel
theorem dX4_become_20 : decode cX4_become 20 = .ok (.putfield 25, 3) := by decide +kernel
theorem dX4_become_23 : decode cX4_become 23 = .ok (.aload_n 0, 1) := by decide +kernel
theorem dX4_become_24 : decode cX4_become 24 = .ok (.iconst (-1), 1) := by decide +kernel
theorem dX4_become_25 : decode cX4_become 25 = .ok (.putfield 28, 3) := by decide +kernel
theorem dX4_become_28 : decode cX4_become 28 = .ok (.return_, 1) := by decide +kernel
theorem dX4_hasBegun_0 : decode cX4_hasBegun 0 = .ok (.aload_n 0, 1) := by decide +kernel
theorem dX4_hasBegun_1 : decode cX4_hasBegun 1 = .ok (.getfield 31, 3) := by decide +kernel
theorem dX4_hasBegun_4 : decode cX4_hasBegun 4 = .ok (.iconst (-1), 1) := by decide +kernel
theorem dX4_hasBegun_5 : decode cX4_hasBegun 5 = .ok (.if_icmp .eq 7, 3) := by decide +kernel
theorem dX4_hasBegun_8 : decode cX4_hasBegun 8 = .ok (.iconst 1, 1) := by decide +kernel
theorem dX4_hasBegun_9 : decode cX4_hasBegun 9 = .ok (.goto 4, 3) := by decide +kernel
theorem dX4_hasBegun_12 : decode cX4_hasBegun 12 = .ok (.iconst 0, 1) := by decide +kernel
theorem dX4_hasBegun_13 : decode cX4_hasBegun 13 = .ok (.ireturn, 1) := by decide +kernel
theorem dX4_end_0 : decode cX4_end 0 = .ok (.aload_n 0, 1) := by decide +kernel
theorem dX4_end_1 : decode cX4_end 1 = .ok (.getfield 31, 3) := by decide +kernel
theorem dX4_end_4 : decode cX4_end 4 = .ok (.aload_n 0, 1) := by decide +kernel
theorem dX4_end_5 : decode cX4_end 5 = .ok (.getfield 34, 3) := by decide +kernel
theorem dX4_end_8 : decode cX4_end 8 = .ok (.iadd, 1) := by decide +kernel
theorem dX4_end_9 : decode cX4_end 9 = .ok (.ireturn, 1) := by decide +kernel
theorem dX4_fillsRegister_0 : decode cX4_fillsRegister 0 = .ok (.aload_n 0, 1) := by decide +kernel
theorem dX4_fillsRegister_1 : decode cX4_fillsRegister 1 = .ok (.getfield 28, 3) := by decide +kernel
theorem dX4_fillsRegister_4 : decode cX4_fillsRegister 4 = .ok (.iconst (-1), 1) := by decide +kernel
theorem dX4_fillsRegister_5 : decode cX4_fillsRegister 5 = .ok (.if_icmp .ne 15, 3) := by decide +kernel
theorem dX4_fillsRegister_8 : decode cX4_fillsRegister 8 = .ok (.aload_n 0, 1) := by decide +kernel
theorem dX4_fillsRegister_9 : decode cX4_fillsRegister 9 = .ok (.getfield 9, 3) := by decide +kernel
theorem dX4_fillsRegister_12 : decode cX4_fillsRegister 12 = .ok (.iconst 2, 1) := by decide +kernel
theorem dX4_fillsRegister_13 : decode cX4_fillsRegister 13 = .ok (.if_icmp .eq 7, 3) := by decide +kernel
theorem dX4_fillsRegister_16 : decode cX4_fillsRegister 16 = .ok (.iconst 1, 1) := by decide +kernel
theorem dX4_fillsRegister_17 : decode cX4_fillsRegister 17 = .ok (.goto 4, 3) := by decide +kernel
theorem dX4_fillsRegister_20 : decode cX4_fillsRegister 20 = .ok (.iconst 0, 1) := by decide +kernel
theorem dX4_fillsRegister_21 : decode cX4_fillsRegister 21 = .ok (.ireturn, 1) := by decide +kernel
theorem dX4_comesBehind_0 : decode cX4_comesBehind 0 = .ok (.aload_n 0, 1) := by decide +kernel
theorem dX4_comesBehind_1 : decode cX4_comesBehind 1 = .ok (.aload_n 1, 1) := by decide +kernel
theorem dX4_comesBehind_2 : decode cX4_comesBehind 2 = .ok (.getfield 37, 3) := by decide +kernel
theorem dX4_comesBehind_5 : decode cX4_comesBehind 5 = .ok (.invokestatic 40, 3) := by decide +kernel
theorem dX4_comesBehind_8 : decode cX4_comesBehind 8 = .ok (.invokevirtual 45, 3) := by decide +kernel
theorem dX4_comesBehind_11 : decode cX4_comesBehind 11 = .ok (.ifCond .ne 51, 3) := by decide +kernel
theorem dX4_comesBehind_14 : decode cX4_comesBehind 14 = .ok (.aload_n 0, 1) := by decide +kernel
theorem dX4_comesBehind_15 : decode cX4_comesBehind 15 = .ok (.aload_n 1, 1) := by decide +kernel
theorem dX4_comesBehind_16 : decode cX4_comesBehind 16 = .ok (.invokevirtual 49, 3) := by decide +kernel
theorem dX4_comesBehind_19 : decode cX4_comesBehind 19 = .ok (.ifCond .ne 43, 3) := by decide +kernel
theorem dX4_comesBehind_22 : decode cX4_comesBehind 22 = .ok (.aload_n 1, 1) := by decide +kernel
theorem dX4_comesBehind_23 : decode cX4_comesBehind 23 = .ok (.aload_n 0, 1) := by decide +kernel
theorem dX4_comesBehind_24 : decode cX4_comesBehind 24 = .ok (.invokevirtual 53, 3) := by decide +kernel
theorem dX4_comesBehind_27 : decode cX4_comesBehind 27 = .ok (.ifCond .ne 35, 3) := by decide +kernel
theorem dX4_comesBehind_30 : decode cX4_comesBehind 30 = .ok (.aload_n 0, 1) := by decide +kernel
theorem dX4_comesBehind_31 : decode cX4_comesBehind 31 = .ok (.getfield 9, 3) := by decide +kernel
theorem dX4_comesBehind_34 : decode cX4_comesBehind 34 = .ok (.iconst 2, 1) := by decide +kernel
theorem dX4_comesBehind_35 : decode cX4_comesBehind 35 = .ok (.if_icmp .ne 11, 3) := by decide +kernel
theorem dX4_comesBehind_38 : decode cX4_comesBehind 38 = .ok (.aload_n 1, 1) := by decide +kernel
theorem dX4_comesBehind_39 : decode cX4_comesBehind 39 = .ok (.getfield 25, 3) := by decide +kernel
theorem dX4_comesBehind_42 : decode cX4_comesBehind 42 = .ok (.iconst 2, 1) := by decide +kernel
theorem dX4_comesBehind_43 : decode cX4_comesBehind 43 = .ok (.if_icmp .eq 19, 3) := by decide +kernel
theorem dX4_comesBehind_46 : decode cX4_comesBehind 46 = .ok (.aload_n 1, 1) := by decide +kernel
theorem dX4_comesBehind_47 : decode cX4_comesBehind 47 = .ok (.getfield 9, 3) := by decide +kernel
theorem dX4_comesBehind_50 : decode cX4_comesBehind 50 = .ok (.iconst 2, 1) := by decide +kernel
theorem dX4_comesBehind_51 : decode cX4_comesBehind 51 = .ok (.if_icmp .ne 15, 3) := by decide +kernel
theorem dX4_comesBehind_54 : decode cX4_comesBehind 54 = .ok (.aload_n 0, 1) := by decide +kernel
theorem dX4_comesBehind_55 : decode cX4_comesBehind 55 = .ok (.getfield 25, 3) := by decide +kernel
theorem dX4_comesBehind_58 : decode cX4_comesBehind 58 = .ok (.iconst 2, 1) := by decide +kernel
theorem dX4_comesBehind_59 : decode cX4_comesBehind 59 = .ok (.if_icmp .ne 7, 3) := by decide +kernel
theorem dX4_comesBehind_62 : decode cX4_comesBehind 62 = .ok (.iconst 1, 1) := by decide +kernel
theorem dX4_comesBehind_63 : decode cX4_comesBehind 63 = .ok (.goto 4, 3) := by decide +kernel
theorem dX4_comesBehind_66 : decode cX4_comesBehind 66 = .ok (.iconst 0, 1) := by decide +kernel
theorem dX4_comesBehind_67 : decode cX4_comesBehind 67 = .ok (.ireturn, 1) := by decide +kernel
theorem dX4_touchesGiven_0 : decode cX4_touchesGiven 0 = .ok (.aload_n 0, 1) := by decide +kernel
theorem dX4_touchesGiven_1 : decode cX4_touchesGiven 1 = .ok (.aload_n 1, 1) := by decide +kernel
theorem dX4_touchesGiven_2 : decode cX4_touchesGiven 2 = .ok (.invokevirtual 53, 3) := by decide +kernel
theorem dX4_touchesGiven_5 : decode cX4_touchesGiven 5 = .ok (.ifCond .ne 22, 3) := by decide +kernel
theorem dX4_touchesGiven_8 : decode cX4_touchesGiven 8 = .ok (.aload_n 0, 1) := by decide +kernel
theorem dX4_touchesGiven_9 : decode cX4_touchesGiven 9 = .ok (.getfield 28, 3) := by decide +kernel
theorem dX4_touchesGiven_12 : decode cX4_touchesGiven 12 = .ok (.iconst (-1), 1) := by decide +kernel
theorem dX4_touchesGiven_13 : decode cX4_touchesGiven 13 = .ok (.if_icmp .eq 18, 3) := by decide +kernel
theorem dX4_touchesGiven_16 : decode cX4_touchesGiven 16 = .ok (.aload_n 0, 1) := by decide +kernel
theorem dX4_touchesGiven_17 : decode cX4_touchesGiven 17 = .ok (.getfield 28, 3) := by decide +kernel
theorem dX4_touchesGiven_20 : decode cX4_touchesGiven 20 = .ok (.aload_n 1, 1) := by decide +kernel
theorem dX4_touchesGiven_21 : decode cX4_touchesGiven 21 = .ok (.getfield 28, 3) := by decide +kernel
theorem dX4_touchesGiven_24 : decode cX4_touchesGiven 24 = .ok (.if_icmp .ne 7, 3) := by decide +kernel
theorem dX4_touchesGiven_27 : decode cX4_touchesGiven 27 = .ok (.iconst 1, 1) := by decide +kernel
theorem dX4_touchesGiven_28 : decode cX4_touchesGiven 28 = .ok (.goto 4, 3) := by decide +kernel
theorem dX4_touchesGiven_31 : decode cX4_touchesGiven 31 = .ok (.iconst 0, 1) := by decide +kernel
theorem dX4_touchesGiven_32 : decode cX4_touchesGiven 32 = .ok (.ireturn, 1) := by decide +kernel
theorem dX4_usesGiven_0 : decode cX4_usesGiven 0 = .ok (.aload_n 1, 1) := by decide +kernel
theorem dX4_usesGiven_1 : decode cX4_usesGiven 1 = .ok (.getfield 28, 3) := by decide +kernel
theorem dX4_usesGiven_4 : decode cX4_usesGiven 4 = .ok (.iconst (-1), 1) := by decide +kernel
theorem dX4_usesGiven_5 : decode cX4_usesGiven 5 = .ok (.if_icmp .eq 21, 3) := by decide +kernel
theorem dX4_usesGiven_8 : decode cX4_usesGiven 8 = .ok (.aload_n 0, 1) := by decide +kernel
theorem dX4_usesGiven_9 : decode cX4_usesGiven 9 = .ok (.aload_n 1, 1) := by decide +kernel
theorem dX4_usesGiven_10 : decode cX4_usesGiven 10 = .ok (.getfield 28, 3) := by decide +kernel
theorem dX4_usesGiven_13 : decode cX4_usesGiven 13 = .ok (.invokestatic 56, 3) := by decide +kernel
theorem dX4_usesGiven_16 : decode cX4_usesGiven 16 = .ok (.invokevirtual 45, 3) := by decide +kernel
theorem dX4_usesGiven_19 : decode cX4_usesGiven 19 = .ok (.ifCond .eq 7, 3) := by decide +kernel
theorem dX4_usesGiven_22 : decode cX4_usesGiven 22 = .ok (.iconst 1, 1) := by decide +kernel
theorem dX4_usesGiven_23 : decode cX4_usesGiven 23 = .ok (.goto 4, 3) := by decide +kernel
theorem dX4_usesGiven_26 : decode cX4_usesGiven 26 = .ok (.iconst 0, 1) := by decide +kernel
theorem dX4_usesGiven_27 : decode cX4_usesGiven 27 = .ok (.ireturn, 1) := by decide +kernel
theorem dX4_uses_0 : decode cX4_uses 0 = .ok (.aload_n 0, 1) := by decide +kernel
theorem dX4_uses_1 : decode cX4_uses 1 = .ok (.getfield 15, 3) := by decide +kernel
theorem dX4_uses_4 : decode cX4_uses 4 = .ok (.iload_n 1, 1) := by decide +kernel
theorem dX4_uses_5 : decode cX4_uses 5 = .ok (.if_icmp .eq 11, 3) := by decide +kernel
theorem dX4_uses_8 : decode cX4_uses 8 = .ok (.aload_n 0, 1) := by decide +kernel
theorem dX4_uses_9 : decode cX4_uses 9 = .ok (.getfield 18, 3) := by decide +kernel
theorem dX4_uses_12 : decode cX4_uses 12 = .ok (.iload_n 1, 1) := by decide +kernel
theorem dX4_uses_13 : decode cX4_uses 13 = .ok (.if_icmp .ne 7, 3) := by decide +kernel
theorem dX4_uses_16 : decode cX4_uses 16 = .ok (.iconst 1, 1) := by decide +kernel
theorem dX4_uses_17 : decode cX4_uses 17 = .ok (.goto 4, 3) := by decide +kernel
theorem dX4_uses_20 : decode cX4_uses 20 = .ok (.iconst 0, 1) := by decide +kernel
theorem dX4_uses_21 : decode cX4_uses 21 = .ok (.ireturn, 1) := by decide +kernel
theorem dX4_kindOf_0 : decode cX4_kindOf 0 = .ok (.iload_n 0, 1) := by decide +kernel
theorem dX4_kindOf_1 : decode cX4_kindOf 1 = .ok (.lookupswitch 49 #[(1, 45), (2, 45), (3, 47), (42, 43)], 43) := by decide +kernel
theorem dX4_kindOf_44 : decode cX4_kindOf 44 = .ok (.iconst 1, 1) := by decide +kernel
theorem dX4_kindOf_45 : decode cX4_kindOf 45 = .ok (.ireturn, 1) := by decide +kernel
theorem dX4_kindOf_46 : decode cX4_kindOf 46 = .ok (.iconst 2, 1) := by decide +kernel
theorem dX4_kindOf_47 : decode cX4_kindOf 47 = .ok (.ireturn, 1) := by decide +kernel
theorem dX4_kindOf_48 : decode cX4_kindOf 48 = .ok (.iconst 3, 1) := by decide +kernel
theorem dX4_kindOf_49 : decode cX4_kindOf 49 = .ok (.ireturn, 1) := by decide +kernel
theorem dX4_kindOf_50 : decode cX4_kindOf 50 = .ok (.iconst 0, 1) := by decide +kernel
theorem dX4_kindOf_51 : decode cX4_kindOf 51 = .ok (.ireturn, 1) := by decide +kernel
theorem dX5_init_0 : decode cX5_init 0 = .ok (.aload_n 0, 1) := by decide +kernel
theorem dX5_init_1 : decode cX5_init 1 = .ok (.invokespecial 3, 3) := by decide +kernel
theorem dX5_init_4 : decode cX5_init 4 = .ok (.aload_n 0, 1) := by decide +kernel
theorem dX5_init_5 : decode cX5_init 5 = .ok (.sipush 200, 3) := by decide +kernel
theorem dX5_init_8 : decode cX5_init 8 = .ok (.anewarray 9, 3) := by decide +kernel
theorem dX5_init_11 : decode cX5_init 11 = .ok (.putfield 11, 3) := by decide +kernel
theorem dX5_init_14 : decode cX5_init 14 = .ok (.iconst 0, 1) := by decide +kernel
theorem dX5_init_15 : decode cX5_init 15 = .ok (.istore_n 1, 1) := by decide +kernel
theorem dX5_init_16 : decode cX5_init 16 = .ok (.iload_n 1, 1) := by decide +kernel
theorem dX5_init_17 : decode cX5_init 17 = .ok (.sipush 200, 3) := by decide +kernel
theorem dX5_init_20 : decode cX5_init 20 = .ok (.if_icmp .ge 32, 3) := by decide +kernel
theorem dX5_init_23 : decode cX5_init 23 = .ok (.aload_n 0, 1) := by decide +kernel
theorem dX5_init_24 : decode cX5_init 24 = .ok (.getfield 11, 3) := by decide +kernel
theorem dX5_init_27 : decode cX5_init 27 = .ok (.iload_n 1, 1) := by decide +kernel
theorem dX5_init_28 : decode cX5_init 28 = .ok (.new 9, 3) := by decide +kernel
theorem dX5_init_31 : decode cX5_init 31 = .ok (.dup, 1) := by decide +kernel
theorem dX5_init_32 : decode cX5_init 32 = .ok (.invokespecial 17, 3) := by decide +kernel
theorem dX5_init_35 : decode cX5_init 35 = .ok (.aastore, 1) := by decide +kernel
theorem dX5_init_36 : decode cX5_init 36 = .ok (.aload_n 0, 1) := by decide +kernel
theorem dX5_init_37 : decode cX5_init 37 = .ok (.getfield 11, 3) := by decide +kernel
theorem dX5_init_40 : decode cX5_init 40 = .ok (.iload_n 1, 1) := by decide +kernel
theorem dX5_init_41 : decode cX5_init 41 = .ok (.aaload, 1) := by decide +kernel
theorem dX5_init_42 : decode cX5_init 42 = .ok (.iload_n 1, 1) := by decide +kernel
theorem dX5_init_43 : decode cX5_init 43 = .ok (.putfield 18, 3) := by decide +kernel
theorem dX5_init_46 : decode cX5_init 46 = .ok (.iinc 1 1, 3) := by decide +kernel
theorem dX5_init_49 : decode cX5_init 49 = .ok (.goto (-33), 3) := by decide +kernel
theorem dX5_init_52 : decode cX5_init 52 = .ok (.aload_n 0, 1) := by decide +kernel
theorem dX5_init_53 : decode cX5_init 53 = .ok (.sipush 175, 3) := by decide +kernel
theorem dX5_init_56 : decode cX5_init 56 = .ok (.anewarray 22, 3) := by decide +kernel
theorem dX5_init_59 : decode cX5_init 59 = .ok (.putfield 24, 3) := by decide +kernel
theorem dX5_init_62 : decode cX5_init 62 = .ok (.iconst 0, 1) := by decide +kernel
theorem dX5_init_63 : decode cX5_init 63 = .ok (.istore_n 1, 1) := by decide +kernel
theorem dX5_init_64 : decode cX5_init 64 = .ok (.iload_n 1, 1) := by decide +kernel
theorem dX5_init_65 : decode cX5_init 65 = .ok (.sipush 175, 3) := by decide +kernel
theorem dX5_init_68 : decode cX5_init 68 = .ok (.if_icmp .ge 22, 3) := by decide +kernel
theorem dX5_init_71 : decode cX5_init 71 = .ok (.aload_n 0, 1) := by decide +kernel
theorem dX5_init_72 : decode cX5_init 72 = .ok (.getfield 24, 3) := by decide +kernel
theorem dX5_init_75 : decode cX5_init 75 = .ok (.iload_n 1, 1) := by decide +kernel
theorem dX5_init_76 : decode cX5_init 76 = .ok (.new 22, 3) := by decide +kernel
theorem dX5_init_79 : decode cX5_init 79 = .ok (.dup, 1) := by decide +kernel
theorem dX5_init_80 : decode cX5_init 80 = .ok (.invokespecial 28, 3) := by decide +kernel
theorem dX5_init_83 : decode cX5_init 83 = .ok (.aastore, 1) := by decide +kernel
theorem dX5_init_84 : decode cX5_init 84 = .ok (.iinc 1 1, 3) := by decide +kernel
theorem dX5_init_87 : decode cX5_init 87 = .ok (.goto (-23), 3) := by decide +kernel
theorem dX5_init_90 : decode cX5_init 90 = .ok (.return_, 1) := by decide +kernel
theorem dX5_clear_0 : decode cX5_clear 0 = .ok (.aload_n 0, 1) := by decide +kernel
theorem dX5_clear_1 : decode cX5_clear 1 = .ok (.iconst 0, 1) := by decide +kernel
theorem dX5_clear_2 : decode cX5_clear 2 = .ok (.putfield 29, 3) := by decide +kernel
theorem dX5_clear_5 : decode cX5_clear 5 = .ok (.aload_n 0, 1) := by decide +kernel
theorem dX5_clear_6 : decode cX5_clear 6 = .ok (.iconst 0, 1) := by decide +kernel
theorem dX5_clear_7 : decode cX5_clear 7 = .ok (.putfield 32, 3) := by decide +kernel
theorem dX5_clear_10 : decode cX5_clear 10 = .ok (.return_, 1) := by decide +kernel
theorem dX5_isFull_0 : decode cX5_isFull 0 = .ok (.aload_n 0, 1) := by decide +kernel
theorem dX5_isFull_1 : decode cX5_isFull 1 = .ok (.getfield 29, 3) := by decide +kernel
theorem dX5_isFull_4 : decode cX5_isFull 4 = .ok (.sipush 200, 3) := by decide +kernel
theorem dX5_isFull_7 : decode cX5_isFull 7 = .ok (.if_icmp .ne 7, 3) := by decide +kernel
theorem dX5_isFull_10 : decode cX5_isFull 10 = .ok (.iconst 1, 1) := by decide +kernel
theorem dX5_isFull_11 : decode cX5_isFull 11 = .ok (.goto 4, 3) := by decide +kernel
theorem dX5_isFull_14 : decode cX5_isFull 14 = .ok (.iconst 0, 1) := by decide +kernel
theorem dX5_isFull_15 : decode cX5_isFull 15 = .ok (.ireturn, 1) := by decide +kernel
theorem dX5_addBlock_0 : decode cX5_addBlock 0 = .ok (.aload_n 0, 1) := by decide +kernel
theorem dX5_addBlock_1 : decode cX5_addBlock 1 = .ok (.getfield 24, 3) := by decide +kernel
theorem dX5_addBlock_4 : decode cX5_addBlock 4 = .ok (.aload_n 0, 1) := by decide +kernel
theorem dX5_addBlock_5 : decode cX5_addBlock 5 = .ok (.getfield 32, 3) := by decide +kernel
theorem dX5_addBlock_8 : decode cX5_addBlock 8 = .ok (.aaload, 1) := by decide +kernel
theorem dX5_addBlock_9 : decode cX5_addBlock 9 = .ok (.astore_n 1, 1) := by decide +kernel
theorem dX5_addBlock_10 : decode cX5_addBlock 10 = .ok (.aload_n 1, 1) := by decide +kernel
theorem dX5_addBlock_11 : decode cX5_addBlock 11 = .ok (.aload_n 0, 1) := by decide +kernel
theorem dX5_addBlock_12 : decode cX5_addBlock 12 = .ok (.getfield 29, 3) := by decide +kernel
theorem dX5_addBlock_15 : decode cX5_addBlock 15 = .ok (.invokevirtual 35, 3) := by decide +kernel
theorem dX5_addBlock_18 : decode cX5_addBlock 18 = .ok (.aload_n 0, 1) := by decide +kernel
theorem dX5_addBlock_19 : decode cX5_addBlock 19 = .ok (.dup, 1) := by decide +kernel
theorem dX5_addBlock_20 : decode cX5_addBlock 20 = .ok (.getfield 32, 3) := by decide +kernel
theorem dX5_addBlock_23 : decode cX5_addBlock 23 = .ok (.iconst 1, 1) := by decide +kernel
theorem dX5_addBlock_24 : decode cX5_addBlock 24 = .ok (.iadd, 1) := by decide +kernel
theorem dX5_addBlock_25 : decode cX5_addBlock 25 = .ok (.putfield 32, 3) := by decide +kernel
theorem dX5_addBlock_28 : decode cX5_addBlock 28 = .ok (.aload_n 1, 1) := by decide +kernel
theorem dX5_addBlock_29 : decode cX5_addBlock 29 = .ok (.areturn, 1) := by decide +kernel
theorem dX5_addOperation_0 : decode cX5_addOperation 0 = .ok (.aload_n 0, 1) := by decide +kernel
theorem dX5_addOperation_1 : decode cX5_addOperation 1 = .ok (.getfield 11, 3) := by decide +kernel
theorem dX5_addOperation_4 : decode cX5_addOperation 4 = .ok (.aload_n 0, 1) := by decide +kernel
theorem dX5_addOperation_5 : decode cX5_addOperation 5 = .ok (.getfield 29, 3) := by decide +kernel
theorem dX5_addOperation_8 : decode cX5_addOperation 8 = .ok (.aaload, 1) := by decide +kernel
theorem dX5_addOperation_9 : decode cX5_addOperation 9 = .ok (.astore 4, 2) := by decide +kernel
theorem dX5_addOperation_11 : decode cX5_addOperation 11 = .ok (.aload 4, 2) := by decide +kernel
theorem dX5_addOperation_13 : decode cX5_addOperation 13 = .ok (.iload_n 1, 1) := by decide +kernel
theorem dX5_addOperation_14 : decode cX5_addOperation 14 = .ok (.iload_n 2, 1) := by decide +kernel
theorem dX5_addOperation_15 : decode cX5_addOperation 15 = .ok (.iload_n 3, 1) := by decide +kernel
theorem dX5_addOperation_16 : decode cX5_addOperation 16 = .ok (.invokevirtual 39, 3) := by decide +kernel
theorem dX5_addOperation_19 : decode cX5_addOperation 19 = .ok (.aload 4, 2) := by decide +kernel
theorem dX5_addOperation_21 : decode cX5_addOperation 21 = .ok (.aload_n 0, 1) := by decide +kernel
theorem dX5_addOperation_22 : decode cX5_addOperation 22 = .ok (.getfield 32, 3) := by decide +kernel
theorem dX5_addOperation_25 : decode cX5_addOperation 25 = .ok (.iconst 1, 1) := by decide +kernel
theorem dX5_addOperation_26 : decode cX5_addOperation 26 = .ok (.isub, 1) := by decide +kernel
theorem dX5_addOperation_27 : decode cX5_addOperation 27 = .ok (.putfield 42, 3) := by decide +kernel
theorem dX5_addOperation_30 : decode cX5_addOperation 30 = .ok (.aload_n 0, 1) := by decide +kernel
theorem dX5_addOperation_31 : decode cX5_addOperation 31 = .ok (.getfield 24, 3) := by decide +kernel
theorem dX5_addOperation_34 : decode cX5_addOperation 34 = .ok (.aload_n 0, 1) := by decide +kernel
theorem dX5_addOperation_35 : decode cX5_addOperation 35 = .ok (.getfield 32, 3) := by decide +kernel
theorem dX5_addOperation_38 : decode cX5_addOperation 38 = .ok (.iconst 1, 1) := by decide +kernel
theorem dX5_addOperation_39 : decode cX5_addOperation 39 = .ok (.isub, 1) := by decide +kernel
theorem dX5_addOperation_40 : decode cX5_addOperation 40 = .ok (.aaload, 1) := by decide +kernel
theorem dX5_addOperation_41 : decode cX5_addOperation 41 = .ok (.dup, 1) := by decide +kernel
theorem dX5_addOperation_42 : decode cX5_addOperation 42 = .ok (.getfield 44, 3) := by decide +kernel
theorem dX5_addOperation_45 : decode cX5_addOperation 45 = .ok (.iconst 1, 1) := by decide +kernel
theorem dX5_addOperation_46 : decode cX5_addOperation 46 = .ok (.iadd, 1) := by decide +kernel
theorem dX5_addOperation_47 : decode cX5_addOperation 47 = .ok (.putfield 44, 3) := by decide +kernel
theorem dX5_addOperation_50 : decode cX5_addOperation 50 = .ok (.aload_n 0, 1) := by decide +kernel
theorem dX5_addOperation_51 : decode cX5_addOperation 51 = .ok (.dup, 1) := by decide +kernel
theorem dX5_addOperation_52 : decode cX5_addOperation 52 = .ok (.getfield 29, 3) := by decide +kernel
theorem dX5_addOperation_55 : decode cX5_addOperation 55 = .ok (.iconst 1, 1) := by decide +kernel
theorem dX5_addOperation_56 : decode cX5_addOperation 56 = .ok (.iadd, 1) := by decide +kernel
theorem dX5_addOperation_57 : decode cX5_addOperation 57 = .ok (.putfield 29, 3) := by decide +kernel
theorem dX5_addOperation_60 : decode cX5_addOperation 60 = .ok (.aload 4, 2) := by decide +kernel
theorem dX5_addOperation_62 : decode cX5_addOperation 62 = .ok (.areturn, 1) := by decide +kernel
theorem dX5_allCycles_0 : decode cX5_allCycles 0 = .ok (.iconst 0, 1) := by decide +kernel
theorem dX5_allCycles_1 : decode cX5_allCycles 1 = .ok (.istore_n 1, 1) := by decide +kernel
theorem dX5_allCycles_2 : decode cX5_allCycles 2 = .ok (.iconst 0, 1) := by decide +kernel
theorem dX5_allCycles_3 : decode cX5_allCycles 3 = .ok (.istore_n 2, 1) := by decide +kernel
theorem dX5_allCycles_4 : decode cX5_allCycles 4 = .ok (.iload_n 2, 1) := by decide +kernel
theorem dX5_allCycles_5 : decode cX5_allCycles 5 = .ok (.aload_n 0, 1) := by decide +kernel
theorem dX5_allCycles_6 : decode cX5_allCycles 6 = .ok (.getfield 32, 3) := by decide +kernel
theorem dX5_allCycles_9 : decode cX5_allCycles 9 = .ok (.if_icmp .ge 21, 3) := by decide +kernel
theorem dX5_allCycles_12 : decode cX5_allCycles 12 = .ok (.iload_n 1, 1) := by decide +kernel
theorem dX5_allCycles_13 : decode cX5_allCycles 13 = .ok (.aload_n 0, 1) := by decide +kernel
theorem dX5_allCycles_14 : decode cX5_allCycles 14 = .ok (.getfield 24, 3) := by decide +kernel
theorem dX5_allCycles_17 : decode cX5_allCycles 17 = .ok (.iload_n 2, 1) := by decide +kernel
theorem dX5_allCycles_18 : decode cX5_allCycles 18 = .ok (.aaload, 1) := by decide +kernel
theorem dX5_allCycles_19 : decode cX5_allCycles 19 = .ok (.getfield 47, 3) := by decide +kernel
theorem dX5_allCycles_22 : decode cX5_allCycles 22 = .ok (.iadd, 1) := by decide +kernel
theorem dX5_allCycles_23 : decode cX5_allCycles 23 = .ok (.istore_n 1, 1) := by decide +kernel
theorem dX5_allCycles_24 : decode cX5_allCycles 24 = .ok (.iinc 2 1, 3) := by decide +kernel
theorem dX5_allCycles_27 : decode cX5_allCycles 27 = .ok (.goto (-23), 3) := by decide +kernel
theorem dX5_allCycles_30 : decode cX5_allCycles 30 = .ok (.iload_n 1, 1) := by decide +kernel
theorem dX5_allCycles_31 : decode cX5_allCycles 31 = .ok (.ireturn, 1) := by decide +kernel
theorem dX5_usedRegisters_0 : decode cX5_usedRegisters 0 = .ok (.iconst (-1), 1) := by decide +kernel
theorem dX5_usedRegisters_1 : decode cX5_usedRegisters 1 = .ok (.istore_n 1, 1) := by decide +kernel
theorem dX5_usedRegisters_2 : decode cX5_usedRegisters 2 = .ok (.iconst 0, 1) := by decide +kernel
theorem dX5_usedRegisters_3 : decode cX5_usedRegisters 3 = .ok (.istore_n 2, 1) := by decide +kernel
theorem dX5_usedRegisters_4 : decode cX5_usedRegisters 4 = .ok (.iload_n 2, 1) := by decide +kernel
theorem dX5_usedRegisters_5 : decode cX5_usedRegisters 5 = .ok (.aload_n 0, 1) := by decide +kernel
theorem dX5_usedRegisters_6 : decode cX5_usedRegisters 6 = .ok (.getfield 29, 3) := by decide +kernel
theorem dX5_usedRegisters_9 : decode cX5_usedRegisters 9 = .ok (.if_icmp .ge 23, 3) := by decide +kernel
theorem dX5_usedRegisters_12 : decode cX5_usedRegisters 12 = .ok (.iload_n 1, 1) := by decide +kernel
theorem dX5_usedRegisters_13 : decode cX5_usedRegisters 13 = .ok (.aload_n 0, 1) := by decide +kernel
theorem dX5_usedRegisters_14 : decode cX5_usedRegisters 14 = .ok (.getfield 11, 3) := by decide +kernel
theorem dX5_usedRegisters_17 : decode cX5_usedRegisters 17 = .ok (.iload_n 2, 1) := by decide +kernel
theorem dX5_usedRegisters_18 : decode cX5_usedRegisters 18 = .ok (.aaload, 1) := by decide +kernel
theorem dX5_usedRegisters_19 : decode cX5_usedRegisters 19 = .ok (.getfield 50, 3) := by decide +kernel
theorem dX5_usedRegisters_22 : decode cX5_usedRegisters 22 = .ok (.invokestatic 53, 3) := by decide +kernel
theorem dX5_usedRegisters_25 : decode cX5_usedRegisters 25 = .ok (.istore_n 1, 1) := by decide +kernel
theorem dX5_usedRegisters_26 : decode cX5_usedRegisters 26 = .ok (.iinc 2 1, 3) := by decide +kernel
theorem dX5_usedRegisters_29 : decode cX5_usedRegisters 29 = .ok (.goto (-25), 3) := by decide +kernel
theorem dX5_usedRegisters_32 : decode cX5_usedRegisters 32 = .ok (.iload_n 1, 1) := by decide +kernel
theorem dX5_usedRegisters_33 : decode cX5_usedRegisters 33 = .ok (.iconst 1, 1) := by decide +kernel
theorem dX5_usedRegisters_34 : decode cX5_usedRegisters 34 = .ok (.iadd, 1) := by decide +kernel
theorem dX5_usedRegisters_35 : decode cX5_usedRegisters 35 = .ok (.ireturn, 1) := by decide +kernel
theorem dX5_usedUnits_0 : decode cX5_usedUnits 0 = .ok (.iconst (-1), 1) := by decide +kernel
theorem dX5_usedUnits_1 : decode cX5_usedUnits 1 = .ok (.istore_n 2, 1) := by decide +kernel
theorem dX5_usedUnits_2 : decode cX5_usedUnits 2 = .ok (.iconst 0, 1) := by decide +kernel
theorem dX5_usedUnits_3 : decode cX5_usedUnits 3 = .ok (.istore_n 3, 1) := by decide +kernel
theorem dX5_usedUnits_4 : decode cX5_usedUnits 4 = .ok (.iload_n 3, 1) := by decide +kernel
theorem dX5_usedUnits_5 : decode cX5_usedUnits 5 = .ok (.aload_n 0, 1) := by decide +kernel
theorem dX5_usedUnits_6 : decode cX5_usedUnits 6 = .ok (.getfield 29, 3) := by decide +kernel
theorem dX5_usedUnits_9 : decode cX5_usedUnits 9 = .ok (.if_icmp .ge 36, 3) := by decide +kernel
theorem dX5_usedUnits_12 : decode cX5_usedUnits 12 = .ok (.aload_n 0, 1) := by decide +kernel
theorem dX5_usedUnits_13 : decode cX5_usedUnits 13 = .ok (.getfield 11, 3) := by decide +kernel
theorem dX5_usedUnits_16 : decode cX5_usedUnits 16 = .ok (.iload_n 3, 1) := by decide +kernel
theorem dX5_usedUnits_17 : decode cX5_usedUnits 17 = .ok (.aaload, 1) := by decide +kernel
theorem dX5_usedUnits_18 : decode cX5_usedUnits 18 = .ok (.getfield 59, 3) := by decide +kernel
theorem dX5_usedUnits_21 : decode cX5_usedUnits 21 = .ok (.iload_n 1, 1) := by decide +kernel
theorem dX5_usedUnits_22 : decode cX5_usedUnits 22 = .ok (.if_icmp .ne 17, 3) := by decide +kernel
theorem dX5_usedUnits_25 : decode cX5_usedUnits 25 = .ok (.iload_n 2, 1) := by decide +kernel
theorem dX5_usedUnits_26 : decode cX5_usedUnits 26 = .ok (.aload_n 0, 1) := by decide +kernel
theorem dX5_usedUnits_27 : decode cX5_usedUnits 27 = .ok (.getfield 11, 3) := by decide +kernel
theorem dX5_usedUnits_30 : decode cX5_usedUnits 30 = .ok (.iload_n 3, 1) := by decide +kernel
theorem dX5_usedUnits_31 : decode cX5_usedUnits 31 = .ok (.aaload, 1) := by decide +kernel
theorem dX5_usedUnits_32 : decode cX5_usedUnits 32 = .ok (.getfield 62, 3) := by decide +kernel
theorem dX5_usedUnits_35 : decode cX5_usedUnits 35 = .ok (.invokestatic 53, 3) := by decide +kernel
theorem dX5_usedUnits_38 : decode cX5_usedUnits 38 = .ok (.istore_n 2, 1) := by decide +kernel
theorem dX5_usedUnits_39 : decode cX5_usedUnits 39 = .ok (.iinc 3 1, 3) := by decide +kernel
theorem dX5_usedUnits_42 : decode cX5_usedUnits 42 = .ok (.goto (-38), 3) := by decide +kernel
theorem dX5_usedUnits_45 : decode cX5_usedUnits 45 = .ok (.iload_n 2, 1) := by decide +kernel
theorem dX5_usedUnits_46 : decode cX5_usedUnits 46 = .ok (.iconst 1, 1) := by decide +kernel
theorem dX5_usedUnits_47 : decode cX5_usedUnits 47 = .ok (.iadd, 1) := by decide +kernel
theorem dX5_usedUnits_48 : decode cX5_usedUnits 48 = .ok (.ireturn, 1) := by decide +kernel
theorem dX6_init_0 : decode cX6_init 0 = .ok (.aload_n 0, 1) := by decide +kernel
theorem dX6_init_1 : decode cX6_init 1 = .ok (.invokespecial 3, 3) := by decide +kernel
theorem dX6_init_4 : decode cX6_init 4 = .ok (.aload_n 0, 1) := by decide +kernel
theorem dX6_init_5 : decode cX6_init 5 = .ok (.aload_n 1, 1) := by decide +kernel
theorem dX6_init_6 : decode cX6_init 6 = .ok (.putfield 9, 3) := by decide +kernel
theorem dX6_init_9 : decode cX6_init 9 = .ok (.return_, 1) := by decide +kernel
theorem dX6_rewind_0 : decode cX6_rewind 0 = .ok (.aload_n 0, 1) := by decide +kernel
theorem dX6_rewind_1 : decode cX6_rewind 1 = .ok (.iconst 0, 1) := by decide +kernel
theorem dX6_rewind_2 : decode cX6_rewind 2 = .ok (.putfield 15, 3) := by decide +kernel
theorem dX6_rewind_5 : decode cX6_rewind 5 = .ok (.return_, 1) := by decide +kernel
theorem dX6_look_0 : decode cX6_look 0 = .ok (.aload_n 0, 1) := by decide +kernel
theorem dX6_look_1 : decode cX6_look 1 = .ok (.getfield 15, 3) := by decide +kernel
theorem dX6_look_4 : decode cX6_look 4 = .ok (.aload_n 0, 1) := by decide +kernel
theorem dX6_look_5 : decode cX6_look 5 = .ok (.getfield 9, 3) := by decide +kernel
theorem dX6_look_8 : decode cX6_look 8 = .ok (.getfield 19, 3) := by decide +kernel
theorem dX6_look_11 : decode cX6_look 11 = .ok (.if_icmp .ge 46, 3) := by decide +kernel
theorem dX6_look_14 : decode cX6_look 14 = .ok (.aload_n 0, 1) := by decide +kernel
theorem dX6_look_15 : decode cX6_look 15 = .ok (.getfield 9, 3) := by decide +kernel
theorem dX6_look_18 : decode cX6_look 18 = .ok (.getfield 24, 3) := by decide +kernel
theorem dX6_look_21 : decode cX6_look 21 = .ok (.aload_n 0, 1) := by decide +kernel
theorem dX6_look_22 : decode cX6_look 22 = .ok (.getfield 15, 3) := by decide +kernel
theorem dX6_look_25 : decode cX6_look 25 = .ok (.iaload, 1) := by decide +kernel
theorem dX6_look_26 : decode cX6_look 26 = .ok (.bipush 32, 2) := by decide +kernel
theorem dX6_look_28 : decode cX6_look 28 = .ok (.if_icmp .le 16, 3) := by decide +kernel
theorem dX6_look_31 : decode cX6_look 31 = .ok (.aload_n 0, 1) := by decide +kernel
theorem dX6_look_32 : decode cX6_look 32 = .ok (.getfield 9, 3) := by decide +kernel
theorem dX6_look_35 : decode cX6_look 35 = .ok (.getfield 24, 3) := by decide +kernel
theorem dX6_look_38 : decode cX6_look 38 = .ok (.aload_n 0, 1) := by decide +kernel
theorem dX6_look_39 : decode cX6_look 39 = .ok (.getfield 15, 3) := by decide +kernel
theorem dX6_look_42 : decode cX6_look 42 = .ok (.iaload, 1) := by decide +kernel
theorem dX6_look_43 : decode cX6_look 43 = .ok (.ireturn, 1) := by decide +kernel
theorem dX6_look_44 : decode cX6_look 44 = .ok (.aload_n 0, 1) := by decide +kernel
theorem dX6_look_45 : decode cX6_look 45 = .ok (.dup, 1) := by decide +kernel
theorem dX6_look_46 : decode cX6_look 46 = .ok (.getfield 15, 3) := by decide +kernel
theorem dX6_look_49 : decode cX6_look 49 = .ok (.iconst 1, 1) := by decide +kernel
theorem dX6_look_50 : decode cX6_look 50 = .ok (.iadd, 1) := by decide +kernel
theorem dX6_look_51 : decode cX6_look 51 = .ok (.putfield 15, 3) := by decide +kernel
theorem dX6_look_54 : decode cX6_look 54 = .ok (.goto (-54), 3) := by decide +kernel
theorem dX6_look_57 : decode cX6_look 57 = .ok (.iconst (-1), 1) := by decide +kernel
theorem dX6_look_58 : decode cX6_look 58 = .ok (.ireturn, 1) := by decide +kernel
theorem dX6_pass_0 : decode cX6_pass 0 = .ok (.aload_n 0, 1) := by decide +kernel
theorem dX6_pass_1 : decode cX6_pass 1 = .ok (.dup, 1) := by decide +kernel
theorem dX6_pass_2 : decode cX6_pass 2 = .ok (.getfield 15, 3) := by decide +kernel
theorem dX6_pass_5 : decode cX6_pass 5 = .ok (.iload_n 1, 1) := by decide +kernel
theorem dX6_pass_6 : decode cX6_pass 6 = .ok (.iadd, 1) := by decide +kernel
theorem dX6_pass_7 : decode cX6_pass 7 = .ok (.putfield 15, 3) := by decide +kernel
theorem dX6_pass_10 : decode cX6_pass 10 = .ok (.return_, 1) := by decide +kernel
theorem dX6_seesWord_0 : decode cX6_seesWord 0 = .ok (.aload_n 0, 1) := by decide +kernel
theorem dX6_seesWord_1 : decode cX6_seesWord 1 = .ok (.invokevirtual 28, 3) := by decide +kernel
theorem dX6_seesWord_4 : decode cX6_seesWord 4 = .ok (.pop, 1) := by decide +kernel
theorem dX6_seesWord_5 : decode cX6_seesWord 5 = .ok (.aload_n 0, 1) := by decide +kernel
theorem dX6_seesWord_6 : decode cX6_seesWord 6 = .ok (.invokevirtual 32, 3) := by decide +kernel
theorem dX6_seesWord_9 : decode cX6_seesWord 9 = .ok (.aload_n 1, 1) := by decide +kernel
theorem dX6_seesWord_10 : decode cX6_seesWord 10 = .ok (.invokevirtual 35, 3) := by decide +kernel
theorem dX6_seesWord_13 : decode cX6_seesWord 13 = .ok (.if_icmp .eq 5, 3) := by decide +kernel
theorem dX6_seesWord_16 : decode cX6_seesWord 16 = .ok (.iconst 0, 1) := by decide +kernel
theorem dX6_seesWord_17 : decode cX6_seesWord 17 = .ok (.ireturn, 1) := by decide +kernel
theorem dX6_seesWord_18 : decode cX6_seesWord 18 = .ok (.iconst 0, 1) := by decide +kernel
theorem dX6_seesWord_19 : decode cX6_seesWord 19 = .ok (.istore_n 2, 1) := by decide +kernel
theorem dX6_seesWord_20 : decode cX6_seesWord 20 = .ok (.iload_n 2, 1) := by decide +kernel
theorem dX6_seesWord_21 : decode cX6_seesWord 21 = .ok (.aload_n 1, 1) := by decide +kernel
theorem dX6_seesWord_22 : decode cX6_seesWord 22 = .ok (.invokevirtual 35, 3) := by decide +kernel
theorem dX6_seesWord_25 : decode cX6_seesWord 25 = .ok (.if_icmp .ge 33, 3) := by decide +kernel
theorem dX6_seesWord_28 : decode cX6_seesWord 28 = .ok (.aload_n 0, 1) := by decide +kernel
theorem dX6_seesWord_29 : decode cX6_seesWord 29 = .ok (.getfield 9, 3) := by decide +kernel
theorem dX6_seesWord_32 : decode cX6_seesWord 32 = .ok (.getfield 24, 3) := by decide +kernel
theorem dX6_seesWord_35 : decode cX6_seesWord 35 = .ok (.aload_n 0, 1) := by decide +kernel
theorem dX6_seesWord_36 : decode cX6_seesWord 36 = .ok (.getfield 15, 3) := by decide +kernel
theorem dX6_seesWord_39 : decode cX6_seesWord 39 = .ok (.iload_n 2, 1) := by decide +kernel
theorem dX6_seesWord_40 : decode cX6_seesWord 40 = .ok (.iadd, 1) := by decide +kernel
theorem dX6_seesWord_41 : decode cX6_seesWord 41 = .ok (.iaload, 1) := by decide +kernel
theorem dX6_seesWord_42 : decode cX6_seesWord 42 = .ok (.aload_n 1, 1) := by decide +kernel
theorem dX6_seesWord_43 : decode cX6_seesWord 43 = .ok (.iload_n 2, 1) := by decide +kernel
theorem dX6_seesWord_44 : decode cX6_seesWord 44 = .ok (.invokevirtual 39, 3) := by decide +kernel
theorem dX6_seesWord_47 : decode cX6_seesWord 47 = .ok (.if_icmp .eq 5, 3) := by decide +kernel
theorem dX6_seesWord_50 : decode cX6_seesWord 50 = .ok (.iconst 0, 1) := by decide +kernel
theorem dX6_seesWord_51 : decode cX6_seesWord 51 = .ok (.ireturn, 1) := by decide +kernel
theorem dX6_seesWord_52 : decode cX6_seesWord 52 = .ok (.iinc 2 1, 3) := by decide +kernel
theorem dX6_seesWord_55 : decode cX6_seesWord 55 = .ok (.goto (-35), 3) := by decide +kernel
theorem dX6_seesWord_58 : decode cX6_seesWord 58 = .ok (.iconst 1, 1) := by decide +kernel
theorem dX6_seesWord_59 : decode cX6_seesWord 59 = .ok (.ireturn, 1) := by decide +kernel
theorem dX6_seenVariable_0 : decode cX6_seenVariable 0 = .ok (.aload_n 0, 1) := by decide +kernel
theorem dX6_seenVariable_1 : decode cX6_seenVariable 1 = .ok (.invokevirtual 28, 3) := by decide +kernel
theorem dX6_seenVariable_4 : decode cX6_seenVariable 4 = .ok (.bipush 97, 2) := by decide +kernel
theorem dX6_seenVariable_6 : decode cX6_seenVariable 6 = .ok (.isub, 1) := by decide +kernel
theorem dX6_seenVariable_7 : decode cX6_seenVariable 7 = .ok (.istore_n 1, 1) := by decide +kernel
theorem dX6_seenVariable_8 : decode cX6_seenVariable 8 = .ok (.iload_n 1, 1) := by decide +kernel
theorem dX6_seenVariable_9 : decode cX6_seenVariable 9 = .ok (.ifCond .lt 21, 3) := by decide +kernel
theorem dX6_seenVariable_12 : decode cX6_seenVariable 12 = .ok (.iload_n 1, 1) := by decide +kernel
theorem dX6_seenVariable_13 : decode cX6_seenVariable 13 = .ok (.bipush 8, 2) := by decide +kernel
theorem dX6_seenVariable_15 : decode cX6_seenVariable 15 = .ok (.if_icmp .ge 15, 3) := by decide +kernel
theorem dX6_seenVariable_18 : decode cX6_seenVariable 18 = .ok (.aload_n 0, 1) := by decide +kernel
theorem dX6_seenVariable_19 : decode cX6_seenVariable 19 = .ok (.invokevirtual 32, 3) := by decide +kernel
theorem dX6_seenVariable_22 : decode cX6_seenVariable 22 = .ok (.iconst 1, 1) := by decide +kernel
theorem dX6_seenVariable_23 : decode cX6_seenVariable 23 = .ok (.if_icmp .ne 7, 3) := by decide +kernel
theorem dX6_seenVariable_26 : decode cX6_seenVariable 26 = .ok (.iconst 1, 1) := by decide +kernel
theorem dX6_seenVariable_27 : decode cX6_seenVariable 27 = .ok (.goto 4, 3) := by decide +kernel
theorem dX6_seenVariable_30 : decode cX6_seenVariable 30 = .ok (.iconst 0, 1) := by decide +kernel
theorem dX6_seenVariable_31 : decode cX6_seenVariable 31 = .ok (.istore_n 2, 1) := by decide +kernel
theorem dX6_seenVariable_32 : decode cX6_seenVariable 32 = .ok (.iload_n 2, 1) := by decide +kernel
theorem dX6_seenVariable_33 : decode cX6_seenVariable 33 = .ok (.ifCond .eq 7, 3) := by decide +kernel
theorem dX6_seenVariable_36 : decode cX6_seenVariable 36 = .ok (.iload_n 1, 1) := by decide +kernel
theorem dX6_seenVariable_37 : decode cX6_seenVariable 37 = .ok (.goto 4, 3) := by decide +kernel
theorem dX6_seenVariable_40 : decode cX6_seenVariable 40 = .ok (.iconst (-1), 1) := by decide +kernel
theorem dX6_seenVariable_41 : decode cX6_seenVariable 41 = .ok (.ireturn, 1) := by decide +kernel
theorem dX6_seesFigure_0 : decode cX6_seesFigure 0 = .ok (.aload_n 0, 1) := by decide +kernel
theorem dX6_seesFigure_1 : decode cX6_seesFigure 1 = .ok (.invokevirtual 28, 3) := by decide +kernel
theorem dX6_seesFigure_4 : decode cX6_seesFigure 4 = .ok (.invokestatic 43, 3) := by decide +kernel
theorem dX6_seesFigure_7 : decode cX6_seesFigure 7 = .ok (.ireturn, 1) := by decide +kernel
theorem dX6_seesLetter_0 : decode cX6_seesLetter 0 = .ok (.aload_n 0, 1) := by decide +kernel
theorem dX6_seesLetter_1 : decode cX6_seesLetter 1 = .ok (.invokevirtual 28, 3) := by decide +kernel
theorem dX6_seesLetter_4 : decode cX6_seesLetter 4 = .ok (.invokestatic 47, 3) := by decide +kernel
theorem dX6_seesLetter_7 : decode cX6_seesLetter 7 = .ok (.ireturn, 1) := by decide +kernel
theorem dX6_readNumber_0 : decode cX6_readNumber 0 = .ok (.lconst 0, 1) := by decide +kernel
theorem dX6_readNumber_1 : decode cX6_readNumber 1 = .ok (.lstore_n 1, 1) := by decide +kernel
theorem dX6_readNumber_2 : decode cX6_readNumber 2 = .ok (.aload_n 0, 1) := by decide +kernel
theorem dX6_readNumber_3 : decode cX6_readNumber 3 = .ok (.getfield 15, 3) := by decide +kernel
theorem dX6_readNumber_6 : decode cX6_readNumber 6 = .ok (.aload_n 0, 1) := by decide +kernel
theorem dX6_readNumber_7 : decode cX6_readNumber 7 = .ok (.getfield 9, 3) := by decide +kernel
theorem dX6_readNumber_10 : decode cX6_readNumber 10 = .ok (.getfield 19, 3) := by decide +kernel
theorem dX6_readNumber_13 : decode cX6_readNumber 13 = .ok (.if_icmp .ge 64, 3) := by decide +kernel
theorem dX6_readNumber_16 : decode cX6_readNumber 16 = .ok (.aload_n 0, 1) := by decide +kernel
theorem dX6_readNumber_17 : decode cX6_readNumber 17 = .ok (.getfield 9, 3) := by decide +kernel
theorem dX6_readNumber_20 : decode cX6_readNumber 20 = .ok (.getfield 24, 3) := by decide +kernel
theorem dX6_readNumber_23 : decode cX6_readNumber 23 = .ok (.aload_n 0, 1) := by decide +kernel
theorem dX6_readNumber_24 : decode cX6_readNumber 24 = .ok (.getfield 15, 3) := by decide +kernel
theorem dX6_readNumber_27 : decode cX6_readNumber 27 = .ok (.iaload, 1) := by decide +kernel
theorem dX6_readNumber_28 : decode cX6_readNumber 28 = .ok (.invokestatic 43, 3) := by decide +kernel
theorem dX6_readNumber_31 : decode cX6_readNumber 31 = .ok (.ifCond .eq 46, 3) := by decide +kernel
theorem dX6_readNumber_34 : decode cX6_readNumber 34 = .ok (.ldc2_w 50, 3) := by decide +kernel
theorem dX6_readNumber_37 : decode cX6_readNumber 37 = .ok (.lload_n 1, 1) := by decide +kernel
theorem dX6_readNumber_38 : decode cX6_readNumber 38 = .ok (.lmul, 1) := by decide +kernel
theorem dX6_readNumber_39 : decode cX6_readNumber 39 = .ok (.aload_n 0, 1) := by decide +kernel
theorem dX6_readNumber_40 : decode cX6_readNumber 40 = .ok (.getfield 9, 3) := by decide +kernel
theorem dX6_readNumber_43 : decode cX6_readNumber 43 = .ok (.getfield 24, 3) := by decide +kernel
theorem dX6_readNumber_46 : decode cX6_readNumber 46 = .ok (.aload_n 0, 1) := by decide +kernel
theorem dX6_readNumber_47 : decode cX6_readNumber 47 = .ok (.getfield 15, 3) := by decide +kernel
theorem dX6_readNumber_50 : decode cX6_readNumber 50 = .ok (.iaload, 1) := by decide +kernel
theorem dX6_readNumber_51 : decode cX6_readNumber 51 = .ok (.i2l, 1) := by decide +kernel
theorem dX6_readNumber_52 : decode cX6_readNumber 52 = .ok (.ladd, 1) := by decide +kernel
theorem dX6_readNumber_53 : decode cX6_readNumber 53 = .ok (.ldc2_w 52, 3) := by decide +kernel
theorem dX6_readNumber_56 : decode cX6_readNumber 56 = .ok (.lsub, 1) := by decide +kernel
theorem dX6_readNumber_57 : decode cX6_readNumber 57 = .ok (.ldc2_w 54, 3) := by decide +kernel
theorem dX6_readNumber_60 : decode cX6_readNumber 60 = .ok (.invokestatic 56, 3) := by decide +kernel
theorem dX6_readNumber_63 : decode cX6_readNumber 63 = .ok (.lstore_n 1, 1) := by decide +kernel
theorem dX6_readNumber_64 : decode cX6_readNumber 64 = .ok (.aload_n 0, 1) := by decide +kernel
theorem dX6_readNumber_65 : decode cX6_readNumber 65 = .ok (.dup, 1) := by decide +kernel
theorem dX6_readNumber_66 : decode cX6_readNumber 66 = .ok (.getfield 15, 3) := by decide +kernel
theorem dX6_readNumber_69 : decode cX6_readNumber 69 = .ok (.iconst 1, 1) := by decide +kernel
theorem dX6_readNumber_70 : decode cX6_readNumber 70 = .ok (.iadd, 1) := by decide +kernel
theorem dX6_readNumber_71 : decode cX6_readNumber 71 = .ok (.putfield 15, 3) := by decide +kernel
theorem dX6_readNumber_74 : decode cX6_readNumber 74 = .ok (.goto (-72), 3) := by decide +kernel
theorem dX6_readNumber_77 : decode cX6_readNumber 77 = .ok (.lload_n 1, 1) := by decide +kernel
theorem dX6_readNumber_78 : decode cX6_readNumber 78 = .ok (.lreturn, 1) := by decide +kernel
theorem dX6_lettersHere_0 : decode cX6_lettersHere 0 = .ok (.aload_n 0, 1) := by decide +kernel
theorem dX6_lettersHere_1 : decode cX6_lettersHere 1 = .ok (.getfield 15, 3) := by decide +kernel
theorem dX6_lettersHere_4 : decode cX6_lettersHere 4 = .ok (.istore_n 1, 1) := by decide +kernel
theorem dX6_lettersHere_5 : decode cX6_lettersHere 5 = .ok (.iload_n 1, 1) := by decide +kernel
theorem dX6_lettersHere_6 : decode cX6_lettersHere 6 = .ok (.aload_n 0, 1) := by decide +kernel
theorem dX6_lettersHere_7 : decode cX6_lettersHere 7 = .ok (.getfield 9, 3) := by decide +kernel
theorem dX6_lettersHere_10 : decode cX6_lettersHere 10 = .ok (.getfield 19, 3) := by decide +kernel
theorem dX6_lettersHere_13 : decode cX6_lettersHere 13 = .ok (.if_icmp .ge 24, 3) := by decide +kernel
theorem dX6_lettersHere_16 : decode cX6_lettersHere 16 = .ok (.aload_n 0, 1) := by decide +kernel
theorem dX6_lettersHere_17 : decode cX6_lettersHere 17 = .ok (.getfield 9, 3) := by decide +kernel
theorem dX6_lettersHere_20 : decode cX6_lettersHere 20 = .ok (.getfield 24, 3) := by decide +kernel
theorem dX6_lettersHere_23 : decode cX6_lettersHere 23 = .ok (.iload_n 1, 1) := by decide +kernel
theorem dX6_lettersHere_24 : decode cX6_lettersHere 24 = .ok (.iaload, 1) := by decide +kernel
theorem dX6_lettersHere_25 : decode cX6_lettersHere 25 = .ok (.invokestatic 47, 3) := by decide +kernel
theorem dX6_lettersHere_28 : decode cX6_lettersHere 28 = .ok (.ifCond .eq 9, 3) := by decide +kernel
theorem dX6_lettersHere_31 : decode cX6_lettersHere 31 = .ok (.iinc 1 1, 3) := by decide +kernel
theorem dX6_lettersHere_34 : decode cX6_lettersHere 34 = .ok (.goto (-29), 3) := by decide +kernel
theorem dX6_lettersHere_37 : decode cX6_lettersHere 37 = .ok (.iload_n 1, 1) := by decide +kernel
theorem dX6_lettersHere_38 : decode cX6_lettersHere 38 = .ok (.aload_n 0, 1) := by decide +kernel
theorem dX6_lettersHere_39 : decode cX6_lettersHere 39 = .ok (.getfield 15, 3) := by decide +kernel
theorem dX6_lettersHere_42 : decode cX6_lettersHere 42 = .ok (.isub, 1) := by decide +kernel
theorem dX6_lettersHere_43 : decode cX6_lettersHere 43 = .ok (.ireturn, 1) := by decide +kernel
theorem dX6_isFigure_0 : decode cX6_isFigure 0 = .ok (.iload_n 0, 1) := by decide +kernel
theorem dX6_isFigure_1 : decode cX6_isFigure 1 = .ok (.bipush 48, 2) := by decide +kernel
theorem dX6_isFigure_3 : decode cX6_isFigure 3 = .ok (.if_icmp .lt 13, 3) := by decide +kernel
theorem dX6_isFigure_6 : decode cX6_isFigure 6 = .ok (.iload_n 0, 1) := by decide +kernel
theorem dX6_isFigure_7 : decode cX6_isFigure 7 = .ok (.bipush 57, 2) := by decide +kernel
theorem dX6_isFigure_9 : decode cX6_isFigure 9 = .ok (.if_icmp .gt 7, 3) := by decide +kernel
theorem dX6_isFigure_12 : decode cX6_isFigure 12 = .ok (.iconst 1, 1) := by decide +kernel
theorem dX6_isFigure_13 : decode cX6_isFigure 13 = .ok (.goto 4, 3) := by decide +kernel
theorem dX6_isFigure_16 : decode cX6_isFigure 16 = .ok (.iconst 0, 1) := by decide +kernel
theorem dX6_isFigure_17 : decode cX6_isFigure 17 = .ok (.ireturn, 1) := by decide +kernel
theorem dX6_isLetter_0 : decode cX6_isLetter 0 = .ok (.iload_n 0, 1) := by decide +kernel
theorem dX6_isLetter_1 : decode cX6_isLetter 1 = .ok (.bipush 97, 2) := by decide +kernel
theorem dX6_isLetter_3 : decode cX6_isLetter 3 = .ok (.if_icmp .lt 13, 3) := by decide +kernel
theorem dX6_isLetter_6 : decode cX6_isLetter 6 = .ok (.iload_n 0, 1) := by decide +kernel
theorem dX6_isLetter_7 : decode cX6_isLetter 7 = .ok (.bipush 122, 2) := by decide +kernel
theorem dX6_isLetter_9 : decode cX6_isLetter 9 = .ok (.if_icmp .gt 7, 3) := by decide +kernel
theorem dX6_isLetter_12 : decode cX6_isLetter 12 = .ok (.iconst 1, 1) := by decide +kernel
theorem dX6_isLetter_13 : decode cX6_isLetter 13 = .ok (.goto 4, 3) := by decide +kernel
theorem dX6_isLetter_16 : decode cX6_isLetter 16 = .ok (.iconst 0, 1) := by decide +kernel
theorem dX6_isLetter_17 : decode cX6_isLetter 17 = .ok (.ireturn, 1) := by decide +kernel
theorem dX7_init_0 : decode cX7_init 0 = .ok (.aload_n 0, 1) := by decide +kernel
theorem dX7_init_1 : decode cX7_init 1 = .ok (.invokespecial 3, 3) := by decide +kernel
theorem dX7_init_4 : decode cX7_init 4 = .ok (.aload_n 0, 1) := by decide +kernel
theorem dX7_init_5 : decode cX7_init 5 = .ok (.sipush 700, 3) := by decide +kernel
theorem dX7_init_8 : decode cX7_init 8 = .ok (.newarray .int, 2) := by decide +kernel
theorem dX7_init_10 : decode cX7_init 10 = .ok (.putfield 9, 3) := by decide +kernel
theorem dX7_init_13 : decode cX7_init 13 = .ok (.return_, 1) := by decide +kernel
theorem dX7_append_0 : decode cX7_append 0 = .ok (.aload_n 0, 1) := by decide +kernel
theorem dX7_append_1 : decode cX7_append 1 = .ok (.getfield 15, 3) := by decide +kernel
theorem dX7_append_4 : decode cX7_append 4 = .ok (.iload_n 1, 1) := by decide +kernel
theorem dX7_append_5 : decode cX7_append 5 = .ok (.iadd, 1) := by decide +kernel
theorem dX7_append_6 : decode cX7_append 6 = .ok (.sipush 700, 3) := by decide +kernel
theorem dX7_append_9 : decode cX7_append 9 = .ok (.if_icmp .le 5, 3) := by decide +kernel
theorem dX7_append_12 : decode cX7_append 12 = .ok (.iconst 0, 1) := by decide +kernel
theorem dX7_append_13 : decode cX7_append 13 = .ok (.ireturn, 1) := by decide +kernel
theorem dX7_append_14 : decode cX7_append 14 = .ok (.iconst 0, 1) := by decide +kernel
theorem dX7_append_15 : decode cX7_append 15 = .ok (.istore 4, 2) := by decide +kernel
theorem dX7_append_17 : decode cX7_append 17 = .ok (.iload 4, 2) := by decide +kernel
theorem dX7_append_19 : decode cX7_append 19 = .ok (.iload_n 1, 1) := by decide +kernel
theorem dX7_append_20 : decode cX7_append 20 = .ok (.if_icmp .ge 33, 3) := by decide +kernel
theorem dX7_append_23 : decode cX7_append 23 = .ok (.aload_n 0, 1) := by decide +kernel
theorem dX7_append_24 : decode cX7_append 24 = .ok (.getfield 9, 3) := by decide +kernel
theorem dX7_append_27 : decode cX7_append 27 = .ok (.aload_n 0, 1) := by decide +kernel
theorem dX7_append_28 : decode cX7_append 28 = .ok (.getfield 15, 3) := by decide +kernel
theorem dX7_append_31 : decode cX7_append 31 = .ok (.iload 4, 2) := by decide +kernel
theorem dX7_append_33 : decode cX7_append 33 = .ok (.iadd, 1) := by decide +kernel
theorem dX7_append_34 : decode cX7_append 34 = .ok (.lload_n 2, 1) := by decide +kernel
theorem dX7_append_35 : decode cX7_append 35 = .ok (.bipush 8, 2) := by decide +kernel
theorem dX7_append_37 : decode cX7_append 37 = .ok (.iload 4, 2) := by decide +kernel
theorem dX7_append_39 : decode cX7_append 39 = .ok (.imul, 1) := by decide +kernel
theorem dX7_append_40 : decode cX7_append 40 = .ok (.lshr, 1) := by decide +kernel
theorem dX7_append_41 : decode cX7_append 41 = .ok (.l2i, 1) := by decide +kernel
theorem dX7_append_42 : decode cX7_append 42 = .ok (.sipush 255, 3) := by decide +kernel
theorem dX7_append_45 : decode cX7_append 45 = .ok (.iand, 1) := by decide +kernel
theorem dX7_append_46 : decode cX7_append 46 = .ok (.iastore, 1) := by decide +kernel
theorem dX7_append_47 : decode cX7_append 47 = .ok (.iinc 4 1, 3) := by decide +kernel
theorem dX7_append_50 : decode cX7_append 50 = .ok (.goto (-33), 3) := by decide +kernel
theorem dX7_append_53 : decode cX7_append 53 = .ok (.aload_n 0, 1) := by decide +kernel
theorem dX7_append_54 : decode cX7_append 54 = .ok (.dup, 1) := by decide +kernel
theorem dX7_append_55 : decode cX7_append 55 = .ok (.getfield 15, 3) := by decide +kernel
theorem dX7_append_58 : decode cX7_append 58 = .ok (.iload_n 1, 1) := by decide +kernel
theorem dX7_append_59 : decode cX7_append 59 = .ok (.iadd, 1) := by decide +kernel
theorem dX7_append_60 : decode cX7_append 60 = .ok (.putfield 15, 3) := by decide +kernel
theorem dX7_append_63 : decode cX7_append 63 = .ok (.iconst 1, 1) := by decide +kernel
theorem dX7_append_64 : decode cX7_append 64 = .ok (.ireturn, 1) := by decide +kernel
theorem dX7_clear_0 : decode cX7_clear 0 = .ok (.aload_n 0, 1) := by decide +kernel
theorem dX7_clear_1 : decode cX7_clear 1 = .ok (.getfield 15, 3) := by decide +kernel
theorem dX7_clear_4 : decode cX7_clear 4 = .ok (.istore_n 1, 1) := by decide +kernel
theorem dX7_clear_5 : decode cX7_clear 5 = .ok (.aload_n 0, 1) := by decide +kernel
theorem dX7_clear_6 : decode cX7_clear 6 = .ok (.iconst 0, 1) := by decide +kernel
theorem dX7_clear_7 : decode cX7_clear 7 = .ok (.putfield 15, 3) := by decide +kernel
theorem dX7_clear_10 : decode cX7_clear 10 = .ok (.iload_n 1, 1) := by decide +kernel
theorem dX7_clear_11 : decode cX7_clear 11 = .ok (.ireturn, 1) := by decide +kernel
