theorem dX0_init_0 : decode cX0_init 0 = .ok (.aload_n 0, 1) := by decide +kernel
theorem dX0_init_1 : decode cX0_init 1 = .ok (.invokespecial 3, 3) := by decide +kernel
theorem dX0_init_4 : decode cX0_init 4 = .ok (.aload_n 0, 1) := by decide +kernel
theorem dX0_init_5 : decode cX0_init 5 = .ok (.iconst 4, 1) := by decide +kernel
theorem dX0_init_6 : decode cX0_init 6 = .ok (.newarray .int, 2) := by decide +kernel
theorem dX0_init_8 : decode cX0_init 8 = .ok (.putfield 9, 3) := by decide +kernel
theorem dX0_init_11 : decode cX0_init 11 = .ok (.aload_n 0, 1) := by decide +kernel
theorem dX0_init_12 : decode cX0_init 12 = .ok (.iconst 4, 1) := by decide +kernel
theorem dX0_init_13 : decode cX0_init 13 = .ok (.newarray .int, 2) := by decide +kernel
theorem dX0_init_15 : decode cX0_init 15 = .ok (.putfield 15, 3) := by decide +kernel
theorem dX0_init_18 : decode cX0_init 18 = .ok (.aload_n 0, 1) := by decide +kernel
theorem dX0_init_19 : decode cX0_init 19 = .ok (.iconst 4, 1) := by decide +kernel
theorem dX0_init_20 : decode cX0_init 20 = .ok (.newarray .int, 2) := by decide +kernel
theorem dX0_init_22 : decode cX0_init 22 = .ok (.putfield 18, 3) := by decide +kernel
theorem dX0_init_25 : decode cX0_init 25 = .ok (.aload_n 0, 1) := by decide +kernel
theorem dX0_init_26 : decode cX0_init 26 = .ok (.iconst 4, 1) := by decide +kernel
theorem dX0_init_27 : decode cX0_init 27 = .ok (.newarray .int, 2) := by decide +kernel
theorem dX0_init_29 : decode cX0_init 29 = .ok (.putfield 21, 3) := by decide +kernel
theorem dX0_init_32 : decode cX0_init 32 = .ok (.aload_n 0, 1) := by decide +kernel
theorem dX0_init_33 : decode cX0_init 33 = .ok (.bipush 40, 2) := by decide +kernel
theorem dX0_init_35 : decode cX0_init 35 = .ok (.newarray .int, 2) := by decide +kernel
theorem dX0_init_37 : decode cX0_init 37 = .ok (.putfield 24, 3) := by decide +kernel
theorem dX0_init_40 : decode cX0_init 40 = .ok (.aload_n 0, 1) := by decide +kernel
theorem dX0_init_41 : decode cX0_init 41 = .ok (.bipush 40, 2) := by decide +kernel
theorem dX0_init_43 : decode cX0_init 43 = .ok (.newarray .int, 2) := by decide +kernel
theorem dX0_init_45 : decode cX0_init 45 = .ok (.putfield 27, 3) := by decide +kernel
theorem dX0_init_48 : decode cX0_init 48 = .ok (.aload_n 0, 1) := by decide +kernel
theorem dX0_init_49 : decode cX0_init 49 = .ok (.bipush 10, 2) := by decide +kernel
theorem dX0_init_51 : decode cX0_init 51 = .ok (.newarray .int, 2) := by decide +kernel
theorem dX0_init_53 : decode cX0_init 53 = .ok (.putfield 30, 3) := by decide +kernel
theorem dX0_init_56 : decode cX0_init 56 = .ok (.aload_n 0, 1) := by decide +kernel
theorem dX0_init_57 : decode cX0_init 57 = .ok (.iconst 0, 1) := by decide +kernel
theorem dX0_init_58 : decode cX0_init 58 = .ok (.putfield 33, 3) := by decide +kernel
theorem dX0_init_61 : decode cX0_init 61 = .ok (.aload_n 0, 1) := by decide +kernel
theorem dX0_init_62 : decode cX0_init 62 = .ok (.iconst 0, 1) := by decide +kernel
theorem dX0_init_63 : decode cX0_init 63 = .ok (.putfield 37, 3) := by decide +kernel
theorem dX0_init_66 : decode cX0_init 66 = .ok (.aload_n 0, 1) := by decide +kernel
theorem dX0_init_67 : decode cX0_init 67 = .ok (.iconst 1, 1) := by decide +kernel
theorem dX0_init_68 : decode cX0_init 68 = .ok (.putfield 40, 3) := by decide +kernel
theorem dX0_init_71 : decode cX0_init 71 = .ok (.aload_n 0, 1) := by decide +kernel
theorem dX0_init_72 : decode cX0_init 72 = .ok (.getfield 30, 3) := by decide +kernel
theorem dX0_init_75 : decode cX0_init 75 = .ok (.iconst 1, 1) := by decide +kernel
theorem dX0_init_76 : decode cX0_init 76 = .ok (.invokestatic 43, 3) := by decide +kernel
theorem dX0_init_79 : decode cX0_init 79 = .ok (.return_, 1) := by decide +kernel
theorem dX0_become_0 : decode cX0_become 0 = .ok (.aload_n 1, 1) := by decide +kernel
theorem dX0_become_1 : decode cX0_become 1 = .ok (.getfield 9, 3) := by decide +kernel
theorem dX0_become_4 : decode cX0_become 4 = .ok (.iconst 0, 1) := by decide +kernel
theorem dX0_become_5 : decode cX0_become 5 = .ok (.aload_n 0, 1) := by decide +kernel
theorem dX0_become_6 : decode cX0_become 6 = .ok (.getfield 9, 3) := by decide +kernel
theorem dX0_become_9 : decode cX0_become 9 = .ok (.iconst 0, 1) := by decide +kernel
theorem dX0_become_10 : decode cX0_become 10 = .ok (.iconst 4, 1) := by decide +kernel
theorem dX0_become_11 : decode cX0_become 11 = .ok (.invokestatic 49, 3) := by decide +kernel
theorem dX0_become_14 : decode cX0_become 14 = .ok (.aload_n 1, 1) := by decide +kernel
theorem dX0_become_15 : decode cX0_become 15 = .ok (.getfield 15, 3) := by decide +kernel
theorem dX0_become_18 : decode cX0_become 18 = .ok (.iconst 0, 1) := by decide +kernel
theorem dX0_become_19 : decode cX0_become 19 = .ok (.aload_n 0, 1) := by decide +kernel
theorem dX0_become_20 : decode cX0_become 20 = .ok (.getfield 15, 3) := by decide +kernel
theorem dX0_become_23 : decode cX0_become 23 = .ok (.iconst 0, 1) := by decide +kernel
theorem dX0_become_24 : decode cX0_become 24 = .ok (.iconst 4, 1) := by decide +kernel
theorem dX0_become_25 : decode cX0_become 25 = .ok (.invokestatic 49, 3) := by decide +kernel
theorem dX0_become_28 : decode cX0_become 28 = .ok (.aload_n 1, 1) := by decide +kernel
theorem dX0_become_29 : decode cX0_become 29 = .ok (.getfield 18, 3) := by decide +kernel
theorem dX0_become_32 : decode cX0_become 32 = .ok (.iconst 0, 1) := by decide +kernel
theorem dX0_become_33 : decode cX0_become 33 = .ok (.aload_n 0, 1) := by decide +kernel
theorem dX0_become_34 : decode cX0_become 34 = .ok (.getfield 18, 3) := by decide +kernel
theorem dX0_become_37 : decode cX0_become 37 = .ok (.iconst 0, 1) := by decide +kernel
theorem dX0_become_38 : decode cX0_become 38 = .ok (.iconst 4, 1) := by decide +kernel
theorem dX0_become_39 : decode cX0_become 39 = .ok (.invokestatic 49, 3) := by decide +kernel
theorem dX0_become_42 : decode cX0_become 42 = .ok (.aload_n 1, 1) := by decide +kernel
theorem dX0_become_43 : decode cX0_become 43 = .ok (.getfield 21, 3) := by decide +kernel
theorem dX0_become_46 : decode cX0_become 46 = .ok (.iconst 0, 1) := by decide +kernel
theorem dX0_become_47 : decode cX0_become 47 = .ok (.aload_n 0, 1) := by decide +kernel
theorem dX0_become_48 : decode cX0_become 48 = .ok (.getfield 21, 3) := by decide +kernel
theorem dX0_become_51 : decode cX0_become 51 = .ok (.iconst 0, 1) := by decide +kernel
theorem dX0_become_52 : decode cX0_become 52 = .ok (.iconst 4, 1) := by decide +kernel
theorem dX0_become_53 : decode cX0_become 53 = .ok (.invokestatic 49, 3) := by decide +kernel
theorem dX0_become_56 : decode cX0_become 56 = .ok (.aload_n 1, 1) := by decide +kernel
theorem dX0_become_57 : decode cX0_become 57 = .ok (.getfield 24, 3) := by decide +kernel
theorem dX0_become_60 : decode cX0_become 60 = .ok (.iconst 0, 1) := by decide +kernel
theorem dX0_become_61 : decode cX0_become 61 = .ok (.aload_n 0, 1) := by decide +kernel
theorem dX0_become_62 : decode cX0_become 62 = .ok (.getfield 24, 3) := by decide +kernel
theorem dX0_become_65 : decode cX0_become 65 = .ok (.iconst 0, 1) := by decide +kernel
theorem dX0_become_66 : decode cX0_become 66 = .ok (.bipush 40, 2) := by decide +kernel
theorem dX0_become_68 : decode cX0_become 68 = .ok (.invokestatic 49, 3) := by decide +kernel
theorem dX0_become_71 : decode cX0_become 71 = .ok (.aload_n 1, 1) := by decide +kernel
theorem dX0_become_72 : decode cX0_become 72 = .ok (.getfield 27, 3) := by decide +kernel
theorem dX0_become_75 : decode cX0_become 75 = .ok (.iconst 0, 1) := by decide +kernel
theorem dX0_become_76 : decode cX0_become 76 = .ok (.aload_n 0, 1) := by decide +kernel
theorem dX0_become_77 : decode cX0_become 77 = .ok (.getfield 27, 3) := by decide +kernel
theorem dX0_become_80 : decode cX0_become 80 = .ok (.iconst 0, 1) := by decide +kernel
theorem dX0_become_81 : decode cX0_become 81 = .ok (.bipush 40, 2) := by decide +kernel
theorem dX0_become_83 : decode cX0_become 83 = .ok (.invokestatic 49, 3) := by decide +kernel
theorem dX0_become_86 : decode cX0_become 86 = .ok (.aload_n 1, 1) := by decide +kernel
theorem dX0_become_87 : decode cX0_become 87 = .ok (.getfield 30, 3) := by decide +kernel
theorem dX0_become_90 : decode cX0_become 90 = .ok (.iconst 0, 1) := by decide +kernel
theorem dX0_become_91 : decode cX0_become 91 = .ok (.aload_n 0, 1) := by decide +kernel
theorem dX0_become_92 : decode cX0_become 92 = .ok (.getfield 30, 3) := by decide +kernel
theorem dX0_become_95 : decode cX0_become 95 = .ok (.iconst 0, 1) := by decide +kernel
theorem dX0_become_96 : decode cX0_become 96 = .ok (.bipush 10, 2) := by decide +kernel
theorem dX0_become_98 : decode cX0_become 98 = .ok (.invokestatic 49, 3) := by decide +kernel
theorem dX0_become_101 : decode cX0_become 101 = .ok (.aload_n 0, 1) := by decide +kernel
theorem dX0_become_102 : decode cX0_become 102 = .ok (.aload_n 1, 1) := by decide +kernel
theorem dX0_become_103 : decode cX0_become 103 = .ok (.getfield 33, 3) := by decide +kernel
theorem dX0_become_106 : decode cX0_become 106 = .ok (.putfield 33, 3) := by decide +kernel
theorem dX0_become_109 : decode cX0_become 109 = .ok (.aload_n 0, 1) := by decide +kernel
theorem dX0_become_110 : decode cX0_become 110 = .ok (.aload_n 1, 1) := by decide +kernel
theorem dX0_become_111 : decode cX0_become 111 = .ok (.getfield 37, 3) := by decide +kernel
theorem dX0_become_114 : decode cX0_become 114 = .ok (.putfield 37, 3) := by decide +kernel
theorem dX0_become_117 : decode cX0_become 117 = .ok (.aload_n 0, 1) := by decide +kernel
theorem dX0_become_118 : decode cX0_become 118 = .ok (.aload_n 1, 1) := by decide +kernel
theorem dX0_become_119 : decode cX0_become 119 = .ok (.getfield 40, 3) := by decide +kernel
theorem dX0_become_122 : decode cX0_become 122 = .ok (.putfield 40, 3) := by decide +kernel
theorem dX0_become_125 : decode cX0_become 125 = .ok (.return_, 1) := by decide +kernel
theorem dX0_hasMostBars_0 : decode cX0_hasMostBars 0 = .ok (.aload_n 0, 1) := by decide +kernel
theorem dX0_hasMostBars_1 : decode cX0_hasMostBars 1 = .ok (.getfield 33, 3) := by decide +kernel
theorem dX0_hasMostBars_4 : decode cX0_hasMostBars 4 = .ok (.iconst 4, 1) := by decide +kernel
theorem dX0_hasMostBars_5 : decode cX0_hasMostBars 5 = .ok (.if_icmp .lt 7, 3) := by decide +kernel
theorem dX0_hasMostBars_8 : decode cX0_hasMostBars 8 = .ok (.iconst 1, 1) := by decide +kernel
theorem dX0_hasMostBars_9 : decode cX0_hasMostBars 9 = .ok (.goto 4, 3) := by decide +kernel
theorem dX0_hasMostBars_12 : decode cX0_hasMostBars 12 = .ok (.iconst 0, 1) := by decide +kernel
theorem dX0_hasMostBars_13 : decode cX0_hasMostBars 13 = .ok (.ireturn, 1) := by decide +kernel
theorem dX0_hasBar_0 : decode cX0_hasBar 0 = .ok (.iload_n 1, 1) := by decide +kernel
theorem dX0_hasBar_1 : decode cX0_hasBar 1 = .ok (.ifCond .lt 20, 3) := by decide +kernel
theorem dX0_hasBar_4 : decode cX0_hasBar 4 = .ok (.iload_n 1, 1) := by decide +kernel
theorem dX0_hasBar_5 : decode cX0_hasBar 5 = .ok (.aload_n 0, 1) := by decide +kernel
theorem dX0_hasBar_6 : decode cX0_hasBar 6 = .ok (.getfield 33, 3) := by decide +kernel
theorem dX0_hasBar_9 : decode cX0_hasBar 9 = .ok (.if_icmp .ge 12, 3) := by decide +kernel
theorem dX0_hasBar_12 : decode cX0_hasBar 12 = .ok (.iload_n 1, 1) := by decide +kernel
theorem dX0_hasBar_13 : decode cX0_hasBar 13 = .ok (.iconst 4, 1) := by decide +kernel
theorem dX0_hasBar_14 : decode cX0_hasBar 14 = .ok (.if_icmp .ge 7, 3) := by decide +kernel
theorem dX0_hasBar_17 : decode cX0_hasBar 17 = .ok (.iconst 1, 1) := by decide +kernel
theorem dX0_hasBar_18 : decode cX0_hasBar 18 = .ok (.goto 4, 3) := by decide +kernel
theorem dX0_hasBar_21 : decode cX0_hasBar 21 = .ok (.iconst 0, 1) := by decide +kernel
theorem dX0_hasBar_22 : decode cX0_hasBar 22 = .ok (.ireturn, 1) := by decide +kernel
theorem dX0_hasSet_0 : decode cX0_hasSet 0 = .ok (.aload_n 0, 1) := by decide +kernel
theorem dX0_hasSet_1 : decode cX0_hasSet 1 = .ok (.iload_n 1, 1) := by decide +kernel
theorem dX0_hasSet_2 : decode cX0_hasSet 2 = .ok (.invokevirtual 55, 3) := by decide +kernel
theorem dX0_hasSet_5 : decode cX0_hasSet 5 = .ok (.ifCond .eq 26, 3) := by decide +kernel
theorem dX0_hasSet_8 : decode cX0_hasSet 8 = .ok (.lload_n 2, 1) := by decide +kernel
theorem dX0_hasSet_9 : decode cX0_hasSet 9 = .ok (.lconst 0, 1) := by decide +kernel
theorem dX0_hasSet_10 : decode cX0_hasSet 10 = .ok (.lcmp, 1) := by decide +kernel
theorem dX0_hasSet_11 : decode cX0_hasSet 11 = .ok (.ifCond .lt 20, 3) := by decide +kernel
theorem dX0_hasSet_14 : decode cX0_hasSet 14 = .ok (.lload_n 2, 1) := by decide +kernel
theorem dX0_hasSet_15 : decode cX0_hasSet 15 = .ok (.lconst 1, 1) := by decide +kernel
theorem dX0_hasSet_16 : decode cX0_hasSet 16 = .ok (.aload_n 0, 1) := by decide +kernel
theorem dX0_hasSet_17 : decode cX0_hasSet 17 = .ok (.getfield 15, 3) := by decide +kernel
theorem dX0_hasSet_20 : decode cX0_hasSet 20 = .ok (.iload_n 1, 1) := by decide +kernel
theorem dX0_hasSet_21 : decode cX0_hasSet 21 = .ok (.iaload, 1) := by decide +kernel
theorem dX0_hasSet_22 : decode cX0_hasSet 22 = .ok (.lshl, 1) := by decide +kernel
theorem dX0_hasSet_23 : decode cX0_hasSet 23 = .ok (.lcmp, 1) := by decide +kernel
theorem dX0_hasSet_24 : decode cX0_hasSet 24 = .ok (.ifCond .ge 7, 3) := by decide +kernel
theorem dX0_hasSet_27 : decode cX0_hasSet 27 = .ok (.iconst 1, 1) := by decide +kernel
theorem dX0_hasSet_28 : decode cX0_hasSet 28 = .ok (.goto 4, 3) := by decide +kernel
theorem dX0_hasSet_31 : decode cX0_hasSet 31 = .ok (.iconst 0, 1) := by decide +kernel
theorem dX0_hasSet_32 : decode cX0_hasSet 32 = .ok (.ireturn, 1) := by decide +kernel
theorem dX0_hasRing_0 : decode cX0_hasRing 0 = .ok (.aload_n 0, 1) := by decide +kernel
theorem dX0_hasRing_1 : decode cX0_hasRing 1 = .ok (.iload_n 1, 1) := by decide +kernel
theorem dX0_hasRing_2 : decode cX0_hasRing 2 = .ok (.invokevirtual 55, 3) := by decide +kernel
theorem dX0_hasRing_5 : decode cX0_hasRing 5 = .ok (.ifCond .eq 27, 3) := by decide +kernel
theorem dX0_hasRing_8 : decode cX0_hasRing 8 = .ok (.iload_n 2, 1) := by decide +kernel
theorem dX0_hasRing_9 : decode cX0_hasRing 9 = .ok (.ifCond .lt 23, 3) := by decide +kernel
theorem dX0_hasRing_12 : decode cX0_hasRing 12 = .ok (.iload_n 2, 1) := by decide +kernel
theorem dX0_hasRing_13 : decode cX0_hasRing 13 = .ok (.aload_n 0, 1) := by decide +kernel
theorem dX0_hasRing_14 : decode cX0_hasRing 14 = .ok (.getfield 15, 3) := by decide +kernel
theorem dX0_hasRing_17 : decode cX0_hasRing 17 = .ok (.iload_n 1, 1) := by decide +kernel
theorem dX0_hasRing_18 : decode cX0_hasRing 18 = .ok (.iaload, 1) := by decide +kernel
theorem dX0_hasRing_19 : decode cX0_hasRing 19 = .ok (.if_icmp .ge 13, 3) := by decide +kernel
theorem dX0_hasRing_22 : decode cX0_hasRing 22 = .ok (.iload_n 2, 1) := by decide +kernel
theorem dX0_hasRing_23 : decode cX0_hasRing 23 = .ok (.bipush 10, 2) := by decide +kernel
theorem dX0_hasRing_25 : decode cX0_hasRing 25 = .ok (.if_icmp .ge 7, 3) := by decide +kernel
theorem dX0_hasRing_28 : decode cX0_hasRing 28 = .ok (.iconst 1, 1) := by decide +kernel
theorem dX0_hasRing_29 : decode cX0_hasRing 29 = .ok (.goto 4, 3) := by decide +kernel
theorem dX0_hasRing_32 : decode cX0_hasRing 32 = .ok (.iconst 0, 1) := by decide +kernel
theorem dX0_hasRing_33 : decode cX0_hasRing 33 = .ok (.ireturn, 1) := by decide +kernel
theorem dX0_hasMove_0 : decode cX0_hasMove 0 = .ok (.iload_n 2, 1) := by decide +kernel
theorem dX0_hasMove_1 : decode cX0_hasMove 1 = .ok (.bipush 20, 2) := by decide +kernel
theorem dX0_hasMove_3 : decode cX0_hasMove 3 = .ok (.if_icmp .ne 27, 3) := by decide +kernel
theorem dX0_hasMove_6 : decode cX0_hasMove 6 = .ok (.aload_n 0, 1) := by decide +kernel
theorem dX0_hasMove_7 : decode cX0_hasMove 7 = .ok (.iload_n 1, 1) := by decide +kernel
theorem dX0_hasMove_8 : decode cX0_hasMove 8 = .ok (.invokevirtual 59, 3) := by decide +kernel
theorem dX0_hasMove_11 : decode cX0_hasMove 11 = .ok (.iconst 2, 1) := by decide +kernel
theorem dX0_hasMove_12 : decode cX0_hasMove 12 = .ok (.if_icmp .ne 16, 3) := by decide +kernel
theorem dX0_hasMove_15 : decode cX0_hasMove 15 = .ok (.aload_n 0, 1) := by decide +kernel
theorem dX0_hasMove_16 : decode cX0_hasMove 16 = .ok (.iload_n 1, 1) := by decide +kernel
theorem dX0_hasMove_17 : decode cX0_hasMove 17 = .ok (.invokevirtual 63, 3) := by decide +kernel
theorem dX0_hasMove_20 : decode cX0_hasMove 20 = .ok (.iconst 2, 1) := by decide +kernel
theorem dX0_hasMove_21 : decode cX0_hasMove 21 = .ok (.if_icmp .lt 7, 3) := by decide +kernel
theorem dX0_hasMove_24 : decode cX0_hasMove 24 = .ok (.iconst 1, 1) := by decide +kernel
theorem dX0_hasMove_25 : decode cX0_hasMove 25 = .ok (.goto 4, 3) := by decide +kernel
theorem dX0_hasMove_28 : decode cX0_hasMove 28 = .ok (.iconst 0, 1) := by decide +kernel
theorem dX0_hasMove_29 : decode cX0_hasMove 29 = .ok (.ireturn, 1) := by decide +kernel
theorem dX0_hasMove_30 : decode cX0_hasMove 30 = .ok (.aload_n 0, 1) := by decide +kernel
theorem dX0_hasMove_31 : decode cX0_hasMove 31 = .ok (.iload_n 1, 1) := by decide +kernel
theorem dX0_hasMove_32 : decode cX0_hasMove 32 = .ok (.iload_n 2, 1) := by decide +kernel
theorem dX0_hasMove_33 : decode cX0_hasMove 33 = .ok (.invokevirtual 66, 3) := by decide +kernel
theorem dX0_hasMove_36 : decode cX0_hasMove 36 = .ok (.ireturn, 1) := by decide +kernel
theorem dX0_kindOf_0 : decode cX0_kindOf 0 = .ok (.aload_n 0, 1) := by decide +kernel
theorem dX0_kindOf_1 : decode cX0_kindOf 1 = .ok (.iload_n 1, 1) := by decide +kernel
theorem dX0_kindOf_2 : decode cX0_kindOf 2 = .ok (.invokevirtual 55, 3) := by decide +kernel
theorem dX0_kindOf_5 : decode cX0_kindOf 5 = .ok (.ifCond .eq 12, 3) := by decide +kernel
theorem dX0_kindOf_8 : decode cX0_kindOf 8 = .ok (.aload_n 0, 1) := by decide +kernel
theorem dX0_kindOf_9 : decode cX0_kindOf 9 = .ok (.getfield 9, 3) := by decide +kernel
theorem dX0_kindOf_12 : decode cX0_kindOf 12 = .ok (.iload_n 1, 1) := by decide +kernel
theorem dX0_kindOf_13 : decode cX0_kindOf 13 = .ok (.iaload, 1) := by decide +kernel
theorem dX0_kindOf_14 : decode cX0_kindOf 14 = .ok (.goto 4, 3) := by decide +kernel
theorem dX0_kindOf_17 : decode cX0_kindOf 17 = .ok (.iconst (-1), 1) := by decide +kernel
theorem dX0_kindOf_18 : decode cX0_kindOf 18 = .ok (.ireturn, 1) := by decide +kernel
theorem dX0_sizeOf_0 : decode cX0_sizeOf 0 = .ok (.aload_n 0, 1) := by decide +kernel
theorem dX0_sizeOf_1 : decode cX0_sizeOf 1 = .ok (.iload_n 1, 1) := by decide +kernel
theorem dX0_sizeOf_2 : decode cX0_sizeOf 2 = .ok (.invokevirtual 55, 3) := by decide +kernel
theorem dX0_sizeOf_5 : decode cX0_sizeOf 5 = .ok (.ifCond .eq 12, 3) := by decide +kernel
theorem dX0_sizeOf_8 : decode cX0_sizeOf 8 = .ok (.aload_n 0, 1) := by decide +kernel
theorem dX0_sizeOf_9 : decode cX0_sizeOf 9 = .ok (.getfield 15, 3) := by decide +kernel
theorem dX0_sizeOf_12 : decode cX0_sizeOf 12 = .ok (.iload_n 1, 1) := by decide +kernel
theorem dX0_sizeOf_13 : decode cX0_sizeOf 13 = .ok (.iaload, 1) := by decide +kernel
theorem dX0_sizeOf_14 : decode cX0_sizeOf 14 = .ok (.goto 4, 3) := by decide +kernel
theorem dX0_sizeOf_17 : decode cX0_sizeOf 17 = .ok (.iconst 0, 1) := by decide +kernel
theorem dX0_sizeOf_18 : decode cX0_sizeOf 18 = .ok (.ireturn, 1) := by decide +kernel
theorem dX0_onOf_0 : decode cX0_onOf 0 = .ok (.aload_n 0, 1) := by decide +kernel
theorem dX0_onOf_1 : decode cX0_onOf 1 = .ok (.iload_n 1, 1) := by decide +kernel
theorem dX0_onOf_2 : decode cX0_onOf 2 = .ok (.invokevirtual 55, 3) := by decide +kernel
theorem dX0_onOf_5 : decode cX0_onOf 5 = .ok (.ifCond .eq 12, 3) := by decide +kernel
theorem dX0_onOf_8 : decode cX0_onOf 8 = .ok (.aload_n 0, 1) := by decide +kernel
theorem dX0_onOf_9 : decode cX0_onOf 9 = .ok (.getfield 18, 3) := by decide +kernel
theorem dX0_onOf_12 : decode cX0_onOf 12 = .ok (.iload_n 1, 1) := by decide +kernel
theorem dX0_onOf_13 : decode cX0_onOf 13 = .ok (.iaload, 1) := by decide +kernel
theorem dX0_onOf_14 : decode cX0_onOf 14 = .ok (.goto 4, 3) := by decide +kernel
theorem dX0_onOf_17 : decode cX0_onOf 17 = .ok (.iconst 0, 1) := by decide +kernel
theorem dX0_onOf_18 : decode cX0_onOf 18 = .ok (.ireturn, 1) := by decide +kernel
theorem dX0_stuckOf_0 : decode cX0_stuckOf 0 = .ok (.aload_n 0, 1) := by decide +kernel
theorem dX0_stuckOf_1 : decode cX0_stuckOf 1 = .ok (.iload_n 1, 1) := by decide +kernel
theorem dX0_stuckOf_2 : decode cX0_stuckOf 2 = .ok (.invokevirtual 55, 3) := by decide +kernel
theorem dX0_stuckOf_5 : decode cX0_stuckOf 5 = .ok (.ifCond .eq 12, 3) := by decide +kernel
theorem dX0_stuckOf_8 : decode cX0_stuckOf 8 = .ok (.aload_n 0, 1) := by decide +kernel
theorem dX0_stuckOf_9 : decode cX0_stuckOf 9 = .ok (.getfield 21, 3) := by decide +kernel
theorem dX0_stuckOf_12 : decode cX0_stuckOf 12 = .ok (.iload_n 1, 1) := by decide +kernel
theorem dX0_stuckOf_13 : decode cX0_stuckOf 13 = .ok (.iaload, 1) := by decide +kernel
theorem dX0_stuckOf_14 : decode cX0_stuckOf 14 = .ok (.goto 4, 3) := by decide +kernel
theorem dX0_stuckOf_17 : decode cX0_stuckOf 17 = .ok (.iconst 0, 1) := by decide +kernel
theorem dX0_stuckOf_18 : decode cX0_stuckOf 18 = .ok (.ireturn, 1) := by decide +kernel
theorem dX0_mustOf_0 : decode cX0_mustOf 0 = .ok (.aload_n 0, 1) := by decide +kernel
theorem dX0_mustOf_1 : decode cX0_mustOf 1 = .ok (.iload_n 1, 1) := by decide +kernel
theorem dX0_mustOf_2 : decode cX0_mustOf 2 = .ok (.iload_n 2, 1) := by decide +kernel
theorem dX0_mustOf_3 : decode cX0_mustOf 3 = .ok (.invokevirtual 66, 3) := by decide +kernel
theorem dX0_mustOf_6 : decode cX0_mustOf 6 = .ok (.ifCond .eq 17, 3) := by decide +kernel
theorem dX0_mustOf_9 : decode cX0_mustOf 9 = .ok (.aload_n 0, 1) := by decide +kernel
theorem dX0_mustOf_10 : decode cX0_mustOf 10 = .ok (.getfield 24, 3) := by decide +kernel
theorem dX0_mustOf_13 : decode cX0_mustOf 13 = .ok (.iload_n 1, 1) := by decide +kernel
theorem dX0_mustOf_14 : decode cX0_mustOf 14 = .ok (.bipush 10, 2) := by decide +kernel
theorem dX0_mustOf_16 : decode cX0_mustOf 16 = .ok (.imul, 1) := by decide +kernel
theorem dX0_mustOf_17 : decode cX0_mustOf 17 = .ok (.iload_n 2, 1) := by decide +kernel
theorem dX0_mustOf_18 : decode cX0_mustOf 18 = .ok (.iadd, 1) := by decide +kernel
theorem dX0_mustOf_19 : decode cX0_mustOf 19 = .ok (.iaload, 1) := by decide +kernel
theorem dX0_mustOf_20 : decode cX0_mustOf 20 = .ok (.goto 4, 3) := by decide +kernel
theorem dX0_mustOf_23 : decode cX0_mustOf 23 = .ok (.iconst 0, 1) := by decide +kernel
theorem dX0_mustOf_24 : decode cX0_mustOf 24 = .ok (.ireturn, 1) := by decide +kernel
theorem dX0_notOf_0 : decode cX0_notOf 0 = .ok (.aload_n 0, 1) := by decide +kernel
theorem dX0_notOf_1 : decode cX0_notOf 1 = .ok (.iload_n 1, 1) := by decide +kernel
theorem dX0_notOf_2 : decode cX0_notOf 2 = .ok (.iload_n 2, 1) := by decide +kernel
theorem dX0_notOf_3 : decode cX0_notOf 3 = .ok (.invokevirtual 66, 3) := by decide +kernel
theorem dX0_notOf_6 : decode cX0_notOf 6 = .ok (.ifCond .eq 17, 3) := by decide +kernel
theorem dX0_notOf_9 : decode cX0_notOf 9 = .ok (.aload_n 0, 1) := by decide +kernel
theorem dX0_notOf_10 : decode cX0_notOf 10 = .ok (.getfield 27, 3) := by decide +kernel
theorem dX0_notOf_13 : decode cX0_notOf 13 = .ok (.iload_n 1, 1) := by decide +kernel
theorem dX0_notOf_14 : decode cX0_notOf 14 = .ok (.bipush 10, 2) := by decide +kernel
theorem dX0_notOf_16 : decode cX0_notOf 16 = .ok (.imul, 1) := by decide +kernel
theorem dX0_notOf_17 : decode cX0_notOf 17 = .ok (.iload_n 2, 1) := by decide +kernel
theorem dX0_notOf_18 : decode cX0_notOf 18 = .ok (.iadd, 1) := by decide +kernel
theorem dX0_notOf_19 : decode cX0_notOf 19 = .ok (.iaload, 1) := by decide +kernel
theorem dX0_notOf_20 : decode cX0_notOf 20 = .ok (.goto 4, 3) := by decide +kernel
theorem dX0_notOf_23 : decode cX0_notOf 23 = .ok (.iconst 0, 1) := by decide +kernel
theorem dX0_notOf_24 : decode cX0_notOf 24 = .ok (.ireturn, 1) := by decide +kernel
theorem dX0_tabledRings_0 : decode cX0_tabledRings 0 = .ok (.iconst 0, 1) := by decide +kernel
theorem dX0_tabledRings_1 : decode cX0_tabledRings 1 = .ok (.istore_n 2, 1) := by decide +kernel
theorem dX0_tabledRings_2 : decode cX0_tabledRings 2 = .ok (.iconst 0, 1) := by decide +kernel
theorem dX0_tabledRings_3 : decode cX0_tabledRings 3 = .ok (.istore_n 3, 1) := by decide +kernel
theorem dX0_tabledRings_4 : decode cX0_tabledRings 4 = .ok (.iload_n 3, 1) := by decide +kernel
theorem dX0_tabledRings_5 : decode cX0_tabledRings 5 = .ok (.aload_n 0, 1) := by decide +kernel
theorem dX0_tabledRings_6 : decode cX0_tabledRings 6 = .ok (.iload_n 1, 1) := by decide +kernel
theorem dX0_tabledRings_7 : decode cX0_tabledRings 7 = .ok (.invokevirtual 63, 3) := by decide +kernel
theorem dX0_tabledRings_10 : decode cX0_tabledRings 10 = .ok (.if_icmp .ge 30, 3) := by decide +kernel
theorem dX0_tabledRings_13 : decode cX0_tabledRings 13 = .ok (.aload_n 0, 1) := by decide +kernel
theorem dX0_tabledRings_14 : decode cX0_tabledRings 14 = .ok (.iload_n 1, 1) := by decide +kernel
theorem dX0_tabledRings_15 : decode cX0_tabledRings 15 = .ok (.iload_n 3, 1) := by decide +kernel
theorem dX0_tabledRings_16 : decode cX0_tabledRings 16 = .ok (.invokevirtual 70, 3) := by decide +kernel
theorem dX0_tabledRings_19 : decode cX0_tabledRings 19 = .ok (.ifCond .ne 12, 3) := by decide +kernel
theorem dX0_tabledRings_22 : decode cX0_tabledRings 22 = .ok (.aload_n 0, 1) := by decide +kernel
theorem dX0_tabledRings_23 : decode cX0_tabledRings 23 = .ok (.iload_n 1, 1) := by decide +kernel
theorem dX0_tabledRings_24 : decode cX0_tabledRings 24 = .ok (.iload_n 3, 1) := by decide +kernel
theorem dX0_tabledRings_25 : decode cX0_tabledRings 25 = .ok (.invokevirtual 74, 3) := by decide +kernel
theorem dX0_tabledRings_28 : decode cX0_tabledRings 28 = .ok (.ifCond .eq 6, 3) := by decide +kernel
theorem dX0_tabledRings_31 : decode cX0_tabledRings 31 = .ok (.iinc 2 1, 3) := by decide +kernel
theorem dX0_tabledRings_34 : decode cX0_tabledRings 34 = .ok (.iinc 3 1, 3) := by decide +kernel
theorem dX0_tabledRings_37 : decode cX0_tabledRings 37 = .ok (.goto (-33), 3) := by decide +kernel
theorem dX0_tabledRings_40 : decode cX0_tabledRings 40 = .ok (.iload_n 2, 1) := by decide +kernel
theorem dX0_tabledRings_41 : decode cX0_tabledRings 41 = .ok (.ireturn, 1) := by decide +kernel
theorem dX0_addBar_0 : decode cX0_addBar 0 = .ok (.aload_n 0, 1) := by decide +kernel
theorem dX0_addBar_1 : decode cX0_addBar 1 = .ok (.getfield 33, 3) := by decide +kernel
theorem dX0_addBar_4 : decode cX0_addBar 4 = .ok (.istore_n 3, 1) := by decide +kernel
theorem dX0_addBar_5 : decode cX0_addBar 5 = .ok (.iload_n 3, 1) := by decide +kernel
theorem dX0_addBar_6 : decode cX0_addBar 6 = .ok (.ifCond .lt 8, 3) := by decide +kernel
theorem dX0_addBar_9 : decode cX0_addBar 9 = .ok (.iload_n 3, 1) := by decide +kernel
theorem dX0_addBar_10 : decode cX0_addBar 10 = .ok (.iconst 4, 1) := by decide +kernel
theorem dX0_addBar_11 : decode cX0_addBar 11 = .ok (.if_icmp .lt 5, 3) := by decide +kernel
theorem dX0_addBar_14 : decode cX0_addBar 14 = .ok (.iconst (-1), 1) := by decide +kernel
theorem dX0_addBar_15 : decode cX0_addBar 15 = .ok (.ireturn, 1) := by decide +kernel
theorem dX0_addBar_16 : decode cX0_addBar 16 = .ok (.aload_n 0, 1) := by decide +kernel
theorem dX0_addBar_17 : decode cX0_addBar 17 = .ok (.dup, 1) := by decide +kernel
theorem dX0_addBar_18 : decode cX0_addBar 18 = .ok (.getfield 33, 3) := by decide +kernel
theorem dX0_addBar_21 : decode cX0_addBar 21 = .ok (.iconst 1, 1) := by decide +kernel
theorem dX0_addBar_22 : decode cX0_addBar 22 = .ok (.iadd, 1) := by decide +kernel
theorem dX0_addBar_23 : decode cX0_addBar 23 = .ok (.putfield 33, 3) := by decide +kernel
theorem dX0_addBar_26 : decode cX0_addBar 26 = .ok (.aload_n 0, 1) := by decide +kernel
theorem dX0_addBar_27 : decode cX0_addBar 27 = .ok (.getfield 9, 3) := by decide +kernel
theorem dX0_addBar_30 : decode cX0_addBar 30 = .ok (.iload_n 3, 1) := by decide +kernel
theorem dX0_addBar_31 : decode cX0_addBar 31 = .ok (.iload_n 1, 1) := by decide +kernel
theorem dX0_addBar_32 : decode cX0_addBar 32 = .ok (.iastore, 1) := by decide +kernel
theorem dX0_addBar_33 : decode cX0_addBar 33 = .ok (.aload_n 0, 1) := by decide +kernel
theorem dX0_addBar_34 : decode cX0_addBar 34 = .ok (.getfield 15, 3) := by decide +kernel
theorem dX0_addBar_37 : decode cX0_addBar 37 = .ok (.iload_n 3, 1) := by decide +kernel
theorem dX0_addBar_38 : decode cX0_addBar 38 = .ok (.iload_n 2, 1) := by decide +kernel
theorem dX0_addBar_39 : decode cX0_addBar 39 = .ok (.iastore, 1) := by decide +kernel
theorem dX0_addBar_40 : decode cX0_addBar 40 = .ok (.aload_n 0, 1) := by decide +kernel
theorem dX0_addBar_41 : decode cX0_addBar 41 = .ok (.getfield 18, 3) := by decide +kernel
theorem dX0_addBar_44 : decode cX0_addBar 44 = .ok (.iload_n 3, 1) := by decide +kernel
theorem dX0_addBar_45 : decode cX0_addBar 45 = .ok (.iconst 1, 1) := by decide +kernel
theorem dX0_addBar_46 : decode cX0_addBar 46 = .ok (.iload_n 2, 1) := by decide +kernel
theorem dX0_addBar_47 : decode cX0_addBar 47 = .ok (.ishl, 1) := by decide +kernel
theorem dX0_addBar_48 : decode cX0_addBar 48 = .ok (.iconst 1, 1) := by decide +kernel
theorem dX0_addBar_49 : decode cX0_addBar 49 = .ok (.isub, 1) := by decide +kernel
theorem dX0_addBar_50 : decode cX0_addBar 50 = .ok (.iastore, 1) := by decide +kernel
theorem dX0_addBar_51 : decode cX0_addBar 51 = .ok (.aload_n 0, 1) := by decide +kernel
theorem dX0_addBar_52 : decode cX0_addBar 52 = .ok (.getfield 21, 3) := by decide +kernel
theorem dX0_addBar_55 : decode cX0_addBar 55 = .ok (.iload_n 3, 1) := by decide +kernel
theorem dX0_addBar_56 : decode cX0_addBar 56 = .ok (.iconst 0, 1) := by decide +kernel
theorem dX0_addBar_57 : decode cX0_addBar 57 = .ok (.iastore, 1) := by decide +kernel
theorem dX0_addBar_58 : decode cX0_addBar 58 = .ok (.iconst 0, 1) := by decide +kernel
theorem dX0_addBar_59 : decode cX0_addBar 59 = .ok (.istore 4, 2) := by decide +kernel
theorem dX0_addBar_61 : decode cX0_addBar 61 = .ok (.iload 4, 2) := by decide +kernel
theorem dX0_addBar_63 : decode cX0_addBar 63 = .ok (.bipush 10, 2) := by decide +kernel
theorem dX0_addBar_65 : decode cX0_addBar 65 = .ok (.if_icmp .ge 35, 3) := by decide +kernel
theorem dX0_addBar_68 : decode cX0_addBar 68 = .ok (.aload_n 0, 1) := by decide +kernel
theorem dX0_addBar_69 : decode cX0_addBar 69 = .ok (.getfield 24, 3) := by decide +kernel
theorem dX0_addBar_72 : decode cX0_addBar 72 = .ok (.iload_n 3, 1) := by decide +kernel
theorem dX0_addBar_73 : decode cX0_addBar 73 = .ok (.bipush 10, 2) := by decide +kernel
theorem dX0_addBar_75 : decode cX0_addBar 75 = .ok (.imul, 1) := by decide +kernel
theorem dX0_addBar_76 : decode cX0_addBar 76 = .ok (.iload 4, 2) := by decide +kernel
theorem dX0_addBar_78 : decode cX0_addBar 78 = .ok (.iadd, 1) := by decide +kernel
theorem dX0_addBar_79 : decode cX0_addBar 79 = .ok (.iconst 0, 1) := by decide +kernel
theorem dX0_addBar_80 : decode cX0_addBar 80 = .ok (.iastore, 1) := by decide +kernel
theorem dX0_addBar_81 : decode cX0_addBar 81 = .ok (.aload_n 0, 1) := by decide +kernel
theorem dX0_addBar_82 : decode cX0_addBar 82 = .ok (.getfield 27, 3) := by decide +kernel
theorem dX0_addBar_85 : decode cX0_addBar 85 = .ok (.iload_n 3, 1) := by decide +kernel
theorem dX0_addBar_86 : decode cX0_addBar 86 = .ok (.bipush 10, 2) := by decide +kernel
theorem dX0_addBar_88 : decode cX0_addBar 88 = .ok (.imul, 1) := by decide +kernel
theorem dX0_addBar_89 : decode cX0_addBar 89 = .ok (.iload 4, 2) := by decide +kernel
theorem dX0_addBar_91 : decode cX0_addBar 91 = .ok (.iadd, 1) := by decide +kernel
theorem dX0_addBar_92 : decode cX0_addBar 92 = .ok (.iconst 0, 1) := by decide +kernel
theorem dX0_addBar_93 : decode cX0_addBar 93 = .ok (.iastore, 1) := by decide +kernel
theorem dX0_addBar_94 : decode cX0_addBar 94 = .ok (.iinc 4 1, 3) := by decide +kernel
theorem dX0_addBar_97 : decode cX0_addBar 97 = .ok (.goto (-36), 3) := by decide +kernel
theorem dX0_addBar_100 : decode cX0_addBar 100 = .ok (.iload_n 3, 1) := by decide +kernel
theorem dX0_addBar_101 : decode cX0_addBar 101 = .ok (.ireturn, 1) := by decide +kernel
theorem dX0_turnOn_0 : decode cX0_turnOn 0 = .ok (.aload_n 0, 1) := by decide +kernel
theorem dX0_turnOn_1 : decode cX0_turnOn 1 = .ok (.iload_n 1, 1) := by decide +kernel
theorem dX0_turnOn_2 : decode cX0_turnOn 2 = .ok (.invokevirtual 55, 3) := by decide +kernel
theorem dX0_turnOn_5 : decode cX0_turnOn 5 = .ok (.ifCond .eq 10, 3) := by decide +kernel
theorem dX0_turnOn_8 : decode cX0_turnOn 8 = .ok (.aload_n 0, 1) := by decide +kernel
theorem dX0_turnOn_9 : decode cX0_turnOn 9 = .ok (.getfield 18, 3) := by decide +kernel
theorem dX0_turnOn_12 : decode cX0_turnOn 12 = .ok (.iload_n 1, 1) := by decide +kernel
theorem dX0_turnOn_13 : decode cX0_turnOn 13 = .ok (.iload_n 2, 1) := by decide +kernel
theorem dX0_turnOn_14 : decode cX0_turnOn 14 = .ok (.iastore, 1) := by decide +kernel
theorem dX0_turnOn_15 : decode cX0_turnOn 15 = .ok (.return_, 1) := by decide +kernel
theorem dX0_fasten_0 : decode cX0_fasten 0 = .ok (.aload_n 0, 1) := by decide +kernel
theorem dX0_fasten_1 : decode cX0_fasten 1 = .ok (.iload_n 1, 1) := by decide +kernel
theorem dX0_fasten_2 : decode cX0_fasten 2 = .ok (.invokevirtual 55, 3) := by decide +kernel
theorem dX0_fasten_5 : decode cX0_fasten 5 = .ok (.ifCond .eq 10, 3) := by decide +kernel
theorem dX0_fasten_8 : decode cX0_fasten 8 = .ok (.aload_n 0, 1) := by decide +kernel
theorem dX0_fasten_9 : decode cX0_fasten 9 = .ok (.getfield 21, 3) := by decide +kernel
theorem dX0_fasten_12 : decode cX0_fasten 12 = .ok (.iload_n 1, 1) := by decide +kernel
theorem dX0_fasten_13 : decode cX0_fasten 13 = .ok (.iload_n 2, 1) := by decide +kernel
theorem dX0_fasten_14 : decode cX0_fasten 14 = .ok (.iastore, 1) := by decide +kernel
theorem dX0_fasten_15 : decode cX0_fasten 15 = .ok (.return_, 1) := by decide +kernel
theorem dX0_tell_0 : decode cX0_tell 0 = .ok (.aload_n 0, 1) := by decide +kernel
theorem dX0_tell_1 : decode cX0_tell 1 = .ok (.iload_n 1, 1) := by decide +kernel
theorem dX0_tell_2 : decode cX0_tell 2 = .ok (.iload_n 2, 1) := by decide +kernel
theorem dX0_tell_3 : decode cX0_tell 3 = .ok (.invokevirtual 66, 3) := by decide +kernel
theorem dX0_tell_6 : decode cX0_tell 6 = .ok (.ifCond .eq 28, 3) := by decide +kernel
theorem dX0_tell_9 : decode cX0_tell 9 = .ok (.aload_n 0, 1) := by decide +kernel
theorem dX0_tell_10 : decode cX0_tell 10 = .ok (.getfield 24, 3) := by decide +kernel
theorem dX0_tell_13 : decode cX0_tell 13 = .ok (.iload_n 1, 1) := by decide +kernel
theorem dX0_tell_14 : decode cX0_tell 14 = .ok (.bipush 10, 2) := by decide +kernel
theorem dX0_tell_16 : decode cX0_tell 16 = .ok (.imul, 1) := by decide +kernel
theorem dX0_tell_17 : decode cX0_tell 17 = .ok (.iload_n 2, 1) := by decide +kernel
theorem dX0_tell_18 : decode cX0_tell 18 = .ok (.iadd, 1) := by decide +kernel
theorem dX0_tell_19 : decode cX0_tell 19 = .ok (.iload_n 3, 1) := by decide +kernel
theorem dX0_tell_20 : decode cX0_tell 20 = .ok (.iastore, 1) := by decide +kernel
theorem dX0_tell_21 : decode cX0_tell 21 = .ok (.aload_n 0, 1) := by decide +kernel
theorem dX0_tell_22 : decode cX0_tell 22 = .ok (.getfield 27, 3) := by decide +kernel
theorem dX0_tell_25 : decode cX0_tell 25 = .ok (.iload_n 1, 1) := by decide +kernel
theorem dX0_tell_26 : decode cX0_tell 26 = .ok (.bipush 10, 2) := by decide +kernel
theorem dX0_tell_28 : decode cX0_tell 28 = .ok (.imul, 1) := by decide +kernel
theorem dX0_tell_29 : decode cX0_tell 29 = .ok (.iload_n 2, 1) := by decide +kernel
theorem dX0_tell_30 : decode cX0_tell 30 = .ok (.iadd, 1) := by decide +kernel
theorem dX0_tell_31 : decode cX0_tell 31 = .ok (.iload 4, 2) := by decide +kernel
theorem dX0_tell_33 : decode cX0_tell 33 = .ok (.iastore, 1) := by decide +kernel
theorem dX0_tell_34 : decode cX0_tell 34 = .ok (.return_, 1) := by decide +kernel
theorem dX0_makeMove_0 : decode cX0_makeMove 0 = .ok (.aload_n 0, 1) := by decide +kernel
theorem dX0_makeMove_1 : decode cX0_makeMove 1 = .ok (.iload_n 1, 1) := by decide +kernel
theorem dX0_makeMove_2 : decode cX0_makeMove 2 = .ok (.invokevirtual 55, 3) := by decide +kernel
theorem dX0_makeMove_5 : decode cX0_makeMove 5 = .ok (.ifCond .eq 26, 3) := by decide +kernel
theorem dX0_makeMove_8 : decode cX0_makeMove 8 = .ok (.aload_n 0, 1) := by decide +kernel
theorem dX0_makeMove_9 : decode cX0_makeMove 9 = .ok (.getfield 18, 3) := by decide +kernel
theorem dX0_makeMove_12 : decode cX0_makeMove 12 = .ok (.iload_n 1, 1) := by decide +kernel
theorem dX0_makeMove_13 : decode cX0_makeMove 13 = .ok (.dup2, 1) := by decide +kernel
theorem dX0_makeMove_14 : decode cX0_makeMove 14 = .ok (.iaload, 1) := by decide +kernel
theorem dX0_makeMove_15 : decode cX0_makeMove 15 = .ok (.iload_n 2, 1) := by decide +kernel
theorem dX0_makeMove_16 : decode cX0_makeMove 16 = .ok (.invokestatic 77, 3) := by decide +kernel
theorem dX0_makeMove_19 : decode cX0_makeMove 19 = .ok (.ixor, 1) := by decide +kernel
theorem dX0_makeMove_20 : decode cX0_makeMove 20 = .ok (.iastore, 1) := by decide +kernel
theorem dX0_makeMove_21 : decode cX0_makeMove 21 = .ok (.aload_n 0, 1) := by decide +kernel
theorem dX0_makeMove_22 : decode cX0_makeMove 22 = .ok (.dup, 1) := by decide +kernel
theorem dX0_makeMove_23 : decode cX0_makeMove 23 = .ok (.getfield 37, 3) := by decide +kernel
theorem dX0_makeMove_26 : decode cX0_makeMove 26 = .ok (.iconst 1, 1) := by decide +kernel
theorem dX0_makeMove_27 : decode cX0_makeMove 27 = .ok (.iadd, 1) := by decide +kernel
theorem dX0_makeMove_28 : decode cX0_makeMove 28 = .ok (.putfield 37, 3) := by decide +kernel
theorem dX0_makeMove_31 : decode cX0_makeMove 31 = .ok (.return_, 1) := by decide +kernel
theorem dX0_draw_0 : decode cX0_draw 0 = .ok (.aload_n 0, 1) := by decide +kernel
theorem dX0_draw_1 : decode cX0_draw 1 = .ok (.aload_n 0, 1) := by decide +kernel
theorem dX0_draw_2 : decode cX0_draw 2 = .ok (.getfield 40, 3) := by decide +kernel
theorem dX0_draw_5 : decode cX0_draw 5 = .ok (.ldc 80, 2) := by decide +kernel
theorem dX0_draw_7 : decode cX0_draw 7 = .ok (.imul, 1) := by decide +kernel
theorem dX0_draw_8 : decode cX0_draw 8 = .ok (.sipush 12345, 3) := by decide +kernel
theorem dX0_draw_11 : decode cX0_draw 11 = .ok (.iadd, 1) := by decide +kernel
theorem dX0_draw_12 : decode cX0_draw 12 = .ok (.putfield 40, 3) := by decide +kernel
theorem dX0_draw_15 : decode cX0_draw 15 = .ok (.iload_n 1, 1) := by decide +kernel
theorem dX0_draw_16 : decode cX0_draw 16 = .ok (.ifCond .le 15, 3) := by decide +kernel
theorem dX0_draw_19 : decode cX0_draw 19 = .ok (.aload_n 0, 1) := by decide +kernel
theorem dX0_draw_20 : decode cX0_draw 20 = .ok (.getfield 40, 3) := by decide +kernel
theorem dX0_draw_23 : decode cX0_draw 23 = .ok (.bipush 16, 2) := by decide +kernel
theorem dX0_draw_25 : decode cX0_draw 25 = .ok (.iushr, 1) := by decide +kernel
theorem dX0_draw_26 : decode cX0_draw 26 = .ok (.iload_n 1, 1) := by decide +kernel
theorem dX0_draw_27 : decode cX0_draw 27 = .ok (.irem, 1) := by decide +kernel
theorem dX0_draw_28 : decode cX0_draw 28 = .ok (.goto 4, 3) := by decide +kernel
theorem dX0_draw_31 : decode cX0_draw 31 = .ok (.iconst 0, 1) := by decide +kernel
theorem dX0_draw_32 : decode cX0_draw 32 = .ok (.ireturn, 1) := by decide +kernel
theorem dX0_minutesOf_0 : decode cX0_minutesOf 0 = .ok (.iload_n 1, 1) := by decide +kernel
theorem dX0_minutesOf_1 : decode cX0_minutesOf 1 = .ok (.ifCond .lt 18, 3) := by decide +kernel
theorem dX0_minutesOf_4 : decode cX0_minutesOf 4 = .ok (.iload_n 1, 1) := by decide +kernel
theorem dX0_minutesOf_5 : decode cX0_minutesOf 5 = .ok (.bipush 10, 2) := by decide +kernel
theorem dX0_minutesOf_7 : decode cX0_minutesOf 7 = .ok (.if_icmp .ge 12, 3) := by decide +kernel
theorem dX0_minutesOf_10 : decode cX0_minutesOf 10 = .ok (.aload_n 0, 1) := by decide +kernel
theorem dX0_minutesOf_11 : decode cX0_minutesOf 11 = .ok (.getfield 30, 3) := by decide +kernel
theorem dX0_minutesOf_14 : decode cX0_minutesOf 14 = .ok (.iload_n 1, 1) := by decide +kernel
theorem dX0_minutesOf_15 : decode cX0_minutesOf 15 = .ok (.iaload, 1) := by decide +kernel
theorem dX0_minutesOf_16 : decode cX0_minutesOf 16 = .ok (.goto 4, 3) := by decide +kernel
theorem dX0_minutesOf_19 : decode cX0_minutesOf 19 = .ok (.iconst 0, 1) := by decide +kernel
theorem dX0_minutesOf_20 : decode cX0_minutesOf 20 = .ok (.ireturn, 1) := by decide +kernel
theorem dX0_setMinutes_0 : decode cX0_setMinutes 0 = .ok (.iload_n 1, 1) := by decide +kernel
theorem dX0_setMinutes_1 : decode cX0_setMinutes 1 = .ok (.ifCond .lt 16, 3) := by decide +kernel
theorem dX0_setMinutes_4 : decode cX0_setMinutes 4 = .ok (.iload_n 1, 1) := by decide +kernel
theorem dX0_setMinutes_5 : decode cX0_setMinutes 5 = .ok (.bipush 10, 2) := by decide +kernel
theorem dX0_setMinutes_7 : decode cX0_setMinutes 7 = .ok (.if_icmp .ge 10, 3) := by decide +kernel
theorem dX0_setMinutes_10 : decode cX0_setMinutes 10 = .ok (.aload_n 0, 1) := by decide +kernel
theorem dX0_setMinutes_11 : decode cX0_setMinutes 11 = .ok (.getfield 30, 3) := by decide +kernel
theorem dX0_setMinutes_14 : decode cX0_setMinutes 14 = .ok (.iload_n 1, 1) := by decide +kernel
theorem dX0_setMinutes_15 : decode cX0_setMinutes 15 = .ok (.iload_n 2, 1) := by decide +kernel
theorem dX0_setMinutes_16 : decode cX0_setMinutes 16 = .ok (.iastore, 1) := by decide +kernel
theorem dX0_setMinutes_17 : decode cX0_setMinutes 17 = .ok (.return_, 1) := by decide +kernel
theorem dX0_minutesOfMove_0 : decode cX0_minutesOfMove 0 = .ok (.iload_n 1, 1) := by decide +kernel
theorem dX0_minutesOfMove_1 : decode cX0_minutesOfMove 1 = .ok (.bipush 20, 2) := by decide +kernel
theorem dX0_minutesOfMove_3 : decode cX0_minutesOfMove 3 = .ok (.if_icmp .ne 19, 3) := by decide +kernel
theorem dX0_minutesOfMove_6 : decode cX0_minutesOfMove 6 = .ok (.aload_n 0, 1) := by decide +kernel
theorem dX0_minutesOfMove_7 : decode cX0_minutesOfMove 7 = .ok (.iconst 0, 1) := by decide +kernel
theorem dX0_minutesOfMove_8 : decode cX0_minutesOfMove 8 = .ok (.invokevirtual 81, 3) := by decide +kernel
theorem dX0_minutesOfMove_11 : decode cX0_minutesOfMove 11 = .ok (.aload_n 0, 1) := by decide +kernel
theorem dX0_minutesOfMove_12 : decode cX0_minutesOfMove 12 = .ok (.iconst 1, 1) := by decide +kernel
theorem dX0_minutesOfMove_13 : decode cX0_minutesOfMove 13 = .ok (.invokevirtual 81, 3) := by decide +kernel
theorem dX0_minutesOfMove_16 : decode cX0_minutesOfMove 16 = .ok (.invokestatic 84, 3) := by decide +kernel
theorem dX0_minutesOfMove_19 : decode cX0_minutesOfMove 19 = .ok (.goto 8, 3) := by decide +kernel
theorem dX0_minutesOfMove_22 : decode cX0_minutesOfMove 22 = .ok (.aload_n 0, 1) := by decide +kernel
theorem dX0_minutesOfMove_23 : decode cX0_minutesOfMove 23 = .ok (.iload_n 1, 1) := by decide +kernel
theorem dX0_minutesOfMove_24 : decode cX0_minutesOfMove 24 = .ok (.invokevirtual 81, 3) := by decide +kernel
theorem dX0_minutesOfMove_27 : decode cX0_minutesOfMove 27 = .ok (.ireturn, 1) := by decide +kernel
theorem dX0_minutesOfChain_0 : decode cX0_minutesOfChain 0 = .ok (.iconst 0, 1) := by decide +kernel
theorem dX0_minutesOfChain_1 : decode cX0_minutesOfChain 1 = .ok (.istore_n 2, 1) := by decide +kernel
theorem dX0_minutesOfChain_2 : decode cX0_minutesOfChain 2 = .ok (.iconst 1, 1) := by decide +kernel
theorem dX0_minutesOfChain_3 : decode cX0_minutesOfChain 3 = .ok (.iload_n 1, 1) := by decide +kernel
theorem dX0_minutesOfChain_4 : decode cX0_minutesOfChain 4 = .ok (.ishl, 1) := by decide +kernel
theorem dX0_minutesOfChain_5 : decode cX0_minutesOfChain 5 = .ok (.iconst 1, 1) := by decide +kernel
theorem dX0_minutesOfChain_6 : decode cX0_minutesOfChain 6 = .ok (.isub, 1) := by decide +kernel
theorem dX0_minutesOfChain_7 : decode cX0_minutesOfChain 7 = .ok (.i2l, 1) := by decide +kernel
theorem dX0_minutesOfChain_8 : decode cX0_minutesOfChain 8 = .ok (.invokestatic 89, 3) := by decide +kernel
theorem dX0_minutesOfChain_11 : decode cX0_minutesOfChain 11 = .ok (.l2i, 1) := by decide +kernel
theorem dX0_minutesOfChain_12 : decode cX0_minutesOfChain 12 = .ok (.istore_n 3, 1) := by decide +kernel
theorem dX0_minutesOfChain_13 : decode cX0_minutesOfChain 13 = .ok (.iload_n 3, 1) := by decide +kernel
theorem dX0_minutesOfChain_14 : decode cX0_minutesOfChain 14 = .ok (.ifCond .le 20, 3) := by decide +kernel
theorem dX0_minutesOfChain_17 : decode cX0_minutesOfChain 17 = .ok (.iload_n 2, 1) := by decide +kernel
theorem dX0_minutesOfChain_18 : decode cX0_minutesOfChain 18 = .ok (.aload_n 0, 1) := by decide +kernel
theorem dX0_minutesOfChain_19 : decode cX0_minutesOfChain 19 = .ok (.iload_n 3, 1) := by decide +kernel
theorem dX0_minutesOfChain_20 : decode cX0_minutesOfChain 20 = .ok (.invokestatic 93, 3) := by decide +kernel
theorem dX0_minutesOfChain_23 : decode cX0_minutesOfChain 23 = .ok (.invokevirtual 81, 3) := by decide +kernel
theorem dX0_minutesOfChain_26 : decode cX0_minutesOfChain 26 = .ok (.iadd, 1) := by decide +kernel
theorem dX0_minutesOfChain_27 : decode cX0_minutesOfChain 27 = .ok (.istore_n 2, 1) := by decide +kernel
theorem dX0_minutesOfChain_28 : decode cX0_minutesOfChain 28 = .ok (.iinc 3 (-1), 3) := by decide +kernel
theorem dX0_minutesOfChain_31 : decode cX0_minutesOfChain 31 = .ok (.goto (-18), 3) := by decide +kernel
theorem dX0_minutesOfChain_34 : decode cX0_minutesOfChain 34 = .ok (.iload_n 2, 1) := by decide +kernel
theorem dX0_minutesOfChain_35 : decode cX0_minutesOfChain 35 = .ok (.ireturn, 1) := by decide +kernel
theorem dX0_allMinutes_0 : decode cX0_allMinutes 0 = .ok (.iconst 0, 1) := by decide +kernel
theorem dX0_allMinutes_1 : decode cX0_allMinutes 1 = .ok (.istore_n 1, 1) := by decide +kernel
theorem dX0_allMinutes_2 : decode cX0_allMinutes 2 = .ok (.iconst 0, 1) := by decide +kernel
theorem dX0_allMinutes_3 : decode cX0_allMinutes 3 = .ok (.istore_n 2, 1) := by decide +kernel
theorem dX0_allMinutes_4 : decode cX0_allMinutes 4 = .ok (.iload_n 2, 1) := by decide +kernel
theorem dX0_allMinutes_5 : decode cX0_allMinutes 5 = .ok (.bipush 10, 2) := by decide +kernel
theorem dX0_allMinutes_7 : decode cX0_allMinutes 7 = .ok (.if_icmp .ge 18, 3) := by decide +kernel
theorem dX0_allMinutes_10 : decode cX0_allMinutes 10 = .ok (.iload_n 1, 1) := by decide +kernel
theorem dX0_allMinutes_11 : decode cX0_allMinutes 11 = .ok (.aload_n 0, 1) := by decide +kernel
theorem dX0_allMinutes_12 : decode cX0_allMinutes 12 = .ok (.getfield 30, 3) := by decide +kernel
theorem dX0_allMinutes_15 : decode cX0_allMinutes 15 = .ok (.iload_n 2, 1) := by decide +kernel
theorem dX0_allMinutes_16 : decode cX0_allMinutes 16 = .ok (.iaload, 1) := by decide +kernel
theorem dX0_allMinutes_17 : decode cX0_allMinutes 17 = .ok (.iadd, 1) := by decide +kernel
theorem dX0_allMinutes_18 : decode cX0_allMinutes 18 = .ok (.istore_n 1, 1) := by decide +kernel
theorem dX0_allMinutes_19 : decode cX0_allMinutes 19 = .ok (.iinc 2 1, 3) := by decide +kernel
theorem dX0_allMinutes_22 : decode cX0_allMinutes 22 = .ok (.goto (-18), 3) := by decide +kernel
theorem dX0_allMinutes_25 : decode cX0_allMinutes 25 = .ok (.iload_n 1, 1) := by decide +kernel
theorem dX0_allMinutes_26 : decode cX0_allMinutes 26 = .ok (.ireturn, 1) := by decide +kernel
theorem dX0_ringsOn_0 : decode cX0_ringsOn 0 = .ok (.iconst 0, 1) := by decide +kernel
theorem dX0_ringsOn_1 : decode cX0_ringsOn 1 = .ok (.istore_n 1, 1) := by decide +kernel
theorem dX0_ringsOn_2 : decode cX0_ringsOn 2 = .ok (.iconst 0, 1) := by decide +kernel
theorem dX0_ringsOn_3 : decode cX0_ringsOn 3 = .ok (.istore_n 2, 1) := by decide +kernel
theorem dX0_ringsOn_4 : decode cX0_ringsOn 4 = .ok (.iload_n 2, 1) := by decide +kernel
theorem dX0_ringsOn_5 : decode cX0_ringsOn 5 = .ok (.aload_n 0, 1) := by decide +kernel
theorem dX0_ringsOn_6 : decode cX0_ringsOn 6 = .ok (.getfield 33, 3) := by decide +kernel
theorem dX0_ringsOn_9 : decode cX0_ringsOn 9 = .ok (.if_icmp .ge 20, 3) := by decide +kernel
theorem dX0_ringsOn_12 : decode cX0_ringsOn 12 = .ok (.iload_n 1, 1) := by decide +kernel
theorem dX0_ringsOn_13 : decode cX0_ringsOn 13 = .ok (.aload_n 0, 1) := by decide +kernel
theorem dX0_ringsOn_14 : decode cX0_ringsOn 14 = .ok (.iload_n 2, 1) := by decide +kernel
theorem dX0_ringsOn_15 : decode cX0_ringsOn 15 = .ok (.invokevirtual 98, 3) := by decide +kernel
theorem dX0_ringsOn_18 : decode cX0_ringsOn 18 = .ok (.invokestatic 101, 3) := by decide +kernel
theorem dX0_ringsOn_21 : decode cX0_ringsOn 21 = .ok (.iadd, 1) := by decide +kernel
theorem dX0_ringsOn_22 : decode cX0_ringsOn 22 = .ok (.istore_n 1, 1) := by decide +kernel
theorem dX0_ringsOn_23 : decode cX0_ringsOn 23 = .ok (.iinc 2 1, 3) := by decide +kernel
theorem dX0_ringsOn_26 : decode cX0_ringsOn 26 = .ok (.goto (-22), 3) := by decide +kernel
theorem dX0_ringsOn_29 : decode cX0_ringsOn 29 = .ok (.iload_n 1, 1) := by decide +kernel
theorem dX0_ringsOn_30 : decode cX0_ringsOn 30 = .ok (.ireturn, 1) := by decide +kernel
theorem dX0_ringsStuck_0 : decode cX0_ringsStuck 0 = .ok (.iconst 0, 1) := by decide +kernel
theorem dX0_ringsStuck_1 : decode cX0_ringsStuck 1 = .ok (.istore_n 1, 1) := by decide +kernel
theorem dX0_ringsStuck_2 : decode cX0_ringsStuck 2 = .ok (.iconst 0, 1) := by decide +kernel
theorem dX0_ringsStuck_3 : decode cX0_ringsStuck 3 = .ok (.istore_n 2, 1) := by decide +kernel
theorem dX0_ringsStuck_4 : decode cX0_ringsStuck 4 = .ok (.iload_n 2, 1) := by decide +kernel
theorem dX0_ringsStuck_5 : decode cX0_ringsStuck 5 = .ok (.aload_n 0, 1) := by decide +kernel
theorem dX0_ringsStuck_6 : decode cX0_ringsStuck 6 = .ok (.getfield 33, 3) := by decide +kernel
theorem dX0_ringsStuck_9 : decode cX0_ringsStuck 9 = .ok (.if_icmp .ge 20, 3) := by decide +kernel
theorem dX0_ringsStuck_12 : decode cX0_ringsStuck 12 = .ok (.iload_n 1, 1) := by decide +kernel
theorem dX0_ringsStuck_13 : decode cX0_ringsStuck 13 = .ok (.aload_n 0, 1) := by decide +kernel
theorem dX0_ringsStuck_14 : decode cX0_ringsStuck 14 = .ok (.iload_n 2, 1) := by decide +kernel
theorem dX0_ringsStuck_15 : decode cX0_ringsStuck 15 = .ok (.invokevirtual 104, 3) := by decide +kernel
theorem dX0_ringsStuck_18 : decode cX0_ringsStuck 18 = .ok (.invokestatic 101, 3) := by decide +kernel
theorem dX0_ringsStuck_21 : decode cX0_ringsStuck 21 = .ok (.iadd, 1) := by decide +kernel
theorem dX0_ringsStuck_22 : decode cX0_ringsStuck 22 = .ok (.istore_n 1, 1) := by decide +kernel
theorem dX0_ringsStuck_23 : decode cX0_ringsStuck 23 = .ok (.iinc 2 1, 3) := by decide +kernel
theorem dX0_ringsStuck_26 : decode cX0_ringsStuck 26 = .ok (.goto (-22), 3) := by decide +kernel
theorem dX0_ringsStuck_29 : decode cX0_ringsStuck 29 = .ok (.iload_n 1, 1) := by decide +kernel
theorem dX0_ringsStuck_30 : decode cX0_ringsStuck 30 = .ok (.ireturn, 1) := by decide +kernel
theorem dX1_init_0 : decode cX1_init 0 = .ok (.aload_n 0, 1) := by decide +kernel
theorem dX1_init_1 : decode cX1_init 1 = .ok (.invokespecial 3, 3) := by decide +kernel
theorem dX1_init_4 : decode cX1_init 4 = .ok (.aload_n 0, 1) := by decide +kernel
theorem dX1_init_5 : decode cX1_init 5 = .ok (.iconst 0, 1) := by decide +kernel
theorem dX1_init_6 : decode cX1_init 6 = .ok (.putfield 9, 3) := by decide +kernel
theorem dX1_init_9 : decode cX1_init 9 = .ok (.aload_n 0, 1) := by decide +kernel
theorem dX1_init_10 : decode cX1_init 10 = .ok (.iconst 1, 1) := by decide +kernel
theorem dX1_init_11 : decode cX1_init 11 = .ok (.putfield 15, 3) := by decide +kernel
theorem dX1_init_14 : decode cX1_init 14 = .ok (.aload_n 0, 1) := by decide +kernel
theorem dX1_init_15 : decode cX1_init 15 = .ok (.iconst 0, 1) := by decide +kernel
theorem dX1_init_16 : decode cX1_init 16 = .ok (.putfield 18, 3) := by decide +kernel
theorem dX1_init_19 : decode cX1_init 19 = .ok (.aload_n 0, 1) := by decide +kernel
theorem dX1_init_20 : decode cX1_init 20 = .ok (.bipush 10, 2) := by decide +kernel
theorem dX1_init_22 : decode cX1_init 22 = .ok (.newarray .int, 2) := by decide +kernel
theorem dX1_init_24 : decode cX1_init 24 = .ok (.putfield 21, 3) := by decide +kernel
theorem dX1_init_27 : decode cX1_init 27 = .ok (.aload_n 0, 1) := by decide +kernel
theorem dX1_init_28 : decode cX1_init 28 = .ok (.bipush 10, 2) := by decide +kernel
theorem dX1_init_30 : decode cX1_init 30 = .ok (.newarray .int, 2) := by decide +kernel
theorem dX1_init_32 : decode cX1_init 32 = .ok (.putfield 25, 3) := by decide +kernel
theorem dX1_init_35 : decode cX1_init 35 = .ok (.return_, 1) := by decide +kernel
theorem dX1_take_0 : decode cX1_take 0 = .ok (.aload_n 1, 1) := by decide +kernel
theorem dX1_take_1 : decode cX1_take 1 = .ok (.iload_n 2, 1) := by decide +kernel
theorem dX1_take_2 : decode cX1_take 2 = .ok (.invokevirtual 28, 3) := by decide +kernel
theorem dX1_take_5 : decode cX1_take 5 = .ok (.ifCond .eq 65, 3) := by decide +kernel
theorem dX1_take_8 : decode cX1_take 8 = .ok (.aload_n 0, 1) := by decide +kernel
theorem dX1_take_9 : decode cX1_take 9 = .ok (.aload_n 1, 1) := by decide +kernel
theorem dX1_take_10 : decode cX1_take 10 = .ok (.getfield 34, 3) := by decide +kernel
theorem dX1_take_13 : decode cX1_take 13 = .ok (.iload_n 2, 1) := by decide +kernel
theorem dX1_take_14 : decode cX1_take 14 = .ok (.iaload, 1) := by decide +kernel
theorem dX1_take_15 : decode cX1_take 15 = .ok (.aload_n 1, 1) := by decide +kernel
theorem dX1_take_16 : decode cX1_take 16 = .ok (.getfield 37, 3) := by decide +kernel
theorem dX1_take_19 : decode cX1_take 19 = .ok (.iload_n 2, 1) := by decide +kernel
theorem dX1_take_20 : decode cX1_take 20 = .ok (.iaload, 1) := by decide +kernel
theorem dX1_take_21 : decode cX1_take 21 = .ok (.invokevirtual 40, 3) := by decide +kernel
theorem dX1_take_24 : decode cX1_take 24 = .ok (.aload_n 0, 1) := by decide +kernel
theorem dX1_take_25 : decode cX1_take 25 = .ok (.aload_n 1, 1) := by decide +kernel
theorem dX1_take_26 : decode cX1_take 26 = .ok (.getfield 44, 3) := by decide +kernel
theorem dX1_take_29 : decode cX1_take 29 = .ok (.iload_n 2, 1) := by decide +kernel
theorem dX1_take_30 : decode cX1_take 30 = .ok (.iaload, 1) := by decide +kernel
theorem dX1_take_31 : decode cX1_take 31 = .ok (.putfield 18, 3) := by decide +kernel
theorem dX1_take_34 : decode cX1_take 34 = .ok (.aload_n 1, 1) := by decide +kernel
theorem dX1_take_35 : decode cX1_take 35 = .ok (.getfield 47, 3) := by decide +kernel
theorem dX1_take_38 : decode cX1_take 38 = .ok (.iload_n 2, 1) := by decide +kernel
theorem dX1_take_39 : decode cX1_take 39 = .ok (.bipush 10, 2) := by decide +kernel
theorem dX1_take_41 : decode cX1_take 41 = .ok (.imul, 1) := by decide +kernel
theorem dX1_take_42 : decode cX1_take 42 = .ok (.aload_n 0, 1) := by decide +kernel
theorem dX1_take_43 : decode cX1_take 43 = .ok (.getfield 21, 3) := by decide +kernel
theorem dX1_take_46 : decode cX1_take 46 = .ok (.iconst 0, 1) := by decide +kernel
theorem dX1_take_47 : decode cX1_take 47 = .ok (.bipush 10, 2) := by decide +kernel
theorem dX1_take_49 : decode cX1_take 49 = .ok (.invokestatic 48, 3) := by decide +kernel
theorem dX1_take_52 : decode cX1_take 52 = .ok (.aload_n 1, 1) := by decide +kernel
theorem dX1_take_53 : decode cX1_take 53 = .ok (.getfield 54, 3) := by decide +kernel
theorem dX1_take_56 : decode cX1_take 56 = .ok (.iload_n 2, 1) := by decide +kernel
theorem dX1_take_57 : decode cX1_take 57 = .ok (.bipush 10, 2) := by decide +kernel
theorem dX1_take_59 : decode cX1_take 59 = .ok (.imul, 1) := by decide +kernel
theorem dX1_take_60 : decode cX1_take 60 = .ok (.aload_n 0, 1) := by decide +kernel
theorem dX1_take_61 : decode cX1_take 61 = .ok (.getfield 25, 3) := by decide +kernel
theorem dX1_take_64 : decode cX1_take 64 = .ok (.iconst 0, 1) := by decide +kernel
theorem dX1_take_65 : decode cX1_take 65 = .ok (.bipush 10, 2) := by decide +kernel
theorem dX1_take_67 : decode cX1_take 67 = .ok (.invokestatic 48, 3) := by decide +kernel
theorem dX1_take_70 : decode cX1_take 70 = .ok (.return_, 1) := by decide +kernel
theorem dX1_takePlain_0 : decode cX1_takePlain 0 = .ok (.aload_n 0, 1) := by decide +kernel
theorem dX1_takePlain_1 : decode cX1_takePlain 1 = .ok (.iload_n 1, 1) := by decide +kernel
theorem dX1_takePlain_2 : decode cX1_takePlain 2 = .ok (.putfield 9, 3) := by decide +kernel
theorem dX1_takePlain_5 : decode cX1_takePlain 5 = .ok (.aload_n 0, 1) := by decide +kernel
theorem dX1_takePlain_6 : decode cX1_takePlain 6 = .ok (.iload_n 2, 1) := by decide +kernel
theorem dX1_takePlain_7 : decode cX1_takePlain 7 = .ok (.putfield 15, 3) := by decide +kernel
theorem dX1_takePlain_10 : decode cX1_takePlain 10 = .ok (.aload_n 0, 1) := by decide +kernel
theorem dX1_takePlain_11 : decode cX1_takePlain 11 = .ok (.iconst 0, 1) := by decide +kernel
theorem dX1_takePlain_12 : decode cX1_takePlain 12 = .ok (.putfield 18, 3) := by decide +kernel
theorem dX1_takePlain_15 : decode cX1_takePlain 15 = .ok (.return_, 1) := by decide +kernel
theorem dX1_legalIn_0 : decode cX1_legalIn 0 = .ok (.aload_n 0, 1) := by decide +kernel
theorem dX1_legalIn_1 : decode cX1_legalIn 1 = .ok (.iload_n 1, 1) := by decide +kernel
theorem dX1_legalIn_2 : decode cX1_legalIn 2 = .ok (.invokevirtual 55, 3) := by decide +kernel
theorem dX1_legalIn_5 : decode cX1_legalIn 5 = .ok (.iconst 1, 1) := by decide +kernel
theorem dX1_legalIn_6 : decode cX1_legalIn 6 = .ok (.aload_n 0, 1) := by decide +kernel
theorem dX1_legalIn_7 : decode cX1_legalIn 7 = .ok (.getfield 15, 3) := by decide +kernel
theorem dX1_legalIn_10 : decode cX1_legalIn 10 = .ok (.ishl, 1) := by decide +kernel
theorem dX1_legalIn_11 : decode cX1_legalIn 11 = .ok (.iconst 1, 1) := by decide +kernel
theorem dX1_legalIn_12 : decode cX1_legalIn 12 = .ok (.isub, 1) := by decide +kernel
theorem dX1_legalIn_13 : decode cX1_legalIn 13 = .ok (.iand, 1) := by decide +kernel
theorem dX1_legalIn_14 : decode cX1_legalIn 14 = .ok (.aload_n 0, 1) := by decide +kernel
theorem dX1_legalIn_15 : decode cX1_legalIn 15 = .ok (.getfield 18, 3) := by decide +kernel
theorem dX1_legalIn_18 : decode cX1_legalIn 18 = .ok (.iconst (-1), 1) := by decide +kernel
theorem dX1_legalIn_19 : decode cX1_legalIn 19 = .ok (.ixor, 1) := by decide +kernel
theorem dX1_legalIn_20 : decode cX1_legalIn 20 = .ok (.iand, 1) := by decide +kernel
theorem dX1_legalIn_21 : decode cX1_legalIn 21 = .ok (.istore_n 2, 1) := by decide +kernel
theorem dX1_legalIn_22 : decode cX1_legalIn 22 = .ok (.aload_n 0, 1) := by decide +kernel
theorem dX1_legalIn_23 : decode cX1_legalIn 23 = .ok (.iload_n 1, 1) := by decide +kernel
theorem dX1_legalIn_24 : decode cX1_legalIn 24 = .ok (.invokevirtual 59, 3) := by decide +kernel
theorem dX1_legalIn_27 : decode cX1_legalIn 27 = .ok (.ifCond .eq 10, 3) := by decide +kernel
theorem dX1_legalIn_30 : decode cX1_legalIn 30 = .ok (.iload_n 2, 1) := by decide +kernel
theorem dX1_legalIn_31 : decode cX1_legalIn 31 = .ok (.ldc 62, 2) := by decide +kernel
theorem dX1_legalIn_33 : decode cX1_legalIn 33 = .ok (.ior, 1) := by decide +kernel
theorem dX1_legalIn_34 : decode cX1_legalIn 34 = .ok (.goto 4, 3) := by decide +kernel
theorem dX1_legalIn_37 : decode cX1_legalIn 37 = .ok (.iload_n 2, 1) := by decide +kernel
theorem dX1_legalIn_38 : decode cX1_legalIn 38 = .ok (.ireturn, 1) := by decide +kernel
theorem dX1_ringsByKind_0 : decode cX1_ringsByKind 0 = .ok (.aload_n 0, 1) := by decide +kernel
theorem dX1_ringsByKind_1 : decode cX1_ringsByKind 1 = .ok (.getfield 9, 3) := by decide +kernel
theorem dX1_ringsByKind_4 : decode cX1_ringsByKind 4 = .ok (.tableswitch 64 1 5 #[36, 36, 41, 52, 58], 36) := by decide +kernel
theorem dX1_ringsByKind_40 : decode cX1_ringsByKind 40 = .ok (.iload_n 1, 1) := by decide +kernel
theorem dX1_ringsByKind_41 : decode cX1_ringsByKind 41 = .ok (.invokestatic 63, 3) := by decide +kernel
theorem dX1_ringsByKind_44 : decode cX1_ringsByKind 44 = .ok (.ireturn, 1) := by decide +kernel
theorem dX1_ringsByKind_45 : decode cX1_ringsByKind 45 = .ok (.iload_n 1, 1) := by decide +kernel
theorem dX1_ringsByKind_46 : decode cX1_ringsByKind 46 = .ok (.invokestatic 63, 3) := by decide +kernel
theorem dX1_ringsByKind_49 : decode cX1_ringsByKind 49 = .ok (.aload_n 0, 1) := by decide +kernel
theorem dX1_ringsByKind_50 : decode cX1_ringsByKind 50 = .ok (.iload_n 1, 1) := by decide +kernel
theorem dX1_ringsByKind_51 : decode cX1_ringsByKind 51 = .ok (.invokevirtual 66, 3) := by decide +kernel
theorem dX1_ringsByKind_54 : decode cX1_ringsByKind 54 = .ok (.ior, 1) := by decide +kernel
theorem dX1_ringsByKind_55 : decode cX1_ringsByKind 55 = .ok (.ireturn, 1) := by decide +kernel
theorem dX1_ringsByKind_56 : decode cX1_ringsByKind 56 = .ok (.aload_n 0, 1) := by decide +kernel
theorem dX1_ringsByKind_57 : decode cX1_ringsByKind 57 = .ok (.iload_n 1, 1) := by decide +kernel
theorem dX1_ringsByKind_58 : decode cX1_ringsByKind 58 = .ok (.invokevirtual 66, 3) := by decide +kernel
theorem dX1_ringsByKind_61 : decode cX1_ringsByKind 61 = .ok (.ireturn, 1) := by decide +kernel
theorem dX1_ringsByKind_62 : decode cX1_ringsByKind 62 = .ok (.aload_n 0, 1) := by decide +kernel
theorem dX1_ringsByKind_63 : decode cX1_ringsByKind 63 = .ok (.iload_n 1, 1) := by decide +kernel
theorem dX1_ringsByKind_64 : decode cX1_ringsByKind 64 = .ok (.invokevirtual 69, 3) := by decide +kernel
theorem dX1_ringsByKind_67 : decode cX1_ringsByKind 67 = .ok (.ireturn, 1) := by decide +kernel
theorem dX1_ringsByKind_68 : decode cX1_ringsByKind 68 = .ok (.iconst (-1), 1) := by decide +kernel
theorem dX1_ringsByKind_69 : decode cX1_ringsByKind 69 = .ok (.ireturn, 1) := by decide +kernel
theorem dX1_chainRings_0 : decode cX1_chainRings 0 = .ok (.iconst 1, 1) := by decide +kernel
theorem dX1_chainRings_1 : decode cX1_chainRings 1 = .ok (.iload_n 0, 1) := by decide +kernel
theorem dX1_chainRings_2 : decode cX1_chainRings 2 = .ok (.iload_n 0, 1) := by decide +kernel
theorem dX1_chainRings_3 : decode cX1_chainRings 3 = .ok (.ineg, 1) := by decide +kernel
theorem dX1_chainRings_4 : decode cX1_chainRings 4 = .ok (.iand, 1) := by decide +kernel
theorem dX1_chainRings_5 : decode cX1_chainRings 5 = .ok (.iconst 1, 1) := by decide +kernel
theorem dX1_chainRings_6 : decode cX1_chainRings 6 = .ok (.ishl, 1) := by decide +kernel
theorem dX1_chainRings_7 : decode cX1_chainRings 7 = .ok (.ior, 1) := by decide +kernel
theorem dX1_chainRings_8 : decode cX1_chainRings 8 = .ok (.ireturn, 1) := by decide +kernel
theorem dX1_afterRings_0 : decode cX1_afterRings 0 = .ok (.iconst 1, 1) := by decide +kernel
theorem dX1_afterRings_1 : decode cX1_afterRings 1 = .ok (.aload_n 0, 1) := by decide +kernel
theorem dX1_afterRings_2 : decode cX1_afterRings 2 = .ok (.getfield 15, 3) := by decide +kernel
theorem dX1_afterRings_5 : decode cX1_afterRings 5 = .ok (.iconst 1, 1) := by decide +kernel
theorem dX1_afterRings_6 : decode cX1_afterRings 6 = .ok (.isub, 1) := by decide +kernel
theorem dX1_afterRings_7 : decode cX1_afterRings 7 = .ok (.ishl, 1) := by decide +kernel
theorem dX1_afterRings_8 : decode cX1_afterRings 8 = .ok (.iload_n 1, 1) := by decide +kernel
theorem dX1_afterRings_9 : decode cX1_afterRings 9 = .ok (.invokestatic 72, 3) := by decide +kernel
theorem dX1_afterRings_12 : decode cX1_afterRings 12 = .ok (.iconst 1, 1) := by decide +kernel
theorem dX1_afterRings_13 : decode cX1_afterRings 13 = .ok (.iushr, 1) := by decide +kernel
theorem dX1_afterRings_14 : decode cX1_afterRings 14 = .ok (.ior, 1) := by decide +kernel
theorem dX1_afterRings_15 : decode cX1_afterRings 15 = .ok (.ireturn, 1) := by decide +kernel
theorem dX1_toldRings_0 : decode cX1_toldRings 0 = .ok (.iconst 0, 1) := by decide +kernel
theorem dX1_toldRings_1 : decode cX1_toldRings 1 = .ok (.istore_n 2, 1) := by decide +kernel
theorem dX1_toldRings_2 : decode cX1_toldRings 2 = .ok (.iconst 0, 1) := by decide +kernel
theorem dX1_toldRings_3 : decode cX1_toldRings 3 = .ok (.istore_n 3, 1) := by decide +kernel
theorem dX1_toldRings_4 : decode cX1_toldRings 4 = .ok (.iload_n 3, 1) := by decide +kernel
theorem dX1_toldRings_5 : decode cX1_toldRings 5 = .ok (.bipush 10, 2) := by decide +kernel
theorem dX1_toldRings_7 : decode cX1_toldRings 7 = .ok (.if_icmp .ge 39, 3) := by decide +kernel
theorem dX1_toldRings_10 : decode cX1_toldRings 10 = .ok (.aload_n 0, 1) := by decide +kernel
theorem dX1_toldRings_11 : decode cX1_toldRings 11 = .ok (.getfield 21, 3) := by decide +kernel
theorem dX1_toldRings_14 : decode cX1_toldRings 14 = .ok (.iload_n 3, 1) := by decide +kernel
theorem dX1_toldRings_15 : decode cX1_toldRings 15 = .ok (.iaload, 1) := by decide +kernel
theorem dX1_toldRings_16 : decode cX1_toldRings 16 = .ok (.iload_n 1, 1) := by decide +kernel
theorem dX1_toldRings_17 : decode cX1_toldRings 17 = .ok (.iconst (-1), 1) := by decide +kernel
theorem dX1_toldRings_18 : decode cX1_toldRings 18 = .ok (.ixor, 1) := by decide +kernel
theorem dX1_toldRings_19 : decode cX1_toldRings 19 = .ok (.iand, 1) := by decide +kernel
theorem dX1_toldRings_20 : decode cX1_toldRings 20 = .ok (.ifCond .ne 20, 3) := by decide +kernel
theorem dX1_toldRings_23 : decode cX1_toldRings 23 = .ok (.aload_n 0, 1) := by decide +kernel
theorem dX1_toldRings_24 : decode cX1_toldRings 24 = .ok (.getfield 25, 3) := by decide +kernel
theorem dX1_toldRings_27 : decode cX1_toldRings 27 = .ok (.iload_n 3, 1) := by decide +kernel
theorem dX1_toldRings_28 : decode cX1_toldRings 28 = .ok (.iaload, 1) := by decide +kernel
theorem dX1_toldRings_29 : decode cX1_toldRings 29 = .ok (.iload_n 1, 1) := by decide +kernel
theorem dX1_toldRings_30 : decode cX1_toldRings 30 = .ok (.iand, 1) := by decide +kernel
theorem dX1_toldRings_31 : decode cX1_toldRings 31 = .ok (.ifCond .ne 9, 3) := by decide +kernel
theorem dX1_toldRings_34 : decode cX1_toldRings 34 = .ok (.iload_n 2, 1) := by decide +kernel
theorem dX1_toldRings_35 : decode cX1_toldRings 35 = .ok (.iconst 1, 1) := by decide +kernel
theorem dX1_toldRings_36 : decode cX1_toldRings 36 = .ok (.iload_n 3, 1) := by decide +kernel
theorem dX1_toldRings_37 : decode cX1_toldRings 37 = .ok (.ishl, 1) := by decide +kernel
theorem dX1_toldRings_38 : decode cX1_toldRings 38 = .ok (.ior, 1) := by decide +kernel
theorem dX1_toldRings_39 : decode cX1_toldRings 39 = .ok (.istore_n 2, 1) := by decide +kernel
theorem dX1_toldRings_40 : decode cX1_toldRings 40 = .ok (.iinc 3 1, 3) := by decide +kernel
theorem dX1_toldRings_43 : decode cX1_toldRings 43 = .ok (.goto (-39), 3) := by decide +kernel
theorem dX1_toldRings_46 : decode cX1_toldRings 46 = .ok (.iload_n 2, 1) := by decide +kernel
theorem dX1_toldRings_47 : decode cX1_toldRings 47 = .ok (.ireturn, 1) := by decide +kernel
theorem dX1_bothMayGo_0 : decode cX1_bothMayGo 0 = .ok (.iload_n 1, 1) := by decide +kernel
theorem dX1_bothMayGo_1 : decode cX1_bothMayGo 1 = .ok (.iconst 3, 1) := by decide +kernel
theorem dX1_bothMayGo_2 : decode cX1_bothMayGo 2 = .ok (.iand, 1) := by decide +kernel
theorem dX1_bothMayGo_3 : decode cX1_bothMayGo 3 = .ok (.istore_n 2, 1) := by decide +kernel
theorem dX1_bothMayGo_4 : decode cX1_bothMayGo 4 = .ok (.aload_n 0, 1) := by decide +kernel
theorem dX1_bothMayGo_5 : decode cX1_bothMayGo 5 = .ok (.getfield 9, 3) := by decide +kernel
theorem dX1_bothMayGo_8 : decode cX1_bothMayGo 8 = .ok (.iconst 2, 1) := by decide +kernel
theorem dX1_bothMayGo_9 : decode cX1_bothMayGo 9 = .ok (.if_icmp .ne 33, 3) := by decide +kernel
theorem dX1_bothMayGo_12 : decode cX1_bothMayGo 12 = .ok (.aload_n 0, 1) := by decide +kernel
theorem dX1_bothMayGo_13 : decode cX1_bothMayGo 13 = .ok (.getfield 15, 3) := by decide +kernel
theorem dX1_bothMayGo_16 : decode cX1_bothMayGo 16 = .ok (.iconst 2, 1) := by decide +kernel
theorem dX1_bothMayGo_17 : decode cX1_bothMayGo 17 = .ok (.if_icmp .lt 25, 3) := by decide +kernel
theorem dX1_bothMayGo_20 : decode cX1_bothMayGo 20 = .ok (.aload_n 0, 1) := by decide +kernel
theorem dX1_bothMayGo_21 : decode cX1_bothMayGo 21 = .ok (.getfield 18, 3) := by decide +kernel
theorem dX1_bothMayGo_24 : decode cX1_bothMayGo 24 = .ok (.iconst 3, 1) := by decide +kernel
theorem dX1_bothMayGo_25 : decode cX1_bothMayGo 25 = .ok (.iand, 1) := by decide +kernel
theorem dX1_bothMayGo_26 : decode cX1_bothMayGo 26 = .ok (.ifCond .ne 16, 3) := by decide +kernel
theorem dX1_bothMayGo_29 : decode cX1_bothMayGo 29 = .ok (.iload_n 2, 1) := by decide +kernel
theorem dX1_bothMayGo_30 : decode cX1_bothMayGo 30 = .ok (.ifCond .eq 8, 3) := by decide +kernel
theorem dX1_bothMayGo_33 : decode cX1_bothMayGo 33 = .ok (.iload_n 2, 1) := by decide +kernel
theorem dX1_bothMayGo_34 : decode cX1_bothMayGo 34 = .ok (.iconst 3, 1) := by decide +kernel
theorem dX1_bothMayGo_35 : decode cX1_bothMayGo 35 = .ok (.if_icmp .ne 7, 3) := by decide +kernel
theorem dX1_bothMayGo_38 : decode cX1_bothMayGo 38 = .ok (.iconst 1, 1) := by decide +kernel
theorem dX1_bothMayGo_39 : decode cX1_bothMayGo 39 = .ok (.goto 4, 3) := by decide +kernel
theorem dX1_bothMayGo_42 : decode cX1_bothMayGo 42 = .ok (.iconst 0, 1) := by decide +kernel
theorem dX1_bothMayGo_43 : decode cX1_bothMayGo 43 = .ok (.ireturn, 1) := by decide +kernel
theorem dX2_init_0 : decode cX2_init 0 = .ok (.aload_n 0, 1) := by decide +kernel
theorem dX2_init_1 : decode cX2_init 1 = .ok (.invokespecial 3, 3) := by decide +kernel
theorem dX2_init_4 : decode cX2_init 4 = .ok (.aload_n 0, 1) := by decide +kernel
theorem dX2_init_5 : decode cX2_init 5 = .ok (.sipush 1024, 3) := by decide +kernel
theorem dX2_init_8 : decode cX2_init 8 = .ok (.newarray .int, 2) := by decide +kernel
theorem dX2_init_10 : decode cX2_init 10 = .ok (.putfield 9, 3) := by decide +kernel
theorem dX2_init_13 : decode cX2_init 13 = .ok (.aload_n 0, 1) := by decide +kernel
theorem dX2_init_14 : decode cX2_init 14 = .ok (.sipush 1024, 3) := by decide +kernel
theorem dX2_init_17 : decode cX2_init 17 = .ok (.newarray .int, 2) := by decide +kernel
theorem dX2_init_19 : decode cX2_init 19 = .ok (.putfield 15, 3) := by decide +kernel
theorem dX2_init_22 : decode cX2_init 22 = .ok (.aload_n 0, 1) := by decide +kernel
theorem dX2_init_23 : decode cX2_init 23 = .ok (.sipush 1024, 3) := by decide +kernel
theorem dX2_init_26 : decode cX2_init 26 = .ok (.newarray .int, 2) := by decide +kernel
theorem dX2_init_28 : decode cX2_init 28 = .ok (.putfield 18, 3) := by decide +kernel
theorem dX2_init_31 : decode cX2_init 31 = .ok (.aload_n 0, 1) := by decide +kernel
theorem dX2_init_32 : decode cX2_init 32 = .ok (.sipush 1024, 3) := by decide +kernel
theorem dX2_init_35 : decode cX2_init 35 = .ok (.newarray .int, 2) := by decide +kernel
theorem dX2_init_37 : decode cX2_init 37 = .ok (.putfield 21, 3) := by decide +kernel
theorem dX2_init_40 : decode cX2_init 40 = .ok (.aload_n 0, 1) := by decide +kernel
theorem dX2_init_41 : decode cX2_init 41 = .ok (.sipush 1024, 3) := by decide +kernel
theorem dX2_init_44 : decode cX2_init 44 = .ok (.newarray .int, 2) := by decide +kernel
theorem dX2_init_46 : decode cX2_init 46 = .ok (.putfield 24, 3) := by decide +kernel
theorem dX2_init_49 : decode cX2_init 49 = .ok (.aload_n 0, 1) := by decide +kernel
theorem dX2_init_50 : decode cX2_init 50 = .ok (.iconst 0, 1) := by decide +kernel
theorem dX2_init_51 : decode cX2_init 51 = .ok (.putfield 27, 3) := by decide +kernel
theorem dX2_init_54 : decode cX2_init 54 = .ok (.aload_n 0, 1) := by decide +kernel
theorem dX2_init_55 : decode cX2_init 55 = .ok (.iconst 0, 1) := by decide +kernel
theorem dX2_init_56 : decode cX2_init 56 = .ok (.putfield 31, 3) := by decide +kernel
theorem dX2_init_59 : decode cX2_init 59 = .ok (.aload_n 0, 1) := by decide +kernel
theorem dX2_init_60 : decode cX2_init 60 = .ok (.iconst 0, 1) := by decide +kernel
theorem dX2_init_61 : decode cX2_init 61 = .ok (.putfield 34, 3) := by decide +kernel
theorem dX2_init_64 : decode cX2_init 64 = .ok (.return_, 1) := by decide +kernel
theorem dX2_learn_0 : decode cX2_learn 0 = .ok (.aload_n 0, 1) := by decide +kernel
theorem dX2_learn_1 : decode cX2_learn 1 = .ok (.aload_n 1, 1) := by decide +kernel
theorem dX2_learn_2 : decode cX2_learn 2 = .ok (.getfield 37, 3) := by decide +kernel
theorem dX2_learn_5 : decode cX2_learn 5 = .ok (.putfield 27, 3) := by decide +kernel
theorem dX2_learn_8 : decode cX2_learn 8 = .ok (.aload_n 0, 1) := by decide +kernel
theorem dX2_learn_9 : decode cX2_learn 9 = .ok (.iconst 1, 1) := by decide +kernel
theorem dX2_learn_10 : decode cX2_learn 10 = .ok (.aload_n 0, 1) := by decide +kernel
theorem dX2_learn_11 : decode cX2_learn 11 = .ok (.getfield 27, 3) := by decide +kernel
theorem dX2_learn_14 : decode cX2_learn 14 = .ok (.ishl, 1) := by decide +kernel
theorem dX2_learn_15 : decode cX2_learn 15 = .ok (.sipush 1024, 3) := by decide +kernel
theorem dX2_learn_18 : decode cX2_learn 18 = .ok (.invokestatic 40, 3) := by decide +kernel
theorem dX2_learn_21 : decode cX2_learn 21 = .ok (.putfield 31, 3) := by decide +kernel
theorem dX2_learn_24 : decode cX2_learn 24 = .ok (.iconst 0, 1) := by decide +kernel
theorem dX2_learn_25 : decode cX2_learn 25 = .ok (.istore_n 2, 1) := by decide +kernel
theorem dX2_learn_26 : decode cX2_learn 26 = .ok (.iload_n 2, 1) := by decide +kernel
theorem dX2_learn_27 : decode cX2_learn 27 = .ok (.aload_n 0, 1) := by decide +kernel
theorem dX2_learn_28 : decode cX2_learn 28 = .ok (.getfield 31, 3) := by decide +kernel
theorem dX2_learn_31 : decode cX2_learn 31 = .ok (.if_icmp .ge 20, 3) := by decide +kernel
theorem dX2_learn_34 : decode cX2_learn 34 = .ok (.aload_n 0, 1) := by decide +kernel
theorem dX2_learn_35 : decode cX2_learn 35 = .ok (.getfield 9, 3) := by decide +kernel
theorem dX2_learn_38 : decode cX2_learn 38 = .ok (.iload_n 2, 1) := by decide +kernel
theorem dX2_learn_39 : decode cX2_learn 39 = .ok (.aload_n 1, 1) := by decide +kernel
theorem dX2_learn_40 : decode cX2_learn 40 = .ok (.iload_n 2, 1) := by decide +kernel
theorem dX2_learn_41 : decode cX2_learn 41 = .ok (.invokevirtual 46, 3) := by decide +kernel
theorem dX2_learn_44 : decode cX2_learn 44 = .ok (.iastore, 1) := by decide +kernel
theorem dX2_learn_45 : decode cX2_learn 45 = .ok (.iinc 2 1, 3) := by decide +kernel
theorem dX2_learn_48 : decode cX2_learn 48 = .ok (.goto (-22), 3) := by decide +kernel
theorem dX2_learn_51 : decode cX2_learn 51 = .ok (.return_, 1) := by decide +kernel
theorem dX2_isSet_0 : decode cX2_isSet 0 = .ok (.iload_n 1, 1) := by decide +kernel
theorem dX2_isSet_1 : decode cX2_isSet 1 = .ok (.ifCond .lt 22, 3) := by decide +kernel
theorem dX2_isSet_4 : decode cX2_isSet 4 = .ok (.iload_n 1, 1) := by decide +kernel
theorem dX2_isSet_5 : decode cX2_isSet 5 = .ok (.aload_n 0, 1) := by decide +kernel
theorem dX2_isSet_6 : decode cX2_isSet 6 = .ok (.getfield 31, 3) := by decide +kernel
theorem dX2_isSet_9 : decode cX2_isSet 9 = .ok (.if_icmp .ge 14, 3) := by decide +kernel
theorem dX2_isSet_12 : decode cX2_isSet 12 = .ok (.iload_n 1, 1) := by decide +kernel
theorem dX2_isSet_13 : decode cX2_isSet 13 = .ok (.sipush 1024, 3) := by decide +kernel
theorem dX2_isSet_16 : decode cX2_isSet 16 = .ok (.if_icmp .ge 7, 3) := by decide +kernel
theorem dX2_isSet_19 : decode cX2_isSet 19 = .ok (.iconst 1, 1) := by decide +kernel
theorem dX2_isSet_20 : decode cX2_isSet 20 = .ok (.goto 4, 3) := by decide +kernel
theorem dX2_isSet_23 : decode cX2_isSet 23 = .ok (.iconst 0, 1) := by decide +kernel
theorem dX2_isSet_24 : decode cX2_isSet 24 = .ok (.ireturn, 1) := by decide +kernel
theorem dX2_moveOf_0 : decode cX2_moveOf 0 = .ok (.iload_n 1, 1) := by decide +kernel
theorem dX2_moveOf_1 : decode cX2_moveOf 1 = .ok (.aload_n 0, 1) := by decide +kernel
theorem dX2_moveOf_2 : decode cX2_moveOf 2 = .ok (.getfield 27, 3) := by decide +kernel
theorem dX2_moveOf_5 : decode cX2_moveOf 5 = .ok (.if_icmp .ge 7, 3) := by decide +kernel
theorem dX2_moveOf_8 : decode cX2_moveOf 8 = .ok (.iload_n 1, 1) := by decide +kernel
theorem dX2_moveOf_9 : decode cX2_moveOf 9 = .ok (.goto 5, 3) := by decide +kernel
theorem dX2_moveOf_12 : decode cX2_moveOf 12 = .ok (.bipush 20, 2) := by decide +kernel
theorem dX2_moveOf_14 : decode cX2_moveOf 14 = .ok (.ireturn, 1) := by decide +kernel
theorem dX2_legalAt_0 : decode cX2_legalAt 0 = .ok (.iload_n 1, 1) := by decide +kernel
theorem dX2_legalAt_1 : decode cX2_legalAt 1 = .ok (.ifCond .lt 27, 3) := by decide +kernel
theorem dX2_legalAt_4 : decode cX2_legalAt 4 = .ok (.iload_n 1, 1) := by decide +kernel
theorem dX2_legalAt_5 : decode cX2_legalAt 5 = .ok (.aload_n 0, 1) := by decide +kernel
theorem dX2_legalAt_6 : decode cX2_legalAt 6 = .ok (.getfield 31, 3) := by decide +kernel
theorem dX2_legalAt_9 : decode cX2_legalAt 9 = .ok (.if_icmp .ge 19, 3) := by decide +kernel
theorem dX2_legalAt_12 : decode cX2_legalAt 12 = .ok (.iload_n 1, 1) := by decide +kernel
theorem dX2_legalAt_13 : decode cX2_legalAt 13 = .ok (.sipush 1024, 3) := by decide +kernel
theorem dX2_legalAt_16 : decode cX2_legalAt 16 = .ok (.if_icmp .ge 12, 3) := by decide +kernel
theorem dX2_legalAt_19 : decode cX2_legalAt 19 = .ok (.aload_n 0, 1) := by decide +kernel
theorem dX2_legalAt_20 : decode cX2_legalAt 20 = .ok (.getfield 9, 3) := by decide +kernel
theorem dX2_legalAt_23 : decode cX2_legalAt 23 = .ok (.iload_n 1, 1) := by decide +kernel
theorem dX2_legalAt_24 : decode cX2_legalAt 24 = .ok (.iaload, 1) := by decide +kernel
theorem dX2_legalAt_25 : decode cX2_legalAt 25 = .ok (.goto 4, 3) := by decide +kernel
theorem dX2_legalAt_28 : decode cX2_legalAt 28 = .ok (.iconst 0, 1) := by decide +kernel
theorem dX2_legalAt_29 : decode cX2_legalAt 29 = .ok (.ireturn, 1) := by decide +kernel
theorem dX2_mayGo_0 : decode cX2_mayGo 0 = .ok (.aload_n 0, 1) := by decide +kernel
theorem dX2_mayGo_1 : decode cX2_mayGo 1 = .ok (.iload_n 1, 1) := by decide +kernel
theorem dX2_mayGo_2 : decode cX2_mayGo 2 = .ok (.invokevirtual 50, 3) := by decide +kernel
theorem dX2_mayGo_5 : decode cX2_mayGo 5 = .ok (.iload_n 2, 1) := by decide +kernel
theorem dX2_mayGo_6 : decode cX2_mayGo 6 = .ok (.ishr, 1) := by decide +kernel
theorem dX2_mayGo_7 : decode cX2_mayGo 7 = .ok (.iconst 1, 1) := by decide +kernel
theorem dX2_mayGo_8 : decode cX2_mayGo 8 = .ok (.iand, 1) := by decide +kernel
theorem dX2_mayGo_9 : decode cX2_mayGo 9 = .ok (.ifCond .eq 7, 3) := by decide +kernel
theorem dX2_mayGo_12 : decode cX2_mayGo 12 = .ok (.iconst 1, 1) := by decide +kernel
theorem dX2_mayGo_13 : decode cX2_mayGo 13 = .ok (.goto 4, 3) := by decide +kernel
theorem dX2_mayGo_16 : decode cX2_mayGo 16 = .ok (.iconst 0, 1) := by decide +kernel
theorem dX2_mayGo_17 : decode cX2_mayGo 17 = .ok (.ireturn, 1) := by decide +kernel
theorem dX2_farOf_0 : decode cX2_farOf 0 = .ok (.aload_n 0, 1) := by decide +kernel
theorem dX2_farOf_1 : decode cX2_farOf 1 = .ok (.iload_n 1, 1) := by decide +kernel
theorem dX2_farOf_2 : decode cX2_farOf 2 = .ok (.invokevirtual 53, 3) := by decide +kernel
theorem dX2_farOf_5 : decode cX2_farOf 5 = .ok (.ifCond .eq 12, 3) := by decide +kernel
theorem dX2_farOf_8 : decode cX2_farOf 8 = .ok (.aload_n 0, 1) := by decide +kernel
theorem dX2_farOf_9 : decode cX2_farOf 9 = .ok (.getfield 15, 3) := by decide +kernel
theorem dX2_farOf_12 : decode cX2_farOf 12 = .ok (.iload_n 1, 1) := by decide +kernel
theorem dX2_farOf_13 : decode cX2_farOf 13 = .ok (.iaload, 1) := by decide +kernel
theorem dX2_farOf_14 : decode cX2_farOf 14 = .ok (.goto 4, 3) := by decide +kernel
theorem dX2_farOf_17 : decode cX2_farOf 17 = .ok (.iconst (-1), 1) := by decide +kernel
theorem dX2_farOf_18 : decode cX2_farOf 18 = .ok (.ireturn, 1) := by decide +kernel
theorem dX2_foundAt_0 : decode cX2_foundAt 0 = .ok (.iload_n 1, 1) := by decide +kernel
theorem dX2_foundAt_1 : decode cX2_foundAt 1 = .ok (.ifCond .lt 27, 3) := by decide +kernel
theorem dX2_foundAt_4 : decode cX2_foundAt 4 = .ok (.iload_n 1, 1) := by decide +kernel
theorem dX2_foundAt_5 : decode cX2_foundAt 5 = .ok (.aload_n 0, 1) := by decide +kernel
theorem dX2_foundAt_6 : decode cX2_foundAt 6 = .ok (.getfield 34, 3) := by decide +kernel
theorem dX2_foundAt_9 : decode cX2_foundAt 9 = .ok (.if_icmp .ge 19, 3) := by decide +kernel
theorem dX2_foundAt_12 : decode cX2_foundAt 12 = .ok (.iload_n 1, 1) := by decide +kernel
theorem dX2_foundAt_13 : decode cX2_foundAt 13 = .ok (.sipush 1024, 3) := by decide +kernel
theorem dX2_foundAt_16 : decode cX2_foundAt 16 = .ok (.if_icmp .ge 12, 3) := by decide +kernel
theorem dX2_foundAt_19 : decode cX2_foundAt 19 = .ok (.aload_n 0, 1) := by decide +kernel
theorem dX2_foundAt_20 : decode cX2_foundAt 20 = .ok (.getfield 18, 3) := by decide +kernel
theorem dX2_foundAt_23 : decode cX2_foundAt 23 = .ok (.iload_n 1, 1) := by decide +kernel
theorem dX2_foundAt_24 : decode cX2_foundAt 24 = .ok (.iaload, 1) := by decide +kernel
theorem dX2_foundAt_25 : decode cX2_foundAt 25 = .ok (.goto 4, 3) := by decide +kernel
theorem dX2_foundAt_28 : decode cX2_foundAt 28 = .ok (.iconst (-1), 1) := by decide +kernel
theorem dX2_foundAt_29 : decode cX2_foundAt 29 = .ok (.ireturn, 1) := by decide +kernel
theorem dX2_forget_0 : decode cX2_forget 0 = .ok (.aload_n 0, 1) := by decide +kernel
theorem dX2_forget_1 : decode cX2_forget 1 = .ok (.getfield 15, 3) := by decide +kernel
theorem dX2_forget_4 : decode cX2_forget 4 = .ok (.iconst (-1), 1) := by decide +kernel
theorem dX2_forget_5 : decode cX2_forget 5 = .ok (.invokestatic 57, 3) := by decide +kernel
theorem dX2_forget_8 : decode cX2_forget 8 = .ok (.aload_n 0, 1) := by decide +kernel
theorem dX2_forget_9 : decode cX2_forget 9 = .ok (.iconst 0, 1) := by decide +kernel
theorem dX2_forget_10 : decode cX2_forget 10 = .ok (.putfield 34, 3) := by decide +kernel
theorem dX2_forget_13 : decode cX2_forget 13 = .ok (.return_, 1) := by decide +kernel
theorem dX2_spreadAnew_0 : decode cX2_spreadAnew 0 = .ok (.aload_n 0, 1) := by decide +kernel
theorem dX2_spreadAnew_1 : decode cX2_spreadAnew 1 = .ok (.invokevirtual 63, 3) := by decide +kernel
theorem dX2_spreadAnew_4 : decode cX2_spreadAnew 4 = .ok (.aload_n 0, 1) := by decide +kernel
theorem dX2_spreadAnew_5 : decode cX2_spreadAnew 5 = .ok (.iload_n 1, 1) := by decide +kernel
theorem dX2_spreadAnew_6 : decode cX2_spreadAnew 6 = .ok (.iload_n 2, 1) := by decide +kernel
theorem dX2_spreadAnew_7 : decode cX2_spreadAnew 7 = .ok (.invokevirtual 66, 3) := by decide +kernel
theorem dX2_spreadAnew_10 : decode cX2_spreadAnew 10 = .ok (.return_, 1) := by decide +kernel
theorem dX2_spread_0 : decode cX2_spread 0 = .ok (.aload_n 0, 1) := by decide +kernel
theorem dX2_spread_1 : decode cX2_spread 1 = .ok (.getfield 34, 3) := by decide +kernel
theorem dX2_spread_4 : decode cX2_spread 4 = .ok (.istore_n 3, 1) := by decide +kernel
theorem dX2_spread_5 : decode cX2_spread 5 = .ok (.aload_n 0, 1) := by decide +kernel
theorem dX2_spread_6 : decode cX2_spread 6 = .ok (.iload_n 1, 1) := by decide +kernel
theorem dX2_spread_7 : decode cX2_spread 7 = .ok (.iconst 0, 1) := by decide +kernel
theorem dX2_spread_8 : decode cX2_spread 8 = .ok (.invokevirtual 70, 3) := by decide +kernel
theorem dX2_spread_11 : decode cX2_spread 11 = .ok (.iload_n 3, 1) := by decide +kernel
theorem dX2_spread_12 : decode cX2_spread 12 = .ok (.aload_n 0, 1) := by decide +kernel
theorem dX2_spread_13 : decode cX2_spread 13 = .ok (.getfield 34, 3) := by decide +kernel
theorem dX2_spread_16 : decode cX2_spread 16 = .ok (.if_icmp .ge 91, 3) := by decide +kernel
theorem dX2_spread_19 : decode cX2_spread 19 = .ok (.iload_n 3, 1) := by decide +kernel
theorem dX2_spread_20 : decode cX2_spread 20 = .ok (.sipush 1024, 3) := by decide +kernel
theorem dX2_spread_23 : decode cX2_spread 23 = .ok (.if_icmp .ge 84, 3) := by decide +kernel
theorem dX2_spread_26 : decode cX2_spread 26 = .ok (.aload_n 0, 1) := by decide +kernel
theorem dX2_spread_27 : decode cX2_spread 27 = .ok (.iload_n 3, 1) := by decide +kernel
theorem dX2_spread_28 : decode cX2_spread 28 = .ok (.invokevirtual 73, 3) := by decide +kernel
theorem dX2_spread_31 : decode cX2_spread 31 = .ok (.istore 4, 2) := by decide +kernel
theorem dX2_spread_33 : decode cX2_spread 33 = .ok (.aload_n 0, 1) := by decide +kernel
theorem dX2_spread_34 : decode cX2_spread 34 = .ok (.iload 4, 2) := by decide +kernel
theorem dX2_spread_36 : decode cX2_spread 36 = .ok (.invokevirtual 76, 3) := by decide +kernel
theorem dX2_spread_39 : decode cX2_spread 39 = .ok (.iconst 1, 1) := by decide +kernel
theorem dX2_spread_40 : decode cX2_spread 40 = .ok (.iadd, 1) := by decide +kernel
theorem dX2_spread_41 : decode cX2_spread 41 = .ok (.istore 5, 2) := by decide +kernel
theorem dX2_spread_43 : decode cX2_spread 43 = .ok (.iconst 0, 1) := by decide +kernel
theorem dX2_spread_44 : decode cX2_spread 44 = .ok (.istore 6, 2) := by decide +kernel
theorem dX2_spread_46 : decode cX2_spread 46 = .ok (.iload 6, 2) := by decide +kernel
theorem dX2_spread_48 : decode cX2_spread 48 = .ok (.aload_n 0, 1) := by decide +kernel
theorem dX2_spread_49 : decode cX2_spread 49 = .ok (.getfield 27, 3) := by decide +kernel
theorem dX2_spread_52 : decode cX2_spread 52 = .ok (.if_icmp .gt 49, 3) := by decide +kernel
theorem dX2_spread_55 : decode cX2_spread 55 = .ok (.aload_n 0, 1) := by decide +kernel
theorem dX2_spread_56 : decode cX2_spread 56 = .ok (.iload 6, 2) := by decide +kernel
theorem dX2_spread_58 : decode cX2_spread 58 = .ok (.invokevirtual 79, 3) := by decide +kernel
theorem dX2_spread_61 : decode cX2_spread 61 = .ok (.istore 7, 2) := by decide +kernel
theorem dX2_spread_63 : decode cX2_spread 63 = .ok (.iload 4, 2) := by decide +kernel
theorem dX2_spread_65 : decode cX2_spread 65 = .ok (.iload 7, 2) := by decide +kernel
theorem dX2_spread_67 : decode cX2_spread 67 = .ok (.invokestatic 82, 3) := by decide +kernel
theorem dX2_spread_70 : decode cX2_spread 70 = .ok (.ixor, 1) := by decide +kernel
theorem dX2_spread_71 : decode cX2_spread 71 = .ok (.istore 8, 2) := by decide +kernel
theorem dX2_spread_73 : decode cX2_spread 73 = .ok (.aload_n 0, 1) := by decide +kernel
theorem dX2_spread_74 : decode cX2_spread 74 = .ok (.iload 4, 2) := by decide +kernel
theorem dX2_spread_76 : decode cX2_spread 76 = .ok (.iload 8, 2) := by decide +kernel
theorem dX2_spread_78 : decode cX2_spread 78 = .ok (.iload 7, 2) := by decide +kernel
theorem dX2_spread_80 : decode cX2_spread 80 = .ok (.iload_n 2, 1) := by decide +kernel
theorem dX2_spread_81 : decode cX2_spread 81 = .ok (.invokevirtual 85, 3) := by decide +kernel
theorem dX2_spread_84 : decode cX2_spread 84 = .ok (.ifCond .eq 11, 3) := by decide +kernel
theorem dX2_spread_87 : decode cX2_spread 87 = .ok (.aload_n 0, 1) := by decide +kernel
theorem dX2_spread_88 : decode cX2_spread 88 = .ok (.iload 8, 2) := by decide +kernel
theorem dX2_spread_90 : decode cX2_spread 90 = .ok (.iload 5, 2) := by decide +kernel
theorem dX2_spread_92 : decode cX2_spread 92 = .ok (.invokevirtual 70, 3) := by decide +kernel
theorem dX2_spread_95 : decode cX2_spread 95 = .ok (.iinc 6 1, 3) := by decide +kernel
theorem dX2_spread_98 : decode cX2_spread 98 = .ok (.goto (-52), 3) := by decide +kernel
theorem dX2_spread_101 : decode cX2_spread 101 = .ok (.iinc 3 1, 3) := by decide +kernel
theorem dX2_spread_104 : decode cX2_spread 104 = .ok (.goto (-93), 3) := by decide +kernel
theorem dX2_spread_107 : decode cX2_spread 107 = .ok (.return_, 1) := by decide +kernel
theorem dX2_isOpen_0 : decode cX2_isOpen 0 = .ok (.iload 4, 2) := by decide +kernel
theorem dX2_isOpen_2 : decode cX2_isOpen 2 = .ok (.iconst 1, 1) := by decide +kernel
theorem dX2_isOpen_3 : decode cX2_isOpen 3 = .ok (.iand, 1) := by decide +kernel
theorem dX2_isOpen_4 : decode cX2_isOpen 4 = .ok (.ifCond .eq 11, 3) := by decide +kernel
theorem dX2_isOpen_7 : decode cX2_isOpen 7 = .ok (.aload_n 0, 1) := by decide +kernel
theorem dX2_isOpen_8 : decode cX2_isOpen 8 = .ok (.iload_n 1, 1) := by decide +kernel
theorem dX2_isOpen_9 : decode cX2_isOpen 9 = .ok (.invokevirtual 50, 3) := by decide +kernel
theorem dX2_isOpen_12 : decode cX2_isOpen 12 = .ok (.goto 4, 3) := by decide +kernel
theorem dX2_isOpen_15 : decode cX2_isOpen 15 = .ok (.iconst 0, 1) := by decide +kernel
theorem dX2_isOpen_16 : decode cX2_isOpen 16 = .ok (.istore 5, 2) := by decide +kernel
theorem dX2_isOpen_18 : decode cX2_isOpen 18 = .ok (.iload 4, 2) := by decide +kernel
theorem dX2_isOpen_20 : decode cX2_isOpen 20 = .ok (.iconst 2, 1) := by decide +kernel
theorem dX2_isOpen_21 : decode cX2_isOpen 21 = .ok (.iand, 1) := by decide +kernel
theorem dX2_isOpen_22 : decode cX2_isOpen 22 = .ok (.ifCond .eq 11, 3) := by decide +kernel
theorem dX2_isOpen_25 : decode cX2_isOpen 25 = .ok (.aload_n 0, 1) := by decide +kernel
theorem dX2_isOpen_26 : decode cX2_isOpen 26 = .ok (.iload_n 2, 1) := by decide +kernel
theorem dX2_isOpen_27 : decode cX2_isOpen 27 = .ok (.invokevirtual 50, 3) := by decide +kernel
theorem dX2_isOpen_30 : decode cX2_isOpen 30 = .ok (.goto 4, 3) := by decide +kernel
theorem dX2_isOpen_33 : decode cX2_isOpen 33 = .ok (.iconst 0, 1) := by decide +kernel
theorem dX2_isOpen_34 : decode cX2_isOpen 34 = .ok (.istore 6, 2) := by decide +kernel
theorem dX2_isOpen_36 : decode cX2_isOpen 36 = .ok (.iload 5, 2) := by decide +kernel
theorem dX2_isOpen_38 : decode cX2_isOpen 38 = .ok (.iload 6, 2) := by decide +kernel
theorem dX2_isOpen_40 : decode cX2_isOpen 40 = .ok (.ior, 1) := by decide +kernel
theorem dX2_isOpen_41 : decode cX2_isOpen 41 = .ok (.iload_n 3, 1) := by decide +kernel
theorem dX2_isOpen_42 : decode cX2_isOpen 42 = .ok (.ishr, 1) := by decide +kernel
theorem dX2_isOpen_43 : decode cX2_isOpen 43 = .ok (.iconst 1, 1) := by decide +kernel
theorem dX2_isOpen_44 : decode cX2_isOpen 44 = .ok (.iand, 1) := by decide +kernel
theorem dX2_isOpen_45 : decode cX2_isOpen 45 = .ok (.ifCond .eq 7, 3) := by decide +kernel
theorem dX2_isOpen_48 : decode cX2_isOpen 48 = .ok (.iconst 1, 1) := by decide +kernel
theorem dX2_isOpen_49 : decode cX2_isOpen 49 = .ok (.goto 4, 3) := by decide +kernel
theorem dX2_isOpen_52 : decode cX2_isOpen 52 = .ok (.iconst 0, 1) := by decide +kernel
theorem dX2_isOpen_53 : decode cX2_isOpen 53 = .ok (.ireturn, 1) := by decide +kernel
theorem dX2_note_0 : decode cX2_note 0 = .ok (.aload_n 0, 1) := by decide +kernel
theorem dX2_note_1 : decode cX2_note 1 = .ok (.iload_n 1, 1) := by decide +kernel
theorem dX2_note_2 : decode cX2_note 2 = .ok (.invokevirtual 53, 3) := by decide +kernel
theorem dX2_note_5 : decode cX2_note 5 = .ok (.ifCond .eq 57, 3) := by decide +kernel
theorem dX2_note_8 : decode cX2_note 8 = .ok (.aload_n 0, 1) := by decide +kernel
theorem dX2_note_9 : decode cX2_note 9 = .ok (.getfield 15, 3) := by decide +kernel
theorem dX2_note_12 : decode cX2_note 12 = .ok (.iload_n 1, 1) := by decide +kernel
theorem dX2_note_13 : decode cX2_note 13 = .ok (.iaload, 1) := by decide +kernel
theorem dX2_note_14 : decode cX2_note 14 = .ok (.iconst (-1), 1) := by decide +kernel
theorem dX2_note_15 : decode cX2_note 15 = .ok (.if_icmp .ne 47, 3) := by decide +kernel
theorem dX2_note_18 : decode cX2_note 18 = .ok (.aload_n 0, 1) := by decide +kernel
theorem dX2_note_19 : decode cX2_note 19 = .ok (.getfield 34, 3) := by decide +kernel
theorem dX2_note_22 : decode cX2_note 22 = .ok (.ifCond .lt 40, 3) := by decide +kernel
theorem dX2_note_25 : decode cX2_note 25 = .ok (.aload_n 0, 1) := by decide +kernel
theorem dX2_note_26 : decode cX2_note 26 = .ok (.getfield 34, 3) := by decide +kernel
theorem dX2_note_29 : decode cX2_note 29 = .ok (.sipush 1024, 3) := by decide +kernel
theorem dX2_note_32 : decode cX2_note 32 = .ok (.if_icmp .ge 30, 3) := by decide +kernel
theorem dX2_note_35 : decode cX2_note 35 = .ok (.aload_n 0, 1) := by decide +kernel
theorem dX2_note_36 : decode cX2_note 36 = .ok (.getfield 15, 3) := by decide +kernel
theorem dX2_note_39 : decode cX2_note 39 = .ok (.iload_n 1, 1) := by decide +kernel
theorem dX2_note_40 : decode cX2_note 40 = .ok (.iload_n 2, 1) := by decide +kernel
theorem dX2_note_41 : decode cX2_note 41 = .ok (.iastore, 1) := by decide +kernel
theorem dX2_note_42 : decode cX2_note 42 = .ok (.aload_n 0, 1) := by decide +kernel
theorem dX2_note_43 : decode cX2_note 43 = .ok (.getfield 18, 3) := by decide +kernel
theorem dX2_note_46 : decode cX2_note 46 = .ok (.aload_n 0, 1) := by decide +kernel
theorem dX2_note_47 : decode cX2_note 47 = .ok (.getfield 34, 3) := by decide +kernel
theorem dX2_note_50 : decode cX2_note 50 = .ok (.iload_n 1, 1) := by decide +kernel
theorem dX2_note_51 : decode cX2_note 51 = .ok (.iastore, 1) := by decide +kernel
theorem dX2_note_52 : decode cX2_note 52 = .ok (.aload_n 0, 1) := by decide +kernel
theorem dX2_note_53 : decode cX2_note 53 = .ok (.dup, 1) := by decide +kernel
theorem dX2_note_54 : decode cX2_note 54 = .ok (.getfield 34, 3) := by decide +kernel
theorem dX2_note_57 : decode cX2_note 57 = .ok (.iconst 1, 1) := by decide +kernel
theorem dX2_note_58 : decode cX2_note 58 = .ok (.iadd, 1) := by decide +kernel
theorem dX2_note_59 : decode cX2_note 59 = .ok (.putfield 34, 3) := by decide +kernel
theorem dX2_note_62 : decode cX2_note 62 = .ok (.return_, 1) := by decide +kernel
theorem dX2_nextMove_0 : decode cX2_nextMove 0 = .ok (.aload_n 0, 1) := by decide +kernel
theorem dX2_nextMove_1 : decode cX2_nextMove 1 = .ok (.iload_n 1, 1) := by decide +kernel
theorem dX2_nextMove_2 : decode cX2_nextMove 2 = .ok (.invokevirtual 76, 3) := by decide +kernel
theorem dX2_nextMove_5 : decode cX2_nextMove 5 = .ok (.istore_n 2, 1) := by decide +kernel
theorem dX2_nextMove_6 : decode cX2_nextMove 6 = .ok (.iconst 0, 1) := by decide +kernel
theorem dX2_nextMove_7 : decode cX2_nextMove 7 = .ok (.istore_n 3, 1) := by decide +kernel
theorem dX2_nextMove_8 : decode cX2_nextMove 8 = .ok (.iload_n 3, 1) := by decide +kernel
theorem dX2_nextMove_9 : decode cX2_nextMove 9 = .ok (.aload_n 0, 1) := by decide +kernel
theorem dX2_nextMove_10 : decode cX2_nextMove 10 = .ok (.getfield 27, 3) := by decide +kernel
theorem dX2_nextMove_13 : decode cX2_nextMove 13 = .ok (.if_icmp .gt 50, 3) := by decide +kernel
theorem dX2_nextMove_16 : decode cX2_nextMove 16 = .ok (.iload_n 2, 1) := by decide +kernel
theorem dX2_nextMove_17 : decode cX2_nextMove 17 = .ok (.ifCond .le 46, 3) := by decide +kernel
theorem dX2_nextMove_20 : decode cX2_nextMove 20 = .ok (.aload_n 0, 1) := by decide +kernel
theorem dX2_nextMove_21 : decode cX2_nextMove 21 = .ok (.iload_n 3, 1) := by decide +kernel
theorem dX2_nextMove_22 : decode cX2_nextMove 22 = .ok (.invokevirtual 79, 3) := by decide +kernel
theorem dX2_nextMove_25 : decode cX2_nextMove 25 = .ok (.istore 4, 2) := by decide +kernel
theorem dX2_nextMove_27 : decode cX2_nextMove 27 = .ok (.aload_n 0, 1) := by decide +kernel
theorem dX2_nextMove_28 : decode cX2_nextMove 28 = .ok (.iload_n 1, 1) := by decide +kernel
theorem dX2_nextMove_29 : decode cX2_nextMove 29 = .ok (.iload 4, 2) := by decide +kernel
theorem dX2_nextMove_31 : decode cX2_nextMove 31 = .ok (.invokevirtual 89, 3) := by decide +kernel
theorem dX2_nextMove_34 : decode cX2_nextMove 34 = .ok (.ifCond .eq 23, 3) := by decide +kernel
theorem dX2_nextMove_37 : decode cX2_nextMove 37 = .ok (.aload_n 0, 1) := by decide +kernel
theorem dX2_nextMove_38 : decode cX2_nextMove 38 = .ok (.iload_n 1, 1) := by decide +kernel
theorem dX2_nextMove_39 : decode cX2_nextMove 39 = .ok (.iload 4, 2) := by decide +kernel
theorem dX2_nextMove_41 : decode cX2_nextMove 41 = .ok (.invokestatic 82, 3) := by decide +kernel
theorem dX2_nextMove_44 : decode cX2_nextMove 44 = .ok (.ixor, 1) := by decide +kernel
theorem dX2_nextMove_45 : decode cX2_nextMove 45 = .ok (.invokevirtual 76, 3) := by decide +kernel
theorem dX2_nextMove_48 : decode cX2_nextMove 48 = .ok (.iload_n 2, 1) := by decide +kernel
theorem dX2_nextMove_49 : decode cX2_nextMove 49 = .ok (.iconst 1, 1) := by decide +kernel
theorem dX2_nextMove_50 : decode cX2_nextMove 50 = .ok (.isub, 1) := by decide +kernel
theorem dX2_nextMove_51 : decode cX2_nextMove 51 = .ok (.if_icmp .ne 6, 3) := by decide +kernel
theorem dX2_nextMove_54 : decode cX2_nextMove 54 = .ok (.iload 4, 2) := by decide +kernel
theorem dX2_nextMove_56 : decode cX2_nextMove 56 = .ok (.ireturn, 1) := by decide +kernel
theorem dX2_nextMove_57 : decode cX2_nextMove 57 = .ok (.iinc 3 1, 3) := by decide +kernel
theorem dX2_nextMove_60 : decode cX2_nextMove 60 = .ok (.goto (-52), 3) := by decide +kernel
theorem dX2_nextMove_63 : decode cX2_nextMove 63 = .ok (.iconst (-1), 1) := by decide +kernel
theorem dX2_nextMove_64 : decode cX2_nextMove 64 = .ok (.ireturn, 1) := by decide +kernel
theorem dX2_farthestSet_0 : decode cX2_farthestSet 0 = .ok (.aload_n 0, 1) := by decide +kernel
theorem dX2_farthestSet_1 : decode cX2_farthestSet 1 = .ok (.iconst 0, 1) := by decide +kernel
theorem dX2_farthestSet_2 : decode cX2_farthestSet 2 = .ok (.invokevirtual 73, 3) := by decide +kernel
theorem dX2_farthestSet_5 : decode cX2_farthestSet 5 = .ok (.istore_n 1, 1) := by decide +kernel
theorem dX2_farthestSet_6 : decode cX2_farthestSet 6 = .ok (.iconst 0, 1) := by decide +kernel
theorem dX2_farthestSet_7 : decode cX2_farthestSet 7 = .ok (.istore_n 2, 1) := by decide +kernel
theorem dX2_farthestSet_8 : decode cX2_farthestSet 8 = .ok (.iload_n 2, 1) := by decide +kernel
theorem dX2_farthestSet_9 : decode cX2_farthestSet 9 = .ok (.aload_n 0, 1) := by decide +kernel
theorem dX2_farthestSet_10 : decode cX2_farthestSet 10 = .ok (.getfield 31, 3) := by decide +kernel
theorem dX2_farthestSet_13 : decode cX2_farthestSet 13 = .ok (.if_icmp .ge 24, 3) := by decide +kernel
theorem dX2_farthestSet_16 : decode cX2_farthestSet 16 = .ok (.aload_n 0, 1) := by decide +kernel
theorem dX2_farthestSet_17 : decode cX2_farthestSet 17 = .ok (.iload_n 2, 1) := by decide +kernel
theorem dX2_farthestSet_18 : decode cX2_farthestSet 18 = .ok (.invokevirtual 76, 3) := by decide +kernel
theorem dX2_farthestSet_21 : decode cX2_farthestSet 21 = .ok (.aload_n 0, 1) := by decide +kernel
theorem dX2_farthestSet_22 : decode cX2_farthestSet 22 = .ok (.iload_n 1, 1) := by decide +kernel
theorem dX2_farthestSet_23 : decode cX2_farthestSet 23 = .ok (.invokevirtual 76, 3) := by decide +kernel
theorem dX2_farthestSet_26 : decode cX2_farthestSet 26 = .ok (.if_icmp .le 5, 3) := by decide +kernel
theorem dX2_farthestSet_29 : decode cX2_farthestSet 29 = .ok (.iload_n 2, 1) := by decide +kernel
theorem dX2_farthestSet_30 : decode cX2_farthestSet 30 = .ok (.istore_n 1, 1) := by decide +kernel
theorem dX2_farthestSet_31 : decode cX2_farthestSet 31 = .ok (.iinc 2 1, 3) := by decide +kernel
theorem dX2_farthestSet_34 : decode cX2_farthestSet 34 = .ok (.goto (-26), 3) := by decide +kernel
theorem dX2_farthestSet_37 : decode cX2_farthestSet 37 = .ok (.iload_n 1, 1) := by decide +kernel
theorem dX2_farthestSet_38 : decode cX2_farthestSet 38 = .ok (.ireturn, 1) := by decide +kernel
theorem dX2_shapeOfFound_0 : decode cX2_shapeOfFound 0 = .ok (.iconst 0, 1) := by decide +kernel
theorem dX2_shapeOfFound_1 : decode cX2_shapeOfFound 1 = .ok (.istore_n 1, 1) := by decide +kernel
theorem dX2_shapeOfFound_2 : decode cX2_shapeOfFound 2 = .ok (.iconst 0, 1) := by decide +kernel
theorem dX2_shapeOfFound_3 : decode cX2_shapeOfFound 3 = .ok (.istore_n 2, 1) := by decide +kernel
theorem dX2_shapeOfFound_4 : decode cX2_shapeOfFound 4 = .ok (.iconst 0, 1) := by decide +kernel
theorem dX2_shapeOfFound_5 : decode cX2_shapeOfFound 5 = .ok (.istore_n 3, 1) := by decide +kernel
theorem dX2_shapeOfFound_6 : decode cX2_shapeOfFound 6 = .ok (.iload_n 3, 1) := by decide +kernel
theorem dX2_shapeOfFound_7 : decode cX2_shapeOfFound 7 = .ok (.aload_n 0, 1) := by decide +kernel
theorem dX2_shapeOfFound_8 : decode cX2_shapeOfFound 8 = .ok (.getfield 34, 3) := by decide +kernel
theorem dX2_shapeOfFound_11 : decode cX2_shapeOfFound 11 = .ok (.if_icmp .ge 32, 3) := by decide +kernel
theorem dX2_shapeOfFound_14 : decode cX2_shapeOfFound 14 = .ok (.aload_n 0, 1) := by decide +kernel
theorem dX2_shapeOfFound_15 : decode cX2_shapeOfFound 15 = .ok (.aload_n 0, 1) := by decide +kernel
theorem dX2_shapeOfFound_16 : decode cX2_shapeOfFound 16 = .ok (.iload_n 3, 1) := by decide +kernel
theorem dX2_shapeOfFound_17 : decode cX2_shapeOfFound 17 = .ok (.invokevirtual 73, 3) := by decide +kernel
theorem dX2_shapeOfFound_20 : decode cX2_shapeOfFound 20 = .ok (.invokevirtual 93, 3) := by decide +kernel
theorem dX2_shapeOfFound_23 : decode cX2_shapeOfFound 23 = .ok (.istore 4, 2) := by decide +kernel
theorem dX2_shapeOfFound_25 : decode cX2_shapeOfFound 25 = .ok (.iload_n 1, 1) := by decide +kernel
theorem dX2_shapeOfFound_26 : decode cX2_shapeOfFound 26 = .ok (.iload 4, 2) := by decide +kernel
theorem dX2_shapeOfFound_28 : decode cX2_shapeOfFound 28 = .ok (.iadd, 1) := by decide +kernel
theorem dX2_shapeOfFound_29 : decode cX2_shapeOfFound 29 = .ok (.istore_n 1, 1) := by decide +kernel
theorem dX2_shapeOfFound_30 : decode cX2_shapeOfFound 30 = .ok (.iload_n 2, 1) := by decide +kernel
theorem dX2_shapeOfFound_31 : decode cX2_shapeOfFound 31 = .ok (.iload 4, 2) := by decide +kernel
theorem dX2_shapeOfFound_33 : decode cX2_shapeOfFound 33 = .ok (.invokestatic 96, 3) := by decide +kernel
theorem dX2_shapeOfFound_36 : decode cX2_shapeOfFound 36 = .ok (.istore_n 2, 1) := by decide +kernel
theorem dX2_shapeOfFound_37 : decode cX2_shapeOfFound 37 = .ok (.iinc 3 1, 3) := by decide +kernel
theorem dX2_shapeOfFound_40 : decode cX2_shapeOfFound 40 = .ok (.goto (-34), 3) := by decide +kernel
theorem dX2_shapeOfFound_43 : decode cX2_shapeOfFound 43 = .ok (.iload_n 1, 1) := by decide +kernel
theorem dX2_shapeOfFound_44 : decode cX2_shapeOfFound 44 = .ok (.iconst 2, 1) := by decide +kernel
theorem dX2_shapeOfFound_45 : decode cX2_shapeOfFound 45 = .ok (.aload_n 0, 1) := by decide +kernel
theorem dX2_shapeOfFound_46 : decode cX2_shapeOfFound 46 = .ok (.getfield 34, 3) := by decide +kernel
theorem dX2_shapeOfFound_49 : decode cX2_shapeOfFound 49 = .ok (.imul, 1) := by decide +kernel
theorem dX2_shapeOfFound_50 : decode cX2_shapeOfFound 50 = .ok (.if_icmp .lt 5, 3) := by decide +kernel
theorem dX2_shapeOfFound_53 : decode cX2_shapeOfFound 53 = .ok (.iconst 2, 1) := by decide +kernel
theorem dX2_shapeOfFound_54 : decode cX2_shapeOfFound 54 = .ok (.ireturn, 1) := by decide +kernel
theorem dX2_shapeOfFound_55 : decode cX2_shapeOfFound 55 = .ok (.iload_n 2, 1) := by decide +kernel
theorem dX2_shapeOfFound_56 : decode cX2_shapeOfFound 56 = .ok (.iconst 2, 1) := by decide +kernel
theorem dX2_shapeOfFound_57 : decode cX2_shapeOfFound 57 = .ok (.if_icmp .gt 7, 3) := by decide +kernel
theorem dX2_shapeOfFound_60 : decode cX2_shapeOfFound 60 = .ok (.iconst 0, 1) := by decide +kernel
theorem dX2_shapeOfFound_61 : decode cX2_shapeOfFound 61 = .ok (.goto 4, 3) := by decide +kernel
theorem dX2_shapeOfFound_64 : decode cX2_shapeOfFound 64 = .ok (.iconst 1, 1) := by decide +kernel
theorem dX2_shapeOfFound_65 : decode cX2_shapeOfFound 65 = .ok (.ireturn, 1) := by decide +kernel
theorem dX2_pairsOf_0 : decode cX2_pairsOf 0 = .ok (.iconst 0, 1) := by decide +kernel
theorem dX2_pairsOf_1 : decode cX2_pairsOf 1 = .ok (.istore_n 2, 1) := by decide +kernel
theorem dX2_pairsOf_2 : decode cX2_pairsOf 2 = .ok (.iconst 0, 1) := by decide +kernel
theorem dX2_pairsOf_3 : decode cX2_pairsOf 3 = .ok (.istore_n 3, 1) := by decide +kernel
theorem dX2_pairsOf_4 : decode cX2_pairsOf 4 = .ok (.iload_n 3, 1) := by decide +kernel
theorem dX2_pairsOf_5 : decode cX2_pairsOf 5 = .ok (.aload_n 0, 1) := by decide +kernel
theorem dX2_pairsOf_6 : decode cX2_pairsOf 6 = .ok (.getfield 27, 3) := by decide +kernel
theorem dX2_pairsOf_9 : decode cX2_pairsOf 9 = .ok (.if_icmp .gt 51, 3) := by decide +kernel
theorem dX2_pairsOf_12 : decode cX2_pairsOf 12 = .ok (.aload_n 0, 1) := by decide +kernel
theorem dX2_pairsOf_13 : decode cX2_pairsOf 13 = .ok (.iload_n 3, 1) := by decide +kernel
theorem dX2_pairsOf_14 : decode cX2_pairsOf 14 = .ok (.invokevirtual 79, 3) := by decide +kernel
theorem dX2_pairsOf_17 : decode cX2_pairsOf 17 = .ok (.istore 4, 2) := by decide +kernel
theorem dX2_pairsOf_19 : decode cX2_pairsOf 19 = .ok (.iload_n 1, 1) := by decide +kernel
theorem dX2_pairsOf_20 : decode cX2_pairsOf 20 = .ok (.iload 4, 2) := by decide +kernel
theorem dX2_pairsOf_22 : decode cX2_pairsOf 22 = .ok (.invokestatic 82, 3) := by decide +kernel
theorem dX2_pairsOf_25 : decode cX2_pairsOf 25 = .ok (.ixor, 1) := by decide +kernel
theorem dX2_pairsOf_26 : decode cX2_pairsOf 26 = .ok (.istore 5, 2) := by decide +kernel
theorem dX2_pairsOf_28 : decode cX2_pairsOf 28 = .ok (.aload_n 0, 1) := by decide +kernel
theorem dX2_pairsOf_29 : decode cX2_pairsOf 29 = .ok (.iload 5, 2) := by decide +kernel
theorem dX2_pairsOf_31 : decode cX2_pairsOf 31 = .ok (.invokevirtual 76, 3) := by decide +kernel
theorem dX2_pairsOf_34 : decode cX2_pairsOf 34 = .ok (.iconst (-1), 1) := by decide +kernel
theorem dX2_pairsOf_35 : decode cX2_pairsOf 35 = .ok (.if_icmp .eq 19, 3) := by decide +kernel
theorem dX2_pairsOf_38 : decode cX2_pairsOf 38 = .ok (.aload_n 0, 1) := by decide +kernel
theorem dX2_pairsOf_39 : decode cX2_pairsOf 39 = .ok (.iload_n 1, 1) := by decide +kernel
theorem dX2_pairsOf_40 : decode cX2_pairsOf 40 = .ok (.iload 5, 2) := by decide +kernel
theorem dX2_pairsOf_42 : decode cX2_pairsOf 42 = .ok (.iload 4, 2) := by decide +kernel
theorem dX2_pairsOf_44 : decode cX2_pairsOf 44 = .ok (.iconst 3, 1) := by decide +kernel
theorem dX2_pairsOf_45 : decode cX2_pairsOf 45 = .ok (.invokevirtual 85, 3) := by decide +kernel
theorem dX2_pairsOf_48 : decode cX2_pairsOf 48 = .ok (.ifCond .eq 6, 3) := by decide +kernel
theorem dX2_pairsOf_51 : decode cX2_pairsOf 51 = .ok (.iinc 2 1, 3) := by decide +kernel
theorem dX2_pairsOf_54 : decode cX2_pairsOf 54 = .ok (.iinc 3 1, 3) := by decide +kernel
theorem dX2_pairsOf_57 : decode cX2_pairsOf 57 = .ok (.goto (-53), 3) := by decide +kernel
theorem dX2_pairsOf_60 : decode cX2_pairsOf 60 = .ok (.iload_n 2, 1) := by decide +kernel
theorem dX2_pairsOf_61 : decode cX2_pairsOf 61 = .ok (.ireturn, 1) := by decide +kernel
theorem dX2_countParts_0 : decode cX2_countParts 0 = .ok (.aload_n 0, 1) := by decide +kernel
theorem dX2_countParts_1 : decode cX2_countParts 1 = .ok (.invokevirtual 63, 3) := by decide +kernel
theorem dX2_countParts_4 : decode cX2_countParts 4 = .ok (.iconst 0, 1) := by decide +kernel
theorem dX2_countParts_5 : decode cX2_countParts 5 = .ok (.istore_n 1, 1) := by decide +kernel
theorem dX2_countParts_6 : decode cX2_countParts 6 = .ok (.iconst 0, 1) := by decide +kernel
theorem dX2_countParts_7 : decode cX2_countParts 7 = .ok (.istore_n 2, 1) := by decide +kernel
theorem dX2_countParts_8 : decode cX2_countParts 8 = .ok (.iload_n 2, 1) := by decide +kernel
theorem dX2_countParts_9 : decode cX2_countParts 9 = .ok (.aload_n 0, 1) := by decide +kernel
theorem dX2_countParts_10 : decode cX2_countParts 10 = .ok (.getfield 31, 3) := by decide +kernel
theorem dX2_countParts_13 : decode cX2_countParts 13 = .ok (.if_icmp .ge 27, 3) := by decide +kernel
theorem dX2_countParts_16 : decode cX2_countParts 16 = .ok (.aload_n 0, 1) := by decide +kernel
theorem dX2_countParts_17 : decode cX2_countParts 17 = .ok (.iload_n 2, 1) := by decide +kernel
theorem dX2_countParts_18 : decode cX2_countParts 18 = .ok (.invokevirtual 76, 3) := by decide +kernel
theorem dX2_countParts_21 : decode cX2_countParts 21 = .ok (.iconst (-1), 1) := by decide +kernel
theorem dX2_countParts_22 : decode cX2_countParts 22 = .ok (.if_icmp .ne 12, 3) := by decide +kernel
theorem dX2_countParts_25 : decode cX2_countParts 25 = .ok (.aload_n 0, 1) := by decide +kernel
theorem dX2_countParts_26 : decode cX2_countParts 26 = .ok (.iload_n 2, 1) := by decide +kernel
theorem dX2_countParts_27 : decode cX2_countParts 27 = .ok (.iconst 3, 1) := by decide +kernel
theorem dX2_countParts_28 : decode cX2_countParts 28 = .ok (.invokevirtual 66, 3) := by decide +kernel
theorem dX2_countParts_31 : decode cX2_countParts 31 = .ok (.iinc 1 1, 3) := by decide +kernel
theorem dX2_countParts_34 : decode cX2_countParts 34 = .ok (.iinc 2 1, 3) := by decide +kernel
theorem dX2_countParts_37 : decode cX2_countParts 37 = .ok (.goto (-29), 3) := by decide +kernel
theorem dX2_countParts_40 : decode cX2_countParts 40 = .ok (.iload_n 1, 1) := by decide +kernel
theorem dX2_countParts_41 : decode cX2_countParts 41 = .ok (.ireturn, 1) := by decide +kernel
theorem dX2_greatestFewest_0 : decode cX2_greatestFewest 0 = .ok (.iconst 0, 1) := by decide +kernel
theorem dX2_greatestFewest_1 : decode cX2_greatestFewest 1 = .ok (.istore_n 1, 1) := by decide +kernel
theorem dX2_greatestFewest_2 : decode cX2_greatestFewest 2 = .ok (.iconst 0, 1) := by decide +kernel
theorem dX2_greatestFewest_3 : decode cX2_greatestFewest 3 = .ok (.istore_n 2, 1) := by decide +kernel
theorem dX2_greatestFewest_4 : decode cX2_greatestFewest 4 = .ok (.iload_n 2, 1) := by decide +kernel
theorem dX2_greatestFewest_5 : decode cX2_greatestFewest 5 = .ok (.aload_n 0, 1) := by decide +kernel
theorem dX2_greatestFewest_6 : decode cX2_greatestFewest 6 = .ok (.getfield 31, 3) := by decide +kernel
theorem dX2_greatestFewest_9 : decode cX2_greatestFewest 9 = .ok (.if_icmp .ge 34, 3) := by decide +kernel
theorem dX2_greatestFewest_12 : decode cX2_greatestFewest 12 = .ok (.aload_n 0, 1) := by decide +kernel
theorem dX2_greatestFewest_13 : decode cX2_greatestFewest 13 = .ok (.iload_n 2, 1) := by decide +kernel
theorem dX2_greatestFewest_14 : decode cX2_greatestFewest 14 = .ok (.iconst 1, 1) := by decide +kernel
theorem dX2_greatestFewest_15 : decode cX2_greatestFewest 15 = .ok (.invokevirtual 99, 3) := by decide +kernel
theorem dX2_greatestFewest_18 : decode cX2_greatestFewest 18 = .ok (.iload_n 1, 1) := by decide +kernel
theorem dX2_greatestFewest_19 : decode cX2_greatestFewest 19 = .ok (.aload_n 0, 1) := by decide +kernel
theorem dX2_greatestFewest_20 : decode cX2_greatestFewest 20 = .ok (.aload_n 0, 1) := by decide +kernel
theorem dX2_greatestFewest_21 : decode cX2_greatestFewest 21 = .ok (.aload_n 0, 1) := by decide +kernel
theorem dX2_greatestFewest_22 : decode cX2_greatestFewest 22 = .ok (.getfield 34, 3) := by decide +kernel
theorem dX2_greatestFewest_25 : decode cX2_greatestFewest 25 = .ok (.iconst 1, 1) := by decide +kernel
theorem dX2_greatestFewest_26 : decode cX2_greatestFewest 26 = .ok (.isub, 1) := by decide +kernel
theorem dX2_greatestFewest_27 : decode cX2_greatestFewest 27 = .ok (.invokevirtual 73, 3) := by decide +kernel
theorem dX2_greatestFewest_30 : decode cX2_greatestFewest 30 = .ok (.invokevirtual 76, 3) := by decide +kernel
theorem dX2_greatestFewest_33 : decode cX2_greatestFewest 33 = .ok (.invokestatic 96, 3) := by decide +kernel
theorem dX2_greatestFewest_36 : decode cX2_greatestFewest 36 = .ok (.istore_n 1, 1) := by decide +kernel
theorem dX2_greatestFewest_37 : decode cX2_greatestFewest 37 = .ok (.iinc 2 1, 3) := by decide +kernel
theorem dX2_greatestFewest_40 : decode cX2_greatestFewest 40 = .ok (.goto (-36), 3) := by decide +kernel
theorem dX2_greatestFewest_43 : decode cX2_greatestFewest 43 = .ok (.iload_n 1, 1) := by decide +kernel
theorem dX2_greatestFewest_44 : decode cX2_greatestFewest 44 = .ok (.ireturn, 1) := by decide +kernel
theorem dX2_movableRings_0 : decode cX2_movableRings 0 = .ok (.iconst 0, 1) := by decide +kernel
theorem dX2_movableRings_1 : decode cX2_movableRings 1 = .ok (.istore_n 1, 1) := by decide +kernel
theorem dX2_movableRings_2 : decode cX2_movableRings 2 = .ok (.iconst 0, 1) := by decide +kernel
theorem dX2_movableRings_3 : decode cX2_movableRings 3 = .ok (.istore_n 2, 1) := by decide +kernel
theorem dX2_movableRings_4 : decode cX2_movableRings 4 = .ok (.iload_n 2, 1) := by decide +kernel
theorem dX2_movableRings_5 : decode cX2_movableRings 5 = .ok (.aload_n 0, 1) := by decide +kernel
theorem dX2_movableRings_6 : decode cX2_movableRings 6 = .ok (.getfield 34, 3) := by decide +kernel
theorem dX2_movableRings_9 : decode cX2_movableRings 9 = .ok (.if_icmp .ge 21, 3) := by decide +kernel
theorem dX2_movableRings_12 : decode cX2_movableRings 12 = .ok (.iload_n 1, 1) := by decide +kernel
theorem dX2_movableRings_13 : decode cX2_movableRings 13 = .ok (.aload_n 0, 1) := by decide +kernel
theorem dX2_movableRings_14 : decode cX2_movableRings 14 = .ok (.aload_n 0, 1) := by decide +kernel
theorem dX2_movableRings_15 : decode cX2_movableRings 15 = .ok (.iload_n 2, 1) := by decide +kernel
theorem dX2_movableRings_16 : decode cX2_movableRings 16 = .ok (.invokevirtual 73, 3) := by decide +kernel
theorem dX2_movableRings_19 : decode cX2_movableRings 19 = .ok (.invokevirtual 50, 3) := by decide +kernel
theorem dX2_movableRings_22 : decode cX2_movableRings 22 = .ok (.ior, 1) := by decide +kernel
theorem dX2_movableRings_23 : decode cX2_movableRings 23 = .ok (.istore_n 1, 1) := by decide +kernel
theorem dX2_movableRings_24 : decode cX2_movableRings 24 = .ok (.iinc 2 1, 3) := by decide +kernel
theorem dX2_movableRings_27 : decode cX2_movableRings 27 = .ok (.goto (-23), 3) := by decide +kernel
theorem dX2_movableRings_30 : decode cX2_movableRings 30 = .ok (.iload_n 1, 1) := by decide +kernel
theorem dX2_movableRings_31 : decode cX2_movableRings 31 = .ok (.sipush 1023, 3) := by decide +kernel
theorem dX2_movableRings_34 : decode cX2_movableRings 34 = .ok (.iand, 1) := by decide +kernel
theorem dX2_movableRings_35 : decode cX2_movableRings 35 = .ok (.istore_n 2, 1) := by decide +kernel
theorem dX2_movableRings_36 : decode cX2_movableRings 36 = .ok (.iload_n 1, 1) := by decide +kernel
theorem dX2_movableRings_37 : decode cX2_movableRings 37 = .ok (.bipush 20, 2) := by decide +kernel
theorem dX2_movableRings_39 : decode cX2_movableRings 39 = .ok (.invokestatic 102, 3) := by decide +kernel
theorem dX2_movableRings_42 : decode cX2_movableRings 42 = .ok (.ifCond .eq 13, 3) := by decide +kernel
theorem dX2_movableRings_45 : decode cX2_movableRings 45 = .ok (.iload_n 2, 1) := by decide +kernel
theorem dX2_movableRings_46 : decode cX2_movableRings 46 = .ok (.bipush 20, 2) := by decide +kernel
theorem dX2_movableRings_48 : decode cX2_movableRings 48 = .ok (.invokestatic 82, 3) := by decide +kernel
theorem dX2_movableRings_51 : decode cX2_movableRings 51 = .ok (.ior, 1) := by decide +kernel
theorem dX2_movableRings_52 : decode cX2_movableRings 52 = .ok (.goto 4, 3) := by decide +kernel
theorem dX2_movableRings_55 : decode cX2_movableRings 55 = .ok (.iload_n 2, 1) := by decide +kernel
theorem dX2_movableRings_56 : decode cX2_movableRings 56 = .ok (.ireturn, 1) := by decide +kernel
theorem dX2_countEnds_0 : decode cX2_countEnds 0 = .ok (.iconst 0, 1) := by decide +kernel
theorem dX2_countEnds_1 : decode cX2_countEnds 1 = .ok (.istore_n 1, 1) := by decide +kernel
theorem dX2_countEnds_2 : decode cX2_countEnds 2 = .ok (.iconst 0, 1) := by decide +kernel
theorem dX2_countEnds_3 : decode cX2_countEnds 3 = .ok (.istore_n 2, 1) := by decide +kernel
theorem dX2_countEnds_4 : decode cX2_countEnds 4 = .ok (.iload_n 2, 1) := by decide +kernel
theorem dX2_countEnds_5 : decode cX2_countEnds 5 = .ok (.aload_n 0, 1) := by decide +kernel
theorem dX2_countEnds_6 : decode cX2_countEnds 6 = .ok (.getfield 34, 3) := by decide +kernel
theorem dX2_countEnds_9 : decode cX2_countEnds 9 = .ok (.if_icmp .ge 28, 3) := by decide +kernel
theorem dX2_countEnds_12 : decode cX2_countEnds 12 = .ok (.aload_n 0, 1) := by decide +kernel
theorem dX2_countEnds_13 : decode cX2_countEnds 13 = .ok (.aload_n 0, 1) := by decide +kernel
theorem dX2_countEnds_14 : decode cX2_countEnds 14 = .ok (.iload_n 2, 1) := by decide +kernel
theorem dX2_countEnds_15 : decode cX2_countEnds 15 = .ok (.invokevirtual 73, 3) := by decide +kernel
theorem dX2_countEnds_18 : decode cX2_countEnds 18 = .ok (.invokevirtual 50, 3) := by decide +kernel
theorem dX2_countEnds_21 : decode cX2_countEnds 21 = .ok (.invokestatic 105, 3) := by decide +kernel
theorem dX2_countEnds_24 : decode cX2_countEnds 24 = .ok (.iconst 1, 1) := by decide +kernel
theorem dX2_countEnds_25 : decode cX2_countEnds 25 = .ok (.if_icmp .ne 6, 3) := by decide +kernel
theorem dX2_countEnds_28 : decode cX2_countEnds 28 = .ok (.iinc 1 1, 3) := by decide +kernel
theorem dX2_countEnds_31 : decode cX2_countEnds 31 = .ok (.iinc 2 1, 3) := by decide +kernel
theorem dX2_countEnds_34 : decode cX2_countEnds 34 = .ok (.goto (-30), 3) := by decide +kernel
theorem dX2_countEnds_37 : decode cX2_countEnds 37 = .ok (.iload_n 1, 1) := by decide +kernel
theorem dX2_countEnds_38 : decode cX2_countEnds 38 = .ok (.ireturn, 1) := by decide +kernel
theorem dX2_soonestMoveOf_0 : decode cX2_soonestMoveOf 0 = .ok (.iload_n 1, 1) := by decide +kernel
theorem dX2_soonestMoveOf_1 : decode cX2_soonestMoveOf 1 = .ok (.invokestatic 82, 3) := by decide +kernel
theorem dX2_soonestMoveOf_4 : decode cX2_soonestMoveOf 4 = .ok (.bipush 20, 2) := by decide +kernel
theorem dX2_soonestMoveOf_6 : decode cX2_soonestMoveOf 6 = .ok (.invokestatic 82, 3) := by decide +kernel
theorem dX2_soonestMoveOf_9 : decode cX2_soonestMoveOf 9 = .ok (.iload_n 1, 1) := by decide +kernel
theorem dX2_soonestMoveOf_10 : decode cX2_soonestMoveOf 10 = .ok (.invokestatic 102, 3) := by decide +kernel
theorem dX2_soonestMoveOf_13 : decode cX2_soonestMoveOf 13 = .ok (.ifCond .eq 8, 3) := by decide +kernel
theorem dX2_soonestMoveOf_16 : decode cX2_soonestMoveOf 16 = .ok (.ldc 110, 2) := by decide +kernel
theorem dX2_soonestMoveOf_18 : decode cX2_soonestMoveOf 18 = .ok (.goto 4, 3) := by decide +kernel
theorem dX2_soonestMoveOf_21 : decode cX2_soonestMoveOf 21 = .ok (.iconst 0, 1) := by decide +kernel
theorem dX2_soonestMoveOf_22 : decode cX2_soonestMoveOf 22 = .ok (.ior, 1) := by decide +kernel
theorem dX2_soonestMoveOf_23 : decode cX2_soonestMoveOf 23 = .ok (.istore_n 2, 1) := by decide +kernel
theorem dX2_soonestMoveOf_24 : decode cX2_soonestMoveOf 24 = .ok (.iconst 0, 1) := by decide +kernel
theorem dX2_soonestMoveOf_25 : decode cX2_soonestMoveOf 25 = .ok (.istore_n 3, 1) := by decide +kernel
theorem dX2_soonestMoveOf_26 : decode cX2_soonestMoveOf 26 = .ok (.iload_n 3, 1) := by decide +kernel
theorem dX2_soonestMoveOf_27 : decode cX2_soonestMoveOf 27 = .ok (.aload_n 0, 1) := by decide +kernel
theorem dX2_soonestMoveOf_28 : decode cX2_soonestMoveOf 28 = .ok (.getfield 34, 3) := by decide +kernel
theorem dX2_soonestMoveOf_31 : decode cX2_soonestMoveOf 31 = .ok (.if_icmp .ge 35, 3) := by decide +kernel
theorem dX2_soonestMoveOf_34 : decode cX2_soonestMoveOf 34 = .ok (.aload_n 0, 1) := by decide +kernel
theorem dX2_soonestMoveOf_35 : decode cX2_soonestMoveOf 35 = .ok (.aload_n 0, 1) := by decide +kernel
theorem dX2_soonestMoveOf_36 : decode cX2_soonestMoveOf 36 = .ok (.iload_n 3, 1) := by decide +kernel
theorem dX2_soonestMoveOf_37 : decode cX2_soonestMoveOf 37 = .ok (.invokevirtual 73, 3) := by decide +kernel
theorem dX2_soonestMoveOf_40 : decode cX2_soonestMoveOf 40 = .ok (.invokevirtual 50, 3) := by decide +kernel
theorem dX2_soonestMoveOf_43 : decode cX2_soonestMoveOf 43 = .ok (.iload_n 2, 1) := by decide +kernel
theorem dX2_soonestMoveOf_44 : decode cX2_soonestMoveOf 44 = .ok (.iand, 1) := by decide +kernel
theorem dX2_soonestMoveOf_45 : decode cX2_soonestMoveOf 45 = .ok (.ifCond .eq 15, 3) := by decide +kernel
theorem dX2_soonestMoveOf_48 : decode cX2_soonestMoveOf 48 = .ok (.aload_n 0, 1) := by decide +kernel
theorem dX2_soonestMoveOf_49 : decode cX2_soonestMoveOf 49 = .ok (.aload_n 0, 1) := by decide +kernel
theorem dX2_soonestMoveOf_50 : decode cX2_soonestMoveOf 50 = .ok (.iload_n 3, 1) := by decide +kernel
theorem dX2_soonestMoveOf_51 : decode cX2_soonestMoveOf 51 = .ok (.invokevirtual 73, 3) := by decide +kernel
theorem dX2_soonestMoveOf_54 : decode cX2_soonestMoveOf 54 = .ok (.invokevirtual 76, 3) := by decide +kernel
theorem dX2_soonestMoveOf_57 : decode cX2_soonestMoveOf 57 = .ok (.iconst 1, 1) := by decide +kernel
theorem dX2_soonestMoveOf_58 : decode cX2_soonestMoveOf 58 = .ok (.iadd, 1) := by decide +kernel
theorem dX2_soonestMoveOf_59 : decode cX2_soonestMoveOf 59 = .ok (.ireturn, 1) := by decide +kernel
theorem dX2_soonestMoveOf_60 : decode cX2_soonestMoveOf 60 = .ok (.iinc 3 1, 3) := by decide +kernel
theorem dX2_soonestMoveOf_63 : decode cX2_soonestMoveOf 63 = .ok (.goto (-37), 3) := by decide +kernel
theorem dX2_soonestMoveOf_66 : decode cX2_soonestMoveOf 66 = .ok (.iconst (-1), 1) := by decide +kernel
theorem dX2_soonestMoveOf_67 : decode cX2_soonestMoveOf 67 = .ok (.ireturn, 1) := by decide +kernel
theorem dX2_chanceOf_0 : decode cX2_chanceOf 0 = .ok (.aload_n 0, 1) := by decide +kernel
theorem dX2_chanceOf_1 : decode cX2_chanceOf 1 = .ok (.iload_n 1, 1) := by decide +kernel
theorem dX2_chanceOf_2 : decode cX2_chanceOf 2 = .ok (.invokevirtual 53, 3) := by decide +kernel
theorem dX2_chanceOf_5 : decode cX2_chanceOf 5 = .ok (.ifCond .eq 11, 3) := by decide +kernel
theorem dX2_chanceOf_8 : decode cX2_chanceOf 8 = .ok (.aload_n 0, 1) := by decide +kernel
theorem dX2_chanceOf_9 : decode cX2_chanceOf 9 = .ok (.iload_n 2, 1) := by decide +kernel
theorem dX2_chanceOf_10 : decode cX2_chanceOf 10 = .ok (.invokevirtual 53, 3) := by decide +kernel
theorem dX2_chanceOf_13 : decode cX2_chanceOf 13 = .ok (.ifCond .ne 5, 3) := by decide +kernel
theorem dX2_chanceOf_16 : decode cX2_chanceOf 16 = .ok (.iconst 0, 1) := by decide +kernel
theorem dX2_chanceOf_17 : decode cX2_chanceOf 17 = .ok (.ireturn, 1) := by decide +kernel
theorem dX2_chanceOf_18 : decode cX2_chanceOf 18 = .ok (.aload_n 0, 1) := by decide +kernel
theorem dX2_chanceOf_19 : decode cX2_chanceOf 19 = .ok (.getfield 21, 3) := by decide +kernel
theorem dX2_chanceOf_22 : decode cX2_chanceOf 22 = .ok (.iconst 0, 1) := by decide +kernel
theorem dX2_chanceOf_23 : decode cX2_chanceOf 23 = .ok (.invokestatic 57, 3) := by decide +kernel
theorem dX2_chanceOf_26 : decode cX2_chanceOf 26 = .ok (.aload_n 0, 1) := by decide +kernel
theorem dX2_chanceOf_27 : decode cX2_chanceOf 27 = .ok (.getfield 21, 3) := by decide +kernel
theorem dX2_chanceOf_30 : decode cX2_chanceOf 30 = .ok (.iload_n 1, 1) := by decide +kernel
theorem dX2_chanceOf_31 : decode cX2_chanceOf 31 = .ok (.ldc 111, 2) := by decide +kernel
theorem dX2_chanceOf_33 : decode cX2_chanceOf 33 = .ok (.iastore, 1) := by decide +kernel
theorem dX2_chanceOf_34 : decode cX2_chanceOf 34 = .ok (.iconst 0, 1) := by decide +kernel
theorem dX2_chanceOf_35 : decode cX2_chanceOf 35 = .ok (.istore 4, 2) := by decide +kernel
theorem dX2_chanceOf_37 : decode cX2_chanceOf 37 = .ok (.iload 4, 2) := by decide +kernel
theorem dX2_chanceOf_39 : decode cX2_chanceOf 39 = .ok (.iload_n 3, 1) := by decide +kernel
theorem dX2_chanceOf_40 : decode cX2_chanceOf 40 = .ok (.if_icmp .ge 86, 3) := by decide +kernel
theorem dX2_chanceOf_43 : decode cX2_chanceOf 43 = .ok (.aload_n 0, 1) := by decide +kernel
theorem dX2_chanceOf_44 : decode cX2_chanceOf 44 = .ok (.getfield 24, 3) := by decide +kernel
theorem dX2_chanceOf_47 : decode cX2_chanceOf 47 = .ok (.iconst 0, 1) := by decide +kernel
theorem dX2_chanceOf_48 : decode cX2_chanceOf 48 = .ok (.invokestatic 57, 3) := by decide +kernel
theorem dX2_chanceOf_51 : decode cX2_chanceOf 51 = .ok (.iconst 0, 1) := by decide +kernel
theorem dX2_chanceOf_52 : decode cX2_chanceOf 52 = .ok (.istore 5, 2) := by decide +kernel
theorem dX2_chanceOf_54 : decode cX2_chanceOf 54 = .ok (.iload 5, 2) := by decide +kernel
theorem dX2_chanceOf_56 : decode cX2_chanceOf 56 = .ok (.aload_n 0, 1) := by decide +kernel
theorem dX2_chanceOf_57 : decode cX2_chanceOf 57 = .ok (.getfield 31, 3) := by decide +kernel
theorem dX2_chanceOf_60 : decode cX2_chanceOf 60 = .ok (.if_icmp .ge 40, 3) := by decide +kernel
theorem dX2_chanceOf_63 : decode cX2_chanceOf 63 = .ok (.iload 5, 2) := by decide +kernel
theorem dX2_chanceOf_65 : decode cX2_chanceOf 65 = .ok (.sipush 1024, 3) := by decide +kernel
theorem dX2_chanceOf_68 : decode cX2_chanceOf 68 = .ok (.if_icmp .ge 32, 3) := by decide +kernel
theorem dX2_chanceOf_71 : decode cX2_chanceOf 71 = .ok (.aload_n 0, 1) := by decide +kernel
theorem dX2_chanceOf_72 : decode cX2_chanceOf 72 = .ok (.getfield 21, 3) := by decide +kernel
theorem dX2_chanceOf_75 : decode cX2_chanceOf 75 = .ok (.iload 5, 2) := by decide +kernel
theorem dX2_chanceOf_77 : decode cX2_chanceOf 77 = .ok (.iaload, 1) := by decide +kernel
theorem dX2_chanceOf_78 : decode cX2_chanceOf 78 = .ok (.ifCond .le 16, 3) := by decide +kernel
theorem dX2_chanceOf_81 : decode cX2_chanceOf 81 = .ok (.aload_n 0, 1) := by decide +kernel
theorem dX2_chanceOf_82 : decode cX2_chanceOf 82 = .ok (.iload 5, 2) := by decide +kernel
theorem dX2_chanceOf_84 : decode cX2_chanceOf 84 = .ok (.aload_n 0, 1) := by decide +kernel
theorem dX2_chanceOf_85 : decode cX2_chanceOf 85 = .ok (.getfield 21, 3) := by decide +kernel
theorem dX2_chanceOf_88 : decode cX2_chanceOf 88 = .ok (.iload 5, 2) := by decide +kernel
theorem dX2_chanceOf_90 : decode cX2_chanceOf 90 = .ok (.iaload, 1) := by decide +kernel
theorem dX2_chanceOf_91 : decode cX2_chanceOf 91 = .ok (.invokevirtual 112, 3) := by decide +kernel
theorem dX2_chanceOf_94 : decode cX2_chanceOf 94 = .ok (.iinc 5 1, 3) := by decide +kernel
theorem dX2_chanceOf_97 : decode cX2_chanceOf 97 = .ok (.goto (-43), 3) := by decide +kernel
theorem dX2_chanceOf_100 : decode cX2_chanceOf 100 = .ok (.aload_n 0, 1) := by decide +kernel
theorem dX2_chanceOf_101 : decode cX2_chanceOf 101 = .ok (.getfield 21, 3) := by decide +kernel
theorem dX2_chanceOf_104 : decode cX2_chanceOf 104 = .ok (.astore 5, 2) := by decide +kernel
theorem dX2_chanceOf_106 : decode cX2_chanceOf 106 = .ok (.aload_n 0, 1) := by decide +kernel
theorem dX2_chanceOf_107 : decode cX2_chanceOf 107 = .ok (.aload_n 0, 1) := by decide +kernel
theorem dX2_chanceOf_108 : decode cX2_chanceOf 108 = .ok (.getfield 24, 3) := by decide +kernel
theorem dX2_chanceOf_111 : decode cX2_chanceOf 111 = .ok (.putfield 21, 3) := by decide +kernel
theorem dX2_chanceOf_114 : decode cX2_chanceOf 114 = .ok (.aload_n 0, 1) := by decide +kernel
theorem dX2_chanceOf_115 : decode cX2_chanceOf 115 = .ok (.aload 5, 2) := by decide +kernel
theorem dX2_chanceOf_117 : decode cX2_chanceOf 117 = .ok (.putfield 24, 3) := by decide +kernel
theorem dX2_chanceOf_120 : decode cX2_chanceOf 120 = .ok (.iinc 4 1, 3) := by decide +kernel
theorem dX2_chanceOf_123 : decode cX2_chanceOf 123 = .ok (.goto (-86), 3) := by decide +kernel
theorem dX2_chanceOf_126 : decode cX2_chanceOf 126 = .ok (.aload_n 0, 1) := by decide +kernel
theorem dX2_chanceOf_127 : decode cX2_chanceOf 127 = .ok (.getfield 21, 3) := by decide +kernel
theorem dX2_chanceOf_130 : decode cX2_chanceOf 130 = .ok (.iload_n 2, 1) := by decide +kernel
theorem dX2_chanceOf_131 : decode cX2_chanceOf 131 = .ok (.iaload, 1) := by decide +kernel
theorem dX2_chanceOf_132 : decode cX2_chanceOf 132 = .ok (.ireturn, 1) := by decide +kernel
theorem dX2_share_0 : decode cX2_share 0 = .ok (.aload_n 0, 1) := by decide +kernel
theorem dX2_share_1 : decode cX2_share 1 = .ok (.iload_n 1, 1) := by decide +kernel
theorem dX2_share_2 : decode cX2_share 2 = .ok (.invokevirtual 50, 3) := by decide +kernel
theorem dX2_share_5 : decode cX2_share 5 = .ok (.invokestatic 105, 3) := by decide +kernel
theorem dX2_share_8 : decode cX2_share 8 = .ok (.istore_n 3, 1) := by decide +kernel
theorem dX2_share_9 : decode cX2_share 9 = .ok (.iload_n 3, 1) := by decide +kernel
theorem dX2_share_10 : decode cX2_share 10 = .ok (.ifCond .ne 10, 3) := by decide +kernel
theorem dX2_share_13 : decode cX2_share 13 = .ok (.aload_n 0, 1) := by decide +kernel
theorem dX2_share_14 : decode cX2_share 14 = .ok (.iload_n 1, 1) := by decide +kernel
theorem dX2_share_15 : decode cX2_share 15 = .ok (.iload_n 2, 1) := by decide +kernel
theorem dX2_share_16 : decode cX2_share 16 = .ok (.invokevirtual 115, 3) := by decide +kernel
theorem dX2_share_19 : decode cX2_share 19 = .ok (.return_, 1) := by decide +kernel
theorem dX2_share_20 : decode cX2_share 20 = .ok (.iload_n 2, 1) := by decide +kernel
theorem dX2_share_21 : decode cX2_share 21 = .ok (.iload_n 3, 1) := by decide +kernel
theorem dX2_share_22 : decode cX2_share 22 = .ok (.idiv, 1) := by decide +kernel
theorem dX2_share_23 : decode cX2_share 23 = .ok (.istore 4, 2) := by decide +kernel
theorem dX2_share_25 : decode cX2_share 25 = .ok (.iconst 0, 1) := by decide +kernel
theorem dX2_share_26 : decode cX2_share 26 = .ok (.istore 5, 2) := by decide +kernel
theorem dX2_share_28 : decode cX2_share 28 = .ok (.iload 5, 2) := by decide +kernel
theorem dX2_share_30 : decode cX2_share 30 = .ok (.aload_n 0, 1) := by decide +kernel
theorem dX2_share_31 : decode cX2_share 31 = .ok (.getfield 27, 3) := by decide +kernel
theorem dX2_share_34 : decode cX2_share 34 = .ok (.if_icmp .gt 40, 3) := by decide +kernel
theorem dX2_share_37 : decode cX2_share 37 = .ok (.aload_n 0, 1) := by decide +kernel
theorem dX2_share_38 : decode cX2_share 38 = .ok (.iload 5, 2) := by decide +kernel
theorem dX2_share_40 : decode cX2_share 40 = .ok (.invokevirtual 79, 3) := by decide +kernel
theorem dX2_share_43 : decode cX2_share 43 = .ok (.istore 6, 2) := by decide +kernel
theorem dX2_share_45 : decode cX2_share 45 = .ok (.aload_n 0, 1) := by decide +kernel
theorem dX2_share_46 : decode cX2_share 46 = .ok (.iload_n 1, 1) := by decide +kernel
theorem dX2_share_47 : decode cX2_share 47 = .ok (.iload 6, 2) := by decide +kernel
theorem dX2_share_49 : decode cX2_share 49 = .ok (.invokevirtual 89, 3) := by decide +kernel
theorem dX2_share_52 : decode cX2_share 52 = .ok (.ifCond .eq 16, 3) := by decide +kernel
theorem dX2_share_55 : decode cX2_share 55 = .ok (.aload_n 0, 1) := by decide +kernel
theorem dX2_share_56 : decode cX2_share 56 = .ok (.iload_n 1, 1) := by decide +kernel
theorem dX2_share_57 : decode cX2_share 57 = .ok (.iload 6, 2) := by decide +kernel
theorem dX2_share_59 : decode cX2_share 59 = .ok (.invokestatic 82, 3) := by decide +kernel
theorem dX2_share_62 : decode cX2_share 62 = .ok (.ixor, 1) := by decide +kernel
theorem dX2_share_63 : decode cX2_share 63 = .ok (.iload 4, 2) := by decide +kernel
theorem dX2_share_65 : decode cX2_share 65 = .ok (.invokevirtual 115, 3) := by decide +kernel
theorem dX2_share_68 : decode cX2_share 68 = .ok (.iinc 5 1, 3) := by decide +kernel
theorem dX2_share_71 : decode cX2_share 71 = .ok (.goto (-43), 3) := by decide +kernel
theorem dX2_share_74 : decode cX2_share 74 = .ok (.return_, 1) := by decide +kernel
theorem dX2_addPart_0 : decode cX2_addPart 0 = .ok (.aload_n 0, 1) := by decide +kernel
theorem dX2_addPart_1 : decode cX2_addPart 1 = .ok (.iload_n 1, 1) := by decide +kernel
theorem dX2_addPart_2 : decode cX2_addPart 2 = .ok (.invokevirtual 53, 3) := by decide +kernel
theorem dX2_addPart_5 : decode cX2_addPart 5 = .ok (.ifCond .eq 13, 3) := by decide +kernel
theorem dX2_addPart_8 : decode cX2_addPart 8 = .ok (.aload_n 0, 1) := by decide +kernel
theorem dX2_addPart_9 : decode cX2_addPart 9 = .ok (.getfield 24, 3) := by decide +kernel
theorem dX2_addPart_12 : decode cX2_addPart 12 = .ok (.iload_n 1, 1) := by decide +kernel
theorem dX2_addPart_13 : decode cX2_addPart 13 = .ok (.dup2, 1) := by decide +kernel
theorem dX2_addPart_14 : decode cX2_addPart 14 = .ok (.iaload, 1) := by decide +kernel
theorem dX2_addPart_15 : decode cX2_addPart 15 = .ok (.iload_n 2, 1) := by decide +kernel
theorem dX2_addPart_16 : decode cX2_addPart 16 = .ok (.iadd, 1) := by decide +kernel
theorem dX2_addPart_17 : decode cX2_addPart 17 = .ok (.iastore, 1) := by decide +kernel
theorem dX2_addPart_18 : decode cX2_addPart 18 = .ok (.return_, 1) := by decide +kernel
theorem dX3_init_0 : decode cX3_init 0 = .ok (.aload_n 0, 1) := by decide +kernel
theorem dX3_init_1 : decode cX3_init 1 = .ok (.invokespecial 3, 3) := by decide +kernel
theorem dX3_init_4 : decode cX3_init 4 = .ok (.aload_n 0, 1) := by decide +kernel
theorem dX3_init_5 : decode cX3_init 5 = .ok (.bipush 8, 2) := by decide +kernel
theorem dX3_init_7 : decode cX3_init 7 = .ok (.newarray .int, 2) := by decide +kernel
theorem dX3_init_9 : decode cX3_init 9 = .ok (.putfield 11, 3) := by decide +kernel
theorem dX3_init_12 : decode cX3_init 12 = .ok (.aload_n 0, 1) := by decide +kernel
theorem dX3_init_13 : decode cX3_init 13 = .ok (.bipush 8, 2) := by decide +kernel
theorem dX3_init_15 : decode cX3_init 15 = .ok (.newarray .int, 2) := by decide +kernel
theorem dX3_init_17 : decode cX3_init 17 = .ok (.putfield 15, 3) := by decide +kernel
theorem dX3_init_20 : decode cX3_init 20 = .ok (.aload_n 0, 1) := by decide +kernel
theorem dX3_init_21 : decode cX3_init 21 = .ok (.sipush 320, 3) := by decide +kernel
theorem dX3_init_24 : decode cX3_init 24 = .ok (.newarray .long, 2) := by decide +kernel
theorem dX3_init_26 : decode cX3_init 26 = .ok (.putfield 18, 3) := by decide +kernel
theorem dX3_init_29 : decode cX3_init 29 = .ok (.aload_n 0, 1) := by decide +kernel
theorem dX3_init_30 : decode cX3_init 30 = .ok (.getfield 11, 3) := by decide +kernel
theorem dX3_init_33 : decode cX3_init 33 = .ok (.iconst (-1), 1) := by decide +kernel
theorem dX3_init_34 : decode cX3_init 34 = .ok (.invokestatic 22, 3) := by decide +kernel
theorem dX3_init_37 : decode cX3_init 37 = .ok (.return_, 1) := by decide +kernel
theorem dX3_isShelf_0 : decode cX3_isShelf 0 = .ok (.iload_n 0, 1) := by decide +kernel
theorem dX3_isShelf_1 : decode cX3_isShelf 1 = .ok (.ifCond .lt 13, 3) := by decide +kernel
theorem dX3_isShelf_4 : decode cX3_isShelf 4 = .ok (.iload_n 0, 1) := by decide +kernel
theorem dX3_isShelf_5 : decode cX3_isShelf 5 = .ok (.bipush 8, 2) := by decide +kernel
theorem dX3_isShelf_7 : decode cX3_isShelf 7 = .ok (.if_icmp .ge 7, 3) := by decide +kernel
theorem dX3_isShelf_10 : decode cX3_isShelf 10 = .ok (.iconst 1, 1) := by decide +kernel
theorem dX3_isShelf_11 : decode cX3_isShelf 11 = .ok (.goto 4, 3) := by decide +kernel
theorem dX3_isShelf_14 : decode cX3_isShelf 14 = .ok (.iconst 0, 1) := by decide +kernel
theorem dX3_isShelf_15 : decode cX3_isShelf 15 = .ok (.ireturn, 1) := by decide +kernel
theorem dX3_heldBy_0 : decode cX3_heldBy 0 = .ok (.iload_n 1, 1) := by decide +kernel
theorem dX3_heldBy_1 : decode cX3_heldBy 1 = .ok (.invokestatic 28, 3) := by decide +kernel
theorem dX3_heldBy_4 : decode cX3_heldBy 4 = .ok (.ifCond .eq 12, 3) := by decide +kernel
theorem dX3_heldBy_7 : decode cX3_heldBy 7 = .ok (.aload_n 0, 1) := by decide +kernel
theorem dX3_heldBy_8 : decode cX3_heldBy 8 = .ok (.getfield 11, 3) := by decide +kernel
theorem dX3_heldBy_11 : decode cX3_heldBy 11 = .ok (.iload_n 1, 1) := by decide +kernel
theorem dX3_heldBy_12 : decode cX3_heldBy 12 = .ok (.iaload, 1) := by decide +kernel
theorem dX3_heldBy_13 : decode cX3_heldBy 13 = .ok (.goto 4, 3) := by decide +kernel
theorem dX3_heldBy_16 : decode cX3_heldBy 16 = .ok (.iconst (-1), 1) := by decide +kernel
theorem dX3_heldBy_17 : decode cX3_heldBy 17 = .ok (.ireturn, 1) := by decide +kernel
theorem dX3_isFree_0 : decode cX3_isFree 0 = .ok (.aload_n 0, 1) := by decide +kernel
theorem dX3_isFree_1 : decode cX3_isFree 1 = .ok (.iload_n 1, 1) := by decide +kernel
theorem dX3_isFree_2 : decode cX3_isFree 2 = .ok (.invokevirtual 32, 3) := by decide +kernel
theorem dX3_isFree_5 : decode cX3_isFree 5 = .ok (.iconst (-1), 1) := by decide +kernel
theorem dX3_isFree_6 : decode cX3_isFree 6 = .ok (.if_icmp .ne 7, 3) := by decide +kernel
theorem dX3_isFree_9 : decode cX3_isFree 9 = .ok (.iconst 1, 1) := by decide +kernel
theorem dX3_isFree_10 : decode cX3_isFree 10 = .ok (.goto 4, 3) := by decide +kernel
theorem dX3_isFree_13 : decode cX3_isFree 13 = .ok (.iconst 0, 1) := by decide +kernel
theorem dX3_isFree_14 : decode cX3_isFree 14 = .ok (.ireturn, 1) := by decide +kernel
theorem dX3_hasBarIn_0 : decode cX3_hasBarIn 0 = .ok (.aload_n 0, 1) := by decide +kernel
theorem dX3_hasBarIn_1 : decode cX3_hasBarIn 1 = .ok (.iload_n 1, 1) := by decide +kernel
theorem dX3_hasBarIn_2 : decode cX3_hasBarIn 2 = .ok (.invokevirtual 32, 3) := by decide +kernel
theorem dX3_hasBarIn_5 : decode cX3_hasBarIn 5 = .ok (.bipush 10, 2) := by decide +kernel
theorem dX3_hasBarIn_7 : decode cX3_hasBarIn 7 = .ok (.if_icmp .lt 7, 3) := by decide +kernel
theorem dX3_hasBarIn_10 : decode cX3_hasBarIn 10 = .ok (.iconst 1, 1) := by decide +kernel
theorem dX3_hasBarIn_11 : decode cX3_hasBarIn 11 = .ok (.goto 4, 3) := by decide +kernel
theorem dX3_hasBarIn_14 : decode cX3_hasBarIn 14 = .ok (.iconst 0, 1) := by decide +kernel
theorem dX3_hasBarIn_15 : decode cX3_hasBarIn 15 = .ok (.ireturn, 1) := by decide +kernel
theorem dX3_hasRowIn_0 : decode cX3_hasRowIn 0 = .ok (.iload_n 1, 1) := by decide +kernel
theorem dX3_hasRowIn_1 : decode cX3_hasRowIn 1 = .ok (.ifCond .lt 34, 3) := by decide +kernel
theorem dX3_hasRowIn_4 : decode cX3_hasRowIn 4 = .ok (.iload_n 1, 1) := by decide +kernel
theorem dX3_hasRowIn_5 : decode cX3_hasRowIn 5 = .ok (.bipush 8, 2) := by decide +kernel
theorem dX3_hasRowIn_7 : decode cX3_hasRowIn 7 = .ok (.if_icmp .ge 28, 3) := by decide +kernel
theorem dX3_hasRowIn_10 : decode cX3_hasRowIn 10 = .ok (.aload_n 0, 1) := by decide +kernel
theorem dX3_hasRowIn_11 : decode cX3_hasRowIn 11 = .ok (.getfield 11, 3) := by decide +kernel
theorem dX3_hasRowIn_14 : decode cX3_hasRowIn 14 = .ok (.iload_n 1, 1) := by decide +kernel
theorem dX3_hasRowIn_15 : decode cX3_hasRowIn 15 = .ok (.iaload, 1) := by decide +kernel
theorem dX3_hasRowIn_16 : decode cX3_hasRowIn 16 = .ok (.iconst (-1), 1) := by decide +kernel
theorem dX3_hasRowIn_17 : decode cX3_hasRowIn 17 = .ok (.if_icmp .eq 18, 3) := by decide +kernel
theorem dX3_hasRowIn_20 : decode cX3_hasRowIn 20 = .ok (.aload_n 0, 1) := by decide +kernel
theorem dX3_hasRowIn_21 : decode cX3_hasRowIn 21 = .ok (.getfield 11, 3) := by decide +kernel
theorem dX3_hasRowIn_24 : decode cX3_hasRowIn 24 = .ok (.iload_n 1, 1) := by decide +kernel
theorem dX3_hasRowIn_25 : decode cX3_hasRowIn 25 = .ok (.iaload, 1) := by decide +kernel
theorem dX3_hasRowIn_26 : decode cX3_hasRowIn 26 = .ok (.bipush 10, 2) := by decide +kernel
theorem dX3_hasRowIn_28 : decode cX3_hasRowIn 28 = .ok (.if_icmp .ge 7, 3) := by decide +kernel
theorem dX3_hasRowIn_31 : decode cX3_hasRowIn 31 = .ok (.iconst 1, 1) := by decide +kernel
theorem dX3_hasRowIn_32 : decode cX3_hasRowIn 32 = .ok (.goto 4, 3) := by decide +kernel
theorem dX3_hasRowIn_35 : decode cX3_hasRowIn 35 = .ok (.iconst 0, 1) := by decide +kernel
theorem dX3_hasRowIn_36 : decode cX3_hasRowIn 36 = .ok (.ireturn, 1) := by decide +kernel
theorem dX3_barIn_0 : decode cX3_barIn 0 = .ok (.aload_n 0, 1) := by decide +kernel
theorem dX3_barIn_1 : decode cX3_barIn 1 = .ok (.iload_n 1, 1) := by decide +kernel
theorem dX3_barIn_2 : decode cX3_barIn 2 = .ok (.invokevirtual 32, 3) := by decide +kernel
theorem dX3_barIn_5 : decode cX3_barIn 5 = .ok (.istore_n 2, 1) := by decide +kernel
theorem dX3_barIn_6 : decode cX3_barIn 6 = .ok (.iload_n 2, 1) := by decide +kernel
theorem dX3_barIn_7 : decode cX3_barIn 7 = .ok (.bipush 10, 2) := by decide +kernel
theorem dX3_barIn_9 : decode cX3_barIn 9 = .ok (.if_icmp .lt 10, 3) := by decide +kernel
theorem dX3_barIn_12 : decode cX3_barIn 12 = .ok (.iload_n 2, 1) := by decide +kernel
theorem dX3_barIn_13 : decode cX3_barIn 13 = .ok (.bipush 10, 2) := by decide +kernel
theorem dX3_barIn_15 : decode cX3_barIn 15 = .ok (.isub, 1) := by decide +kernel
theorem dX3_barIn_16 : decode cX3_barIn 16 = .ok (.goto 4, 3) := by decide +kernel
theorem dX3_barIn_19 : decode cX3_barIn 19 = .ok (.iconst (-1), 1) := by decide +kernel
theorem dX3_barIn_20 : decode cX3_barIn 20 = .ok (.ireturn, 1) := by decide +kernel
theorem dX3_differ_0 : decode cX3_differ 0 = .ok (.aload_n 0, 1) := by decide +kernel
theorem dX3_differ_1 : decode cX3_differ 1 = .ok (.iload_n 1, 1) := by decide +kernel
theorem dX3_differ_2 : decode cX3_differ 2 = .ok (.invokevirtual 36, 3) := by decide +kernel
theorem dX3_differ_5 : decode cX3_differ 5 = .ok (.ifCond .ne 28, 3) := by decide +kernel
theorem dX3_differ_8 : decode cX3_differ 8 = .ok (.aload_n 0, 1) := by decide +kernel
theorem dX3_differ_9 : decode cX3_differ 9 = .ok (.iload_n 2, 1) := by decide +kernel
theorem dX3_differ_10 : decode cX3_differ 10 = .ok (.invokevirtual 36, 3) := by decide +kernel
theorem dX3_differ_13 : decode cX3_differ 13 = .ok (.ifCond .ne 20, 3) := by decide +kernel
theorem dX3_differ_16 : decode cX3_differ 16 = .ok (.aload_n 0, 1) := by decide +kernel
theorem dX3_differ_17 : decode cX3_differ 17 = .ok (.iload_n 1, 1) := by decide +kernel
theorem dX3_differ_18 : decode cX3_differ 18 = .ok (.invokevirtual 32, 3) := by decide +kernel
theorem dX3_differ_21 : decode cX3_differ 21 = .ok (.aload_n 0, 1) := by decide +kernel
theorem dX3_differ_22 : decode cX3_differ 22 = .ok (.iload_n 2, 1) := by decide +kernel
theorem dX3_differ_23 : decode cX3_differ 23 = .ok (.invokevirtual 32, 3) := by decide +kernel
theorem dX3_differ_26 : decode cX3_differ 26 = .ok (.if_icmp .eq 7, 3) := by decide +kernel
theorem dX3_differ_29 : decode cX3_differ 29 = .ok (.iconst 1, 1) := by decide +kernel
theorem dX3_differ_30 : decode cX3_differ 30 = .ok (.goto 4, 3) := by decide +kernel
theorem dX3_differ_33 : decode cX3_differ 33 = .ok (.iconst 0, 1) := by decide +kernel
theorem dX3_differ_34 : decode cX3_differ 34 = .ok (.ireturn, 1) := by decide +kernel
theorem dX3_hasCells_0 : decode cX3_hasCells 0 = .ok (.aload_n 0, 1) := by decide +kernel
theorem dX3_hasCells_1 : decode cX3_hasCells 1 = .ok (.iload_n 1, 1) := by decide +kernel
theorem dX3_hasCells_2 : decode cX3_hasCells 2 = .ok (.invokevirtual 39, 3) := by decide +kernel
theorem dX3_hasCells_5 : decode cX3_hasCells 5 = .ok (.ifCond .eq 37, 3) := by decide +kernel
theorem dX3_hasCells_8 : decode cX3_hasCells 8 = .ok (.iload_n 2, 1) := by decide +kernel
theorem dX3_hasCells_9 : decode cX3_hasCells 9 = .ok (.ifCond .lt 33, 3) := by decide +kernel
theorem dX3_hasCells_12 : decode cX3_hasCells 12 = .ok (.iload_n 3, 1) := by decide +kernel
theorem dX3_hasCells_13 : decode cX3_hasCells 13 = .ok (.ifCond .lt 29, 3) := by decide +kernel
theorem dX3_hasCells_16 : decode cX3_hasCells 16 = .ok (.iload_n 3, 1) := by decide +kernel
theorem dX3_hasCells_17 : decode cX3_hasCells 17 = .ok (.aload_n 0, 1) := by decide +kernel
theorem dX3_hasCells_18 : decode cX3_hasCells 18 = .ok (.getfield 15, 3) := by decide +kernel
theorem dX3_hasCells_21 : decode cX3_hasCells 21 = .ok (.iload_n 1, 1) := by decide +kernel
theorem dX3_hasCells_22 : decode cX3_hasCells 22 = .ok (.iaload, 1) := by decide +kernel
theorem dX3_hasCells_23 : decode cX3_hasCells 23 = .ok (.if_icmp .gt 19, 3) := by decide +kernel
theorem dX3_hasCells_26 : decode cX3_hasCells 26 = .ok (.iload_n 2, 1) := by decide +kernel
theorem dX3_hasCells_27 : decode cX3_hasCells 27 = .ok (.aload_n 0, 1) := by decide +kernel
theorem dX3_hasCells_28 : decode cX3_hasCells 28 = .ok (.getfield 15, 3) := by decide +kernel
theorem dX3_hasCells_31 : decode cX3_hasCells 31 = .ok (.iload_n 1, 1) := by decide +kernel
theorem dX3_hasCells_32 : decode cX3_hasCells 32 = .ok (.iaload, 1) := by decide +kernel
theorem dX3_hasCells_33 : decode cX3_hasCells 33 = .ok (.iload_n 3, 1) := by decide +kernel
theorem dX3_hasCells_34 : decode cX3_hasCells 34 = .ok (.isub, 1) := by decide +kernel
theorem dX3_hasCells_35 : decode cX3_hasCells 35 = .ok (.if_icmp .gt 7, 3) := by decide +kernel
theorem dX3_hasCells_38 : decode cX3_hasCells 38 = .ok (.iconst 1, 1) := by decide +kernel
theorem dX3_hasCells_39 : decode cX3_hasCells 39 = .ok (.goto 4, 3) := by decide +kernel
theorem dX3_hasCells_42 : decode cX3_hasCells 42 = .ok (.iconst 0, 1) := by decide +kernel
theorem dX3_hasCells_43 : decode cX3_hasCells 43 = .ok (.ireturn, 1) := by decide +kernel
theorem dX3_cell_0 : decode cX3_cell 0 = .ok (.aload_n 0, 1) := by decide +kernel
theorem dX3_cell_1 : decode cX3_cell 1 = .ok (.iload_n 1, 1) := by decide +kernel
theorem dX3_cell_2 : decode cX3_cell 2 = .ok (.iload_n 2, 1) := by decide +kernel
theorem dX3_cell_3 : decode cX3_cell 3 = .ok (.iconst 1, 1) := by decide +kernel
theorem dX3_cell_4 : decode cX3_cell 4 = .ok (.invokevirtual 42, 3) := by decide +kernel
theorem dX3_cell_7 : decode cX3_cell 7 = .ok (.ifCond .eq 17, 3) := by decide +kernel
theorem dX3_cell_10 : decode cX3_cell 10 = .ok (.aload_n 0, 1) := by decide +kernel
theorem dX3_cell_11 : decode cX3_cell 11 = .ok (.getfield 18, 3) := by decide +kernel
theorem dX3_cell_14 : decode cX3_cell 14 = .ok (.iload_n 1, 1) := by decide +kernel
theorem dX3_cell_15 : decode cX3_cell 15 = .ok (.bipush 40, 2) := by decide +kernel
theorem dX3_cell_17 : decode cX3_cell 17 = .ok (.imul, 1) := by decide +kernel
theorem dX3_cell_18 : decode cX3_cell 18 = .ok (.iload_n 2, 1) := by decide +kernel
theorem dX3_cell_19 : decode cX3_cell 19 = .ok (.iadd, 1) := by decide +kernel
theorem dX3_cell_20 : decode cX3_cell 20 = .ok (.laload, 1) := by decide +kernel
theorem dX3_cell_21 : decode cX3_cell 21 = .ok (.goto 4, 3) := by decide +kernel
theorem dX3_cell_24 : decode cX3_cell 24 = .ok (.lconst 0, 1) := by decide +kernel
theorem dX3_cell_25 : decode cX3_cell 25 = .ok (.lreturn, 1) := by decide +kernel
theorem dX3_holdRow_0 : decode cX3_holdRow 0 = .ok (.iload_n 1, 1) := by decide +kernel
theorem dX3_holdRow_1 : decode cX3_holdRow 1 = .ok (.invokestatic 28, 3) := by decide +kernel
theorem dX3_holdRow_4 : decode cX3_holdRow 4 = .ok (.ifCond .eq 13, 3) := by decide +kernel
theorem dX3_holdRow_7 : decode cX3_holdRow 7 = .ok (.iload_n 3, 1) := by decide +kernel
theorem dX3_holdRow_8 : decode cX3_holdRow 8 = .ok (.ifCond .lt 9, 3) := by decide +kernel
theorem dX3_holdRow_11 : decode cX3_holdRow 11 = .ok (.iload_n 3, 1) := by decide +kernel
theorem dX3_holdRow_12 : decode cX3_holdRow 12 = .ok (.bipush 40, 2) := by decide +kernel
theorem dX3_holdRow_14 : decode cX3_holdRow 14 = .ok (.if_icmp .le 4, 3) := by decide +kernel
theorem dX3_holdRow_17 : decode cX3_holdRow 17 = .ok (.return_, 1) := by decide +kernel
theorem dX3_holdRow_18 : decode cX3_holdRow 18 = .ok (.aload_n 0, 1) := by decide +kernel
theorem dX3_holdRow_19 : decode cX3_holdRow 19 = .ok (.getfield 11, 3) := by decide +kernel
theorem dX3_holdRow_22 : decode cX3_holdRow 22 = .ok (.iload_n 1, 1) := by decide +kernel
theorem dX3_holdRow_23 : decode cX3_holdRow 23 = .ok (.iload_n 2, 1) := by decide +kernel
theorem dX3_holdRow_24 : decode cX3_holdRow 24 = .ok (.iastore, 1) := by decide +kernel
theorem dX3_holdRow_25 : decode cX3_holdRow 25 = .ok (.aload_n 0, 1) := by decide +kernel
theorem dX3_holdRow_26 : decode cX3_holdRow 26 = .ok (.getfield 15, 3) := by decide +kernel
theorem dX3_holdRow_29 : decode cX3_holdRow 29 = .ok (.iload_n 1, 1) := by decide +kernel
theorem dX3_holdRow_30 : decode cX3_holdRow 30 = .ok (.iload_n 3, 1) := by decide +kernel
theorem dX3_holdRow_31 : decode cX3_holdRow 31 = .ok (.iastore, 1) := by decide +kernel
theorem dX3_holdRow_32 : decode cX3_holdRow 32 = .ok (.iconst 0, 1) := by decide +kernel
theorem dX3_holdRow_33 : decode cX3_holdRow 33 = .ok (.istore 4, 2) := by decide +kernel
theorem dX3_holdRow_35 : decode cX3_holdRow 35 = .ok (.iload 4, 2) := by decide +kernel
theorem dX3_holdRow_37 : decode cX3_holdRow 37 = .ok (.iload_n 3, 1) := by decide +kernel
theorem dX3_holdRow_38 : decode cX3_holdRow 38 = .ok (.if_icmp .ge 22, 3) := by decide +kernel
theorem dX3_holdRow_41 : decode cX3_holdRow 41 = .ok (.aload_n 0, 1) := by decide +kernel
theorem dX3_holdRow_42 : decode cX3_holdRow 42 = .ok (.getfield 18, 3) := by decide +kernel
theorem dX3_holdRow_45 : decode cX3_holdRow 45 = .ok (.iload_n 1, 1) := by decide +kernel
theorem dX3_holdRow_46 : decode cX3_holdRow 46 = .ok (.bipush 40, 2) := by decide +kernel
theorem dX3_holdRow_48 : decode cX3_holdRow 48 = .ok (.imul, 1) := by decide +kernel
theorem dX3_holdRow_49 : decode cX3_holdRow 49 = .ok (.iload 4, 2) := by decide +kernel
theorem dX3_holdRow_51 : decode cX3_holdRow 51 = .ok (.iadd, 1) := by decide +kernel
theorem dX3_holdRow_52 : decode cX3_holdRow 52 = .ok (.lconst 0, 1) := by decide +kernel
theorem dX3_holdRow_53 : decode cX3_holdRow 53 = .ok (.lastore, 1) := by decide +kernel
theorem dX3_holdRow_54 : decode cX3_holdRow 54 = .ok (.iinc 4 1, 3) := by decide +kernel
theorem dX3_holdRow_57 : decode cX3_holdRow 57 = .ok (.goto (-22), 3) := by decide +kernel
theorem dX3_holdRow_60 : decode cX3_holdRow 60 = .ok (.return_, 1) := by decide +kernel
theorem dX3_holdBar_0 : decode cX3_holdBar 0 = .ok (.iload_n 1, 1) := by decide +kernel
theorem dX3_holdBar_1 : decode cX3_holdBar 1 = .ok (.invokestatic 28, 3) := by decide +kernel
theorem dX3_holdBar_4 : decode cX3_holdBar 4 = .ok (.ifCond .eq 13, 3) := by decide +kernel
theorem dX3_holdBar_7 : decode cX3_holdBar 7 = .ok (.aload_n 0, 1) := by decide +kernel
theorem dX3_holdBar_8 : decode cX3_holdBar 8 = .ok (.getfield 11, 3) := by decide +kernel
theorem dX3_holdBar_11 : decode cX3_holdBar 11 = .ok (.iload_n 1, 1) := by decide +kernel
theorem dX3_holdBar_12 : decode cX3_holdBar 12 = .ok (.bipush 10, 2) := by decide +kernel
theorem dX3_holdBar_14 : decode cX3_holdBar 14 = .ok (.iload_n 2, 1) := by decide +kernel
theorem dX3_holdBar_15 : decode cX3_holdBar 15 = .ok (.iadd, 1) := by decide +kernel
theorem dX3_holdBar_16 : decode cX3_holdBar 16 = .ok (.iastore, 1) := by decide +kernel
theorem dX3_holdBar_17 : decode cX3_holdBar 17 = .ok (.return_, 1) := by decide +kernel
theorem dX3_free_0 : decode cX3_free 0 = .ok (.iload_n 1, 1) := by decide +kernel
theorem dX3_free_1 : decode cX3_free 1 = .ok (.invokestatic 28, 3) := by decide +kernel
theorem dX3_free_4 : decode cX3_free 4 = .ok (.ifCond .eq 10, 3) := by decide +kernel
theorem dX3_free_7 : decode cX3_free 7 = .ok (.aload_n 0, 1) := by decide +kernel
theorem dX3_free_8 : decode cX3_free 8 = .ok (.getfield 11, 3) := by decide +kernel
theorem dX3_free_11 : decode cX3_free 11 = .ok (.iload_n 1, 1) := by decide +kernel
theorem dX3_free_12 : decode cX3_free 12 = .ok (.iconst (-1), 1) := by decide +kernel
theorem dX3_free_13 : decode cX3_free 13 = .ok (.iastore, 1) := by decide +kernel
theorem dX3_free_14 : decode cX3_free 14 = .ok (.return_, 1) := by decide +kernel
theorem dX3_freeBarsFrom_0 : decode cX3_freeBarsFrom 0 = .ok (.iconst 0, 1) := by decide +kernel
theorem dX3_freeBarsFrom_1 : decode cX3_freeBarsFrom 1 = .ok (.istore_n 2, 1) := by decide +kernel
theorem dX3_freeBarsFrom_2 : decode cX3_freeBarsFrom 2 = .ok (.iload_n 2, 1) := by decide +kernel
theorem dX3_freeBarsFrom_3 : decode cX3_freeBarsFrom 3 = .ok (.bipush 8, 2) := by decide +kernel
theorem dX3_freeBarsFrom_5 : decode cX3_freeBarsFrom 5 = .ok (.if_icmp .ge 23, 3) := by decide +kernel
theorem dX3_freeBarsFrom_8 : decode cX3_freeBarsFrom 8 = .ok (.aload_n 0, 1) := by decide +kernel
theorem dX3_freeBarsFrom_9 : decode cX3_freeBarsFrom 9 = .ok (.iload_n 2, 1) := by decide +kernel
theorem dX3_freeBarsFrom_10 : decode cX3_freeBarsFrom 10 = .ok (.invokevirtual 46, 3) := by decide +kernel
theorem dX3_freeBarsFrom_13 : decode cX3_freeBarsFrom 13 = .ok (.iload_n 1, 1) := by decide +kernel
theorem dX3_freeBarsFrom_14 : decode cX3_freeBarsFrom 14 = .ok (.if_icmp .lt 8, 3) := by decide +kernel
theorem dX3_freeBarsFrom_17 : decode cX3_freeBarsFrom 17 = .ok (.aload_n 0, 1) := by decide +kernel
theorem dX3_freeBarsFrom_18 : decode cX3_freeBarsFrom 18 = .ok (.iload_n 2, 1) := by decide +kernel
theorem dX3_freeBarsFrom_19 : decode cX3_freeBarsFrom 19 = .ok (.invokevirtual 49, 3) := by decide +kernel
theorem dX3_freeBarsFrom_22 : decode cX3_freeBarsFrom 22 = .ok (.iinc 2 1, 3) := by decide +kernel
theorem dX3_freeBarsFrom_25 : decode cX3_freeBarsFrom 25 = .ok (.goto (-23), 3) := by decide +kernel
theorem dX3_freeBarsFrom_28 : decode cX3_freeBarsFrom 28 = .ok (.return_, 1) := by decide +kernel
theorem dX3_write_0 : decode cX3_write 0 = .ok (.aload_n 0, 1) := by decide +kernel
theorem dX3_write_1 : decode cX3_write 1 = .ok (.iload_n 1, 1) := by decide +kernel
theorem dX3_write_2 : decode cX3_write 2 = .ok (.iload_n 2, 1) := by decide +kernel
theorem dX3_write_3 : decode cX3_write 3 = .ok (.iconst 1, 1) := by decide +kernel
theorem dX3_write_4 : decode cX3_write 4 = .ok (.invokevirtual 42, 3) := by decide +kernel
theorem dX3_write_7 : decode cX3_write 7 = .ok (.ifCond .eq 23, 3) := by decide +kernel
theorem dX3_write_10 : decode cX3_write 10 = .ok (.aload_n 0, 1) := by decide +kernel
theorem dX3_write_11 : decode cX3_write 11 = .ok (.getfield 18, 3) := by decide +kernel
theorem dX3_write_14 : decode cX3_write 14 = .ok (.iload_n 1, 1) := by decide +kernel
theorem dX3_write_15 : decode cX3_write 15 = .ok (.bipush 40, 2) := by decide +kernel
theorem dX3_write_17 : decode cX3_write 17 = .ok (.imul, 1) := by decide +kernel
theorem dX3_write_18 : decode cX3_write 18 = .ok (.iload_n 2, 1) := by decide +kernel
theorem dX3_write_19 : decode cX3_write 19 = .ok (.iadd, 1) := by decide +kernel
theorem dX3_write_20 : decode cX3_write 20 = .ok (.aload_n 0, 1) := by decide +kernel
theorem dX3_write_21 : decode cX3_write 21 = .ok (.iload_n 1, 1) := by decide +kernel
theorem dX3_write_22 : decode cX3_write 22 = .ok (.invokevirtual 32, 3) := by decide +kernel
theorem dX3_write_25 : decode cX3_write 25 = .ok (.lload_n 3, 1) := by decide +kernel
theorem dX3_write_26 : decode cX3_write 26 = .ok (.invokestatic 53, 3) := by decide +kernel
theorem dX3_write_29 : decode cX3_write 29 = .ok (.lastore, 1) := by decide +kernel
theorem dX3_write_30 : decode cX3_write 30 = .ok (.return_, 1) := by decide +kernel
theorem dX3_carry_0 : decode cX3_carry 0 = .ok (.aload_n 0, 1) := by decide +kernel
theorem dX3_carry_1 : decode cX3_carry 1 = .ok (.iload_n 1, 1) := by decide +kernel
theorem dX3_carry_2 : decode cX3_carry 2 = .ok (.iload_n 3, 1) := by decide +kernel
theorem dX3_carry_3 : decode cX3_carry 3 = .ok (.iload 5, 2) := by decide +kernel
theorem dX3_carry_5 : decode cX3_carry 5 = .ok (.invokevirtual 42, 3) := by decide +kernel
theorem dX3_carry_8 : decode cX3_carry 8 = .ok (.ifCond .eq 41, 3) := by decide +kernel
theorem dX3_carry_11 : decode cX3_carry 11 = .ok (.aload_n 0, 1) := by decide +kernel
theorem dX3_carry_12 : decode cX3_carry 12 = .ok (.iload_n 2, 1) := by decide +kernel
theorem dX3_carry_13 : decode cX3_carry 13 = .ok (.iload 4, 2) := by decide +kernel
theorem dX3_carry_15 : decode cX3_carry 15 = .ok (.iload 5, 2) := by decide +kernel
theorem dX3_carry_17 : decode cX3_carry 17 = .ok (.invokevirtual 42, 3) := by decide +kernel
theorem dX3_carry_20 : decode cX3_carry 20 = .ok (.ifCond .eq 29, 3) := by decide +kernel
theorem dX3_carry_23 : decode cX3_carry 23 = .ok (.aload_n 0, 1) := by decide +kernel
theorem dX3_carry_24 : decode cX3_carry 24 = .ok (.getfield 18, 3) := by decide +kernel
theorem dX3_carry_27 : decode cX3_carry 27 = .ok (.iload_n 1, 1) := by decide +kernel
theorem dX3_carry_28 : decode cX3_carry 28 = .ok (.bipush 40, 2) := by decide +kernel
theorem dX3_carry_30 : decode cX3_carry 30 = .ok (.imul, 1) := by decide +kernel
theorem dX3_carry_31 : decode cX3_carry 31 = .ok (.iload_n 3, 1) := by decide +kernel
theorem dX3_carry_32 : decode cX3_carry 32 = .ok (.iadd, 1) := by decide +kernel
theorem dX3_carry_33 : decode cX3_carry 33 = .ok (.aload_n 0, 1) := by decide +kernel
theorem dX3_carry_34 : decode cX3_carry 34 = .ok (.getfield 18, 3) := by decide +kernel
theorem dX3_carry_37 : decode cX3_carry 37 = .ok (.iload_n 2, 1) := by decide +kernel
theorem dX3_carry_38 : decode cX3_carry 38 = .ok (.bipush 40, 2) := by decide +kernel
theorem dX3_carry_40 : decode cX3_carry 40 = .ok (.imul, 1) := by decide +kernel
theorem dX3_carry_41 : decode cX3_carry 41 = .ok (.iload 4, 2) := by decide +kernel
theorem dX3_carry_43 : decode cX3_carry 43 = .ok (.iadd, 1) := by decide +kernel
theorem dX3_carry_44 : decode cX3_carry 44 = .ok (.iload 5, 2) := by decide +kernel
theorem dX3_carry_46 : decode cX3_carry 46 = .ok (.invokestatic 57, 3) := by decide +kernel
theorem dX3_carry_49 : decode cX3_carry 49 = .ok (.return_, 1) := by decide +kernel
theorem dX3_countHeld_0 : decode cX3_countHeld 0 = .ok (.iconst 0, 1) := by decide +kernel
theorem dX3_countHeld_1 : decode cX3_countHeld 1 = .ok (.istore_n 1, 1) := by decide +kernel
theorem dX3_countHeld_2 : decode cX3_countHeld 2 = .ok (.iconst 0, 1) := by decide +kernel
theorem dX3_countHeld_3 : decode cX3_countHeld 3 = .ok (.istore_n 2, 1) := by decide +kernel
theorem dX3_countHeld_4 : decode cX3_countHeld 4 = .ok (.iload_n 2, 1) := by decide +kernel
theorem dX3_countHeld_5 : decode cX3_countHeld 5 = .ok (.bipush 8, 2) := by decide +kernel
theorem dX3_countHeld_7 : decode cX3_countHeld 7 = .ok (.if_icmp .ge 20, 3) := by decide +kernel
theorem dX3_countHeld_10 : decode cX3_countHeld 10 = .ok (.aload_n 0, 1) := by decide +kernel
theorem dX3_countHeld_11 : decode cX3_countHeld 11 = .ok (.iload_n 2, 1) := by decide +kernel
theorem dX3_countHeld_12 : decode cX3_countHeld 12 = .ok (.invokevirtual 36, 3) := by decide +kernel
theorem dX3_countHeld_15 : decode cX3_countHeld 15 = .ok (.ifCond .ne 6, 3) := by decide +kernel
theorem dX3_countHeld_18 : decode cX3_countHeld 18 = .ok (.iinc 1 1, 3) := by decide +kernel
theorem dX3_countHeld_21 : decode cX3_countHeld 21 = .ok (.iinc 2 1, 3) := by decide +kernel
theorem dX3_countHeld_24 : decode cX3_countHeld 24 = .ok (.goto (-20), 3) := by decide +kernel
theorem dX3_countHeld_27 : decode cX3_countHeld 27 = .ok (.iload_n 1, 1) := by decide +kernel
theorem dX3_countHeld_28 : decode cX3_countHeld 28 = .ok (.ireturn, 1) := by decide +kernel
theorem dX3_lowestBits_0 : decode cX3_lowestBits 0 = .ok (.iload_n 0, 1) := by decide +kernel
theorem dX3_lowestBits_1 : decode cX3_lowestBits 1 = .ok (.tableswitch 61 0 4 #[35, 40, 45, 61, 49], 35) := by decide +kernel
theorem dX3_lowestBits_36 : decode cX3_lowestBits 36 = .ok (.lload_n 1, 1) := by decide +kernel
theorem dX3_lowestBits_37 : decode cX3_lowestBits 37 = .ok (.l2i, 1) := by decide +kernel
theorem dX3_lowestBits_38 : decode cX3_lowestBits 38 = .ok (.i2b, 1) := by decide +kernel
theorem dX3_lowestBits_39 : decode cX3_lowestBits 39 = .ok (.i2l, 1) := by decide +kernel
theorem dX3_lowestBits_40 : decode cX3_lowestBits 40 = .ok (.lreturn, 1) := by decide +kernel
theorem dX3_lowestBits_41 : decode cX3_lowestBits 41 = .ok (.lload_n 1, 1) := by decide +kernel
theorem dX3_lowestBits_42 : decode cX3_lowestBits 42 = .ok (.l2i, 1) := by decide +kernel
theorem dX3_lowestBits_43 : decode cX3_lowestBits 43 = .ok (.i2s, 1) := by decide +kernel
theorem dX3_lowestBits_44 : decode cX3_lowestBits 44 = .ok (.i2l, 1) := by decide +kernel
theorem dX3_lowestBits_45 : decode cX3_lowestBits 45 = .ok (.lreturn, 1) := by decide +kernel
theorem dX3_lowestBits_46 : decode cX3_lowestBits 46 = .ok (.lload_n 1, 1) := by decide +kernel
theorem dX3_lowestBits_47 : decode cX3_lowestBits 47 = .ok (.l2i, 1) := by decide +kernel
theorem dX3_lowestBits_48 : decode cX3_lowestBits 48 = .ok (.i2l, 1) := by decide +kernel
theorem dX3_lowestBits_49 : decode cX3_lowestBits 49 = .ok (.lreturn, 1) := by decide +kernel
theorem dX3_lowestBits_50 : decode cX3_lowestBits 50 = .ok (.lload_n 1, 1) := by decide +kernel
theorem dX3_lowestBits_51 : decode cX3_lowestBits 51 = .ok (.lconst 0, 1) := by decide +kernel
theorem dX3_lowestBits_52 : decode cX3_lowestBits 52 = .ok (.lcmp, 1) := by decide +kernel
theorem dX3_lowestBits_53 : decode cX3_lowestBits 53 = .ok (.ifCond .eq 7, 3) := by decide +kernel
theorem dX3_lowestBits_56 : decode cX3_lowestBits 56 = .ok (.lconst 1, 1) := by decide +kernel
theorem dX3_lowestBits_57 : decode cX3_lowestBits 57 = .ok (.goto 4, 3) := by decide +kernel
theorem dX3_lowestBits_60 : decode cX3_lowestBits 60 = .ok (.lconst 0, 1) := by decide +kernel
theorem dX3_lowestBits_61 : decode cX3_lowestBits 61 = .ok (.lreturn, 1) := by decide +kernel
theorem dX3_lowestBits_62 : decode cX3_lowestBits 62 = .ok (.lload_n 1, 1) := by decide +kernel
theorem dX3_lowestBits_63 : decode cX3_lowestBits 63 = .ok (.lreturn, 1) := by decide +kernel
theorem dX4_init_0 : decode cX4_init 0 = .ok (.aload_n 0, 1) := by decide +kernel
theorem dX4_init_1 : decode cX4_init 1 = .ok (.invokespecial 3, 3) := by decide +kernel
theorem dX4_init_4 : decode cX4_init 4 = .ok (.aload_n 0, 1) := by decide +kernel
theorem dX4_init_5 : decode cX4_init 5 = .ok (.sipush 250, 3) := by decide +kernel
theorem dX4_init_8 : decode cX4_init 8 = .ok (.newarray .int, 2) := by decide +kernel
theorem dX4_init_10 : decode cX4_init 10 = .ok (.putfield 11, 3) := by decide +kernel
theorem dX4_init_13 : decode cX4_init 13 = .ok (.aload_n 0, 1) := by decide +kernel
theorem dX4_init_14 : decode cX4_init 14 = .ok (.iconst 0, 1) := by decide +kernel
theorem dX4_init_15 : decode cX4_init 15 = .ok (.putfield 15, 3) := by decide +kernel
theorem dX4_init_18 : decode cX4_init 18 = .ok (.aload_n 0, 1) := by decide +kernel
theorem dX4_init_19 : decode cX4_init 19 = .ok (.iconst 0, 1) := by decide +kernel
theorem dX4_init_20 : decode cX4_init 20 = .ok (.putfield 19, 3) := by decide +kernel
theorem dX4_init_23 : decode cX4_init 23 = .ok (.aload_n 0, 1) := by decide +kernel
theorem dX4_init_24 : decode cX4_init 24 = .ok (.iconst 0, 1) := by decide +kernel
theorem dX4_init_25 : decode cX4_init 25 = .ok (.putfield 22, 3) := by decide +kernel
theorem dX4_init_28 : decode cX4_init 28 = .ok (.aload_n 0, 1) := by decide +kernel
theorem dX4_init_29 : decode cX4_init 29 = .ok (.iconst 0, 1) := by decide +kernel
theorem dX4_init_30 : decode cX4_init 30 = .ok (.putfield 25, 3) := by decide +kernel
theorem dX4_init_33 : decode cX4_init 33 = .ok (.aload_n 0, 1) := by decide +kernel
theorem dX4_init_34 : decode cX4_init 34 = .ok (.iconst 0, 1) := by decide +kernel
theorem dX4_init_35 : decode cX4_init 35 = .ok (.putfield 28, 3) := by decide +kernel
theorem dX4_init_38 : decode cX4_init 38 = .ok (.return_, 1) := by decide +kernel
theorem dX4_isFull_0 : decode cX4_isFull 0 = .ok (.aload_n 0, 1) := by decide +kernel
theorem dX4_isFull_1 : decode cX4_isFull 1 = .ok (.getfield 15, 3) := by decide +kernel
theorem dX4_isFull_4 : decode cX4_isFull 4 = .ok (.sipush 250, 3) := by decide +kernel
theorem dX4_isFull_7 : decode cX4_isFull 7 = .ok (.if_icmp .lt 7, 3) := by decide +kernel
theorem dX4_isFull_10 : decode cX4_isFull 10 = .ok (.iconst 1, 1) := by decide +kernel
theorem dX4_isFull_11 : decode cX4_isFull 11 = .ok (.goto 4, 3) := by decide +kernel
theorem dX4_isFull_14 : decode cX4_isFull 14 = .ok (.iconst 0, 1) := by decide +kernel
theorem dX4_isFull_15 : decode cX4_isFull 15 = .ok (.ireturn, 1) := by decide +kernel
theorem dX4_append_0 : decode cX4_append 0 = .ok (.aload_n 0, 1) := by decide +kernel
theorem dX4_append_1 : decode cX4_append 1 = .ok (.getfield 15, 3) := by decide +kernel
theorem dX4_append_4 : decode cX4_append 4 = .ok (.ifCond .lt 33, 3) := by decide +kernel
theorem dX4_append_7 : decode cX4_append 7 = .ok (.aload_n 0, 1) := by decide +kernel
theorem dX4_append_8 : decode cX4_append 8 = .ok (.getfield 15, 3) := by decide +kernel
theorem dX4_append_11 : decode cX4_append 11 = .ok (.sipush 250, 3) := by decide +kernel
theorem dX4_append_14 : decode cX4_append 14 = .ok (.if_icmp .ge 23, 3) := by decide +kernel
theorem dX4_append_17 : decode cX4_append 17 = .ok (.aload_n 0, 1) := by decide +kernel
theorem dX4_append_18 : decode cX4_append 18 = .ok (.getfield 11, 3) := by decide +kernel
theorem dX4_append_21 : decode cX4_append 21 = .ok (.aload_n 0, 1) := by decide +kernel
theorem dX4_append_22 : decode cX4_append 22 = .ok (.getfield 15, 3) := by decide +kernel
theorem dX4_append_25 : decode cX4_append 25 = .ok (.iload_n 1, 1) := by decide +kernel
theorem dX4_append_26 : decode cX4_append 26 = .ok (.iastore, 1) := by decide +kernel
theorem dX4_append_27 : decode cX4_append 27 = .ok (.aload_n 0, 1) := by decide +kernel
theorem dX4_append_28 : decode cX4_append 28 = .ok (.dup, 1) := by decide +kernel
theorem dX4_append_29 : decode cX4_append 29 = .ok (.getfield 15, 3) := by decide +kernel
theorem dX4_append_32 : decode cX4_append 32 = .ok (.iconst 1, 1) := by decide +kernel
theorem dX4_append_33 : decode cX4_append 33 = .ok (.iadd, 1) := by decide +kernel
theorem dX4_append_34 : decode cX4_append 34 = .ok (.putfield 15, 3) := by decide +kernel
theorem dX4_append_37 : decode cX4_append 37 = .ok (.aload_n 0, 1) := by decide +kernel
theorem dX4_append_38 : decode cX4_append 38 = .ok (.getfield 15, 3) := by decide +kernel
theorem dX4_append_41 : decode cX4_append 41 = .ok (.ireturn, 1) := by decide +kernel
theorem dX4_clear_0 : decode cX4_clear 0 = .ok (.aload_n 0, 1) := by decide +kernel
theorem dX4_clear_1 : decode cX4_clear 1 = .ok (.iconst 0, 1) := by decide +kernel
theorem dX4_clear_2 : decode cX4_clear 2 = .ok (.putfield 15, 3) := by decide +kernel
theorem dX4_clear_5 : decode cX4_clear 5 = .ok (.return_, 1) := by decide +kernel
theorem dX4_readInto_0 : decode cX4_readInto 0 = .ok (.aload_n 0, 1) := by decide +kernel
theorem dX4_readInto_1 : decode cX4_readInto 1 = .ok (.iconst 0, 1) := by decide +kernel
theorem dX4_readInto_2 : decode cX4_readInto 2 = .ok (.putfield 19, 3) := by decide +kernel
theorem dX4_readInto_5 : decode cX4_readInto 5 = .ok (.iconst 1, 1) := by decide +kernel
theorem dX4_readInto_6 : decode cX4_readInto 6 = .ok (.istore_n 3, 1) := by decide +kernel
theorem dX4_readInto_7 : decode cX4_readInto 7 = .ok (.iload_n 3, 1) := by decide +kernel
theorem dX4_readInto_8 : decode cX4_readInto 8 = .ok (.sipush 250, 3) := by decide +kernel
theorem dX4_readInto_11 : decode cX4_readInto 11 = .ok (.if_icmp .gt 39, 3) := by decide +kernel
theorem dX4_readInto_14 : decode cX4_readInto 14 = .ok (.aload_n 0, 1) := by decide +kernel
theorem dX4_readInto_15 : decode cX4_readInto 15 = .ok (.aload_n 1, 1) := by decide +kernel
theorem dX4_readInto_16 : decode cX4_readInto 16 = .ok (.aload_n 2, 1) := by decide +kernel
theorem dX4_readInto_17 : decode cX4_readInto 17 = .ok (.invokevirtual 31, 3) := by decide +kernel
theorem dX4_readInto_20 : decode cX4_readInto 20 = .ok (.ifCond .ne 5, 3) := by decide +kernel
theorem dX4_readInto_23 : decode cX4_readInto 23 = .ok (.iconst (-1), 1) := by decide +kernel
theorem dX4_readInto_24 : decode cX4_readInto 24 = .ok (.ireturn, 1) := by decide +kernel
theorem dX4_readInto_25 : decode cX4_readInto 25 = .ok (.aload_n 0, 1) := by decide +kernel
theorem dX4_readInto_26 : decode cX4_readInto 26 = .ok (.getfield 25, 3) := by decide +kernel
theorem dX4_readInto_29 : decode cX4_readInto 29 = .ok (.ifCond .ne 5, 3) := by decide +kernel
theorem dX4_readInto_32 : decode cX4_readInto 32 = .ok (.iload_n 3, 1) := by decide +kernel
theorem dX4_readInto_33 : decode cX4_readInto 33 = .ok (.ireturn, 1) := by decide +kernel
theorem dX4_readInto_34 : decode cX4_readInto 34 = .ok (.aload_n 0, 1) := by decide +kernel
theorem dX4_readInto_35 : decode cX4_readInto 35 = .ok (.getfield 25, 3) := by decide +kernel
theorem dX4_readInto_38 : decode cX4_readInto 38 = .ok (.iconst 3, 1) := by decide +kernel
theorem dX4_readInto_39 : decode cX4_readInto 39 = .ok (.if_icmp .eq 5, 3) := by decide +kernel
theorem dX4_readInto_42 : decode cX4_readInto 42 = .ok (.iconst (-1), 1) := by decide +kernel
theorem dX4_readInto_43 : decode cX4_readInto 43 = .ok (.ireturn, 1) := by decide +kernel
theorem dX4_readInto_44 : decode cX4_readInto 44 = .ok (.iinc 3 1, 3) := by decide +kernel
theorem dX4_readInto_47 : decode cX4_readInto 47 = .ok (.goto (-40), 3) := by decide +kernel
theorem dX4_readInto_50 : decode cX4_readInto 50 = .ok (.iconst (-1), 1) := by decide +kernel
theorem dX4_readInto_51 : decode cX4_readInto 51 = .ok (.ireturn, 1) := by decide +kernel
theorem dX4_readStatement_0 : decode cX4_readStatement 0 = .ok (.aload_n 0, 1) := by decide +kernel
theorem dX4_readStatement_1 : decode cX4_readStatement 1 = .ok (.invokevirtual 35, 3) := by decide +kernel
theorem dX4_readStatement_4 : decode cX4_readStatement 4 = .ok (.aload_n 0, 1) := by decide +kernel
theorem dX4_readStatement_5 : decode cX4_readStatement 5 = .ok (.ldc 38, 2) := by decide +kernel
theorem dX4_readStatement_7 : decode cX4_readStatement 7 = .ok (.invokevirtual 40, 3) := by decide +kernel
theorem dX4_readStatement_10 : decode cX4_readStatement 10 = .ok (.ifCond .eq 9, 3) := by decide +kernel
theorem dX4_readStatement_13 : decode cX4_readStatement 13 = .ok (.aload_n 0, 1) := by decide +kernel
theorem dX4_readStatement_14 : decode cX4_readStatement 14 = .ok (.aload_n 1, 1) := by decide +kernel
theorem dX4_readStatement_15 : decode cX4_readStatement 15 = .ok (.invokevirtual 44, 3) := by decide +kernel
theorem dX4_readStatement_18 : decode cX4_readStatement 18 = .ok (.ireturn, 1) := by decide +kernel
theorem dX4_readStatement_19 : decode cX4_readStatement 19 = .ok (.aload_n 0, 1) := by decide +kernel
theorem dX4_readStatement_20 : decode cX4_readStatement 20 = .ok (.ldc 48, 2) := by decide +kernel
theorem dX4_readStatement_22 : decode cX4_readStatement 22 = .ok (.invokevirtual 40, 3) := by decide +kernel
theorem dX4_readStatement_25 : decode cX4_readStatement 25 = .ok (.ifCond .eq 9, 3) := by decide +kernel
theorem dX4_readStatement_28 : decode cX4_readStatement 28 = .ok (.aload_n 0, 1) := by decide +kernel
theorem dX4_readStatement_29 : decode cX4_readStatement 29 = .ok (.aload_n 1, 1) := by decide +kernel
theorem dX4_readStatement_30 : decode cX4_readStatement 30 = .ok (.invokevirtual 50, 3) := by decide +kernel
theorem dX4_readStatement_33 : decode cX4_readStatement 33 = .ok (.ireturn, 1) := by decide +kernel
theorem dX4_readStatement_34 : decode cX4_readStatement 34 = .ok (.aload_n 0, 1) := by decide +kernel
theorem dX4_readStatement_35 : decode cX4_readStatement 35 = .ok (.ldc 53, 2) := by decide +kernel
theorem dX4_readStatement_37 : decode cX4_readStatement 37 = .ok (.invokevirtual 40, 3) := by decide +kernel
theorem dX4_readStatement_40 : decode cX4_readStatement 40 = .ok (.ifCond .eq 9, 3) := by decide +kernel
theorem dX4_readStatement_43 : decode cX4_readStatement 43 = .ok (.aload_n 0, 1) := by decide +kernel
theorem dX4_readStatement_44 : decode cX4_readStatement 44 = .ok (.aload_n 1, 1) := by decide +kernel
theorem dX4_readStatement_45 : decode cX4_readStatement 45 = .ok (.invokevirtual 55, 3) := by decide +kernel
theorem dX4_readStatement_48 : decode cX4_readStatement 48 = .ok (.ireturn, 1) := by decide +kernel
theorem dX4_readStatement_49 : decode cX4_readStatement 49 = .ok (.aload_n 0, 1) := by decide +kernel
theorem dX4_readStatement_50 : decode cX4_readStatement 50 = .ok (.ldc 58, 2) := by decide +kernel
theorem dX4_readStatement_52 : decode cX4_readStatement 52 = .ok (.invokevirtual 40, 3) := by decide +kernel
theorem dX4_readStatement_55 : decode cX4_readStatement 55 = .ok (.ifCond .eq 9, 3) := by decide +kernel
theorem dX4_readStatement_58 : decode cX4_readStatement 58 = .ok (.aload_n 0, 1) := by decide +kernel
theorem dX4_readStatement_59 : decode cX4_readStatement 59 = .ok (.aload_n 1, 1) := by decide +kernel
theorem dX4_readStatement_60 : decode cX4_readStatement 60 = .ok (.invokevirtual 60, 3) := by decide +kernel
theorem dX4_readStatement_63 : decode cX4_readStatement 63 = .ok (.ireturn, 1) := by decide +kernel
theorem dX4_readStatement_64 : decode cX4_readStatement 64 = .ok (.aload_n 0, 1) := by decide +kernel
theorem dX4_readStatement_65 : decode cX4_readStatement 65 = .ok (.ldc 63, 2) := by decide +kernel
theorem dX4_readStatement_67 : decode cX4_readStatement 67 = .ok (.invokevirtual 40, 3) := by decide +kernel
theorem dX4_readStatement_70 : decode cX4_readStatement 70 = .ok (.ifCond .eq 16, 3) := by decide +kernel
theorem dX4_readStatement_73 : decode cX4_readStatement 73 = .ok (.aload_n 0, 1) := by decide +kernel
theorem dX4_readStatement_74 : decode cX4_readStatement 74 = .ok (.aload_n 1, 1) := by decide +kernel
theorem dX4_readStatement_75 : decode cX4_readStatement 75 = .ok (.aload_n 2, 1) := by decide +kernel
theorem dX4_readStatement_76 : decode cX4_readStatement 76 = .ok (.invokevirtual 65, 3) := by decide +kernel
theorem dX4_readStatement_79 : decode cX4_readStatement 79 = .ok (.ifCond .eq 7, 3) := by decide +kernel
theorem dX4_readStatement_82 : decode cX4_readStatement 82 = .ok (.iconst 1, 1) := by decide +kernel
theorem dX4_readStatement_83 : decode cX4_readStatement 83 = .ok (.goto 4, 3) := by decide +kernel
theorem dX4_readStatement_86 : decode cX4_readStatement 86 = .ok (.iconst 0, 1) := by decide +kernel
theorem dX4_readStatement_87 : decode cX4_readStatement 87 = .ok (.ireturn, 1) := by decide +kernel
theorem dX4_readBar_0 : decode cX4_readBar 0 = .ok (.aload_n 1, 1) := by decide +kernel
theorem dX4_readBar_1 : decode cX4_readBar 1 = .ok (.invokevirtual 68, 3) := by decide +kernel
theorem dX4_readBar_4 : decode cX4_readBar 4 = .ok (.ifCond .ne 18, 3) := by decide +kernel
theorem dX4_readBar_7 : decode cX4_readBar 7 = .ok (.aload_n 0, 1) := by decide +kernel
theorem dX4_readBar_8 : decode cX4_readBar 8 = .ok (.invokevirtual 74, 3) := by decide +kernel
theorem dX4_readBar_11 : decode cX4_readBar 11 = .ok (.ifCond .eq 11, 3) := by decide +kernel
theorem dX4_readBar_14 : decode cX4_readBar 14 = .ok (.aload_n 0, 1) := by decide +kernel
theorem dX4_readBar_15 : decode cX4_readBar 15 = .ok (.getfield 28, 3) := by decide +kernel
theorem dX4_readBar_18 : decode cX4_readBar 18 = .ok (.iconst 5, 1) := by decide +kernel
theorem dX4_readBar_19 : decode cX4_readBar 19 = .ok (.if_icmp .le 5, 3) := by decide +kernel
theorem dX4_readBar_22 : decode cX4_readBar 22 = .ok (.iconst 0, 1) := by decide +kernel
theorem dX4_readBar_23 : decode cX4_readBar 23 = .ok (.ireturn, 1) := by decide +kernel
theorem dX4_readBar_24 : decode cX4_readBar 24 = .ok (.aload_n 0, 1) := by decide +kernel
theorem dX4_readBar_25 : decode cX4_readBar 25 = .ok (.getfield 28, 3) := by decide +kernel
theorem dX4_readBar_28 : decode cX4_readBar 28 = .ok (.istore_n 2, 1) := by decide +kernel
theorem dX4_readBar_29 : decode cX4_readBar 29 = .ok (.aload_n 0, 1) := by decide +kernel
theorem dX4_readBar_30 : decode cX4_readBar 30 = .ok (.invokevirtual 74, 3) := by decide +kernel
theorem dX4_readBar_33 : decode cX4_readBar 33 = .ok (.ifCond .eq 20, 3) := by decide +kernel
theorem dX4_readBar_36 : decode cX4_readBar 36 = .ok (.aload_n 0, 1) := by decide +kernel
theorem dX4_readBar_37 : decode cX4_readBar 37 = .ok (.getfield 28, 3) := by decide +kernel
theorem dX4_readBar_40 : decode cX4_readBar 40 = .ok (.iconst 1, 1) := by decide +kernel
theorem dX4_readBar_41 : decode cX4_readBar 41 = .ok (.if_icmp .lt 12, 3) := by decide +kernel
theorem dX4_readBar_44 : decode cX4_readBar 44 = .ok (.aload_n 0, 1) := by decide +kernel
theorem dX4_readBar_45 : decode cX4_readBar 45 = .ok (.getfield 28, 3) := by decide +kernel
theorem dX4_readBar_48 : decode cX4_readBar 48 = .ok (.bipush 10, 2) := by decide +kernel
theorem dX4_readBar_50 : decode cX4_readBar 50 = .ok (.if_icmp .le 5, 3) := by decide +kernel
theorem dX4_readBar_53 : decode cX4_readBar 53 = .ok (.iconst 0, 1) := by decide +kernel
theorem dX4_readBar_54 : decode cX4_readBar 54 = .ok (.ireturn, 1) := by decide +kernel
theorem dX4_readBar_55 : decode cX4_readBar 55 = .ok (.aload_n 1, 1) := by decide +kernel
theorem dX4_readBar_56 : decode cX4_readBar 56 = .ok (.iload_n 2, 1) := by decide +kernel
theorem dX4_readBar_57 : decode cX4_readBar 57 = .ok (.aload_n 0, 1) := by decide +kernel
theorem dX4_readBar_58 : decode cX4_readBar 58 = .ok (.getfield 28, 3) := by decide +kernel
theorem dX4_readBar_61 : decode cX4_readBar 61 = .ok (.invokevirtual 77, 3) := by decide +kernel
theorem dX4_readBar_64 : decode cX4_readBar 64 = .ok (.istore_n 3, 1) := by decide +kernel
theorem dX4_readBar_65 : decode cX4_readBar 65 = .ok (.aload_n 0, 1) := by decide +kernel
theorem dX4_readBar_66 : decode cX4_readBar 66 = .ok (.invokevirtual 35, 3) := by decide +kernel
theorem dX4_readBar_69 : decode cX4_readBar 69 = .ok (.aload_n 0, 1) := by decide +kernel
theorem dX4_readBar_70 : decode cX4_readBar 70 = .ok (.ldc 81, 2) := by decide +kernel
theorem dX4_readBar_72 : decode cX4_readBar 72 = .ok (.invokevirtual 40, 3) := by decide +kernel
theorem dX4_readBar_75 : decode cX4_readBar 75 = .ok (.ifCond .ne 5, 3) := by decide +kernel
theorem dX4_readBar_78 : decode cX4_readBar 78 = .ok (.iconst 1, 1) := by decide +kernel
theorem dX4_readBar_79 : decode cX4_readBar 79 = .ok (.ireturn, 1) := by decide +kernel
theorem dX4_readBar_80 : decode cX4_readBar 80 = .ok (.aload_n 0, 1) := by decide +kernel
theorem dX4_readBar_81 : decode cX4_readBar 81 = .ok (.invokevirtual 74, 3) := by decide +kernel
theorem dX4_readBar_84 : decode cX4_readBar 84 = .ok (.ifCond .eq 16, 3) := by decide +kernel
theorem dX4_readBar_87 : decode cX4_readBar 87 = .ok (.aload_n 1, 1) := by decide +kernel
theorem dX4_readBar_88 : decode cX4_readBar 88 = .ok (.iload_n 3, 1) := by decide +kernel
theorem dX4_readBar_89 : decode cX4_readBar 89 = .ok (.aload_n 0, 1) := by decide +kernel
theorem dX4_readBar_90 : decode cX4_readBar 90 = .ok (.getfield 28, 3) := by decide +kernel
theorem dX4_readBar_93 : decode cX4_readBar 93 = .ok (.i2l, 1) := by decide +kernel
theorem dX4_readBar_94 : decode cX4_readBar 94 = .ok (.invokevirtual 83, 3) := by decide +kernel
theorem dX4_readBar_97 : decode cX4_readBar 97 = .ok (.ifCond .ne 5, 3) := by decide +kernel
theorem dX4_readBar_100 : decode cX4_readBar 100 = .ok (.iconst 0, 1) := by decide +kernel
theorem dX4_readBar_101 : decode cX4_readBar 101 = .ok (.ireturn, 1) := by decide +kernel
theorem dX4_readBar_102 : decode cX4_readBar 102 = .ok (.aload_n 1, 1) := by decide +kernel
theorem dX4_readBar_103 : decode cX4_readBar 103 = .ok (.iload_n 3, 1) := by decide +kernel
theorem dX4_readBar_104 : decode cX4_readBar 104 = .ok (.aload_n 0, 1) := by decide +kernel
theorem dX4_readBar_105 : decode cX4_readBar 105 = .ok (.getfield 28, 3) := by decide +kernel
theorem dX4_readBar_108 : decode cX4_readBar 108 = .ok (.invokevirtual 87, 3) := by decide +kernel
theorem dX4_readBar_111 : decode cX4_readBar 111 = .ok (.aload_n 0, 1) := by decide +kernel
theorem dX4_readBar_112 : decode cX4_readBar 112 = .ok (.invokevirtual 35, 3) := by decide +kernel
theorem dX4_readBar_115 : decode cX4_readBar 115 = .ok (.iconst 1, 1) := by decide +kernel
theorem dX4_readBar_116 : decode cX4_readBar 116 = .ok (.ireturn, 1) := by decide +kernel
theorem dX4_readStuck_0 : decode cX4_readStuck 0 = .ok (.aload_n 0, 1) := by decide +kernel
theorem dX4_readStuck_1 : decode cX4_readStuck 1 = .ok (.invokevirtual 74, 3) := by decide +kernel
theorem dX4_readStuck_4 : decode cX4_readStuck 4 = .ok (.ifCond .eq 14, 3) := by decide +kernel
theorem dX4_readStuck_7 : decode cX4_readStuck 7 = .ok (.aload_n 1, 1) := by decide +kernel
theorem dX4_readStuck_8 : decode cX4_readStuck 8 = .ok (.aload_n 0, 1) := by decide +kernel
theorem dX4_readStuck_9 : decode cX4_readStuck 9 = .ok (.getfield 28, 3) := by decide +kernel
theorem dX4_readStuck_12 : decode cX4_readStuck 12 = .ok (.invokevirtual 91, 3) := by decide +kernel
theorem dX4_readStuck_15 : decode cX4_readStuck 15 = .ok (.ifCond .ne 5, 3) := by decide +kernel
theorem dX4_readStuck_18 : decode cX4_readStuck 18 = .ok (.iconst 0, 1) := by decide +kernel
theorem dX4_readStuck_19 : decode cX4_readStuck 19 = .ok (.ireturn, 1) := by decide +kernel
theorem dX4_readStuck_20 : decode cX4_readStuck 20 = .ok (.aload_n 0, 1) := by decide +kernel
theorem dX4_readStuck_21 : decode cX4_readStuck 21 = .ok (.getfield 28, 3) := by decide +kernel
theorem dX4_readStuck_24 : decode cX4_readStuck 24 = .ok (.istore_n 2, 1) := by decide +kernel
theorem dX4_readStuck_25 : decode cX4_readStuck 25 = .ok (.aload_n 0, 1) := by decide +kernel
theorem dX4_readStuck_26 : decode cX4_readStuck 26 = .ok (.invokevirtual 74, 3) := by decide +kernel
theorem dX4_readStuck_29 : decode cX4_readStuck 29 = .ok (.ifCond .eq 16, 3) := by decide +kernel
theorem dX4_readStuck_32 : decode cX4_readStuck 32 = .ok (.aload_n 1, 1) := by decide +kernel
theorem dX4_readStuck_33 : decode cX4_readStuck 33 = .ok (.iload_n 2, 1) := by decide +kernel
theorem dX4_readStuck_34 : decode cX4_readStuck 34 = .ok (.aload_n 0, 1) := by decide +kernel
theorem dX4_readStuck_35 : decode cX4_readStuck 35 = .ok (.getfield 28, 3) := by decide +kernel
theorem dX4_readStuck_38 : decode cX4_readStuck 38 = .ok (.i2l, 1) := by decide +kernel
theorem dX4_readStuck_39 : decode cX4_readStuck 39 = .ok (.invokevirtual 83, 3) := by decide +kernel
theorem dX4_readStuck_42 : decode cX4_readStuck 42 = .ok (.ifCond .ne 5, 3) := by decide +kernel
theorem dX4_readStuck_45 : decode cX4_readStuck 45 = .ok (.iconst 0, 1) := by decide +kernel
theorem dX4_readStuck_46 : decode cX4_readStuck 46 = .ok (.ireturn, 1) := by decide +kernel
theorem dX4_readStuck_47 : decode cX4_readStuck 47 = .ok (.aload_n 1, 1) := by decide +kernel
theorem dX4_readStuck_48 : decode cX4_readStuck 48 = .ok (.iload_n 2, 1) := by decide +kernel
theorem dX4_readStuck_49 : decode cX4_readStuck 49 = .ok (.aload_n 0, 1) := by decide +kernel
theorem dX4_readStuck_50 : decode cX4_readStuck 50 = .ok (.getfield 28, 3) := by decide +kernel
theorem dX4_readStuck_53 : decode cX4_readStuck 53 = .ok (.invokevirtual 95, 3) := by decide +kernel
theorem dX4_readStuck_56 : decode cX4_readStuck 56 = .ok (.aload_n 0, 1) := by decide +kernel
theorem dX4_readStuck_57 : decode cX4_readStuck 57 = .ok (.invokevirtual 35, 3) := by decide +kernel
theorem dX4_readStuck_60 : decode cX4_readStuck 60 = .ok (.iconst 1, 1) := by decide +kernel
theorem dX4_readStuck_61 : decode cX4_readStuck 61 = .ok (.ireturn, 1) := by decide +kernel
theorem dX4_readTable_0 : decode cX4_readTable 0 = .ok (.aload_n 0, 1) := by decide +kernel
theorem dX4_readTable_1 : decode cX4_readTable 1 = .ok (.invokevirtual 74, 3) := by decide +kernel
theorem dX4_readTable_4 : decode cX4_readTable 4 = .ok (.ifCond .eq 15, 3) := by decide +kernel
theorem dX4_readTable_7 : decode cX4_readTable 7 = .ok (.aload_n 1, 1) := by decide +kernel
theorem dX4_readTable_8 : decode cX4_readTable 8 = .ok (.aload_n 0, 1) := by decide +kernel
theorem dX4_readTable_9 : decode cX4_readTable 9 = .ok (.getfield 28, 3) := by decide +kernel
theorem dX4_readTable_12 : decode cX4_readTable 12 = .ok (.invokevirtual 98, 3) := by decide +kernel
theorem dX4_readTable_15 : decode cX4_readTable 15 = .ok (.iconst 5, 1) := by decide +kernel
theorem dX4_readTable_16 : decode cX4_readTable 16 = .ok (.if_icmp .eq 5, 3) := by decide +kernel
theorem dX4_readTable_19 : decode cX4_readTable 19 = .ok (.iconst 0, 1) := by decide +kernel
theorem dX4_readTable_20 : decode cX4_readTable 20 = .ok (.ireturn, 1) := by decide +kernel
theorem dX4_readTable_21 : decode cX4_readTable 21 = .ok (.aload_n 0, 1) := by decide +kernel
theorem dX4_readTable_22 : decode cX4_readTable 22 = .ok (.getfield 28, 3) := by decide +kernel
theorem dX4_readTable_25 : decode cX4_readTable 25 = .ok (.istore_n 2, 1) := by decide +kernel
theorem dX4_readTable_26 : decode cX4_readTable 26 = .ok (.aload_n 0, 1) := by decide +kernel
theorem dX4_readTable_27 : decode cX4_readTable 27 = .ok (.invokevirtual 74, 3) := by decide +kernel
theorem dX4_readTable_30 : decode cX4_readTable 30 = .ok (.ifCond .eq 15, 3) := by decide +kernel
theorem dX4_readTable_33 : decode cX4_readTable 33 = .ok (.aload_n 1, 1) := by decide +kernel
theorem dX4_readTable_34 : decode cX4_readTable 34 = .ok (.iload_n 2, 1) := by decide +kernel
theorem dX4_readTable_35 : decode cX4_readTable 35 = .ok (.aload_n 0, 1) := by decide +kernel
theorem dX4_readTable_36 : decode cX4_readTable 36 = .ok (.getfield 28, 3) := by decide +kernel
theorem dX4_readTable_39 : decode cX4_readTable 39 = .ok (.invokevirtual 102, 3) := by decide +kernel
theorem dX4_readTable_42 : decode cX4_readTable 42 = .ok (.ifCond .ne 5, 3) := by decide +kernel
theorem dX4_readTable_45 : decode cX4_readTable 45 = .ok (.iconst 0, 1) := by decide +kernel
theorem dX4_readTable_46 : decode cX4_readTable 46 = .ok (.ireturn, 1) := by decide +kernel
theorem dX4_readTable_47 : decode cX4_readTable 47 = .ok (.aload_n 0, 1) := by decide +kernel
theorem dX4_readTable_48 : decode cX4_readTable 48 = .ok (.getfield 28, 3) := by decide +kernel
theorem dX4_readTable_51 : decode cX4_readTable 51 = .ok (.istore_n 3, 1) := by decide +kernel
theorem dX4_readTable_52 : decode cX4_readTable 52 = .ok (.aload_n 0, 1) := by decide +kernel
theorem dX4_readTable_53 : decode cX4_readTable 53 = .ok (.invokevirtual 74, 3) := by decide +kernel
theorem dX4_readTable_56 : decode cX4_readTable 56 = .ok (.ifCond .eq 16, 3) := by decide +kernel
theorem dX4_readTable_59 : decode cX4_readTable 59 = .ok (.aload_n 1, 1) := by decide +kernel
theorem dX4_readTable_60 : decode cX4_readTable 60 = .ok (.iload_n 2, 1) := by decide +kernel
theorem dX4_readTable_61 : decode cX4_readTable 61 = .ok (.aload_n 0, 1) := by decide +kernel
theorem dX4_readTable_62 : decode cX4_readTable 62 = .ok (.getfield 28, 3) := by decide +kernel
theorem dX4_readTable_65 : decode cX4_readTable 65 = .ok (.i2l, 1) := by decide +kernel
theorem dX4_readTable_66 : decode cX4_readTable 66 = .ok (.invokevirtual 83, 3) := by decide +kernel
theorem dX4_readTable_69 : decode cX4_readTable 69 = .ok (.ifCond .ne 5, 3) := by decide +kernel
theorem dX4_readTable_72 : decode cX4_readTable 72 = .ok (.iconst 0, 1) := by decide +kernel
theorem dX4_readTable_73 : decode cX4_readTable 73 = .ok (.ireturn, 1) := by decide +kernel
theorem dX4_readTable_74 : decode cX4_readTable 74 = .ok (.aload_n 0, 1) := by decide +kernel
theorem dX4_readTable_75 : decode cX4_readTable 75 = .ok (.getfield 28, 3) := by decide +kernel
theorem dX4_readTable_78 : decode cX4_readTable 78 = .ok (.istore 4, 2) := by decide +kernel
theorem dX4_readTable_80 : decode cX4_readTable 80 = .ok (.aload_n 0, 1) := by decide +kernel
theorem dX4_readTable_81 : decode cX4_readTable 81 = .ok (.invokevirtual 74, 3) := by decide +kernel
theorem dX4_readTable_84 : decode cX4_readTable 84 = .ok (.ifCond .eq 16, 3) := by decide +kernel
theorem dX4_readTable_87 : decode cX4_readTable 87 = .ok (.aload_n 1, 1) := by decide +kernel
theorem dX4_readTable_88 : decode cX4_readTable 88 = .ok (.iload_n 2, 1) := by decide +kernel
theorem dX4_readTable_89 : decode cX4_readTable 89 = .ok (.aload_n 0, 1) := by decide +kernel
theorem dX4_readTable_90 : decode cX4_readTable 90 = .ok (.getfield 28, 3) := by decide +kernel
theorem dX4_readTable_93 : decode cX4_readTable 93 = .ok (.i2l, 1) := by decide +kernel
theorem dX4_readTable_94 : decode cX4_readTable 94 = .ok (.invokevirtual 83, 3) := by decide +kernel
theorem dX4_readTable_97 : decode cX4_readTable 97 = .ok (.ifCond .ne 5, 3) := by decide +kernel
theorem dX4_readTable_100 : decode cX4_readTable 100 = .ok (.iconst 0, 1) := by decide +kernel
theorem dX4_readTable_101 : decode cX4_readTable 101 = .ok (.ireturn, 1) := by decide +kernel
theorem dX4_readTable_102 : decode cX4_readTable 102 = .ok (.aload_n 1, 1) := by decide +kernel
theorem dX4_readTable_103 : decode cX4_readTable 103 = .ok (.iload_n 2, 1) := by decide +kernel
theorem dX4_readTable_104 : decode cX4_readTable 104 = .ok (.iload_n 3, 1) := by decide +kernel
theorem dX4_readTable_105 : decode cX4_readTable 105 = .ok (.iload 4, 2) := by decide +kernel
theorem dX4_readTable_107 : decode cX4_readTable 107 = .ok (.aload_n 0, 1) := by decide +kernel
theorem dX4_readTable_108 : decode cX4_readTable 108 = .ok (.getfield 28, 3) := by decide +kernel
theorem dX4_readTable_111 : decode cX4_readTable 111 = .ok (.invokevirtual 106, 3) := by decide +kernel
theorem dX4_readTable_114 : decode cX4_readTable 114 = .ok (.aload_n 0, 1) := by decide +kernel
theorem dX4_readTable_115 : decode cX4_readTable 115 = .ok (.invokevirtual 35, 3) := by decide +kernel
theorem dX4_readTable_118 : decode cX4_readTable 118 = .ok (.iconst 1, 1) := by decide +kernel
theorem dX4_readTable_119 : decode cX4_readTable 119 = .ok (.ireturn, 1) := by decide +kernel
theorem dX4_readMinutes_0 : decode cX4_readMinutes 0 = .ok (.aload_n 0, 1) := by decide +kernel
theorem dX4_readMinutes_1 : decode cX4_readMinutes 1 = .ok (.invokevirtual 74, 3) := by decide +kernel
theorem dX4_readMinutes_4 : decode cX4_readMinutes 4 = .ok (.ifCond .eq 12, 3) := by decide +kernel
theorem dX4_readMinutes_7 : decode cX4_readMinutes 7 = .ok (.aload_n 0, 1) := by decide +kernel
theorem dX4_readMinutes_8 : decode cX4_readMinutes 8 = .ok (.getfield 28, 3) := by decide +kernel
theorem dX4_readMinutes_11 : decode cX4_readMinutes 11 = .ok (.bipush 10, 2) := by decide +kernel
theorem dX4_readMinutes_13 : decode cX4_readMinutes 13 = .ok (.if_icmp .lt 5, 3) := by decide +kernel
theorem dX4_readMinutes_16 : decode cX4_readMinutes 16 = .ok (.iconst 0, 1) := by decide +kernel
theorem dX4_readMinutes_17 : decode cX4_readMinutes 17 = .ok (.ireturn, 1) := by decide +kernel
theorem dX4_readMinutes_18 : decode cX4_readMinutes 18 = .ok (.aload_n 0, 1) := by decide +kernel
theorem dX4_readMinutes_19 : decode cX4_readMinutes 19 = .ok (.getfield 28, 3) := by decide +kernel
theorem dX4_readMinutes_22 : decode cX4_readMinutes 22 = .ok (.istore_n 2, 1) := by decide +kernel
theorem dX4_readMinutes_23 : decode cX4_readMinutes 23 = .ok (.aload_n 0, 1) := by decide +kernel
theorem dX4_readMinutes_24 : decode cX4_readMinutes 24 = .ok (.invokevirtual 74, 3) := by decide +kernel
theorem dX4_readMinutes_27 : decode cX4_readMinutes 27 = .ok (.ifCond .eq 12, 3) := by decide +kernel
theorem dX4_readMinutes_30 : decode cX4_readMinutes 30 = .ok (.aload_n 0, 1) := by decide +kernel
theorem dX4_readMinutes_31 : decode cX4_readMinutes 31 = .ok (.getfield 28, 3) := by decide +kernel
theorem dX4_readMinutes_34 : decode cX4_readMinutes 34 = .ok (.bipush 99, 2) := by decide +kernel
theorem dX4_readMinutes_36 : decode cX4_readMinutes 36 = .ok (.if_icmp .le 5, 3) := by decide +kernel
theorem dX4_readMinutes_39 : decode cX4_readMinutes 39 = .ok (.iconst 0, 1) := by decide +kernel
theorem dX4_readMinutes_40 : decode cX4_readMinutes 40 = .ok (.ireturn, 1) := by decide +kernel
theorem dX4_readMinutes_41 : decode cX4_readMinutes 41 = .ok (.aload_n 1, 1) := by decide +kernel
theorem dX4_readMinutes_42 : decode cX4_readMinutes 42 = .ok (.iload_n 2, 1) := by decide +kernel
theorem dX4_readMinutes_43 : decode cX4_readMinutes 43 = .ok (.aload_n 0, 1) := by decide +kernel
theorem dX4_readMinutes_44 : decode cX4_readMinutes 44 = .ok (.getfield 28, 3) := by decide +kernel
theorem dX4_readMinutes_47 : decode cX4_readMinutes 47 = .ok (.invokevirtual 110, 3) := by decide +kernel
theorem dX4_readMinutes_50 : decode cX4_readMinutes 50 = .ok (.aload_n 0, 1) := by decide +kernel
theorem dX4_readMinutes_51 : decode cX4_readMinutes 51 = .ok (.invokevirtual 35, 3) := by decide +kernel
theorem dX4_readMinutes_54 : decode cX4_readMinutes 54 = .ok (.iconst 1, 1) := by decide +kernel
theorem dX4_readMinutes_55 : decode cX4_readMinutes 55 = .ok (.ireturn, 1) := by decide +kernel
theorem dX4_readMove_0 : decode cX4_readMove 0 = .ok (.aload_n 0, 1) := by decide +kernel
theorem dX4_readMove_1 : decode cX4_readMove 1 = .ok (.invokevirtual 74, 3) := by decide +kernel
theorem dX4_readMove_4 : decode cX4_readMove 4 = .ok (.ifCond .eq 14, 3) := by decide +kernel
theorem dX4_readMove_7 : decode cX4_readMove 7 = .ok (.aload_n 1, 1) := by decide +kernel
theorem dX4_readMove_8 : decode cX4_readMove 8 = .ok (.aload_n 0, 1) := by decide +kernel
theorem dX4_readMove_9 : decode cX4_readMove 9 = .ok (.getfield 28, 3) := by decide +kernel
theorem dX4_readMove_12 : decode cX4_readMove 12 = .ok (.invokevirtual 91, 3) := by decide +kernel
theorem dX4_readMove_15 : decode cX4_readMove 15 = .ok (.ifCond .ne 5, 3) := by decide +kernel
theorem dX4_readMove_18 : decode cX4_readMove 18 = .ok (.iconst 0, 1) := by decide +kernel
theorem dX4_readMove_19 : decode cX4_readMove 19 = .ok (.ireturn, 1) := by decide +kernel
theorem dX4_readMove_20 : decode cX4_readMove 20 = .ok (.aload_n 0, 1) := by decide +kernel
theorem dX4_readMove_21 : decode cX4_readMove 21 = .ok (.getfield 28, 3) := by decide +kernel
theorem dX4_readMove_24 : decode cX4_readMove 24 = .ok (.istore_n 3, 1) := by decide +kernel
theorem dX4_readMove_25 : decode cX4_readMove 25 = .ok (.aload_n 2, 1) := by decide +kernel
theorem dX4_readMove_26 : decode cX4_readMove 26 = .ok (.aload_n 1, 1) := by decide +kernel
theorem dX4_readMove_27 : decode cX4_readMove 27 = .ok (.iload_n 3, 1) := by decide +kernel
theorem dX4_readMove_28 : decode cX4_readMove 28 = .ok (.invokevirtual 113, 3) := by decide +kernel
theorem dX4_readMove_31 : decode cX4_readMove 31 = .ok (.aload_n 0, 1) := by decide +kernel
theorem dX4_readMove_32 : decode cX4_readMove 32 = .ok (.invokevirtual 74, 3) := by decide +kernel
theorem dX4_readMove_35 : decode cX4_readMove 35 = .ok (.ifCond .eq 22, 3) := by decide +kernel
theorem dX4_readMove_38 : decode cX4_readMove 38 = .ok (.aload_n 2, 1) := by decide +kernel
theorem dX4_readMove_39 : decode cX4_readMove 39 = .ok (.aload_n 1, 1) := by decide +kernel
theorem dX4_readMove_40 : decode cX4_readMove 40 = .ok (.iload_n 3, 1) := by decide +kernel
theorem dX4_readMove_41 : decode cX4_readMove 41 = .ok (.invokevirtual 119, 3) := by decide +kernel
theorem dX4_readMove_44 : decode cX4_readMove 44 = .ok (.invokevirtual 122, 3) := by decide +kernel
theorem dX4_readMove_47 : decode cX4_readMove 47 = .ok (.aload_n 0, 1) := by decide +kernel
theorem dX4_readMove_48 : decode cX4_readMove 48 = .ok (.getfield 28, 3) := by decide +kernel
theorem dX4_readMove_51 : decode cX4_readMove 51 = .ok (.invokestatic 125, 3) := by decide +kernel
theorem dX4_readMove_54 : decode cX4_readMove 54 = .ok (.ifCond .ne 5, 3) := by decide +kernel
theorem dX4_readMove_57 : decode cX4_readMove 57 = .ok (.iconst 0, 1) := by decide +kernel
theorem dX4_readMove_58 : decode cX4_readMove 58 = .ok (.ireturn, 1) := by decide +kernel
theorem dX4_readMove_59 : decode cX4_readMove 59 = .ok (.aload_n 1, 1) := by decide +kernel
theorem dX4_readMove_60 : decode cX4_readMove 60 = .ok (.iload_n 3, 1) := by decide +kernel
theorem dX4_readMove_61 : decode cX4_readMove 61 = .ok (.aload_n 0, 1) := by decide +kernel
theorem dX4_readMove_62 : decode cX4_readMove 62 = .ok (.getfield 28, 3) := by decide +kernel
theorem dX4_readMove_65 : decode cX4_readMove 65 = .ok (.invokevirtual 128, 3) := by decide +kernel
theorem dX4_readMove_68 : decode cX4_readMove 68 = .ok (.aload_n 0, 1) := by decide +kernel
theorem dX4_readMove_69 : decode cX4_readMove 69 = .ok (.invokevirtual 35, 3) := by decide +kernel
theorem dX4_readMove_72 : decode cX4_readMove 72 = .ok (.iconst 1, 1) := by decide +kernel
theorem dX4_readMove_73 : decode cX4_readMove 73 = .ok (.ireturn, 1) := by decide +kernel
theorem dX4_readNumber_0 : decode cX4_readNumber 0 = .ok (.aload_n 0, 1) := by decide +kernel
theorem dX4_readNumber_1 : decode cX4_readNumber 1 = .ok (.invokevirtual 35, 3) := by decide +kernel
theorem dX4_readNumber_4 : decode cX4_readNumber 4 = .ok (.aload_n 0, 1) := by decide +kernel
theorem dX4_readNumber_5 : decode cX4_readNumber 5 = .ok (.getfield 25, 3) := by decide +kernel
theorem dX4_readNumber_8 : decode cX4_readNumber 8 = .ok (.iconst 2, 1) := by decide +kernel
theorem dX4_readNumber_9 : decode cX4_readNumber 9 = .ok (.if_icmp .ne 20, 3) := by decide +kernel
theorem dX4_readNumber_12 : decode cX4_readNumber 12 = .ok (.aload_n 0, 1) := by decide +kernel
theorem dX4_readNumber_13 : decode cX4_readNumber 13 = .ok (.getfield 19, 3) := by decide +kernel
theorem dX4_readNumber_16 : decode cX4_readNumber 16 = .ok (.aload_n 0, 1) := by decide +kernel
theorem dX4_readNumber_17 : decode cX4_readNumber 17 = .ok (.getfield 22, 3) := by decide +kernel
theorem dX4_readNumber_20 : decode cX4_readNumber 20 = .ok (.isub, 1) := by decide +kernel
theorem dX4_readNumber_21 : decode cX4_readNumber 21 = .ok (.iconst 4, 1) := by decide +kernel
theorem dX4_readNumber_22 : decode cX4_readNumber 22 = .ok (.if_icmp .gt 7, 3) := by decide +kernel
theorem dX4_readNumber_25 : decode cX4_readNumber 25 = .ok (.iconst 1, 1) := by decide +kernel
theorem dX4_readNumber_26 : decode cX4_readNumber 26 = .ok (.goto 4, 3) := by decide +kernel
theorem dX4_readNumber_29 : decode cX4_readNumber 29 = .ok (.iconst 0, 1) := by decide +kernel
theorem dX4_readNumber_30 : decode cX4_readNumber 30 = .ok (.ireturn, 1) := by decide +kernel
theorem dX4_readToken_0 : decode cX4_readToken 0 = .ok (.aload_n 0, 1) := by decide +kernel
theorem dX4_readToken_1 : decode cX4_readToken 1 = .ok (.getfield 19, 3) := by decide +kernel
theorem dX4_readToken_4 : decode cX4_readToken 4 = .ok (.aload_n 0, 1) := by decide +kernel
theorem dX4_readToken_5 : decode cX4_readToken 5 = .ok (.getfield 15, 3) := by decide +kernel
theorem dX4_readToken_8 : decode cX4_readToken 8 = .ok (.if_icmp .ge 29, 3) := by decide +kernel
theorem dX4_readToken_11 : decode cX4_readToken 11 = .ok (.aload_n 0, 1) := by decide +kernel
theorem dX4_readToken_12 : decode cX4_readToken 12 = .ok (.aload_n 0, 1) := by decide +kernel
theorem dX4_readToken_13 : decode cX4_readToken 13 = .ok (.getfield 19, 3) := by decide +kernel
theorem dX4_readToken_16 : decode cX4_readToken 16 = .ok (.invokevirtual 131, 3) := by decide +kernel
theorem dX4_readToken_19 : decode cX4_readToken 19 = .ok (.bipush 32, 2) := by decide +kernel
theorem dX4_readToken_21 : decode cX4_readToken 21 = .ok (.if_icmp .ne 16, 3) := by decide +kernel
theorem dX4_readToken_24 : decode cX4_readToken 24 = .ok (.aload_n 0, 1) := by decide +kernel
theorem dX4_readToken_25 : decode cX4_readToken 25 = .ok (.dup, 1) := by decide +kernel
theorem dX4_readToken_26 : decode cX4_readToken 26 = .ok (.getfield 19, 3) := by decide +kernel
theorem dX4_readToken_29 : decode cX4_readToken 29 = .ok (.iconst 1, 1) := by decide +kernel
theorem dX4_readToken_30 : decode cX4_readToken 30 = .ok (.iadd, 1) := by decide +kernel
theorem dX4_readToken_31 : decode cX4_readToken 31 = .ok (.putfield 19, 3) := by decide +kernel
theorem dX4_readToken_34 : decode cX4_readToken 34 = .ok (.goto (-34), 3) := by decide +kernel
theorem dX4_readToken_37 : decode cX4_readToken 37 = .ok (.aload_n 0, 1) := by decide +kernel
theorem dX4_readToken_38 : decode cX4_readToken 38 = .ok (.aload_n 0, 1) := by decide +kernel
theorem dX4_readToken_39 : decode cX4_readToken 39 = .ok (.getfield 19, 3) := by decide +kernel
theorem dX4_readToken_42 : decode cX4_readToken 42 = .ok (.putfield 22, 3) := by decide +kernel
theorem dX4_readToken_45 : decode cX4_readToken 45 = .ok (.aload_n 0, 1) := by decide +kernel
theorem dX4_readToken_46 : decode cX4_readToken 46 = .ok (.aload_n 0, 1) := by decide +kernel
theorem dX4_readToken_47 : decode cX4_readToken 47 = .ok (.getfield 19, 3) := by decide +kernel
theorem dX4_readToken_50 : decode cX4_readToken 50 = .ok (.invokevirtual 131, 3) := by decide +kernel
theorem dX4_readToken_53 : decode cX4_readToken 53 = .ok (.istore_n 1, 1) := by decide +kernel
theorem dX4_readToken_54 : decode cX4_readToken 54 = .ok (.aload_n 0, 1) := by decide +kernel
theorem dX4_readToken_55 : decode cX4_readToken 55 = .ok (.getfield 19, 3) := by decide +kernel
theorem dX4_readToken_58 : decode cX4_readToken 58 = .ok (.aload_n 0, 1) := by decide +kernel
theorem dX4_readToken_59 : decode cX4_readToken 59 = .ok (.getfield 15, 3) := by decide +kernel
theorem dX4_readToken_62 : decode cX4_readToken 62 = .ok (.if_icmp .lt 11, 3) := by decide +kernel
theorem dX4_readToken_65 : decode cX4_readToken 65 = .ok (.aload_n 0, 1) := by decide +kernel
theorem dX4_readToken_66 : decode cX4_readToken 66 = .ok (.iconst 0, 1) := by decide +kernel
theorem dX4_readToken_67 : decode cX4_readToken 67 = .ok (.putfield 25, 3) := by decide +kernel
theorem dX4_readToken_70 : decode cX4_readToken 70 = .ok (.goto 160, 3) := by decide +kernel
theorem dX4_readToken_73 : decode cX4_readToken 73 = .ok (.iload_n 1, 1) := by decide +kernel
theorem dX4_readToken_74 : decode cX4_readToken 74 = .ok (.bipush 59, 2) := by decide +kernel
theorem dX4_readToken_76 : decode cX4_readToken 76 = .ok (.if_icmp .ne 21, 3) := by decide +kernel
theorem dX4_readToken_79 : decode cX4_readToken 79 = .ok (.aload_n 0, 1) := by decide +kernel
theorem dX4_readToken_80 : decode cX4_readToken 80 = .ok (.iconst 3, 1) := by decide +kernel
theorem dX4_readToken_81 : decode cX4_readToken 81 = .ok (.putfield 25, 3) := by decide +kernel
theorem dX4_readToken_84 : decode cX4_readToken 84 = .ok (.aload_n 0, 1) := by decide +kernel
theorem dX4_readToken_85 : decode cX4_readToken 85 = .ok (.dup, 1) := by decide +kernel
theorem dX4_readToken_86 : decode cX4_readToken 86 = .ok (.getfield 19, 3) := by decide +kernel
theorem dX4_readToken_89 : decode cX4_readToken 89 = .ok (.iconst 1, 1) := by decide +kernel
theorem dX4_readToken_90 : decode cX4_readToken 90 = .ok (.iadd, 1) := by decide +kernel
theorem dX4_readToken_91 : decode cX4_readToken 91 = .ok (.putfield 19, 3) := by decide +kernel
theorem dX4_readToken_94 : decode cX4_readToken 94 = .ok (.goto 136, 3) := by decide +kernel
theorem dX4_readToken_97 : decode cX4_readToken 97 = .ok (.iload_n 1, 1) := by decide +kernel
theorem dX4_readToken_98 : decode cX4_readToken 98 = .ok (.invokestatic 134, 3) := by decide +kernel
theorem dX4_readToken_101 : decode cX4_readToken 101 = .ok (.ifCond .eq 46, 3) := by decide +kernel
theorem dX4_readToken_104 : decode cX4_readToken 104 = .ok (.aload_n 0, 1) := by decide +kernel
theorem dX4_readToken_105 : decode cX4_readToken 105 = .ok (.iconst 1, 1) := by decide +kernel
theorem dX4_readToken_106 : decode cX4_readToken 106 = .ok (.putfield 25, 3) := by decide +kernel
theorem dX4_readToken_109 : decode cX4_readToken 109 = .ok (.aload_n 0, 1) := by decide +kernel
theorem dX4_readToken_110 : decode cX4_readToken 110 = .ok (.getfield 19, 3) := by decide +kernel
theorem dX4_readToken_113 : decode cX4_readToken 113 = .ok (.aload_n 0, 1) := by decide +kernel
theorem dX4_readToken_114 : decode cX4_readToken 114 = .ok (.getfield 15, 3) := by decide +kernel
theorem dX4_readToken_117 : decode cX4_readToken 117 = .ok (.if_icmp .ge 113, 3) := by decide +kernel
theorem dX4_readToken_120 : decode cX4_readToken 120 = .ok (.aload_n 0, 1) := by decide +kernel
theorem dX4_readToken_121 : decode cX4_readToken 121 = .ok (.aload_n 0, 1) := by decide +kernel
theorem dX4_readToken_122 : decode cX4_readToken 122 = .ok (.getfield 19, 3) := by decide +kernel
theorem dX4_readToken_125 : decode cX4_readToken 125 = .ok (.invokevirtual 131, 3) := by decide +kernel
theorem dX4_readToken_128 : decode cX4_readToken 128 = .ok (.invokestatic 134, 3) := by decide +kernel
theorem dX4_readToken_131 : decode cX4_readToken 131 = .ok (.ifCond .eq 99, 3) := by decide +kernel
theorem dX4_readToken_134 : decode cX4_readToken 134 = .ok (.aload_n 0, 1) := by decide +kernel
theorem dX4_readToken_135 : decode cX4_readToken 135 = .ok (.dup, 1) := by decide +kernel
theorem dX4_readToken_136 : decode cX4_readToken 136 = .ok (.getfield 19, 3) := by decide +kernel
theorem dX4_readToken_139 : decode cX4_readToken 139 = .ok (.iconst 1, 1) := by decide +kernel
theorem dX4_readToken_140 : decode cX4_readToken 140 = .ok (.iadd, 1) := by decide +kernel
theorem dX4_readToken_141 : decode cX4_readToken 141 = .ok (.putfield 19, 3) := by decide +kernel
theorem dX4_readToken_144 : decode cX4_readToken 144 = .ok (.goto (-35), 3) := by decide +kernel
theorem dX4_readToken_147 : decode cX4_readToken 147 = .ok (.iload_n 1, 1) := by decide +kernel
theorem dX4_readToken_148 : decode cX4_readToken 148 = .ok (.invokestatic 137, 3) := by decide +kernel
theorem dX4_readToken_151 : decode cX4_readToken 151 = .ok (.ifCond .eq 74, 3) := by decide +kernel
theorem dX4_readToken_154 : decode cX4_readToken 154 = .ok (.aload_n 0, 1) := by decide +kernel
theorem dX4_readToken_155 : decode cX4_readToken 155 = .ok (.iconst 2, 1) := by decide +kernel
theorem dX4_readToken_156 : decode cX4_readToken 156 = .ok (.putfield 25, 3) := by decide +kernel
theorem dX4_readToken_159 : decode cX4_readToken 159 = .ok (.aload_n 0, 1) := by decide +kernel
theorem dX4_readToken_160 : decode cX4_readToken 160 = .ok (.iconst 0, 1) := by decide +kernel
theorem dX4_readToken_161 : decode cX4_readToken 161 = .ok (.putfield 28, 3) := by decide +kernel
theorem dX4_readToken_164 : decode cX4_readToken 164 = .ok (.aload_n 0, 1) := by decide +kernel
theorem dX4_readToken_165 : decode cX4_readToken 165 = .ok (.getfield 19, 3) := by decide +kernel
theorem dX4_readToken_168 : decode cX4_readToken 168 = .ok (.aload_n 0, 1) := by decide +kernel
theorem dX4_readToken_169 : decode cX4_readToken 169 = .ok (.getfield 15, 3) := by decide +kernel
theorem dX4_readToken_172 : decode cX4_readToken 172 = .ok (.if_icmp .ge 58, 3) := by decide +kernel
theorem dX4_readToken_175 : decode cX4_readToken 175 = .ok (.aload_n 0, 1) := by decide +kernel
theorem dX4_readToken_176 : decode cX4_readToken 176 = .ok (.aload_n 0, 1) := by decide +kernel
theorem dX4_readToken_177 : decode cX4_readToken 177 = .ok (.getfield 19, 3) := by decide +kernel
theorem dX4_readToken_180 : decode cX4_readToken 180 = .ok (.invokevirtual 131, 3) := by decide +kernel
theorem dX4_readToken_183 : decode cX4_readToken 183 = .ok (.invokestatic 137, 3) := by decide +kernel
theorem dX4_readToken_186 : decode cX4_readToken 186 = .ok (.ifCond .eq 44, 3) := by decide +kernel
theorem dX4_readToken_189 : decode cX4_readToken 189 = .ok (.aload_n 0, 1) := by decide +kernel
theorem dX4_readToken_190 : decode cX4_readToken 190 = .ok (.aload_n 0, 1) := by decide +kernel
theorem dX4_readToken_191 : decode cX4_readToken 191 = .ok (.getfield 28, 3) := by decide +kernel
theorem dX4_readToken_194 : decode cX4_readToken 194 = .ok (.bipush 10, 2) := by decide +kernel
theorem dX4_readToken_196 : decode cX4_readToken 196 = .ok (.imul, 1) := by decide +kernel
theorem dX4_readToken_197 : decode cX4_readToken 197 = .ok (.aload_n 0, 1) := by decide +kernel
theorem dX4_readToken_198 : decode cX4_readToken 198 = .ok (.aload_n 0, 1) := by decide +kernel
theorem dX4_readToken_199 : decode cX4_readToken 199 = .ok (.getfield 19, 3) := by decide +kernel
theorem dX4_readToken_202 : decode cX4_readToken 202 = .ok (.invokevirtual 131, 3) := by decide +kernel
theorem dX4_readToken_205 : decode cX4_readToken 205 = .ok (.iadd, 1) := by decide +kernel
theorem dX4_readToken_206 : decode cX4_readToken 206 = .ok (.bipush 48, 2) := by decide +kernel
theorem dX4_readToken_208 : decode cX4_readToken 208 = .ok (.isub, 1) := by decide +kernel
theorem dX4_readToken_209 : decode cX4_readToken 209 = .ok (.putfield 28, 3) := by decide +kernel
theorem dX4_readToken_212 : decode cX4_readToken 212 = .ok (.aload_n 0, 1) := by decide +kernel
theorem dX4_readToken_213 : decode cX4_readToken 213 = .ok (.dup, 1) := by decide +kernel
theorem dX4_readToken_214 : decode cX4_readToken 214 = .ok (.getfield 19, 3) := by decide +kernel
theorem dX4_readToken_217 : decode cX4_readToken 217 = .ok (.iconst 1, 1) := by decide +kernel
theorem dX4_readToken_218 : decode cX4_readToken 218 = .ok (.iadd, 1) := by decide +kernel
theorem dX4_readToken_219 : decode cX4_readToken 219 = .ok (.putfield 19, 3) := by decide +kernel
theorem dX4_readToken_222 : decode cX4_readToken 222 = .ok (.goto (-58), 3) := by decide +kernel
theorem dX4_readToken_225 : decode cX4_readToken 225 = .ok (.aload_n 0, 1) := by decide +kernel
theorem dX4_readToken_226 : decode cX4_readToken 226 = .ok (.iconst 4, 1) := by decide +kernel
theorem dX4_readToken_227 : decode cX4_readToken 227 = .ok (.putfield 25, 3) := by decide +kernel
theorem dX4_readToken_230 : decode cX4_readToken 230 = .ok (.return_, 1) := by decide +kernel
theorem dX4_isWord_0 : decode cX4_isWord 0 = .ok (.aload_n 0, 1) := by decide +kernel
theorem dX4_isWord_1 : decode cX4_isWord 1 = .ok (.getfield 25, 3) := by decide +kernel
theorem dX4_isWord_4 : decode cX4_isWord 4 = .ok (.iconst 1, 1) := by decide +kernel
theorem dX4_isWord_5 : decode cX4_isWord 5 = .ok (.if_icmp .ne 19, 3) := by decide +kernel
theorem dX4_isWord_8 : decode cX4_isWord 8 = .ok (.aload_n 0, 1) := by decide +kernel
theorem dX4_isWord_9 : decode cX4_isWord 9 = .ok (.getfield 19, 3) := by decide +kernel
theorem dX4_isWord_12 : decode cX4_isWord 12 = .ok (.aload_n 0, 1) := by decide +kernel
theorem dX4_isWord_13 : decode cX4_isWord 13 = .ok (.getfield 22, 3) := by decide +kernel
theorem dX4_isWord_16 : decode cX4_isWord 16 = .ok (.isub, 1) := by decide +kernel
theorem dX4_isWord_17 : decode cX4_isWord 17 = .ok (.aload_n 1, 1) := by decide +kernel
theorem dX4_isWord_18 : decode cX4_isWord 18 = .ok (.invokevirtual 140, 3) := by decide +kernel
theorem dX4_isWord_21 : decode cX4_isWord 21 = .ok (.if_icmp .eq 5, 3) := by decide +kernel
theorem dX4_isWord_24 : decode cX4_isWord 24 = .ok (.iconst 0, 1) := by decide +kernel
theorem dX4_isWord_25 : decode cX4_isWord 25 = .ok (.ireturn, 1) := by decide +kernel
theorem dX4_isWord_26 : decode cX4_isWord 26 = .ok (.iconst 0, 1) := by decide +kernel
theorem dX4_isWord_27 : decode cX4_isWord 27 = .ok (.istore_n 2, 1) := by decide +kernel
theorem dX4_isWord_28 : decode cX4_isWord 28 = .ok (.iload_n 2, 1) := by decide +kernel
theorem dX4_isWord_29 : decode cX4_isWord 29 = .ok (.aload_n 1, 1) := by decide +kernel
theorem dX4_isWord_30 : decode cX4_isWord 30 = .ok (.invokevirtual 140, 3) := by decide +kernel
theorem dX4_isWord_33 : decode cX4_isWord 33 = .ok (.if_icmp .ge 29, 3) := by decide +kernel
theorem dX4_isWord_36 : decode cX4_isWord 36 = .ok (.aload_n 0, 1) := by decide +kernel
theorem dX4_isWord_37 : decode cX4_isWord 37 = .ok (.aload_n 0, 1) := by decide +kernel
theorem dX4_isWord_38 : decode cX4_isWord 38 = .ok (.getfield 22, 3) := by decide +kernel
theorem dX4_isWord_41 : decode cX4_isWord 41 = .ok (.iload_n 2, 1) := by decide +kernel
theorem dX4_isWord_42 : decode cX4_isWord 42 = .ok (.iadd, 1) := by decide +kernel
theorem dX4_isWord_43 : decode cX4_isWord 43 = .ok (.invokevirtual 131, 3) := by decide +kernel
theorem dX4_isWord_46 : decode cX4_isWord 46 = .ok (.aload_n 1, 1) := by decide +kernel
theorem dX4_isWord_47 : decode cX4_isWord 47 = .ok (.iload_n 2, 1) := by decide +kernel
theorem dX4_isWord_48 : decode cX4_isWord 48 = .ok (.invokevirtual 146, 3) := by decide +kernel
theorem dX4_isWord_51 : decode cX4_isWord 51 = .ok (.if_icmp .eq 5, 3) := by decide +kernel
theorem dX4_isWord_54 : decode cX4_isWord 54 = .ok (.iconst 0, 1) := by decide +kernel
theorem dX4_isWord_55 : decode cX4_isWord 55 = .ok (.ireturn, 1) := by decide +kernel
theorem dX4_isWord_56 : decode cX4_isWord 56 = .ok (.iinc 2 1, 3) := by decide +kernel
theorem dX4_isWord_59 : decode cX4_isWord 59 = .ok (.goto (-31), 3) := by decide +kernel
theorem dX4_isWord_62 : decode cX4_isWord 62 = .ok (.iconst 1, 1) := by decide +kernel
theorem dX4_isWord_63 : decode cX4_isWord 63 = .ok (.ireturn, 1) := by decide +kernel
theorem dX4_byteAt_0 : decode cX4_byteAt 0 = .ok (.iload_n 1, 1) := by decide +kernel
theorem dX4_byteAt_1 : decode cX4_byteAt 1 = .ok (.ifCond .lt 27, 3) := by decide +kernel
theorem dX4_byteAt_4 : decode cX4_byteAt 4 = .ok (.iload_n 1, 1) := by decide +kernel
theorem dX4_byteAt_5 : decode cX4_byteAt 5 = .ok (.aload_n 0, 1) := by decide +kernel
theorem dX4_byteAt_6 : decode cX4_byteAt 6 = .ok (.getfield 15, 3) := by decide +kernel
theorem dX4_byteAt_9 : decode cX4_byteAt 9 = .ok (.if_icmp .ge 19, 3) := by decide +kernel
theorem dX4_byteAt_12 : decode cX4_byteAt 12 = .ok (.iload_n 1, 1) := by decide +kernel
theorem dX4_byteAt_13 : decode cX4_byteAt 13 = .ok (.sipush 250, 3) := by decide +kernel
theorem dX4_byteAt_16 : decode cX4_byteAt 16 = .ok (.if_icmp .ge 12, 3) := by decide +kernel
theorem dX4_byteAt_19 : decode cX4_byteAt 19 = .ok (.aload_n 0, 1) := by decide +kernel
theorem dX4_byteAt_20 : decode cX4_byteAt 20 = .ok (.getfield 11, 3) := by decide +kernel
theorem dX4_byteAt_23 : decode cX4_byteAt 23 = .ok (.iload_n 1, 1) := by decide +kernel
theorem dX4_byteAt_24 : decode cX4_byteAt 24 = .ok (.iaload, 1) := by decide +kernel
theorem dX4_byteAt_25 : decode cX4_byteAt 25 = .ok (.goto 4, 3) := by decide +kernel
theorem dX4_byteAt_28 : decode cX4_byteAt 28 = .ok (.iconst (-1), 1) := by decide +kernel
theorem dX4_byteAt_29 : decode cX4_byteAt 29 = .ok (.ireturn, 1) := by decide +kernel
theorem dX4_isLetter_0 : decode cX4_isLetter 0 = .ok (.iload_n 0, 1) := by decide +kernel
theorem dX4_isLetter_1 : decode cX4_isLetter 1 = .ok (.bipush 97, 2) := by decide +kernel
theorem dX4_isLetter_3 : decode cX4_isLetter 3 = .ok (.if_icmp .lt 13, 3) := by decide +kernel
theorem dX4_isLetter_6 : decode cX4_isLetter 6 = .ok (.iload_n 0, 1) := by decide +kernel
theorem dX4_isLetter_7 : decode cX4_isLetter 7 = .ok (.bipush 122, 2) := by decide +kernel
theorem dX4_isLetter_9 : decode cX4_isLetter 9 = .ok (.if_icmp .gt 7, 3) := by decide +kernel
theorem dX4_isLetter_12 : decode cX4_isLetter 12 = .ok (.iconst 1, 1) := by decide +kernel
theorem dX4_isLetter_13 : decode cX4_isLetter 13 = .ok (.goto 4, 3) := by decide +kernel
theorem dX4_isLetter_16 : decode cX4_isLetter 16 = .ok (.iconst 0, 1) := by decide +kernel
theorem dX4_isLetter_17 : decode cX4_isLetter 17 = .ok (.ireturn, 1) := by decide +kernel
theorem dX4_isDigit_0 : decode cX4_isDigit 0 = .ok (.iload_n 0, 1) := by decide +kernel
theorem dX4_isDigit_1 : decode cX4_isDigit 1 = .ok (.bipush 48, 2) := by decide +kernel
theorem dX4_isDigit_3 : decode cX4_isDigit 3 = .ok (.if_icmp .lt 13, 3) := by decide +kernel
theorem dX4_isDigit_6 : decode cX4_isDigit 6 = .ok (.iload_n 0, 1) := by decide +kernel
theorem dX4_isDigit_7 : decode cX4_isDigit 7 = .ok (.bipush 57, 2) := by decide +kernel
theorem dX4_isDigit_9 : decode cX4_isDigit 9 = .ok (.if_icmp .gt 7, 3) := by decide +kernel
theorem dX4_isDigit_12 : decode cX4_isDigit 12 = .ok (.iconst 1, 1) := by decide +kernel
theorem dX4_isDigit_13 : decode cX4_isDigit 13 = .ok (.goto 4, 3) := by decide +kernel
theorem dX4_isDigit_16 : decode cX4_isDigit 16 = .ok (.iconst 0, 1) := by decide +kernel
theorem dX4_isDigit_17 : decode cX4_isDigit 17 = .ok (.ireturn, 1) := by decide +kernel
theorem dX5_init_0 : decode cX5_init 0 = .ok (.aload_n 0, 1) := by decide +kernel
theorem dX5_init_1 : decode cX5_init 1 = .ok (.invokespecial 3, 3) := by decide +kernel
theorem dX5_init_4 : decode cX5_init 4 = .ok (.aload_n 0, 1) := by decide +kernel
theorem dX5_init_5 : decode cX5_init 5 = .ok (.new 9, 3) := by decide +kernel
theorem dX5_init_8 : decode cX5_init 8 = .ok (.dup, 1) := by decide +kernel
theorem dX5_init_9 : decode cX5_init 9 = .ok (.invokespecial 11, 3) := by decide +kernel
theorem dX5_init_12 : decode cX5_init 12 = .ok (.putfield 12, 3) := by decide +kernel
theorem dX5_init_15 : decode cX5_init 15 = .ok (.aload_n 0, 1) := by decide +kernel
theorem dX5_init_16 : decode cX5_init 16 = .ok (.new 9, 3) := by decide +kernel
theorem dX5_init_19 : decode cX5_init 19 = .ok (.dup, 1) := by decide +kernel
theorem dX5_init_20 : decode cX5_init 20 = .ok (.invokespecial 11, 3) := by decide +kernel
theorem dX5_init_23 : decode cX5_init 23 = .ok (.putfield 16, 3) := by decide +kernel
theorem dX5_init_26 : decode cX5_init 26 = .ok (.aload_n 0, 1) := by decide +kernel
theorem dX5_init_27 : decode cX5_init 27 = .ok (.new 9, 3) := by decide +kernel
theorem dX5_init_30 : decode cX5_init 30 = .ok (.dup, 1) := by decide +kernel
theorem dX5_init_31 : decode cX5_init 31 = .ok (.invokespecial 11, 3) := by decide +kernel
theorem dX5_init_34 : decode cX5_init 34 = .ok (.putfield 19, 3) := by decide +kernel
theorem dX5_init_37 : decode cX5_init 37 = .ok (.aload_n 0, 1) := by decide +kernel
theorem dX5_init_38 : decode cX5_init 38 = .ok (.new 22, 3) := by decide +kernel
theorem dX5_init_41 : decode cX5_init 41 = .ok (.dup, 1) := by decide +kernel
theorem dX5_init_42 : decode cX5_init 42 = .ok (.invokespecial 24, 3) := by decide +kernel
theorem dX5_init_45 : decode cX5_init 45 = .ok (.putfield 25, 3) := by decide +kernel
theorem dX5_init_48 : decode cX5_init 48 = .ok (.aload_n 0, 1) := by decide +kernel
theorem dX5_init_49 : decode cX5_init 49 = .ok (.new 29, 3) := by decide +kernel
theorem dX5_init_52 : decode cX5_init 52 = .ok (.dup, 1) := by decide +kernel
theorem dX5_init_53 : decode cX5_init 53 = .ok (.invokespecial 31, 3) := by decide +kernel
theorem dX5_init_56 : decode cX5_init 56 = .ok (.putfield 32, 3) := by decide +kernel
theorem dX5_init_59 : decode cX5_init 59 = .ok (.aload_n 0, 1) := by decide +kernel
theorem dX5_init_60 : decode cX5_init 60 = .ok (.new 36, 3) := by decide +kernel
theorem dX5_init_63 : decode cX5_init 63 = .ok (.dup, 1) := by decide +kernel
theorem dX5_init_64 : decode cX5_init 64 = .ok (.invokespecial 38, 3) := by decide +kernel
theorem dX5_init_67 : decode cX5_init 67 = .ok (.putfield 39, 3) := by decide +kernel
theorem dX5_init_70 : decode cX5_init 70 = .ok (.aload_n 0, 1) := by decide +kernel
theorem dX5_init_71 : decode cX5_init 71 = .ok (.new 43, 3) := by decide +kernel
theorem dX5_init_74 : decode cX5_init 74 = .ok (.dup, 1) := by decide +kernel
theorem dX5_init_75 : decode cX5_init 75 = .ok (.invokespecial 45, 3) := by decide +kernel
theorem dX5_init_78 : decode cX5_init 78 = .ok (.putfield 46, 3) := by decide +kernel
theorem dX5_init_81 : decode cX5_init 81 = .ok (.aload_n 0, 1) := by decide +kernel
theorem dX5_init_82 : decode cX5_init 82 = .ok (.iconst 5, 1) := by decide +kernel
theorem dX5_init_83 : decode cX5_init 83 = .ok (.newarray .int, 2) := by decide +kernel
theorem dX5_init_85 : decode cX5_init 85 = .ok (.putfield 50, 3) := by decide +kernel
theorem dX5_init_88 : decode cX5_init 88 = .ok (.aload_n 0, 1) := by decide +kernel
theorem dX5_init_89 : decode cX5_init 89 = .ok (.iconst 0, 1) := by decide +kernel
theorem dX5_init_90 : decode cX5_init 90 = .ok (.putfield 54, 3) := by decide +kernel
theorem dX5_init_93 : decode cX5_init 93 = .ok (.return_, 1) := by decide +kernel
theorem dX5_row_0 : decode cX5_row 0 = .ok (.iload_n 1, 1) := by decide +kernel
theorem dX5_row_1 : decode cX5_row 1 = .ok (.invokestatic 58, 3) := by decide +kernel
theorem dX5_row_4 : decode cX5_row 4 = .ok (.ifCond .eq 22, 3) := by decide +kernel
theorem dX5_row_7 : decode cX5_row 7 = .ok (.iload_n 2, 1) := by decide +kernel
theorem dX5_row_8 : decode cX5_row 8 = .ok (.ifCond .lt 18, 3) := by decide +kernel
theorem dX5_row_11 : decode cX5_row 11 = .ok (.iload_n 2, 1) := by decide +kernel
theorem dX5_row_12 : decode cX5_row 12 = .ok (.iconst 4, 1) := by decide +kernel
theorem dX5_row_13 : decode cX5_row 13 = .ok (.if_icmp .gt 13, 3) := by decide +kernel
theorem dX5_row_16 : decode cX5_row 16 = .ok (.iload_n 3, 1) := by decide +kernel
theorem dX5_row_17 : decode cX5_row 17 = .ok (.ifCond .lt 9, 3) := by decide +kernel
theorem dX5_row_20 : decode cX5_row 20 = .ok (.iload_n 3, 1) := by decide +kernel
theorem dX5_row_21 : decode cX5_row 21 = .ok (.bipush 40, 2) := by decide +kernel
theorem dX5_row_23 : decode cX5_row 23 = .ok (.if_icmp .le 10, 3) := by decide +kernel
theorem dX5_row_26 : decode cX5_row 26 = .ok (.aload_n 0, 1) := by decide +kernel
theorem dX5_row_27 : decode cX5_row 27 = .ok (.bipush (-2), 2) := by decide +kernel
theorem dX5_row_29 : decode cX5_row 29 = .ok (.invokevirtual 62, 3) := by decide +kernel
theorem dX5_row_32 : decode cX5_row 32 = .ok (.ireturn, 1) := by decide +kernel
theorem dX5_row_33 : decode cX5_row 33 = .ok (.aload_n 0, 1) := by decide +kernel
theorem dX5_row_34 : decode cX5_row 34 = .ok (.getfield 25, 3) := by decide +kernel
theorem dX5_row_37 : decode cX5_row 37 = .ok (.iload_n 1, 1) := by decide +kernel
theorem dX5_row_38 : decode cX5_row 38 = .ok (.iload_n 2, 1) := by decide +kernel
theorem dX5_row_39 : decode cX5_row 39 = .ok (.iload_n 3, 1) := by decide +kernel
theorem dX5_row_40 : decode cX5_row 40 = .ok (.invokevirtual 66, 3) := by decide +kernel
theorem dX5_row_43 : decode cX5_row 43 = .ok (.iconst 1, 1) := by decide +kernel
theorem dX5_row_44 : decode cX5_row 44 = .ok (.ireturn, 1) := by decide +kernel
theorem dX5_set_0 : decode cX5_set 0 = .ok (.iload_n 1, 1) := by decide +kernel
theorem dX5_set_1 : decode cX5_set 1 = .ok (.invokestatic 58, 3) := by decide +kernel
theorem dX5_set_4 : decode cX5_set 4 = .ok (.ifCond .ne 10, 3) := by decide +kernel
theorem dX5_set_7 : decode cX5_set 7 = .ok (.aload_n 0, 1) := by decide +kernel
theorem dX5_set_8 : decode cX5_set 8 = .ok (.bipush (-2), 2) := by decide +kernel
theorem dX5_set_10 : decode cX5_set 10 = .ok (.invokevirtual 62, 3) := by decide +kernel
theorem dX5_set_13 : decode cX5_set 13 = .ok (.ireturn, 1) := by decide +kernel
theorem dX5_set_14 : decode cX5_set 14 = .ok (.aload_n 0, 1) := by decide +kernel
theorem dX5_set_15 : decode cX5_set 15 = .ok (.getfield 25, 3) := by decide +kernel
theorem dX5_set_18 : decode cX5_set 18 = .ok (.iload_n 1, 1) := by decide +kernel
theorem dX5_set_19 : decode cX5_set 19 = .ok (.invokevirtual 70, 3) := by decide +kernel
theorem dX5_set_22 : decode cX5_set 22 = .ok (.ifCond .eq 10, 3) := by decide +kernel
theorem dX5_set_25 : decode cX5_set 25 = .ok (.aload_n 0, 1) := by decide +kernel
theorem dX5_set_26 : decode cX5_set 26 = .ok (.bipush (-3), 2) := by decide +kernel
theorem dX5_set_28 : decode cX5_set 28 = .ok (.invokevirtual 62, 3) := by decide +kernel
theorem dX5_set_31 : decode cX5_set 31 = .ok (.ireturn, 1) := by decide +kernel
theorem dX5_set_32 : decode cX5_set 32 = .ok (.aload_n 0, 1) := by decide +kernel
theorem dX5_set_33 : decode cX5_set 33 = .ok (.getfield 25, 3) := by decide +kernel
theorem dX5_set_36 : decode cX5_set 36 = .ok (.iload_n 1, 1) := by decide +kernel
theorem dX5_set_37 : decode cX5_set 37 = .ok (.invokevirtual 73, 3) := by decide +kernel
theorem dX5_set_40 : decode cX5_set 40 = .ok (.ifCond .eq 10, 3) := by decide +kernel
theorem dX5_set_43 : decode cX5_set 43 = .ok (.aload_n 0, 1) := by decide +kernel
theorem dX5_set_44 : decode cX5_set 44 = .ok (.bipush (-4), 2) := by decide +kernel
theorem dX5_set_46 : decode cX5_set 46 = .ok (.invokevirtual 62, 3) := by decide +kernel
theorem dX5_set_49 : decode cX5_set 49 = .ok (.ireturn, 1) := by decide +kernel
theorem dX5_set_50 : decode cX5_set 50 = .ok (.aload_n 0, 1) := by decide +kernel
theorem dX5_set_51 : decode cX5_set 51 = .ok (.getfield 25, 3) := by decide +kernel
theorem dX5_set_54 : decode cX5_set 54 = .ok (.iload_n 1, 1) := by decide +kernel
theorem dX5_set_55 : decode cX5_set 55 = .ok (.iload_n 2, 1) := by decide +kernel
theorem dX5_set_56 : decode cX5_set 56 = .ok (.iconst 1, 1) := by decide +kernel
theorem dX5_set_57 : decode cX5_set 57 = .ok (.invokevirtual 76, 3) := by decide +kernel
theorem dX5_set_60 : decode cX5_set 60 = .ok (.ifCond .ne 10, 3) := by decide +kernel
theorem dX5_set_63 : decode cX5_set 63 = .ok (.aload_n 0, 1) := by decide +kernel
theorem dX5_set_64 : decode cX5_set 64 = .ok (.bipush (-2), 2) := by decide +kernel
theorem dX5_set_66 : decode cX5_set 66 = .ok (.invokevirtual 62, 3) := by decide +kernel
theorem dX5_set_69 : decode cX5_set 69 = .ok (.ireturn, 1) := by decide +kernel
theorem dX5_set_70 : decode cX5_set 70 = .ok (.aload_n 0, 1) := by decide +kernel
theorem dX5_set_71 : decode cX5_set 71 = .ok (.getfield 25, 3) := by decide +kernel
theorem dX5_set_74 : decode cX5_set 74 = .ok (.iload_n 1, 1) := by decide +kernel
theorem dX5_set_75 : decode cX5_set 75 = .ok (.iload_n 2, 1) := by decide +kernel
theorem dX5_set_76 : decode cX5_set 76 = .ok (.lload_n 3, 1) := by decide +kernel
theorem dX5_set_77 : decode cX5_set 77 = .ok (.invokevirtual 80, 3) := by decide +kernel
theorem dX5_set_80 : decode cX5_set 80 = .ok (.iconst 1, 1) := by decide +kernel
theorem dX5_set_81 : decode cX5_set 81 = .ok (.ireturn, 1) := by decide +kernel
theorem dX5_copy_0 : decode cX5_copy 0 = .ok (.iload_n 1, 1) := by decide +kernel
theorem dX5_copy_1 : decode cX5_copy 1 = .ok (.invokestatic 58, 3) := by decide +kernel
theorem dX5_copy_4 : decode cX5_copy 4 = .ok (.ifCond .eq 10, 3) := by decide +kernel
theorem dX5_copy_7 : decode cX5_copy 7 = .ok (.iload_n 2, 1) := by decide +kernel
theorem dX5_copy_8 : decode cX5_copy 8 = .ok (.invokestatic 58, 3) := by decide +kernel
theorem dX5_copy_11 : decode cX5_copy 11 = .ok (.ifCond .ne 10, 3) := by decide +kernel
theorem dX5_copy_14 : decode cX5_copy 14 = .ok (.aload_n 0, 1) := by decide +kernel
theorem dX5_copy_15 : decode cX5_copy 15 = .ok (.bipush (-2), 2) := by decide +kernel
theorem dX5_copy_17 : decode cX5_copy 17 = .ok (.invokevirtual 62, 3) := by decide +kernel
theorem dX5_copy_20 : decode cX5_copy 20 = .ok (.ireturn, 1) := by decide +kernel
theorem dX5_copy_21 : decode cX5_copy 21 = .ok (.aload_n 0, 1) := by decide +kernel
theorem dX5_copy_22 : decode cX5_copy 22 = .ok (.getfield 25, 3) := by decide +kernel
theorem dX5_copy_25 : decode cX5_copy 25 = .ok (.iload_n 1, 1) := by decide +kernel
theorem dX5_copy_26 : decode cX5_copy 26 = .ok (.invokevirtual 70, 3) := by decide +kernel
theorem dX5_copy_29 : decode cX5_copy 29 = .ok (.ifCond .ne 26, 3) := by decide +kernel
theorem dX5_copy_32 : decode cX5_copy 32 = .ok (.aload_n 0, 1) := by decide +kernel
theorem dX5_copy_33 : decode cX5_copy 33 = .ok (.getfield 25, 3) := by decide +kernel
theorem dX5_copy_36 : decode cX5_copy 36 = .ok (.iload_n 2, 1) := by decide +kernel
theorem dX5_copy_37 : decode cX5_copy 37 = .ok (.invokevirtual 70, 3) := by decide +kernel
theorem dX5_copy_40 : decode cX5_copy 40 = .ok (.ifCond .ne 15, 3) := by decide +kernel
theorem dX5_copy_43 : decode cX5_copy 43 = .ok (.aload_n 0, 1) := by decide +kernel
theorem dX5_copy_44 : decode cX5_copy 44 = .ok (.getfield 25, 3) := by decide +kernel
theorem dX5_copy_47 : decode cX5_copy 47 = .ok (.iload_n 1, 1) := by decide +kernel
theorem dX5_copy_48 : decode cX5_copy 48 = .ok (.iload_n 2, 1) := by decide +kernel
theorem dX5_copy_49 : decode cX5_copy 49 = .ok (.invokevirtual 84, 3) := by decide +kernel
theorem dX5_copy_52 : decode cX5_copy 52 = .ok (.ifCond .eq 10, 3) := by decide +kernel
theorem dX5_copy_55 : decode cX5_copy 55 = .ok (.aload_n 0, 1) := by decide +kernel
theorem dX5_copy_56 : decode cX5_copy 56 = .ok (.bipush (-3), 2) := by decide +kernel
theorem dX5_copy_58 : decode cX5_copy 58 = .ok (.invokevirtual 62, 3) := by decide +kernel
theorem dX5_copy_61 : decode cX5_copy 61 = .ok (.ireturn, 1) := by decide +kernel
theorem dX5_copy_62 : decode cX5_copy 62 = .ok (.aload_n 0, 1) := by decide +kernel
theorem dX5_copy_63 : decode cX5_copy 63 = .ok (.getfield 25, 3) := by decide +kernel
theorem dX5_copy_66 : decode cX5_copy 66 = .ok (.iload_n 1, 1) := by decide +kernel
theorem dX5_copy_67 : decode cX5_copy 67 = .ok (.invokevirtual 73, 3) := by decide +kernel
theorem dX5_copy_70 : decode cX5_copy 70 = .ok (.ifCond .ne 14, 3) := by decide +kernel
theorem dX5_copy_73 : decode cX5_copy 73 = .ok (.aload_n 0, 1) := by decide +kernel
theorem dX5_copy_74 : decode cX5_copy 74 = .ok (.getfield 25, 3) := by decide +kernel
theorem dX5_copy_77 : decode cX5_copy 77 = .ok (.iload_n 2, 1) := by decide +kernel
theorem dX5_copy_78 : decode cX5_copy 78 = .ok (.invokevirtual 73, 3) := by decide +kernel
theorem dX5_copy_81 : decode cX5_copy 81 = .ok (.ifCond .eq 10, 3) := by decide +kernel
theorem dX5_copy_84 : decode cX5_copy 84 = .ok (.aload_n 0, 1) := by decide +kernel
theorem dX5_copy_85 : decode cX5_copy 85 = .ok (.bipush (-4), 2) := by decide +kernel
theorem dX5_copy_87 : decode cX5_copy 87 = .ok (.invokevirtual 62, 3) := by decide +kernel
theorem dX5_copy_90 : decode cX5_copy 90 = .ok (.ireturn, 1) := by decide +kernel
theorem dX5_copy_91 : decode cX5_copy 91 = .ok (.aload_n 0, 1) := by decide +kernel
theorem dX5_copy_92 : decode cX5_copy 92 = .ok (.getfield 25, 3) := by decide +kernel
theorem dX5_copy_95 : decode cX5_copy 95 = .ok (.iload_n 1, 1) := by decide +kernel
theorem dX5_copy_96 : decode cX5_copy 96 = .ok (.iload_n 3, 1) := by decide +kernel
theorem dX5_copy_97 : decode cX5_copy 97 = .ok (.iload 5, 2) := by decide +kernel
theorem dX5_copy_99 : decode cX5_copy 99 = .ok (.invokevirtual 76, 3) := by decide +kernel
theorem dX5_copy_102 : decode cX5_copy 102 = .ok (.ifCond .eq 18, 3) := by decide +kernel
theorem dX5_copy_105 : decode cX5_copy 105 = .ok (.aload_n 0, 1) := by decide +kernel
theorem dX5_copy_106 : decode cX5_copy 106 = .ok (.getfield 25, 3) := by decide +kernel
theorem dX5_copy_109 : decode cX5_copy 109 = .ok (.iload_n 2, 1) := by decide +kernel
theorem dX5_copy_110 : decode cX5_copy 110 = .ok (.iload 4, 2) := by decide +kernel
theorem dX5_copy_112 : decode cX5_copy 112 = .ok (.iload 5, 2) := by decide +kernel
theorem dX5_copy_114 : decode cX5_copy 114 = .ok (.invokevirtual 76, 3) := by decide +kernel
theorem dX5_copy_117 : decode cX5_copy 117 = .ok (.ifCond .ne 10, 3) := by decide +kernel
theorem dX5_copy_120 : decode cX5_copy 120 = .ok (.aload_n 0, 1) := by decide +kernel
theorem dX5_copy_121 : decode cX5_copy 121 = .ok (.bipush (-2), 2) := by decide +kernel
theorem dX5_copy_123 : decode cX5_copy 123 = .ok (.invokevirtual 62, 3) := by decide +kernel
theorem dX5_copy_126 : decode cX5_copy 126 = .ok (.ireturn, 1) := by decide +kernel
theorem dX5_copy_127 : decode cX5_copy 127 = .ok (.aload_n 0, 1) := by decide +kernel
theorem dX5_copy_128 : decode cX5_copy 128 = .ok (.getfield 25, 3) := by decide +kernel
theorem dX5_copy_131 : decode cX5_copy 131 = .ok (.iload_n 1, 1) := by decide +kernel
theorem dX5_copy_132 : decode cX5_copy 132 = .ok (.iload_n 2, 1) := by decide +kernel
theorem dX5_copy_133 : decode cX5_copy 133 = .ok (.iload_n 3, 1) := by decide +kernel
theorem dX5_copy_134 : decode cX5_copy 134 = .ok (.iload 4, 2) := by decide +kernel
theorem dX5_copy_136 : decode cX5_copy 136 = .ok (.iload 5, 2) := by decide +kernel
theorem dX5_copy_138 : decode cX5_copy 138 = .ok (.invokevirtual 88, 3) := by decide +kernel
theorem dX5_copy_141 : decode cX5_copy 141 = .ok (.iload 5, 2) := by decide +kernel
theorem dX5_copy_143 : decode cX5_copy 143 = .ok (.ireturn, 1) := by decide +kernel
theorem dX5_element_0 : decode cX5_element 0 = .ok (.aload_n 0, 1) := by decide +kernel
theorem dX5_element_1 : decode cX5_element 1 = .ok (.getfield 25, 3) := by decide +kernel
theorem dX5_element_4 : decode cX5_element 4 = .ok (.iload_n 1, 1) := by decide +kernel
theorem dX5_element_5 : decode cX5_element 5 = .ok (.iload_n 2, 1) := by decide +kernel
theorem dX5_element_6 : decode cX5_element 6 = .ok (.invokevirtual 92, 3) := by decide +kernel
theorem dX5_element_9 : decode cX5_element 9 = .ok (.lreturn, 1) := by decide +kernel
theorem dX5_holds_0 : decode cX5_holds 0 = .ok (.aload_n 0, 1) := by decide +kernel
theorem dX5_holds_1 : decode cX5_holds 1 = .ok (.getfield 25, 3) := by decide +kernel
theorem dX5_holds_4 : decode cX5_holds 4 = .ok (.iload_n 1, 1) := by decide +kernel
theorem dX5_holds_5 : decode cX5_holds 5 = .ok (.invokevirtual 96, 3) := by decide +kernel
theorem dX5_holds_8 : decode cX5_holds 8 = .ok (.ireturn, 1) := by decide +kernel
theorem dX5_show_0 : decode cX5_show 0 = .ok (.iload_n 1, 1) := by decide +kernel
theorem dX5_show_1 : decode cX5_show 1 = .ok (.invokestatic 58, 3) := by decide +kernel
theorem dX5_show_4 : decode cX5_show 4 = .ok (.ifCond .eq 19, 3) := by decide +kernel
theorem dX5_show_7 : decode cX5_show 7 = .ok (.iload_n 2, 1) := by decide +kernel
theorem dX5_show_8 : decode cX5_show 8 = .ok (.iconst (-1), 1) := by decide +kernel
theorem dX5_show_9 : decode cX5_show 9 = .ok (.if_icmp .eq 21, 3) := by decide +kernel
theorem dX5_show_12 : decode cX5_show 12 = .ok (.aload_n 0, 1) := by decide +kernel
theorem dX5_show_13 : decode cX5_show 13 = .ok (.getfield 12, 3) := by decide +kernel
theorem dX5_show_16 : decode cX5_show 16 = .ok (.iload_n 2, 1) := by decide +kernel
theorem dX5_show_17 : decode cX5_show 17 = .ok (.invokevirtual 99, 3) := by decide +kernel
theorem dX5_show_20 : decode cX5_show 20 = .ok (.ifCond .ne 10, 3) := by decide +kernel
theorem dX5_show_23 : decode cX5_show 23 = .ok (.aload_n 0, 1) := by decide +kernel
theorem dX5_show_24 : decode cX5_show 24 = .ok (.bipush (-2), 2) := by decide +kernel
theorem dX5_show_26 : decode cX5_show 26 = .ok (.invokevirtual 62, 3) := by decide +kernel
theorem dX5_show_29 : decode cX5_show 29 = .ok (.ireturn, 1) := by decide +kernel
theorem dX5_show_30 : decode cX5_show 30 = .ok (.iload_n 2, 1) := by decide +kernel
theorem dX5_show_31 : decode cX5_show 31 = .ok (.iconst (-1), 1) := by decide +kernel
theorem dX5_show_32 : decode cX5_show 32 = .ok (.if_icmp .ne 14, 3) := by decide +kernel
theorem dX5_show_35 : decode cX5_show 35 = .ok (.aload_n 0, 1) := by decide +kernel
theorem dX5_show_36 : decode cX5_show 36 = .ok (.getfield 25, 3) := by decide +kernel
theorem dX5_show_39 : decode cX5_show 39 = .ok (.iload_n 1, 1) := by decide +kernel
theorem dX5_show_40 : decode cX5_show 40 = .ok (.invokevirtual 102, 3) := by decide +kernel
theorem dX5_show_43 : decode cX5_show 43 = .ok (.goto 12, 3) := by decide +kernel
theorem dX5_show_46 : decode cX5_show 46 = .ok (.aload_n 0, 1) := by decide +kernel
theorem dX5_show_47 : decode cX5_show 47 = .ok (.getfield 25, 3) := by decide +kernel
theorem dX5_show_50 : decode cX5_show 50 = .ok (.iload_n 1, 1) := by decide +kernel
theorem dX5_show_51 : decode cX5_show 51 = .ok (.iload_n 2, 1) := by decide +kernel
theorem dX5_show_52 : decode cX5_show 52 = .ok (.invokevirtual 106, 3) := by decide +kernel
theorem dX5_show_55 : decode cX5_show 55 = .ok (.iconst 1, 1) := by decide +kernel
theorem dX5_show_56 : decode cX5_show 56 = .ok (.ireturn, 1) := by decide +kernel
theorem dX5_says_0 : decode cX5_says 0 = .ok (.iload_n 1, 1) := by decide +kernel
theorem dX5_says_1 : decode cX5_says 1 = .ok (.invokestatic 58, 3) := by decide +kernel
theorem dX5_says_4 : decode cX5_says 4 = .ok (.ifCond .eq 12, 3) := by decide +kernel
theorem dX5_says_7 : decode cX5_says 7 = .ok (.iload_n 2, 1) := by decide +kernel
theorem dX5_says_8 : decode cX5_says 8 = .ok (.ifCond .lt 8, 3) := by decide +kernel
theorem dX5_says_11 : decode cX5_says 11 = .ok (.iload_n 2, 1) := by decide +kernel
theorem dX5_says_12 : decode cX5_says 12 = .ok (.iconst 5, 1) := by decide +kernel
theorem dX5_says_13 : decode cX5_says 13 = .ok (.if_icmp .le 10, 3) := by decide +kernel
theorem dX5_says_16 : decode cX5_says 16 = .ok (.aload_n 0, 1) := by decide +kernel
theorem dX5_says_17 : decode cX5_says 17 = .ok (.bipush (-2), 2) := by decide +kernel
theorem dX5_says_19 : decode cX5_says 19 = .ok (.invokevirtual 62, 3) := by decide +kernel
theorem dX5_says_22 : decode cX5_says 22 = .ok (.ireturn, 1) := by decide +kernel
theorem dX5_says_23 : decode cX5_says 23 = .ok (.aload_n 0, 1) := by decide +kernel
theorem dX5_says_24 : decode cX5_says 24 = .ok (.getfield 25, 3) := by decide +kernel
theorem dX5_says_27 : decode cX5_says 27 = .ok (.iload_n 1, 1) := by decide +kernel
theorem dX5_says_28 : decode cX5_says 28 = .ok (.invokevirtual 110, 3) := by decide +kernel
theorem dX5_says_31 : decode cX5_says 31 = .ok (.istore_n 3, 1) := by decide +kernel
theorem dX5_says_32 : decode cX5_says 32 = .ok (.aload_n 0, 1) := by decide +kernel
theorem dX5_says_33 : decode cX5_says 33 = .ok (.getfield 25, 3) := by decide +kernel
theorem dX5_says_36 : decode cX5_says 36 = .ok (.iload_n 1, 1) := by decide +kernel
theorem dX5_says_37 : decode cX5_says 37 = .ok (.invokevirtual 113, 3) := by decide +kernel
theorem dX5_says_40 : decode cX5_says 40 = .ok (.ifCond .ne 23, 3) := by decide +kernel
theorem dX5_says_43 : decode cX5_says 43 = .ok (.iload_n 3, 1) := by decide +kernel
theorem dX5_says_44 : decode cX5_says 44 = .ok (.iconst (-1), 1) := by decide +kernel
theorem dX5_says_45 : decode cX5_says 45 = .ok (.if_icmp .eq 25, 3) := by decide +kernel
theorem dX5_says_48 : decode cX5_says 48 = .ok (.aload_n 0, 1) := by decide +kernel
theorem dX5_says_49 : decode cX5_says 49 = .ok (.getfield 12, 3) := by decide +kernel
theorem dX5_says_52 : decode cX5_says 52 = .ok (.iload_n 3, 1) := by decide +kernel
theorem dX5_says_53 : decode cX5_says 53 = .ok (.invokevirtual 116, 3) := by decide +kernel
theorem dX5_says_56 : decode cX5_says 56 = .ok (.iload_n 2, 1) := by decide +kernel
theorem dX5_says_57 : decode cX5_says 57 = .ok (.invokestatic 119, 3) := by decide +kernel
theorem dX5_says_60 : decode cX5_says 60 = .ok (.ifCond .ne 10, 3) := by decide +kernel
theorem dX5_says_63 : decode cX5_says 63 = .ok (.aload_n 0, 1) := by decide +kernel
theorem dX5_says_64 : decode cX5_says 64 = .ok (.bipush (-3), 2) := by decide +kernel
theorem dX5_says_66 : decode cX5_says 66 = .ok (.invokevirtual 62, 3) := by decide +kernel
theorem dX5_says_69 : decode cX5_says 69 = .ok (.ireturn, 1) := by decide +kernel
theorem dX5_says_70 : decode cX5_says 70 = .ok (.aload_n 0, 1) := by decide +kernel
theorem dX5_says_71 : decode cX5_says 71 = .ok (.getfield 12, 3) := by decide +kernel
theorem dX5_says_74 : decode cX5_says 74 = .ok (.iload_n 3, 1) := by decide +kernel
theorem dX5_says_75 : decode cX5_says 75 = .ok (.invokevirtual 99, 3) := by decide +kernel
theorem dX5_says_78 : decode cX5_says 78 = .ok (.ifCond .ne 10, 3) := by decide +kernel
theorem dX5_says_81 : decode cX5_says 81 = .ok (.aload_n 0, 1) := by decide +kernel
theorem dX5_says_82 : decode cX5_says 82 = .ok (.bipush (-4), 2) := by decide +kernel
theorem dX5_says_84 : decode cX5_says 84 = .ok (.invokevirtual 62, 3) := by decide +kernel
theorem dX5_says_87 : decode cX5_says 87 = .ok (.ireturn, 1) := by decide +kernel
theorem dX5_says_88 : decode cX5_says 88 = .ok (.aload_n 0, 1) := by decide +kernel
theorem dX5_says_89 : decode cX5_says 89 = .ok (.iload_n 3, 1) := by decide +kernel
theorem dX5_says_90 : decode cX5_says 90 = .ok (.iload_n 2, 1) := by decide +kernel
theorem dX5_says_91 : decode cX5_says 91 = .ok (.aload_n 0, 1) := by decide +kernel
