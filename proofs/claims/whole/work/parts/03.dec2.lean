theorem dX5_says_92 : decode cX5_says 92 = .ok (.getfield 12, 3) := by decide +kernel
theorem dX5_says_95 : decode cX5_says 95 = .ok (.iload_n 3, 1) := by decide +kernel
theorem dX5_says_96 : decode cX5_says 96 = .ok (.invokevirtual 122, 3) := by decide +kernel
theorem dX5_says_99 : decode cX5_says 99 = .ok (.invokevirtual 125, 3) := by decide +kernel
theorem dX5_says_102 : decode cX5_says 102 = .ok (.ireturn, 1) := by decide +kernel
theorem dX5_sayingOf_0 : decode cX5_sayingOf 0 = .ok (.iload_n 2, 1) := by decide +kernel
theorem dX5_sayingOf_1 : decode cX5_sayingOf 1 = .ok (.tableswitch 101 1 5 #[35, 70, 78, 87, 92], 35) := by decide +kernel
theorem dX5_sayingOf_36 : decode cX5_sayingOf 36 = .ok (.aload_n 0, 1) := by decide +kernel
theorem dX5_sayingOf_37 : decode cX5_sayingOf 37 = .ok (.getfield 12, 3) := by decide +kernel
theorem dX5_sayingOf_40 : decode cX5_sayingOf 40 = .ok (.iload_n 1, 1) := by decide +kernel
theorem dX5_sayingOf_41 : decode cX5_sayingOf 41 = .ok (.invokevirtual 116, 3) := by decide +kernel
theorem dX5_sayingOf_44 : decode cX5_sayingOf 44 = .ok (.iconst 4, 1) := by decide +kernel
theorem dX5_sayingOf_45 : decode cX5_sayingOf 45 = .ok (.if_icmp .ne 19, 3) := by decide +kernel
theorem dX5_sayingOf_48 : decode cX5_sayingOf 48 = .ok (.iload_n 3, 1) := by decide +kernel
theorem dX5_sayingOf_49 : decode cX5_sayingOf 49 = .ok (.aload_n 0, 1) := by decide +kernel
theorem dX5_sayingOf_50 : decode cX5_sayingOf 50 = .ok (.getfield 12, 3) := by decide +kernel
theorem dX5_sayingOf_53 : decode cX5_sayingOf 53 = .ok (.iload_n 1, 1) := by decide +kernel
theorem dX5_sayingOf_54 : decode cX5_sayingOf 54 = .ok (.invokevirtual 129, 3) := by decide +kernel
theorem dX5_sayingOf_57 : decode cX5_sayingOf 57 = .ok (.invokestatic 132, 3) := by decide +kernel
theorem dX5_sayingOf_60 : decode cX5_sayingOf 60 = .ok (.i2l, 1) := by decide +kernel
theorem dX5_sayingOf_61 : decode cX5_sayingOf 61 = .ok (.goto 5, 3) := by decide +kernel
theorem dX5_sayingOf_64 : decode cX5_sayingOf 64 = .ok (.iload_n 3, 1) := by decide +kernel
theorem dX5_sayingOf_65 : decode cX5_sayingOf 65 = .ok (.i2l, 1) := by decide +kernel
theorem dX5_sayingOf_66 : decode cX5_sayingOf 66 = .ok (.invokestatic 136, 3) := by decide +kernel
theorem dX5_sayingOf_69 : decode cX5_sayingOf 69 = .ok (.l2i, 1) := by decide +kernel
theorem dX5_sayingOf_70 : decode cX5_sayingOf 70 = .ok (.ireturn, 1) := by decide +kernel
theorem dX5_sayingOf_71 : decode cX5_sayingOf 71 = .ok (.aload_n 0, 1) := by decide +kernel
theorem dX5_sayingOf_72 : decode cX5_sayingOf 72 = .ok (.iload_n 1, 1) := by decide +kernel
theorem dX5_sayingOf_73 : decode cX5_sayingOf 73 = .ok (.iload_n 3, 1) := by decide +kernel
theorem dX5_sayingOf_74 : decode cX5_sayingOf 74 = .ok (.iconst 0, 1) := by decide +kernel
theorem dX5_sayingOf_75 : decode cX5_sayingOf 75 = .ok (.invokevirtual 140, 3) := by decide +kernel
theorem dX5_sayingOf_78 : decode cX5_sayingOf 78 = .ok (.ireturn, 1) := by decide +kernel
theorem dX5_sayingOf_79 : decode cX5_sayingOf 79 = .ok (.aload_n 0, 1) := by decide +kernel
theorem dX5_sayingOf_80 : decode cX5_sayingOf 80 = .ok (.iload_n 1, 1) := by decide +kernel
theorem dX5_sayingOf_81 : decode cX5_sayingOf 81 = .ok (.invokevirtual 143, 3) := by decide +kernel
theorem dX5_sayingOf_84 : decode cX5_sayingOf 84 = .ok (.invokestatic 146, 3) := by decide +kernel
theorem dX5_sayingOf_87 : decode cX5_sayingOf 87 = .ok (.ireturn, 1) := by decide +kernel
theorem dX5_sayingOf_88 : decode cX5_sayingOf 88 = .ok (.iload_n 3, 1) := by decide +kernel
theorem dX5_sayingOf_89 : decode cX5_sayingOf 89 = .ok (.invokestatic 151, 3) := by decide +kernel
theorem dX5_sayingOf_92 : decode cX5_sayingOf 92 = .ok (.ireturn, 1) := by decide +kernel
theorem dX5_sayingOf_93 : decode cX5_sayingOf 93 = .ok (.aload_n 0, 1) := by decide +kernel
theorem dX5_sayingOf_94 : decode cX5_sayingOf 94 = .ok (.getfield 12, 3) := by decide +kernel
theorem dX5_sayingOf_97 : decode cX5_sayingOf 97 = .ok (.iload_n 1, 1) := by decide +kernel
theorem dX5_sayingOf_98 : decode cX5_sayingOf 98 = .ok (.invokevirtual 154, 3) := by decide +kernel
theorem dX5_sayingOf_101 : decode cX5_sayingOf 101 = .ok (.ireturn, 1) := by decide +kernel
theorem dX5_sayingOf_102 : decode cX5_sayingOf 102 = .ok (.iload_n 3, 1) := by decide +kernel
theorem dX5_sayingOf_103 : decode cX5_sayingOf 103 = .ok (.invokestatic 146, 3) := by decide +kernel
theorem dX5_sayingOf_106 : decode cX5_sayingOf 106 = .ok (.ireturn, 1) := by decide +kernel
theorem dX5_bar_0 : decode cX5_bar 0 = .ok (.iload_n 1, 1) := by decide +kernel
theorem dX5_bar_1 : decode cX5_bar 1 = .ok (.ifCond .lt 19, 3) := by decide +kernel
theorem dX5_bar_4 : decode cX5_bar 4 = .ok (.iload_n 1, 1) := by decide +kernel
theorem dX5_bar_5 : decode cX5_bar 5 = .ok (.iconst 5, 1) := by decide +kernel
theorem dX5_bar_6 : decode cX5_bar 6 = .ok (.if_icmp .gt 14, 3) := by decide +kernel
theorem dX5_bar_9 : decode cX5_bar 9 = .ok (.iload_n 2, 1) := by decide +kernel
theorem dX5_bar_10 : decode cX5_bar 10 = .ok (.iconst 1, 1) := by decide +kernel
theorem dX5_bar_11 : decode cX5_bar 11 = .ok (.if_icmp .lt 9, 3) := by decide +kernel
theorem dX5_bar_14 : decode cX5_bar 14 = .ok (.iload_n 2, 1) := by decide +kernel
theorem dX5_bar_15 : decode cX5_bar 15 = .ok (.bipush 10, 2) := by decide +kernel
theorem dX5_bar_17 : decode cX5_bar 17 = .ok (.if_icmp .le 10, 3) := by decide +kernel
theorem dX5_bar_20 : decode cX5_bar 20 = .ok (.aload_n 0, 1) := by decide +kernel
theorem dX5_bar_21 : decode cX5_bar 21 = .ok (.bipush (-2), 2) := by decide +kernel
theorem dX5_bar_23 : decode cX5_bar 23 = .ok (.invokevirtual 62, 3) := by decide +kernel
theorem dX5_bar_26 : decode cX5_bar 26 = .ok (.ireturn, 1) := by decide +kernel
theorem dX5_bar_27 : decode cX5_bar 27 = .ok (.aload_n 0, 1) := by decide +kernel
theorem dX5_bar_28 : decode cX5_bar 28 = .ok (.getfield 12, 3) := by decide +kernel
theorem dX5_bar_31 : decode cX5_bar 31 = .ok (.invokevirtual 157, 3) := by decide +kernel
theorem dX5_bar_34 : decode cX5_bar 34 = .ok (.ifCond .eq 10, 3) := by decide +kernel
theorem dX5_bar_37 : decode cX5_bar 37 = .ok (.aload_n 0, 1) := by decide +kernel
theorem dX5_bar_38 : decode cX5_bar 38 = .ok (.bipush (-6), 2) := by decide +kernel
theorem dX5_bar_40 : decode cX5_bar 40 = .ok (.invokevirtual 62, 3) := by decide +kernel
theorem dX5_bar_43 : decode cX5_bar 43 = .ok (.ireturn, 1) := by decide +kernel
theorem dX5_bar_44 : decode cX5_bar 44 = .ok (.aload_n 0, 1) := by decide +kernel
theorem dX5_bar_45 : decode cX5_bar 45 = .ok (.getfield 12, 3) := by decide +kernel
theorem dX5_bar_48 : decode cX5_bar 48 = .ok (.iload_n 1, 1) := by decide +kernel
theorem dX5_bar_49 : decode cX5_bar 49 = .ok (.iload_n 2, 1) := by decide +kernel
theorem dX5_bar_50 : decode cX5_bar 50 = .ok (.invokevirtual 161, 3) := by decide +kernel
theorem dX5_bar_53 : decode cX5_bar 53 = .ok (.ireturn, 1) := by decide +kernel
theorem dX5_put_0 : decode cX5_put 0 = .ok (.aload_n 0, 1) := by decide +kernel
theorem dX5_put_1 : decode cX5_put 1 = .ok (.getfield 12, 3) := by decide +kernel
theorem dX5_put_4 : decode cX5_put 4 = .ok (.iload_n 1, 1) := by decide +kernel
theorem dX5_put_5 : decode cX5_put 5 = .ok (.iload_n 2, 1) := by decide +kernel
theorem dX5_put_6 : decode cX5_put 6 = .ok (.i2l, 1) := by decide +kernel
theorem dX5_put_7 : decode cX5_put 7 = .ok (.invokevirtual 164, 3) := by decide +kernel
theorem dX5_put_10 : decode cX5_put 10 = .ok (.ifCond .ne 10, 3) := by decide +kernel
theorem dX5_put_13 : decode cX5_put 13 = .ok (.aload_n 0, 1) := by decide +kernel
theorem dX5_put_14 : decode cX5_put 14 = .ok (.bipush (-2), 2) := by decide +kernel
theorem dX5_put_16 : decode cX5_put 16 = .ok (.invokevirtual 62, 3) := by decide +kernel
theorem dX5_put_19 : decode cX5_put 19 = .ok (.ireturn, 1) := by decide +kernel
theorem dX5_put_20 : decode cX5_put 20 = .ok (.aload_n 0, 1) := by decide +kernel
theorem dX5_put_21 : decode cX5_put 21 = .ok (.getfield 12, 3) := by decide +kernel
theorem dX5_put_24 : decode cX5_put 24 = .ok (.iload_n 1, 1) := by decide +kernel
theorem dX5_put_25 : decode cX5_put 25 = .ok (.invokevirtual 122, 3) := by decide +kernel
theorem dX5_put_28 : decode cX5_put 28 = .ok (.istore_n 3, 1) := by decide +kernel
theorem dX5_put_29 : decode cX5_put 29 = .ok (.aload_n 0, 1) := by decide +kernel
theorem dX5_put_30 : decode cX5_put 30 = .ok (.getfield 12, 3) := by decide +kernel
theorem dX5_put_33 : decode cX5_put 33 = .ok (.iload_n 1, 1) := by decide +kernel
theorem dX5_put_34 : decode cX5_put 34 = .ok (.iload_n 2, 1) := by decide +kernel
theorem dX5_put_35 : decode cX5_put 35 = .ok (.invokevirtual 168, 3) := by decide +kernel
theorem dX5_put_38 : decode cX5_put 38 = .ok (.iload_n 3, 1) := by decide +kernel
theorem dX5_put_39 : decode cX5_put 39 = .ok (.ireturn, 1) := by decide +kernel
theorem dX5_stick_0 : decode cX5_stick 0 = .ok (.aload_n 0, 1) := by decide +kernel
theorem dX5_stick_1 : decode cX5_stick 1 = .ok (.getfield 12, 3) := by decide +kernel
theorem dX5_stick_4 : decode cX5_stick 4 = .ok (.iload_n 1, 1) := by decide +kernel
theorem dX5_stick_5 : decode cX5_stick 5 = .ok (.iload_n 2, 1) := by decide +kernel
theorem dX5_stick_6 : decode cX5_stick 6 = .ok (.i2l, 1) := by decide +kernel
theorem dX5_stick_7 : decode cX5_stick 7 = .ok (.invokevirtual 164, 3) := by decide +kernel
theorem dX5_stick_10 : decode cX5_stick 10 = .ok (.ifCond .ne 10, 3) := by decide +kernel
theorem dX5_stick_13 : decode cX5_stick 13 = .ok (.aload_n 0, 1) := by decide +kernel
theorem dX5_stick_14 : decode cX5_stick 14 = .ok (.bipush (-2), 2) := by decide +kernel
theorem dX5_stick_16 : decode cX5_stick 16 = .ok (.invokevirtual 62, 3) := by decide +kernel
theorem dX5_stick_19 : decode cX5_stick 19 = .ok (.ireturn, 1) := by decide +kernel
theorem dX5_stick_20 : decode cX5_stick 20 = .ok (.aload_n 0, 1) := by decide +kernel
theorem dX5_stick_21 : decode cX5_stick 21 = .ok (.getfield 12, 3) := by decide +kernel
theorem dX5_stick_24 : decode cX5_stick 24 = .ok (.iload_n 1, 1) := by decide +kernel
theorem dX5_stick_25 : decode cX5_stick 25 = .ok (.invokevirtual 171, 3) := by decide +kernel
theorem dX5_stick_28 : decode cX5_stick 28 = .ok (.istore_n 3, 1) := by decide +kernel
theorem dX5_stick_29 : decode cX5_stick 29 = .ok (.aload_n 0, 1) := by decide +kernel
theorem dX5_stick_30 : decode cX5_stick 30 = .ok (.getfield 12, 3) := by decide +kernel
theorem dX5_stick_33 : decode cX5_stick 33 = .ok (.iload_n 1, 1) := by decide +kernel
theorem dX5_stick_34 : decode cX5_stick 34 = .ok (.iload_n 2, 1) := by decide +kernel
theorem dX5_stick_35 : decode cX5_stick 35 = .ok (.invokevirtual 174, 3) := by decide +kernel
theorem dX5_stick_38 : decode cX5_stick 38 = .ok (.iload_n 3, 1) := by decide +kernel
theorem dX5_stick_39 : decode cX5_stick 39 = .ok (.ireturn, 1) := by decide +kernel
theorem dX5_table_0 : decode cX5_table 0 = .ok (.aload_n 0, 1) := by decide +kernel
theorem dX5_table_1 : decode cX5_table 1 = .ok (.getfield 12, 3) := by decide +kernel
theorem dX5_table_4 : decode cX5_table 4 = .ok (.iload_n 1, 1) := by decide +kernel
theorem dX5_table_5 : decode cX5_table 5 = .ok (.iload_n 2, 1) := by decide +kernel
theorem dX5_table_6 : decode cX5_table 6 = .ok (.invokevirtual 177, 3) := by decide +kernel
theorem dX5_table_9 : decode cX5_table 9 = .ok (.ifCond .eq 30, 3) := by decide +kernel
theorem dX5_table_12 : decode cX5_table 12 = .ok (.aload_n 0, 1) := by decide +kernel
theorem dX5_table_13 : decode cX5_table 13 = .ok (.getfield 12, 3) := by decide +kernel
theorem dX5_table_16 : decode cX5_table 16 = .ok (.iload_n 1, 1) := by decide +kernel
theorem dX5_table_17 : decode cX5_table 17 = .ok (.iload_n 3, 1) := by decide +kernel
theorem dX5_table_18 : decode cX5_table 18 = .ok (.i2l, 1) := by decide +kernel
theorem dX5_table_19 : decode cX5_table 19 = .ok (.invokevirtual 164, 3) := by decide +kernel
theorem dX5_table_22 : decode cX5_table 22 = .ok (.ifCond .eq 17, 3) := by decide +kernel
theorem dX5_table_25 : decode cX5_table 25 = .ok (.aload_n 0, 1) := by decide +kernel
theorem dX5_table_26 : decode cX5_table 26 = .ok (.getfield 12, 3) := by decide +kernel
theorem dX5_table_29 : decode cX5_table 29 = .ok (.iload_n 1, 1) := by decide +kernel
theorem dX5_table_30 : decode cX5_table 30 = .ok (.iload 4, 2) := by decide +kernel
theorem dX5_table_32 : decode cX5_table 32 = .ok (.i2l, 1) := by decide +kernel
theorem dX5_table_33 : decode cX5_table 33 = .ok (.invokevirtual 164, 3) := by decide +kernel
theorem dX5_table_36 : decode cX5_table 36 = .ok (.ifCond .ne 10, 3) := by decide +kernel
theorem dX5_table_39 : decode cX5_table 39 = .ok (.aload_n 0, 1) := by decide +kernel
theorem dX5_table_40 : decode cX5_table 40 = .ok (.bipush (-2), 2) := by decide +kernel
theorem dX5_table_42 : decode cX5_table 42 = .ok (.invokevirtual 62, 3) := by decide +kernel
theorem dX5_table_45 : decode cX5_table 45 = .ok (.ireturn, 1) := by decide +kernel
theorem dX5_table_46 : decode cX5_table 46 = .ok (.aload_n 0, 1) := by decide +kernel
theorem dX5_table_47 : decode cX5_table 47 = .ok (.getfield 12, 3) := by decide +kernel
theorem dX5_table_50 : decode cX5_table 50 = .ok (.iload_n 1, 1) := by decide +kernel
theorem dX5_table_51 : decode cX5_table 51 = .ok (.invokevirtual 116, 3) := by decide +kernel
theorem dX5_table_54 : decode cX5_table 54 = .ok (.iconst 5, 1) := by decide +kernel
theorem dX5_table_55 : decode cX5_table 55 = .ok (.if_icmp .eq 10, 3) := by decide +kernel
theorem dX5_table_58 : decode cX5_table 58 = .ok (.aload_n 0, 1) := by decide +kernel
theorem dX5_table_59 : decode cX5_table 59 = .ok (.bipush (-5), 2) := by decide +kernel
theorem dX5_table_61 : decode cX5_table 61 = .ok (.invokevirtual 62, 3) := by decide +kernel
theorem dX5_table_64 : decode cX5_table 64 = .ok (.ireturn, 1) := by decide +kernel
theorem dX5_table_65 : decode cX5_table 65 = .ok (.aload_n 0, 1) := by decide +kernel
theorem dX5_table_66 : decode cX5_table 66 = .ok (.getfield 12, 3) := by decide +kernel
theorem dX5_table_69 : decode cX5_table 69 = .ok (.iload_n 1, 1) := by decide +kernel
theorem dX5_table_70 : decode cX5_table 70 = .ok (.iload_n 2, 1) := by decide +kernel
theorem dX5_table_71 : decode cX5_table 71 = .ok (.iload_n 3, 1) := by decide +kernel
theorem dX5_table_72 : decode cX5_table 72 = .ok (.iload 4, 2) := by decide +kernel
theorem dX5_table_74 : decode cX5_table 74 = .ok (.invokevirtual 180, 3) := by decide +kernel
theorem dX5_table_77 : decode cX5_table 77 = .ok (.iconst 1, 1) := by decide +kernel
theorem dX5_table_78 : decode cX5_table 78 = .ok (.ireturn, 1) := by decide +kernel
theorem dX5_minutes_0 : decode cX5_minutes 0 = .ok (.iload_n 1, 1) := by decide +kernel
theorem dX5_minutes_1 : decode cX5_minutes 1 = .ok (.ifCond .lt 19, 3) := by decide +kernel
theorem dX5_minutes_4 : decode cX5_minutes 4 = .ok (.iload_n 1, 1) := by decide +kernel
theorem dX5_minutes_5 : decode cX5_minutes 5 = .ok (.bipush 10, 2) := by decide +kernel
theorem dX5_minutes_7 : decode cX5_minutes 7 = .ok (.if_icmp .ge 13, 3) := by decide +kernel
theorem dX5_minutes_10 : decode cX5_minutes 10 = .ok (.iload_n 2, 1) := by decide +kernel
theorem dX5_minutes_11 : decode cX5_minutes 11 = .ok (.ifCond .lt 9, 3) := by decide +kernel
theorem dX5_minutes_14 : decode cX5_minutes 14 = .ok (.iload_n 2, 1) := by decide +kernel
theorem dX5_minutes_15 : decode cX5_minutes 15 = .ok (.bipush 99, 2) := by decide +kernel
theorem dX5_minutes_17 : decode cX5_minutes 17 = .ok (.if_icmp .le 10, 3) := by decide +kernel
theorem dX5_minutes_20 : decode cX5_minutes 20 = .ok (.aload_n 0, 1) := by decide +kernel
theorem dX5_minutes_21 : decode cX5_minutes 21 = .ok (.bipush (-2), 2) := by decide +kernel
theorem dX5_minutes_23 : decode cX5_minutes 23 = .ok (.invokevirtual 62, 3) := by decide +kernel
theorem dX5_minutes_26 : decode cX5_minutes 26 = .ok (.ireturn, 1) := by decide +kernel
theorem dX5_minutes_27 : decode cX5_minutes 27 = .ok (.aload_n 0, 1) := by decide +kernel
theorem dX5_minutes_28 : decode cX5_minutes 28 = .ok (.getfield 12, 3) := by decide +kernel
theorem dX5_minutes_31 : decode cX5_minutes 31 = .ok (.iload_n 1, 1) := by decide +kernel
theorem dX5_minutes_32 : decode cX5_minutes 32 = .ok (.invokevirtual 184, 3) := by decide +kernel
theorem dX5_minutes_35 : decode cX5_minutes 35 = .ok (.istore_n 3, 1) := by decide +kernel
theorem dX5_minutes_36 : decode cX5_minutes 36 = .ok (.aload_n 0, 1) := by decide +kernel
theorem dX5_minutes_37 : decode cX5_minutes 37 = .ok (.getfield 12, 3) := by decide +kernel
theorem dX5_minutes_40 : decode cX5_minutes 40 = .ok (.iload_n 1, 1) := by decide +kernel
theorem dX5_minutes_41 : decode cX5_minutes 41 = .ok (.iload_n 2, 1) := by decide +kernel
theorem dX5_minutes_42 : decode cX5_minutes 42 = .ok (.invokevirtual 187, 3) := by decide +kernel
theorem dX5_minutes_45 : decode cX5_minutes 45 = .ok (.iload_n 3, 1) := by decide +kernel
theorem dX5_minutes_46 : decode cX5_minutes 46 = .ok (.ireturn, 1) := by decide +kernel
theorem dX5_barOf_0 : decode cX5_barOf 0 = .ok (.aload_n 0, 1) := by decide +kernel
theorem dX5_barOf_1 : decode cX5_barOf 1 = .ok (.getfield 12, 3) := by decide +kernel
theorem dX5_barOf_4 : decode cX5_barOf 4 = .ok (.iload_n 1, 1) := by decide +kernel
theorem dX5_barOf_5 : decode cX5_barOf 5 = .ok (.invokevirtual 99, 3) := by decide +kernel
theorem dX5_barOf_8 : decode cX5_barOf 8 = .ok (.ifCond .ne 10, 3) := by decide +kernel
theorem dX5_barOf_11 : decode cX5_barOf 11 = .ok (.aload_n 0, 1) := by decide +kernel
theorem dX5_barOf_12 : decode cX5_barOf 12 = .ok (.bipush (-2), 2) := by decide +kernel
theorem dX5_barOf_14 : decode cX5_barOf 14 = .ok (.invokevirtual 62, 3) := by decide +kernel
theorem dX5_barOf_17 : decode cX5_barOf 17 = .ok (.ireturn, 1) := by decide +kernel
theorem dX5_barOf_18 : decode cX5_barOf 18 = .ok (.iload_n 2, 1) := by decide +kernel
theorem dX5_barOf_19 : decode cX5_barOf 19 = .ok (.tableswitch 65 0 3 #[29, 38, 47, 56], 29) := by decide +kernel
theorem dX5_barOf_48 : decode cX5_barOf 48 = .ok (.aload_n 0, 1) := by decide +kernel
theorem dX5_barOf_49 : decode cX5_barOf 49 = .ok (.getfield 12, 3) := by decide +kernel
theorem dX5_barOf_52 : decode cX5_barOf 52 = .ok (.iload_n 1, 1) := by decide +kernel
theorem dX5_barOf_53 : decode cX5_barOf 53 = .ok (.invokevirtual 116, 3) := by decide +kernel
theorem dX5_barOf_56 : decode cX5_barOf 56 = .ok (.ireturn, 1) := by decide +kernel
theorem dX5_barOf_57 : decode cX5_barOf 57 = .ok (.aload_n 0, 1) := by decide +kernel
theorem dX5_barOf_58 : decode cX5_barOf 58 = .ok (.getfield 12, 3) := by decide +kernel
theorem dX5_barOf_61 : decode cX5_barOf 61 = .ok (.iload_n 1, 1) := by decide +kernel
theorem dX5_barOf_62 : decode cX5_barOf 62 = .ok (.invokevirtual 129, 3) := by decide +kernel
theorem dX5_barOf_65 : decode cX5_barOf 65 = .ok (.ireturn, 1) := by decide +kernel
theorem dX5_barOf_66 : decode cX5_barOf 66 = .ok (.aload_n 0, 1) := by decide +kernel
theorem dX5_barOf_67 : decode cX5_barOf 67 = .ok (.getfield 12, 3) := by decide +kernel
theorem dX5_barOf_70 : decode cX5_barOf 70 = .ok (.iload_n 1, 1) := by decide +kernel
theorem dX5_barOf_71 : decode cX5_barOf 71 = .ok (.invokevirtual 122, 3) := by decide +kernel
theorem dX5_barOf_74 : decode cX5_barOf 74 = .ok (.ireturn, 1) := by decide +kernel
theorem dX5_barOf_75 : decode cX5_barOf 75 = .ok (.aload_n 0, 1) := by decide +kernel
theorem dX5_barOf_76 : decode cX5_barOf 76 = .ok (.getfield 12, 3) := by decide +kernel
theorem dX5_barOf_79 : decode cX5_barOf 79 = .ok (.iload_n 1, 1) := by decide +kernel
theorem dX5_barOf_80 : decode cX5_barOf 80 = .ok (.invokevirtual 171, 3) := by decide +kernel
theorem dX5_barOf_83 : decode cX5_barOf 83 = .ok (.ireturn, 1) := by decide +kernel
theorem dX5_barOf_84 : decode cX5_barOf 84 = .ok (.iload_n 2, 1) := by decide +kernel
theorem dX5_barOf_85 : decode cX5_barOf 85 = .ok (.bipush 20, 2) := by decide +kernel
theorem dX5_barOf_87 : decode cX5_barOf 87 = .ok (.if_icmp .lt 31, 3) := by decide +kernel
theorem dX5_barOf_90 : decode cX5_barOf 90 = .ok (.aload_n 0, 1) := by decide +kernel
theorem dX5_barOf_91 : decode cX5_barOf 91 = .ok (.getfield 12, 3) := by decide +kernel
theorem dX5_barOf_94 : decode cX5_barOf 94 = .ok (.iload_n 1, 1) := by decide +kernel
theorem dX5_barOf_95 : decode cX5_barOf 95 = .ok (.iload_n 2, 1) := by decide +kernel
theorem dX5_barOf_96 : decode cX5_barOf 96 = .ok (.bipush 20, 2) := by decide +kernel
theorem dX5_barOf_98 : decode cX5_barOf 98 = .ok (.isub, 1) := by decide +kernel
theorem dX5_barOf_99 : decode cX5_barOf 99 = .ok (.invokevirtual 177, 3) := by decide +kernel
theorem dX5_barOf_102 : decode cX5_barOf 102 = .ok (.ifCond .eq 16, 3) := by decide +kernel
theorem dX5_barOf_105 : decode cX5_barOf 105 = .ok (.aload_n 0, 1) := by decide +kernel
theorem dX5_barOf_106 : decode cX5_barOf 106 = .ok (.getfield 12, 3) := by decide +kernel
theorem dX5_barOf_109 : decode cX5_barOf 109 = .ok (.iload_n 1, 1) := by decide +kernel
theorem dX5_barOf_110 : decode cX5_barOf 110 = .ok (.iload_n 2, 1) := by decide +kernel
theorem dX5_barOf_111 : decode cX5_barOf 111 = .ok (.bipush 20, 2) := by decide +kernel
theorem dX5_barOf_113 : decode cX5_barOf 113 = .ok (.isub, 1) := by decide +kernel
theorem dX5_barOf_114 : decode cX5_barOf 114 = .ok (.invokevirtual 190, 3) := by decide +kernel
theorem dX5_barOf_117 : decode cX5_barOf 117 = .ok (.ireturn, 1) := by decide +kernel
theorem dX5_barOf_118 : decode cX5_barOf 118 = .ok (.iload_n 2, 1) := by decide +kernel
theorem dX5_barOf_119 : decode cX5_barOf 119 = .ok (.bipush 10, 2) := by decide +kernel
theorem dX5_barOf_121 : decode cX5_barOf 121 = .ok (.if_icmp .lt 31, 3) := by decide +kernel
theorem dX5_barOf_124 : decode cX5_barOf 124 = .ok (.aload_n 0, 1) := by decide +kernel
theorem dX5_barOf_125 : decode cX5_barOf 125 = .ok (.getfield 12, 3) := by decide +kernel
theorem dX5_barOf_128 : decode cX5_barOf 128 = .ok (.iload_n 1, 1) := by decide +kernel
theorem dX5_barOf_129 : decode cX5_barOf 129 = .ok (.iload_n 2, 1) := by decide +kernel
theorem dX5_barOf_130 : decode cX5_barOf 130 = .ok (.bipush 10, 2) := by decide +kernel
theorem dX5_barOf_132 : decode cX5_barOf 132 = .ok (.isub, 1) := by decide +kernel
theorem dX5_barOf_133 : decode cX5_barOf 133 = .ok (.invokevirtual 177, 3) := by decide +kernel
theorem dX5_barOf_136 : decode cX5_barOf 136 = .ok (.ifCond .eq 16, 3) := by decide +kernel
theorem dX5_barOf_139 : decode cX5_barOf 139 = .ok (.aload_n 0, 1) := by decide +kernel
theorem dX5_barOf_140 : decode cX5_barOf 140 = .ok (.getfield 12, 3) := by decide +kernel
theorem dX5_barOf_143 : decode cX5_barOf 143 = .ok (.iload_n 1, 1) := by decide +kernel
theorem dX5_barOf_144 : decode cX5_barOf 144 = .ok (.iload_n 2, 1) := by decide +kernel
theorem dX5_barOf_145 : decode cX5_barOf 145 = .ok (.bipush 10, 2) := by decide +kernel
theorem dX5_barOf_147 : decode cX5_barOf 147 = .ok (.isub, 1) := by decide +kernel
theorem dX5_barOf_148 : decode cX5_barOf 148 = .ok (.invokevirtual 193, 3) := by decide +kernel
theorem dX5_barOf_151 : decode cX5_barOf 151 = .ok (.ireturn, 1) := by decide +kernel
theorem dX5_barOf_152 : decode cX5_barOf 152 = .ok (.aload_n 0, 1) := by decide +kernel
theorem dX5_barOf_153 : decode cX5_barOf 153 = .ok (.bipush (-2), 2) := by decide +kernel
theorem dX5_barOf_155 : decode cX5_barOf 155 = .ok (.invokevirtual 62, 3) := by decide +kernel
theorem dX5_barOf_158 : decode cX5_barOf 158 = .ok (.ireturn, 1) := by decide +kernel
theorem dX5_feed_0 : decode cX5_feed 0 = .ok (.iload_n 1, 1) := by decide +kernel
theorem dX5_feed_1 : decode cX5_feed 1 = .ok (.ifCond .lt 10, 3) := by decide +kernel
theorem dX5_feed_4 : decode cX5_feed 4 = .ok (.iload_n 1, 1) := by decide +kernel
theorem dX5_feed_5 : decode cX5_feed 5 = .ok (.sipush 256, 3) := by decide +kernel
theorem dX5_feed_8 : decode cX5_feed 8 = .ok (.if_icmp .lt 10, 3) := by decide +kernel
theorem dX5_feed_11 : decode cX5_feed 11 = .ok (.aload_n 0, 1) := by decide +kernel
theorem dX5_feed_12 : decode cX5_feed 12 = .ok (.bipush (-2), 2) := by decide +kernel
theorem dX5_feed_14 : decode cX5_feed 14 = .ok (.invokevirtual 62, 3) := by decide +kernel
theorem dX5_feed_17 : decode cX5_feed 17 = .ok (.ireturn, 1) := by decide +kernel
theorem dX5_feed_18 : decode cX5_feed 18 = .ok (.aload_n 0, 1) := by decide +kernel
theorem dX5_feed_19 : decode cX5_feed 19 = .ok (.getfield 32, 3) := by decide +kernel
theorem dX5_feed_22 : decode cX5_feed 22 = .ok (.invokevirtual 196, 3) := by decide +kernel
theorem dX5_feed_25 : decode cX5_feed 25 = .ok (.ifCond .eq 10, 3) := by decide +kernel
theorem dX5_feed_28 : decode cX5_feed 28 = .ok (.aload_n 0, 1) := by decide +kernel
theorem dX5_feed_29 : decode cX5_feed 29 = .ok (.bipush (-6), 2) := by decide +kernel
theorem dX5_feed_31 : decode cX5_feed 31 = .ok (.invokevirtual 62, 3) := by decide +kernel
theorem dX5_feed_34 : decode cX5_feed 34 = .ok (.ireturn, 1) := by decide +kernel
theorem dX5_feed_35 : decode cX5_feed 35 = .ok (.aload_n 0, 1) := by decide +kernel
theorem dX5_feed_36 : decode cX5_feed 36 = .ok (.getfield 32, 3) := by decide +kernel
theorem dX5_feed_39 : decode cX5_feed 39 = .ok (.iload_n 1, 1) := by decide +kernel
theorem dX5_feed_40 : decode cX5_feed 40 = .ok (.invokevirtual 199, 3) := by decide +kernel
theorem dX5_feed_43 : decode cX5_feed 43 = .ok (.ireturn, 1) := by decide +kernel
theorem dX5_wipe_0 : decode cX5_wipe 0 = .ok (.aload_n 0, 1) := by decide +kernel
theorem dX5_wipe_1 : decode cX5_wipe 1 = .ok (.getfield 32, 3) := by decide +kernel
theorem dX5_wipe_4 : decode cX5_wipe 4 = .ok (.getfield 202, 3) := by decide +kernel
theorem dX5_wipe_7 : decode cX5_wipe 7 = .ok (.istore_n 1, 1) := by decide +kernel
theorem dX5_wipe_8 : decode cX5_wipe 8 = .ok (.aload_n 0, 1) := by decide +kernel
theorem dX5_wipe_9 : decode cX5_wipe 9 = .ok (.getfield 32, 3) := by decide +kernel
theorem dX5_wipe_12 : decode cX5_wipe 12 = .ok (.invokevirtual 206, 3) := by decide +kernel
theorem dX5_wipe_15 : decode cX5_wipe 15 = .ok (.iload_n 1, 1) := by decide +kernel
theorem dX5_wipe_16 : decode cX5_wipe 16 = .ok (.ireturn, 1) := by decide +kernel
theorem dX5_bars_0 : decode cX5_bars 0 = .ok (.aload_n 0, 1) := by decide +kernel
theorem dX5_bars_1 : decode cX5_bars 1 = .ok (.getfield 19, 3) := by decide +kernel
theorem dX5_bars_4 : decode cX5_bars 4 = .ok (.aload_n 0, 1) := by decide +kernel
theorem dX5_bars_5 : decode cX5_bars 5 = .ok (.getfield 12, 3) := by decide +kernel
theorem dX5_bars_8 : decode cX5_bars 8 = .ok (.invokevirtual 209, 3) := by decide +kernel
theorem dX5_bars_11 : decode cX5_bars 11 = .ok (.aload_n 0, 1) := by decide +kernel
theorem dX5_bars_12 : decode cX5_bars 12 = .ok (.getfield 32, 3) := by decide +kernel
theorem dX5_bars_15 : decode cX5_bars 15 = .ok (.aload_n 0, 1) := by decide +kernel
theorem dX5_bars_16 : decode cX5_bars 16 = .ok (.getfield 19, 3) := by decide +kernel
theorem dX5_bars_19 : decode cX5_bars 19 = .ok (.aload_n 0, 1) := by decide +kernel
theorem dX5_bars_20 : decode cX5_bars 20 = .ok (.getfield 39, 3) := by decide +kernel
theorem dX5_bars_23 : decode cX5_bars 23 = .ok (.invokevirtual 213, 3) := by decide +kernel
theorem dX5_bars_26 : decode cX5_bars 26 = .ok (.istore_n 1, 1) := by decide +kernel
theorem dX5_bars_27 : decode cX5_bars 27 = .ok (.aload_n 0, 1) := by decide +kernel
theorem dX5_bars_28 : decode cX5_bars 28 = .ok (.getfield 32, 3) := by decide +kernel
theorem dX5_bars_31 : decode cX5_bars 31 = .ok (.getfield 217, 3) := by decide +kernel
theorem dX5_bars_34 : decode cX5_bars 34 = .ok (.istore_n 2, 1) := by decide +kernel
theorem dX5_bars_35 : decode cX5_bars 35 = .ok (.aload_n 0, 1) := by decide +kernel
theorem dX5_bars_36 : decode cX5_bars 36 = .ok (.getfield 32, 3) := by decide +kernel
theorem dX5_bars_39 : decode cX5_bars 39 = .ok (.invokevirtual 206, 3) := by decide +kernel
theorem dX5_bars_42 : decode cX5_bars 42 = .ok (.iload_n 1, 1) := by decide +kernel
theorem dX5_bars_43 : decode cX5_bars 43 = .ok (.iconst (-1), 1) := by decide +kernel
theorem dX5_bars_44 : decode cX5_bars 44 = .ok (.if_icmp .ne 15, 3) := by decide +kernel
theorem dX5_bars_47 : decode cX5_bars 47 = .ok (.aload_n 0, 1) := by decide +kernel
theorem dX5_bars_48 : decode cX5_bars 48 = .ok (.bipush (-2), 2) := by decide +kernel
theorem dX5_bars_50 : decode cX5_bars 50 = .ok (.invokevirtual 62, 3) := by decide +kernel
theorem dX5_bars_53 : decode cX5_bars 53 = .ok (.pop, 1) := by decide +kernel
theorem dX5_bars_54 : decode cX5_bars 54 = .ok (.bipush (-20), 2) := by decide +kernel
theorem dX5_bars_56 : decode cX5_bars 56 = .ok (.iload_n 2, 1) := by decide +kernel
theorem dX5_bars_57 : decode cX5_bars 57 = .ok (.isub, 1) := by decide +kernel
theorem dX5_bars_58 : decode cX5_bars 58 = .ok (.ireturn, 1) := by decide +kernel
theorem dX5_bars_59 : decode cX5_bars 59 = .ok (.aload_n 0, 1) := by decide +kernel
theorem dX5_bars_60 : decode cX5_bars 60 = .ok (.getfield 12, 3) := by decide +kernel
theorem dX5_bars_63 : decode cX5_bars 63 = .ok (.aload_n 0, 1) := by decide +kernel
theorem dX5_bars_64 : decode cX5_bars 64 = .ok (.getfield 19, 3) := by decide +kernel
theorem dX5_bars_67 : decode cX5_bars 67 = .ok (.invokevirtual 209, 3) := by decide +kernel
theorem dX5_bars_70 : decode cX5_bars 70 = .ok (.iload_n 1, 1) := by decide +kernel
theorem dX5_bars_71 : decode cX5_bars 71 = .ok (.ireturn, 1) := by decide +kernel
theorem dX5_may_0 : decode cX5_may 0 = .ok (.aload_n 0, 1) := by decide +kernel
theorem dX5_may_1 : decode cX5_may 1 = .ok (.getfield 12, 3) := by decide +kernel
theorem dX5_may_4 : decode cX5_may 4 = .ok (.iload_n 1, 1) := by decide +kernel
theorem dX5_may_5 : decode cX5_may 5 = .ok (.iload_n 2, 1) := by decide +kernel
theorem dX5_may_6 : decode cX5_may 6 = .ok (.invokevirtual 220, 3) := by decide +kernel
theorem dX5_may_9 : decode cX5_may 9 = .ok (.ifCond .ne 10, 3) := by decide +kernel
theorem dX5_may_12 : decode cX5_may 12 = .ok (.aload_n 0, 1) := by decide +kernel
theorem dX5_may_13 : decode cX5_may 13 = .ok (.bipush (-2), 2) := by decide +kernel
theorem dX5_may_15 : decode cX5_may 15 = .ok (.invokevirtual 62, 3) := by decide +kernel
theorem dX5_may_18 : decode cX5_may 18 = .ok (.ireturn, 1) := by decide +kernel
theorem dX5_may_19 : decode cX5_may 19 = .ok (.aload_n 0, 1) := by decide +kernel
theorem dX5_may_20 : decode cX5_may 20 = .ok (.iload_n 1, 1) := by decide +kernel
theorem dX5_may_21 : decode cX5_may 21 = .ok (.invokevirtual 143, 3) := by decide +kernel
theorem dX5_may_24 : decode cX5_may 24 = .ok (.iload_n 2, 1) := by decide +kernel
theorem dX5_may_25 : decode cX5_may 25 = .ok (.invokestatic 223, 3) := by decide +kernel
theorem dX5_may_28 : decode cX5_may 28 = .ok (.ifCond .eq 7, 3) := by decide +kernel
theorem dX5_may_31 : decode cX5_may 31 = .ok (.iconst 1, 1) := by decide +kernel
theorem dX5_may_32 : decode cX5_may 32 = .ok (.goto 4, 3) := by decide +kernel
theorem dX5_may_35 : decode cX5_may 35 = .ok (.iconst 0, 1) := by decide +kernel
theorem dX5_may_36 : decode cX5_may 36 = .ok (.ireturn, 1) := by decide +kernel
theorem dX5_moves_0 : decode cX5_moves 0 = .ok (.aload_n 0, 1) := by decide +kernel
theorem dX5_moves_1 : decode cX5_moves 1 = .ok (.getfield 12, 3) := by decide +kernel
theorem dX5_moves_4 : decode cX5_moves 4 = .ok (.iload_n 1, 1) := by decide +kernel
theorem dX5_moves_5 : decode cX5_moves 5 = .ok (.invokevirtual 99, 3) := by decide +kernel
theorem dX5_moves_8 : decode cX5_moves 8 = .ok (.ifCond .ne 10, 3) := by decide +kernel
theorem dX5_moves_11 : decode cX5_moves 11 = .ok (.aload_n 0, 1) := by decide +kernel
theorem dX5_moves_12 : decode cX5_moves 12 = .ok (.bipush (-2), 2) := by decide +kernel
theorem dX5_moves_14 : decode cX5_moves 14 = .ok (.invokevirtual 62, 3) := by decide +kernel
theorem dX5_moves_17 : decode cX5_moves 17 = .ok (.ireturn, 1) := by decide +kernel
theorem dX5_moves_18 : decode cX5_moves 18 = .ok (.aload_n 0, 1) := by decide +kernel
theorem dX5_moves_19 : decode cX5_moves 19 = .ok (.iload_n 1, 1) := by decide +kernel
theorem dX5_moves_20 : decode cX5_moves 20 = .ok (.invokevirtual 143, 3) := by decide +kernel
theorem dX5_moves_23 : decode cX5_moves 23 = .ok (.ireturn, 1) := by decide +kernel
theorem dX5_move_0 : decode cX5_move 0 = .ok (.aload_n 0, 1) := by decide +kernel
theorem dX5_move_1 : decode cX5_move 1 = .ok (.getfield 12, 3) := by decide +kernel
theorem dX5_move_4 : decode cX5_move 4 = .ok (.iload_n 1, 1) := by decide +kernel
theorem dX5_move_5 : decode cX5_move 5 = .ok (.iload_n 2, 1) := by decide +kernel
theorem dX5_move_6 : decode cX5_move 6 = .ok (.invokevirtual 220, 3) := by decide +kernel
theorem dX5_move_9 : decode cX5_move 9 = .ok (.ifCond .ne 10, 3) := by decide +kernel
theorem dX5_move_12 : decode cX5_move 12 = .ok (.aload_n 0, 1) := by decide +kernel
theorem dX5_move_13 : decode cX5_move 13 = .ok (.bipush (-2), 2) := by decide +kernel
theorem dX5_move_15 : decode cX5_move 15 = .ok (.invokevirtual 62, 3) := by decide +kernel
theorem dX5_move_18 : decode cX5_move 18 = .ok (.ireturn, 1) := by decide +kernel
theorem dX5_move_19 : decode cX5_move 19 = .ok (.aload_n 0, 1) := by decide +kernel
theorem dX5_move_20 : decode cX5_move 20 = .ok (.iload_n 1, 1) := by decide +kernel
theorem dX5_move_21 : decode cX5_move 21 = .ok (.invokevirtual 143, 3) := by decide +kernel
theorem dX5_move_24 : decode cX5_move 24 = .ok (.iload_n 2, 1) := by decide +kernel
theorem dX5_move_25 : decode cX5_move 25 = .ok (.invokestatic 223, 3) := by decide +kernel
theorem dX5_move_28 : decode cX5_move 28 = .ok (.ifCond .ne 10, 3) := by decide +kernel
theorem dX5_move_31 : decode cX5_move 31 = .ok (.aload_n 0, 1) := by decide +kernel
theorem dX5_move_32 : decode cX5_move 32 = .ok (.bipush (-5), 2) := by decide +kernel
theorem dX5_move_34 : decode cX5_move 34 = .ok (.invokevirtual 62, 3) := by decide +kernel
theorem dX5_move_37 : decode cX5_move 37 = .ok (.ireturn, 1) := by decide +kernel
theorem dX5_move_38 : decode cX5_move 38 = .ok (.aload_n 0, 1) := by decide +kernel
theorem dX5_move_39 : decode cX5_move 39 = .ok (.getfield 12, 3) := by decide +kernel
theorem dX5_move_42 : decode cX5_move 42 = .ok (.iload_n 1, 1) := by decide +kernel
theorem dX5_move_43 : decode cX5_move 43 = .ok (.iload_n 2, 1) := by decide +kernel
theorem dX5_move_44 : decode cX5_move 44 = .ok (.invokevirtual 226, 3) := by decide +kernel
theorem dX5_move_47 : decode cX5_move 47 = .ok (.aload_n 0, 1) := by decide +kernel
theorem dX5_move_48 : decode cX5_move 48 = .ok (.getfield 12, 3) := by decide +kernel
theorem dX5_move_51 : decode cX5_move 51 = .ok (.iload_n 1, 1) := by decide +kernel
theorem dX5_move_52 : decode cX5_move 52 = .ok (.invokevirtual 122, 3) := by decide +kernel
theorem dX5_move_55 : decode cX5_move 55 = .ok (.ireturn, 1) := by decide +kernel
theorem dX5_fewest_0 : decode cX5_fewest 0 = .ok (.aload_n 0, 1) := by decide +kernel
theorem dX5_fewest_1 : decode cX5_fewest 1 = .ok (.getfield 12, 3) := by decide +kernel
theorem dX5_fewest_4 : decode cX5_fewest 4 = .ok (.iload_n 1, 1) := by decide +kernel
theorem dX5_fewest_5 : decode cX5_fewest 5 = .ok (.iload_n 2, 1) := by decide +kernel
theorem dX5_fewest_6 : decode cX5_fewest 6 = .ok (.i2l, 1) := by decide +kernel
theorem dX5_fewest_7 : decode cX5_fewest 7 = .ok (.invokevirtual 164, 3) := by decide +kernel
theorem dX5_fewest_10 : decode cX5_fewest 10 = .ok (.ifCond .ne 10, 3) := by decide +kernel
theorem dX5_fewest_13 : decode cX5_fewest 13 = .ok (.aload_n 0, 1) := by decide +kernel
theorem dX5_fewest_14 : decode cX5_fewest 14 = .ok (.bipush (-2), 2) := by decide +kernel
theorem dX5_fewest_16 : decode cX5_fewest 16 = .ok (.invokevirtual 62, 3) := by decide +kernel
theorem dX5_fewest_19 : decode cX5_fewest 19 = .ok (.ireturn, 1) := by decide +kernel
theorem dX5_fewest_20 : decode cX5_fewest 20 = .ok (.aload_n 0, 1) := by decide +kernel
theorem dX5_fewest_21 : decode cX5_fewest 21 = .ok (.iload_n 1, 1) := by decide +kernel
theorem dX5_fewest_22 : decode cX5_fewest 22 = .ok (.aload_n 0, 1) := by decide +kernel
theorem dX5_fewest_23 : decode cX5_fewest 23 = .ok (.getfield 12, 3) := by decide +kernel
theorem dX5_fewest_26 : decode cX5_fewest 26 = .ok (.iload_n 1, 1) := by decide +kernel
theorem dX5_fewest_27 : decode cX5_fewest 27 = .ok (.invokevirtual 122, 3) := by decide +kernel
theorem dX5_fewest_30 : decode cX5_fewest 30 = .ok (.iload_n 2, 1) := by decide +kernel
theorem dX5_fewest_31 : decode cX5_fewest 31 = .ok (.invokevirtual 140, 3) := by decide +kernel
theorem dX5_fewest_34 : decode cX5_fewest 34 = .ok (.ireturn, 1) := by decide +kernel
theorem dX5_way_0 : decode cX5_way 0 = .ok (.aload_n 0, 1) := by decide +kernel
theorem dX5_way_1 : decode cX5_way 1 = .ok (.getfield 12, 3) := by decide +kernel
theorem dX5_way_4 : decode cX5_way 4 = .ok (.iload_n 1, 1) := by decide +kernel
theorem dX5_way_5 : decode cX5_way 5 = .ok (.iload_n 2, 1) := by decide +kernel
theorem dX5_way_6 : decode cX5_way 6 = .ok (.i2l, 1) := by decide +kernel
theorem dX5_way_7 : decode cX5_way 7 = .ok (.invokevirtual 164, 3) := by decide +kernel
theorem dX5_way_10 : decode cX5_way 10 = .ok (.ifCond .eq 7, 3) := by decide +kernel
theorem dX5_way_13 : decode cX5_way 13 = .ok (.iload_n 3, 1) := by decide +kernel
theorem dX5_way_14 : decode cX5_way 14 = .ok (.ifCond .ge 10, 3) := by decide +kernel
theorem dX5_way_17 : decode cX5_way 17 = .ok (.aload_n 0, 1) := by decide +kernel
theorem dX5_way_18 : decode cX5_way 18 = .ok (.bipush (-2), 2) := by decide +kernel
theorem dX5_way_20 : decode cX5_way 20 = .ok (.invokevirtual 62, 3) := by decide +kernel
theorem dX5_way_23 : decode cX5_way 23 = .ok (.ireturn, 1) := by decide +kernel
theorem dX5_way_24 : decode cX5_way 24 = .ok (.aload_n 0, 1) := by decide +kernel
theorem dX5_way_25 : decode cX5_way 25 = .ok (.getfield 12, 3) := by decide +kernel
theorem dX5_way_28 : decode cX5_way 28 = .ok (.iload_n 1, 1) := by decide +kernel
theorem dX5_way_29 : decode cX5_way 29 = .ok (.invokevirtual 122, 3) := by decide +kernel
theorem dX5_way_32 : decode cX5_way 32 = .ok (.istore 4, 2) := by decide +kernel
theorem dX5_way_34 : decode cX5_way 34 = .ok (.iload_n 3, 1) := by decide +kernel
theorem dX5_way_35 : decode cX5_way 35 = .ok (.aload_n 0, 1) := by decide +kernel
theorem dX5_way_36 : decode cX5_way 36 = .ok (.iload_n 1, 1) := by decide +kernel
theorem dX5_way_37 : decode cX5_way 37 = .ok (.iload 4, 2) := by decide +kernel
theorem dX5_way_39 : decode cX5_way 39 = .ok (.iload_n 2, 1) := by decide +kernel
theorem dX5_way_40 : decode cX5_way 40 = .ok (.invokevirtual 140, 3) := by decide +kernel
theorem dX5_way_43 : decode cX5_way 43 = .ok (.if_icmp .lt 10, 3) := by decide +kernel
theorem dX5_way_46 : decode cX5_way 46 = .ok (.aload_n 0, 1) := by decide +kernel
theorem dX5_way_47 : decode cX5_way 47 = .ok (.bipush (-5), 2) := by decide +kernel
theorem dX5_way_49 : decode cX5_way 49 = .ok (.invokevirtual 62, 3) := by decide +kernel
theorem dX5_way_52 : decode cX5_way 52 = .ok (.ireturn, 1) := by decide +kernel
theorem dX5_way_53 : decode cX5_way 53 = .ok (.iconst 0, 1) := by decide +kernel
theorem dX5_way_54 : decode cX5_way 54 = .ok (.istore 5, 2) := by decide +kernel
theorem dX5_way_56 : decode cX5_way 56 = .ok (.iload 5, 2) := by decide +kernel
theorem dX5_way_58 : decode cX5_way 58 = .ok (.iload_n 3, 1) := by decide +kernel
theorem dX5_way_59 : decode cX5_way 59 = .ok (.if_icmp .ge 26, 3) := by decide +kernel
theorem dX5_way_62 : decode cX5_way 62 = .ok (.iload 4, 2) := by decide +kernel
theorem dX5_way_64 : decode cX5_way 64 = .ok (.aload_n 0, 1) := by decide +kernel
theorem dX5_way_65 : decode cX5_way 65 = .ok (.getfield 46, 3) := by decide +kernel
theorem dX5_way_68 : decode cX5_way 68 = .ok (.iload 4, 2) := by decide +kernel
theorem dX5_way_70 : decode cX5_way 70 = .ok (.invokevirtual 229, 3) := by decide +kernel
theorem dX5_way_73 : decode cX5_way 73 = .ok (.invokestatic 232, 3) := by decide +kernel
theorem dX5_way_76 : decode cX5_way 76 = .ok (.ixor, 1) := by decide +kernel
theorem dX5_way_77 : decode cX5_way 77 = .ok (.istore 4, 2) := by decide +kernel
theorem dX5_way_79 : decode cX5_way 79 = .ok (.iinc 5 1, 3) := by decide +kernel
theorem dX5_way_82 : decode cX5_way 82 = .ok (.goto (-26), 3) := by decide +kernel
theorem dX5_way_85 : decode cX5_way 85 = .ok (.aload_n 0, 1) := by decide +kernel
theorem dX5_way_86 : decode cX5_way 86 = .ok (.getfield 46, 3) := by decide +kernel
theorem dX5_way_89 : decode cX5_way 89 = .ok (.iload 4, 2) := by decide +kernel
theorem dX5_way_91 : decode cX5_way 91 = .ok (.invokevirtual 229, 3) := by decide +kernel
theorem dX5_way_94 : decode cX5_way 94 = .ok (.ireturn, 1) := by decide +kernel
theorem dX5_between_0 : decode cX5_between 0 = .ok (.aload_n 0, 1) := by decide +kernel
theorem dX5_between_1 : decode cX5_between 1 = .ok (.getfield 12, 3) := by decide +kernel
theorem dX5_between_4 : decode cX5_between 4 = .ok (.iload_n 1, 1) := by decide +kernel
theorem dX5_between_5 : decode cX5_between 5 = .ok (.iload_n 2, 1) := by decide +kernel
theorem dX5_between_6 : decode cX5_between 6 = .ok (.i2l, 1) := by decide +kernel
theorem dX5_between_7 : decode cX5_between 7 = .ok (.invokevirtual 164, 3) := by decide +kernel
theorem dX5_between_10 : decode cX5_between 10 = .ok (.ifCond .eq 16, 3) := by decide +kernel
theorem dX5_between_13 : decode cX5_between 13 = .ok (.aload_n 0, 1) := by decide +kernel
theorem dX5_between_14 : decode cX5_between 14 = .ok (.getfield 12, 3) := by decide +kernel
theorem dX5_between_17 : decode cX5_between 17 = .ok (.iload_n 1, 1) := by decide +kernel
theorem dX5_between_18 : decode cX5_between 18 = .ok (.iload_n 3, 1) := by decide +kernel
theorem dX5_between_19 : decode cX5_between 19 = .ok (.i2l, 1) := by decide +kernel
theorem dX5_between_20 : decode cX5_between 20 = .ok (.invokevirtual 164, 3) := by decide +kernel
theorem dX5_between_23 : decode cX5_between 23 = .ok (.ifCond .ne 10, 3) := by decide +kernel
theorem dX5_between_26 : decode cX5_between 26 = .ok (.aload_n 0, 1) := by decide +kernel
theorem dX5_between_27 : decode cX5_between 27 = .ok (.bipush (-2), 2) := by decide +kernel
theorem dX5_between_29 : decode cX5_between 29 = .ok (.invokevirtual 62, 3) := by decide +kernel
theorem dX5_between_32 : decode cX5_between 32 = .ok (.ireturn, 1) := by decide +kernel
theorem dX5_between_33 : decode cX5_between 33 = .ok (.aload_n 0, 1) := by decide +kernel
theorem dX5_between_34 : decode cX5_between 34 = .ok (.iload_n 1, 1) := by decide +kernel
theorem dX5_between_35 : decode cX5_between 35 = .ok (.iload_n 2, 1) := by decide +kernel
theorem dX5_between_36 : decode cX5_between 36 = .ok (.iload_n 3, 1) := by decide +kernel
theorem dX5_between_37 : decode cX5_between 37 = .ok (.invokevirtual 140, 3) := by decide +kernel
theorem dX5_between_40 : decode cX5_between 40 = .ok (.ireturn, 1) := by decide +kernel
theorem dX5_place_0 : decode cX5_place 0 = .ok (.lload_n 1, 1) := by decide +kernel
theorem dX5_place_1 : decode cX5_place 1 = .ok (.lconst 0, 1) := by decide +kernel
theorem dX5_place_2 : decode cX5_place 2 = .ok (.lcmp, 1) := by decide +kernel
theorem dX5_place_3 : decode cX5_place 3 = .ok (.ifCond .lt 11, 3) := by decide +kernel
theorem dX5_place_6 : decode cX5_place 6 = .ok (.lload_n 1, 1) := by decide +kernel
theorem dX5_place_7 : decode cX5_place 7 = .ok (.ldc2_w 235, 3) := by decide +kernel
theorem dX5_place_10 : decode cX5_place 10 = .ok (.lcmp, 1) := by decide +kernel
theorem dX5_place_11 : decode cX5_place 11 = .ok (.ifCond .lt 11, 3) := by decide +kernel
theorem dX5_place_14 : decode cX5_place 14 = .ok (.aload_n 0, 1) := by decide +kernel
theorem dX5_place_15 : decode cX5_place 15 = .ok (.bipush (-2), 2) := by decide +kernel
theorem dX5_place_17 : decode cX5_place 17 = .ok (.invokevirtual 62, 3) := by decide +kernel
theorem dX5_place_20 : decode cX5_place 20 = .ok (.i2l, 1) := by decide +kernel
theorem dX5_place_21 : decode cX5_place 21 = .ok (.lreturn, 1) := by decide +kernel
theorem dX5_place_22 : decode cX5_place 22 = .ok (.lload_n 1, 1) := by decide +kernel
theorem dX5_place_23 : decode cX5_place 23 = .ok (.invokestatic 136, 3) := by decide +kernel
theorem dX5_place_26 : decode cX5_place 26 = .ok (.lreturn, 1) := by decide +kernel
theorem dX5_setOf_0 : decode cX5_setOf 0 = .ok (.lload_n 1, 1) := by decide +kernel
theorem dX5_setOf_1 : decode cX5_setOf 1 = .ok (.lconst 0, 1) := by decide +kernel
theorem dX5_setOf_2 : decode cX5_setOf 2 = .ok (.lcmp, 1) := by decide +kernel
theorem dX5_setOf_3 : decode cX5_setOf 3 = .ok (.ifCond .lt 11, 3) := by decide +kernel
theorem dX5_setOf_6 : decode cX5_setOf 6 = .ok (.lload_n 1, 1) := by decide +kernel
theorem dX5_setOf_7 : decode cX5_setOf 7 = .ok (.ldc2_w 235, 3) := by decide +kernel
theorem dX5_setOf_10 : decode cX5_setOf 10 = .ok (.lcmp, 1) := by decide +kernel
theorem dX5_setOf_11 : decode cX5_setOf 11 = .ok (.ifCond .lt 11, 3) := by decide +kernel
theorem dX5_setOf_14 : decode cX5_setOf 14 = .ok (.aload_n 0, 1) := by decide +kernel
theorem dX5_setOf_15 : decode cX5_setOf 15 = .ok (.bipush (-2), 2) := by decide +kernel
theorem dX5_setOf_17 : decode cX5_setOf 17 = .ok (.invokevirtual 62, 3) := by decide +kernel
theorem dX5_setOf_20 : decode cX5_setOf 20 = .ok (.i2l, 1) := by decide +kernel
theorem dX5_setOf_21 : decode cX5_setOf 21 = .ok (.lreturn, 1) := by decide +kernel
theorem dX5_setOf_22 : decode cX5_setOf 22 = .ok (.lload_n 1, 1) := by decide +kernel
theorem dX5_setOf_23 : decode cX5_setOf 23 = .ok (.lload_n 1, 1) := by decide +kernel
theorem dX5_setOf_24 : decode cX5_setOf 24 = .ok (.iconst 1, 1) := by decide +kernel
theorem dX5_setOf_25 : decode cX5_setOf 25 = .ok (.lshr, 1) := by decide +kernel
theorem dX5_setOf_26 : decode cX5_setOf 26 = .ok (.lxor, 1) := by decide +kernel
theorem dX5_setOf_27 : decode cX5_setOf 27 = .ok (.lreturn, 1) := by decide +kernel
theorem dX5_reach_0 : decode cX5_reach 0 = .ok (.aload_n 0, 1) := by decide +kernel
theorem dX5_reach_1 : decode cX5_reach 1 = .ok (.getfield 12, 3) := by decide +kernel
theorem dX5_reach_4 : decode cX5_reach 4 = .ok (.iload_n 1, 1) := by decide +kernel
theorem dX5_reach_5 : decode cX5_reach 5 = .ok (.invokevirtual 99, 3) := by decide +kernel
theorem dX5_reach_8 : decode cX5_reach 8 = .ok (.ifCond .ne 10, 3) := by decide +kernel
theorem dX5_reach_11 : decode cX5_reach 11 = .ok (.aload_n 0, 1) := by decide +kernel
theorem dX5_reach_12 : decode cX5_reach 12 = .ok (.bipush (-2), 2) := by decide +kernel
theorem dX5_reach_14 : decode cX5_reach 14 = .ok (.invokevirtual 62, 3) := by decide +kernel
theorem dX5_reach_17 : decode cX5_reach 17 = .ok (.ireturn, 1) := by decide +kernel
theorem dX5_reach_18 : decode cX5_reach 18 = .ok (.aload_n 0, 1) := by decide +kernel
theorem dX5_reach_19 : decode cX5_reach 19 = .ok (.iload_n 1, 1) := by decide +kernel
theorem dX5_reach_20 : decode cX5_reach 20 = .ok (.invokevirtual 237, 3) := by decide +kernel
theorem dX5_reach_23 : decode cX5_reach 23 = .ok (.aload_n 0, 1) := by decide +kernel
theorem dX5_reach_24 : decode cX5_reach 24 = .ok (.getfield 46, 3) := by decide +kernel
theorem dX5_reach_27 : decode cX5_reach 27 = .ok (.getfield 240, 3) := by decide +kernel
theorem dX5_reach_30 : decode cX5_reach 30 = .ok (.ireturn, 1) := by decide +kernel
theorem dX5_farthest_0 : decode cX5_farthest 0 = .ok (.aload_n 0, 1) := by decide +kernel
theorem dX5_farthest_1 : decode cX5_farthest 1 = .ok (.getfield 12, 3) := by decide +kernel
theorem dX5_farthest_4 : decode cX5_farthest 4 = .ok (.iload_n 1, 1) := by decide +kernel
theorem dX5_farthest_5 : decode cX5_farthest 5 = .ok (.invokevirtual 99, 3) := by decide +kernel
theorem dX5_farthest_8 : decode cX5_farthest 8 = .ok (.ifCond .eq 12, 3) := by decide +kernel
theorem dX5_farthest_11 : decode cX5_farthest 11 = .ok (.iload_n 2, 1) := by decide +kernel
theorem dX5_farthest_12 : decode cX5_farthest 12 = .ok (.ifCond .lt 8, 3) := by decide +kernel
theorem dX5_farthest_15 : decode cX5_farthest 15 = .ok (.iload_n 2, 1) := by decide +kernel
theorem dX5_farthest_16 : decode cX5_farthest 16 = .ok (.iconst 1, 1) := by decide +kernel
theorem dX5_farthest_17 : decode cX5_farthest 17 = .ok (.if_icmp .le 10, 3) := by decide +kernel
theorem dX5_farthest_20 : decode cX5_farthest 20 = .ok (.aload_n 0, 1) := by decide +kernel
theorem dX5_farthest_21 : decode cX5_farthest 21 = .ok (.bipush (-2), 2) := by decide +kernel
theorem dX5_farthest_23 : decode cX5_farthest 23 = .ok (.invokevirtual 62, 3) := by decide +kernel
theorem dX5_farthest_26 : decode cX5_farthest 26 = .ok (.ireturn, 1) := by decide +kernel
theorem dX5_farthest_27 : decode cX5_farthest 27 = .ok (.aload_n 0, 1) := by decide +kernel
theorem dX5_farthest_28 : decode cX5_farthest 28 = .ok (.iload_n 1, 1) := by decide +kernel
theorem dX5_farthest_29 : decode cX5_farthest 29 = .ok (.invokevirtual 237, 3) := by decide +kernel
theorem dX5_farthest_32 : decode cX5_farthest 32 = .ok (.aload_n 0, 1) := by decide +kernel
theorem dX5_farthest_33 : decode cX5_farthest 33 = .ok (.getfield 46, 3) := by decide +kernel
theorem dX5_farthest_36 : decode cX5_farthest 36 = .ok (.invokevirtual 243, 3) := by decide +kernel
theorem dX5_farthest_39 : decode cX5_farthest 39 = .ok (.istore_n 3, 1) := by decide +kernel
theorem dX5_farthest_40 : decode cX5_farthest 40 = .ok (.iload_n 2, 1) := by decide +kernel
theorem dX5_farthest_41 : decode cX5_farthest 41 = .ok (.ifCond .ne 7, 3) := by decide +kernel
theorem dX5_farthest_44 : decode cX5_farthest 44 = .ok (.iload_n 3, 1) := by decide +kernel
theorem dX5_farthest_45 : decode cX5_farthest 45 = .ok (.goto 11, 3) := by decide +kernel
theorem dX5_farthest_48 : decode cX5_farthest 48 = .ok (.aload_n 0, 1) := by decide +kernel
theorem dX5_farthest_49 : decode cX5_farthest 49 = .ok (.getfield 46, 3) := by decide +kernel
theorem dX5_farthest_52 : decode cX5_farthest 52 = .ok (.iload_n 3, 1) := by decide +kernel
theorem dX5_farthest_53 : decode cX5_farthest 53 = .ok (.invokevirtual 247, 3) := by decide +kernel
theorem dX5_farthest_56 : decode cX5_farthest 56 = .ok (.ireturn, 1) := by decide +kernel
theorem dX5_shape_0 : decode cX5_shape 0 = .ok (.aload_n 0, 1) := by decide +kernel
theorem dX5_shape_1 : decode cX5_shape 1 = .ok (.getfield 12, 3) := by decide +kernel
theorem dX5_shape_4 : decode cX5_shape 4 = .ok (.iload_n 1, 1) := by decide +kernel
theorem dX5_shape_5 : decode cX5_shape 5 = .ok (.invokevirtual 99, 3) := by decide +kernel
theorem dX5_shape_8 : decode cX5_shape 8 = .ok (.ifCond .ne 10, 3) := by decide +kernel
theorem dX5_shape_11 : decode cX5_shape 11 = .ok (.aload_n 0, 1) := by decide +kernel
theorem dX5_shape_12 : decode cX5_shape 12 = .ok (.bipush (-2), 2) := by decide +kernel
theorem dX5_shape_14 : decode cX5_shape 14 = .ok (.invokevirtual 62, 3) := by decide +kernel
theorem dX5_shape_17 : decode cX5_shape 17 = .ok (.ireturn, 1) := by decide +kernel
theorem dX5_shape_18 : decode cX5_shape 18 = .ok (.aload_n 0, 1) := by decide +kernel
theorem dX5_shape_19 : decode cX5_shape 19 = .ok (.iload_n 1, 1) := by decide +kernel
theorem dX5_shape_20 : decode cX5_shape 20 = .ok (.invokevirtual 237, 3) := by decide +kernel
theorem dX5_shape_23 : decode cX5_shape 23 = .ok (.aload_n 0, 1) := by decide +kernel
theorem dX5_shape_24 : decode cX5_shape 24 = .ok (.getfield 46, 3) := by decide +kernel
theorem dX5_shape_27 : decode cX5_shape 27 = .ok (.invokevirtual 250, 3) := by decide +kernel
theorem dX5_shape_30 : decode cX5_shape 30 = .ok (.ireturn, 1) := by decide +kernel
theorem dX5_parts_0 : decode cX5_parts 0 = .ok (.aload_n 0, 1) := by decide +kernel
theorem dX5_parts_1 : decode cX5_parts 1 = .ok (.getfield 12, 3) := by decide +kernel
theorem dX5_parts_4 : decode cX5_parts 4 = .ok (.iload_n 1, 1) := by decide +kernel
theorem dX5_parts_5 : decode cX5_parts 5 = .ok (.invokevirtual 99, 3) := by decide +kernel
theorem dX5_parts_8 : decode cX5_parts 8 = .ok (.ifCond .ne 10, 3) := by decide +kernel
theorem dX5_parts_11 : decode cX5_parts 11 = .ok (.aload_n 0, 1) := by decide +kernel
theorem dX5_parts_12 : decode cX5_parts 12 = .ok (.bipush (-2), 2) := by decide +kernel
theorem dX5_parts_14 : decode cX5_parts 14 = .ok (.invokevirtual 62, 3) := by decide +kernel
theorem dX5_parts_17 : decode cX5_parts 17 = .ok (.ireturn, 1) := by decide +kernel
theorem dX5_parts_18 : decode cX5_parts 18 = .ok (.aload_n 0, 1) := by decide +kernel
theorem dX5_parts_19 : decode cX5_parts 19 = .ok (.iload_n 1, 1) := by decide +kernel
theorem dX5_parts_20 : decode cX5_parts 20 = .ok (.invokevirtual 253, 3) := by decide +kernel
theorem dX5_parts_23 : decode cX5_parts 23 = .ok (.aload_n 0, 1) := by decide +kernel
theorem dX5_parts_24 : decode cX5_parts 24 = .ok (.getfield 46, 3) := by decide +kernel
theorem dX5_parts_27 : decode cX5_parts 27 = .ok (.invokevirtual 256, 3) := by decide +kernel
theorem dX5_parts_30 : decode cX5_parts 30 = .ok (.ireturn, 1) := by decide +kernel
theorem dX5_longest_0 : decode cX5_longest 0 = .ok (.aload_n 0, 1) := by decide +kernel
theorem dX5_longest_1 : decode cX5_longest 1 = .ok (.getfield 12, 3) := by decide +kernel
theorem dX5_longest_4 : decode cX5_longest 4 = .ok (.iload_n 1, 1) := by decide +kernel
theorem dX5_longest_5 : decode cX5_longest 5 = .ok (.invokevirtual 99, 3) := by decide +kernel
theorem dX5_longest_8 : decode cX5_longest 8 = .ok (.ifCond .ne 10, 3) := by decide +kernel
theorem dX5_longest_11 : decode cX5_longest 11 = .ok (.aload_n 0, 1) := by decide +kernel
theorem dX5_longest_12 : decode cX5_longest 12 = .ok (.bipush (-2), 2) := by decide +kernel
theorem dX5_longest_14 : decode cX5_longest 14 = .ok (.invokevirtual 62, 3) := by decide +kernel
theorem dX5_longest_17 : decode cX5_longest 17 = .ok (.ireturn, 1) := by decide +kernel
theorem dX5_longest_18 : decode cX5_longest 18 = .ok (.aload_n 0, 1) := by decide +kernel
theorem dX5_longest_19 : decode cX5_longest 19 = .ok (.getfield 12, 3) := by decide +kernel
theorem dX5_longest_22 : decode cX5_longest 22 = .ok (.iload_n 1, 1) := by decide +kernel
theorem dX5_longest_23 : decode cX5_longest 23 = .ok (.invokevirtual 129, 3) := by decide +kernel
theorem dX5_longest_26 : decode cX5_longest 26 = .ok (.bipush 6, 2) := by decide +kernel
theorem dX5_longest_28 : decode cX5_longest 28 = .ok (.if_icmp .le 10, 3) := by decide +kernel
theorem dX5_longest_31 : decode cX5_longest 31 = .ok (.aload_n 0, 1) := by decide +kernel
theorem dX5_longest_32 : decode cX5_longest 32 = .ok (.bipush (-5), 2) := by decide +kernel
theorem dX5_longest_34 : decode cX5_longest 34 = .ok (.invokevirtual 62, 3) := by decide +kernel
theorem dX5_longest_37 : decode cX5_longest 37 = .ok (.ireturn, 1) := by decide +kernel
theorem dX5_longest_38 : decode cX5_longest 38 = .ok (.aload_n 0, 1) := by decide +kernel
theorem dX5_longest_39 : decode cX5_longest 39 = .ok (.iload_n 1, 1) := by decide +kernel
theorem dX5_longest_40 : decode cX5_longest 40 = .ok (.invokevirtual 253, 3) := by decide +kernel
theorem dX5_longest_43 : decode cX5_longest 43 = .ok (.aload_n 0, 1) := by decide +kernel
theorem dX5_longest_44 : decode cX5_longest 44 = .ok (.getfield 46, 3) := by decide +kernel
theorem dX5_longest_47 : decode cX5_longest 47 = .ok (.invokevirtual 259, 3) := by decide +kernel
theorem dX5_longest_50 : decode cX5_longest 50 = .ok (.ireturn, 1) := by decide +kernel
theorem dX5_save_0 : decode cX5_save 0 = .ok (.iload_n 1, 1) := by decide +kernel
theorem dX5_save_1 : decode cX5_save 1 = .ok (.iconst 1, 1) := by decide +kernel
theorem dX5_save_2 : decode cX5_save 2 = .ok (.if_icmp .lt 9, 3) := by decide +kernel
theorem dX5_save_5 : decode cX5_save 5 = .ok (.iload_n 1, 1) := by decide +kernel
theorem dX5_save_6 : decode cX5_save 6 = .ok (.bipush 10, 2) := by decide +kernel
theorem dX5_save_8 : decode cX5_save 8 = .ok (.if_icmp .le 10, 3) := by decide +kernel
theorem dX5_save_11 : decode cX5_save 11 = .ok (.aload_n 0, 1) := by decide +kernel
theorem dX5_save_12 : decode cX5_save 12 = .ok (.bipush (-2), 2) := by decide +kernel
theorem dX5_save_14 : decode cX5_save 14 = .ok (.invokevirtual 62, 3) := by decide +kernel
theorem dX5_save_17 : decode cX5_save 17 = .ok (.ireturn, 1) := by decide +kernel
theorem dX5_save_18 : decode cX5_save 18 = .ok (.iconst 1, 1) := by decide +kernel
theorem dX5_save_19 : decode cX5_save 19 = .ok (.iload_n 1, 1) := by decide +kernel
theorem dX5_save_20 : decode cX5_save 20 = .ok (.ishl, 1) := by decide +kernel
theorem dX5_save_21 : decode cX5_save 21 = .ok (.iconst 1, 1) := by decide +kernel
theorem dX5_save_22 : decode cX5_save 22 = .ok (.isub, 1) := by decide +kernel
theorem dX5_save_23 : decode cX5_save 23 = .ok (.istore_n 2, 1) := by decide +kernel
theorem dX5_save_24 : decode cX5_save 24 = .ok (.aload_n 0, 1) := by decide +kernel
theorem dX5_save_25 : decode cX5_save 25 = .ok (.getfield 39, 3) := by decide +kernel
theorem dX5_save_28 : decode cX5_save 28 = .ok (.iconst 2, 1) := by decide +kernel
theorem dX5_save_29 : decode cX5_save 29 = .ok (.iload_n 1, 1) := by decide +kernel
theorem dX5_save_30 : decode cX5_save 30 = .ok (.invokevirtual 262, 3) := by decide +kernel
theorem dX5_save_33 : decode cX5_save 33 = .ok (.aload_n 0, 1) := by decide +kernel
theorem dX5_save_34 : decode cX5_save 34 = .ok (.getfield 46, 3) := by decide +kernel
theorem dX5_save_37 : decode cX5_save 37 = .ok (.aload_n 0, 1) := by decide +kernel
theorem dX5_save_38 : decode cX5_save 38 = .ok (.getfield 39, 3) := by decide +kernel
theorem dX5_save_41 : decode cX5_save 41 = .ok (.invokevirtual 265, 3) := by decide +kernel
theorem dX5_save_44 : decode cX5_save 44 = .ok (.aload_n 0, 1) := by decide +kernel
theorem dX5_save_45 : decode cX5_save 45 = .ok (.getfield 46, 3) := by decide +kernel
theorem dX5_save_48 : decode cX5_save 48 = .ok (.invokevirtual 269, 3) := by decide +kernel
theorem dX5_save_51 : decode cX5_save 51 = .ok (.aload_n 0, 1) := by decide +kernel
theorem dX5_save_52 : decode cX5_save 52 = .ok (.getfield 46, 3) := by decide +kernel
theorem dX5_save_55 : decode cX5_save 55 = .ok (.iconst 0, 1) := by decide +kernel
theorem dX5_save_56 : decode cX5_save 56 = .ok (.iconst 2, 1) := by decide +kernel
theorem dX5_save_57 : decode cX5_save 57 = .ok (.invokevirtual 272, 3) := by decide +kernel
theorem dX5_save_60 : decode cX5_save 60 = .ok (.iload_n 2, 1) := by decide +kernel
theorem dX5_save_61 : decode cX5_save 61 = .ok (.i2l, 1) := by decide +kernel
theorem dX5_save_62 : decode cX5_save 62 = .ok (.invokestatic 136, 3) := by decide +kernel
theorem dX5_save_65 : decode cX5_save 65 = .ok (.l2i, 1) := by decide +kernel
theorem dX5_save_66 : decode cX5_save 66 = .ok (.aload_n 0, 1) := by decide +kernel
theorem dX5_save_67 : decode cX5_save 67 = .ok (.getfield 46, 3) := by decide +kernel
theorem dX5_save_70 : decode cX5_save 70 = .ok (.iload_n 2, 1) := by decide +kernel
theorem dX5_save_71 : decode cX5_save 71 = .ok (.invokevirtual 247, 3) := by decide +kernel
theorem dX5_save_74 : decode cX5_save 74 = .ok (.isub, 1) := by decide +kernel
theorem dX5_save_75 : decode cX5_save 75 = .ok (.ireturn, 1) := by decide +kernel
theorem dX5_luck_0 : decode cX5_luck 0 = .ok (.aload_n 0, 1) := by decide +kernel
theorem dX5_luck_1 : decode cX5_luck 1 = .ok (.getfield 12, 3) := by decide +kernel
theorem dX5_luck_4 : decode cX5_luck 4 = .ok (.iload_n 1, 1) := by decide +kernel
theorem dX5_luck_5 : decode cX5_luck 5 = .ok (.invokevirtual 99, 3) := by decide +kernel
theorem dX5_luck_8 : decode cX5_luck 8 = .ok (.ifCond .ne 10, 3) := by decide +kernel
theorem dX5_luck_11 : decode cX5_luck 11 = .ok (.aload_n 0, 1) := by decide +kernel
theorem dX5_luck_12 : decode cX5_luck 12 = .ok (.bipush (-2), 2) := by decide +kernel
theorem dX5_luck_14 : decode cX5_luck 14 = .ok (.invokevirtual 62, 3) := by decide +kernel
theorem dX5_luck_17 : decode cX5_luck 17 = .ok (.ireturn, 1) := by decide +kernel
theorem dX5_luck_18 : decode cX5_luck 18 = .ok (.aload_n 0, 1) := by decide +kernel
theorem dX5_luck_19 : decode cX5_luck 19 = .ok (.getfield 12, 3) := by decide +kernel
theorem dX5_luck_22 : decode cX5_luck 22 = .ok (.iload_n 1, 1) := by decide +kernel
theorem dX5_luck_23 : decode cX5_luck 23 = .ok (.invokevirtual 116, 3) := by decide +kernel
theorem dX5_luck_26 : decode cX5_luck 26 = .ok (.iconst 1, 1) := by decide +kernel
theorem dX5_luck_27 : decode cX5_luck 27 = .ok (.if_icmp .ne 14, 3) := by decide +kernel
theorem dX5_luck_30 : decode cX5_luck 30 = .ok (.aload_n 0, 1) := by decide +kernel
theorem dX5_luck_31 : decode cX5_luck 31 = .ok (.getfield 12, 3) := by decide +kernel
theorem dX5_luck_34 : decode cX5_luck 34 = .ok (.iload_n 1, 1) := by decide +kernel
theorem dX5_luck_35 : decode cX5_luck 35 = .ok (.invokevirtual 171, 3) := by decide +kernel
theorem dX5_luck_38 : decode cX5_luck 38 = .ok (.ifCond .eq 10, 3) := by decide +kernel
theorem dX5_luck_41 : decode cX5_luck 41 = .ok (.aload_n 0, 1) := by decide +kernel
theorem dX5_luck_42 : decode cX5_luck 42 = .ok (.bipush (-5), 2) := by decide +kernel
theorem dX5_luck_44 : decode cX5_luck 44 = .ok (.invokevirtual 62, 3) := by decide +kernel
theorem dX5_luck_47 : decode cX5_luck 47 = .ok (.ireturn, 1) := by decide +kernel
theorem dX5_luck_48 : decode cX5_luck 48 = .ok (.aload_n 0, 1) := by decide +kernel
theorem dX5_luck_49 : decode cX5_luck 49 = .ok (.getfield 12, 3) := by decide +kernel
theorem dX5_luck_52 : decode cX5_luck 52 = .ok (.iload_n 1, 1) := by decide +kernel
theorem dX5_luck_53 : decode cX5_luck 53 = .ok (.invokevirtual 122, 3) := by decide +kernel
theorem dX5_luck_56 : decode cX5_luck 56 = .ok (.i2l, 1) := by decide +kernel
theorem dX5_luck_57 : decode cX5_luck 57 = .ok (.invokestatic 136, 3) := by decide +kernel
theorem dX5_luck_60 : decode cX5_luck 60 = .ok (.l2i, 1) := by decide +kernel
theorem dX5_luck_61 : decode cX5_luck 61 = .ok (.istore_n 2, 1) := by decide +kernel
theorem dX5_luck_62 : decode cX5_luck 62 = .ok (.iconst 1, 1) := by decide +kernel
theorem dX5_luck_63 : decode cX5_luck 63 = .ok (.aload_n 0, 1) := by decide +kernel
theorem dX5_luck_64 : decode cX5_luck 64 = .ok (.getfield 12, 3) := by decide +kernel
theorem dX5_luck_67 : decode cX5_luck 67 = .ok (.iload_n 1, 1) := by decide +kernel
theorem dX5_luck_68 : decode cX5_luck 68 = .ok (.invokevirtual 129, 3) := by decide +kernel
theorem dX5_luck_71 : decode cX5_luck 71 = .ok (.ishl, 1) := by decide +kernel
theorem dX5_luck_72 : decode cX5_luck 72 = .ok (.iconst 1, 1) := by decide +kernel
theorem dX5_luck_73 : decode cX5_luck 73 = .ok (.isub, 1) := by decide +kernel
theorem dX5_luck_74 : decode cX5_luck 74 = .ok (.istore_n 3, 1) := by decide +kernel
theorem dX5_luck_75 : decode cX5_luck 75 = .ok (.iload_n 2, 1) := by decide +kernel
theorem dX5_luck_76 : decode cX5_luck 76 = .ok (.iconst 2, 1) := by decide +kernel
theorem dX5_luck_77 : decode cX5_luck 77 = .ok (.iload_n 3, 1) := by decide +kernel
theorem dX5_luck_78 : decode cX5_luck 78 = .ok (.imul, 1) := by decide +kernel
theorem dX5_luck_79 : decode cX5_luck 79 = .ok (.iload_n 2, 1) := by decide +kernel
theorem dX5_luck_80 : decode cX5_luck 80 = .ok (.isub, 1) := by decide +kernel
theorem dX5_luck_81 : decode cX5_luck 81 = .ok (.imul, 1) := by decide +kernel
theorem dX5_luck_82 : decode cX5_luck 82 = .ok (.ireturn, 1) := by decide +kernel
theorem dX5_movable_0 : decode cX5_movable 0 = .ok (.aload_n 0, 1) := by decide +kernel
theorem dX5_movable_1 : decode cX5_movable 1 = .ok (.getfield 12, 3) := by decide +kernel
theorem dX5_movable_4 : decode cX5_movable 4 = .ok (.iload_n 1, 1) := by decide +kernel
theorem dX5_movable_5 : decode cX5_movable 5 = .ok (.invokevirtual 99, 3) := by decide +kernel
theorem dX5_movable_8 : decode cX5_movable 8 = .ok (.ifCond .ne 10, 3) := by decide +kernel
theorem dX5_movable_11 : decode cX5_movable 11 = .ok (.aload_n 0, 1) := by decide +kernel
theorem dX5_movable_12 : decode cX5_movable 12 = .ok (.bipush (-2), 2) := by decide +kernel
theorem dX5_movable_14 : decode cX5_movable 14 = .ok (.invokevirtual 62, 3) := by decide +kernel
theorem dX5_movable_17 : decode cX5_movable 17 = .ok (.ireturn, 1) := by decide +kernel
theorem dX5_movable_18 : decode cX5_movable 18 = .ok (.aload_n 0, 1) := by decide +kernel
theorem dX5_movable_19 : decode cX5_movable 19 = .ok (.iload_n 1, 1) := by decide +kernel
theorem dX5_movable_20 : decode cX5_movable 20 = .ok (.invokevirtual 237, 3) := by decide +kernel
theorem dX5_movable_23 : decode cX5_movable 23 = .ok (.aload_n 0, 1) := by decide +kernel
theorem dX5_movable_24 : decode cX5_movable 24 = .ok (.getfield 46, 3) := by decide +kernel
theorem dX5_movable_27 : decode cX5_movable 27 = .ok (.invokevirtual 275, 3) := by decide +kernel
theorem dX5_movable_30 : decode cX5_movable 30 = .ok (.ireturn, 1) := by decide +kernel
theorem dX5_ends_0 : decode cX5_ends 0 = .ok (.aload_n 0, 1) := by decide +kernel
theorem dX5_ends_1 : decode cX5_ends 1 = .ok (.getfield 12, 3) := by decide +kernel
theorem dX5_ends_4 : decode cX5_ends 4 = .ok (.iload_n 1, 1) := by decide +kernel
theorem dX5_ends_5 : decode cX5_ends 5 = .ok (.invokevirtual 99, 3) := by decide +kernel
theorem dX5_ends_8 : decode cX5_ends 8 = .ok (.ifCond .ne 10, 3) := by decide +kernel
theorem dX5_ends_11 : decode cX5_ends 11 = .ok (.aload_n 0, 1) := by decide +kernel
theorem dX5_ends_12 : decode cX5_ends 12 = .ok (.bipush (-2), 2) := by decide +kernel
theorem dX5_ends_14 : decode cX5_ends 14 = .ok (.invokevirtual 62, 3) := by decide +kernel
theorem dX5_ends_17 : decode cX5_ends 17 = .ok (.ireturn, 1) := by decide +kernel
theorem dX5_ends_18 : decode cX5_ends 18 = .ok (.aload_n 0, 1) := by decide +kernel
theorem dX5_ends_19 : decode cX5_ends 19 = .ok (.iload_n 1, 1) := by decide +kernel
theorem dX5_ends_20 : decode cX5_ends 20 = .ok (.invokevirtual 237, 3) := by decide +kernel
theorem dX5_ends_23 : decode cX5_ends 23 = .ok (.aload_n 0, 1) := by decide +kernel
theorem dX5_ends_24 : decode cX5_ends 24 = .ok (.getfield 46, 3) := by decide +kernel
theorem dX5_ends_27 : decode cX5_ends 27 = .ok (.invokevirtual 278, 3) := by decide +kernel
theorem dX5_ends_30 : decode cX5_ends 30 = .ok (.ireturn, 1) := by decide +kernel
theorem dX5_first_0 : decode cX5_first 0 = .ok (.aload_n 0, 1) := by decide +kernel
theorem dX5_first_1 : decode cX5_first 1 = .ok (.getfield 12, 3) := by decide +kernel
theorem dX5_first_4 : decode cX5_first 4 = .ok (.iload_n 1, 1) := by decide +kernel
theorem dX5_first_5 : decode cX5_first 5 = .ok (.iload_n 2, 1) := by decide +kernel
theorem dX5_first_6 : decode cX5_first 6 = .ok (.invokevirtual 177, 3) := by decide +kernel
theorem dX5_first_9 : decode cX5_first 9 = .ok (.ifCond .ne 10, 3) := by decide +kernel
theorem dX5_first_12 : decode cX5_first 12 = .ok (.aload_n 0, 1) := by decide +kernel
theorem dX5_first_13 : decode cX5_first 13 = .ok (.bipush (-2), 2) := by decide +kernel
theorem dX5_first_15 : decode cX5_first 15 = .ok (.invokevirtual 62, 3) := by decide +kernel
theorem dX5_first_18 : decode cX5_first 18 = .ok (.ireturn, 1) := by decide +kernel
theorem dX5_first_19 : decode cX5_first 19 = .ok (.aload_n 0, 1) := by decide +kernel
theorem dX5_first_20 : decode cX5_first 20 = .ok (.iload_n 1, 1) := by decide +kernel
theorem dX5_first_21 : decode cX5_first 21 = .ok (.invokevirtual 237, 3) := by decide +kernel
theorem dX5_first_24 : decode cX5_first 24 = .ok (.aload_n 0, 1) := by decide +kernel
theorem dX5_first_25 : decode cX5_first 25 = .ok (.getfield 46, 3) := by decide +kernel
theorem dX5_first_28 : decode cX5_first 28 = .ok (.iload_n 2, 1) := by decide +kernel
theorem dX5_first_29 : decode cX5_first 29 = .ok (.invokevirtual 281, 3) := by decide +kernel
theorem dX5_first_32 : decode cX5_first 32 = .ok (.ireturn, 1) := by decide +kernel
theorem dX5_chance_0 : decode cX5_chance 0 = .ok (.aload_n 0, 1) := by decide +kernel
theorem dX5_chance_1 : decode cX5_chance 1 = .ok (.getfield 12, 3) := by decide +kernel
theorem dX5_chance_4 : decode cX5_chance 4 = .ok (.iload_n 1, 1) := by decide +kernel
theorem dX5_chance_5 : decode cX5_chance 5 = .ok (.iload_n 2, 1) := by decide +kernel
theorem dX5_chance_6 : decode cX5_chance 6 = .ok (.i2l, 1) := by decide +kernel
theorem dX5_chance_7 : decode cX5_chance 7 = .ok (.invokevirtual 164, 3) := by decide +kernel
theorem dX5_chance_10 : decode cX5_chance 10 = .ok (.ifCond .eq 13, 3) := by decide +kernel
theorem dX5_chance_13 : decode cX5_chance 13 = .ok (.iload_n 3, 1) := by decide +kernel
theorem dX5_chance_14 : decode cX5_chance 14 = .ok (.ifCond .lt 9, 3) := by decide +kernel
theorem dX5_chance_17 : decode cX5_chance 17 = .ok (.iload_n 3, 1) := by decide +kernel
theorem dX5_chance_18 : decode cX5_chance 18 = .ok (.bipush 20, 2) := by decide +kernel
theorem dX5_chance_20 : decode cX5_chance 20 = .ok (.if_icmp .le 10, 3) := by decide +kernel
theorem dX5_chance_23 : decode cX5_chance 23 = .ok (.aload_n 0, 1) := by decide +kernel
theorem dX5_chance_24 : decode cX5_chance 24 = .ok (.bipush (-2), 2) := by decide +kernel
theorem dX5_chance_26 : decode cX5_chance 26 = .ok (.invokevirtual 62, 3) := by decide +kernel
theorem dX5_chance_29 : decode cX5_chance 29 = .ok (.ireturn, 1) := by decide +kernel
theorem dX5_chance_30 : decode cX5_chance 30 = .ok (.aload_n 0, 1) := by decide +kernel
theorem dX5_chance_31 : decode cX5_chance 31 = .ok (.iload_n 1, 1) := by decide +kernel
theorem dX5_chance_32 : decode cX5_chance 32 = .ok (.invokevirtual 253, 3) := by decide +kernel
theorem dX5_chance_35 : decode cX5_chance 35 = .ok (.aload_n 0, 1) := by decide +kernel
theorem dX5_chance_36 : decode cX5_chance 36 = .ok (.getfield 46, 3) := by decide +kernel
theorem dX5_chance_39 : decode cX5_chance 39 = .ok (.aload_n 0, 1) := by decide +kernel
theorem dX5_chance_40 : decode cX5_chance 40 = .ok (.getfield 12, 3) := by decide +kernel
theorem dX5_chance_43 : decode cX5_chance 43 = .ok (.iload_n 1, 1) := by decide +kernel
theorem dX5_chance_44 : decode cX5_chance 44 = .ok (.invokevirtual 122, 3) := by decide +kernel
theorem dX5_chance_47 : decode cX5_chance 47 = .ok (.iload_n 2, 1) := by decide +kernel
theorem dX5_chance_48 : decode cX5_chance 48 = .ok (.iload_n 3, 1) := by decide +kernel
theorem dX5_chance_49 : decode cX5_chance 49 = .ok (.invokevirtual 284, 3) := by decide +kernel
theorem dX5_chance_52 : decode cX5_chance 52 = .ok (.ireturn, 1) := by decide +kernel
theorem dX5_time_0 : decode cX5_time 0 = .ok (.aload_n 0, 1) := by decide +kernel
theorem dX5_time_1 : decode cX5_time 1 = .ok (.getfield 12, 3) := by decide +kernel
theorem dX5_time_4 : decode cX5_time 4 = .ok (.iload_n 1, 1) := by decide +kernel
theorem dX5_time_5 : decode cX5_time 5 = .ok (.iload_n 2, 1) := by decide +kernel
theorem dX5_time_6 : decode cX5_time 6 = .ok (.i2l, 1) := by decide +kernel
theorem dX5_time_7 : decode cX5_time 7 = .ok (.invokevirtual 164, 3) := by decide +kernel
theorem dX5_time_10 : decode cX5_time 10 = .ok (.ifCond .ne 10, 3) := by decide +kernel
theorem dX5_time_13 : decode cX5_time 13 = .ok (.aload_n 0, 1) := by decide +kernel
theorem dX5_time_14 : decode cX5_time 14 = .ok (.bipush (-2), 2) := by decide +kernel
theorem dX5_time_16 : decode cX5_time 16 = .ok (.invokevirtual 62, 3) := by decide +kernel
theorem dX5_time_19 : decode cX5_time 19 = .ok (.ireturn, 1) := by decide +kernel
theorem dX5_time_20 : decode cX5_time 20 = .ok (.aload_n 0, 1) := by decide +kernel
theorem dX5_time_21 : decode cX5_time 21 = .ok (.getfield 12, 3) := by decide +kernel
theorem dX5_time_24 : decode cX5_time 24 = .ok (.iload_n 1, 1) := by decide +kernel
theorem dX5_time_25 : decode cX5_time 25 = .ok (.invokevirtual 122, 3) := by decide +kernel
theorem dX5_time_28 : decode cX5_time 28 = .ok (.istore_n 3, 1) := by decide +kernel
theorem dX5_time_29 : decode cX5_time 29 = .ok (.aload_n 0, 1) := by decide +kernel
theorem dX5_time_30 : decode cX5_time 30 = .ok (.iload_n 1, 1) := by decide +kernel
theorem dX5_time_31 : decode cX5_time 31 = .ok (.iload_n 3, 1) := by decide +kernel
theorem dX5_time_32 : decode cX5_time 32 = .ok (.iload_n 2, 1) := by decide +kernel
theorem dX5_time_33 : decode cX5_time 33 = .ok (.invokevirtual 140, 3) := by decide +kernel
theorem dX5_time_36 : decode cX5_time 36 = .ok (.istore 4, 2) := by decide +kernel
theorem dX5_time_38 : decode cX5_time 38 = .ok (.iload 4, 2) := by decide +kernel
theorem dX5_time_40 : decode cX5_time 40 = .ok (.iconst (-1), 1) := by decide +kernel
theorem dX5_time_41 : decode cX5_time 41 = .ok (.if_icmp .ne 5, 3) := by decide +kernel
theorem dX5_time_44 : decode cX5_time 44 = .ok (.iconst (-1), 1) := by decide +kernel
theorem dX5_time_45 : decode cX5_time 45 = .ok (.ireturn, 1) := by decide +kernel
theorem dX5_time_46 : decode cX5_time 46 = .ok (.iconst 0, 1) := by decide +kernel
theorem dX5_time_47 : decode cX5_time 47 = .ok (.istore 5, 2) := by decide +kernel
theorem dX5_time_49 : decode cX5_time 49 = .ok (.iconst 0, 1) := by decide +kernel
theorem dX5_time_50 : decode cX5_time 50 = .ok (.istore 6, 2) := by decide +kernel
theorem dX5_time_52 : decode cX5_time 52 = .ok (.iload 6, 2) := by decide +kernel
theorem dX5_time_54 : decode cX5_time 54 = .ok (.iload 4, 2) := by decide +kernel
theorem dX5_time_56 : decode cX5_time 56 = .ok (.if_icmp .ge 41, 3) := by decide +kernel
theorem dX5_time_59 : decode cX5_time 59 = .ok (.aload_n 0, 1) := by decide +kernel
theorem dX5_time_60 : decode cX5_time 60 = .ok (.getfield 46, 3) := by decide +kernel
theorem dX5_time_63 : decode cX5_time 63 = .ok (.iload_n 3, 1) := by decide +kernel
theorem dX5_time_64 : decode cX5_time 64 = .ok (.invokevirtual 229, 3) := by decide +kernel
theorem dX5_time_67 : decode cX5_time 67 = .ok (.istore 7, 2) := by decide +kernel
theorem dX5_time_69 : decode cX5_time 69 = .ok (.iload 5, 2) := by decide +kernel
theorem dX5_time_71 : decode cX5_time 71 = .ok (.aload_n 0, 1) := by decide +kernel
theorem dX5_time_72 : decode cX5_time 72 = .ok (.getfield 12, 3) := by decide +kernel
theorem dX5_time_75 : decode cX5_time 75 = .ok (.iload 7, 2) := by decide +kernel
theorem dX5_time_77 : decode cX5_time 77 = .ok (.invokevirtual 287, 3) := by decide +kernel
theorem dX5_time_80 : decode cX5_time 80 = .ok (.iadd, 1) := by decide +kernel
theorem dX5_time_81 : decode cX5_time 81 = .ok (.istore 5, 2) := by decide +kernel
theorem dX5_time_83 : decode cX5_time 83 = .ok (.iload_n 3, 1) := by decide +kernel
theorem dX5_time_84 : decode cX5_time 84 = .ok (.iload 7, 2) := by decide +kernel
theorem dX5_time_86 : decode cX5_time 86 = .ok (.invokestatic 232, 3) := by decide +kernel
theorem dX5_time_89 : decode cX5_time 89 = .ok (.ixor, 1) := by decide +kernel
theorem dX5_time_90 : decode cX5_time 90 = .ok (.istore_n 3, 1) := by decide +kernel
theorem dX5_time_91 : decode cX5_time 91 = .ok (.iinc 6 1, 3) := by decide +kernel
theorem dX5_time_94 : decode cX5_time 94 = .ok (.goto (-42), 3) := by decide +kernel
theorem dX5_time_97 : decode cX5_time 97 = .ok (.iload 5, 2) := by decide +kernel
theorem dX5_time_99 : decode cX5_time 99 = .ok (.ireturn, 1) := by decide +kernel
theorem dX5_bell_0 : decode cX5_bell 0 = .ok (.aload_n 0, 1) := by decide +kernel
theorem dX5_bell_1 : decode cX5_bell 1 = .ok (.getfield 12, 3) := by decide +kernel
theorem dX5_bell_4 : decode cX5_bell 4 = .ok (.iload_n 1, 1) := by decide +kernel
theorem dX5_bell_5 : decode cX5_bell 5 = .ok (.iload_n 2, 1) := by decide +kernel
theorem dX5_bell_6 : decode cX5_bell 6 = .ok (.invokevirtual 177, 3) := by decide +kernel
theorem dX5_bell_9 : decode cX5_bell 9 = .ok (.ifCond .eq 8, 3) := by decide +kernel
theorem dX5_bell_12 : decode cX5_bell 12 = .ok (.iload_n 3, 1) := by decide +kernel
theorem dX5_bell_13 : decode cX5_bell 13 = .ok (.iconst 1, 1) := by decide +kernel
theorem dX5_bell_14 : decode cX5_bell 14 = .ok (.if_icmp .ge 10, 3) := by decide +kernel
theorem dX5_bell_17 : decode cX5_bell 17 = .ok (.aload_n 0, 1) := by decide +kernel
theorem dX5_bell_18 : decode cX5_bell 18 = .ok (.bipush (-2), 2) := by decide +kernel
theorem dX5_bell_20 : decode cX5_bell 20 = .ok (.invokevirtual 62, 3) := by decide +kernel
theorem dX5_bell_23 : decode cX5_bell 23 = .ok (.ireturn, 1) := by decide +kernel
theorem dX5_bell_24 : decode cX5_bell 24 = .ok (.aload_n 0, 1) := by decide +kernel
theorem dX5_bell_25 : decode cX5_bell 25 = .ok (.getfield 12, 3) := by decide +kernel
theorem dX5_bell_28 : decode cX5_bell 28 = .ok (.iload_n 1, 1) := by decide +kernel
theorem dX5_bell_29 : decode cX5_bell 29 = .ok (.invokevirtual 122, 3) := by decide +kernel
theorem dX5_bell_32 : decode cX5_bell 32 = .ok (.istore 4, 2) := by decide +kernel
theorem dX5_bell_34 : decode cX5_bell 34 = .ok (.aload_n 0, 1) := by decide +kernel
theorem dX5_bell_35 : decode cX5_bell 35 = .ok (.iload_n 1, 1) := by decide +kernel
theorem dX5_bell_36 : decode cX5_bell 36 = .ok (.iload 4, 2) := by decide +kernel
theorem dX5_bell_38 : decode cX5_bell 38 = .ok (.iconst 0, 1) := by decide +kernel
theorem dX5_bell_39 : decode cX5_bell 39 = .ok (.invokevirtual 140, 3) := by decide +kernel
theorem dX5_bell_42 : decode cX5_bell 42 = .ok (.istore 5, 2) := by decide +kernel
theorem dX5_bell_44 : decode cX5_bell 44 = .ok (.iconst 0, 1) := by decide +kernel
theorem dX5_bell_45 : decode cX5_bell 45 = .ok (.istore 6, 2) := by decide +kernel
theorem dX5_bell_47 : decode cX5_bell 47 = .ok (.iconst 0, 1) := by decide +kernel
theorem dX5_bell_48 : decode cX5_bell 48 = .ok (.istore 7, 2) := by decide +kernel
theorem dX5_bell_50 : decode cX5_bell 50 = .ok (.iconst 0, 1) := by decide +kernel
theorem dX5_bell_51 : decode cX5_bell 51 = .ok (.istore 8, 2) := by decide +kernel
theorem dX5_bell_53 : decode cX5_bell 53 = .ok (.iload 8, 2) := by decide +kernel
theorem dX5_bell_55 : decode cX5_bell 55 = .ok (.iload 5, 2) := by decide +kernel
theorem dX5_bell_57 : decode cX5_bell 57 = .ok (.if_icmp .ge 71, 3) := by decide +kernel
theorem dX5_bell_60 : decode cX5_bell 60 = .ok (.aload_n 0, 1) := by decide +kernel
theorem dX5_bell_61 : decode cX5_bell 61 = .ok (.getfield 46, 3) := by decide +kernel
theorem dX5_bell_64 : decode cX5_bell 64 = .ok (.iload 4, 2) := by decide +kernel
theorem dX5_bell_66 : decode cX5_bell 66 = .ok (.invokevirtual 229, 3) := by decide +kernel
theorem dX5_bell_69 : decode cX5_bell 69 = .ok (.invokestatic 232, 3) := by decide +kernel
theorem dX5_bell_72 : decode cX5_bell 72 = .ok (.istore 9, 2) := by decide +kernel
theorem dX5_bell_74 : decode cX5_bell 74 = .ok (.iload 7, 2) := by decide +kernel
theorem dX5_bell_76 : decode cX5_bell 76 = .ok (.aload_n 0, 1) := by decide +kernel
theorem dX5_bell_77 : decode cX5_bell 77 = .ok (.getfield 12, 3) := by decide +kernel
theorem dX5_bell_80 : decode cX5_bell 80 = .ok (.aload_n 0, 1) := by decide +kernel
theorem dX5_bell_81 : decode cX5_bell 81 = .ok (.getfield 46, 3) := by decide +kernel
theorem dX5_bell_84 : decode cX5_bell 84 = .ok (.iload 4, 2) := by decide +kernel
theorem dX5_bell_86 : decode cX5_bell 86 = .ok (.invokevirtual 229, 3) := by decide +kernel
theorem dX5_bell_89 : decode cX5_bell 89 = .ok (.invokevirtual 287, 3) := by decide +kernel
theorem dX5_bell_92 : decode cX5_bell 92 = .ok (.iadd, 1) := by decide +kernel
theorem dX5_bell_93 : decode cX5_bell 93 = .ok (.istore 7, 2) := by decide +kernel
theorem dX5_bell_95 : decode cX5_bell 95 = .ok (.iload 6, 2) := by decide +kernel
theorem dX5_bell_97 : decode cX5_bell 97 = .ok (.iload 9, 2) := by decide +kernel
theorem dX5_bell_99 : decode cX5_bell 99 = .ok (.iload_n 2, 1) := by decide +kernel
theorem dX5_bell_100 : decode cX5_bell 100 = .ok (.ishr, 1) := by decide +kernel
theorem dX5_bell_101 : decode cX5_bell 101 = .ok (.iconst 1, 1) := by decide +kernel
theorem dX5_bell_102 : decode cX5_bell 102 = .ok (.iand, 1) := by decide +kernel
theorem dX5_bell_103 : decode cX5_bell 103 = .ok (.iadd, 1) := by decide +kernel
theorem dX5_bell_104 : decode cX5_bell 104 = .ok (.istore 6, 2) := by decide +kernel
theorem dX5_bell_106 : decode cX5_bell 106 = .ok (.iload 6, 2) := by decide +kernel
theorem dX5_bell_108 : decode cX5_bell 108 = .ok (.iload_n 3, 1) := by decide +kernel
theorem dX5_bell_109 : decode cX5_bell 109 = .ok (.if_icmp .ne 6, 3) := by decide +kernel
theorem dX5_bell_112 : decode cX5_bell 112 = .ok (.iload 7, 2) := by decide +kernel
theorem dX5_bell_114 : decode cX5_bell 114 = .ok (.ireturn, 1) := by decide +kernel
theorem dX5_bell_115 : decode cX5_bell 115 = .ok (.iload 4, 2) := by decide +kernel
theorem dX5_bell_117 : decode cX5_bell 117 = .ok (.iload 9, 2) := by decide +kernel
theorem dX5_bell_119 : decode cX5_bell 119 = .ok (.ixor, 1) := by decide +kernel
theorem dX5_bell_120 : decode cX5_bell 120 = .ok (.istore 4, 2) := by decide +kernel
theorem dX5_bell_122 : decode cX5_bell 122 = .ok (.iinc 8 1, 3) := by decide +kernel
theorem dX5_bell_125 : decode cX5_bell 125 = .ok (.goto (-72), 3) := by decide +kernel
theorem dX5_bell_128 : decode cX5_bell 128 = .ok (.iconst (-1), 1) := by decide +kernel
theorem dX5_bell_129 : decode cX5_bell 129 = .ok (.ireturn, 1) := by decide +kernel
theorem dX5_lock_0 : decode cX5_lock 0 = .ok (.iload_n 1, 1) := by decide +kernel
theorem dX5_lock_1 : decode cX5_lock 1 = .ok (.ifCond .lt 10, 3) := by decide +kernel
theorem dX5_lock_4 : decode cX5_lock 4 = .ok (.iload_n 1, 1) := by decide +kernel
theorem dX5_lock_5 : decode cX5_lock 5 = .ok (.ldc_w 290, 3) := by decide +kernel
theorem dX5_lock_8 : decode cX5_lock 8 = .ok (.if_icmp .le 10, 3) := by decide +kernel
theorem dX5_lock_11 : decode cX5_lock 11 = .ok (.aload_n 0, 1) := by decide +kernel
theorem dX5_lock_12 : decode cX5_lock 12 = .ok (.bipush (-2), 2) := by decide +kernel
theorem dX5_lock_14 : decode cX5_lock 14 = .ok (.invokevirtual 62, 3) := by decide +kernel
theorem dX5_lock_17 : decode cX5_lock 17 = .ok (.ireturn, 1) := by decide +kernel
theorem dX5_lock_18 : decode cX5_lock 18 = .ok (.iconst 1, 1) := by decide +kernel
theorem dX5_lock_19 : decode cX5_lock 19 = .ok (.istore_n 2, 1) := by decide +kernel
theorem dX5_lock_20 : decode cX5_lock 20 = .ok (.iload_n 2, 1) := by decide +kernel
theorem dX5_lock_21 : decode cX5_lock 21 = .ok (.bipush 10, 2) := by decide +kernel
theorem dX5_lock_23 : decode cX5_lock 23 = .ok (.if_icmp .gt 23, 3) := by decide +kernel
theorem dX5_lock_26 : decode cX5_lock 26 = .ok (.aload_n 0, 1) := by decide +kernel
theorem dX5_lock_27 : decode cX5_lock 27 = .ok (.getfield 12, 3) := by decide +kernel
theorem dX5_lock_30 : decode cX5_lock 30 = .ok (.iload_n 2, 1) := by decide +kernel
theorem dX5_lock_31 : decode cX5_lock 31 = .ok (.invokevirtual 291, 3) := by decide +kernel
theorem dX5_lock_34 : decode cX5_lock 34 = .ok (.iload_n 1, 1) := by decide +kernel
theorem dX5_lock_35 : decode cX5_lock 35 = .ok (.if_icmp .lt 5, 3) := by decide +kernel
theorem dX5_lock_38 : decode cX5_lock 38 = .ok (.iload_n 2, 1) := by decide +kernel
theorem dX5_lock_39 : decode cX5_lock 39 = .ok (.ireturn, 1) := by decide +kernel
theorem dX5_lock_40 : decode cX5_lock 40 = .ok (.iinc 2 1, 3) := by decide +kernel
theorem dX5_lock_43 : decode cX5_lock 43 = .ok (.goto (-23), 3) := by decide +kernel
theorem dX5_lock_46 : decode cX5_lock 46 = .ok (.iconst (-1), 1) := by decide +kernel
theorem dX5_lock_47 : decode cX5_lock 47 = .ok (.ireturn, 1) := by decide +kernel
theorem dX5_pictures_0 : decode cX5_pictures 0 = .ok (.aload_n 0, 1) := by decide +kernel
theorem dX5_pictures_1 : decode cX5_pictures 1 = .ok (.iload_n 1, 1) := by decide +kernel
theorem dX5_pictures_2 : decode cX5_pictures 2 = .ok (.iload_n 2, 1) := by decide +kernel
theorem dX5_pictures_3 : decode cX5_pictures 3 = .ok (.iload_n 3, 1) := by decide +kernel
theorem dX5_pictures_4 : decode cX5_pictures 4 = .ok (.invokevirtual 294, 3) := by decide +kernel
theorem dX5_pictures_7 : decode cX5_pictures 7 = .ok (.istore 4, 2) := by decide +kernel
theorem dX5_pictures_9 : decode cX5_pictures 9 = .ok (.iload 4, 2) := by decide +kernel
theorem dX5_pictures_11 : decode cX5_pictures 11 = .ok (.ifCond .eq 10, 3) := by decide +kernel
theorem dX5_pictures_14 : decode cX5_pictures 14 = .ok (.aload_n 0, 1) := by decide +kernel
theorem dX5_pictures_15 : decode cX5_pictures 15 = .ok (.iload 4, 2) := by decide +kernel
theorem dX5_pictures_17 : decode cX5_pictures 17 = .ok (.invokevirtual 62, 3) := by decide +kernel
theorem dX5_pictures_20 : decode cX5_pictures 20 = .ok (.ireturn, 1) := by decide +kernel
theorem dX5_pictures_21 : decode cX5_pictures 21 = .ok (.aload_n 0, 1) := by decide +kernel
theorem dX5_pictures_22 : decode cX5_pictures 22 = .ok (.iload_n 3, 1) := by decide +kernel
theorem dX5_pictures_23 : decode cX5_pictures 23 = .ok (.invokevirtual 253, 3) := by decide +kernel
theorem dX5_pictures_26 : decode cX5_pictures 26 = .ok (.iconst 0, 1) := by decide +kernel
theorem dX5_pictures_27 : decode cX5_pictures 27 = .ok (.istore 5, 2) := by decide +kernel
theorem dX5_pictures_29 : decode cX5_pictures 29 = .ok (.iconst 0, 1) := by decide +kernel
theorem dX5_pictures_30 : decode cX5_pictures 30 = .ok (.istore 6, 2) := by decide +kernel
theorem dX5_pictures_32 : decode cX5_pictures 32 = .ok (.iload 6, 2) := by decide +kernel
theorem dX5_pictures_34 : decode cX5_pictures 34 = .ok (.iload_n 2, 1) := by decide +kernel
theorem dX5_pictures_35 : decode cX5_pictures 35 = .ok (.if_icmp .ge 34, 3) := by decide +kernel
theorem dX5_pictures_38 : decode cX5_pictures 38 = .ok (.aload_n 0, 1) := by decide +kernel
theorem dX5_pictures_39 : decode cX5_pictures 39 = .ok (.iload_n 1, 1) := by decide +kernel
theorem dX5_pictures_40 : decode cX5_pictures 40 = .ok (.iload 6, 2) := by decide +kernel
theorem dX5_pictures_42 : decode cX5_pictures 42 = .ok (.iload_n 3, 1) := by decide +kernel
theorem dX5_pictures_43 : decode cX5_pictures 43 = .ok (.invokevirtual 297, 3) := by decide +kernel
theorem dX5_pictures_46 : decode cX5_pictures 46 = .ok (.istore 7, 2) := by decide +kernel
theorem dX5_pictures_48 : decode cX5_pictures 48 = .ok (.iload 7, 2) := by decide +kernel
theorem dX5_pictures_50 : decode cX5_pictures 50 = .ok (.iconst (-1), 1) := by decide +kernel
theorem dX5_pictures_51 : decode cX5_pictures 51 = .ok (.if_icmp .ne 5, 3) := by decide +kernel
theorem dX5_pictures_54 : decode cX5_pictures 54 = .ok (.iconst (-1), 1) := by decide +kernel
theorem dX5_pictures_55 : decode cX5_pictures 55 = .ok (.ireturn, 1) := by decide +kernel
theorem dX5_pictures_56 : decode cX5_pictures 56 = .ok (.iload 5, 2) := by decide +kernel
theorem dX5_pictures_58 : decode cX5_pictures 58 = .ok (.iload 7, 2) := by decide +kernel
theorem dX5_pictures_60 : decode cX5_pictures 60 = .ok (.iadd, 1) := by decide +kernel
theorem dX5_pictures_61 : decode cX5_pictures 61 = .ok (.istore 5, 2) := by decide +kernel
theorem dX5_pictures_63 : decode cX5_pictures 63 = .ok (.iinc 6 1, 3) := by decide +kernel
theorem dX5_pictures_66 : decode cX5_pictures 66 = .ok (.goto (-34), 3) := by decide +kernel
theorem dX5_pictures_69 : decode cX5_pictures 69 = .ok (.iload 5, 2) := by decide +kernel
theorem dX5_pictures_71 : decode cX5_pictures 71 = .ok (.ireturn, 1) := by decide +kernel
theorem dX5_broken_0 : decode cX5_broken 0 = .ok (.aload_n 0, 1) := by decide +kernel
theorem dX5_broken_1 : decode cX5_broken 1 = .ok (.iload_n 1, 1) := by decide +kernel
theorem dX5_broken_2 : decode cX5_broken 2 = .ok (.iload_n 2, 1) := by decide +kernel
theorem dX5_broken_3 : decode cX5_broken 3 = .ok (.iload_n 3, 1) := by decide +kernel
theorem dX5_broken_4 : decode cX5_broken 4 = .ok (.invokevirtual 294, 3) := by decide +kernel
theorem dX5_broken_7 : decode cX5_broken 7 = .ok (.istore 4, 2) := by decide +kernel
theorem dX5_broken_9 : decode cX5_broken 9 = .ok (.iload 4, 2) := by decide +kernel
theorem dX5_broken_11 : decode cX5_broken 11 = .ok (.ifCond .eq 12, 3) := by decide +kernel
theorem dX5_broken_14 : decode cX5_broken 14 = .ok (.aload_n 0, 1) := by decide +kernel
theorem dX5_broken_15 : decode cX5_broken 15 = .ok (.iload 4, 2) := by decide +kernel
theorem dX5_broken_17 : decode cX5_broken 17 = .ok (.invokevirtual 62, 3) := by decide +kernel
theorem dX5_broken_20 : decode cX5_broken 20 = .ok (.goto 10, 3) := by decide +kernel
theorem dX5_broken_23 : decode cX5_broken 23 = .ok (.aload_n 0, 1) := by decide +kernel
theorem dX5_broken_24 : decode cX5_broken 24 = .ok (.iload_n 1, 1) := by decide +kernel
theorem dX5_broken_25 : decode cX5_broken 25 = .ok (.iload_n 2, 1) := by decide +kernel
theorem dX5_broken_26 : decode cX5_broken 26 = .ok (.iload_n 3, 1) := by decide +kernel
theorem dX5_broken_27 : decode cX5_broken 27 = .ok (.invokevirtual 300, 3) := by decide +kernel
theorem dX5_broken_30 : decode cX5_broken 30 = .ok (.ireturn, 1) := by decide +kernel
theorem dX5_once_0 : decode cX5_once 0 = .ok (.aload_n 0, 1) := by decide +kernel
theorem dX5_once_1 : decode cX5_once 1 = .ok (.iload_n 1, 1) := by decide +kernel
theorem dX5_once_2 : decode cX5_once 2 = .ok (.iload_n 2, 1) := by decide +kernel
theorem dX5_once_3 : decode cX5_once 3 = .ok (.iload_n 3, 1) := by decide +kernel
theorem dX5_once_4 : decode cX5_once 4 = .ok (.invokevirtual 294, 3) := by decide +kernel
theorem dX5_once_7 : decode cX5_once 7 = .ok (.istore 4, 2) := by decide +kernel
theorem dX5_once_9 : decode cX5_once 9 = .ok (.iload 4, 2) := by decide +kernel
theorem dX5_once_11 : decode cX5_once 11 = .ok (.ifCond .eq 10, 3) := by decide +kernel
theorem dX5_once_14 : decode cX5_once 14 = .ok (.aload_n 0, 1) := by decide +kernel
theorem dX5_once_15 : decode cX5_once 15 = .ok (.iload 4, 2) := by decide +kernel
theorem dX5_once_17 : decode cX5_once 17 = .ok (.invokevirtual 62, 3) := by decide +kernel
theorem dX5_once_20 : decode cX5_once 20 = .ok (.ireturn, 1) := by decide +kernel
theorem dX5_once_21 : decode cX5_once 21 = .ok (.aload_n 0, 1) := by decide +kernel
theorem dX5_once_22 : decode cX5_once 22 = .ok (.iload_n 1, 1) := by decide +kernel
theorem dX5_once_23 : decode cX5_once 23 = .ok (.iload_n 2, 1) := by decide +kernel
theorem dX5_once_24 : decode cX5_once 24 = .ok (.iload_n 3, 1) := by decide +kernel
theorem dX5_once_25 : decode cX5_once 25 = .ok (.invokevirtual 300, 3) := by decide +kernel
theorem dX5_once_28 : decode cX5_once 28 = .ok (.istore 5, 2) := by decide +kernel
theorem dX5_once_30 : decode cX5_once 30 = .ok (.iload 5, 2) := by decide +kernel
theorem dX5_once_32 : decode cX5_once 32 = .ok (.iconst (-1), 1) := by decide +kernel
theorem dX5_once_33 : decode cX5_once 33 = .ok (.if_icmp .ne 10, 3) := by decide +kernel
theorem dX5_once_36 : decode cX5_once 36 = .ok (.aload_n 0, 1) := by decide +kernel
theorem dX5_once_37 : decode cX5_once 37 = .ok (.bipush (-5), 2) := by decide +kernel
theorem dX5_once_39 : decode cX5_once 39 = .ok (.invokevirtual 62, 3) := by decide +kernel
theorem dX5_once_42 : decode cX5_once 42 = .ok (.ireturn, 1) := by decide +kernel
theorem dX5_once_43 : decode cX5_once 43 = .ok (.aload_n 0, 1) := by decide +kernel
theorem dX5_once_44 : decode cX5_once 44 = .ok (.iload_n 1, 1) := by decide +kernel
theorem dX5_once_45 : decode cX5_once 45 = .ok (.iload 5, 2) := by decide +kernel
theorem dX5_once_47 : decode cX5_once 47 = .ok (.iload_n 3, 1) := by decide +kernel
theorem dX5_once_48 : decode cX5_once 48 = .ok (.invokevirtual 303, 3) := by decide +kernel
theorem dX5_once_51 : decode cX5_once 51 = .ok (.istore 6, 2) := by decide +kernel
theorem dX5_once_53 : decode cX5_once 53 = .ok (.aload_n 0, 1) := by decide +kernel
theorem dX5_once_54 : decode cX5_once 54 = .ok (.getfield 46, 3) := by decide +kernel
theorem dX5_once_57 : decode cX5_once 57 = .ok (.aload_n 0, 1) := by decide +kernel
theorem dX5_once_58 : decode cX5_once 58 = .ok (.getfield 25, 3) := by decide +kernel
theorem dX5_once_61 : decode cX5_once 61 = .ok (.iload_n 1, 1) := by decide +kernel
theorem dX5_once_62 : decode cX5_once 62 = .ok (.iload 5, 2) := by decide +kernel
theorem dX5_once_64 : decode cX5_once 64 = .ok (.invokevirtual 92, 3) := by decide +kernel
theorem dX5_once_67 : decode cX5_once 67 = .ok (.l2i, 1) := by decide +kernel
theorem dX5_once_68 : decode cX5_once 68 = .ok (.iconst 2, 1) := by decide +kernel
theorem dX5_once_69 : decode cX5_once 69 = .ok (.invokevirtual 306, 3) := by decide +kernel
theorem dX5_once_72 : decode cX5_once 72 = .ok (.iconst 0, 1) := by decide +kernel
theorem dX5_once_73 : decode cX5_once 73 = .ok (.istore 7, 2) := by decide +kernel
theorem dX5_once_75 : decode cX5_once 75 = .ok (.iload 7, 2) := by decide +kernel
theorem dX5_once_77 : decode cX5_once 77 = .ok (.aload_n 0, 1) := by decide +kernel
theorem dX5_once_78 : decode cX5_once 78 = .ok (.getfield 12, 3) := by decide +kernel
theorem dX5_once_81 : decode cX5_once 81 = .ok (.iload_n 3, 1) := by decide +kernel
theorem dX5_once_82 : decode cX5_once 82 = .ok (.invokevirtual 129, 3) := by decide +kernel
theorem dX5_once_85 : decode cX5_once 85 = .ok (.if_icmp .ge 30, 3) := by decide +kernel
theorem dX5_once_88 : decode cX5_once 88 = .ok (.aload_n 0, 1) := by decide +kernel
theorem dX5_once_89 : decode cX5_once 89 = .ok (.getfield 46, 3) := by decide +kernel
theorem dX5_once_92 : decode cX5_once 92 = .ok (.iload 6, 2) := by decide +kernel
theorem dX5_once_94 : decode cX5_once 94 = .ok (.iconst 1, 1) := by decide +kernel
theorem dX5_once_95 : decode cX5_once 95 = .ok (.iload 7, 2) := by decide +kernel
theorem dX5_once_97 : decode cX5_once 97 = .ok (.ishl, 1) := by decide +kernel
theorem dX5_once_98 : decode cX5_once 98 = .ok (.ixor, 1) := by decide +kernel
theorem dX5_once_99 : decode cX5_once 99 = .ok (.invokevirtual 247, 3) := by decide +kernel
theorem dX5_once_102 : decode cX5_once 102 = .ok (.iconst (-1), 1) := by decide +kernel
theorem dX5_once_103 : decode cX5_once 103 = .ok (.if_icmp .eq 6, 3) := by decide +kernel
theorem dX5_once_106 : decode cX5_once 106 = .ok (.iload 7, 2) := by decide +kernel
theorem dX5_once_108 : decode cX5_once 108 = .ok (.ireturn, 1) := by decide +kernel
theorem dX5_once_109 : decode cX5_once 109 = .ok (.iinc 7 1, 3) := by decide +kernel
theorem dX5_once_112 : decode cX5_once 112 = .ok (.goto (-37), 3) := by decide +kernel
theorem dX5_once_115 : decode cX5_once 115 = .ok (.iconst (-1), 1) := by decide +kernel
theorem dX5_once_116 : decode cX5_once 116 = .ok (.ireturn, 1) := by decide +kernel
theorem dX5_judge_0 : decode cX5_judge 0 = .ok (.aload_n 0, 1) := by decide +kernel
theorem dX5_judge_1 : decode cX5_judge 1 = .ok (.iload_n 1, 1) := by decide +kernel
theorem dX5_judge_2 : decode cX5_judge 2 = .ok (.iload_n 2, 1) := by decide +kernel
theorem dX5_judge_3 : decode cX5_judge 3 = .ok (.iload_n 3, 1) := by decide +kernel
theorem dX5_judge_4 : decode cX5_judge 4 = .ok (.invokevirtual 309, 3) := by decide +kernel
theorem dX5_judge_7 : decode cX5_judge 7 = .ok (.istore 4, 2) := by decide +kernel
theorem dX5_judge_9 : decode cX5_judge 9 = .ok (.iload 4, 2) := by decide +kernel
theorem dX5_judge_11 : decode cX5_judge 11 = .ok (.ifCond .eq 12, 3) := by decide +kernel
theorem dX5_judge_14 : decode cX5_judge 14 = .ok (.aload_n 0, 1) := by decide +kernel
theorem dX5_judge_15 : decode cX5_judge 15 = .ok (.iload 4, 2) := by decide +kernel
theorem dX5_judge_17 : decode cX5_judge 17 = .ok (.invokevirtual 62, 3) := by decide +kernel
theorem dX5_judge_20 : decode cX5_judge 20 = .ok (.goto 10, 3) := by decide +kernel
theorem dX5_judge_23 : decode cX5_judge 23 = .ok (.aload_n 0, 1) := by decide +kernel
theorem dX5_judge_24 : decode cX5_judge 24 = .ok (.iload_n 1, 1) := by decide +kernel
theorem dX5_judge_25 : decode cX5_judge 25 = .ok (.iload_n 2, 1) := by decide +kernel
theorem dX5_judge_26 : decode cX5_judge 26 = .ok (.iload_n 3, 1) := by decide +kernel
theorem dX5_judge_27 : decode cX5_judge 27 = .ok (.invokevirtual 312, 3) := by decide +kernel
theorem dX5_judge_30 : decode cX5_judge 30 = .ok (.ireturn, 1) := by decide +kernel
theorem dX5_behind_0 : decode cX5_behind 0 = .ok (.aload_n 0, 1) := by decide +kernel
theorem dX5_behind_1 : decode cX5_behind 1 = .ok (.iload_n 1, 1) := by decide +kernel
theorem dX5_behind_2 : decode cX5_behind 2 = .ok (.iload_n 2, 1) := by decide +kernel
theorem dX5_behind_3 : decode cX5_behind 3 = .ok (.iload_n 3, 1) := by decide +kernel
theorem dX5_behind_4 : decode cX5_behind 4 = .ok (.invokevirtual 315, 3) := by decide +kernel
theorem dX5_behind_7 : decode cX5_behind 7 = .ok (.istore 4, 2) := by decide +kernel
theorem dX5_behind_9 : decode cX5_behind 9 = .ok (.iload 4, 2) := by decide +kernel
theorem dX5_behind_11 : decode cX5_behind 11 = .ok (.ifCond .eq 12, 3) := by decide +kernel
theorem dX5_behind_14 : decode cX5_behind 14 = .ok (.aload_n 0, 1) := by decide +kernel
theorem dX5_behind_15 : decode cX5_behind 15 = .ok (.iload 4, 2) := by decide +kernel
theorem dX5_behind_17 : decode cX5_behind 17 = .ok (.invokevirtual 62, 3) := by decide +kernel
theorem dX5_behind_20 : decode cX5_behind 20 = .ok (.goto 10, 3) := by decide +kernel
theorem dX5_behind_23 : decode cX5_behind 23 = .ok (.aload_n 0, 1) := by decide +kernel
theorem dX5_behind_24 : decode cX5_behind 24 = .ok (.iload_n 1, 1) := by decide +kernel
theorem dX5_behind_25 : decode cX5_behind 25 = .ok (.iload_n 2, 1) := by decide +kernel
theorem dX5_behind_26 : decode cX5_behind 26 = .ok (.iload_n 3, 1) := by decide +kernel
theorem dX5_behind_27 : decode cX5_behind 27 = .ok (.invokevirtual 318, 3) := by decide +kernel
theorem dX5_behind_30 : decode cX5_behind 30 = .ok (.ireturn, 1) := by decide +kernel
theorem dX5_moved_0 : decode cX5_moved 0 = .ok (.aload_n 0, 1) := by decide +kernel
theorem dX5_moved_1 : decode cX5_moved 1 = .ok (.iload_n 1, 1) := by decide +kernel
theorem dX5_moved_2 : decode cX5_moved 2 = .ok (.iload_n 2, 1) := by decide +kernel
theorem dX5_moved_3 : decode cX5_moved 3 = .ok (.iload_n 3, 1) := by decide +kernel
theorem dX5_moved_4 : decode cX5_moved 4 = .ok (.invokevirtual 315, 3) := by decide +kernel
theorem dX5_moved_7 : decode cX5_moved 7 = .ok (.istore 4, 2) := by decide +kernel
theorem dX5_moved_9 : decode cX5_moved 9 = .ok (.iload 4, 2) := by decide +kernel
theorem dX5_moved_11 : decode cX5_moved 11 = .ok (.ifCond .eq 10, 3) := by decide +kernel
theorem dX5_moved_14 : decode cX5_moved 14 = .ok (.aload_n 0, 1) := by decide +kernel
theorem dX5_moved_15 : decode cX5_moved 15 = .ok (.iload 4, 2) := by decide +kernel
theorem dX5_moved_17 : decode cX5_moved 17 = .ok (.invokevirtual 62, 3) := by decide +kernel
theorem dX5_moved_20 : decode cX5_moved 20 = .ok (.ireturn, 1) := by decide +kernel
theorem dX5_moved_21 : decode cX5_moved 21 = .ok (.iconst 0, 1) := by decide +kernel
theorem dX5_moved_22 : decode cX5_moved 22 = .ok (.istore 5, 2) := by decide +kernel
theorem dX5_moved_24 : decode cX5_moved 24 = .ok (.iload 5, 2) := by decide +kernel
theorem dX5_moved_26 : decode cX5_moved 26 = .ok (.iload_n 2, 1) := by decide +kernel
theorem dX5_moved_27 : decode cX5_moved 27 = .ok (.if_icmp .ge 28, 3) := by decide +kernel
theorem dX5_moved_30 : decode cX5_moved 30 = .ok (.aload_n 0, 1) := by decide +kernel
theorem dX5_moved_31 : decode cX5_moved 31 = .ok (.getfield 12, 3) := by decide +kernel
theorem dX5_moved_34 : decode cX5_moved 34 = .ok (.iload_n 3, 1) := by decide +kernel
theorem dX5_moved_35 : decode cX5_moved 35 = .ok (.aload_n 0, 1) := by decide +kernel
theorem dX5_moved_36 : decode cX5_moved 36 = .ok (.getfield 25, 3) := by decide +kernel
theorem dX5_moved_39 : decode cX5_moved 39 = .ok (.iload_n 1, 1) := by decide +kernel
theorem dX5_moved_40 : decode cX5_moved 40 = .ok (.iload 5, 2) := by decide +kernel
theorem dX5_moved_42 : decode cX5_moved 42 = .ok (.invokevirtual 92, 3) := by decide +kernel
theorem dX5_moved_45 : decode cX5_moved 45 = .ok (.l2i, 1) := by decide +kernel
theorem dX5_moved_46 : decode cX5_moved 46 = .ok (.invokevirtual 226, 3) := by decide +kernel
theorem dX5_moved_49 : decode cX5_moved 49 = .ok (.iinc 5 1, 3) := by decide +kernel
theorem dX5_moved_52 : decode cX5_moved 52 = .ok (.goto (-28), 3) := by decide +kernel
theorem dX5_moved_55 : decode cX5_moved 55 = .ok (.aload_n 0, 1) := by decide +kernel
theorem dX5_moved_56 : decode cX5_moved 56 = .ok (.getfield 12, 3) := by decide +kernel
theorem dX5_moved_59 : decode cX5_moved 59 = .ok (.iload_n 3, 1) := by decide +kernel
theorem dX5_moved_60 : decode cX5_moved 60 = .ok (.invokevirtual 122, 3) := by decide +kernel
theorem dX5_moved_63 : decode cX5_moved 63 = .ok (.ireturn, 1) := by decide +kernel
theorem dX5_game_0 : decode cX5_game 0 = .ok (.aload_n 0, 1) := by decide +kernel
theorem dX5_game_1 : decode cX5_game 1 = .ok (.getfield 12, 3) := by decide +kernel
theorem dX5_game_4 : decode cX5_game 4 = .ok (.iload_n 1, 1) := by decide +kernel
theorem dX5_game_5 : decode cX5_game 5 = .ok (.invokevirtual 99, 3) := by decide +kernel
theorem dX5_game_8 : decode cX5_game 8 = .ok (.ifCond .eq 12, 3) := by decide +kernel
theorem dX5_game_11 : decode cX5_game 11 = .ok (.iload_n 2, 1) := by decide +kernel
theorem dX5_game_12 : decode cX5_game 12 = .ok (.ifCond .lt 8, 3) := by decide +kernel
theorem dX5_game_15 : decode cX5_game 15 = .ok (.iload_n 2, 1) := by decide +kernel
theorem dX5_game_16 : decode cX5_game 16 = .ok (.iconst 1, 1) := by decide +kernel
theorem dX5_game_17 : decode cX5_game 17 = .ok (.if_icmp .le 10, 3) := by decide +kernel
theorem dX5_game_20 : decode cX5_game 20 = .ok (.aload_n 0, 1) := by decide +kernel
theorem dX5_game_21 : decode cX5_game 21 = .ok (.bipush (-2), 2) := by decide +kernel
theorem dX5_game_23 : decode cX5_game 23 = .ok (.invokevirtual 62, 3) := by decide +kernel
theorem dX5_game_26 : decode cX5_game 26 = .ok (.ireturn, 1) := by decide +kernel
theorem dX5_game_27 : decode cX5_game 27 = .ok (.aload_n 0, 1) := by decide +kernel
theorem dX5_game_28 : decode cX5_game 28 = .ok (.getfield 12, 3) := by decide +kernel
theorem dX5_game_31 : decode cX5_game 31 = .ok (.iload_n 1, 1) := by decide +kernel
theorem dX5_game_32 : decode cX5_game 32 = .ok (.invokevirtual 129, 3) := by decide +kernel
theorem dX5_game_35 : decode cX5_game 35 = .ok (.iconst 3, 1) := by decide +kernel
theorem dX5_game_36 : decode cX5_game 36 = .ok (.if_icmp .le 10, 3) := by decide +kernel
theorem dX5_game_39 : decode cX5_game 39 = .ok (.aload_n 0, 1) := by decide +kernel
theorem dX5_game_40 : decode cX5_game 40 = .ok (.bipush (-5), 2) := by decide +kernel
theorem dX5_game_42 : decode cX5_game 42 = .ok (.invokevirtual 62, 3) := by decide +kernel
theorem dX5_game_45 : decode cX5_game 45 = .ok (.ireturn, 1) := by decide +kernel
theorem dX5_game_46 : decode cX5_game 46 = .ok (.aload_n 0, 1) := by decide +kernel
theorem dX5_game_47 : decode cX5_game 47 = .ok (.iload_n 1, 1) := by decide +kernel
theorem dX5_game_48 : decode cX5_game 48 = .ok (.invokevirtual 253, 3) := by decide +kernel
theorem dX5_game_51 : decode cX5_game 51 = .ok (.aload_n 0, 1) := by decide +kernel
theorem dX5_game_52 : decode cX5_game 52 = .ok (.getfield 12, 3) := by decide +kernel
theorem dX5_game_55 : decode cX5_game 55 = .ok (.iload_n 1, 1) := by decide +kernel
theorem dX5_game_56 : decode cX5_game 56 = .ok (.invokevirtual 122, 3) := by decide +kernel
theorem dX5_game_59 : decode cX5_game 59 = .ok (.istore_n 3, 1) := by decide +kernel
theorem dX5_game_60 : decode cX5_game 60 = .ok (.aload_n 0, 1) := by decide +kernel
theorem dX5_game_61 : decode cX5_game 61 = .ok (.getfield 46, 3) := by decide +kernel
theorem dX5_game_64 : decode cX5_game 64 = .ok (.iload_n 3, 1) := by decide +kernel
theorem dX5_game_65 : decode cX5_game 65 = .ok (.iconst 1, 1) := by decide +kernel
theorem dX5_game_66 : decode cX5_game 66 = .ok (.iload_n 3, 1) := by decide +kernel
theorem dX5_game_67 : decode cX5_game 67 = .ok (.ishl, 1) := by decide +kernel
theorem dX5_game_68 : decode cX5_game 68 = .ok (.iconst 0, 1) := by decide +kernel
theorem dX5_game_69 : decode cX5_game 69 = .ok (.invokestatic 321, 3) := by decide +kernel
theorem dX5_game_72 : decode cX5_game 72 = .ok (.istore 4, 2) := by decide +kernel
theorem dX5_game_74 : decode cX5_game 74 = .ok (.iload_n 2, 1) := by decide +kernel
theorem dX5_game_75 : decode cX5_game 75 = .ok (.iconst 1, 1) := by decide +kernel
theorem dX5_game_76 : decode cX5_game 76 = .ok (.if_icmp .ne 6, 3) := by decide +kernel
theorem dX5_game_79 : decode cX5_game 79 = .ok (.iload 4, 2) := by decide +kernel
theorem dX5_game_81 : decode cX5_game 81 = .ok (.ireturn, 1) := by decide +kernel
theorem dX5_game_82 : decode cX5_game 82 = .ok (.iload 4, 2) := by decide +kernel
theorem dX5_game_84 : decode cX5_game 84 = .ok (.iconst (-1), 1) := by decide +kernel
theorem dX5_game_85 : decode cX5_game 85 = .ok (.if_icmp .ne 7, 3) := by decide +kernel
theorem dX5_game_88 : decode cX5_game 88 = .ok (.iconst 0, 1) := by decide +kernel
theorem dX5_game_89 : decode cX5_game 89 = .ok (.goto 4, 3) := by decide +kernel
theorem dX5_game_92 : decode cX5_game 92 = .ok (.iconst 1, 1) := by decide +kernel
theorem dX5_game_93 : decode cX5_game 93 = .ok (.ireturn, 1) := by decide +kernel
theorem dX5_goes_0 : decode cX5_goes 0 = .ok (.aload_n 0, 1) := by decide +kernel
theorem dX5_goes_1 : decode cX5_goes 1 = .ok (.getfield 12, 3) := by decide +kernel
theorem dX5_goes_4 : decode cX5_goes 4 = .ok (.iload_n 1, 1) := by decide +kernel
theorem dX5_goes_5 : decode cX5_goes 5 = .ok (.iload_n 2, 1) := by decide +kernel
theorem dX5_goes_6 : decode cX5_goes 6 = .ok (.i2l, 1) := by decide +kernel
theorem dX5_goes_7 : decode cX5_goes 7 = .ok (.invokevirtual 164, 3) := by decide +kernel
theorem dX5_goes_10 : decode cX5_goes 10 = .ok (.ifCond .eq 14, 3) := by decide +kernel
theorem dX5_goes_13 : decode cX5_goes 13 = .ok (.iload_n 3, 1) := by decide +kernel
theorem dX5_goes_14 : decode cX5_goes 14 = .ok (.iconst 1, 1) := by decide +kernel
theorem dX5_goes_15 : decode cX5_goes 15 = .ok (.if_icmp .lt 9, 3) := by decide +kernel
theorem dX5_goes_18 : decode cX5_goes 18 = .ok (.iload_n 3, 1) := by decide +kernel
theorem dX5_goes_19 : decode cX5_goes 19 = .ok (.bipush 60, 2) := by decide +kernel
theorem dX5_goes_21 : decode cX5_goes 21 = .ok (.if_icmp .le 10, 3) := by decide +kernel
theorem dX5_goes_24 : decode cX5_goes 24 = .ok (.aload_n 0, 1) := by decide +kernel
theorem dX5_goes_25 : decode cX5_goes 25 = .ok (.bipush (-2), 2) := by decide +kernel
theorem dX5_goes_27 : decode cX5_goes 27 = .ok (.invokevirtual 62, 3) := by decide +kernel
theorem dX5_goes_30 : decode cX5_goes 30 = .ok (.ireturn, 1) := by decide +kernel
theorem dX5_goes_31 : decode cX5_goes 31 = .ok (.aload_n 0, 1) := by decide +kernel
theorem dX5_goes_32 : decode cX5_goes 32 = .ok (.iload_n 1, 1) := by decide +kernel
theorem dX5_goes_33 : decode cX5_goes 33 = .ok (.aload_n 0, 1) := by decide +kernel
theorem dX5_goes_34 : decode cX5_goes 34 = .ok (.getfield 12, 3) := by decide +kernel
theorem dX5_goes_37 : decode cX5_goes 37 = .ok (.iload_n 1, 1) := by decide +kernel
theorem dX5_goes_38 : decode cX5_goes 38 = .ok (.invokevirtual 122, 3) := by decide +kernel
theorem dX5_goes_41 : decode cX5_goes 41 = .ok (.iload_n 2, 1) := by decide +kernel
theorem dX5_goes_42 : decode cX5_goes 42 = .ok (.invokevirtual 140, 3) := by decide +kernel
theorem dX5_goes_45 : decode cX5_goes 45 = .ok (.istore 4, 2) := by decide +kernel
theorem dX5_goes_47 : decode cX5_goes 47 = .ok (.iload 4, 2) := by decide +kernel
theorem dX5_goes_49 : decode cX5_goes 49 = .ok (.iconst (-1), 1) := by decide +kernel
theorem dX5_goes_50 : decode cX5_goes 50 = .ok (.if_icmp .ne 10, 3) := by decide +kernel
theorem dX5_goes_53 : decode cX5_goes 53 = .ok (.aload_n 0, 1) := by decide +kernel
theorem dX5_goes_54 : decode cX5_goes 54 = .ok (.bipush (-5), 2) := by decide +kernel
theorem dX5_goes_56 : decode cX5_goes 56 = .ok (.invokevirtual 62, 3) := by decide +kernel
theorem dX5_goes_59 : decode cX5_goes 59 = .ok (.ireturn, 1) := by decide +kernel
theorem dX5_goes_60 : decode cX5_goes 60 = .ok (.iload_n 3, 1) := by decide +kernel
theorem dX5_goes_61 : decode cX5_goes 61 = .ok (.iload 4, 2) := by decide +kernel
theorem dX5_goes_63 : decode cX5_goes 63 = .ok (.invokestatic 325, 3) := by decide +kernel
theorem dX5_goes_66 : decode cX5_goes 66 = .ok (.istore 5, 2) := by decide +kernel
theorem dX5_goes_68 : decode cX5_goes 68 = .ok (.iconst 0, 1) := by decide +kernel
theorem dX5_goes_69 : decode cX5_goes 69 = .ok (.istore 6, 2) := by decide +kernel
theorem dX5_goes_71 : decode cX5_goes 71 = .ok (.iload 6, 2) := by decide +kernel
theorem dX5_goes_73 : decode cX5_goes 73 = .ok (.iload 5, 2) := by decide +kernel
theorem dX5_goes_75 : decode cX5_goes 75 = .ok (.if_icmp .ge 32, 3) := by decide +kernel
theorem dX5_goes_78 : decode cX5_goes 78 = .ok (.aload_n 0, 1) := by decide +kernel
theorem dX5_goes_79 : decode cX5_goes 79 = .ok (.getfield 12, 3) := by decide +kernel
theorem dX5_goes_82 : decode cX5_goes 82 = .ok (.iload_n 1, 1) := by decide +kernel
theorem dX5_goes_83 : decode cX5_goes 83 = .ok (.aload_n 0, 1) := by decide +kernel
theorem dX5_goes_84 : decode cX5_goes 84 = .ok (.getfield 46, 3) := by decide +kernel
theorem dX5_goes_87 : decode cX5_goes 87 = .ok (.aload_n 0, 1) := by decide +kernel
theorem dX5_goes_88 : decode cX5_goes 88 = .ok (.getfield 12, 3) := by decide +kernel
theorem dX5_goes_91 : decode cX5_goes 91 = .ok (.iload_n 1, 1) := by decide +kernel
theorem dX5_goes_92 : decode cX5_goes 92 = .ok (.invokevirtual 122, 3) := by decide +kernel
theorem dX5_goes_95 : decode cX5_goes 95 = .ok (.invokevirtual 229, 3) := by decide +kernel
theorem dX5_goes_98 : decode cX5_goes 98 = .ok (.invokevirtual 226, 3) := by decide +kernel
theorem dX5_goes_101 : decode cX5_goes 101 = .ok (.iinc 6 1, 3) := by decide +kernel
theorem dX5_goes_104 : decode cX5_goes 104 = .ok (.goto (-33), 3) := by decide +kernel
theorem dX5_goes_107 : decode cX5_goes 107 = .ok (.iload 5, 2) := by decide +kernel
theorem dX5_goes_109 : decode cX5_goes 109 = .ok (.ireturn, 1) := by decide +kernel
theorem dX5_play_0 : decode cX5_play 0 = .ok (.aload_n 0, 1) := by decide +kernel
theorem dX5_play_1 : decode cX5_play 1 = .ok (.getfield 12, 3) := by decide +kernel
theorem dX5_play_4 : decode cX5_play 4 = .ok (.iload_n 1, 1) := by decide +kernel
theorem dX5_play_5 : decode cX5_play 5 = .ok (.invokevirtual 99, 3) := by decide +kernel
theorem dX5_play_8 : decode cX5_play 8 = .ok (.ifCond .eq 14, 3) := by decide +kernel
theorem dX5_play_11 : decode cX5_play 11 = .ok (.iload_n 2, 1) := by decide +kernel
theorem dX5_play_12 : decode cX5_play 12 = .ok (.iconst 1, 1) := by decide +kernel
theorem dX5_play_13 : decode cX5_play 13 = .ok (.if_icmp .lt 9, 3) := by decide +kernel
theorem dX5_play_16 : decode cX5_play 16 = .ok (.iload_n 2, 1) := by decide +kernel
theorem dX5_play_17 : decode cX5_play 17 = .ok (.bipush 60, 2) := by decide +kernel
theorem dX5_play_19 : decode cX5_play 19 = .ok (.if_icmp .le 10, 3) := by decide +kernel
theorem dX5_play_22 : decode cX5_play 22 = .ok (.aload_n 0, 1) := by decide +kernel
theorem dX5_play_23 : decode cX5_play 23 = .ok (.bipush (-2), 2) := by decide +kernel
theorem dX5_play_25 : decode cX5_play 25 = .ok (.invokevirtual 62, 3) := by decide +kernel
theorem dX5_play_28 : decode cX5_play 28 = .ok (.ireturn, 1) := by decide +kernel
theorem dX5_play_29 : decode cX5_play 29 = .ok (.aload_n 0, 1) := by decide +kernel
theorem dX5_play_30 : decode cX5_play 30 = .ok (.getfield 39, 3) := by decide +kernel
theorem dX5_play_33 : decode cX5_play 33 = .ok (.aload_n 0, 1) := by decide +kernel
theorem dX5_play_34 : decode cX5_play 34 = .ok (.getfield 12, 3) := by decide +kernel
theorem dX5_play_37 : decode cX5_play 37 = .ok (.iload_n 1, 1) := by decide +kernel
theorem dX5_play_38 : decode cX5_play 38 = .ok (.invokevirtual 330, 3) := by decide +kernel
theorem dX5_play_41 : decode cX5_play 41 = .ok (.iconst 0, 1) := by decide +kernel
theorem dX5_play_42 : decode cX5_play 42 = .ok (.istore_n 3, 1) := by decide +kernel
theorem dX5_play_43 : decode cX5_play 43 = .ok (.iload_n 3, 1) := by decide +kernel
theorem dX5_play_44 : decode cX5_play 44 = .ok (.iload_n 2, 1) := by decide +kernel
theorem dX5_play_45 : decode cX5_play 45 = .ok (.if_icmp .ge 58, 3) := by decide +kernel
theorem dX5_play_48 : decode cX5_play 48 = .ok (.aload_n 0, 1) := by decide +kernel
theorem dX5_play_49 : decode cX5_play 49 = .ok (.getfield 39, 3) := by decide +kernel
theorem dX5_play_52 : decode cX5_play 52 = .ok (.aload_n 0, 1) := by decide +kernel
theorem dX5_play_53 : decode cX5_play 53 = .ok (.getfield 12, 3) := by decide +kernel
theorem dX5_play_56 : decode cX5_play 56 = .ok (.iload_n 1, 1) := by decide +kernel
theorem dX5_play_57 : decode cX5_play 57 = .ok (.invokevirtual 122, 3) := by decide +kernel
theorem dX5_play_60 : decode cX5_play 60 = .ok (.invokevirtual 334, 3) := by decide +kernel
theorem dX5_play_63 : decode cX5_play 63 = .ok (.istore 4, 2) := by decide +kernel
theorem dX5_play_65 : decode cX5_play 65 = .ok (.iload 4, 2) := by decide +kernel
theorem dX5_play_67 : decode cX5_play 67 = .ok (.ifCond .ne 5, 3) := by decide +kernel
theorem dX5_play_70 : decode cX5_play 70 = .ok (.iload_n 3, 1) := by decide +kernel
theorem dX5_play_71 : decode cX5_play 71 = .ok (.ireturn, 1) := by decide +kernel
theorem dX5_play_72 : decode cX5_play 72 = .ok (.aload_n 0, 1) := by decide +kernel
theorem dX5_play_73 : decode cX5_play 73 = .ok (.getfield 12, 3) := by decide +kernel
theorem dX5_play_76 : decode cX5_play 76 = .ok (.iload_n 1, 1) := by decide +kernel
theorem dX5_play_77 : decode cX5_play 77 = .ok (.iload 4, 2) := by decide +kernel
theorem dX5_play_79 : decode cX5_play 79 = .ok (.aload_n 0, 1) := by decide +kernel
theorem dX5_play_80 : decode cX5_play 80 = .ok (.getfield 12, 3) := by decide +kernel
theorem dX5_play_83 : decode cX5_play 83 = .ok (.iload 4, 2) := by decide +kernel
theorem dX5_play_85 : decode cX5_play 85 = .ok (.invokestatic 146, 3) := by decide +kernel
theorem dX5_play_88 : decode cX5_play 88 = .ok (.invokevirtual 337, 3) := by decide +kernel
theorem dX5_play_91 : decode cX5_play 91 = .ok (.invokestatic 340, 3) := by decide +kernel
theorem dX5_play_94 : decode cX5_play 94 = .ok (.invokevirtual 226, 3) := by decide +kernel
theorem dX5_play_97 : decode cX5_play 97 = .ok (.iinc 3 1, 3) := by decide +kernel
theorem dX5_play_100 : decode cX5_play 100 = .ok (.goto (-57), 3) := by decide +kernel
theorem dX5_play_103 : decode cX5_play 103 = .ok (.iload_n 2, 1) := by decide +kernel
theorem dX5_play_104 : decode cX5_play 104 = .ok (.ireturn, 1) := by decide +kernel
theorem dX5_drop_0 : decode cX5_drop 0 = .ok (.aload_n 0, 1) := by decide +kernel
theorem dX5_drop_1 : decode cX5_drop 1 = .ok (.getfield 12, 3) := by decide +kernel
theorem dX5_drop_4 : decode cX5_drop 4 = .ok (.getfield 343, 3) := by decide +kernel
theorem dX5_drop_7 : decode cX5_drop 7 = .ok (.ifCond .ne 10, 3) := by decide +kernel
theorem dX5_drop_10 : decode cX5_drop 10 = .ok (.aload_n 0, 1) := by decide +kernel
theorem dX5_drop_11 : decode cX5_drop 11 = .ok (.bipush (-5), 2) := by decide +kernel
theorem dX5_drop_13 : decode cX5_drop 13 = .ok (.invokevirtual 62, 3) := by decide +kernel
theorem dX5_drop_16 : decode cX5_drop 16 = .ok (.ireturn, 1) := by decide +kernel
theorem dX5_drop_17 : decode cX5_drop 17 = .ok (.aload_n 0, 1) := by decide +kernel
theorem dX5_drop_18 : decode cX5_drop 18 = .ok (.getfield 12, 3) := by decide +kernel
theorem dX5_drop_21 : decode cX5_drop 21 = .ok (.dup, 1) := by decide +kernel
theorem dX5_drop_22 : decode cX5_drop 22 = .ok (.getfield 343, 3) := by decide +kernel
theorem dX5_drop_25 : decode cX5_drop 25 = .ok (.iconst 1, 1) := by decide +kernel
theorem dX5_drop_26 : decode cX5_drop 26 = .ok (.isub, 1) := by decide +kernel
theorem dX5_drop_27 : decode cX5_drop 27 = .ok (.putfield 343, 3) := by decide +kernel
theorem dX5_drop_30 : decode cX5_drop 30 = .ok (.aload_n 0, 1) := by decide +kernel
theorem dX5_drop_31 : decode cX5_drop 31 = .ok (.getfield 25, 3) := by decide +kernel
theorem dX5_drop_34 : decode cX5_drop 34 = .ok (.aload_n 0, 1) := by decide +kernel
theorem dX5_drop_35 : decode cX5_drop 35 = .ok (.getfield 12, 3) := by decide +kernel
theorem dX5_drop_38 : decode cX5_drop 38 = .ok (.getfield 343, 3) := by decide +kernel
theorem dX5_drop_41 : decode cX5_drop 41 = .ok (.invokevirtual 346, 3) := by decide +kernel
theorem dX5_drop_44 : decode cX5_drop 44 = .ok (.aload_n 0, 1) := by decide +kernel
theorem dX5_drop_45 : decode cX5_drop 45 = .ok (.getfield 12, 3) := by decide +kernel
theorem dX5_drop_48 : decode cX5_drop 48 = .ok (.getfield 343, 3) := by decide +kernel
theorem dX5_drop_51 : decode cX5_drop 51 = .ok (.ireturn, 1) := by decide +kernel
theorem dX5_seed_0 : decode cX5_seed 0 = .ok (.aload_n 0, 1) := by decide +kernel
theorem dX5_seed_1 : decode cX5_seed 1 = .ok (.getfield 12, 3) := by decide +kernel
theorem dX5_seed_4 : decode cX5_seed 4 = .ok (.getfield 349, 3) := by decide +kernel
theorem dX5_seed_7 : decode cX5_seed 7 = .ok (.istore_n 2, 1) := by decide +kernel
theorem dX5_seed_8 : decode cX5_seed 8 = .ok (.aload_n 0, 1) := by decide +kernel
theorem dX5_seed_9 : decode cX5_seed 9 = .ok (.getfield 12, 3) := by decide +kernel
theorem dX5_seed_12 : decode cX5_seed 12 = .ok (.iload_n 1, 1) := by decide +kernel
theorem dX5_seed_13 : decode cX5_seed 13 = .ok (.putfield 349, 3) := by decide +kernel
theorem dX5_seed_16 : decode cX5_seed 16 = .ok (.iload_n 2, 1) := by decide +kernel
theorem dX5_seed_17 : decode cX5_seed 17 = .ok (.ireturn, 1) := by decide +kernel
theorem dX5_image_0 : decode cX5_image 0 = .ok (.aload_n 0, 1) := by decide +kernel
theorem dX5_image_1 : decode cX5_image 1 = .ok (.getfield 16, 3) := by decide +kernel
theorem dX5_image_4 : decode cX5_image 4 = .ok (.aload_n 0, 1) := by decide +kernel
theorem dX5_image_5 : decode cX5_image 5 = .ok (.getfield 12, 3) := by decide +kernel
theorem dX5_image_8 : decode cX5_image 8 = .ok (.invokevirtual 209, 3) := by decide +kernel
theorem dX5_image_11 : decode cX5_image 11 = .ok (.aload_n 0, 1) := by decide +kernel
theorem dX5_image_12 : decode cX5_image 12 = .ok (.iconst 1, 1) := by decide +kernel
theorem dX5_image_13 : decode cX5_image 13 = .ok (.putfield 54, 3) := by decide +kernel
theorem dX5_image_16 : decode cX5_image 16 = .ok (.iconst 1, 1) := by decide +kernel
theorem dX5_image_17 : decode cX5_image 17 = .ok (.ireturn, 1) := by decide +kernel
theorem dX5_back_0 : decode cX5_back 0 = .ok (.aload_n 0, 1) := by decide +kernel
theorem dX5_back_1 : decode cX5_back 1 = .ok (.getfield 54, 3) := by decide +kernel
theorem dX5_back_4 : decode cX5_back 4 = .ok (.ifCond .ne 10, 3) := by decide +kernel
theorem dX5_back_7 : decode cX5_back 7 = .ok (.aload_n 0, 1) := by decide +kernel
theorem dX5_back_8 : decode cX5_back 8 = .ok (.bipush (-5), 2) := by decide +kernel
theorem dX5_back_10 : decode cX5_back 10 = .ok (.invokevirtual 62, 3) := by decide +kernel
theorem dX5_back_13 : decode cX5_back 13 = .ok (.ireturn, 1) := by decide +kernel
theorem dX5_back_14 : decode cX5_back 14 = .ok (.aload_n 0, 1) := by decide +kernel
theorem dX5_back_15 : decode cX5_back 15 = .ok (.getfield 12, 3) := by decide +kernel
theorem dX5_back_18 : decode cX5_back 18 = .ok (.aload_n 0, 1) := by decide +kernel
theorem dX5_back_19 : decode cX5_back 19 = .ok (.getfield 16, 3) := by decide +kernel
theorem dX5_back_22 : decode cX5_back 22 = .ok (.invokevirtual 209, 3) := by decide +kernel
theorem dX5_back_25 : decode cX5_back 25 = .ok (.aload_n 0, 1) := by decide +kernel
theorem dX5_back_26 : decode cX5_back 26 = .ok (.getfield 25, 3) := by decide +kernel
theorem dX5_back_29 : decode cX5_back 29 = .ok (.aload_n 0, 1) := by decide +kernel
theorem dX5_back_30 : decode cX5_back 30 = .ok (.getfield 12, 3) := by decide +kernel
theorem dX5_back_33 : decode cX5_back 33 = .ok (.getfield 343, 3) := by decide +kernel
theorem dX5_back_36 : decode cX5_back 36 = .ok (.invokevirtual 346, 3) := by decide +kernel
theorem dX5_back_39 : decode cX5_back 39 = .ok (.iconst 1, 1) := by decide +kernel
theorem dX5_back_40 : decode cX5_back 40 = .ok (.ireturn, 1) := by decide +kernel
theorem dX5_status_0 : decode cX5_status 0 = .ok (.iload_n 1, 1) := by decide +kernel
theorem dX5_status_1 : decode cX5_status 1 = .ok (.tableswitch 111 0 7 #[47, 55, 63, 71, 79, 87, 95, 103], 47) := by decide +kernel
theorem dX5_status_48 : decode cX5_status 48 = .ok (.aload_n 0, 1) := by decide +kernel
theorem dX5_status_49 : decode cX5_status 49 = .ok (.getfield 12, 3) := by decide +kernel
theorem dX5_status_52 : decode cX5_status 52 = .ok (.getfield 343, 3) := by decide +kernel
theorem dX5_status_55 : decode cX5_status 55 = .ok (.ireturn, 1) := by decide +kernel
theorem dX5_status_56 : decode cX5_status 56 = .ok (.aload_n 0, 1) := by decide +kernel
theorem dX5_status_57 : decode cX5_status 57 = .ok (.getfield 12, 3) := by decide +kernel
theorem dX5_status_60 : decode cX5_status 60 = .ok (.invokevirtual 352, 3) := by decide +kernel
theorem dX5_status_63 : decode cX5_status 63 = .ok (.ireturn, 1) := by decide +kernel
theorem dX5_status_64 : decode cX5_status 64 = .ok (.aload_n 0, 1) := by decide +kernel
theorem dX5_status_65 : decode cX5_status 65 = .ok (.getfield 12, 3) := by decide +kernel
theorem dX5_status_68 : decode cX5_status 68 = .ok (.invokevirtual 355, 3) := by decide +kernel
theorem dX5_status_71 : decode cX5_status 71 = .ok (.ireturn, 1) := by decide +kernel
theorem dX5_status_72 : decode cX5_status 72 = .ok (.aload_n 0, 1) := by decide +kernel
theorem dX5_status_73 : decode cX5_status 73 = .ok (.getfield 12, 3) := by decide +kernel
theorem dX5_status_76 : decode cX5_status 76 = .ok (.getfield 358, 3) := by decide +kernel
theorem dX5_status_79 : decode cX5_status 79 = .ok (.ireturn, 1) := by decide +kernel
theorem dX5_status_80 : decode cX5_status 80 = .ok (.aload_n 0, 1) := by decide +kernel
theorem dX5_status_81 : decode cX5_status 81 = .ok (.getfield 12, 3) := by decide +kernel
theorem dX5_status_84 : decode cX5_status 84 = .ok (.invokevirtual 361, 3) := by decide +kernel
theorem dX5_status_87 : decode cX5_status 87 = .ok (.ireturn, 1) := by decide +kernel
theorem dX5_status_88 : decode cX5_status 88 = .ok (.aload_n 0, 1) := by decide +kernel
theorem dX5_status_89 : decode cX5_status 89 = .ok (.getfield 32, 3) := by decide +kernel
theorem dX5_status_92 : decode cX5_status 92 = .ok (.getfield 202, 3) := by decide +kernel
theorem dX5_status_95 : decode cX5_status 95 = .ok (.ireturn, 1) := by decide +kernel
theorem dX5_status_96 : decode cX5_status 96 = .ok (.aload_n 0, 1) := by decide +kernel
theorem dX5_status_97 : decode cX5_status 97 = .ok (.getfield 12, 3) := by decide +kernel
theorem dX5_status_100 : decode cX5_status 100 = .ok (.getfield 349, 3) := by decide +kernel
theorem dX5_status_103 : decode cX5_status 103 = .ok (.ireturn, 1) := by decide +kernel
theorem dX5_status_104 : decode cX5_status 104 = .ok (.aload_n 0, 1) := by decide +kernel
theorem dX5_status_105 : decode cX5_status 105 = .ok (.getfield 25, 3) := by decide +kernel
theorem dX5_status_108 : decode cX5_status 108 = .ok (.invokevirtual 364, 3) := by decide +kernel
theorem dX5_status_111 : decode cX5_status 111 = .ok (.ireturn, 1) := by decide +kernel
theorem dX5_status_112 : decode cX5_status 112 = .ok (.iload_n 1, 1) := by decide +kernel
theorem dX5_status_113 : decode cX5_status 113 = .ok (.bipush 12, 2) := by decide +kernel
theorem dX5_status_115 : decode cX5_status 115 = .ok (.if_icmp .lt 27, 3) := by decide +kernel
theorem dX5_status_118 : decode cX5_status 118 = .ok (.iload_n 1, 1) := by decide +kernel
theorem dX5_status_119 : decode cX5_status 119 = .ok (.bipush 12, 2) := by decide +kernel
theorem dX5_status_121 : decode cX5_status 121 = .ok (.isub, 1) := by decide +kernel
theorem dX5_status_122 : decode cX5_status 122 = .ok (.aload_n 0, 1) := by decide +kernel
theorem dX5_status_123 : decode cX5_status 123 = .ok (.getfield 50, 3) := by decide +kernel
theorem dX5_status_126 : decode cX5_status 126 = .ok (.arraylength, 1) := by decide +kernel
theorem dX5_status_127 : decode cX5_status 127 = .ok (.if_icmp .ge 15, 3) := by decide +kernel
theorem dX5_status_130 : decode cX5_status 130 = .ok (.aload_n 0, 1) := by decide +kernel
theorem dX5_status_131 : decode cX5_status 131 = .ok (.getfield 50, 3) := by decide +kernel
theorem dX5_status_134 : decode cX5_status 134 = .ok (.iload_n 1, 1) := by decide +kernel
theorem dX5_status_135 : decode cX5_status 135 = .ok (.bipush 12, 2) := by decide +kernel
theorem dX5_status_137 : decode cX5_status 137 = .ok (.isub, 1) := by decide +kernel
theorem dX5_status_138 : decode cX5_status 138 = .ok (.iaload, 1) := by decide +kernel
theorem dX5_status_139 : decode cX5_status 139 = .ok (.goto 4, 3) := by decide +kernel
theorem dX5_status_142 : decode cX5_status 142 = .ok (.iconst (-1), 1) := by decide +kernel
theorem dX5_status_143 : decode cX5_status 143 = .ok (.ireturn, 1) := by decide +kernel
theorem dX5_refuse_0 : decode cX5_refuse 0 = .ok (.bipush (-2), 2) := by decide +kernel
theorem dX5_refuse_2 : decode cX5_refuse 2 = .ok (.iload_n 1, 1) := by decide +kernel
theorem dX5_refuse_3 : decode cX5_refuse 3 = .ok (.isub, 1) := by decide +kernel
theorem dX5_refuse_4 : decode cX5_refuse 4 = .ok (.istore_n 2, 1) := by decide +kernel
theorem dX5_refuse_5 : decode cX5_refuse 5 = .ok (.iload_n 2, 1) := by decide +kernel
theorem dX5_refuse_6 : decode cX5_refuse 6 = .ok (.ifCond .lt 22, 3) := by decide +kernel
theorem dX5_refuse_9 : decode cX5_refuse 9 = .ok (.iload_n 2, 1) := by decide +kernel
theorem dX5_refuse_10 : decode cX5_refuse 10 = .ok (.aload_n 0, 1) := by decide +kernel
theorem dX5_refuse_11 : decode cX5_refuse 11 = .ok (.getfield 50, 3) := by decide +kernel
theorem dX5_refuse_14 : decode cX5_refuse 14 = .ok (.arraylength, 1) := by decide +kernel
theorem dX5_refuse_15 : decode cX5_refuse 15 = .ok (.if_icmp .ge 13, 3) := by decide +kernel
theorem dX5_refuse_18 : decode cX5_refuse 18 = .ok (.aload_n 0, 1) := by decide +kernel
theorem dX5_refuse_19 : decode cX5_refuse 19 = .ok (.getfield 50, 3) := by decide +kernel
theorem dX5_refuse_22 : decode cX5_refuse 22 = .ok (.iload_n 2, 1) := by decide +kernel
theorem dX5_refuse_23 : decode cX5_refuse 23 = .ok (.dup2, 1) := by decide +kernel
theorem dX5_refuse_24 : decode cX5_refuse 24 = .ok (.iaload, 1) := by decide +kernel
theorem dX5_refuse_25 : decode cX5_refuse 25 = .ok (.iconst 1, 1) := by decide +kernel
theorem dX5_refuse_26 : decode cX5_refuse 26 = .ok (.iadd, 1) := by decide +kernel
theorem dX5_refuse_27 : decode cX5_refuse 27 = .ok (.iastore, 1) := by decide +kernel
theorem dX5_refuse_28 : decode cX5_refuse 28 = .ok (.iload_n 1, 1) := by decide +kernel
theorem dX5_refuse_29 : decode cX5_refuse 29 = .ok (.ireturn, 1) := by decide +kernel
theorem dX5_legalNow_0 : decode cX5_legalNow 0 = .ok (.aload_n 0, 1) := by decide +kernel
theorem dX5_legalNow_1 : decode cX5_legalNow 1 = .ok (.getfield 39, 3) := by decide +kernel
theorem dX5_legalNow_4 : decode cX5_legalNow 4 = .ok (.aload_n 0, 1) := by decide +kernel
theorem dX5_legalNow_5 : decode cX5_legalNow 5 = .ok (.getfield 12, 3) := by decide +kernel
theorem dX5_legalNow_8 : decode cX5_legalNow 8 = .ok (.iload_n 1, 1) := by decide +kernel
theorem dX5_legalNow_9 : decode cX5_legalNow 9 = .ok (.invokevirtual 330, 3) := by decide +kernel
theorem dX5_legalNow_12 : decode cX5_legalNow 12 = .ok (.aload_n 0, 1) := by decide +kernel
theorem dX5_legalNow_13 : decode cX5_legalNow 13 = .ok (.getfield 39, 3) := by decide +kernel
theorem dX5_legalNow_16 : decode cX5_legalNow 16 = .ok (.aload_n 0, 1) := by decide +kernel
theorem dX5_legalNow_17 : decode cX5_legalNow 17 = .ok (.getfield 12, 3) := by decide +kernel
theorem dX5_legalNow_20 : decode cX5_legalNow 20 = .ok (.iload_n 1, 1) := by decide +kernel
theorem dX5_legalNow_21 : decode cX5_legalNow 21 = .ok (.invokevirtual 122, 3) := by decide +kernel
theorem dX5_legalNow_24 : decode cX5_legalNow 24 = .ok (.invokevirtual 334, 3) := by decide +kernel
theorem dX5_legalNow_27 : decode cX5_legalNow 27 = .ok (.ireturn, 1) := by decide +kernel
theorem dX5_study_0 : decode cX5_study 0 = .ok (.aload_n 0, 1) := by decide +kernel
theorem dX5_study_1 : decode cX5_study 1 = .ok (.getfield 39, 3) := by decide +kernel
theorem dX5_study_4 : decode cX5_study 4 = .ok (.aload_n 0, 1) := by decide +kernel
theorem dX5_study_5 : decode cX5_study 5 = .ok (.getfield 12, 3) := by decide +kernel
theorem dX5_study_8 : decode cX5_study 8 = .ok (.iload_n 1, 1) := by decide +kernel
theorem dX5_study_9 : decode cX5_study 9 = .ok (.invokevirtual 330, 3) := by decide +kernel
theorem dX5_study_12 : decode cX5_study 12 = .ok (.aload_n 0, 1) := by decide +kernel
theorem dX5_study_13 : decode cX5_study 13 = .ok (.getfield 46, 3) := by decide +kernel
theorem dX5_study_16 : decode cX5_study 16 = .ok (.aload_n 0, 1) := by decide +kernel
theorem dX5_study_17 : decode cX5_study 17 = .ok (.getfield 39, 3) := by decide +kernel
theorem dX5_study_20 : decode cX5_study 20 = .ok (.invokevirtual 265, 3) := by decide +kernel
theorem dX5_study_23 : decode cX5_study 23 = .ok (.return_, 1) := by decide +kernel
theorem dX5_leadTo_0 : decode cX5_leadTo 0 = .ok (.aload_n 0, 1) := by decide +kernel
theorem dX5_leadTo_1 : decode cX5_leadTo 1 = .ok (.iload_n 1, 1) := by decide +kernel
theorem dX5_leadTo_2 : decode cX5_leadTo 2 = .ok (.invokevirtual 253, 3) := by decide +kernel
theorem dX5_leadTo_5 : decode cX5_leadTo 5 = .ok (.aload_n 0, 1) := by decide +kernel
theorem dX5_leadTo_6 : decode cX5_leadTo 6 = .ok (.getfield 46, 3) := by decide +kernel
theorem dX5_leadTo_9 : decode cX5_leadTo 9 = .ok (.iload_n 3, 1) := by decide +kernel
theorem dX5_leadTo_10 : decode cX5_leadTo 10 = .ok (.iconst 2, 1) := by decide +kernel
theorem dX5_leadTo_11 : decode cX5_leadTo 11 = .ok (.invokevirtual 306, 3) := by decide +kernel
theorem dX5_leadTo_14 : decode cX5_leadTo 14 = .ok (.aload_n 0, 1) := by decide +kernel
theorem dX5_leadTo_15 : decode cX5_leadTo 15 = .ok (.getfield 46, 3) := by decide +kernel
theorem dX5_leadTo_18 : decode cX5_leadTo 18 = .ok (.iload_n 2, 1) := by decide +kernel
theorem dX5_leadTo_19 : decode cX5_leadTo 19 = .ok (.invokevirtual 247, 3) := by decide +kernel
theorem dX5_leadTo_22 : decode cX5_leadTo 22 = .ok (.ireturn, 1) := by decide +kernel
theorem dX5_spreadFromNow_0 : decode cX5_spreadFromNow 0 = .ok (.aload_n 0, 1) := by decide +kernel
theorem dX5_spreadFromNow_1 : decode cX5_spreadFromNow 1 = .ok (.iload_n 1, 1) := by decide +kernel
theorem dX5_spreadFromNow_2 : decode cX5_spreadFromNow 2 = .ok (.invokevirtual 253, 3) := by decide +kernel
theorem dX5_spreadFromNow_5 : decode cX5_spreadFromNow 5 = .ok (.aload_n 0, 1) := by decide +kernel
theorem dX5_spreadFromNow_6 : decode cX5_spreadFromNow 6 = .ok (.getfield 46, 3) := by decide +kernel
theorem dX5_spreadFromNow_9 : decode cX5_spreadFromNow 9 = .ok (.aload_n 0, 1) := by decide +kernel
theorem dX5_spreadFromNow_10 : decode cX5_spreadFromNow 10 = .ok (.getfield 12, 3) := by decide +kernel
theorem dX5_spreadFromNow_13 : decode cX5_spreadFromNow 13 = .ok (.iload_n 1, 1) := by decide +kernel
theorem dX5_spreadFromNow_14 : decode cX5_spreadFromNow 14 = .ok (.invokevirtual 122, 3) := by decide +kernel
theorem dX5_spreadFromNow_17 : decode cX5_spreadFromNow 17 = .ok (.iconst 1, 1) := by decide +kernel
theorem dX5_spreadFromNow_18 : decode cX5_spreadFromNow 18 = .ok (.invokevirtual 306, 3) := by decide +kernel
theorem dX5_spreadFromNow_21 : decode cX5_spreadFromNow 21 = .ok (.return_, 1) := by decide +kernel
theorem dX5_whyNoRow_0 : decode cX5_whyNoRow 0 = .ok (.iload_n 1, 1) := by decide +kernel
theorem dX5_whyNoRow_1 : decode cX5_whyNoRow 1 = .ok (.invokestatic 58, 3) := by decide +kernel
theorem dX5_whyNoRow_4 : decode cX5_whyNoRow 4 = .ok (.ifCond .eq 26, 3) := by decide +kernel
theorem dX5_whyNoRow_7 : decode cX5_whyNoRow 7 = .ok (.iload_n 2, 1) := by decide +kernel
theorem dX5_whyNoRow_8 : decode cX5_whyNoRow 8 = .ok (.iload_n 3, 1) := by decide +kernel
theorem dX5_whyNoRow_9 : decode cX5_whyNoRow 9 = .ok (.if_icmp .lt 21, 3) := by decide +kernel
theorem dX5_whyNoRow_12 : decode cX5_whyNoRow 12 = .ok (.iload_n 2, 1) := by decide +kernel
theorem dX5_whyNoRow_13 : decode cX5_whyNoRow 13 = .ok (.iload 4, 2) := by decide +kernel
theorem dX5_whyNoRow_15 : decode cX5_whyNoRow 15 = .ok (.if_icmp .gt 15, 3) := by decide +kernel
theorem dX5_whyNoRow_18 : decode cX5_whyNoRow 18 = .ok (.aload_n 0, 1) := by decide +kernel
theorem dX5_whyNoRow_19 : decode cX5_whyNoRow 19 = .ok (.getfield 12, 3) := by decide +kernel
theorem dX5_whyNoRow_22 : decode cX5_whyNoRow 22 = .ok (.iload 5, 2) := by decide +kernel
theorem dX5_whyNoRow_24 : decode cX5_whyNoRow 24 = .ok (.invokevirtual 99, 3) := by decide +kernel
theorem dX5_whyNoRow_27 : decode cX5_whyNoRow 27 = .ok (.ifCond .ne 6, 3) := by decide +kernel
theorem dX5_whyNoRow_30 : decode cX5_whyNoRow 30 = .ok (.bipush (-2), 2) := by decide +kernel
theorem dX5_whyNoRow_32 : decode cX5_whyNoRow 32 = .ok (.ireturn, 1) := by decide +kernel
theorem dX5_whyNoRow_33 : decode cX5_whyNoRow 33 = .ok (.aload_n 0, 1) := by decide +kernel
theorem dX5_whyNoRow_34 : decode cX5_whyNoRow 34 = .ok (.getfield 25, 3) := by decide +kernel
theorem dX5_whyNoRow_37 : decode cX5_whyNoRow 37 = .ok (.iload_n 1, 1) := by decide +kernel
theorem dX5_whyNoRow_38 : decode cX5_whyNoRow 38 = .ok (.invokevirtual 70, 3) := by decide +kernel
theorem dX5_whyNoRow_41 : decode cX5_whyNoRow 41 = .ok (.ifCond .eq 6, 3) := by decide +kernel
theorem dX5_whyNoRow_44 : decode cX5_whyNoRow 44 = .ok (.bipush (-3), 2) := by decide +kernel
theorem dX5_whyNoRow_46 : decode cX5_whyNoRow 46 = .ok (.ireturn, 1) := by decide +kernel
theorem dX5_whyNoRow_47 : decode cX5_whyNoRow 47 = .ok (.aload_n 0, 1) := by decide +kernel
theorem dX5_whyNoRow_48 : decode cX5_whyNoRow 48 = .ok (.getfield 25, 3) := by decide +kernel
theorem dX5_whyNoRow_51 : decode cX5_whyNoRow 51 = .ok (.iload_n 1, 1) := by decide +kernel
theorem dX5_whyNoRow_52 : decode cX5_whyNoRow 52 = .ok (.invokevirtual 73, 3) := by decide +kernel
theorem dX5_whyNoRow_55 : decode cX5_whyNoRow 55 = .ok (.ifCond .eq 6, 3) := by decide +kernel
theorem dX5_whyNoRow_58 : decode cX5_whyNoRow 58 = .ok (.bipush (-4), 2) := by decide +kernel
theorem dX5_whyNoRow_60 : decode cX5_whyNoRow 60 = .ok (.ireturn, 1) := by decide +kernel
theorem dX5_whyNoRow_61 : decode cX5_whyNoRow 61 = .ok (.aload_n 0, 1) := by decide +kernel
theorem dX5_whyNoRow_62 : decode cX5_whyNoRow 62 = .ok (.getfield 25, 3) := by decide +kernel
theorem dX5_whyNoRow_65 : decode cX5_whyNoRow 65 = .ok (.iload_n 1, 1) := by decide +kernel
theorem dX5_whyNoRow_66 : decode cX5_whyNoRow 66 = .ok (.iconst 0, 1) := by decide +kernel
theorem dX5_whyNoRow_67 : decode cX5_whyNoRow 67 = .ok (.iload_n 2, 1) := by decide +kernel
theorem dX5_whyNoRow_68 : decode cX5_whyNoRow 68 = .ok (.invokevirtual 76, 3) := by decide +kernel
theorem dX5_whyNoRow_71 : decode cX5_whyNoRow 71 = .ok (.ifCond .eq 7, 3) := by decide +kernel
theorem dX5_whyNoRow_74 : decode cX5_whyNoRow 74 = .ok (.iconst 0, 1) := by decide +kernel
theorem dX5_whyNoRow_75 : decode cX5_whyNoRow 75 = .ok (.goto 5, 3) := by decide +kernel
theorem dX5_whyNoRow_78 : decode cX5_whyNoRow 78 = .ok (.bipush (-2), 2) := by decide +kernel
theorem dX5_whyNoRow_80 : decode cX5_whyNoRow 80 = .ok (.ireturn, 1) := by decide +kernel
theorem dX5_whyNoPictures_0 : decode cX5_whyNoPictures 0 = .ok (.aload_n 0, 1) := by decide +kernel
theorem dX5_whyNoPictures_1 : decode cX5_whyNoPictures 1 = .ok (.iload_n 1, 1) := by decide +kernel
theorem dX5_whyNoPictures_2 : decode cX5_whyNoPictures 2 = .ok (.iload_n 2, 1) := by decide +kernel
theorem dX5_whyNoPictures_3 : decode cX5_whyNoPictures 3 = .ok (.iconst 1, 1) := by decide +kernel
theorem dX5_whyNoPictures_4 : decode cX5_whyNoPictures 4 = .ok (.bipush 10, 2) := by decide +kernel
theorem dX5_whyNoPictures_6 : decode cX5_whyNoPictures 6 = .ok (.iload_n 3, 1) := by decide +kernel
theorem dX5_whyNoPictures_7 : decode cX5_whyNoPictures 7 = .ok (.invokevirtual 367, 3) := by decide +kernel
theorem dX5_whyNoPictures_10 : decode cX5_whyNoPictures 10 = .ok (.istore 4, 2) := by decide +kernel
theorem dX5_whyNoPictures_12 : decode cX5_whyNoPictures 12 = .ok (.iload 4, 2) := by decide +kernel
theorem dX5_whyNoPictures_14 : decode cX5_whyNoPictures 14 = .ok (.ifCond .eq 6, 3) := by decide +kernel
theorem dX5_whyNoPictures_17 : decode cX5_whyNoPictures 17 = .ok (.iload 4, 2) := by decide +kernel
theorem dX5_whyNoPictures_19 : decode cX5_whyNoPictures 19 = .ok (.ireturn, 1) := by decide +kernel
theorem dX5_whyNoPictures_20 : decode cX5_whyNoPictures 20 = .ok (.iconst 0, 1) := by decide +kernel
theorem dX5_whyNoPictures_21 : decode cX5_whyNoPictures 21 = .ok (.istore 5, 2) := by decide +kernel
theorem dX5_whyNoPictures_23 : decode cX5_whyNoPictures 23 = .ok (.iload 5, 2) := by decide +kernel
theorem dX5_whyNoPictures_25 : decode cX5_whyNoPictures 25 = .ok (.iload_n 2, 1) := by decide +kernel
theorem dX5_whyNoPictures_26 : decode cX5_whyNoPictures 26 = .ok (.if_icmp .ge 33, 3) := by decide +kernel
theorem dX5_whyNoPictures_29 : decode cX5_whyNoPictures 29 = .ok (.aload_n 0, 1) := by decide +kernel
theorem dX5_whyNoPictures_30 : decode cX5_whyNoPictures 30 = .ok (.getfield 12, 3) := by decide +kernel
theorem dX5_whyNoPictures_33 : decode cX5_whyNoPictures 33 = .ok (.iload_n 3, 1) := by decide +kernel
theorem dX5_whyNoPictures_34 : decode cX5_whyNoPictures 34 = .ok (.aload_n 0, 1) := by decide +kernel
theorem dX5_whyNoPictures_35 : decode cX5_whyNoPictures 35 = .ok (.getfield 25, 3) := by decide +kernel
theorem dX5_whyNoPictures_38 : decode cX5_whyNoPictures 38 = .ok (.iload_n 1, 1) := by decide +kernel
theorem dX5_whyNoPictures_39 : decode cX5_whyNoPictures 39 = .ok (.iload 5, 2) := by decide +kernel
theorem dX5_whyNoPictures_41 : decode cX5_whyNoPictures 41 = .ok (.invokevirtual 92, 3) := by decide +kernel
theorem dX5_whyNoPictures_44 : decode cX5_whyNoPictures 44 = .ok (.invokevirtual 164, 3) := by decide +kernel
theorem dX5_whyNoPictures_47 : decode cX5_whyNoPictures 47 = .ok (.ifCond .ne 6, 3) := by decide +kernel
theorem dX5_whyNoPictures_50 : decode cX5_whyNoPictures 50 = .ok (.bipush (-2), 2) := by decide +kernel
theorem dX5_whyNoPictures_52 : decode cX5_whyNoPictures 52 = .ok (.ireturn, 1) := by decide +kernel
theorem dX5_whyNoPictures_53 : decode cX5_whyNoPictures 53 = .ok (.iinc 5 1, 3) := by decide +kernel
theorem dX5_whyNoPictures_56 : decode cX5_whyNoPictures 56 = .ok (.goto (-33), 3) := by decide +kernel
theorem dX5_whyNoPictures_59 : decode cX5_whyNoPictures 59 = .ok (.iconst 0, 1) := by decide +kernel
theorem dX5_whyNoPictures_60 : decode cX5_whyNoPictures 60 = .ok (.ireturn, 1) := by decide +kernel
theorem dX5_whyNoMoves_0 : decode cX5_whyNoMoves 0 = .ok (.aload_n 0, 1) := by decide +kernel
theorem dX5_whyNoMoves_1 : decode cX5_whyNoMoves 1 = .ok (.iload_n 1, 1) := by decide +kernel
theorem dX5_whyNoMoves_2 : decode cX5_whyNoMoves 2 = .ok (.iload_n 2, 1) := by decide +kernel
theorem dX5_whyNoMoves_3 : decode cX5_whyNoMoves 3 = .ok (.iconst 0, 1) := by decide +kernel
theorem dX5_whyNoMoves_4 : decode cX5_whyNoMoves 4 = .ok (.bipush 40, 2) := by decide +kernel
theorem dX5_whyNoMoves_6 : decode cX5_whyNoMoves 6 = .ok (.iload_n 3, 1) := by decide +kernel
theorem dX5_whyNoMoves_7 : decode cX5_whyNoMoves 7 = .ok (.invokevirtual 367, 3) := by decide +kernel
theorem dX5_whyNoMoves_10 : decode cX5_whyNoMoves 10 = .ok (.ireturn, 1) := by decide +kernel
theorem dX5_whyNotMade_0 : decode cX5_whyNotMade 0 = .ok (.aload_n 0, 1) := by decide +kernel
theorem dX5_whyNotMade_1 : decode cX5_whyNotMade 1 = .ok (.iload_n 1, 1) := by decide +kernel
theorem dX5_whyNotMade_2 : decode cX5_whyNotMade 2 = .ok (.iload_n 2, 1) := by decide +kernel
theorem dX5_whyNotMade_3 : decode cX5_whyNotMade 3 = .ok (.iload_n 3, 1) := by decide +kernel
theorem dX5_whyNotMade_4 : decode cX5_whyNotMade 4 = .ok (.invokevirtual 309, 3) := by decide +kernel
theorem dX5_whyNotMade_7 : decode cX5_whyNotMade 7 = .ok (.istore 4, 2) := by decide +kernel
theorem dX5_whyNotMade_9 : decode cX5_whyNotMade 9 = .ok (.iload 4, 2) := by decide +kernel
theorem dX5_whyNotMade_11 : decode cX5_whyNotMade 11 = .ok (.ifCond .eq 6, 3) := by decide +kernel
theorem dX5_whyNotMade_14 : decode cX5_whyNotMade 14 = .ok (.iload 4, 2) := by decide +kernel
theorem dX5_whyNotMade_16 : decode cX5_whyNotMade 16 = .ok (.ireturn, 1) := by decide +kernel
theorem dX5_whyNotMade_17 : decode cX5_whyNotMade 17 = .ok (.aload_n 0, 1) := by decide +kernel
theorem dX5_whyNotMade_18 : decode cX5_whyNotMade 18 = .ok (.iload_n 1, 1) := by decide +kernel
theorem dX5_whyNotMade_19 : decode cX5_whyNotMade 19 = .ok (.iload_n 2, 1) := by decide +kernel
theorem dX5_whyNotMade_20 : decode cX5_whyNotMade 20 = .ok (.iload_n 3, 1) := by decide +kernel
theorem dX5_whyNotMade_21 : decode cX5_whyNotMade 21 = .ok (.invokevirtual 312, 3) := by decide +kernel
theorem dX5_whyNotMade_24 : decode cX5_whyNotMade 24 = .ok (.iconst (-1), 1) := by decide +kernel
theorem dX5_whyNotMade_25 : decode cX5_whyNotMade 25 = .ok (.if_icmp .ne 7, 3) := by decide +kernel
theorem dX5_whyNotMade_28 : decode cX5_whyNotMade 28 = .ok (.iconst 0, 1) := by decide +kernel
theorem dX5_whyNotMade_29 : decode cX5_whyNotMade 29 = .ok (.goto 5, 3) := by decide +kernel
theorem dX5_whyNotMade_32 : decode cX5_whyNotMade 32 = .ok (.bipush (-5), 2) := by decide +kernel
theorem dX5_whyNotMade_34 : decode cX5_whyNotMade 34 = .ok (.ireturn, 1) := by decide +kernel
theorem dX5_pictureAhead_0 : decode cX5_pictureAhead 0 = .ok (.iload_n 2, 1) := by decide +kernel
theorem dX5_pictureAhead_1 : decode cX5_pictureAhead 1 = .ok (.ifCond .ne 14, 3) := by decide +kernel
theorem dX5_pictureAhead_4 : decode cX5_pictureAhead 4 = .ok (.aload_n 0, 1) := by decide +kernel
theorem dX5_pictureAhead_5 : decode cX5_pictureAhead 5 = .ok (.getfield 12, 3) := by decide +kernel
theorem dX5_pictureAhead_8 : decode cX5_pictureAhead 8 = .ok (.iload_n 3, 1) := by decide +kernel
theorem dX5_pictureAhead_9 : decode cX5_pictureAhead 9 = .ok (.invokevirtual 122, 3) := by decide +kernel
theorem dX5_pictureAhead_12 : decode cX5_pictureAhead 12 = .ok (.goto 15, 3) := by decide +kernel
theorem dX5_pictureAhead_15 : decode cX5_pictureAhead 15 = .ok (.aload_n 0, 1) := by decide +kernel
theorem dX5_pictureAhead_16 : decode cX5_pictureAhead 16 = .ok (.getfield 25, 3) := by decide +kernel
theorem dX5_pictureAhead_19 : decode cX5_pictureAhead 19 = .ok (.iload_n 1, 1) := by decide +kernel
theorem dX5_pictureAhead_20 : decode cX5_pictureAhead 20 = .ok (.iload_n 2, 1) := by decide +kernel
theorem dX5_pictureAhead_21 : decode cX5_pictureAhead 21 = .ok (.iconst 1, 1) := by decide +kernel
theorem dX5_pictureAhead_22 : decode cX5_pictureAhead 22 = .ok (.isub, 1) := by decide +kernel
theorem dX5_pictureAhead_23 : decode cX5_pictureAhead 23 = .ok (.invokevirtual 92, 3) := by decide +kernel
theorem dX5_pictureAhead_26 : decode cX5_pictureAhead 26 = .ok (.l2i, 1) := by decide +kernel
theorem dX5_pictureAhead_27 : decode cX5_pictureAhead 27 = .ok (.ireturn, 1) := by decide +kernel
theorem dX5_stepsToPicture_0 : decode cX5_stepsToPicture 0 = .ok (.aload_n 0, 1) := by decide +kernel
theorem dX5_stepsToPicture_1 : decode cX5_stepsToPicture 1 = .ok (.getfield 46, 3) := by decide +kernel
theorem dX5_stepsToPicture_4 : decode cX5_stepsToPicture 4 = .ok (.aload_n 0, 1) := by decide +kernel
theorem dX5_stepsToPicture_5 : decode cX5_stepsToPicture 5 = .ok (.getfield 25, 3) := by decide +kernel
theorem dX5_stepsToPicture_8 : decode cX5_stepsToPicture 8 = .ok (.iload_n 1, 1) := by decide +kernel
theorem dX5_stepsToPicture_9 : decode cX5_stepsToPicture 9 = .ok (.iload_n 2, 1) := by decide +kernel
theorem dX5_stepsToPicture_10 : decode cX5_stepsToPicture 10 = .ok (.invokevirtual 92, 3) := by decide +kernel
theorem dX5_stepsToPicture_13 : decode cX5_stepsToPicture 13 = .ok (.l2i, 1) := by decide +kernel
theorem dX5_stepsToPicture_14 : decode cX5_stepsToPicture 14 = .ok (.iconst 2, 1) := by decide +kernel
theorem dX5_stepsToPicture_15 : decode cX5_stepsToPicture 15 = .ok (.invokevirtual 306, 3) := by decide +kernel
theorem dX5_stepsToPicture_18 : decode cX5_stepsToPicture 18 = .ok (.aload_n 0, 1) := by decide +kernel
theorem dX5_stepsToPicture_19 : decode cX5_stepsToPicture 19 = .ok (.getfield 46, 3) := by decide +kernel
theorem dX5_stepsToPicture_22 : decode cX5_stepsToPicture 22 = .ok (.aload_n 0, 1) := by decide +kernel
theorem dX5_stepsToPicture_23 : decode cX5_stepsToPicture 23 = .ok (.iload_n 1, 1) := by decide +kernel
theorem dX5_stepsToPicture_24 : decode cX5_stepsToPicture 24 = .ok (.iload_n 2, 1) := by decide +kernel
theorem dX5_stepsToPicture_25 : decode cX5_stepsToPicture 25 = .ok (.iload_n 3, 1) := by decide +kernel
theorem dX5_stepsToPicture_26 : decode cX5_stepsToPicture 26 = .ok (.invokevirtual 303, 3) := by decide +kernel
theorem dX5_stepsToPicture_29 : decode cX5_stepsToPicture 29 = .ok (.invokevirtual 247, 3) := by decide +kernel
theorem dX5_stepsToPicture_32 : decode cX5_stepsToPicture 32 = .ok (.ireturn, 1) := by decide +kernel
theorem dX5_brokenPicture_0 : decode cX5_brokenPicture 0 = .ok (.aload_n 0, 1) := by decide +kernel
theorem dX5_brokenPicture_1 : decode cX5_brokenPicture 1 = .ok (.iload_n 3, 1) := by decide +kernel
theorem dX5_brokenPicture_2 : decode cX5_brokenPicture 2 = .ok (.invokevirtual 253, 3) := by decide +kernel
theorem dX5_brokenPicture_5 : decode cX5_brokenPicture 5 = .ok (.iconst 0, 1) := by decide +kernel
theorem dX5_brokenPicture_6 : decode cX5_brokenPicture 6 = .ok (.istore 4, 2) := by decide +kernel
theorem dX5_brokenPicture_8 : decode cX5_brokenPicture 8 = .ok (.iload 4, 2) := by decide +kernel
theorem dX5_brokenPicture_10 : decode cX5_brokenPicture 10 = .ok (.iload_n 2, 1) := by decide +kernel
theorem dX5_brokenPicture_11 : decode cX5_brokenPicture 11 = .ok (.if_icmp .ge 24, 3) := by decide +kernel
theorem dX5_brokenPicture_14 : decode cX5_brokenPicture 14 = .ok (.aload_n 0, 1) := by decide +kernel
theorem dX5_brokenPicture_15 : decode cX5_brokenPicture 15 = .ok (.iload_n 1, 1) := by decide +kernel
theorem dX5_brokenPicture_16 : decode cX5_brokenPicture 16 = .ok (.iload 4, 2) := by decide +kernel
theorem dX5_brokenPicture_18 : decode cX5_brokenPicture 18 = .ok (.iload_n 3, 1) := by decide +kernel
theorem dX5_brokenPicture_19 : decode cX5_brokenPicture 19 = .ok (.invokevirtual 297, 3) := by decide +kernel
theorem dX5_brokenPicture_22 : decode cX5_brokenPicture 22 = .ok (.iconst (-1), 1) := by decide +kernel
theorem dX5_brokenPicture_23 : decode cX5_brokenPicture 23 = .ok (.if_icmp .ne 6, 3) := by decide +kernel
theorem dX5_brokenPicture_26 : decode cX5_brokenPicture 26 = .ok (.iload 4, 2) := by decide +kernel
theorem dX5_brokenPicture_28 : decode cX5_brokenPicture 28 = .ok (.ireturn, 1) := by decide +kernel
theorem dX5_brokenPicture_29 : decode cX5_brokenPicture 29 = .ok (.iinc 4 1, 3) := by decide +kernel
theorem dX5_brokenPicture_32 : decode cX5_brokenPicture 32 = .ok (.goto (-24), 3) := by decide +kernel
theorem dX5_brokenPicture_35 : decode cX5_brokenPicture 35 = .ok (.iconst (-1), 1) := by decide +kernel
theorem dX5_brokenPicture_36 : decode cX5_brokenPicture 36 = .ok (.ireturn, 1) := by decide +kernel
theorem dX5_judgedMove_0 : decode cX5_judgedMove 0 = .ok (.aload_n 0, 1) := by decide +kernel
theorem dX5_judgedMove_1 : decode cX5_judgedMove 1 = .ok (.getfield 39, 3) := by decide +kernel
theorem dX5_judgedMove_4 : decode cX5_judgedMove 4 = .ok (.aload_n 0, 1) := by decide +kernel
theorem dX5_judgedMove_5 : decode cX5_judgedMove 5 = .ok (.getfield 12, 3) := by decide +kernel
theorem dX5_judgedMove_8 : decode cX5_judgedMove 8 = .ok (.iload_n 3, 1) := by decide +kernel
theorem dX5_judgedMove_9 : decode cX5_judgedMove 9 = .ok (.invokevirtual 330, 3) := by decide +kernel
theorem dX5_judgedMove_12 : decode cX5_judgedMove 12 = .ok (.aload_n 0, 1) := by decide +kernel
theorem dX5_judgedMove_13 : decode cX5_judgedMove 13 = .ok (.getfield 12, 3) := by decide +kernel
theorem dX5_judgedMove_16 : decode cX5_judgedMove 16 = .ok (.iload_n 3, 1) := by decide +kernel
theorem dX5_judgedMove_17 : decode cX5_judgedMove 17 = .ok (.invokevirtual 122, 3) := by decide +kernel
theorem dX5_judgedMove_20 : decode cX5_judgedMove 20 = .ok (.istore 4, 2) := by decide +kernel
theorem dX5_judgedMove_22 : decode cX5_judgedMove 22 = .ok (.iconst 0, 1) := by decide +kernel
theorem dX5_judgedMove_23 : decode cX5_judgedMove 23 = .ok (.istore 5, 2) := by decide +kernel
theorem dX5_judgedMove_25 : decode cX5_judgedMove 25 = .ok (.iload 5, 2) := by decide +kernel
theorem dX5_judgedMove_27 : decode cX5_judgedMove 27 = .ok (.iload_n 2, 1) := by decide +kernel
theorem dX5_judgedMove_28 : decode cX5_judgedMove 28 = .ok (.if_icmp .ge 69, 3) := by decide +kernel
theorem dX5_judgedMove_31 : decode cX5_judgedMove 31 = .ok (.aload_n 0, 1) := by decide +kernel
theorem dX5_judgedMove_32 : decode cX5_judgedMove 32 = .ok (.getfield 25, 3) := by decide +kernel
theorem dX5_judgedMove_35 : decode cX5_judgedMove 35 = .ok (.iload_n 1, 1) := by decide +kernel
theorem dX5_judgedMove_36 : decode cX5_judgedMove 36 = .ok (.iload 5, 2) := by decide +kernel
theorem dX5_judgedMove_38 : decode cX5_judgedMove 38 = .ok (.invokevirtual 92, 3) := by decide +kernel
theorem dX5_judgedMove_41 : decode cX5_judgedMove 41 = .ok (.lstore 6, 2) := by decide +kernel
theorem dX5_judgedMove_43 : decode cX5_judgedMove 43 = .ok (.lload 6, 2) := by decide +kernel
theorem dX5_judgedMove_45 : decode cX5_judgedMove 45 = .ok (.lconst 0, 1) := by decide +kernel
theorem dX5_judgedMove_46 : decode cX5_judgedMove 46 = .ok (.lcmp, 1) := by decide +kernel
theorem dX5_judgedMove_47 : decode cX5_judgedMove 47 = .ok (.ifCond .lt 30, 3) := by decide +kernel
theorem dX5_judgedMove_50 : decode cX5_judgedMove 50 = .ok (.lload 6, 2) := by decide +kernel
theorem dX5_judgedMove_52 : decode cX5_judgedMove 52 = .ok (.ldc2_w 371, 3) := by decide +kernel
theorem dX5_judgedMove_55 : decode cX5_judgedMove 55 = .ok (.lcmp, 1) := by decide +kernel
theorem dX5_judgedMove_56 : decode cX5_judgedMove 56 = .ok (.ifCond .gt 21, 3) := by decide +kernel
theorem dX5_judgedMove_59 : decode cX5_judgedMove 59 = .ok (.aload_n 0, 1) := by decide +kernel
theorem dX5_judgedMove_60 : decode cX5_judgedMove 60 = .ok (.getfield 39, 3) := by decide +kernel
theorem dX5_judgedMove_63 : decode cX5_judgedMove 63 = .ok (.iload 4, 2) := by decide +kernel
theorem dX5_judgedMove_65 : decode cX5_judgedMove 65 = .ok (.invokevirtual 334, 3) := by decide +kernel
theorem dX5_judgedMove_68 : decode cX5_judgedMove 68 = .ok (.lload 6, 2) := by decide +kernel
theorem dX5_judgedMove_70 : decode cX5_judgedMove 70 = .ok (.l2i, 1) := by decide +kernel
theorem dX5_judgedMove_71 : decode cX5_judgedMove 71 = .ok (.invokestatic 223, 3) := by decide +kernel
theorem dX5_judgedMove_74 : decode cX5_judgedMove 74 = .ok (.ifCond .ne 6, 3) := by decide +kernel
theorem dX5_judgedMove_77 : decode cX5_judgedMove 77 = .ok (.iload 5, 2) := by decide +kernel
theorem dX5_judgedMove_79 : decode cX5_judgedMove 79 = .ok (.ireturn, 1) := by decide +kernel
theorem dX5_judgedMove_80 : decode cX5_judgedMove 80 = .ok (.iload 4, 2) := by decide +kernel
theorem dX5_judgedMove_82 : decode cX5_judgedMove 82 = .ok (.lload 6, 2) := by decide +kernel
theorem dX5_judgedMove_84 : decode cX5_judgedMove 84 = .ok (.l2i, 1) := by decide +kernel
theorem dX5_judgedMove_85 : decode cX5_judgedMove 85 = .ok (.invokestatic 232, 3) := by decide +kernel
theorem dX5_judgedMove_88 : decode cX5_judgedMove 88 = .ok (.ixor, 1) := by decide +kernel
theorem dX5_judgedMove_89 : decode cX5_judgedMove 89 = .ok (.istore 4, 2) := by decide +kernel
theorem dX5_judgedMove_91 : decode cX5_judgedMove 91 = .ok (.iinc 5 1, 3) := by decide +kernel
theorem dX5_judgedMove_94 : decode cX5_judgedMove 94 = .ok (.goto (-69), 3) := by decide +kernel
theorem dX5_judgedMove_97 : decode cX5_judgedMove 97 = .ok (.iconst (-1), 1) := by decide +kernel
theorem dX5_judgedMove_98 : decode cX5_judgedMove 98 = .ok (.ireturn, 1) := by decide +kernel
theorem dX5_onBehind_0 : decode cX5_onBehind 0 = .ok (.aload_n 0, 1) := by decide +kernel
theorem dX5_onBehind_1 : decode cX5_onBehind 1 = .ok (.getfield 12, 3) := by decide +kernel
theorem dX5_onBehind_4 : decode cX5_onBehind 4 = .ok (.iload_n 3, 1) := by decide +kernel
theorem dX5_onBehind_5 : decode cX5_onBehind 5 = .ok (.invokevirtual 122, 3) := by decide +kernel
theorem dX5_onBehind_8 : decode cX5_onBehind 8 = .ok (.istore 4, 2) := by decide +kernel
theorem dX5_onBehind_10 : decode cX5_onBehind 10 = .ok (.iconst 0, 1) := by decide +kernel
theorem dX5_onBehind_11 : decode cX5_onBehind 11 = .ok (.istore 5, 2) := by decide +kernel
theorem dX5_onBehind_13 : decode cX5_onBehind 13 = .ok (.iload 5, 2) := by decide +kernel
theorem dX5_onBehind_15 : decode cX5_onBehind 15 = .ok (.iload_n 2, 1) := by decide +kernel
theorem dX5_onBehind_16 : decode cX5_onBehind 16 = .ok (.if_icmp .ge 28, 3) := by decide +kernel
theorem dX5_onBehind_19 : decode cX5_onBehind 19 = .ok (.iload 4, 2) := by decide +kernel
theorem dX5_onBehind_21 : decode cX5_onBehind 21 = .ok (.aload_n 0, 1) := by decide +kernel
theorem dX5_onBehind_22 : decode cX5_onBehind 22 = .ok (.getfield 25, 3) := by decide +kernel
theorem dX5_onBehind_25 : decode cX5_onBehind 25 = .ok (.iload_n 1, 1) := by decide +kernel
theorem dX5_onBehind_26 : decode cX5_onBehind 26 = .ok (.iload 5, 2) := by decide +kernel
theorem dX5_onBehind_28 : decode cX5_onBehind 28 = .ok (.invokevirtual 92, 3) := by decide +kernel
theorem dX5_onBehind_31 : decode cX5_onBehind 31 = .ok (.l2i, 1) := by decide +kernel
theorem dX5_onBehind_32 : decode cX5_onBehind 32 = .ok (.invokestatic 232, 3) := by decide +kernel
theorem dX5_onBehind_35 : decode cX5_onBehind 35 = .ok (.ixor, 1) := by decide +kernel
theorem dX5_onBehind_36 : decode cX5_onBehind 36 = .ok (.istore 4, 2) := by decide +kernel
theorem dX5_onBehind_38 : decode cX5_onBehind 38 = .ok (.iinc 5 1, 3) := by decide +kernel
theorem dX5_onBehind_41 : decode cX5_onBehind 41 = .ok (.goto (-28), 3) := by decide +kernel
theorem dX5_onBehind_44 : decode cX5_onBehind 44 = .ok (.iload 4, 2) := by decide +kernel
theorem dX5_onBehind_46 : decode cX5_onBehind 46 = .ok (.ireturn, 1) := by decide +kernel
theorem dX5_isUnder_0 : decode cX5_isUnder 0 = .ok (.iload_n 0, 1) := by decide +kernel
theorem dX5_isUnder_1 : decode cX5_isUnder 1 = .ok (.iload_n 1, 1) := by decide +kernel
theorem dX5_isUnder_2 : decode cX5_isUnder 2 = .ok (.if_icmp .eq 7, 3) := by decide +kernel
theorem dX5_isUnder_5 : decode cX5_isUnder 5 = .ok (.iload_n 1, 1) := by decide +kernel
theorem dX5_isUnder_6 : decode cX5_isUnder 6 = .ok (.ifCond .ne 5, 3) := by decide +kernel
theorem dX5_isUnder_9 : decode cX5_isUnder 9 = .ok (.iconst 1, 1) := by decide +kernel
theorem dX5_isUnder_10 : decode cX5_isUnder 10 = .ok (.ireturn, 1) := by decide +kernel
theorem dX5_isUnder_11 : decode cX5_isUnder 11 = .ok (.iload_n 1, 1) := by decide +kernel
theorem dX5_isUnder_12 : decode cX5_isUnder 12 = .ok (.iconst 1, 1) := by decide +kernel
theorem dX5_isUnder_13 : decode cX5_isUnder 13 = .ok (.if_icmp .ne 17, 3) := by decide +kernel
theorem dX5_isUnder_16 : decode cX5_isUnder 16 = .ok (.iload_n 0, 1) := by decide +kernel
theorem dX5_isUnder_17 : decode cX5_isUnder 17 = .ok (.iconst 2, 1) := by decide +kernel
theorem dX5_isUnder_18 : decode cX5_isUnder 18 = .ok (.if_icmp .eq 8, 3) := by decide +kernel
theorem dX5_isUnder_21 : decode cX5_isUnder 21 = .ok (.iload_n 0, 1) := by decide +kernel
theorem dX5_isUnder_22 : decode cX5_isUnder 22 = .ok (.iconst 4, 1) := by decide +kernel
theorem dX5_isUnder_23 : decode cX5_isUnder 23 = .ok (.if_icmp .ne 7, 3) := by decide +kernel
theorem dX5_isUnder_26 : decode cX5_isUnder 26 = .ok (.iconst 1, 1) := by decide +kernel
theorem dX5_isUnder_27 : decode cX5_isUnder 27 = .ok (.goto 4, 3) := by decide +kernel
theorem dX5_isUnder_30 : decode cX5_isUnder 30 = .ok (.iconst 0, 1) := by decide +kernel
theorem dX5_isUnder_31 : decode cX5_isUnder 31 = .ok (.ireturn, 1) := by decide +kernel
theorem dX5_hasBit_0 : decode cX5_hasBit 0 = .ok (.iload_n 1, 1) := by decide +kernel
theorem dX5_hasBit_1 : decode cX5_hasBit 1 = .ok (.ifCond .lt 21, 3) := by decide +kernel
theorem dX5_hasBit_4 : decode cX5_hasBit 4 = .ok (.iload_n 1, 1) := by decide +kernel
theorem dX5_hasBit_5 : decode cX5_hasBit 5 = .ok (.bipush 32, 2) := by decide +kernel
theorem dX5_hasBit_7 : decode cX5_hasBit 7 = .ok (.if_icmp .ge 15, 3) := by decide +kernel
theorem dX5_hasBit_10 : decode cX5_hasBit 10 = .ok (.iload_n 0, 1) := by decide +kernel
theorem dX5_hasBit_11 : decode cX5_hasBit 11 = .ok (.iload_n 1, 1) := by decide +kernel
theorem dX5_hasBit_12 : decode cX5_hasBit 12 = .ok (.ishr, 1) := by decide +kernel
theorem dX5_hasBit_13 : decode cX5_hasBit 13 = .ok (.iconst 1, 1) := by decide +kernel
theorem dX5_hasBit_14 : decode cX5_hasBit 14 = .ok (.iand, 1) := by decide +kernel
theorem dX5_hasBit_15 : decode cX5_hasBit 15 = .ok (.ifCond .eq 7, 3) := by decide +kernel
theorem dX5_hasBit_18 : decode cX5_hasBit 18 = .ok (.iconst 1, 1) := by decide +kernel
theorem dX5_hasBit_19 : decode cX5_hasBit 19 = .ok (.goto 4, 3) := by decide +kernel
theorem dX5_hasBit_22 : decode cX5_hasBit 22 = .ok (.iconst 0, 1) := by decide +kernel
theorem dX5_hasBit_23 : decode cX5_hasBit 23 = .ok (.ireturn, 1) := by decide +kernel
theorem dX5_ringsOf_0 : decode cX5_ringsOf 0 = .ok (.iload_n 0, 1) := by decide +kernel
theorem dX5_ringsOf_1 : decode cX5_ringsOf 1 = .ok (.bipush 20, 2) := by decide +kernel
theorem dX5_ringsOf_3 : decode cX5_ringsOf 3 = .ok (.if_icmp .ne 5, 3) := by decide +kernel
theorem dX5_ringsOf_6 : decode cX5_ringsOf 6 = .ok (.iconst 3, 1) := by decide +kernel
theorem dX5_ringsOf_7 : decode cX5_ringsOf 7 = .ok (.ireturn, 1) := by decide +kernel
theorem dX5_ringsOf_8 : decode cX5_ringsOf 8 = .ok (.iload_n 0, 1) := by decide +kernel
theorem dX5_ringsOf_9 : decode cX5_ringsOf 9 = .ok (.ifCond .lt 15, 3) := by decide +kernel
theorem dX5_ringsOf_12 : decode cX5_ringsOf 12 = .ok (.iload_n 0, 1) := by decide +kernel
theorem dX5_ringsOf_13 : decode cX5_ringsOf 13 = .ok (.bipush 10, 2) := by decide +kernel
theorem dX5_ringsOf_15 : decode cX5_ringsOf 15 = .ok (.if_icmp .ge 9, 3) := by decide +kernel
theorem dX5_ringsOf_18 : decode cX5_ringsOf 18 = .ok (.iconst 1, 1) := by decide +kernel
theorem dX5_ringsOf_19 : decode cX5_ringsOf 19 = .ok (.iload_n 0, 1) := by decide +kernel
theorem dX5_ringsOf_20 : decode cX5_ringsOf 20 = .ok (.ishl, 1) := by decide +kernel
theorem dX5_ringsOf_21 : decode cX5_ringsOf 21 = .ok (.goto 4, 3) := by decide +kernel
theorem dX5_ringsOf_24 : decode cX5_ringsOf 24 = .ok (.iconst 0, 1) := by decide +kernel
theorem dX5_ringsOf_25 : decode cX5_ringsOf 25 = .ok (.ireturn, 1) := by decide +kernel
theorem dX5_grayPlace_0 : decode cX5_grayPlace 0 = .ok (.lload_n 0, 1) := by decide +kernel
theorem dX5_grayPlace_1 : decode cX5_grayPlace 1 = .ok (.lstore_n 2, 1) := by decide +kernel
theorem dX5_grayPlace_2 : decode cX5_grayPlace 2 = .ok (.iconst 1, 1) := by decide +kernel
theorem dX5_grayPlace_3 : decode cX5_grayPlace 3 = .ok (.istore 4, 2) := by decide +kernel
theorem dX5_grayPlace_5 : decode cX5_grayPlace 5 = .ok (.iload 4, 2) := by decide +kernel
theorem dX5_grayPlace_7 : decode cX5_grayPlace 7 = .ok (.bipush 64, 2) := by decide +kernel
theorem dX5_grayPlace_9 : decode cX5_grayPlace 9 = .ok (.if_icmp .ge 19, 3) := by decide +kernel
theorem dX5_grayPlace_12 : decode cX5_grayPlace 12 = .ok (.lload_n 2, 1) := by decide +kernel
theorem dX5_grayPlace_13 : decode cX5_grayPlace 13 = .ok (.lload_n 2, 1) := by decide +kernel
theorem dX5_grayPlace_14 : decode cX5_grayPlace 14 = .ok (.iload 4, 2) := by decide +kernel
theorem dX5_grayPlace_16 : decode cX5_grayPlace 16 = .ok (.lushr, 1) := by decide +kernel
theorem dX5_grayPlace_17 : decode cX5_grayPlace 17 = .ok (.lxor, 1) := by decide +kernel
theorem dX5_grayPlace_18 : decode cX5_grayPlace 18 = .ok (.lstore_n 2, 1) := by decide +kernel
theorem dX5_grayPlace_19 : decode cX5_grayPlace 19 = .ok (.iload 4, 2) := by decide +kernel
theorem dX5_grayPlace_21 : decode cX5_grayPlace 21 = .ok (.iconst 2, 1) := by decide +kernel
theorem dX5_grayPlace_22 : decode cX5_grayPlace 22 = .ok (.imul, 1) := by decide +kernel
theorem dX5_grayPlace_23 : decode cX5_grayPlace 23 = .ok (.istore 4, 2) := by decide +kernel
theorem dX5_grayPlace_25 : decode cX5_grayPlace 25 = .ok (.goto (-20), 3) := by decide +kernel
theorem dX5_grayPlace_28 : decode cX5_grayPlace 28 = .ok (.lload_n 2, 1) := by decide +kernel
theorem dX5_grayPlace_29 : decode cX5_grayPlace 29 = .ok (.lreturn, 1) := by decide +kernel
theorem dX5_turned_0 : decode cX5_turned 0 = .ok (.iconst 0, 1) := by decide +kernel
theorem dX5_turned_1 : decode cX5_turned 1 = .ok (.istore_n 2, 1) := by decide +kernel
theorem dX5_turned_2 : decode cX5_turned 2 = .ok (.iconst 0, 1) := by decide +kernel
theorem dX5_turned_3 : decode cX5_turned 3 = .ok (.istore_n 3, 1) := by decide +kernel
theorem dX5_turned_4 : decode cX5_turned 4 = .ok (.iload_n 3, 1) := by decide +kernel
theorem dX5_turned_5 : decode cX5_turned 5 = .ok (.iload_n 1, 1) := by decide +kernel
theorem dX5_turned_6 : decode cX5_turned 6 = .ok (.if_icmp .ge 23, 3) := by decide +kernel
theorem dX5_turned_9 : decode cX5_turned 9 = .ok (.iload_n 2, 1) := by decide +kernel
theorem dX5_turned_10 : decode cX5_turned 10 = .ok (.iload_n 0, 1) := by decide +kernel
theorem dX5_turned_11 : decode cX5_turned 11 = .ok (.iload_n 3, 1) := by decide +kernel
theorem dX5_turned_12 : decode cX5_turned 12 = .ok (.ishr, 1) := by decide +kernel
theorem dX5_turned_13 : decode cX5_turned 13 = .ok (.iconst 1, 1) := by decide +kernel
theorem dX5_turned_14 : decode cX5_turned 14 = .ok (.iand, 1) := by decide +kernel
theorem dX5_turned_15 : decode cX5_turned 15 = .ok (.iload_n 1, 1) := by decide +kernel
theorem dX5_turned_16 : decode cX5_turned 16 = .ok (.iconst 1, 1) := by decide +kernel
theorem dX5_turned_17 : decode cX5_turned 17 = .ok (.isub, 1) := by decide +kernel
theorem dX5_turned_18 : decode cX5_turned 18 = .ok (.iload_n 3, 1) := by decide +kernel
theorem dX5_turned_19 : decode cX5_turned 19 = .ok (.isub, 1) := by decide +kernel
theorem dX5_turned_20 : decode cX5_turned 20 = .ok (.ishl, 1) := by decide +kernel
theorem dX5_turned_21 : decode cX5_turned 21 = .ok (.ior, 1) := by decide +kernel
theorem dX5_turned_22 : decode cX5_turned 22 = .ok (.istore_n 2, 1) := by decide +kernel
theorem dX5_turned_23 : decode cX5_turned 23 = .ok (.iinc 3 1, 3) := by decide +kernel
theorem dX5_turned_26 : decode cX5_turned 26 = .ok (.goto (-22), 3) := by decide +kernel
theorem dX5_turned_29 : decode cX5_turned 29 = .ok (.iload_n 2, 1) := by decide +kernel
theorem dX5_turned_30 : decode cX5_turned 30 = .ok (.ireturn, 1) := by decide +kernel
theorem dX5_lastRing_0 : decode cX5_lastRing 0 = .ok (.bipush 9, 2) := by decide +kernel
theorem dX5_lastRing_2 : decode cX5_lastRing 2 = .ok (.istore_n 1, 1) := by decide +kernel
theorem dX5_lastRing_3 : decode cX5_lastRing 3 = .ok (.iload_n 1, 1) := by decide +kernel
theorem dX5_lastRing_4 : decode cX5_lastRing 4 = .ok (.ifCond .lt 19, 3) := by decide +kernel
theorem dX5_lastRing_7 : decode cX5_lastRing 7 = .ok (.iload_n 0, 1) := by decide +kernel
theorem dX5_lastRing_8 : decode cX5_lastRing 8 = .ok (.iload_n 1, 1) := by decide +kernel
theorem dX5_lastRing_9 : decode cX5_lastRing 9 = .ok (.invokestatic 223, 3) := by decide +kernel
theorem dX5_lastRing_12 : decode cX5_lastRing 12 = .ok (.ifCond .eq 5, 3) := by decide +kernel
theorem dX5_lastRing_15 : decode cX5_lastRing 15 = .ok (.iload_n 1, 1) := by decide +kernel
theorem dX5_lastRing_16 : decode cX5_lastRing 16 = .ok (.ireturn, 1) := by decide +kernel
theorem dX5_lastRing_17 : decode cX5_lastRing 17 = .ok (.iinc 1 (-1), 3) := by decide +kernel
theorem dX5_lastRing_20 : decode cX5_lastRing 20 = .ok (.goto (-17), 3) := by decide +kernel
theorem dX5_lastRing_23 : decode cX5_lastRing 23 = .ok (.iconst (-1), 1) := by decide +kernel
theorem dX5_lastRing_24 : decode cX5_lastRing 24 = .ok (.ireturn, 1) := by decide +kernel
theorem dX5_bitByNumber_0 : decode cX5_bitByNumber 0 = .ok (.iload_n 1, 1) := by decide +kernel
theorem dX5_bitByNumber_1 : decode cX5_bitByNumber 1 = .ok (.istore_n 2, 1) := by decide +kernel
theorem dX5_bitByNumber_2 : decode cX5_bitByNumber 2 = .ok (.iconst 0, 1) := by decide +kernel
theorem dX5_bitByNumber_3 : decode cX5_bitByNumber 3 = .ok (.istore_n 3, 1) := by decide +kernel
theorem dX5_bitByNumber_4 : decode cX5_bitByNumber 4 = .ok (.iload_n 3, 1) := by decide +kernel
theorem dX5_bitByNumber_5 : decode cX5_bitByNumber 5 = .ok (.bipush 20, 2) := by decide +kernel
theorem dX5_bitByNumber_7 : decode cX5_bitByNumber 7 = .ok (.if_icmp .gt 26, 3) := by decide +kernel
theorem dX5_bitByNumber_10 : decode cX5_bitByNumber 10 = .ok (.iload_n 0, 1) := by decide +kernel
theorem dX5_bitByNumber_11 : decode cX5_bitByNumber 11 = .ok (.iload_n 3, 1) := by decide +kernel
theorem dX5_bitByNumber_12 : decode cX5_bitByNumber 12 = .ok (.invokestatic 223, 3) := by decide +kernel
theorem dX5_bitByNumber_15 : decode cX5_bitByNumber 15 = .ok (.ifCond .eq 12, 3) := by decide +kernel
theorem dX5_bitByNumber_18 : decode cX5_bitByNumber 18 = .ok (.iload_n 2, 1) := by decide +kernel
theorem dX5_bitByNumber_19 : decode cX5_bitByNumber 19 = .ok (.ifCond .ne 5, 3) := by decide +kernel
theorem dX5_bitByNumber_22 : decode cX5_bitByNumber 22 = .ok (.iload_n 3, 1) := by decide +kernel
theorem dX5_bitByNumber_23 : decode cX5_bitByNumber 23 = .ok (.ireturn, 1) := by decide +kernel
theorem dX5_bitByNumber_24 : decode cX5_bitByNumber 24 = .ok (.iinc 2 (-1), 3) := by decide +kernel
theorem dX5_bitByNumber_27 : decode cX5_bitByNumber 27 = .ok (.iinc 3 1, 3) := by decide +kernel
theorem dX5_bitByNumber_30 : decode cX5_bitByNumber 30 = .ok (.goto (-26), 3) := by decide +kernel
theorem dX5_bitByNumber_33 : decode cX5_bitByNumber 33 = .ok (.iconst (-1), 1) := by decide +kernel
theorem dX5_bitByNumber_34 : decode cX5_bitByNumber 34 = .ok (.ireturn, 1) := by decide +kernel
theorem dX5_winningMove_0 : decode cX5_winningMove 0 = .ok (.iload_n 3, 1) := by decide +kernel
theorem dX5_winningMove_1 : decode cX5_winningMove 1 = .ok (.bipush 8, 2) := by decide +kernel
theorem dX5_winningMove_3 : decode cX5_winningMove 3 = .ok (.if_icmp .le 5, 3) := by decide +kernel
theorem dX5_winningMove_6 : decode cX5_winningMove 6 = .ok (.iconst (-1), 1) := by decide +kernel
theorem dX5_winningMove_7 : decode cX5_winningMove 7 = .ok (.ireturn, 1) := by decide +kernel
theorem dX5_winningMove_8 : decode cX5_winningMove 8 = .ok (.iconst 0, 1) := by decide +kernel
theorem dX5_winningMove_9 : decode cX5_winningMove 9 = .ok (.istore 4, 2) := by decide +kernel
theorem dX5_winningMove_11 : decode cX5_winningMove 11 = .ok (.iload 4, 2) := by decide +kernel
theorem dX5_winningMove_13 : decode cX5_winningMove 13 = .ok (.aload_n 0, 1) := by decide +kernel
theorem dX5_winningMove_14 : decode cX5_winningMove 14 = .ok (.getfield 373, 3) := by decide +kernel
theorem dX5_winningMove_17 : decode cX5_winningMove 17 = .ok (.if_icmp .gt 67, 3) := by decide +kernel
theorem dX5_winningMove_20 : decode cX5_winningMove 20 = .ok (.aload_n 0, 1) := by decide +kernel
theorem dX5_winningMove_21 : decode cX5_winningMove 21 = .ok (.iload 4, 2) := by decide +kernel
theorem dX5_winningMove_23 : decode cX5_winningMove 23 = .ok (.invokevirtual 374, 3) := by decide +kernel
theorem dX5_winningMove_26 : decode cX5_winningMove 26 = .ok (.istore 5, 2) := by decide +kernel
theorem dX5_winningMove_28 : decode cX5_winningMove 28 = .ok (.iload_n 1, 1) := by decide +kernel
theorem dX5_winningMove_29 : decode cX5_winningMove 29 = .ok (.iload 5, 2) := by decide +kernel
theorem dX5_winningMove_31 : decode cX5_winningMove 31 = .ok (.invokestatic 232, 3) := by decide +kernel
theorem dX5_winningMove_34 : decode cX5_winningMove 34 = .ok (.ixor, 1) := by decide +kernel
theorem dX5_winningMove_35 : decode cX5_winningMove 35 = .ok (.istore 6, 2) := by decide +kernel
theorem dX5_winningMove_37 : decode cX5_winningMove 37 = .ok (.aload_n 0, 1) := by decide +kernel
theorem dX5_winningMove_38 : decode cX5_winningMove 38 = .ok (.iload_n 1, 1) := by decide +kernel
theorem dX5_winningMove_39 : decode cX5_winningMove 39 = .ok (.iload 5, 2) := by decide +kernel
theorem dX5_winningMove_41 : decode cX5_winningMove 41 = .ok (.invokevirtual 377, 3) := by decide +kernel
theorem dX5_winningMove_44 : decode cX5_winningMove 44 = .ok (.ifCond .eq 34, 3) := by decide +kernel
theorem dX5_winningMove_47 : decode cX5_winningMove 47 = .ok (.iload_n 2, 1) := by decide +kernel
theorem dX5_winningMove_48 : decode cX5_winningMove 48 = .ok (.iload 6, 2) := by decide +kernel
theorem dX5_winningMove_50 : decode cX5_winningMove 50 = .ok (.invokestatic 223, 3) := by decide +kernel
theorem dX5_winningMove_53 : decode cX5_winningMove 53 = .ok (.ifCond .ne 25, 3) := by decide +kernel
theorem dX5_winningMove_56 : decode cX5_winningMove 56 = .ok (.aload_n 0, 1) := by decide +kernel
theorem dX5_winningMove_57 : decode cX5_winningMove 57 = .ok (.iload 6, 2) := by decide +kernel
theorem dX5_winningMove_59 : decode cX5_winningMove 59 = .ok (.iload_n 2, 1) := by decide +kernel
theorem dX5_winningMove_60 : decode cX5_winningMove 60 = .ok (.iconst 1, 1) := by decide +kernel
theorem dX5_winningMove_61 : decode cX5_winningMove 61 = .ok (.iload 6, 2) := by decide +kernel
theorem dX5_winningMove_63 : decode cX5_winningMove 63 = .ok (.ishl, 1) := by decide +kernel
theorem dX5_winningMove_64 : decode cX5_winningMove 64 = .ok (.ior, 1) := by decide +kernel
theorem dX5_winningMove_65 : decode cX5_winningMove 65 = .ok (.iload_n 3, 1) := by decide +kernel
theorem dX5_winningMove_66 : decode cX5_winningMove 66 = .ok (.iconst 1, 1) := by decide +kernel
theorem dX5_winningMove_67 : decode cX5_winningMove 67 = .ok (.iadd, 1) := by decide +kernel
theorem dX5_winningMove_68 : decode cX5_winningMove 68 = .ok (.invokestatic 321, 3) := by decide +kernel
theorem dX5_winningMove_71 : decode cX5_winningMove 71 = .ok (.iconst (-1), 1) := by decide +kernel
theorem dX5_winningMove_72 : decode cX5_winningMove 72 = .ok (.if_icmp .ne 6, 3) := by decide +kernel
theorem dX5_winningMove_75 : decode cX5_winningMove 75 = .ok (.iload 5, 2) := by decide +kernel
theorem dX5_winningMove_77 : decode cX5_winningMove 77 = .ok (.ireturn, 1) := by decide +kernel
theorem dX5_winningMove_78 : decode cX5_winningMove 78 = .ok (.iinc 4 1, 3) := by decide +kernel
theorem dX5_winningMove_81 : decode cX5_winningMove 81 = .ok (.goto (-70), 3) := by decide +kernel
theorem dX5_winningMove_84 : decode cX5_winningMove 84 = .ok (.iconst (-1), 1) := by decide +kernel
theorem dX5_winningMove_85 : decode cX5_winningMove 85 = .ok (.ireturn, 1) := by decide +kernel
theorem dX6_init_0 : decode cX6_init 0 = .ok (.aload_n 0, 1) := by decide +kernel
theorem dX6_init_1 : decode cX6_init 1 = .ok (.invokespecial 1, 3) := by decide +kernel
theorem dX6_init_4 : decode cX6_init 4 = .ok (.aload_n 0, 1) := by decide +kernel
theorem dX6_init_5 : decode cX6_init 5 = .ok (.bipush 8, 2) := by decide +kernel
theorem dX6_init_7 : decode cX6_init 7 = .ok (.newarray .int, 2) := by decide +kernel
theorem dX6_init_9 : decode cX6_init 9 = .ok (.putfield 7, 3) := by decide +kernel
theorem dX6_init_12 : decode cX6_init 12 = .ok (.aload_n 0, 1) := by decide +kernel
theorem dX6_init_13 : decode cX6_init 13 = .ok (.bipush 8, 2) := by decide +kernel
theorem dX6_init_15 : decode cX6_init 15 = .ok (.newarray .int, 2) := by decide +kernel
theorem dX6_init_17 : decode cX6_init 17 = .ok (.putfield 13, 3) := by decide +kernel
theorem dX6_init_20 : decode cX6_init 20 = .ok (.aload_n 0, 1) := by decide +kernel
theorem dX6_init_21 : decode cX6_init 21 = .ok (.bipush 8, 2) := by decide +kernel
theorem dX6_init_23 : decode cX6_init 23 = .ok (.newarray .int, 2) := by decide +kernel
theorem dX6_init_25 : decode cX6_init 25 = .ok (.putfield 16, 3) := by decide +kernel
theorem dX6_init_28 : decode cX6_init 28 = .ok (.aload_n 0, 1) := by decide +kernel
theorem dX6_init_29 : decode cX6_init 29 = .ok (.bipush 8, 2) := by decide +kernel
theorem dX6_init_31 : decode cX6_init 31 = .ok (.bipush 40, 2) := by decide +kernel
theorem dX6_init_33 : decode cX6_init 33 = .ok (.multianewarray 19 2, 4) := by decide +kernel
theorem dX6_init_37 : decode cX6_init 37 = .ok (.putfield 21, 3) := by decide +kernel
theorem dX6_init_40 : decode cX6_init 40 = .ok (.aload_n 0, 1) := by decide +kernel
theorem dX6_init_41 : decode cX6_init 41 = .ok (.bipush 40, 2) := by decide +kernel
theorem dX6_init_43 : decode cX6_init 43 = .ok (.newarray .long, 2) := by decide +kernel
theorem dX6_init_45 : decode cX6_init 45 = .ok (.putfield 24, 3) := by decide +kernel
theorem dX6_init_48 : decode cX6_init 48 = .ok (.aload_n 0, 1) := by decide +kernel
theorem dX6_init_49 : decode cX6_init 49 = .ok (.bipush 8, 2) := by decide +kernel
theorem dX6_init_51 : decode cX6_init 51 = .ok (.newarray .int, 2) := by decide +kernel
theorem dX6_init_53 : decode cX6_init 53 = .ok (.putfield 28, 3) := by decide +kernel
theorem dX6_init_56 : decode cX6_init 56 = .ok (.aload_n 0, 1) := by decide +kernel
theorem dX6_init_57 : decode cX6_init 57 = .ok (.sipush 250, 3) := by decide +kernel
theorem dX6_init_60 : decode cX6_init 60 = .ok (.newarray .int, 2) := by decide +kernel
theorem dX6_init_62 : decode cX6_init 62 = .ok (.putfield 31, 3) := by decide +kernel
theorem dX6_init_65 : decode cX6_init 65 = .ok (.aload_n 0, 1) := by decide +kernel
theorem dX6_init_66 : decode cX6_init 66 = .ok (.bipush 8, 2) := by decide +kernel
theorem dX6_init_68 : decode cX6_init 68 = .ok (.newarray .int, 2) := by decide +kernel
theorem dX6_init_70 : decode cX6_init 70 = .ok (.putfield 34, 3) := by decide +kernel
theorem dX6_init_73 : decode cX6_init 73 = .ok (.aload_n 0, 1) := by decide +kernel
theorem dX6_init_74 : decode cX6_init 74 = .ok (.iconst 4, 1) := by decide +kernel
theorem dX6_init_75 : decode cX6_init 75 = .ok (.newarray .int, 2) := by decide +kernel
theorem dX6_init_77 : decode cX6_init 77 = .ok (.putfield 37, 3) := by decide +kernel
theorem dX6_init_80 : decode cX6_init 80 = .ok (.aload_n 0, 1) := by decide +kernel
theorem dX6_init_81 : decode cX6_init 81 = .ok (.iconst 4, 1) := by decide +kernel
theorem dX6_init_82 : decode cX6_init 82 = .ok (.newarray .int, 2) := by decide +kernel
theorem dX6_init_84 : decode cX6_init 84 = .ok (.putfield 40, 3) := by decide +kernel
theorem dX6_init_87 : decode cX6_init 87 = .ok (.aload_n 0, 1) := by decide +kernel
theorem dX6_init_88 : decode cX6_init 88 = .ok (.iconst 4, 1) := by decide +kernel
theorem dX6_init_89 : decode cX6_init 89 = .ok (.newarray .int, 2) := by decide +kernel
theorem dX6_init_91 : decode cX6_init 91 = .ok (.putfield 43, 3) := by decide +kernel
theorem dX6_init_94 : decode cX6_init 94 = .ok (.aload_n 0, 1) := by decide +kernel
theorem dX6_init_95 : decode cX6_init 95 = .ok (.iconst 4, 1) := by decide +kernel
theorem dX6_init_96 : decode cX6_init 96 = .ok (.newarray .int, 2) := by decide +kernel
theorem dX6_init_98 : decode cX6_init 98 = .ok (.putfield 46, 3) := by decide +kernel
theorem dX6_init_101 : decode cX6_init 101 = .ok (.aload_n 0, 1) := by decide +kernel
theorem dX6_init_102 : decode cX6_init 102 = .ok (.iconst 4, 1) := by decide +kernel
theorem dX6_init_103 : decode cX6_init 103 = .ok (.bipush 10, 2) := by decide +kernel
theorem dX6_init_105 : decode cX6_init 105 = .ok (.multianewarray 49 2, 4) := by decide +kernel
theorem dX6_init_109 : decode cX6_init 109 = .ok (.putfield 51, 3) := by decide +kernel
theorem dX6_init_112 : decode cX6_init 112 = .ok (.aload_n 0, 1) := by decide +kernel
theorem dX6_init_113 : decode cX6_init 113 = .ok (.iconst 4, 1) := by decide +kernel
theorem dX6_init_114 : decode cX6_init 114 = .ok (.bipush 10, 2) := by decide +kernel
theorem dX6_init_116 : decode cX6_init 116 = .ok (.multianewarray 49 2, 4) := by decide +kernel
theorem dX6_init_120 : decode cX6_init 120 = .ok (.putfield 54, 3) := by decide +kernel
theorem dX6_init_123 : decode cX6_init 123 = .ok (.aload_n 0, 1) := by decide +kernel
theorem dX6_init_124 : decode cX6_init 124 = .ok (.bipush 10, 2) := by decide +kernel
theorem dX6_init_126 : decode cX6_init 126 = .ok (.newarray .int, 2) := by decide +kernel
theorem dX6_init_128 : decode cX6_init 128 = .ok (.putfield 57, 3) := by decide +kernel
theorem dX6_init_131 : decode cX6_init 131 = .ok (.aload_n 0, 1) := by decide +kernel
theorem dX6_init_132 : decode cX6_init 132 = .ok (.iconst 1, 1) := by decide +kernel
theorem dX6_init_133 : decode cX6_init 133 = .ok (.putfield 60, 3) := by decide +kernel
theorem dX6_init_136 : decode cX6_init 136 = .ok (.aload_n 0, 1) := by decide +kernel
theorem dX6_init_137 : decode cX6_init 137 = .ok (.iconst 4, 1) := by decide +kernel
theorem dX6_init_138 : decode cX6_init 138 = .ok (.newarray .int, 2) := by decide +kernel
theorem dX6_init_140 : decode cX6_init 140 = .ok (.putfield 64, 3) := by decide +kernel
theorem dX6_init_143 : decode cX6_init 143 = .ok (.aload_n 0, 1) := by decide +kernel
theorem dX6_init_144 : decode cX6_init 144 = .ok (.sipush 1024, 3) := by decide +kernel
theorem dX6_init_147 : decode cX6_init 147 = .ok (.newarray .int, 2) := by decide +kernel
theorem dX6_init_149 : decode cX6_init 149 = .ok (.putfield 67, 3) := by decide +kernel
theorem dX6_init_152 : decode cX6_init 152 = .ok (.aload_n 0, 1) := by decide +kernel
theorem dX6_init_153 : decode cX6_init 153 = .ok (.sipush 1024, 3) := by decide +kernel
theorem dX6_init_156 : decode cX6_init 156 = .ok (.newarray .int, 2) := by decide +kernel
theorem dX6_init_158 : decode cX6_init 158 = .ok (.putfield 70, 3) := by decide +kernel
theorem dX6_init_161 : decode cX6_init 161 = .ok (.aload_n 0, 1) := by decide +kernel
theorem dX6_init_162 : decode cX6_init 162 = .ok (.iconst 0, 1) := by decide +kernel
theorem dX6_init_163 : decode cX6_init 163 = .ok (.newarray .int, 2) := by decide +kernel
theorem dX6_init_165 : decode cX6_init 165 = .ok (.putfield 73, 3) := by decide +kernel
theorem dX6_init_168 : decode cX6_init 168 = .ok (.aload_n 0, 1) := by decide +kernel
theorem dX6_init_169 : decode cX6_init 169 = .ok (.iconst 0, 1) := by decide +kernel
theorem dX6_init_170 : decode cX6_init 170 = .ok (.newarray .int, 2) := by decide +kernel
theorem dX6_init_172 : decode cX6_init 172 = .ok (.putfield 76, 3) := by decide +kernel
theorem dX6_init_175 : decode cX6_init 175 = .ok (.iconst 0, 1) := by decide +kernel
theorem dX6_init_176 : decode cX6_init 176 = .ok (.istore_n 1, 1) := by decide +kernel
theorem dX6_init_177 : decode cX6_init 177 = .ok (.iload_n 1, 1) := by decide +kernel
theorem dX6_init_178 : decode cX6_init 178 = .ok (.bipush 10, 2) := by decide +kernel
theorem dX6_init_180 : decode cX6_init 180 = .ok (.if_icmp .ge 16, 3) := by decide +kernel
theorem dX6_init_183 : decode cX6_init 183 = .ok (.aload_n 0, 1) := by decide +kernel
theorem dX6_init_184 : decode cX6_init 184 = .ok (.getfield 57, 3) := by decide +kernel
theorem dX6_init_187 : decode cX6_init 187 = .ok (.iload_n 1, 1) := by decide +kernel
theorem dX6_init_188 : decode cX6_init 188 = .ok (.iconst 1, 1) := by decide +kernel
theorem dX6_init_189 : decode cX6_init 189 = .ok (.iastore, 1) := by decide +kernel
theorem dX6_init_190 : decode cX6_init 190 = .ok (.iinc 1 1, 3) := by decide +kernel
theorem dX6_init_193 : decode cX6_init 193 = .ok (.goto (-16), 3) := by decide +kernel
theorem dX6_init_196 : decode cX6_init 196 = .ok (.return_, 1) := by decide +kernel
theorem dX6_refuse_0 : decode cX6_refuse 0 = .ok (.aload_n 0, 1) := by decide +kernel
theorem dX6_refuse_1 : decode cX6_refuse 1 = .ok (.getfield 34, 3) := by decide +kernel
theorem dX6_refuse_4 : decode cX6_refuse 4 = .ok (.iload_n 1, 1) := by decide +kernel
theorem dX6_refuse_5 : decode cX6_refuse 5 = .ok (.ineg, 1) := by decide +kernel
theorem dX6_refuse_6 : decode cX6_refuse 6 = .ok (.dup2, 1) := by decide +kernel
theorem dX6_refuse_7 : decode cX6_refuse 7 = .ok (.iaload, 1) := by decide +kernel
theorem dX6_refuse_8 : decode cX6_refuse 8 = .ok (.iconst 1, 1) := by decide +kernel
theorem dX6_refuse_9 : decode cX6_refuse 9 = .ok (.iadd, 1) := by decide +kernel
theorem dX6_refuse_10 : decode cX6_refuse 10 = .ok (.iastore, 1) := by decide +kernel
theorem dX6_refuse_11 : decode cX6_refuse 11 = .ok (.iload_n 1, 1) := by decide +kernel
theorem dX6_refuse_12 : decode cX6_refuse 12 = .ok (.ireturn, 1) := by decide +kernel
theorem dX6_in_0 : decode cX6_in 0 = .ok (.lload_n 0, 1) := by decide +kernel
theorem dX6_in_1 : decode cX6_in 1 = .ok (.lload_n 2, 1) := by decide +kernel
theorem dX6_in_2 : decode cX6_in 2 = .ok (.lcmp, 1) := by decide +kernel
theorem dX6_in_3 : decode cX6_in 3 = .ok (.ifCond .lt 14, 3) := by decide +kernel
theorem dX6_in_6 : decode cX6_in 6 = .ok (.lload_n 0, 1) := by decide +kernel
theorem dX6_in_7 : decode cX6_in 7 = .ok (.lload 4, 2) := by decide +kernel
theorem dX6_in_9 : decode cX6_in 9 = .ok (.lcmp, 1) := by decide +kernel
theorem dX6_in_10 : decode cX6_in 10 = .ok (.ifCond .gt 7, 3) := by decide +kernel
theorem dX6_in_13 : decode cX6_in 13 = .ok (.iconst 1, 1) := by decide +kernel
theorem dX6_in_14 : decode cX6_in 14 = .ok (.goto 4, 3) := by decide +kernel
theorem dX6_in_17 : decode cX6_in 17 = .ok (.iconst 0, 1) := by decide +kernel
theorem dX6_in_18 : decode cX6_in 18 = .ok (.ireturn, 1) := by decide +kernel
theorem dX6_isBar_0 : decode cX6_isBar 0 = .ok (.iload_n 1, 1) := by decide +kernel
theorem dX6_isBar_1 : decode cX6_isBar 1 = .ok (.i2l, 1) := by decide +kernel
theorem dX6_isBar_2 : decode cX6_isBar 2 = .ok (.lconst 0, 1) := by decide +kernel
theorem dX6_isBar_3 : decode cX6_isBar 3 = .ok (.aload_n 0, 1) := by decide +kernel
theorem dX6_isBar_4 : decode cX6_isBar 4 = .ok (.getfield 79, 3) := by decide +kernel
theorem dX6_isBar_7 : decode cX6_isBar 7 = .ok (.iconst 1, 1) := by decide +kernel
theorem dX6_isBar_8 : decode cX6_isBar 8 = .ok (.isub, 1) := by decide +kernel
theorem dX6_isBar_9 : decode cX6_isBar 9 = .ok (.i2l, 1) := by decide +kernel
theorem dX6_isBar_10 : decode cX6_isBar 10 = .ok (.invokestatic 82, 3) := by decide +kernel
theorem dX6_isBar_13 : decode cX6_isBar 13 = .ok (.ireturn, 1) := by decide +kernel
theorem dX6_all_0 : decode cX6_all 0 = .ok (.iconst 1, 1) := by decide +kernel
theorem dX6_all_1 : decode cX6_all 1 = .ok (.aload_n 0, 1) := by decide +kernel
theorem dX6_all_2 : decode cX6_all 2 = .ok (.getfield 40, 3) := by decide +kernel
theorem dX6_all_5 : decode cX6_all 5 = .ok (.iload_n 1, 1) := by decide +kernel
theorem dX6_all_6 : decode cX6_all 6 = .ok (.iaload, 1) := by decide +kernel
theorem dX6_all_7 : decode cX6_all 7 = .ok (.ishl, 1) := by decide +kernel
theorem dX6_all_8 : decode cX6_all 8 = .ok (.iconst 1, 1) := by decide +kernel
theorem dX6_all_9 : decode cX6_all 9 = .ok (.isub, 1) := by decide +kernel
theorem dX6_all_10 : decode cX6_all 10 = .ok (.ireturn, 1) := by decide +kernel
theorem dX6_isSet_0 : decode cX6_isSet 0 = .ok (.lload_n 2, 1) := by decide +kernel
theorem dX6_isSet_1 : decode cX6_isSet 1 = .ok (.lconst 0, 1) := by decide +kernel
theorem dX6_isSet_2 : decode cX6_isSet 2 = .ok (.aload_n 0, 1) := by decide +kernel
theorem dX6_isSet_3 : decode cX6_isSet 3 = .ok (.iload_n 1, 1) := by decide +kernel
theorem dX6_isSet_4 : decode cX6_isSet 4 = .ok (.invokevirtual 86, 3) := by decide +kernel
theorem dX6_isSet_7 : decode cX6_isSet 7 = .ok (.i2l, 1) := by decide +kernel
theorem dX6_isSet_8 : decode cX6_isSet 8 = .ok (.invokestatic 82, 3) := by decide +kernel
theorem dX6_isSet_11 : decode cX6_isSet 11 = .ok (.ireturn, 1) := by decide +kernel
theorem dX6_isRing_0 : decode cX6_isRing 0 = .ok (.iload_n 2, 1) := by decide +kernel
theorem dX6_isRing_1 : decode cX6_isRing 1 = .ok (.i2l, 1) := by decide +kernel
theorem dX6_isRing_2 : decode cX6_isRing 2 = .ok (.lconst 0, 1) := by decide +kernel
theorem dX6_isRing_3 : decode cX6_isRing 3 = .ok (.aload_n 0, 1) := by decide +kernel
theorem dX6_isRing_4 : decode cX6_isRing 4 = .ok (.getfield 40, 3) := by decide +kernel
theorem dX6_isRing_7 : decode cX6_isRing 7 = .ok (.iload_n 1, 1) := by decide +kernel
theorem dX6_isRing_8 : decode cX6_isRing 8 = .ok (.iaload, 1) := by decide +kernel
theorem dX6_isRing_9 : decode cX6_isRing 9 = .ok (.iconst 1, 1) := by decide +kernel
theorem dX6_isRing_10 : decode cX6_isRing 10 = .ok (.isub, 1) := by decide +kernel
theorem dX6_isRing_11 : decode cX6_isRing 11 = .ok (.i2l, 1) := by decide +kernel
theorem dX6_isRing_12 : decode cX6_isRing 12 = .ok (.invokestatic 82, 3) := by decide +kernel
theorem dX6_isRing_15 : decode cX6_isRing 15 = .ok (.ireturn, 1) := by decide +kernel
theorem dX6_has_0 : decode cX6_has 0 = .ok (.iload_n 0, 1) := by decide +kernel
theorem dX6_has_1 : decode cX6_has 1 = .ok (.iload_n 1, 1) := by decide +kernel
theorem dX6_has_2 : decode cX6_has 2 = .ok (.ishr, 1) := by decide +kernel
theorem dX6_has_3 : decode cX6_has 3 = .ok (.iconst 1, 1) := by decide +kernel
theorem dX6_has_4 : decode cX6_has 4 = .ok (.iand, 1) := by decide +kernel
theorem dX6_has_5 : decode cX6_has 5 = .ok (.ifCond .eq 7, 3) := by decide +kernel
theorem dX6_has_8 : decode cX6_has 8 = .ok (.iconst 1, 1) := by decide +kernel
theorem dX6_has_9 : decode cX6_has 9 = .ok (.goto 4, 3) := by decide +kernel
theorem dX6_has_12 : decode cX6_has 12 = .ok (.iconst 0, 1) := by decide +kernel
theorem dX6_has_13 : decode cX6_has 13 = .ok (.ireturn, 1) := by decide +kernel
theorem dX6_bits_0 : decode cX6_bits 0 = .ok (.iconst 0, 1) := by decide +kernel
theorem dX6_bits_1 : decode cX6_bits 1 = .ok (.istore_n 1, 1) := by decide +kernel
theorem dX6_bits_2 : decode cX6_bits 2 = .ok (.iconst 0, 1) := by decide +kernel
theorem dX6_bits_3 : decode cX6_bits 3 = .ok (.istore_n 2, 1) := by decide +kernel
theorem dX6_bits_4 : decode cX6_bits 4 = .ok (.iload_n 2, 1) := by decide +kernel
theorem dX6_bits_5 : decode cX6_bits 5 = .ok (.bipush 10, 2) := by decide +kernel
theorem dX6_bits_7 : decode cX6_bits 7 = .ok (.if_icmp .ge 17, 3) := by decide +kernel
theorem dX6_bits_10 : decode cX6_bits 10 = .ok (.iload_n 1, 1) := by decide +kernel
theorem dX6_bits_11 : decode cX6_bits 11 = .ok (.iload_n 0, 1) := by decide +kernel
theorem dX6_bits_12 : decode cX6_bits 12 = .ok (.iload_n 2, 1) := by decide +kernel
theorem dX6_bits_13 : decode cX6_bits 13 = .ok (.ishr, 1) := by decide +kernel
theorem dX6_bits_14 : decode cX6_bits 14 = .ok (.iconst 1, 1) := by decide +kernel
theorem dX6_bits_15 : decode cX6_bits 15 = .ok (.iand, 1) := by decide +kernel
theorem dX6_bits_16 : decode cX6_bits 16 = .ok (.iadd, 1) := by decide +kernel
theorem dX6_bits_17 : decode cX6_bits 17 = .ok (.istore_n 1, 1) := by decide +kernel
theorem dX6_bits_18 : decode cX6_bits 18 = .ok (.iinc 2 1, 3) := by decide +kernel
theorem dX6_bits_21 : decode cX6_bits 21 = .ok (.goto (-17), 3) := by decide +kernel
theorem dX6_bits_24 : decode cX6_bits 24 = .ok (.iload_n 1, 1) := by decide +kernel
theorem dX6_bits_25 : decode cX6_bits 25 = .ok (.ireturn, 1) := by decide +kernel
theorem dX6_row_0 : decode cX6_row 0 = .ok (.iload_n 1, 1) := by decide +kernel
theorem dX6_row_1 : decode cX6_row 1 = .ok (.i2l, 1) := by decide +kernel
theorem dX6_row_2 : decode cX6_row 2 = .ok (.lconst 0, 1) := by decide +kernel
theorem dX6_row_3 : decode cX6_row 3 = .ok (.ldc2_w 90, 3) := by decide +kernel
theorem dX6_row_6 : decode cX6_row 6 = .ok (.invokestatic 82, 3) := by decide +kernel
theorem dX6_row_9 : decode cX6_row 9 = .ok (.ifCond .eq 27, 3) := by decide +kernel
theorem dX6_row_12 : decode cX6_row 12 = .ok (.iload_n 2, 1) := by decide +kernel
theorem dX6_row_13 : decode cX6_row 13 = .ok (.i2l, 1) := by decide +kernel
theorem dX6_row_14 : decode cX6_row 14 = .ok (.lconst 0, 1) := by decide +kernel
theorem dX6_row_15 : decode cX6_row 15 = .ok (.ldc2_w 92, 3) := by decide +kernel
theorem dX6_row_18 : decode cX6_row 18 = .ok (.invokestatic 82, 3) := by decide +kernel
theorem dX6_row_21 : decode cX6_row 21 = .ok (.ifCond .eq 15, 3) := by decide +kernel
theorem dX6_row_24 : decode cX6_row 24 = .ok (.iload_n 3, 1) := by decide +kernel
theorem dX6_row_25 : decode cX6_row 25 = .ok (.i2l, 1) := by decide +kernel
theorem dX6_row_26 : decode cX6_row 26 = .ok (.lconst 0, 1) := by decide +kernel
theorem dX6_row_27 : decode cX6_row 27 = .ok (.ldc2_w 94, 3) := by decide +kernel
theorem dX6_row_30 : decode cX6_row 30 = .ok (.invokestatic 82, 3) := by decide +kernel
theorem dX6_row_33 : decode cX6_row 33 = .ok (.ifCond .ne 10, 3) := by decide +kernel
theorem dX6_row_36 : decode cX6_row 36 = .ok (.aload_n 0, 1) := by decide +kernel
theorem dX6_row_37 : decode cX6_row 37 = .ok (.bipush (-2), 2) := by decide +kernel
theorem dX6_row_39 : decode cX6_row 39 = .ok (.invokevirtual 96, 3) := by decide +kernel
theorem dX6_row_42 : decode cX6_row 42 = .ok (.ireturn, 1) := by decide +kernel
theorem dX6_row_43 : decode cX6_row 43 = .ok (.aload_n 0, 1) := by decide +kernel
theorem dX6_row_44 : decode cX6_row 44 = .ok (.getfield 7, 3) := by decide +kernel
theorem dX6_row_47 : decode cX6_row 47 = .ok (.iload_n 1, 1) := by decide +kernel
theorem dX6_row_48 : decode cX6_row 48 = .ok (.iconst 1, 1) := by decide +kernel
theorem dX6_row_49 : decode cX6_row 49 = .ok (.iastore, 1) := by decide +kernel
theorem dX6_row_50 : decode cX6_row 50 = .ok (.aload_n 0, 1) := by decide +kernel
theorem dX6_row_51 : decode cX6_row 51 = .ok (.getfield 13, 3) := by decide +kernel
theorem dX6_row_54 : decode cX6_row 54 = .ok (.iload_n 1, 1) := by decide +kernel
theorem dX6_row_55 : decode cX6_row 55 = .ok (.iload_n 2, 1) := by decide +kernel
theorem dX6_row_56 : decode cX6_row 56 = .ok (.iastore, 1) := by decide +kernel
theorem dX6_row_57 : decode cX6_row 57 = .ok (.aload_n 0, 1) := by decide +kernel
theorem dX6_row_58 : decode cX6_row 58 = .ok (.getfield 16, 3) := by decide +kernel
theorem dX6_row_61 : decode cX6_row 61 = .ok (.iload_n 1, 1) := by decide +kernel
theorem dX6_row_62 : decode cX6_row 62 = .ok (.iload_n 3, 1) := by decide +kernel
theorem dX6_row_63 : decode cX6_row 63 = .ok (.iastore, 1) := by decide +kernel
theorem dX6_row_64 : decode cX6_row 64 = .ok (.iconst 0, 1) := by decide +kernel
theorem dX6_row_65 : decode cX6_row 65 = .ok (.istore 4, 2) := by decide +kernel
theorem dX6_row_67 : decode cX6_row 67 = .ok (.iload 4, 2) := by decide +kernel
theorem dX6_row_69 : decode cX6_row 69 = .ok (.bipush 40, 2) := by decide +kernel
theorem dX6_row_71 : decode cX6_row 71 = .ok (.if_icmp .ge 19, 3) := by decide +kernel
theorem dX6_row_74 : decode cX6_row 74 = .ok (.aload_n 0, 1) := by decide +kernel
theorem dX6_row_75 : decode cX6_row 75 = .ok (.getfield 21, 3) := by decide +kernel
theorem dX6_row_78 : decode cX6_row 78 = .ok (.iload_n 1, 1) := by decide +kernel
theorem dX6_row_79 : decode cX6_row 79 = .ok (.aaload, 1) := by decide +kernel
theorem dX6_row_80 : decode cX6_row 80 = .ok (.iload 4, 2) := by decide +kernel
theorem dX6_row_82 : decode cX6_row 82 = .ok (.lconst 0, 1) := by decide +kernel
theorem dX6_row_83 : decode cX6_row 83 = .ok (.lastore, 1) := by decide +kernel
theorem dX6_row_84 : decode cX6_row 84 = .ok (.iinc 4 1, 3) := by decide +kernel
theorem dX6_row_87 : decode cX6_row 87 = .ok (.goto (-20), 3) := by decide +kernel
theorem dX6_row_90 : decode cX6_row 90 = .ok (.iconst 1, 1) := by decide +kernel
theorem dX6_row_91 : decode cX6_row 91 = .ok (.ireturn, 1) := by decide +kernel
theorem dX6_fit_0 : decode cX6_fit 0 = .ok (.iload_n 0, 1) := by decide +kernel
theorem dX6_fit_1 : decode cX6_fit 1 = .ok (.tableswitch 47 0 3 #[31, 36, 41, 45], 31) := by decide +kernel
theorem dX6_fit_32 : decode cX6_fit 32 = .ok (.lload_n 1, 1) := by decide +kernel
theorem dX6_fit_33 : decode cX6_fit 33 = .ok (.l2i, 1) := by decide +kernel
theorem dX6_fit_34 : decode cX6_fit 34 = .ok (.i2b, 1) := by decide +kernel
theorem dX6_fit_35 : decode cX6_fit 35 = .ok (.i2l, 1) := by decide +kernel
theorem dX6_fit_36 : decode cX6_fit 36 = .ok (.lreturn, 1) := by decide +kernel
theorem dX6_fit_37 : decode cX6_fit 37 = .ok (.lload_n 1, 1) := by decide +kernel
theorem dX6_fit_38 : decode cX6_fit 38 = .ok (.l2i, 1) := by decide +kernel
theorem dX6_fit_39 : decode cX6_fit 39 = .ok (.i2s, 1) := by decide +kernel
theorem dX6_fit_40 : decode cX6_fit 40 = .ok (.i2l, 1) := by decide +kernel
theorem dX6_fit_41 : decode cX6_fit 41 = .ok (.lreturn, 1) := by decide +kernel
theorem dX6_fit_42 : decode cX6_fit 42 = .ok (.lload_n 1, 1) := by decide +kernel
theorem dX6_fit_43 : decode cX6_fit 43 = .ok (.l2i, 1) := by decide +kernel
theorem dX6_fit_44 : decode cX6_fit 44 = .ok (.i2l, 1) := by decide +kernel
theorem dX6_fit_45 : decode cX6_fit 45 = .ok (.lreturn, 1) := by decide +kernel
theorem dX6_fit_46 : decode cX6_fit 46 = .ok (.lload_n 1, 1) := by decide +kernel
theorem dX6_fit_47 : decode cX6_fit 47 = .ok (.lreturn, 1) := by decide +kernel
theorem dX6_fit_48 : decode cX6_fit 48 = .ok (.lload_n 1, 1) := by decide +kernel
theorem dX6_fit_49 : decode cX6_fit 49 = .ok (.lconst 0, 1) := by decide +kernel
theorem dX6_fit_50 : decode cX6_fit 50 = .ok (.lcmp, 1) := by decide +kernel
theorem dX6_fit_51 : decode cX6_fit 51 = .ok (.ifCond .eq 7, 3) := by decide +kernel
theorem dX6_fit_54 : decode cX6_fit 54 = .ok (.lconst 1, 1) := by decide +kernel
theorem dX6_fit_55 : decode cX6_fit 55 = .ok (.goto 4, 3) := by decide +kernel
theorem dX6_fit_58 : decode cX6_fit 58 = .ok (.lconst 0, 1) := by decide +kernel
theorem dX6_fit_59 : decode cX6_fit 59 = .ok (.lreturn, 1) := by decide +kernel
theorem dX6_noRow_0 : decode cX6_noRow 0 = .ok (.iload_n 1, 1) := by decide +kernel
theorem dX6_noRow_1 : decode cX6_noRow 1 = .ok (.i2l, 1) := by decide +kernel
theorem dX6_noRow_2 : decode cX6_noRow 2 = .ok (.lconst 0, 1) := by decide +kernel
theorem dX6_noRow_3 : decode cX6_noRow 3 = .ok (.ldc2_w 90, 3) := by decide +kernel
theorem dX6_noRow_6 : decode cX6_noRow 6 = .ok (.invokestatic 82, 3) := by decide +kernel
theorem dX6_noRow_9 : decode cX6_noRow 9 = .ok (.ifCond .ne 10, 3) := by decide +kernel
theorem dX6_noRow_12 : decode cX6_noRow 12 = .ok (.aload_n 0, 1) := by decide +kernel
theorem dX6_noRow_13 : decode cX6_noRow 13 = .ok (.bipush (-2), 2) := by decide +kernel
theorem dX6_noRow_15 : decode cX6_noRow 15 = .ok (.invokevirtual 96, 3) := by decide +kernel
theorem dX6_noRow_18 : decode cX6_noRow 18 = .ok (.ireturn, 1) := by decide +kernel
theorem dX6_noRow_19 : decode cX6_noRow 19 = .ok (.aload_n 0, 1) := by decide +kernel
theorem dX6_noRow_20 : decode cX6_noRow 20 = .ok (.getfield 7, 3) := by decide +kernel
theorem dX6_noRow_23 : decode cX6_noRow 23 = .ok (.iload_n 1, 1) := by decide +kernel
theorem dX6_noRow_24 : decode cX6_noRow 24 = .ok (.iaload, 1) := by decide +kernel
theorem dX6_noRow_25 : decode cX6_noRow 25 = .ok (.iconst 2, 1) := by decide +kernel
theorem dX6_noRow_26 : decode cX6_noRow 26 = .ok (.if_icmp .ne 10, 3) := by decide +kernel
theorem dX6_noRow_29 : decode cX6_noRow 29 = .ok (.aload_n 0, 1) := by decide +kernel
theorem dX6_noRow_30 : decode cX6_noRow 30 = .ok (.bipush (-3), 2) := by decide +kernel
theorem dX6_noRow_32 : decode cX6_noRow 32 = .ok (.invokevirtual 96, 3) := by decide +kernel
theorem dX6_noRow_35 : decode cX6_noRow 35 = .ok (.ireturn, 1) := by decide +kernel
theorem dX6_noRow_36 : decode cX6_noRow 36 = .ok (.aload_n 0, 1) := by decide +kernel
theorem dX6_noRow_37 : decode cX6_noRow 37 = .ok (.getfield 7, 3) := by decide +kernel
theorem dX6_noRow_40 : decode cX6_noRow 40 = .ok (.iload_n 1, 1) := by decide +kernel
theorem dX6_noRow_41 : decode cX6_noRow 41 = .ok (.iaload, 1) := by decide +kernel
theorem dX6_noRow_42 : decode cX6_noRow 42 = .ok (.ifCond .ne 12, 3) := by decide +kernel
theorem dX6_noRow_45 : decode cX6_noRow 45 = .ok (.aload_n 0, 1) := by decide +kernel
theorem dX6_noRow_46 : decode cX6_noRow 46 = .ok (.bipush (-4), 2) := by decide +kernel
theorem dX6_noRow_48 : decode cX6_noRow 48 = .ok (.invokevirtual 96, 3) := by decide +kernel
theorem dX6_noRow_51 : decode cX6_noRow 51 = .ok (.goto 4, 3) := by decide +kernel
theorem dX6_noRow_54 : decode cX6_noRow 54 = .ok (.iconst 0, 1) := by decide +kernel
theorem dX6_noRow_55 : decode cX6_noRow 55 = .ok (.ireturn, 1) := by decide +kernel
theorem dX6_set_0 : decode cX6_set 0 = .ok (.aload_n 0, 1) := by decide +kernel
theorem dX6_set_1 : decode cX6_set 1 = .ok (.iload_n 1, 1) := by decide +kernel
theorem dX6_set_2 : decode cX6_set 2 = .ok (.invokevirtual 99, 3) := by decide +kernel
theorem dX6_set_5 : decode cX6_set 5 = .ok (.istore 5, 2) := by decide +kernel
theorem dX6_set_7 : decode cX6_set 7 = .ok (.iload 5, 2) := by decide +kernel
theorem dX6_set_9 : decode cX6_set 9 = .ok (.ifCond .eq 6, 3) := by decide +kernel
theorem dX6_set_12 : decode cX6_set 12 = .ok (.iload 5, 2) := by decide +kernel
theorem dX6_set_14 : decode cX6_set 14 = .ok (.ireturn, 1) := by decide +kernel
theorem dX6_set_15 : decode cX6_set 15 = .ok (.iload_n 2, 1) := by decide +kernel
theorem dX6_set_16 : decode cX6_set 16 = .ok (.i2l, 1) := by decide +kernel
theorem dX6_set_17 : decode cX6_set 17 = .ok (.lconst 0, 1) := by decide +kernel
theorem dX6_set_18 : decode cX6_set 18 = .ok (.aload_n 0, 1) := by decide +kernel
theorem dX6_set_19 : decode cX6_set 19 = .ok (.getfield 16, 3) := by decide +kernel
theorem dX6_set_22 : decode cX6_set 22 = .ok (.iload_n 1, 1) := by decide +kernel
theorem dX6_set_23 : decode cX6_set 23 = .ok (.iaload, 1) := by decide +kernel
theorem dX6_set_24 : decode cX6_set 24 = .ok (.iconst 1, 1) := by decide +kernel
theorem dX6_set_25 : decode cX6_set 25 = .ok (.isub, 1) := by decide +kernel
theorem dX6_set_26 : decode cX6_set 26 = .ok (.i2l, 1) := by decide +kernel
theorem dX6_set_27 : decode cX6_set 27 = .ok (.invokestatic 82, 3) := by decide +kernel
theorem dX6_set_30 : decode cX6_set 30 = .ok (.ifCond .ne 10, 3) := by decide +kernel
theorem dX6_set_33 : decode cX6_set 33 = .ok (.aload_n 0, 1) := by decide +kernel
theorem dX6_set_34 : decode cX6_set 34 = .ok (.bipush (-2), 2) := by decide +kernel
theorem dX6_set_36 : decode cX6_set 36 = .ok (.invokevirtual 96, 3) := by decide +kernel
theorem dX6_set_39 : decode cX6_set 39 = .ok (.ireturn, 1) := by decide +kernel
theorem dX6_set_40 : decode cX6_set 40 = .ok (.aload_n 0, 1) := by decide +kernel
theorem dX6_set_41 : decode cX6_set 41 = .ok (.getfield 21, 3) := by decide +kernel
theorem dX6_set_44 : decode cX6_set 44 = .ok (.iload_n 1, 1) := by decide +kernel
theorem dX6_set_45 : decode cX6_set 45 = .ok (.aaload, 1) := by decide +kernel
theorem dX6_set_46 : decode cX6_set 46 = .ok (.iload_n 2, 1) := by decide +kernel
theorem dX6_set_47 : decode cX6_set 47 = .ok (.aload_n 0, 1) := by decide +kernel
theorem dX6_set_48 : decode cX6_set 48 = .ok (.getfield 13, 3) := by decide +kernel
theorem dX6_set_51 : decode cX6_set 51 = .ok (.iload_n 1, 1) := by decide +kernel
theorem dX6_set_52 : decode cX6_set 52 = .ok (.iaload, 1) := by decide +kernel
theorem dX6_set_53 : decode cX6_set 53 = .ok (.lload_n 3, 1) := by decide +kernel
theorem dX6_set_54 : decode cX6_set 54 = .ok (.invokestatic 102, 3) := by decide +kernel
theorem dX6_set_57 : decode cX6_set 57 = .ok (.lastore, 1) := by decide +kernel
theorem dX6_set_58 : decode cX6_set 58 = .ok (.iconst 1, 1) := by decide +kernel
theorem dX6_set_59 : decode cX6_set 59 = .ok (.ireturn, 1) := by decide +kernel
theorem dX6_copy_0 : decode cX6_copy 0 = .ok (.iload_n 1, 1) := by decide +kernel
theorem dX6_copy_1 : decode cX6_copy 1 = .ok (.i2l, 1) := by decide +kernel
theorem dX6_copy_2 : decode cX6_copy 2 = .ok (.lconst 0, 1) := by decide +kernel
theorem dX6_copy_3 : decode cX6_copy 3 = .ok (.ldc2_w 90, 3) := by decide +kernel
theorem dX6_copy_6 : decode cX6_copy 6 = .ok (.invokestatic 82, 3) := by decide +kernel
theorem dX6_copy_9 : decode cX6_copy 9 = .ok (.ifCond .eq 15, 3) := by decide +kernel
theorem dX6_copy_12 : decode cX6_copy 12 = .ok (.iload_n 2, 1) := by decide +kernel
theorem dX6_copy_13 : decode cX6_copy 13 = .ok (.i2l, 1) := by decide +kernel
theorem dX6_copy_14 : decode cX6_copy 14 = .ok (.lconst 0, 1) := by decide +kernel
theorem dX6_copy_15 : decode cX6_copy 15 = .ok (.ldc2_w 90, 3) := by decide +kernel
theorem dX6_copy_18 : decode cX6_copy 18 = .ok (.invokestatic 82, 3) := by decide +kernel
theorem dX6_copy_21 : decode cX6_copy 21 = .ok (.ifCond .ne 10, 3) := by decide +kernel
theorem dX6_copy_24 : decode cX6_copy 24 = .ok (.aload_n 0, 1) := by decide +kernel
theorem dX6_copy_25 : decode cX6_copy 25 = .ok (.bipush (-2), 2) := by decide +kernel
theorem dX6_copy_27 : decode cX6_copy 27 = .ok (.invokevirtual 96, 3) := by decide +kernel
theorem dX6_copy_30 : decode cX6_copy 30 = .ok (.ireturn, 1) := by decide +kernel
theorem dX6_copy_31 : decode cX6_copy 31 = .ok (.aload_n 0, 1) := by decide +kernel
theorem dX6_copy_32 : decode cX6_copy 32 = .ok (.getfield 7, 3) := by decide +kernel
theorem dX6_copy_35 : decode cX6_copy 35 = .ok (.iload_n 1, 1) := by decide +kernel
theorem dX6_copy_36 : decode cX6_copy 36 = .ok (.iaload, 1) := by decide +kernel
theorem dX6_copy_37 : decode cX6_copy 37 = .ok (.iconst 2, 1) := by decide +kernel
theorem dX6_copy_38 : decode cX6_copy 38 = .ok (.if_icmp .eq 48, 3) := by decide +kernel
theorem dX6_copy_41 : decode cX6_copy 41 = .ok (.aload_n 0, 1) := by decide +kernel
theorem dX6_copy_42 : decode cX6_copy 42 = .ok (.getfield 7, 3) := by decide +kernel
theorem dX6_copy_45 : decode cX6_copy 45 = .ok (.iload_n 2, 1) := by decide +kernel
theorem dX6_copy_46 : decode cX6_copy 46 = .ok (.iaload, 1) := by decide +kernel
theorem dX6_copy_47 : decode cX6_copy 47 = .ok (.iconst 2, 1) := by decide +kernel
theorem dX6_copy_48 : decode cX6_copy 48 = .ok (.if_icmp .eq 38, 3) := by decide +kernel
theorem dX6_copy_51 : decode cX6_copy 51 = .ok (.aload_n 0, 1) := by decide +kernel
theorem dX6_copy_52 : decode cX6_copy 52 = .ok (.getfield 7, 3) := by decide +kernel
theorem dX6_copy_55 : decode cX6_copy 55 = .ok (.iload_n 1, 1) := by decide +kernel
theorem dX6_copy_56 : decode cX6_copy 56 = .ok (.iaload, 1) := by decide +kernel
theorem dX6_copy_57 : decode cX6_copy 57 = .ok (.iconst 1, 1) := by decide +kernel
theorem dX6_copy_58 : decode cX6_copy 58 = .ok (.if_icmp .ne 35, 3) := by decide +kernel
theorem dX6_copy_61 : decode cX6_copy 61 = .ok (.aload_n 0, 1) := by decide +kernel
theorem dX6_copy_62 : decode cX6_copy 62 = .ok (.getfield 7, 3) := by decide +kernel
theorem dX6_copy_65 : decode cX6_copy 65 = .ok (.iload_n 2, 1) := by decide +kernel
theorem dX6_copy_66 : decode cX6_copy 66 = .ok (.iaload, 1) := by decide +kernel
theorem dX6_copy_67 : decode cX6_copy 67 = .ok (.iconst 1, 1) := by decide +kernel
theorem dX6_copy_68 : decode cX6_copy 68 = .ok (.if_icmp .ne 25, 3) := by decide +kernel
theorem dX6_copy_71 : decode cX6_copy 71 = .ok (.aload_n 0, 1) := by decide +kernel
theorem dX6_copy_72 : decode cX6_copy 72 = .ok (.getfield 13, 3) := by decide +kernel
theorem dX6_copy_75 : decode cX6_copy 75 = .ok (.iload_n 1, 1) := by decide +kernel
theorem dX6_copy_76 : decode cX6_copy 76 = .ok (.iaload, 1) := by decide +kernel
theorem dX6_copy_77 : decode cX6_copy 77 = .ok (.aload_n 0, 1) := by decide +kernel
theorem dX6_copy_78 : decode cX6_copy 78 = .ok (.getfield 13, 3) := by decide +kernel
theorem dX6_copy_81 : decode cX6_copy 81 = .ok (.iload_n 2, 1) := by decide +kernel
theorem dX6_copy_82 : decode cX6_copy 82 = .ok (.iaload, 1) := by decide +kernel
theorem dX6_copy_83 : decode cX6_copy 83 = .ok (.if_icmp .eq 10, 3) := by decide +kernel
theorem dX6_copy_86 : decode cX6_copy 86 = .ok (.aload_n 0, 1) := by decide +kernel
theorem dX6_copy_87 : decode cX6_copy 87 = .ok (.bipush (-3), 2) := by decide +kernel
theorem dX6_copy_89 : decode cX6_copy 89 = .ok (.invokevirtual 96, 3) := by decide +kernel
theorem dX6_copy_92 : decode cX6_copy 92 = .ok (.ireturn, 1) := by decide +kernel
theorem dX6_copy_93 : decode cX6_copy 93 = .ok (.aload_n 0, 1) := by decide +kernel
theorem dX6_copy_94 : decode cX6_copy 94 = .ok (.getfield 7, 3) := by decide +kernel
theorem dX6_copy_97 : decode cX6_copy 97 = .ok (.iload_n 1, 1) := by decide +kernel
theorem dX6_copy_98 : decode cX6_copy 98 = .ok (.iaload, 1) := by decide +kernel
theorem dX6_copy_99 : decode cX6_copy 99 = .ok (.ifCond .eq 12, 3) := by decide +kernel
theorem dX6_copy_102 : decode cX6_copy 102 = .ok (.aload_n 0, 1) := by decide +kernel
theorem dX6_copy_103 : decode cX6_copy 103 = .ok (.getfield 7, 3) := by decide +kernel
theorem dX6_copy_106 : decode cX6_copy 106 = .ok (.iload_n 2, 1) := by decide +kernel
theorem dX6_copy_107 : decode cX6_copy 107 = .ok (.iaload, 1) := by decide +kernel
theorem dX6_copy_108 : decode cX6_copy 108 = .ok (.ifCond .ne 10, 3) := by decide +kernel
theorem dX6_copy_111 : decode cX6_copy 111 = .ok (.aload_n 0, 1) := by decide +kernel
theorem dX6_copy_112 : decode cX6_copy 112 = .ok (.bipush (-4), 2) := by decide +kernel
theorem dX6_copy_114 : decode cX6_copy 114 = .ok (.invokevirtual 96, 3) := by decide +kernel
theorem dX6_copy_117 : decode cX6_copy 117 = .ok (.ireturn, 1) := by decide +kernel
theorem dX6_copy_118 : decode cX6_copy 118 = .ok (.iload 5, 2) := by decide +kernel
theorem dX6_copy_120 : decode cX6_copy 120 = .ok (.ifCond .lt 61, 3) := by decide +kernel
theorem dX6_copy_123 : decode cX6_copy 123 = .ok (.iload_n 3, 1) := by decide +kernel
theorem dX6_copy_124 : decode cX6_copy 124 = .ok (.ifCond .lt 57, 3) := by decide +kernel
theorem dX6_copy_127 : decode cX6_copy 127 = .ok (.iload 4, 2) := by decide +kernel
theorem dX6_copy_129 : decode cX6_copy 129 = .ok (.ifCond .lt 52, 3) := by decide +kernel
theorem dX6_copy_132 : decode cX6_copy 132 = .ok (.iload 5, 2) := by decide +kernel
theorem dX6_copy_134 : decode cX6_copy 134 = .ok (.aload_n 0, 1) := by decide +kernel
theorem dX6_copy_135 : decode cX6_copy 135 = .ok (.getfield 16, 3) := by decide +kernel
theorem dX6_copy_138 : decode cX6_copy 138 = .ok (.iload_n 1, 1) := by decide +kernel
theorem dX6_copy_139 : decode cX6_copy 139 = .ok (.iaload, 1) := by decide +kernel
theorem dX6_copy_140 : decode cX6_copy 140 = .ok (.if_icmp .gt 41, 3) := by decide +kernel
theorem dX6_copy_143 : decode cX6_copy 143 = .ok (.iload 5, 2) := by decide +kernel
theorem dX6_copy_145 : decode cX6_copy 145 = .ok (.aload_n 0, 1) := by decide +kernel
theorem dX6_copy_146 : decode cX6_copy 146 = .ok (.getfield 16, 3) := by decide +kernel
theorem dX6_copy_149 : decode cX6_copy 149 = .ok (.iload_n 2, 1) := by decide +kernel
theorem dX6_copy_150 : decode cX6_copy 150 = .ok (.iaload, 1) := by decide +kernel
theorem dX6_copy_151 : decode cX6_copy 151 = .ok (.if_icmp .gt 30, 3) := by decide +kernel
theorem dX6_copy_154 : decode cX6_copy 154 = .ok (.iload_n 3, 1) := by decide +kernel
theorem dX6_copy_155 : decode cX6_copy 155 = .ok (.aload_n 0, 1) := by decide +kernel
theorem dX6_copy_156 : decode cX6_copy 156 = .ok (.getfield 16, 3) := by decide +kernel
theorem dX6_copy_159 : decode cX6_copy 159 = .ok (.iload_n 1, 1) := by decide +kernel
theorem dX6_copy_160 : decode cX6_copy 160 = .ok (.iaload, 1) := by decide +kernel
theorem dX6_copy_161 : decode cX6_copy 161 = .ok (.iload 5, 2) := by decide +kernel
theorem dX6_copy_163 : decode cX6_copy 163 = .ok (.isub, 1) := by decide +kernel
theorem dX6_copy_164 : decode cX6_copy 164 = .ok (.if_icmp .gt 17, 3) := by decide +kernel
theorem dX6_copy_167 : decode cX6_copy 167 = .ok (.iload 4, 2) := by decide +kernel
theorem dX6_copy_169 : decode cX6_copy 169 = .ok (.aload_n 0, 1) := by decide +kernel
theorem dX6_copy_170 : decode cX6_copy 170 = .ok (.getfield 16, 3) := by decide +kernel
theorem dX6_copy_173 : decode cX6_copy 173 = .ok (.iload_n 2, 1) := by decide +kernel
theorem dX6_copy_174 : decode cX6_copy 174 = .ok (.iaload, 1) := by decide +kernel
theorem dX6_copy_175 : decode cX6_copy 175 = .ok (.iload 5, 2) := by decide +kernel
theorem dX6_copy_177 : decode cX6_copy 177 = .ok (.isub, 1) := by decide +kernel
theorem dX6_copy_178 : decode cX6_copy 178 = .ok (.if_icmp .le 10, 3) := by decide +kernel
theorem dX6_copy_181 : decode cX6_copy 181 = .ok (.aload_n 0, 1) := by decide +kernel
theorem dX6_copy_182 : decode cX6_copy 182 = .ok (.bipush (-2), 2) := by decide +kernel
theorem dX6_copy_184 : decode cX6_copy 184 = .ok (.invokevirtual 96, 3) := by decide +kernel
theorem dX6_copy_187 : decode cX6_copy 187 = .ok (.ireturn, 1) := by decide +kernel
theorem dX6_copy_188 : decode cX6_copy 188 = .ok (.iconst 0, 1) := by decide +kernel
theorem dX6_copy_189 : decode cX6_copy 189 = .ok (.istore 6, 2) := by decide +kernel
theorem dX6_copy_191 : decode cX6_copy 191 = .ok (.iload 6, 2) := by decide +kernel
theorem dX6_copy_193 : decode cX6_copy 193 = .ok (.iload 5, 2) := by decide +kernel
theorem dX6_copy_195 : decode cX6_copy 195 = .ok (.if_icmp .ge 27, 3) := by decide +kernel
theorem dX6_copy_198 : decode cX6_copy 198 = .ok (.aload_n 0, 1) := by decide +kernel
theorem dX6_copy_199 : decode cX6_copy 199 = .ok (.getfield 24, 3) := by decide +kernel
theorem dX6_copy_202 : decode cX6_copy 202 = .ok (.iload 6, 2) := by decide +kernel
theorem dX6_copy_204 : decode cX6_copy 204 = .ok (.aload_n 0, 1) := by decide +kernel
theorem dX6_copy_205 : decode cX6_copy 205 = .ok (.getfield 21, 3) := by decide +kernel
theorem dX6_copy_208 : decode cX6_copy 208 = .ok (.iload_n 1, 1) := by decide +kernel
theorem dX6_copy_209 : decode cX6_copy 209 = .ok (.aaload, 1) := by decide +kernel
theorem dX6_copy_210 : decode cX6_copy 210 = .ok (.iload_n 3, 1) := by decide +kernel
theorem dX6_copy_211 : decode cX6_copy 211 = .ok (.iload 6, 2) := by decide +kernel
theorem dX6_copy_213 : decode cX6_copy 213 = .ok (.iadd, 1) := by decide +kernel
theorem dX6_copy_214 : decode cX6_copy 214 = .ok (.laload, 1) := by decide +kernel
theorem dX6_copy_215 : decode cX6_copy 215 = .ok (.lastore, 1) := by decide +kernel
theorem dX6_copy_216 : decode cX6_copy 216 = .ok (.iinc 6 1, 3) := by decide +kernel
theorem dX6_copy_219 : decode cX6_copy 219 = .ok (.goto (-28), 3) := by decide +kernel
theorem dX6_copy_222 : decode cX6_copy 222 = .ok (.iconst 0, 1) := by decide +kernel
theorem dX6_copy_223 : decode cX6_copy 223 = .ok (.istore 6, 2) := by decide +kernel
theorem dX6_copy_225 : decode cX6_copy 225 = .ok (.iload 6, 2) := by decide +kernel
theorem dX6_copy_227 : decode cX6_copy 227 = .ok (.iload 5, 2) := by decide +kernel
theorem dX6_copy_229 : decode cX6_copy 229 = .ok (.if_icmp .ge 28, 3) := by decide +kernel
theorem dX6_copy_232 : decode cX6_copy 232 = .ok (.aload_n 0, 1) := by decide +kernel
theorem dX6_copy_233 : decode cX6_copy 233 = .ok (.getfield 21, 3) := by decide +kernel
theorem dX6_copy_236 : decode cX6_copy 236 = .ok (.iload_n 2, 1) := by decide +kernel
theorem dX6_copy_237 : decode cX6_copy 237 = .ok (.aaload, 1) := by decide +kernel
theorem dX6_copy_238 : decode cX6_copy 238 = .ok (.iload 4, 2) := by decide +kernel
theorem dX6_copy_240 : decode cX6_copy 240 = .ok (.iload 6, 2) := by decide +kernel
theorem dX6_copy_242 : decode cX6_copy 242 = .ok (.iadd, 1) := by decide +kernel
theorem dX6_copy_243 : decode cX6_copy 243 = .ok (.aload_n 0, 1) := by decide +kernel
theorem dX6_copy_244 : decode cX6_copy 244 = .ok (.getfield 24, 3) := by decide +kernel
theorem dX6_copy_247 : decode cX6_copy 247 = .ok (.iload 6, 2) := by decide +kernel
theorem dX6_copy_249 : decode cX6_copy 249 = .ok (.laload, 1) := by decide +kernel
theorem dX6_copy_250 : decode cX6_copy 250 = .ok (.lastore, 1) := by decide +kernel
theorem dX6_copy_251 : decode cX6_copy 251 = .ok (.iinc 6 1, 3) := by decide +kernel
theorem dX6_copy_254 : decode cX6_copy 254 = .ok (.goto (-29), 3) := by decide +kernel
theorem dX6_copy_257 : decode cX6_copy 257 = .ok (.iload 5, 2) := by decide +kernel
theorem dX6_copy_259 : decode cX6_copy 259 = .ok (.ireturn, 1) := by decide +kernel
theorem dX6_element_0 : decode cX6_element 0 = .ok (.iload_n 1, 1) := by decide +kernel
theorem dX6_element_1 : decode cX6_element 1 = .ok (.i2l, 1) := by decide +kernel
theorem dX6_element_2 : decode cX6_element 2 = .ok (.lconst 0, 1) := by decide +kernel
theorem dX6_element_3 : decode cX6_element 3 = .ok (.ldc2_w 90, 3) := by decide +kernel
theorem dX6_element_6 : decode cX6_element 6 = .ok (.invokestatic 82, 3) := by decide +kernel
theorem dX6_element_9 : decode cX6_element 9 = .ok (.ifCond .eq 42, 3) := by decide +kernel
theorem dX6_element_12 : decode cX6_element 12 = .ok (.aload_n 0, 1) := by decide +kernel
theorem dX6_element_13 : decode cX6_element 13 = .ok (.getfield 7, 3) := by decide +kernel
theorem dX6_element_16 : decode cX6_element 16 = .ok (.iload_n 1, 1) := by decide +kernel
theorem dX6_element_17 : decode cX6_element 17 = .ok (.iaload, 1) := by decide +kernel
theorem dX6_element_18 : decode cX6_element 18 = .ok (.iconst 1, 1) := by decide +kernel
theorem dX6_element_19 : decode cX6_element 19 = .ok (.if_icmp .ne 32, 3) := by decide +kernel
theorem dX6_element_22 : decode cX6_element 22 = .ok (.iload_n 2, 1) := by decide +kernel
theorem dX6_element_23 : decode cX6_element 23 = .ok (.i2l, 1) := by decide +kernel
theorem dX6_element_24 : decode cX6_element 24 = .ok (.lconst 0, 1) := by decide +kernel
theorem dX6_element_25 : decode cX6_element 25 = .ok (.aload_n 0, 1) := by decide +kernel
theorem dX6_element_26 : decode cX6_element 26 = .ok (.getfield 16, 3) := by decide +kernel
theorem dX6_element_29 : decode cX6_element 29 = .ok (.iload_n 1, 1) := by decide +kernel
theorem dX6_element_30 : decode cX6_element 30 = .ok (.iaload, 1) := by decide +kernel
theorem dX6_element_31 : decode cX6_element 31 = .ok (.iconst 1, 1) := by decide +kernel
theorem dX6_element_32 : decode cX6_element 32 = .ok (.isub, 1) := by decide +kernel
theorem dX6_element_33 : decode cX6_element 33 = .ok (.i2l, 1) := by decide +kernel
theorem dX6_element_34 : decode cX6_element 34 = .ok (.invokestatic 82, 3) := by decide +kernel
theorem dX6_element_37 : decode cX6_element 37 = .ok (.ifCond .eq 14, 3) := by decide +kernel
theorem dX6_element_40 : decode cX6_element 40 = .ok (.aload_n 0, 1) := by decide +kernel
theorem dX6_element_41 : decode cX6_element 41 = .ok (.getfield 21, 3) := by decide +kernel
theorem dX6_element_44 : decode cX6_element 44 = .ok (.iload_n 1, 1) := by decide +kernel
theorem dX6_element_45 : decode cX6_element 45 = .ok (.aaload, 1) := by decide +kernel
theorem dX6_element_46 : decode cX6_element 46 = .ok (.iload_n 2, 1) := by decide +kernel
theorem dX6_element_47 : decode cX6_element 47 = .ok (.laload, 1) := by decide +kernel
theorem dX6_element_48 : decode cX6_element 48 = .ok (.goto 4, 3) := by decide +kernel
theorem dX6_element_51 : decode cX6_element 51 = .ok (.lconst 0, 1) := by decide +kernel
theorem dX6_element_52 : decode cX6_element 52 = .ok (.lreturn, 1) := by decide +kernel
theorem dX6_holds_0 : decode cX6_holds 0 = .ok (.iload_n 1, 1) := by decide +kernel
theorem dX6_holds_1 : decode cX6_holds 1 = .ok (.i2l, 1) := by decide +kernel
theorem dX6_holds_2 : decode cX6_holds 2 = .ok (.lconst 0, 1) := by decide +kernel
theorem dX6_holds_3 : decode cX6_holds 3 = .ok (.ldc2_w 90, 3) := by decide +kernel
theorem dX6_holds_6 : decode cX6_holds 6 = .ok (.invokestatic 82, 3) := by decide +kernel
theorem dX6_holds_9 : decode cX6_holds 9 = .ok (.ifCond .eq 12, 3) := by decide +kernel
theorem dX6_holds_12 : decode cX6_holds 12 = .ok (.aload_n 0, 1) := by decide +kernel
theorem dX6_holds_13 : decode cX6_holds 13 = .ok (.getfield 7, 3) := by decide +kernel
theorem dX6_holds_16 : decode cX6_holds 16 = .ok (.iload_n 1, 1) := by decide +kernel
theorem dX6_holds_17 : decode cX6_holds 17 = .ok (.iaload, 1) := by decide +kernel
theorem dX6_holds_18 : decode cX6_holds 18 = .ok (.ifCond .ne 5, 3) := by decide +kernel
theorem dX6_holds_21 : decode cX6_holds 21 = .ok (.iconst (-1), 1) := by decide +kernel
theorem dX6_holds_22 : decode cX6_holds 22 = .ok (.ireturn, 1) := by decide +kernel
theorem dX6_holds_23 : decode cX6_holds 23 = .ok (.aload_n 0, 1) := by decide +kernel
theorem dX6_holds_24 : decode cX6_holds 24 = .ok (.getfield 7, 3) := by decide +kernel
theorem dX6_holds_27 : decode cX6_holds 27 = .ok (.iload_n 1, 1) := by decide +kernel
theorem dX6_holds_28 : decode cX6_holds 28 = .ok (.iaload, 1) := by decide +kernel
theorem dX6_holds_29 : decode cX6_holds 29 = .ok (.iconst 1, 1) := by decide +kernel
theorem dX6_holds_30 : decode cX6_holds 30 = .ok (.if_icmp .ne 12, 3) := by decide +kernel
theorem dX6_holds_33 : decode cX6_holds 33 = .ok (.aload_n 0, 1) := by decide +kernel
theorem dX6_holds_34 : decode cX6_holds 34 = .ok (.getfield 13, 3) := by decide +kernel
theorem dX6_holds_37 : decode cX6_holds 37 = .ok (.iload_n 1, 1) := by decide +kernel
theorem dX6_holds_38 : decode cX6_holds 38 = .ok (.iaload, 1) := by decide +kernel
theorem dX6_holds_39 : decode cX6_holds 39 = .ok (.goto 12, 3) := by decide +kernel
theorem dX6_holds_42 : decode cX6_holds 42 = .ok (.bipush 10, 2) := by decide +kernel
theorem dX6_holds_44 : decode cX6_holds 44 = .ok (.aload_n 0, 1) := by decide +kernel
theorem dX6_holds_45 : decode cX6_holds 45 = .ok (.getfield 28, 3) := by decide +kernel
theorem dX6_holds_48 : decode cX6_holds 48 = .ok (.iload_n 1, 1) := by decide +kernel
theorem dX6_holds_49 : decode cX6_holds 49 = .ok (.iaload, 1) := by decide +kernel
theorem dX6_holds_50 : decode cX6_holds 50 = .ok (.iadd, 1) := by decide +kernel
theorem dX6_holds_51 : decode cX6_holds 51 = .ok (.ireturn, 1) := by decide +kernel
theorem dX6_show_0 : decode cX6_show 0 = .ok (.iload_n 1, 1) := by decide +kernel
theorem dX6_show_1 : decode cX6_show 1 = .ok (.i2l, 1) := by decide +kernel
theorem dX6_show_2 : decode cX6_show 2 = .ok (.lconst 0, 1) := by decide +kernel
theorem dX6_show_3 : decode cX6_show 3 = .ok (.ldc2_w 90, 3) := by decide +kernel
theorem dX6_show_6 : decode cX6_show 6 = .ok (.invokestatic 82, 3) := by decide +kernel
theorem dX6_show_9 : decode cX6_show 9 = .ok (.ifCond .eq 16, 3) := by decide +kernel
theorem dX6_show_12 : decode cX6_show 12 = .ok (.iload_n 2, 1) := by decide +kernel
theorem dX6_show_13 : decode cX6_show 13 = .ok (.iconst (-1), 1) := by decide +kernel
theorem dX6_show_14 : decode cX6_show 14 = .ok (.if_icmp .eq 18, 3) := by decide +kernel
theorem dX6_show_17 : decode cX6_show 17 = .ok (.aload_n 0, 1) := by decide +kernel
theorem dX6_show_18 : decode cX6_show 18 = .ok (.iload_n 2, 1) := by decide +kernel
theorem dX6_show_19 : decode cX6_show 19 = .ok (.invokevirtual 106, 3) := by decide +kernel
theorem dX6_show_22 : decode cX6_show 22 = .ok (.ifCond .ne 10, 3) := by decide +kernel
theorem dX6_show_25 : decode cX6_show 25 = .ok (.aload_n 0, 1) := by decide +kernel
theorem dX6_show_26 : decode cX6_show 26 = .ok (.bipush (-2), 2) := by decide +kernel
theorem dX6_show_28 : decode cX6_show 28 = .ok (.invokevirtual 96, 3) := by decide +kernel
theorem dX6_show_31 : decode cX6_show 31 = .ok (.ireturn, 1) := by decide +kernel
theorem dX6_show_32 : decode cX6_show 32 = .ok (.aload_n 0, 1) := by decide +kernel
theorem dX6_show_33 : decode cX6_show 33 = .ok (.getfield 7, 3) := by decide +kernel
theorem dX6_show_36 : decode cX6_show 36 = .ok (.iload_n 1, 1) := by decide +kernel
theorem dX6_show_37 : decode cX6_show 37 = .ok (.iload_n 2, 1) := by decide +kernel
theorem dX6_show_38 : decode cX6_show 38 = .ok (.iconst (-1), 1) := by decide +kernel
theorem dX6_show_39 : decode cX6_show 39 = .ok (.if_icmp .ne 7, 3) := by decide +kernel
theorem dX6_show_42 : decode cX6_show 42 = .ok (.iconst 0, 1) := by decide +kernel
theorem dX6_show_43 : decode cX6_show 43 = .ok (.goto 4, 3) := by decide +kernel
theorem dX6_show_46 : decode cX6_show 46 = .ok (.iconst 2, 1) := by decide +kernel
theorem dX6_show_47 : decode cX6_show 47 = .ok (.iastore, 1) := by decide +kernel
theorem dX6_show_48 : decode cX6_show 48 = .ok (.aload_n 0, 1) := by decide +kernel
theorem dX6_show_49 : decode cX6_show 49 = .ok (.getfield 28, 3) := by decide +kernel
theorem dX6_show_52 : decode cX6_show 52 = .ok (.iload_n 1, 1) := by decide +kernel
theorem dX6_show_53 : decode cX6_show 53 = .ok (.iload_n 2, 1) := by decide +kernel
theorem dX6_show_54 : decode cX6_show 54 = .ok (.iastore, 1) := by decide +kernel
theorem dX6_show_55 : decode cX6_show 55 = .ok (.iconst 1, 1) := by decide +kernel
theorem dX6_show_56 : decode cX6_show 56 = .ok (.ireturn, 1) := by decide +kernel
theorem dX6_shelvesFollow_0 : decode cX6_shelvesFollow 0 = .ok (.iconst 0, 1) := by decide +kernel
theorem dX6_shelvesFollow_1 : decode cX6_shelvesFollow 1 = .ok (.istore_n 1, 1) := by decide +kernel
theorem dX6_shelvesFollow_2 : decode cX6_shelvesFollow 2 = .ok (.iload_n 1, 1) := by decide +kernel
theorem dX6_shelvesFollow_3 : decode cX6_shelvesFollow 3 = .ok (.bipush 8, 2) := by decide +kernel
theorem dX6_shelvesFollow_5 : decode cX6_shelvesFollow 5 = .ok (.if_icmp .ge 39, 3) := by decide +kernel
theorem dX6_shelvesFollow_8 : decode cX6_shelvesFollow 8 = .ok (.aload_n 0, 1) := by decide +kernel
theorem dX6_shelvesFollow_9 : decode cX6_shelvesFollow 9 = .ok (.getfield 7, 3) := by decide +kernel
theorem dX6_shelvesFollow_12 : decode cX6_shelvesFollow 12 = .ok (.iload_n 1, 1) := by decide +kernel
theorem dX6_shelvesFollow_13 : decode cX6_shelvesFollow 13 = .ok (.iaload, 1) := by decide +kernel
theorem dX6_shelvesFollow_14 : decode cX6_shelvesFollow 14 = .ok (.iconst 2, 1) := by decide +kernel
theorem dX6_shelvesFollow_15 : decode cX6_shelvesFollow 15 = .ok (.if_icmp .ne 23, 3) := by decide +kernel
theorem dX6_shelvesFollow_18 : decode cX6_shelvesFollow 18 = .ok (.aload_n 0, 1) := by decide +kernel
theorem dX6_shelvesFollow_19 : decode cX6_shelvesFollow 19 = .ok (.getfield 28, 3) := by decide +kernel
theorem dX6_shelvesFollow_22 : decode cX6_shelvesFollow 22 = .ok (.iload_n 1, 1) := by decide +kernel
theorem dX6_shelvesFollow_23 : decode cX6_shelvesFollow 23 = .ok (.iaload, 1) := by decide +kernel
theorem dX6_shelvesFollow_24 : decode cX6_shelvesFollow 24 = .ok (.aload_n 0, 1) := by decide +kernel
theorem dX6_shelvesFollow_25 : decode cX6_shelvesFollow 25 = .ok (.getfield 79, 3) := by decide +kernel
theorem dX6_shelvesFollow_28 : decode cX6_shelvesFollow 28 = .ok (.if_icmp .lt 10, 3) := by decide +kernel
theorem dX6_shelvesFollow_31 : decode cX6_shelvesFollow 31 = .ok (.aload_n 0, 1) := by decide +kernel
theorem dX6_shelvesFollow_32 : decode cX6_shelvesFollow 32 = .ok (.getfield 7, 3) := by decide +kernel
theorem dX6_shelvesFollow_35 : decode cX6_shelvesFollow 35 = .ok (.iload_n 1, 1) := by decide +kernel
theorem dX6_shelvesFollow_36 : decode cX6_shelvesFollow 36 = .ok (.iconst 0, 1) := by decide +kernel
theorem dX6_shelvesFollow_37 : decode cX6_shelvesFollow 37 = .ok (.iastore, 1) := by decide +kernel
theorem dX6_shelvesFollow_38 : decode cX6_shelvesFollow 38 = .ok (.iinc 1 1, 3) := by decide +kernel
theorem dX6_shelvesFollow_41 : decode cX6_shelvesFollow 41 = .ok (.goto (-39), 3) := by decide +kernel
theorem dX6_shelvesFollow_44 : decode cX6_shelvesFollow 44 = .ok (.return_, 1) := by decide +kernel
theorem dX6_isUnder_0 : decode cX6_isUnder 0 = .ok (.iload_n 1, 1) := by decide +kernel
theorem dX6_isUnder_1 : decode cX6_isUnder 1 = .ok (.ifCond .eq 23, 3) := by decide +kernel
theorem dX6_isUnder_4 : decode cX6_isUnder 4 = .ok (.iload_n 0, 1) := by decide +kernel
theorem dX6_isUnder_5 : decode cX6_isUnder 5 = .ok (.iload_n 1, 1) := by decide +kernel
theorem dX6_isUnder_6 : decode cX6_isUnder 6 = .ok (.if_icmp .eq 18, 3) := by decide +kernel
theorem dX6_isUnder_9 : decode cX6_isUnder 9 = .ok (.iload_n 1, 1) := by decide +kernel
theorem dX6_isUnder_10 : decode cX6_isUnder 10 = .ok (.iconst 1, 1) := by decide +kernel
theorem dX6_isUnder_11 : decode cX6_isUnder 11 = .ok (.if_icmp .ne 17, 3) := by decide +kernel
theorem dX6_isUnder_14 : decode cX6_isUnder 14 = .ok (.iload_n 0, 1) := by decide +kernel
theorem dX6_isUnder_15 : decode cX6_isUnder 15 = .ok (.iconst 2, 1) := by decide +kernel
theorem dX6_isUnder_16 : decode cX6_isUnder 16 = .ok (.if_icmp .eq 8, 3) := by decide +kernel
theorem dX6_isUnder_19 : decode cX6_isUnder 19 = .ok (.iload_n 0, 1) := by decide +kernel
theorem dX6_isUnder_20 : decode cX6_isUnder 20 = .ok (.iconst 4, 1) := by decide +kernel
theorem dX6_isUnder_21 : decode cX6_isUnder 21 = .ok (.if_icmp .ne 7, 3) := by decide +kernel
theorem dX6_isUnder_24 : decode cX6_isUnder 24 = .ok (.iconst 1, 1) := by decide +kernel
theorem dX6_isUnder_25 : decode cX6_isUnder 25 = .ok (.goto 4, 3) := by decide +kernel
theorem dX6_isUnder_28 : decode cX6_isUnder 28 = .ok (.iconst 0, 1) := by decide +kernel
theorem dX6_isUnder_29 : decode cX6_isUnder 29 = .ok (.ireturn, 1) := by decide +kernel
theorem dX6_says_0 : decode cX6_says 0 = .ok (.iload_n 1, 1) := by decide +kernel
theorem dX6_says_1 : decode cX6_says 1 = .ok (.i2l, 1) := by decide +kernel
theorem dX6_says_2 : decode cX6_says 2 = .ok (.lconst 0, 1) := by decide +kernel
theorem dX6_says_3 : decode cX6_says 3 = .ok (.ldc2_w 90, 3) := by decide +kernel
theorem dX6_says_6 : decode cX6_says 6 = .ok (.invokestatic 82, 3) := by decide +kernel
theorem dX6_says_9 : decode cX6_says 9 = .ok (.ifCond .eq 15, 3) := by decide +kernel
theorem dX6_says_12 : decode cX6_says 12 = .ok (.iload_n 2, 1) := by decide +kernel
theorem dX6_says_13 : decode cX6_says 13 = .ok (.i2l, 1) := by decide +kernel
theorem dX6_says_14 : decode cX6_says 14 = .ok (.lconst 0, 1) := by decide +kernel
theorem dX6_says_15 : decode cX6_says 15 = .ok (.ldc2_w 110, 3) := by decide +kernel
theorem dX6_says_18 : decode cX6_says 18 = .ok (.invokestatic 82, 3) := by decide +kernel
theorem dX6_says_21 : decode cX6_says 21 = .ok (.ifCond .ne 10, 3) := by decide +kernel
theorem dX6_says_24 : decode cX6_says 24 = .ok (.aload_n 0, 1) := by decide +kernel
theorem dX6_says_25 : decode cX6_says 25 = .ok (.bipush (-2), 2) := by decide +kernel
theorem dX6_says_27 : decode cX6_says 27 = .ok (.invokevirtual 96, 3) := by decide +kernel
theorem dX6_says_30 : decode cX6_says 30 = .ok (.ireturn, 1) := by decide +kernel
theorem dX6_says_31 : decode cX6_says 31 = .ok (.aload_n 0, 1) := by decide +kernel
theorem dX6_says_32 : decode cX6_says 32 = .ok (.getfield 7, 3) := by decide +kernel
theorem dX6_says_35 : decode cX6_says 35 = .ok (.iload_n 1, 1) := by decide +kernel
theorem dX6_says_36 : decode cX6_says 36 = .ok (.iaload, 1) := by decide +kernel
theorem dX6_says_37 : decode cX6_says 37 = .ok (.iconst 1, 1) := by decide +kernel
theorem dX6_says_38 : decode cX6_says 38 = .ok (.if_icmp .eq 31, 3) := by decide +kernel
theorem dX6_says_41 : decode cX6_says 41 = .ok (.aload_n 0, 1) := by decide +kernel
theorem dX6_says_42 : decode cX6_says 42 = .ok (.getfield 7, 3) := by decide +kernel
theorem dX6_says_45 : decode cX6_says 45 = .ok (.iload_n 1, 1) := by decide +kernel
theorem dX6_says_46 : decode cX6_says 46 = .ok (.iaload, 1) := by decide +kernel
theorem dX6_says_47 : decode cX6_says 47 = .ok (.iconst 2, 1) := by decide +kernel
theorem dX6_says_48 : decode cX6_says 48 = .ok (.if_icmp .ne 28, 3) := by decide +kernel
theorem dX6_says_51 : decode cX6_says 51 = .ok (.aload_n 0, 1) := by decide +kernel
theorem dX6_says_52 : decode cX6_says 52 = .ok (.getfield 37, 3) := by decide +kernel
theorem dX6_says_55 : decode cX6_says 55 = .ok (.aload_n 0, 1) := by decide +kernel
theorem dX6_says_56 : decode cX6_says 56 = .ok (.getfield 28, 3) := by decide +kernel
theorem dX6_says_59 : decode cX6_says 59 = .ok (.iload_n 1, 1) := by decide +kernel
theorem dX6_says_60 : decode cX6_says 60 = .ok (.iaload, 1) := by decide +kernel
theorem dX6_says_61 : decode cX6_says 61 = .ok (.iaload, 1) := by decide +kernel
theorem dX6_says_62 : decode cX6_says 62 = .ok (.iload_n 2, 1) := by decide +kernel
theorem dX6_says_63 : decode cX6_says 63 = .ok (.invokestatic 112, 3) := by decide +kernel
theorem dX6_says_66 : decode cX6_says 66 = .ok (.ifCond .ne 10, 3) := by decide +kernel
theorem dX6_says_69 : decode cX6_says 69 = .ok (.aload_n 0, 1) := by decide +kernel
theorem dX6_says_70 : decode cX6_says 70 = .ok (.bipush (-3), 2) := by decide +kernel
theorem dX6_says_72 : decode cX6_says 72 = .ok (.invokevirtual 96, 3) := by decide +kernel
theorem dX6_says_75 : decode cX6_says 75 = .ok (.ireturn, 1) := by decide +kernel
theorem dX6_says_76 : decode cX6_says 76 = .ok (.aload_n 0, 1) := by decide +kernel
theorem dX6_says_77 : decode cX6_says 77 = .ok (.getfield 7, 3) := by decide +kernel
theorem dX6_says_80 : decode cX6_says 80 = .ok (.iload_n 1, 1) := by decide +kernel
theorem dX6_says_81 : decode cX6_says 81 = .ok (.iaload, 1) := by decide +kernel
theorem dX6_says_82 : decode cX6_says 82 = .ok (.ifCond .ne 10, 3) := by decide +kernel
theorem dX6_says_85 : decode cX6_says 85 = .ok (.aload_n 0, 1) := by decide +kernel
theorem dX6_says_86 : decode cX6_says 86 = .ok (.bipush (-4), 2) := by decide +kernel
theorem dX6_says_88 : decode cX6_says 88 = .ok (.invokevirtual 96, 3) := by decide +kernel
theorem dX6_says_91 : decode cX6_says 91 = .ok (.ireturn, 1) := by decide +kernel
theorem dX6_says_92 : decode cX6_says 92 = .ok (.aload_n 0, 1) := by decide +kernel
theorem dX6_says_93 : decode cX6_says 93 = .ok (.getfield 28, 3) := by decide +kernel
theorem dX6_says_96 : decode cX6_says 96 = .ok (.iload_n 1, 1) := by decide +kernel
theorem dX6_says_97 : decode cX6_says 97 = .ok (.iaload, 1) := by decide +kernel
theorem dX6_says_98 : decode cX6_says 98 = .ok (.istore_n 3, 1) := by decide +kernel
theorem dX6_says_99 : decode cX6_says 99 = .ok (.iconst 0, 1) := by decide +kernel
theorem dX6_says_100 : decode cX6_says 100 = .ok (.istore 4, 2) := by decide +kernel
theorem dX6_says_102 : decode cX6_says 102 = .ok (.iload_n 2, 1) := by decide +kernel
theorem dX6_says_103 : decode cX6_says 103 = .ok (.tableswitch 182 0 4 #[33, 43, 84, 97, 142], 33) := by decide +kernel
theorem dX6_says_136 : decode cX6_says 136 = .ok (.aload_n 0, 1) := by decide +kernel
theorem dX6_says_137 : decode cX6_says 137 = .ok (.getfield 43, 3) := by decide +kernel
theorem dX6_says_140 : decode cX6_says 140 = .ok (.iload_n 3, 1) := by decide +kernel
