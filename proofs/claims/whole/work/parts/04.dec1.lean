theorem dX8_bestFor_35 : decode cX8_bestFor 35 = .ok (.ifCond .eq 20, 3) := by decide +kernel
theorem dX8_bestFor_38 : decode cX8_bestFor 38 = .ok (.iload_n 2, 1) := by decide +kernel
theorem dX8_bestFor_39 : decode cX8_bestFor 39 = .ok (.iconst (-1), 1) := by decide +kernel
theorem dX8_bestFor_40 : decode cX8_bestFor 40 = .ok (.if_icmp .eq 9, 3) := by decide +kernel
theorem dX8_bestFor_43 : decode cX8_bestFor 43 = .ok (.iload 5, 2) := by decide +kernel
theorem dX8_bestFor_45 : decode cX8_bestFor 45 = .ok (.iload_n 3, 1) := by decide +kernel
theorem dX8_bestFor_46 : decode cX8_bestFor 46 = .ok (.if_icmp .ge 9, 3) := by decide +kernel
theorem dX8_bestFor_49 : decode cX8_bestFor 49 = .ok (.iload 4, 2) := by decide +kernel
theorem dX8_bestFor_51 : decode cX8_bestFor 51 = .ok (.istore_n 2, 1) := by decide +kernel
theorem dX8_bestFor_52 : decode cX8_bestFor 52 = .ok (.iload 5, 2) := by decide +kernel
theorem dX8_bestFor_54 : decode cX8_bestFor 54 = .ok (.istore_n 3, 1) := by decide +kernel
theorem dX8_bestFor_55 : decode cX8_bestFor 55 = .ok (.iinc 4 1, 3) := by decide +kernel
theorem dX8_bestFor_58 : decode cX8_bestFor 58 = .ok (.goto (-51), 3) := by decide +kernel
theorem dX8_bestFor_61 : decode cX8_bestFor 61 = .ok (.iload_n 2, 1) := by decide +kernel
theorem dX8_bestFor_62 : decode cX8_bestFor 62 = .ok (.ireturn, 1) := by decide +kernel
theorem dX8_remoteness_0 : decode cX8_remoteness 0 = .ok (.aload_n 0, 1) := by decide +kernel
theorem dX8_remoteness_1 : decode cX8_remoteness 1 = .ok (.getfield 12, 3) := by decide +kernel
theorem dX8_remoteness_4 : decode cX8_remoteness 4 = .ok (.iload_n 2, 1) := by decide +kernel
theorem dX8_remoteness_5 : decode cX8_remoteness 5 = .ok (.invokevirtual 161, 3) := by decide +kernel
theorem dX8_remoteness_8 : decode cX8_remoteness 8 = .ok (.aload_n 0, 1) := by decide +kernel
theorem dX8_remoteness_9 : decode cX8_remoteness 9 = .ok (.getfield 21, 3) := by decide +kernel
theorem dX8_remoteness_12 : decode cX8_remoteness 12 = .ok (.iload_n 1, 1) := by decide +kernel
theorem dX8_remoteness_13 : decode cX8_remoteness 13 = .ok (.invokevirtual 164, 3) := by decide +kernel
theorem dX8_remoteness_16 : decode cX8_remoteness 16 = .ok (.isub, 1) := by decide +kernel
theorem dX8_remoteness_17 : decode cX8_remoteness 17 = .ok (.invokestatic 167, 3) := by decide +kernel
theorem dX8_remoteness_20 : decode cX8_remoteness 20 = .ok (.istore_n 3, 1) := by decide +kernel
theorem dX8_remoteness_21 : decode cX8_remoteness 21 = .ok (.iload_n 3, 1) := by decide +kernel
theorem dX8_remoteness_22 : decode cX8_remoteness 22 = .ok (.bipush 101, 2) := by decide +kernel
theorem dX8_remoteness_24 : decode cX8_remoteness 24 = .ok (.imul, 1) := by decide +kernel
theorem dX8_remoteness_25 : decode cX8_remoteness 25 = .ok (.aload_n 0, 1) := by decide +kernel
theorem dX8_remoteness_26 : decode cX8_remoteness 26 = .ok (.getfield 12, 3) := by decide +kernel
theorem dX8_remoteness_29 : decode cX8_remoteness 29 = .ok (.iload_n 2, 1) := by decide +kernel
theorem dX8_remoteness_30 : decode cX8_remoteness 30 = .ok (.invokevirtual 175, 3) := by decide +kernel
theorem dX8_remoteness_33 : decode cX8_remoteness 33 = .ok (.iadd, 1) := by decide +kernel
theorem dX8_remoteness_34 : decode cX8_remoteness 34 = .ok (.ireturn, 1) := by decide +kernel
theorem dX8_takeBack_0 : decode cX8_takeBack 0 = .ok (.aload_n 0, 1) := by decide +kernel
theorem dX8_takeBack_1 : decode cX8_takeBack 1 = .ok (.getfield 12, 3) := by decide +kernel
theorem dX8_takeBack_4 : decode cX8_takeBack 4 = .ok (.iload_n 1, 1) := by decide +kernel
theorem dX8_takeBack_5 : decode cX8_takeBack 5 = .ok (.invokevirtual 83, 3) := by decide +kernel
theorem dX8_takeBack_8 : decode cX8_takeBack 8 = .ok (.ifCond .eq 10, 3) := by decide +kernel
theorem dX8_takeBack_11 : decode cX8_takeBack 11 = .ok (.iload_n 3, 1) := by decide +kernel
theorem dX8_takeBack_12 : decode cX8_takeBack 12 = .ok (.invokestatic 64, 3) := by decide +kernel
theorem dX8_takeBack_15 : decode cX8_takeBack 15 = .ok (.ifCond .ne 6, 3) := by decide +kernel
theorem dX8_takeBack_18 : decode cX8_takeBack 18 = .ok (.bipush (-2), 2) := by decide +kernel
theorem dX8_takeBack_20 : decode cX8_takeBack 20 = .ok (.ireturn, 1) := by decide +kernel
theorem dX8_takeBack_21 : decode cX8_takeBack 21 = .ok (.iload_n 2, 1) := by decide +kernel
theorem dX8_takeBack_22 : decode cX8_takeBack 22 = .ok (.ifCond .lt 10, 3) := by decide +kernel
theorem dX8_takeBack_25 : decode cX8_takeBack 25 = .ok (.iload_n 2, 1) := by decide +kernel
theorem dX8_takeBack_26 : decode cX8_takeBack 26 = .ok (.sipush 999, 3) := by decide +kernel
theorem dX8_takeBack_29 : decode cX8_takeBack 29 = .ok (.if_icmp .le 5, 3) := by decide +kernel
theorem dX8_takeBack_32 : decode cX8_takeBack 32 = .ok (.iconst (-1), 1) := by decide +kernel
theorem dX8_takeBack_33 : decode cX8_takeBack 33 = .ok (.ireturn, 1) := by decide +kernel
theorem dX8_takeBack_34 : decode cX8_takeBack 34 = .ok (.aload_n 0, 1) := by decide +kernel
theorem dX8_takeBack_35 : decode cX8_takeBack 35 = .ok (.getfield 12, 3) := by decide +kernel
theorem dX8_takeBack_38 : decode cX8_takeBack 38 = .ok (.iload_n 3, 1) := by decide +kernel
theorem dX8_takeBack_39 : decode cX8_takeBack 39 = .ok (.invokevirtual 68, 3) := by decide +kernel
theorem dX8_takeBack_42 : decode cX8_takeBack 42 = .ok (.istore 4, 2) := by decide +kernel
theorem dX8_takeBack_44 : decode cX8_takeBack 44 = .ok (.aload_n 0, 1) := by decide +kernel
theorem dX8_takeBack_45 : decode cX8_takeBack 45 = .ok (.getfield 12, 3) := by decide +kernel
theorem dX8_takeBack_48 : decode cX8_takeBack 48 = .ok (.iload_n 1, 1) := by decide +kernel
theorem dX8_takeBack_49 : decode cX8_takeBack 49 = .ok (.invokevirtual 86, 3) := by decide +kernel
theorem dX8_takeBack_52 : decode cX8_takeBack 52 = .ok (.ifCond .eq 9, 3) := by decide +kernel
theorem dX8_takeBack_55 : decode cX8_takeBack 55 = .ok (.iload 4, 2) := by decide +kernel
theorem dX8_takeBack_57 : decode cX8_takeBack 57 = .ok (.iconst (-1), 1) := by decide +kernel
theorem dX8_takeBack_58 : decode cX8_takeBack 58 = .ok (.if_icmp .ne 6, 3) := by decide +kernel
theorem dX8_takeBack_61 : decode cX8_takeBack 61 = .ok (.bipush (-3), 2) := by decide +kernel
theorem dX8_takeBack_63 : decode cX8_takeBack 63 = .ok (.ireturn, 1) := by decide +kernel
theorem dX8_takeBack_64 : decode cX8_takeBack 64 = .ok (.bipush 100, 2) := by decide +kernel
theorem dX8_takeBack_66 : decode cX8_takeBack 66 = .ok (.aload_n 0, 1) := by decide +kernel
theorem dX8_takeBack_67 : decode cX8_takeBack 67 = .ok (.getfield 12, 3) := by decide +kernel
theorem dX8_takeBack_70 : decode cX8_takeBack 70 = .ok (.iload_n 1, 1) := by decide +kernel
theorem dX8_takeBack_71 : decode cX8_takeBack 71 = .ok (.invokevirtual 175, 3) := by decide +kernel
theorem dX8_takeBack_74 : decode cX8_takeBack 74 = .ok (.iload_n 2, 1) := by decide +kernel
theorem dX8_takeBack_75 : decode cX8_takeBack 75 = .ok (.bipush 10, 2) := by decide +kernel
theorem dX8_takeBack_77 : decode cX8_takeBack 77 = .ok (.idiv, 1) := by decide +kernel
theorem dX8_takeBack_78 : decode cX8_takeBack 78 = .ok (.iadd, 1) := by decide +kernel
theorem dX8_takeBack_79 : decode cX8_takeBack 79 = .ok (.invokestatic 193, 3) := by decide +kernel
theorem dX8_takeBack_82 : decode cX8_takeBack 82 = .ok (.istore 5, 2) := by decide +kernel
theorem dX8_takeBack_84 : decode cX8_takeBack 84 = .ok (.iconst 2, 1) := by decide +kernel
theorem dX8_takeBack_85 : decode cX8_takeBack 85 = .ok (.iconst 0, 1) := by decide +kernel
theorem dX8_takeBack_86 : decode cX8_takeBack 86 = .ok (.aload_n 0, 1) := by decide +kernel
theorem dX8_takeBack_87 : decode cX8_takeBack 87 = .ok (.getfield 32, 3) := by decide +kernel
theorem dX8_takeBack_90 : decode cX8_takeBack 90 = .ok (.aload_n 0, 1) := by decide +kernel
theorem dX8_takeBack_91 : decode cX8_takeBack 91 = .ok (.getfield 12, 3) := by decide +kernel
theorem dX8_takeBack_94 : decode cX8_takeBack 94 = .ok (.iload_n 1, 1) := by decide +kernel
theorem dX8_takeBack_95 : decode cX8_takeBack 95 = .ok (.invokevirtual 178, 3) := by decide +kernel
theorem dX8_takeBack_98 : decode cX8_takeBack 98 = .ok (.isub, 1) := by decide +kernel
theorem dX8_takeBack_99 : decode cX8_takeBack 99 = .ok (.invokestatic 196, 3) := by decide +kernel
theorem dX8_takeBack_102 : decode cX8_takeBack 102 = .ok (.imul, 1) := by decide +kernel
theorem dX8_takeBack_103 : decode cX8_takeBack 103 = .ok (.istore 6, 2) := by decide +kernel
theorem dX8_takeBack_105 : decode cX8_takeBack 105 = .ok (.aload_n 0, 1) := by decide +kernel
theorem dX8_takeBack_106 : decode cX8_takeBack 106 = .ok (.getfield 12, 3) := by decide +kernel
theorem dX8_takeBack_109 : decode cX8_takeBack 109 = .ok (.iload_n 1, 1) := by decide +kernel
theorem dX8_takeBack_110 : decode cX8_takeBack 110 = .ok (.iload 5, 2) := by decide +kernel
theorem dX8_takeBack_112 : decode cX8_takeBack 112 = .ok (.invokevirtual 199, 3) := by decide +kernel
theorem dX8_takeBack_115 : decode cX8_takeBack 115 = .ok (.aload_n 0, 1) := by decide +kernel
theorem dX8_takeBack_116 : decode cX8_takeBack 116 = .ok (.getfield 12, 3) := by decide +kernel
theorem dX8_takeBack_119 : decode cX8_takeBack 119 = .ok (.iload_n 3, 1) := by decide +kernel
theorem dX8_takeBack_120 : decode cX8_takeBack 120 = .ok (.iload 4, 2) := by decide +kernel
theorem dX8_takeBack_122 : decode cX8_takeBack 122 = .ok (.iload_n 1, 1) := by decide +kernel
theorem dX8_takeBack_123 : decode cX8_takeBack 123 = .ok (.invokevirtual 79, 3) := by decide +kernel
theorem dX8_takeBack_126 : decode cX8_takeBack 126 = .ok (.aload_n 0, 1) := by decide +kernel
theorem dX8_takeBack_127 : decode cX8_takeBack 127 = .ok (.dup, 1) := by decide +kernel
theorem dX8_takeBack_128 : decode cX8_takeBack 128 = .ok (.getfield 36, 3) := by decide +kernel
theorem dX8_takeBack_131 : decode cX8_takeBack 131 = .ok (.iload 6, 2) := by decide +kernel
theorem dX8_takeBack_133 : decode cX8_takeBack 133 = .ok (.iadd, 1) := by decide +kernel
theorem dX8_takeBack_134 : decode cX8_takeBack 134 = .ok (.putfield 36, 3) := by decide +kernel
theorem dX8_takeBack_137 : decode cX8_takeBack 137 = .ok (.aload_n 0, 1) := by decide +kernel
theorem dX8_takeBack_138 : decode cX8_takeBack 138 = .ok (.dup, 1) := by decide +kernel
theorem dX8_takeBack_139 : decode cX8_takeBack 139 = .ok (.getfield 42, 3) := by decide +kernel
theorem dX8_takeBack_142 : decode cX8_takeBack 142 = .ok (.iload 6, 2) := by decide +kernel
theorem dX8_takeBack_144 : decode cX8_takeBack 144 = .ok (.iadd, 1) := by decide +kernel
theorem dX8_takeBack_145 : decode cX8_takeBack 145 = .ok (.putfield 42, 3) := by decide +kernel
theorem dX8_takeBack_148 : decode cX8_takeBack 148 = .ok (.iload 5, 2) := by decide +kernel
theorem dX8_takeBack_150 : decode cX8_takeBack 150 = .ok (.ireturn, 1) := by decide +kernel
theorem dX8_renew_0 : decode cX8_renew 0 = .ok (.aload_n 0, 1) := by decide +kernel
theorem dX8_renew_1 : decode cX8_renew 1 = .ok (.getfield 12, 3) := by decide +kernel
theorem dX8_renew_4 : decode cX8_renew 4 = .ok (.iload_n 1, 1) := by decide +kernel
theorem dX8_renew_5 : decode cX8_renew 5 = .ok (.invokevirtual 83, 3) := by decide +kernel
theorem dX8_renew_8 : decode cX8_renew 8 = .ok (.ifCond .ne 6, 3) := by decide +kernel
theorem dX8_renew_11 : decode cX8_renew 11 = .ok (.bipush (-2), 2) := by decide +kernel
theorem dX8_renew_13 : decode cX8_renew 13 = .ok (.ireturn, 1) := by decide +kernel
theorem dX8_renew_14 : decode cX8_renew 14 = .ok (.aload_n 0, 1) := by decide +kernel
theorem dX8_renew_15 : decode cX8_renew 15 = .ok (.getfield 12, 3) := by decide +kernel
theorem dX8_renew_18 : decode cX8_renew 18 = .ok (.iload_n 1, 1) := by decide +kernel
theorem dX8_renew_19 : decode cX8_renew 19 = .ok (.invokevirtual 86, 3) := by decide +kernel
theorem dX8_renew_22 : decode cX8_renew 22 = .ok (.ifCond .eq 6, 3) := by decide +kernel
theorem dX8_renew_25 : decode cX8_renew 25 = .ok (.bipush (-3), 2) := by decide +kernel
theorem dX8_renew_27 : decode cX8_renew 27 = .ok (.ireturn, 1) := by decide +kernel
theorem dX8_renew_28 : decode cX8_renew 28 = .ok (.aload_n 0, 1) := by decide +kernel
theorem dX8_renew_29 : decode cX8_renew 29 = .ok (.getfield 12, 3) := by decide +kernel
theorem dX8_renew_32 : decode cX8_renew 32 = .ok (.iload_n 1, 1) := by decide +kernel
theorem dX8_renew_33 : decode cX8_renew 33 = .ok (.invokevirtual 175, 3) := by decide +kernel
theorem dX8_renew_36 : decode cX8_renew 36 = .ok (.iconst 4, 1) := by decide +kernel
theorem dX8_renew_37 : decode cX8_renew 37 = .ok (.iadd, 1) := by decide +kernel
theorem dX8_renew_38 : decode cX8_renew 38 = .ok (.iconst 5, 1) := by decide +kernel
theorem dX8_renew_39 : decode cX8_renew 39 = .ok (.idiv, 1) := by decide +kernel
theorem dX8_renew_40 : decode cX8_renew 40 = .ok (.istore_n 2, 1) := by decide +kernel
theorem dX8_renew_41 : decode cX8_renew 41 = .ok (.aload_n 0, 1) := by decide +kernel
theorem dX8_renew_42 : decode cX8_renew 42 = .ok (.getfield 36, 3) := by decide +kernel
theorem dX8_renew_45 : decode cX8_renew 45 = .ok (.iload_n 2, 1) := by decide +kernel
theorem dX8_renew_46 : decode cX8_renew 46 = .ok (.if_icmp .ge 6, 3) := by decide +kernel
theorem dX8_renew_49 : decode cX8_renew 49 = .ok (.bipush (-5), 2) := by decide +kernel
theorem dX8_renew_51 : decode cX8_renew 51 = .ok (.ireturn, 1) := by decide +kernel
theorem dX8_renew_52 : decode cX8_renew 52 = .ok (.aload_n 0, 1) := by decide +kernel
theorem dX8_renew_53 : decode cX8_renew 53 = .ok (.getfield 12, 3) := by decide +kernel
theorem dX8_renew_56 : decode cX8_renew 56 = .ok (.iload_n 1, 1) := by decide +kernel
theorem dX8_renew_57 : decode cX8_renew 57 = .ok (.iconst 0, 1) := by decide +kernel
theorem dX8_renew_58 : decode cX8_renew 58 = .ok (.invokevirtual 199, 3) := by decide +kernel
theorem dX8_renew_61 : decode cX8_renew 61 = .ok (.aload_n 0, 1) := by decide +kernel
theorem dX8_renew_62 : decode cX8_renew 62 = .ok (.dup, 1) := by decide +kernel
theorem dX8_renew_63 : decode cX8_renew 63 = .ok (.getfield 36, 3) := by decide +kernel
theorem dX8_renew_66 : decode cX8_renew 66 = .ok (.iload_n 2, 1) := by decide +kernel
theorem dX8_renew_67 : decode cX8_renew 67 = .ok (.isub, 1) := by decide +kernel
theorem dX8_renew_68 : decode cX8_renew 68 = .ok (.putfield 36, 3) := by decide +kernel
theorem dX8_renew_71 : decode cX8_renew 71 = .ok (.aload_n 0, 1) := by decide +kernel
theorem dX8_renew_72 : decode cX8_renew 72 = .ok (.dup, 1) := by decide +kernel
theorem dX8_renew_73 : decode cX8_renew 73 = .ok (.getfield 45, 3) := by decide +kernel
theorem dX8_renew_76 : decode cX8_renew 76 = .ok (.iload_n 2, 1) := by decide +kernel
theorem dX8_renew_77 : decode cX8_renew 77 = .ok (.iadd, 1) := by decide +kernel
theorem dX8_renew_78 : decode cX8_renew 78 = .ok (.putfield 45, 3) := by decide +kernel
theorem dX8_renew_81 : decode cX8_renew 81 = .ok (.iload_n 2, 1) := by decide +kernel
theorem dX8_renew_82 : decode cX8_renew 82 = .ok (.ireturn, 1) := by decide +kernel
theorem dX8_advance_0 : decode cX8_advance 0 = .ok (.iload_n 1, 1) := by decide +kernel
theorem dX8_advance_1 : decode cX8_advance 1 = .ok (.iconst 1, 1) := by decide +kernel
theorem dX8_advance_2 : decode cX8_advance 2 = .ok (.if_icmp .lt 9, 3) := by decide +kernel
theorem dX8_advance_5 : decode cX8_advance 5 = .ok (.iload_n 1, 1) := by decide +kernel
theorem dX8_advance_6 : decode cX8_advance 6 = .ok (.bipush 30, 2) := by decide +kernel
theorem dX8_advance_8 : decode cX8_advance 8 = .ok (.if_icmp .le 5, 3) := by decide +kernel
theorem dX8_advance_11 : decode cX8_advance 11 = .ok (.iconst (-1), 1) := by decide +kernel
theorem dX8_advance_12 : decode cX8_advance 12 = .ok (.ireturn, 1) := by decide +kernel
theorem dX8_advance_13 : decode cX8_advance 13 = .ok (.aload_n 0, 1) := by decide +kernel
theorem dX8_advance_14 : decode cX8_advance 14 = .ok (.getfield 51, 3) := by decide +kernel
theorem dX8_advance_17 : decode cX8_advance 17 = .ok (.istore_n 2, 1) := by decide +kernel
theorem dX8_advance_18 : decode cX8_advance 18 = .ok (.iconst 0, 1) := by decide +kernel
theorem dX8_advance_19 : decode cX8_advance 19 = .ok (.istore_n 3, 1) := by decide +kernel
theorem dX8_advance_20 : decode cX8_advance 20 = .ok (.iload_n 3, 1) := by decide +kernel
theorem dX8_advance_21 : decode cX8_advance 21 = .ok (.iload_n 1, 1) := by decide +kernel
theorem dX8_advance_22 : decode cX8_advance 22 = .ok (.if_icmp .ge 23, 3) := by decide +kernel
theorem dX8_advance_25 : decode cX8_advance 25 = .ok (.aload_n 0, 1) := by decide +kernel
theorem dX8_advance_26 : decode cX8_advance 26 = .ok (.dup, 1) := by decide +kernel
theorem dX8_advance_27 : decode cX8_advance 27 = .ok (.getfield 32, 3) := by decide +kernel
theorem dX8_advance_30 : decode cX8_advance 30 = .ok (.iconst 1, 1) := by decide +kernel
theorem dX8_advance_31 : decode cX8_advance 31 = .ok (.iadd, 1) := by decide +kernel
theorem dX8_advance_32 : decode cX8_advance 32 = .ok (.putfield 32, 3) := by decide +kernel
theorem dX8_advance_35 : decode cX8_advance 35 = .ok (.aload_n 0, 1) := by decide +kernel
theorem dX8_advance_36 : decode cX8_advance 36 = .ok (.invokevirtual 202, 3) := by decide +kernel
theorem dX8_advance_39 : decode cX8_advance 39 = .ok (.iinc 3 1, 3) := by decide +kernel
theorem dX8_advance_42 : decode cX8_advance 42 = .ok (.goto (-22), 3) := by decide +kernel
theorem dX8_advance_45 : decode cX8_advance 45 = .ok (.aload_n 0, 1) := by decide +kernel
theorem dX8_advance_46 : decode cX8_advance 46 = .ok (.getfield 51, 3) := by decide +kernel
theorem dX8_advance_49 : decode cX8_advance 49 = .ok (.iload_n 2, 1) := by decide +kernel
theorem dX8_advance_50 : decode cX8_advance 50 = .ok (.isub, 1) := by decide +kernel
theorem dX8_advance_51 : decode cX8_advance 51 = .ok (.ireturn, 1) := by decide +kernel
theorem dX8_openBookings_0 : decode cX8_openBookings 0 = .ok (.aload_n 0, 1) := by decide +kernel
theorem dX8_openBookings_1 : decode cX8_openBookings 1 = .ok (.getfield 28, 3) := by decide +kernel
theorem dX8_openBookings_4 : decode cX8_openBookings 4 = .ok (.invokevirtual 205, 3) := by decide +kernel
theorem dX8_openBookings_7 : decode cX8_openBookings 7 = .ok (.istore_n 1, 1) := by decide +kernel
theorem dX8_openBookings_8 : decode cX8_openBookings 8 = .ok (.iload_n 1, 1) := by decide +kernel
theorem dX8_openBookings_9 : decode cX8_openBookings 9 = .ok (.ifCond .le 102, 3) := by decide +kernel
theorem dX8_openBookings_12 : decode cX8_openBookings 12 = .ok (.aload_n 0, 1) := by decide +kernel
theorem dX8_openBookings_13 : decode cX8_openBookings 13 = .ok (.getfield 28, 3) := by decide +kernel
theorem dX8_openBookings_16 : decode cX8_openBookings 16 = .ok (.aload_n 0, 1) := by decide +kernel
theorem dX8_openBookings_17 : decode cX8_openBookings 17 = .ok (.getfield 32, 3) := by decide +kernel
theorem dX8_openBookings_20 : decode cX8_openBookings 20 = .ok (.invokevirtual 206, 3) := by decide +kernel
theorem dX8_openBookings_23 : decode cX8_openBookings 23 = .ok (.istore_n 2, 1) := by decide +kernel
theorem dX8_openBookings_24 : decode cX8_openBookings 24 = .ok (.iload_n 2, 1) := by decide +kernel
theorem dX8_openBookings_25 : decode cX8_openBookings 25 = .ok (.iconst (-1), 1) := by decide +kernel
theorem dX8_openBookings_26 : decode cX8_openBookings 26 = .ok (.if_icmp .ne 4, 3) := by decide +kernel
theorem dX8_openBookings_29 : decode cX8_openBookings 29 = .ok (.return_, 1) := by decide +kernel
theorem dX8_openBookings_30 : decode cX8_openBookings 30 = .ok (.aload_n 0, 1) := by decide +kernel
theorem dX8_openBookings_31 : decode cX8_openBookings 31 = .ok (.getfield 28, 3) := by decide +kernel
theorem dX8_openBookings_34 : decode cX8_openBookings 34 = .ok (.iload_n 2, 1) := by decide +kernel
theorem dX8_openBookings_35 : decode cX8_openBookings 35 = .ok (.invokevirtual 209, 3) := by decide +kernel
theorem dX8_openBookings_38 : decode cX8_openBookings 38 = .ok (.istore_n 3, 1) := by decide +kernel
theorem dX8_openBookings_39 : decode cX8_openBookings 39 = .ok (.aload_n 0, 1) := by decide +kernel
theorem dX8_openBookings_40 : decode cX8_openBookings 40 = .ok (.getfield 12, 3) := by decide +kernel
theorem dX8_openBookings_43 : decode cX8_openBookings 43 = .ok (.iload_n 3, 1) := by decide +kernel
theorem dX8_openBookings_44 : decode cX8_openBookings 44 = .ok (.invokevirtual 86, 3) := by decide +kernel
theorem dX8_openBookings_47 : decode cX8_openBookings 47 = .ok (.ifCond .eq 16, 3) := by decide +kernel
theorem dX8_openBookings_50 : decode cX8_openBookings 50 = .ok (.aload_n 0, 1) := by decide +kernel
theorem dX8_openBookings_51 : decode cX8_openBookings 51 = .ok (.dup, 1) := by decide +kernel
theorem dX8_openBookings_52 : decode cX8_openBookings 52 = .ok (.getfield 48, 3) := by decide +kernel
theorem dX8_openBookings_55 : decode cX8_openBookings 55 = .ok (.iconst 1, 1) := by decide +kernel
theorem dX8_openBookings_56 : decode cX8_openBookings 56 = .ok (.iadd, 1) := by decide +kernel
theorem dX8_openBookings_57 : decode cX8_openBookings 57 = .ok (.putfield 48, 3) := by decide +kernel
theorem dX8_openBookings_60 : decode cX8_openBookings 60 = .ok (.goto 37, 3) := by decide +kernel
theorem dX8_openBookings_63 : decode cX8_openBookings 63 = .ok (.aload_n 0, 1) := by decide +kernel
theorem dX8_openBookings_64 : decode cX8_openBookings 64 = .ok (.getfield 12, 3) := by decide +kernel
theorem dX8_openBookings_67 : decode cX8_openBookings 67 = .ok (.iload_n 3, 1) := by decide +kernel
theorem dX8_openBookings_68 : decode cX8_openBookings 68 = .ok (.aload_n 0, 1) := by decide +kernel
theorem dX8_openBookings_69 : decode cX8_openBookings 69 = .ok (.getfield 28, 3) := by decide +kernel
theorem dX8_openBookings_72 : decode cX8_openBookings 72 = .ok (.iload_n 2, 1) := by decide +kernel
theorem dX8_openBookings_73 : decode cX8_openBookings 73 = .ok (.invokevirtual 212, 3) := by decide +kernel
theorem dX8_openBookings_76 : decode cX8_openBookings 76 = .ok (.aload_n 0, 1) := by decide +kernel
theorem dX8_openBookings_77 : decode cX8_openBookings 77 = .ok (.getfield 28, 3) := by decide +kernel
theorem dX8_openBookings_80 : decode cX8_openBookings 80 = .ok (.iload_n 2, 1) := by decide +kernel
theorem dX8_openBookings_81 : decode cX8_openBookings 81 = .ok (.invokevirtual 215, 3) := by decide +kernel
theorem dX8_openBookings_84 : decode cX8_openBookings 84 = .ok (.invokevirtual 218, 3) := by decide +kernel
theorem dX8_openBookings_87 : decode cX8_openBookings 87 = .ok (.aload_n 0, 1) := by decide +kernel
theorem dX8_openBookings_88 : decode cX8_openBookings 88 = .ok (.dup, 1) := by decide +kernel
theorem dX8_openBookings_89 : decode cX8_openBookings 89 = .ok (.getfield 51, 3) := by decide +kernel
theorem dX8_openBookings_92 : decode cX8_openBookings 92 = .ok (.iconst 1, 1) := by decide +kernel
theorem dX8_openBookings_93 : decode cX8_openBookings 93 = .ok (.iadd, 1) := by decide +kernel
theorem dX8_openBookings_94 : decode cX8_openBookings 94 = .ok (.putfield 51, 3) := by decide +kernel
theorem dX8_openBookings_97 : decode cX8_openBookings 97 = .ok (.aload_n 0, 1) := by decide +kernel
theorem dX8_openBookings_98 : decode cX8_openBookings 98 = .ok (.getfield 28, 3) := by decide +kernel
theorem dX8_openBookings_101 : decode cX8_openBookings 101 = .ok (.iload_n 2, 1) := by decide +kernel
theorem dX8_openBookings_102 : decode cX8_openBookings 102 = .ok (.invokevirtual 221, 3) := by decide +kernel
theorem dX8_openBookings_105 : decode cX8_openBookings 105 = .ok (.iinc 1 (-1), 3) := by decide +kernel
theorem dX8_openBookings_108 : decode cX8_openBookings 108 = .ok (.goto (-100), 3) := by decide +kernel
theorem dX8_openBookings_111 : decode cX8_openBookings 111 = .ok (.return_, 1) := by decide +kernel
theorem dX9_init_0 : decode cX9_init 0 = .ok (.aload_n 0, 1) := by decide +kernel
theorem dX9_init_1 : decode cX9_init 1 = .ok (.invokespecial 3, 3) := by decide +kernel
theorem dX9_init_4 : decode cX9_init 4 = .ok (.aload_n 0, 1) := by decide +kernel
theorem dX9_init_5 : decode cX9_init 5 = .ok (.new 9, 3) := by decide +kernel
theorem dX9_init_8 : decode cX9_init 8 = .ok (.dup, 1) := by decide +kernel
theorem dX9_init_9 : decode cX9_init 9 = .ok (.invokespecial 11, 3) := by decide +kernel
theorem dX9_init_12 : decode cX9_init 12 = .ok (.putfield 12, 3) := by decide +kernel
theorem dX9_init_15 : decode cX9_init 15 = .ok (.aload_n 0, 1) := by decide +kernel
theorem dX9_init_16 : decode cX9_init 16 = .ok (.new 9, 3) := by decide +kernel
theorem dX9_init_19 : decode cX9_init 19 = .ok (.dup, 1) := by decide +kernel
theorem dX9_init_20 : decode cX9_init 20 = .ok (.invokespecial 11, 3) := by decide +kernel
theorem dX9_init_23 : decode cX9_init 23 = .ok (.putfield 16, 3) := by decide +kernel
theorem dX9_init_26 : decode cX9_init 26 = .ok (.aload_n 0, 1) := by decide +kernel
theorem dX9_init_27 : decode cX9_init 27 = .ok (.new 19, 3) := by decide +kernel
theorem dX9_init_30 : decode cX9_init 30 = .ok (.dup, 1) := by decide +kernel
theorem dX9_init_31 : decode cX9_init 31 = .ok (.invokespecial 21, 3) := by decide +kernel
theorem dX9_init_34 : decode cX9_init 34 = .ok (.putfield 22, 3) := by decide +kernel
theorem dX9_init_37 : decode cX9_init 37 = .ok (.aload_n 0, 1) := by decide +kernel
theorem dX9_init_38 : decode cX9_init 38 = .ok (.new 26, 3) := by decide +kernel
theorem dX9_init_41 : decode cX9_init 41 = .ok (.dup, 1) := by decide +kernel
theorem dX9_init_42 : decode cX9_init 42 = .ok (.invokespecial 28, 3) := by decide +kernel
theorem dX9_init_45 : decode cX9_init 45 = .ok (.putfield 29, 3) := by decide +kernel
theorem dX9_init_48 : decode cX9_init 48 = .ok (.aload_n 0, 1) := by decide +kernel
theorem dX9_init_49 : decode cX9_init 49 = .ok (.new 33, 3) := by decide +kernel
theorem dX9_init_52 : decode cX9_init 52 = .ok (.dup, 1) := by decide +kernel
theorem dX9_init_53 : decode cX9_init 53 = .ok (.invokespecial 35, 3) := by decide +kernel
theorem dX9_init_56 : decode cX9_init 56 = .ok (.putfield 36, 3) := by decide +kernel
theorem dX9_init_59 : decode cX9_init 59 = .ok (.aload_n 0, 1) := by decide +kernel
theorem dX9_init_60 : decode cX9_init 60 = .ok (.new 40, 3) := by decide +kernel
theorem dX9_init_63 : decode cX9_init 63 = .ok (.dup, 1) := by decide +kernel
theorem dX9_init_64 : decode cX9_init 64 = .ok (.invokespecial 42, 3) := by decide +kernel
theorem dX9_init_67 : decode cX9_init 67 = .ok (.putfield 43, 3) := by decide +kernel
theorem dX9_init_70 : decode cX9_init 70 = .ok (.aload_n 0, 1) := by decide +kernel
theorem dX9_init_71 : decode cX9_init 71 = .ok (.new 47, 3) := by decide +kernel
theorem dX9_init_74 : decode cX9_init 74 = .ok (.dup, 1) := by decide +kernel
theorem dX9_init_75 : decode cX9_init 75 = .ok (.invokespecial 49, 3) := by decide +kernel
theorem dX9_init_78 : decode cX9_init 78 = .ok (.putfield 50, 3) := by decide +kernel
theorem dX9_init_81 : decode cX9_init 81 = .ok (.aload_n 0, 1) := by decide +kernel
theorem dX9_init_82 : decode cX9_init 82 = .ok (.iconst 0, 1) := by decide +kernel
theorem dX9_init_83 : decode cX9_init 83 = .ok (.putfield 54, 3) := by decide +kernel
theorem dX9_init_86 : decode cX9_init 86 = .ok (.aload_n 0, 1) := by decide +kernel
theorem dX9_init_87 : decode cX9_init 87 = .ok (.iconst (-1), 1) := by decide +kernel
theorem dX9_init_88 : decode cX9_init 88 = .ok (.putfield 58, 3) := by decide +kernel
theorem dX9_init_91 : decode cX9_init 91 = .ok (.aload_n 0, 1) := by decide +kernel
theorem dX9_init_92 : decode cX9_init 92 = .ok (.iconst (-1), 1) := by decide +kernel
theorem dX9_init_93 : decode cX9_init 93 = .ok (.putfield 62, 3) := by decide +kernel
theorem dX9_init_96 : decode cX9_init 96 = .ok (.return_, 1) := by decide +kernel
theorem dX9_addHammer_0 : decode cX9_addHammer 0 = .ok (.aload_n 0, 1) := by decide +kernel
theorem dX9_addHammer_1 : decode cX9_addHammer 1 = .ok (.getfield 22, 3) := by decide +kernel
theorem dX9_addHammer_4 : decode cX9_addHammer 4 = .ok (.aload_n 0, 1) := by decide +kernel
theorem dX9_addHammer_5 : decode cX9_addHammer 5 = .ok (.getfield 12, 3) := by decide +kernel
theorem dX9_addHammer_8 : decode cX9_addHammer 8 = .ok (.invokevirtual 65, 3) := by decide +kernel
theorem dX9_addHammer_11 : decode cX9_addHammer 11 = .ok (.aload_n 0, 1) := by decide +kernel
theorem dX9_addHammer_12 : decode cX9_addHammer 12 = .ok (.aload_n 0, 1) := by decide +kernel
theorem dX9_addHammer_13 : decode cX9_addHammer 13 = .ok (.getfield 12, 3) := by decide +kernel
theorem dX9_addHammer_16 : decode cX9_addHammer 16 = .ok (.iload_n 1, 1) := by decide +kernel
theorem dX9_addHammer_17 : decode cX9_addHammer 17 = .ok (.iload_n 2, 1) := by decide +kernel
theorem dX9_addHammer_18 : decode cX9_addHammer 18 = .ok (.invokevirtual 69, 3) := by decide +kernel
theorem dX9_addHammer_21 : decode cX9_addHammer 21 = .ok (.invokevirtual 73, 3) := by decide +kernel
theorem dX9_addHammer_24 : decode cX9_addHammer 24 = .ok (.ireturn, 1) := by decide +kernel
theorem dX9_moveHammer_0 : decode cX9_moveHammer 0 = .ok (.aload_n 0, 1) := by decide +kernel
theorem dX9_moveHammer_1 : decode cX9_moveHammer 1 = .ok (.getfield 22, 3) := by decide +kernel
theorem dX9_moveHammer_4 : decode cX9_moveHammer 4 = .ok (.aload_n 0, 1) := by decide +kernel
theorem dX9_moveHammer_5 : decode cX9_moveHammer 5 = .ok (.getfield 12, 3) := by decide +kernel
theorem dX9_moveHammer_8 : decode cX9_moveHammer 8 = .ok (.invokevirtual 65, 3) := by decide +kernel
theorem dX9_moveHammer_11 : decode cX9_moveHammer 11 = .ok (.aload_n 0, 1) := by decide +kernel
theorem dX9_moveHammer_12 : decode cX9_moveHammer 12 = .ok (.aload_n 0, 1) := by decide +kernel
theorem dX9_moveHammer_13 : decode cX9_moveHammer 13 = .ok (.getfield 12, 3) := by decide +kernel
theorem dX9_moveHammer_16 : decode cX9_moveHammer 16 = .ok (.iload_n 1, 1) := by decide +kernel
theorem dX9_moveHammer_17 : decode cX9_moveHammer 17 = .ok (.iload_n 2, 1) := by decide +kernel
theorem dX9_moveHammer_18 : decode cX9_moveHammer 18 = .ok (.invokevirtual 77, 3) := by decide +kernel
theorem dX9_moveHammer_21 : decode cX9_moveHammer 21 = .ok (.invokevirtual 73, 3) := by decide +kernel
theorem dX9_moveHammer_24 : decode cX9_moveHammer 24 = .ok (.ireturn, 1) := by decide +kernel
theorem dX9_swapPlaces_0 : decode cX9_swapPlaces 0 = .ok (.aload_n 0, 1) := by decide +kernel
theorem dX9_swapPlaces_1 : decode cX9_swapPlaces 1 = .ok (.getfield 22, 3) := by decide +kernel
theorem dX9_swapPlaces_4 : decode cX9_swapPlaces 4 = .ok (.aload_n 0, 1) := by decide +kernel
theorem dX9_swapPlaces_5 : decode cX9_swapPlaces 5 = .ok (.getfield 12, 3) := by decide +kernel
theorem dX9_swapPlaces_8 : decode cX9_swapPlaces 8 = .ok (.invokevirtual 65, 3) := by decide +kernel
theorem dX9_swapPlaces_11 : decode cX9_swapPlaces 11 = .ok (.aload_n 0, 1) := by decide +kernel
theorem dX9_swapPlaces_12 : decode cX9_swapPlaces 12 = .ok (.aload_n 0, 1) := by decide +kernel
theorem dX9_swapPlaces_13 : decode cX9_swapPlaces 13 = .ok (.getfield 12, 3) := by decide +kernel
theorem dX9_swapPlaces_16 : decode cX9_swapPlaces 16 = .ok (.iload_n 1, 1) := by decide +kernel
theorem dX9_swapPlaces_17 : decode cX9_swapPlaces 17 = .ok (.iload_n 2, 1) := by decide +kernel
theorem dX9_swapPlaces_18 : decode cX9_swapPlaces 18 = .ok (.iload_n 3, 1) := by decide +kernel
theorem dX9_swapPlaces_19 : decode cX9_swapPlaces 19 = .ok (.invokevirtual 80, 3) := by decide +kernel
theorem dX9_swapPlaces_22 : decode cX9_swapPlaces 22 = .ok (.invokevirtual 73, 3) := by decide +kernel
theorem dX9_swapPlaces_25 : decode cX9_swapPlaces 25 = .ok (.ireturn, 1) := by decide +kernel
theorem dX9_request_0 : decode cX9_request 0 = .ok (.aload_n 0, 1) := by decide +kernel
theorem dX9_request_1 : decode cX9_request 1 = .ok (.getfield 22, 3) := by decide +kernel
theorem dX9_request_4 : decode cX9_request 4 = .ok (.aload_n 0, 1) := by decide +kernel
theorem dX9_request_5 : decode cX9_request 5 = .ok (.getfield 12, 3) := by decide +kernel
theorem dX9_request_8 : decode cX9_request 8 = .ok (.invokevirtual 65, 3) := by decide +kernel
theorem dX9_request_11 : decode cX9_request 11 = .ok (.aload_n 0, 1) := by decide +kernel
theorem dX9_request_12 : decode cX9_request 12 = .ok (.aload_n 0, 1) := by decide +kernel
theorem dX9_request_13 : decode cX9_request 13 = .ok (.getfield 12, 3) := by decide +kernel
theorem dX9_request_16 : decode cX9_request 16 = .ok (.iload_n 1, 1) := by decide +kernel
theorem dX9_request_17 : decode cX9_request 17 = .ok (.iload_n 2, 1) := by decide +kernel
theorem dX9_request_18 : decode cX9_request 18 = .ok (.iload_n 3, 1) := by decide +kernel
theorem dX9_request_19 : decode cX9_request 19 = .ok (.iload 4, 2) := by decide +kernel
theorem dX9_request_21 : decode cX9_request 21 = .ok (.iload 5, 2) := by decide +kernel
theorem dX9_request_23 : decode cX9_request 23 = .ok (.invokevirtual 84, 3) := by decide +kernel
theorem dX9_request_26 : decode cX9_request 26 = .ok (.invokevirtual 73, 3) := by decide +kernel
theorem dX9_request_29 : decode cX9_request 29 = .ok (.ireturn, 1) := by decide +kernel
theorem dX9_cancelRequest_0 : decode cX9_cancelRequest 0 = .ok (.aload_n 0, 1) := by decide +kernel
theorem dX9_cancelRequest_1 : decode cX9_cancelRequest 1 = .ok (.getfield 22, 3) := by decide +kernel
theorem dX9_cancelRequest_4 : decode cX9_cancelRequest 4 = .ok (.aload_n 0, 1) := by decide +kernel
theorem dX9_cancelRequest_5 : decode cX9_cancelRequest 5 = .ok (.getfield 12, 3) := by decide +kernel
theorem dX9_cancelRequest_8 : decode cX9_cancelRequest 8 = .ok (.invokevirtual 65, 3) := by decide +kernel
theorem dX9_cancelRequest_11 : decode cX9_cancelRequest 11 = .ok (.aload_n 0, 1) := by decide +kernel
theorem dX9_cancelRequest_12 : decode cX9_cancelRequest 12 = .ok (.aload_n 0, 1) := by decide +kernel
theorem dX9_cancelRequest_13 : decode cX9_cancelRequest 13 = .ok (.getfield 12, 3) := by decide +kernel
theorem dX9_cancelRequest_16 : decode cX9_cancelRequest 16 = .ok (.iload_n 1, 1) := by decide +kernel
theorem dX9_cancelRequest_17 : decode cX9_cancelRequest 17 = .ok (.invokevirtual 88, 3) := by decide +kernel
theorem dX9_cancelRequest_20 : decode cX9_cancelRequest 20 = .ok (.invokevirtual 73, 3) := by decide +kernel
theorem dX9_cancelRequest_23 : decode cX9_cancelRequest 23 = .ok (.ireturn, 1) := by decide +kernel
theorem dX9_grant_0 : decode cX9_grant 0 = .ok (.aload_n 0, 1) := by decide +kernel
theorem dX9_grant_1 : decode cX9_grant 1 = .ok (.getfield 22, 3) := by decide +kernel
theorem dX9_grant_4 : decode cX9_grant 4 = .ok (.aload_n 0, 1) := by decide +kernel
theorem dX9_grant_5 : decode cX9_grant 5 = .ok (.getfield 12, 3) := by decide +kernel
theorem dX9_grant_8 : decode cX9_grant 8 = .ok (.invokevirtual 65, 3) := by decide +kernel
theorem dX9_grant_11 : decode cX9_grant 11 = .ok (.aload_n 0, 1) := by decide +kernel
theorem dX9_grant_12 : decode cX9_grant 12 = .ok (.aload_n 0, 1) := by decide +kernel
theorem dX9_grant_13 : decode cX9_grant 13 = .ok (.getfield 12, 3) := by decide +kernel
theorem dX9_grant_16 : decode cX9_grant 16 = .ok (.iload_n 1, 1) := by decide +kernel
theorem dX9_grant_17 : decode cX9_grant 17 = .ok (.invokevirtual 91, 3) := by decide +kernel
theorem dX9_grant_20 : decode cX9_grant 20 = .ok (.invokevirtual 73, 3) := by decide +kernel
theorem dX9_grant_23 : decode cX9_grant 23 = .ok (.ireturn, 1) := by decide +kernel
theorem dX9_grantMost_0 : decode cX9_grantMost 0 = .ok (.aload_n 0, 1) := by decide +kernel
theorem dX9_grantMost_1 : decode cX9_grantMost 1 = .ok (.getfield 22, 3) := by decide +kernel
theorem dX9_grantMost_4 : decode cX9_grantMost 4 = .ok (.aload_n 0, 1) := by decide +kernel
theorem dX9_grantMost_5 : decode cX9_grantMost 5 = .ok (.getfield 12, 3) := by decide +kernel
theorem dX9_grantMost_8 : decode cX9_grantMost 8 = .ok (.invokevirtual 65, 3) := by decide +kernel
theorem dX9_grantMost_11 : decode cX9_grantMost 11 = .ok (.aload_n 0, 1) := by decide +kernel
theorem dX9_grantMost_12 : decode cX9_grantMost 12 = .ok (.aload_n 0, 1) := by decide +kernel
theorem dX9_grantMost_13 : decode cX9_grantMost 13 = .ok (.getfield 12, 3) := by decide +kernel
theorem dX9_grantMost_16 : decode cX9_grantMost 16 = .ok (.aload_n 0, 1) := by decide +kernel
theorem dX9_grantMost_17 : decode cX9_grantMost 17 = .ok (.getfield 29, 3) := by decide +kernel
theorem dX9_grantMost_20 : decode cX9_grantMost 20 = .ok (.invokevirtual 94, 3) := by decide +kernel
theorem dX9_grantMost_23 : decode cX9_grantMost 23 = .ok (.invokevirtual 73, 3) := by decide +kernel
theorem dX9_grantMost_26 : decode cX9_grantMost 26 = .ok (.ireturn, 1) := by decide +kernel
theorem dX9_giveBack_0 : decode cX9_giveBack 0 = .ok (.aload_n 0, 1) := by decide +kernel
theorem dX9_giveBack_1 : decode cX9_giveBack 1 = .ok (.getfield 22, 3) := by decide +kernel
theorem dX9_giveBack_4 : decode cX9_giveBack 4 = .ok (.aload_n 0, 1) := by decide +kernel
theorem dX9_giveBack_5 : decode cX9_giveBack 5 = .ok (.getfield 12, 3) := by decide +kernel
theorem dX9_giveBack_8 : decode cX9_giveBack 8 = .ok (.invokevirtual 65, 3) := by decide +kernel
theorem dX9_giveBack_11 : decode cX9_giveBack 11 = .ok (.aload_n 0, 1) := by decide +kernel
theorem dX9_giveBack_12 : decode cX9_giveBack 12 = .ok (.aload_n 0, 1) := by decide +kernel
theorem dX9_giveBack_13 : decode cX9_giveBack 13 = .ok (.getfield 12, 3) := by decide +kernel
theorem dX9_giveBack_16 : decode cX9_giveBack 16 = .ok (.iload_n 1, 1) := by decide +kernel
theorem dX9_giveBack_17 : decode cX9_giveBack 17 = .ok (.iload_n 2, 1) := by decide +kernel
theorem dX9_giveBack_18 : decode cX9_giveBack 18 = .ok (.iload_n 3, 1) := by decide +kernel
theorem dX9_giveBack_19 : decode cX9_giveBack 19 = .ok (.invokevirtual 98, 3) := by decide +kernel
theorem dX9_giveBack_22 : decode cX9_giveBack 22 = .ok (.invokevirtual 73, 3) := by decide +kernel
theorem dX9_giveBack_25 : decode cX9_giveBack 25 = .ok (.ireturn, 1) := by decide +kernel
theorem dX9_renewFace_0 : decode cX9_renewFace 0 = .ok (.aload_n 0, 1) := by decide +kernel
theorem dX9_renewFace_1 : decode cX9_renewFace 1 = .ok (.getfield 22, 3) := by decide +kernel
theorem dX9_renewFace_4 : decode cX9_renewFace 4 = .ok (.aload_n 0, 1) := by decide +kernel
theorem dX9_renewFace_5 : decode cX9_renewFace 5 = .ok (.getfield 12, 3) := by decide +kernel
theorem dX9_renewFace_8 : decode cX9_renewFace 8 = .ok (.invokevirtual 65, 3) := by decide +kernel
theorem dX9_renewFace_11 : decode cX9_renewFace 11 = .ok (.aload_n 0, 1) := by decide +kernel
theorem dX9_renewFace_12 : decode cX9_renewFace 12 = .ok (.aload_n 0, 1) := by decide +kernel
theorem dX9_renewFace_13 : decode cX9_renewFace 13 = .ok (.getfield 12, 3) := by decide +kernel
theorem dX9_renewFace_16 : decode cX9_renewFace 16 = .ok (.iload_n 1, 1) := by decide +kernel
theorem dX9_renewFace_17 : decode cX9_renewFace 17 = .ok (.invokevirtual 101, 3) := by decide +kernel
theorem dX9_renewFace_20 : decode cX9_renewFace 20 = .ok (.invokevirtual 73, 3) := by decide +kernel
theorem dX9_renewFace_23 : decode cX9_renewFace 23 = .ok (.ireturn, 1) := by decide +kernel
theorem dX9_passDays_0 : decode cX9_passDays 0 = .ok (.aload_n 0, 1) := by decide +kernel
theorem dX9_passDays_1 : decode cX9_passDays 1 = .ok (.getfield 22, 3) := by decide +kernel
theorem dX9_passDays_4 : decode cX9_passDays 4 = .ok (.aload_n 0, 1) := by decide +kernel
theorem dX9_passDays_5 : decode cX9_passDays 5 = .ok (.getfield 12, 3) := by decide +kernel
theorem dX9_passDays_8 : decode cX9_passDays 8 = .ok (.invokevirtual 65, 3) := by decide +kernel
theorem dX9_passDays_11 : decode cX9_passDays 11 = .ok (.aload_n 0, 1) := by decide +kernel
theorem dX9_passDays_12 : decode cX9_passDays 12 = .ok (.aload_n 0, 1) := by decide +kernel
theorem dX9_passDays_13 : decode cX9_passDays 13 = .ok (.getfield 12, 3) := by decide +kernel
theorem dX9_passDays_16 : decode cX9_passDays 16 = .ok (.iload_n 1, 1) := by decide +kernel
theorem dX9_passDays_17 : decode cX9_passDays 17 = .ok (.invokevirtual 104, 3) := by decide +kernel
theorem dX9_passDays_20 : decode cX9_passDays 20 = .ok (.invokevirtual 73, 3) := by decide +kernel
theorem dX9_passDays_23 : decode cX9_passDays 23 = .ok (.ireturn, 1) := by decide +kernel
theorem dX9_settled_0 : decode cX9_settled 0 = .ok (.iload_n 1, 1) := by decide +kernel
theorem dX9_settled_1 : decode cX9_settled 1 = .ok (.iconst (-1), 1) := by decide +kernel
theorem dX9_settled_2 : decode cX9_settled 2 = .ok (.if_icmp .ne 13, 3) := by decide +kernel
theorem dX9_settled_5 : decode cX9_settled 5 = .ok (.new 107, 3) := by decide +kernel
theorem dX9_settled_8 : decode cX9_settled 8 = .ok (.dup, 1) := by decide +kernel
theorem dX9_settled_9 : decode cX9_settled 9 = .ok (.ldc 109, 2) := by decide +kernel
theorem dX9_settled_11 : decode cX9_settled 11 = .ok (.invokespecial 111, 3) := by decide +kernel
theorem dX9_settled_14 : decode cX9_settled 14 = .ok (.athrow, 1) := by decide +kernel
theorem dX9_settled_15 : decode cX9_settled 15 = .ok (.iload_n 1, 1) := by decide +kernel
theorem dX9_settled_16 : decode cX9_settled 16 = .ok (.bipush (-2), 2) := by decide +kernel
theorem dX9_settled_18 : decode cX9_settled 18 = .ok (.if_icmp .ne 13, 3) := by decide +kernel
theorem dX9_settled_21 : decode cX9_settled 21 = .ok (.new 114, 3) := by decide +kernel
theorem dX9_settled_24 : decode cX9_settled 24 = .ok (.dup, 1) := by decide +kernel
theorem dX9_settled_25 : decode cX9_settled 25 = .ok (.ldc 116, 2) := by decide +kernel
theorem dX9_settled_27 : decode cX9_settled 27 = .ok (.invokespecial 118, 3) := by decide +kernel
theorem dX9_settled_30 : decode cX9_settled 30 = .ok (.athrow, 1) := by decide +kernel
theorem dX9_settled_31 : decode cX9_settled 31 = .ok (.iload_n 1, 1) := by decide +kernel
theorem dX9_settled_32 : decode cX9_settled 32 = .ok (.bipush (-3), 2) := by decide +kernel
theorem dX9_settled_34 : decode cX9_settled 34 = .ok (.if_icmp .ne 13, 3) := by decide +kernel
theorem dX9_settled_37 : decode cX9_settled 37 = .ok (.new 119, 3) := by decide +kernel
theorem dX9_settled_40 : decode cX9_settled 40 = .ok (.dup, 1) := by decide +kernel
theorem dX9_settled_41 : decode cX9_settled 41 = .ok (.ldc 121, 2) := by decide +kernel
theorem dX9_settled_43 : decode cX9_settled 43 = .ok (.invokespecial 123, 3) := by decide +kernel
theorem dX9_settled_46 : decode cX9_settled 46 = .ok (.athrow, 1) := by decide +kernel
theorem dX9_settled_47 : decode cX9_settled 47 = .ok (.iload_n 1, 1) := by decide +kernel
theorem dX9_settled_48 : decode cX9_settled 48 = .ok (.bipush (-4), 2) := by decide +kernel
theorem dX9_settled_50 : decode cX9_settled 50 = .ok (.if_icmp .ne 13, 3) := by decide +kernel
theorem dX9_settled_53 : decode cX9_settled 53 = .ok (.new 124, 3) := by decide +kernel
theorem dX9_settled_56 : decode cX9_settled 56 = .ok (.dup, 1) := by decide +kernel
theorem dX9_settled_57 : decode cX9_settled 57 = .ok (.ldc 126, 2) := by decide +kernel
theorem dX9_settled_59 : decode cX9_settled 59 = .ok (.invokespecial 128, 3) := by decide +kernel
theorem dX9_settled_62 : decode cX9_settled 62 = .ok (.athrow, 1) := by decide +kernel
theorem dX9_settled_63 : decode cX9_settled 63 = .ok (.iload_n 1, 1) := by decide +kernel
theorem dX9_settled_64 : decode cX9_settled 64 = .ok (.bipush (-5), 2) := by decide +kernel
theorem dX9_settled_66 : decode cX9_settled 66 = .ok (.if_icmp .ne 13, 3) := by decide +kernel
theorem dX9_settled_69 : decode cX9_settled 69 = .ok (.new 129, 3) := by decide +kernel
theorem dX9_settled_72 : decode cX9_settled 72 = .ok (.dup, 1) := by decide +kernel
theorem dX9_settled_73 : decode cX9_settled 73 = .ok (.ldc 131, 2) := by decide +kernel
theorem dX9_settled_75 : decode cX9_settled 75 = .ok (.invokespecial 133, 3) := by decide +kernel
theorem dX9_settled_78 : decode cX9_settled 78 = .ok (.athrow, 1) := by decide +kernel
theorem dX9_settled_79 : decode cX9_settled 79 = .ok (.aload_n 0, 1) := by decide +kernel
theorem dX9_settled_80 : decode cX9_settled 80 = .ok (.getfield 22, 3) := by decide +kernel
theorem dX9_settled_83 : decode cX9_settled 83 = .ok (.invokevirtual 134, 3) := by decide +kernel
theorem dX9_settled_86 : decode cX9_settled 86 = .ok (.iload_n 1, 1) := by decide +kernel
theorem dX9_settled_87 : decode cX9_settled 87 = .ok (.ireturn, 1) := by decide +kernel
theorem dX9_hammerCount_0 : decode cX9_hammerCount 0 = .ok (.aload_n 0, 1) := by decide +kernel
theorem dX9_hammerCount_1 : decode cX9_hammerCount 1 = .ok (.getfield 12, 3) := by decide +kernel
theorem dX9_hammerCount_4 : decode cX9_hammerCount 4 = .ok (.getfield 137, 3) := by decide +kernel
theorem dX9_hammerCount_7 : decode cX9_hammerCount 7 = .ok (.invokevirtual 141, 3) := by decide +kernel
theorem dX9_hammerCount_10 : decode cX9_hammerCount 10 = .ok (.ireturn, 1) := by decide +kernel
theorem dX9_pitch_0 : decode cX9_pitch 0 = .ok (.aload_n 0, 1) := by decide +kernel
theorem dX9_pitch_1 : decode cX9_pitch 1 = .ok (.iload_n 1, 1) := by decide +kernel
theorem dX9_pitch_2 : decode cX9_pitch 2 = .ok (.invokevirtual 147, 3) := by decide +kernel
theorem dX9_pitch_5 : decode cX9_pitch 5 = .ok (.aload_n 0, 1) := by decide +kernel
theorem dX9_pitch_6 : decode cX9_pitch 6 = .ok (.getfield 12, 3) := by decide +kernel
theorem dX9_pitch_9 : decode cX9_pitch 9 = .ok (.getfield 137, 3) := by decide +kernel
theorem dX9_pitch_12 : decode cX9_pitch 12 = .ok (.iload_n 1, 1) := by decide +kernel
theorem dX9_pitch_13 : decode cX9_pitch 13 = .ok (.invokevirtual 151, 3) := by decide +kernel
theorem dX9_pitch_16 : decode cX9_pitch 16 = .ok (.ireturn, 1) := by decide +kernel
theorem dX9_wear_0 : decode cX9_wear 0 = .ok (.aload_n 0, 1) := by decide +kernel
theorem dX9_wear_1 : decode cX9_wear 1 = .ok (.iload_n 1, 1) := by decide +kernel
theorem dX9_wear_2 : decode cX9_wear 2 = .ok (.invokevirtual 147, 3) := by decide +kernel
theorem dX9_wear_5 : decode cX9_wear 5 = .ok (.aload_n 0, 1) := by decide +kernel
theorem dX9_wear_6 : decode cX9_wear 6 = .ok (.getfield 12, 3) := by decide +kernel
theorem dX9_wear_9 : decode cX9_wear 9 = .ok (.getfield 137, 3) := by decide +kernel
theorem dX9_wear_12 : decode cX9_wear 12 = .ok (.iload_n 1, 1) := by decide +kernel
theorem dX9_wear_13 : decode cX9_wear 13 = .ok (.invokevirtual 154, 3) := by decide +kernel
theorem dX9_wear_16 : decode cX9_wear 16 = .ok (.ireturn, 1) := by decide +kernel
theorem dX9_isLent_0 : decode cX9_isLent 0 = .ok (.aload_n 0, 1) := by decide +kernel
theorem dX9_isLent_1 : decode cX9_isLent 1 = .ok (.iload_n 1, 1) := by decide +kernel
theorem dX9_isLent_2 : decode cX9_isLent 2 = .ok (.invokevirtual 147, 3) := by decide +kernel
theorem dX9_isLent_5 : decode cX9_isLent 5 = .ok (.aload_n 0, 1) := by decide +kernel
theorem dX9_isLent_6 : decode cX9_isLent 6 = .ok (.getfield 12, 3) := by decide +kernel
theorem dX9_isLent_9 : decode cX9_isLent 9 = .ok (.getfield 137, 3) := by decide +kernel
theorem dX9_isLent_12 : decode cX9_isLent 12 = .ok (.iload_n 1, 1) := by decide +kernel
theorem dX9_isLent_13 : decode cX9_isLent 13 = .ok (.invokevirtual 157, 3) := by decide +kernel
theorem dX9_isLent_16 : decode cX9_isLent 16 = .ok (.ireturn, 1) := by decide +kernel
theorem dX9_borrower_0 : decode cX9_borrower 0 = .ok (.aload_n 0, 1) := by decide +kernel
theorem dX9_borrower_1 : decode cX9_borrower 1 = .ok (.iload_n 1, 1) := by decide +kernel
theorem dX9_borrower_2 : decode cX9_borrower 2 = .ok (.invokevirtual 147, 3) := by decide +kernel
theorem dX9_borrower_5 : decode cX9_borrower 5 = .ok (.aload_n 0, 1) := by decide +kernel
theorem dX9_borrower_6 : decode cX9_borrower 6 = .ok (.iload_n 1, 1) := by decide +kernel
theorem dX9_borrower_7 : decode cX9_borrower 7 = .ok (.invokevirtual 161, 3) := by decide +kernel
theorem dX9_borrower_10 : decode cX9_borrower 10 = .ok (.aload_n 0, 1) := by decide +kernel
theorem dX9_borrower_11 : decode cX9_borrower 11 = .ok (.getfield 12, 3) := by decide +kernel
theorem dX9_borrower_14 : decode cX9_borrower 14 = .ok (.getfield 137, 3) := by decide +kernel
theorem dX9_borrower_17 : decode cX9_borrower 17 = .ok (.iload_n 1, 1) := by decide +kernel
theorem dX9_borrower_18 : decode cX9_borrower 18 = .ok (.invokevirtual 164, 3) := by decide +kernel
theorem dX9_borrower_21 : decode cX9_borrower 21 = .ok (.ireturn, 1) := by decide +kernel
theorem dX9_dueDay_0 : decode cX9_dueDay 0 = .ok (.aload_n 0, 1) := by decide +kernel
theorem dX9_dueDay_1 : decode cX9_dueDay 1 = .ok (.iload_n 1, 1) := by decide +kernel
theorem dX9_dueDay_2 : decode cX9_dueDay 2 = .ok (.invokevirtual 147, 3) := by decide +kernel
theorem dX9_dueDay_5 : decode cX9_dueDay 5 = .ok (.aload_n 0, 1) := by decide +kernel
theorem dX9_dueDay_6 : decode cX9_dueDay 6 = .ok (.iload_n 1, 1) := by decide +kernel
theorem dX9_dueDay_7 : decode cX9_dueDay 7 = .ok (.invokevirtual 161, 3) := by decide +kernel
theorem dX9_dueDay_10 : decode cX9_dueDay 10 = .ok (.aload_n 0, 1) := by decide +kernel
theorem dX9_dueDay_11 : decode cX9_dueDay 11 = .ok (.getfield 12, 3) := by decide +kernel
theorem dX9_dueDay_14 : decode cX9_dueDay 14 = .ok (.getfield 137, 3) := by decide +kernel
theorem dX9_dueDay_17 : decode cX9_dueDay 17 = .ok (.iload_n 1, 1) := by decide +kernel
theorem dX9_dueDay_18 : decode cX9_dueDay 18 = .ok (.invokevirtual 167, 3) := by decide +kernel
theorem dX9_dueDay_21 : decode cX9_dueDay 21 = .ok (.ireturn, 1) := by decide +kernel
theorem dX9_rackOf_0 : decode cX9_rackOf 0 = .ok (.aload_n 0, 1) := by decide +kernel
theorem dX9_rackOf_1 : decode cX9_rackOf 1 = .ok (.iload_n 1, 1) := by decide +kernel
theorem dX9_rackOf_2 : decode cX9_rackOf 2 = .ok (.invokevirtual 147, 3) := by decide +kernel
theorem dX9_rackOf_5 : decode cX9_rackOf 5 = .ok (.aload_n 0, 1) := by decide +kernel
theorem dX9_rackOf_6 : decode cX9_rackOf 6 = .ok (.iload_n 1, 1) := by decide +kernel
theorem dX9_rackOf_7 : decode cX9_rackOf 7 = .ok (.invokevirtual 170, 3) := by decide +kernel
theorem dX9_rackOf_10 : decode cX9_rackOf 10 = .ok (.aload_n 0, 1) := by decide +kernel
theorem dX9_rackOf_11 : decode cX9_rackOf 11 = .ok (.getfield 12, 3) := by decide +kernel
theorem dX9_rackOf_14 : decode cX9_rackOf 14 = .ok (.getfield 137, 3) := by decide +kernel
theorem dX9_rackOf_17 : decode cX9_rackOf 17 = .ok (.iload_n 1, 1) := by decide +kernel
theorem dX9_rackOf_18 : decode cX9_rackOf 18 = .ok (.invokevirtual 173, 3) := by decide +kernel
theorem dX9_rackOf_21 : decode cX9_rackOf 21 = .ok (.bipush 6, 2) := by decide +kernel
theorem dX9_rackOf_23 : decode cX9_rackOf 23 = .ok (.idiv, 1) := by decide +kernel
theorem dX9_rackOf_24 : decode cX9_rackOf 24 = .ok (.ireturn, 1) := by decide +kernel
theorem dX9_placeOf_0 : decode cX9_placeOf 0 = .ok (.aload_n 0, 1) := by decide +kernel
theorem dX9_placeOf_1 : decode cX9_placeOf 1 = .ok (.iload_n 1, 1) := by decide +kernel
theorem dX9_placeOf_2 : decode cX9_placeOf 2 = .ok (.invokevirtual 147, 3) := by decide +kernel
theorem dX9_placeOf_5 : decode cX9_placeOf 5 = .ok (.aload_n 0, 1) := by decide +kernel
theorem dX9_placeOf_6 : decode cX9_placeOf 6 = .ok (.iload_n 1, 1) := by decide +kernel
theorem dX9_placeOf_7 : decode cX9_placeOf 7 = .ok (.invokevirtual 170, 3) := by decide +kernel
theorem dX9_placeOf_10 : decode cX9_placeOf 10 = .ok (.aload_n 0, 1) := by decide +kernel
theorem dX9_placeOf_11 : decode cX9_placeOf 11 = .ok (.getfield 12, 3) := by decide +kernel
theorem dX9_placeOf_14 : decode cX9_placeOf 14 = .ok (.getfield 137, 3) := by decide +kernel
theorem dX9_placeOf_17 : decode cX9_placeOf 17 = .ok (.iload_n 1, 1) := by decide +kernel
theorem dX9_placeOf_18 : decode cX9_placeOf 18 = .ok (.invokevirtual 173, 3) := by decide +kernel
theorem dX9_placeOf_21 : decode cX9_placeOf 21 = .ok (.bipush 6, 2) := by decide +kernel
theorem dX9_placeOf_23 : decode cX9_placeOf 23 = .ok (.irem, 1) := by decide +kernel
theorem dX9_placeOf_24 : decode cX9_placeOf 24 = .ok (.ireturn, 1) := by decide +kernel
theorem dX9_hammerAt_0 : decode cX9_hammerAt 0 = .ok (.iload_n 1, 1) := by decide +kernel
theorem dX9_hammerAt_1 : decode cX9_hammerAt 1 = .ok (.invokestatic 176, 3) := by decide +kernel
theorem dX9_hammerAt_4 : decode cX9_hammerAt 4 = .ok (.ifCond .eq 10, 3) := by decide +kernel
theorem dX9_hammerAt_7 : decode cX9_hammerAt 7 = .ok (.iload_n 2, 1) := by decide +kernel
theorem dX9_hammerAt_8 : decode cX9_hammerAt 8 = .ok (.invokestatic 179, 3) := by decide +kernel
theorem dX9_hammerAt_11 : decode cX9_hammerAt 11 = .ok (.ifCond .ne 13, 3) := by decide +kernel
theorem dX9_hammerAt_14 : decode cX9_hammerAt 14 = .ok (.new 114, 3) := by decide +kernel
theorem dX9_hammerAt_17 : decode cX9_hammerAt 17 = .ok (.dup, 1) := by decide +kernel
theorem dX9_hammerAt_18 : decode cX9_hammerAt 18 = .ok (.ldc 182, 2) := by decide +kernel
theorem dX9_hammerAt_20 : decode cX9_hammerAt 20 = .ok (.invokespecial 118, 3) := by decide +kernel
theorem dX9_hammerAt_23 : decode cX9_hammerAt 23 = .ok (.athrow, 1) := by decide +kernel
theorem dX9_hammerAt_24 : decode cX9_hammerAt 24 = .ok (.aload_n 0, 1) := by decide +kernel
theorem dX9_hammerAt_25 : decode cX9_hammerAt 25 = .ok (.getfield 12, 3) := by decide +kernel
theorem dX9_hammerAt_28 : decode cX9_hammerAt 28 = .ok (.getfield 137, 3) := by decide +kernel
theorem dX9_hammerAt_31 : decode cX9_hammerAt 31 = .ok (.iload_n 1, 1) := by decide +kernel
theorem dX9_hammerAt_32 : decode cX9_hammerAt 32 = .ok (.iload_n 2, 1) := by decide +kernel
theorem dX9_hammerAt_33 : decode cX9_hammerAt 33 = .ok (.invokevirtual 184, 3) := by decide +kernel
theorem dX9_hammerAt_36 : decode cX9_hammerAt 36 = .ok (.istore_n 3, 1) := by decide +kernel
theorem dX9_hammerAt_37 : decode cX9_hammerAt 37 = .ok (.iload_n 3, 1) := by decide +kernel
theorem dX9_hammerAt_38 : decode cX9_hammerAt 38 = .ok (.iconst (-1), 1) := by decide +kernel
theorem dX9_hammerAt_39 : decode cX9_hammerAt 39 = .ok (.if_icmp .ne 13, 3) := by decide +kernel
theorem dX9_hammerAt_42 : decode cX9_hammerAt 42 = .ok (.new 124, 3) := by decide +kernel
theorem dX9_hammerAt_45 : decode cX9_hammerAt 45 = .ok (.dup, 1) := by decide +kernel
theorem dX9_hammerAt_46 : decode cX9_hammerAt 46 = .ok (.ldc 187, 2) := by decide +kernel
theorem dX9_hammerAt_48 : decode cX9_hammerAt 48 = .ok (.invokespecial 128, 3) := by decide +kernel
theorem dX9_hammerAt_51 : decode cX9_hammerAt 51 = .ok (.athrow, 1) := by decide +kernel
theorem dX9_hammerAt_52 : decode cX9_hammerAt 52 = .ok (.iload_n 3, 1) := by decide +kernel
theorem dX9_hammerAt_53 : decode cX9_hammerAt 53 = .ok (.ireturn, 1) := by decide +kernel
theorem dX9_hammerByWear_0 : decode cX9_hammerByWear 0 = .ok (.aload_n 0, 1) := by decide +kernel
theorem dX9_hammerByWear_1 : decode cX9_hammerByWear 1 = .ok (.getfield 12, 3) := by decide +kernel
theorem dX9_hammerByWear_4 : decode cX9_hammerByWear 4 = .ok (.getfield 137, 3) := by decide +kernel
theorem dX9_hammerByWear_7 : decode cX9_hammerByWear 7 = .ok (.iload_n 1, 1) := by decide +kernel
theorem dX9_hammerByWear_8 : decode cX9_hammerByWear 8 = .ok (.invokevirtual 189, 3) := by decide +kernel
theorem dX9_hammerByWear_11 : decode cX9_hammerByWear 11 = .ok (.istore_n 2, 1) := by decide +kernel
theorem dX9_hammerByWear_12 : decode cX9_hammerByWear 12 = .ok (.iload_n 2, 1) := by decide +kernel
theorem dX9_hammerByWear_13 : decode cX9_hammerByWear 13 = .ok (.iconst (-1), 1) := by decide +kernel
theorem dX9_hammerByWear_14 : decode cX9_hammerByWear 14 = .ok (.if_icmp .ne 13, 3) := by decide +kernel
theorem dX9_hammerByWear_17 : decode cX9_hammerByWear 17 = .ok (.new 124, 3) := by decide +kernel
theorem dX9_hammerByWear_20 : decode cX9_hammerByWear 20 = .ok (.dup, 1) := by decide +kernel
theorem dX9_hammerByWear_21 : decode cX9_hammerByWear 21 = .ok (.ldc 192, 2) := by decide +kernel
theorem dX9_hammerByWear_23 : decode cX9_hammerByWear 23 = .ok (.invokespecial 128, 3) := by decide +kernel
theorem dX9_hammerByWear_26 : decode cX9_hammerByWear 26 = .ok (.athrow, 1) := by decide +kernel
theorem dX9_hammerByWear_27 : decode cX9_hammerByWear 27 = .ok (.iload_n 2, 1) := by decide +kernel
theorem dX9_hammerByWear_28 : decode cX9_hammerByWear 28 = .ok (.ireturn, 1) := by decide +kernel
theorem dX9_meanWear_0 : decode cX9_meanWear 0 = .ok (.aload_n 0, 1) := by decide +kernel
theorem dX9_meanWear_1 : decode cX9_meanWear 1 = .ok (.getfield 12, 3) := by decide +kernel
theorem dX9_meanWear_4 : decode cX9_meanWear 4 = .ok (.getfield 137, 3) := by decide +kernel
theorem dX9_meanWear_7 : decode cX9_meanWear 7 = .ok (.invokevirtual 141, 3) := by decide +kernel
theorem dX9_meanWear_10 : decode cX9_meanWear 10 = .ok (.istore_n 1, 1) := by decide +kernel
theorem dX9_meanWear_11 : decode cX9_meanWear 11 = .ok (.iload_n 1, 1) := by decide +kernel
theorem dX9_meanWear_12 : decode cX9_meanWear 12 = .ok (.ifCond .ne 13, 3) := by decide +kernel
theorem dX9_meanWear_15 : decode cX9_meanWear 15 = .ok (.new 194, 3) := by decide +kernel
theorem dX9_meanWear_18 : decode cX9_meanWear 18 = .ok (.dup, 1) := by decide +kernel
theorem dX9_meanWear_19 : decode cX9_meanWear 19 = .ok (.ldc 196, 2) := by decide +kernel
theorem dX9_meanWear_21 : decode cX9_meanWear 21 = .ok (.invokespecial 198, 3) := by decide +kernel
theorem dX9_meanWear_24 : decode cX9_meanWear 24 = .ok (.athrow, 1) := by decide +kernel
theorem dX9_meanWear_25 : decode cX9_meanWear 25 = .ok (.aload_n 0, 1) := by decide +kernel
theorem dX9_meanWear_26 : decode cX9_meanWear 26 = .ok (.getfield 12, 3) := by decide +kernel
theorem dX9_meanWear_29 : decode cX9_meanWear 29 = .ok (.getfield 137, 3) := by decide +kernel
theorem dX9_meanWear_32 : decode cX9_meanWear 32 = .ok (.invokevirtual 199, 3) := by decide +kernel
theorem dX9_meanWear_35 : decode cX9_meanWear 35 = .ok (.i2d, 1) := by decide +kernel
theorem dX9_meanWear_36 : decode cX9_meanWear 36 = .ok (.iload_n 1, 1) := by decide +kernel
theorem dX9_meanWear_37 : decode cX9_meanWear 37 = .ok (.i2d, 1) := by decide +kernel
theorem dX9_meanWear_38 : decode cX9_meanWear 38 = .ok (.ddiv, 1) := by decide +kernel
theorem dX9_meanWear_39 : decode cX9_meanWear 39 = .ok (.dreturn, 1) := by decide +kernel
theorem dX9_lentShare_0 : decode cX9_lentShare 0 = .ok (.aload_n 0, 1) := by decide +kernel
theorem dX9_lentShare_1 : decode cX9_lentShare 1 = .ok (.getfield 12, 3) := by decide +kernel
theorem dX9_lentShare_4 : decode cX9_lentShare 4 = .ok (.getfield 137, 3) := by decide +kernel
theorem dX9_lentShare_7 : decode cX9_lentShare 7 = .ok (.invokevirtual 141, 3) := by decide +kernel
theorem dX9_lentShare_10 : decode cX9_lentShare 10 = .ok (.istore_n 1, 1) := by decide +kernel
theorem dX9_lentShare_11 : decode cX9_lentShare 11 = .ok (.iload_n 1, 1) := by decide +kernel
theorem dX9_lentShare_12 : decode cX9_lentShare 12 = .ok (.ifCond .ne 13, 3) := by decide +kernel
theorem dX9_lentShare_15 : decode cX9_lentShare 15 = .ok (.new 194, 3) := by decide +kernel
theorem dX9_lentShare_18 : decode cX9_lentShare 18 = .ok (.dup, 1) := by decide +kernel
theorem dX9_lentShare_19 : decode cX9_lentShare 19 = .ok (.ldc 196, 2) := by decide +kernel
theorem dX9_lentShare_21 : decode cX9_lentShare 21 = .ok (.invokespecial 198, 3) := by decide +kernel
theorem dX9_lentShare_24 : decode cX9_lentShare 24 = .ok (.athrow, 1) := by decide +kernel
theorem dX9_lentShare_25 : decode cX9_lentShare 25 = .ok (.aload_n 0, 1) := by decide +kernel
theorem dX9_lentShare_26 : decode cX9_lentShare 26 = .ok (.getfield 12, 3) := by decide +kernel
theorem dX9_lentShare_29 : decode cX9_lentShare 29 = .ok (.getfield 137, 3) := by decide +kernel
theorem dX9_lentShare_32 : decode cX9_lentShare 32 = .ok (.invokevirtual 202, 3) := by decide +kernel
theorem dX9_lentShare_35 : decode cX9_lentShare 35 = .ok (.i2f, 1) := by decide +kernel
theorem dX9_lentShare_36 : decode cX9_lentShare 36 = .ok (.iload_n 1, 1) := by decide +kernel
theorem dX9_lentShare_37 : decode cX9_lentShare 37 = .ok (.i2f, 1) := by decide +kernel
theorem dX9_lentShare_38 : decode cX9_lentShare 38 = .ok (.fdiv, 1) := by decide +kernel
theorem dX9_lentShare_39 : decode cX9_lentShare 39 = .ok (.freturn, 1) := by decide +kernel
theorem dX9_bookings_0 : decode cX9_bookings 0 = .ok (.aload_n 0, 1) := by decide +kernel
theorem dX9_bookings_1 : decode cX9_bookings 1 = .ok (.iload_n 1, 1) := by decide +kernel
theorem dX9_bookings_2 : decode cX9_bookings 2 = .ok (.invokevirtual 147, 3) := by decide +kernel
theorem dX9_bookings_5 : decode cX9_bookings 5 = .ok (.aload_n 0, 1) := by decide +kernel
theorem dX9_bookings_6 : decode cX9_bookings 6 = .ok (.getfield 12, 3) := by decide +kernel
theorem dX9_bookings_9 : decode cX9_bookings 9 = .ok (.getfield 205, 3) := by decide +kernel
theorem dX9_bookings_12 : decode cX9_bookings 12 = .ok (.iload_n 1, 1) := by decide +kernel
theorem dX9_bookings_13 : decode cX9_bookings 13 = .ok (.invokevirtual 209, 3) := by decide +kernel
theorem dX9_bookings_16 : decode cX9_bookings 16 = .ok (.ireturn, 1) := by decide +kernel
theorem dX9_isBooked_0 : decode cX9_isBooked 0 = .ok (.aload_n 0, 1) := by decide +kernel
theorem dX9_isBooked_1 : decode cX9_isBooked 1 = .ok (.iload_n 1, 1) := by decide +kernel
theorem dX9_isBooked_2 : decode cX9_isBooked 2 = .ok (.invokevirtual 147, 3) := by decide +kernel
theorem dX9_isBooked_5 : decode cX9_isBooked 5 = .ok (.aload_n 0, 1) := by decide +kernel
theorem dX9_isBooked_6 : decode cX9_isBooked 6 = .ok (.getfield 12, 3) := by decide +kernel
theorem dX9_isBooked_9 : decode cX9_isBooked 9 = .ok (.getfield 205, 3) := by decide +kernel
theorem dX9_isBooked_12 : decode cX9_isBooked 12 = .ok (.iload_n 1, 1) := by decide +kernel
theorem dX9_isBooked_13 : decode cX9_isBooked 13 = .ok (.iload_n 2, 1) := by decide +kernel
theorem dX9_isBooked_14 : decode cX9_isBooked 14 = .ok (.iload_n 2, 1) := by decide +kernel
theorem dX9_isBooked_15 : decode cX9_isBooked 15 = .ok (.invokevirtual 214, 3) := by decide +kernel
theorem dX9_isBooked_18 : decode cX9_isBooked 18 = .ok (.ireturn, 1) := by decide +kernel
theorem dX9_requestCount_0 : decode cX9_requestCount 0 = .ok (.aload_n 0, 1) := by decide +kernel
theorem dX9_requestCount_1 : decode cX9_requestCount 1 = .ok (.getfield 12, 3) := by decide +kernel
theorem dX9_requestCount_4 : decode cX9_requestCount 4 = .ok (.getfield 218, 3) := by decide +kernel
theorem dX9_requestCount_7 : decode cX9_requestCount 7 = .ok (.invokevirtual 222, 3) := by decide +kernel
theorem dX9_requestCount_10 : decode cX9_requestCount 10 = .ok (.ireturn, 1) := by decide +kernel
theorem dX9_requestAt_0 : decode cX9_requestAt 0 = .ok (.aload_n 0, 1) := by decide +kernel
theorem dX9_requestAt_1 : decode cX9_requestAt 1 = .ok (.getfield 12, 3) := by decide +kernel
theorem dX9_requestAt_4 : decode cX9_requestAt 4 = .ok (.getfield 218, 3) := by decide +kernel
theorem dX9_requestAt_7 : decode cX9_requestAt 7 = .ok (.iload_n 1, 1) := by decide +kernel
theorem dX9_requestAt_8 : decode cX9_requestAt 8 = .ok (.invokevirtual 225, 3) := by decide +kernel
theorem dX9_requestAt_11 : decode cX9_requestAt 11 = .ok (.ifCond .ne 13, 3) := by decide +kernel
theorem dX9_requestAt_14 : decode cX9_requestAt 14 = .ok (.new 124, 3) := by decide +kernel
theorem dX9_requestAt_17 : decode cX9_requestAt 17 = .ok (.dup, 1) := by decide +kernel
theorem dX9_requestAt_18 : decode cX9_requestAt 18 = .ok (.ldc 228, 2) := by decide +kernel
theorem dX9_requestAt_20 : decode cX9_requestAt 20 = .ok (.invokespecial 128, 3) := by decide +kernel
theorem dX9_requestAt_23 : decode cX9_requestAt 23 = .ok (.athrow, 1) := by decide +kernel
theorem dX9_requestAt_24 : decode cX9_requestAt 24 = .ok (.aload_n 0, 1) := by decide +kernel
theorem dX9_requestAt_25 : decode cX9_requestAt 25 = .ok (.getfield 12, 3) := by decide +kernel
theorem dX9_requestAt_28 : decode cX9_requestAt 28 = .ok (.getfield 218, 3) := by decide +kernel
theorem dX9_requestAt_31 : decode cX9_requestAt 31 = .ok (.iload_n 1, 1) := by decide +kernel
theorem dX9_requestAt_32 : decode cX9_requestAt 32 = .ok (.invokevirtual 230, 3) := by decide +kernel
theorem dX9_requestAt_35 : decode cX9_requestAt 35 = .ok (.ireturn, 1) := by decide +kernel
theorem dX9_fits_0 : decode cX9_fits 0 = .ok (.aload_n 0, 1) := by decide +kernel
theorem dX9_fits_1 : decode cX9_fits 1 = .ok (.iload_n 1, 1) := by decide +kernel
theorem dX9_fits_2 : decode cX9_fits 2 = .ok (.invokevirtual 233, 3) := by decide +kernel
theorem dX9_fits_5 : decode cX9_fits 5 = .ok (.istore_n 3, 1) := by decide +kernel
theorem dX9_fits_6 : decode cX9_fits 6 = .ok (.aload_n 0, 1) := by decide +kernel
theorem dX9_fits_7 : decode cX9_fits 7 = .ok (.iload_n 2, 1) := by decide +kernel
theorem dX9_fits_8 : decode cX9_fits 8 = .ok (.invokevirtual 147, 3) := by decide +kernel
theorem dX9_fits_11 : decode cX9_fits 11 = .ok (.aload_n 0, 1) := by decide +kernel
theorem dX9_fits_12 : decode cX9_fits 12 = .ok (.getfield 12, 3) := by decide +kernel
theorem dX9_fits_15 : decode cX9_fits 15 = .ok (.iload_n 3, 1) := by decide +kernel
theorem dX9_fits_16 : decode cX9_fits 16 = .ok (.iload_n 2, 1) := by decide +kernel
theorem dX9_fits_17 : decode cX9_fits 17 = .ok (.invokevirtual 236, 3) := by decide +kernel
theorem dX9_fits_20 : decode cX9_fits 20 = .ok (.ireturn, 1) := by decide +kernel
theorem dX9_bestHammer_0 : decode cX9_bestHammer 0 = .ok (.aload_n 0, 1) := by decide +kernel
theorem dX9_bestHammer_1 : decode cX9_bestHammer 1 = .ok (.getfield 12, 3) := by decide +kernel
theorem dX9_bestHammer_4 : decode cX9_bestHammer 4 = .ok (.aload_n 0, 1) := by decide +kernel
theorem dX9_bestHammer_5 : decode cX9_bestHammer 5 = .ok (.iload_n 1, 1) := by decide +kernel
theorem dX9_bestHammer_6 : decode cX9_bestHammer 6 = .ok (.invokevirtual 233, 3) := by decide +kernel
theorem dX9_bestHammer_9 : decode cX9_bestHammer 9 = .ok (.invokevirtual 240, 3) := by decide +kernel
theorem dX9_bestHammer_12 : decode cX9_bestHammer 12 = .ok (.istore_n 2, 1) := by decide +kernel
theorem dX9_bestHammer_13 : decode cX9_bestHammer 13 = .ok (.iload_n 2, 1) := by decide +kernel
theorem dX9_bestHammer_14 : decode cX9_bestHammer 14 = .ok (.iconst (-1), 1) := by decide +kernel
theorem dX9_bestHammer_15 : decode cX9_bestHammer 15 = .ok (.if_icmp .ne 13, 3) := by decide +kernel
theorem dX9_bestHammer_18 : decode cX9_bestHammer 18 = .ok (.new 124, 3) := by decide +kernel
theorem dX9_bestHammer_21 : decode cX9_bestHammer 21 = .ok (.dup, 1) := by decide +kernel
theorem dX9_bestHammer_22 : decode cX9_bestHammer 22 = .ok (.ldc 243, 2) := by decide +kernel
theorem dX9_bestHammer_24 : decode cX9_bestHammer 24 = .ok (.invokespecial 128, 3) := by decide +kernel
theorem dX9_bestHammer_27 : decode cX9_bestHammer 27 = .ok (.athrow, 1) := by decide +kernel
theorem dX9_bestHammer_28 : decode cX9_bestHammer 28 = .ok (.iload_n 2, 1) := by decide +kernel
theorem dX9_bestHammer_29 : decode cX9_bestHammer 29 = .ok (.ireturn, 1) := by decide +kernel
theorem dX9_mostGrants_0 : decode cX9_mostGrants 0 = .ok (.aload_n 0, 1) := by decide +kernel
theorem dX9_mostGrants_1 : decode cX9_mostGrants 1 = .ok (.getfield 29, 3) := by decide +kernel
theorem dX9_mostGrants_4 : decode cX9_mostGrants 4 = .ok (.aload_n 0, 1) := by decide +kernel
theorem dX9_mostGrants_5 : decode cX9_mostGrants 5 = .ok (.getfield 12, 3) := by decide +kernel
theorem dX9_mostGrants_8 : decode cX9_mostGrants 8 = .ok (.invokevirtual 245, 3) := by decide +kernel
theorem dX9_mostGrants_11 : decode cX9_mostGrants 11 = .ok (.aload_n 0, 1) := by decide +kernel
theorem dX9_mostGrants_12 : decode cX9_mostGrants 12 = .ok (.getfield 29, 3) := by decide +kernel
theorem dX9_mostGrants_15 : decode cX9_mostGrants 15 = .ok (.invokevirtual 248, 3) := by decide +kernel
theorem dX9_mostGrants_18 : decode cX9_mostGrants 18 = .ok (.ireturn, 1) := by decide +kernel
theorem dX9_mostGrantsBySets_0 : decode cX9_mostGrantsBySets 0 = .ok (.aload_n 0, 1) := by decide +kernel
theorem dX9_mostGrantsBySets_1 : decode cX9_mostGrantsBySets 1 = .ok (.getfield 29, 3) := by decide +kernel
theorem dX9_mostGrantsBySets_4 : decode cX9_mostGrantsBySets 4 = .ok (.aload_n 0, 1) := by decide +kernel
theorem dX9_mostGrantsBySets_5 : decode cX9_mostGrantsBySets 5 = .ok (.getfield 12, 3) := by decide +kernel
theorem dX9_mostGrantsBySets_8 : decode cX9_mostGrantsBySets 8 = .ok (.invokevirtual 245, 3) := by decide +kernel
theorem dX9_mostGrantsBySets_11 : decode cX9_mostGrantsBySets 11 = .ok (.aload_n 0, 1) := by decide +kernel
theorem dX9_mostGrantsBySets_12 : decode cX9_mostGrantsBySets 12 = .ok (.getfield 29, 3) := by decide +kernel
theorem dX9_mostGrantsBySets_15 : decode cX9_mostGrantsBySets 15 = .ok (.invokevirtual 251, 3) := by decide +kernel
theorem dX9_mostGrantsBySets_18 : decode cX9_mostGrantsBySets 18 = .ok (.ireturn, 1) := by decide +kernel
theorem dX9_loudness_0 : decode cX9_loudness 0 = .ok (.aload_n 0, 1) := by decide +kernel
theorem dX9_loudness_1 : decode cX9_loudness 1 = .ok (.iload_n 1, 1) := by decide +kernel
theorem dX9_loudness_2 : decode cX9_loudness 2 = .ok (.invokevirtual 254, 3) := by decide +kernel
theorem dX9_loudness_5 : decode cX9_loudness 5 = .ok (.aload_n 0, 1) := by decide +kernel
theorem dX9_loudness_6 : decode cX9_loudness 6 = .ok (.getfield 12, 3) := by decide +kernel
theorem dX9_loudness_9 : decode cX9_loudness 9 = .ok (.getfield 137, 3) := by decide +kernel
theorem dX9_loudness_12 : decode cX9_loudness 12 = .ok (.iload_n 1, 1) := by decide +kernel
theorem dX9_loudness_13 : decode cX9_loudness 13 = .ok (.iload_n 2, 1) := by decide +kernel
theorem dX9_loudness_14 : decode cX9_loudness 14 = .ok (.invokestatic 257, 3) := by decide +kernel
theorem dX9_loudness_17 : decode cX9_loudness 17 = .ok (.ireturn, 1) := by decide +kernel
theorem dX9_loudestPitch_0 : decode cX9_loudestPitch 0 = .ok (.aload_n 0, 1) := by decide +kernel
theorem dX9_loudestPitch_1 : decode cX9_loudestPitch 1 = .ok (.iload_n 1, 1) := by decide +kernel
theorem dX9_loudestPitch_2 : decode cX9_loudestPitch 2 = .ok (.invokevirtual 254, 3) := by decide +kernel
theorem dX9_loudestPitch_5 : decode cX9_loudestPitch 5 = .ok (.aload_n 0, 1) := by decide +kernel
theorem dX9_loudestPitch_6 : decode cX9_loudestPitch 6 = .ok (.getfield 12, 3) := by decide +kernel
theorem dX9_loudestPitch_9 : decode cX9_loudestPitch 9 = .ok (.getfield 137, 3) := by decide +kernel
theorem dX9_loudestPitch_12 : decode cX9_loudestPitch 12 = .ok (.iload_n 1, 1) := by decide +kernel
theorem dX9_loudestPitch_13 : decode cX9_loudestPitch 13 = .ok (.invokevirtual 261, 3) := by decide +kernel
theorem dX9_loudestPitch_16 : decode cX9_loudestPitch 16 = .ok (.ifCond .ne 14, 3) := by decide +kernel
theorem dX9_loudestPitch_19 : decode cX9_loudestPitch 19 = .ok (.new 124, 3) := by decide +kernel
theorem dX9_loudestPitch_22 : decode cX9_loudestPitch 22 = .ok (.dup, 1) := by decide +kernel
theorem dX9_loudestPitch_23 : decode cX9_loudestPitch 23 = .ok (.ldc_w 264, 3) := by decide +kernel
theorem dX9_loudestPitch_26 : decode cX9_loudestPitch 26 = .ok (.invokespecial 128, 3) := by decide +kernel
theorem dX9_loudestPitch_29 : decode cX9_loudestPitch 29 = .ok (.athrow, 1) := by decide +kernel
theorem dX9_loudestPitch_30 : decode cX9_loudestPitch 30 = .ok (.aload_n 0, 1) := by decide +kernel
theorem dX9_loudestPitch_31 : decode cX9_loudestPitch 31 = .ok (.getfield 12, 3) := by decide +kernel
theorem dX9_loudestPitch_34 : decode cX9_loudestPitch 34 = .ok (.getfield 137, 3) := by decide +kernel
theorem dX9_loudestPitch_37 : decode cX9_loudestPitch 37 = .ok (.iload_n 1, 1) := by decide +kernel
theorem dX9_loudestPitch_38 : decode cX9_loudestPitch 38 = .ok (.invokestatic 266, 3) := by decide +kernel
theorem dX9_loudestPitch_41 : decode cX9_loudestPitch 41 = .ok (.ireturn, 1) := by decide +kernel
theorem dX9_consonance_0 : decode cX9_consonance 0 = .ok (.aload_n 0, 1) := by decide +kernel
theorem dX9_consonance_1 : decode cX9_consonance 1 = .ok (.iload_n 1, 1) := by decide +kernel
theorem dX9_consonance_2 : decode cX9_consonance 2 = .ok (.invokevirtual 147, 3) := by decide +kernel
theorem dX9_consonance_5 : decode cX9_consonance 5 = .ok (.aload_n 0, 1) := by decide +kernel
theorem dX9_consonance_6 : decode cX9_consonance 6 = .ok (.iload_n 2, 1) := by decide +kernel
theorem dX9_consonance_7 : decode cX9_consonance 7 = .ok (.invokevirtual 147, 3) := by decide +kernel
theorem dX9_consonance_10 : decode cX9_consonance 10 = .ok (.aload_n 0, 1) := by decide +kernel
theorem dX9_consonance_11 : decode cX9_consonance 11 = .ok (.getfield 12, 3) := by decide +kernel
theorem dX9_consonance_14 : decode cX9_consonance 14 = .ok (.getfield 137, 3) := by decide +kernel
theorem dX9_consonance_17 : decode cX9_consonance 17 = .ok (.iload_n 1, 1) := by decide +kernel
theorem dX9_consonance_18 : decode cX9_consonance 18 = .ok (.invokevirtual 151, 3) := by decide +kernel
theorem dX9_consonance_21 : decode cX9_consonance 21 = .ok (.aload_n 0, 1) := by decide +kernel
theorem dX9_consonance_22 : decode cX9_consonance 22 = .ok (.getfield 12, 3) := by decide +kernel
theorem dX9_consonance_25 : decode cX9_consonance 25 = .ok (.getfield 137, 3) := by decide +kernel
theorem dX9_consonance_28 : decode cX9_consonance 28 = .ok (.iload_n 2, 1) := by decide +kernel
theorem dX9_consonance_29 : decode cX9_consonance 29 = .ok (.invokevirtual 151, 3) := by decide +kernel
theorem dX9_consonance_32 : decode cX9_consonance 32 = .ok (.invokestatic 270, 3) := by decide +kernel
theorem dX9_consonance_35 : decode cX9_consonance 35 = .ok (.ireturn, 1) := by decide +kernel
theorem dX9_bestChord_0 : decode cX9_bestChord 0 = .ok (.aload_n 0, 1) := by decide +kernel
theorem dX9_bestChord_1 : decode cX9_bestChord 1 = .ok (.iload_n 1, 1) := by decide +kernel
theorem dX9_bestChord_2 : decode cX9_bestChord 2 = .ok (.invokevirtual 273, 3) := by decide +kernel
theorem dX9_bestChord_5 : decode cX9_bestChord 5 = .ok (.aload_n 0, 1) := by decide +kernel
theorem dX9_bestChord_6 : decode cX9_bestChord 6 = .ok (.getfield 36, 3) := by decide +kernel
theorem dX9_bestChord_9 : decode cX9_bestChord 9 = .ok (.iload_n 1, 1) := by decide +kernel
theorem dX9_bestChord_10 : decode cX9_bestChord 10 = .ok (.invokevirtual 276, 3) := by decide +kernel
theorem dX9_bestChord_13 : decode cX9_bestChord 13 = .ok (.ireturn, 1) := by decide +kernel
theorem dX9_bestChordBySets_0 : decode cX9_bestChordBySets 0 = .ok (.aload_n 0, 1) := by decide +kernel
theorem dX9_bestChordBySets_1 : decode cX9_bestChordBySets 1 = .ok (.iload_n 1, 1) := by decide +kernel
theorem dX9_bestChordBySets_2 : decode cX9_bestChordBySets 2 = .ok (.invokevirtual 273, 3) := by decide +kernel
theorem dX9_bestChordBySets_5 : decode cX9_bestChordBySets 5 = .ok (.aload_n 0, 1) := by decide +kernel
theorem dX9_bestChordBySets_6 : decode cX9_bestChordBySets 6 = .ok (.getfield 36, 3) := by decide +kernel
theorem dX9_bestChordBySets_9 : decode cX9_bestChordBySets 9 = .ok (.iload_n 1, 1) := by decide +kernel
theorem dX9_bestChordBySets_10 : decode cX9_bestChordBySets 10 = .ok (.invokevirtual 279, 3) := by decide +kernel
theorem dX9_bestChordBySets_13 : decode cX9_bestChordBySets 13 = .ok (.ireturn, 1) := by decide +kernel
theorem dX9_swapsToSort_0 : decode cX9_swapsToSort 0 = .ok (.aload_n 0, 1) := by decide +kernel
theorem dX9_swapsToSort_1 : decode cX9_swapsToSort 1 = .ok (.iload_n 1, 1) := by decide +kernel
theorem dX9_swapsToSort_2 : decode cX9_swapsToSort 2 = .ok (.invokevirtual 254, 3) := by decide +kernel
theorem dX9_swapsToSort_5 : decode cX9_swapsToSort 5 = .ok (.aload_n 0, 1) := by decide +kernel
theorem dX9_swapsToSort_6 : decode cX9_swapsToSort 6 = .ok (.getfield 12, 3) := by decide +kernel
theorem dX9_swapsToSort_9 : decode cX9_swapsToSort 9 = .ok (.getfield 137, 3) := by decide +kernel
theorem dX9_swapsToSort_12 : decode cX9_swapsToSort 12 = .ok (.iload_n 1, 1) := by decide +kernel
theorem dX9_swapsToSort_13 : decode cX9_swapsToSort 13 = .ok (.invokestatic 282, 3) := by decide +kernel
theorem dX9_swapsToSort_16 : decode cX9_swapsToSort 16 = .ok (.invokestatic 287, 3) := by decide +kernel
theorem dX9_swapsToSort_19 : decode cX9_swapsToSort 19 = .ok (.ireturn, 1) := by decide +kernel
theorem dX9_swapsToSortByCycles_0 : decode cX9_swapsToSortByCycles 0 = .ok (.aload_n 0, 1) := by decide +kernel
theorem dX9_swapsToSortByCycles_1 : decode cX9_swapsToSortByCycles 1 = .ok (.iload_n 1, 1) := by decide +kernel
theorem dX9_swapsToSortByCycles_2 : decode cX9_swapsToSortByCycles 2 = .ok (.invokevirtual 254, 3) := by decide +kernel
theorem dX9_swapsToSortByCycles_5 : decode cX9_swapsToSortByCycles 5 = .ok (.aload_n 0, 1) := by decide +kernel
theorem dX9_swapsToSortByCycles_6 : decode cX9_swapsToSortByCycles 6 = .ok (.getfield 12, 3) := by decide +kernel
theorem dX9_swapsToSortByCycles_9 : decode cX9_swapsToSortByCycles 9 = .ok (.getfield 137, 3) := by decide +kernel
theorem dX9_swapsToSortByCycles_12 : decode cX9_swapsToSortByCycles 12 = .ok (.iload_n 1, 1) := by decide +kernel
theorem dX9_swapsToSortByCycles_13 : decode cX9_swapsToSortByCycles 13 = .ok (.invokestatic 282, 3) := by decide +kernel
theorem dX9_swapsToSortByCycles_16 : decode cX9_swapsToSortByCycles 16 = .ok (.invokestatic 290, 3) := by decide +kernel
theorem dX9_swapsToSortByCycles_19 : decode cX9_swapsToSortByCycles 19 = .ok (.ireturn, 1) := by decide +kernel
theorem dX9_coins_0 : decode cX9_coins 0 = .ok (.aload_n 0, 1) := by decide +kernel
theorem dX9_coins_1 : decode cX9_coins 1 = .ok (.getfield 12, 3) := by decide +kernel
theorem dX9_coins_4 : decode cX9_coins 4 = .ok (.getfield 293, 3) := by decide +kernel
theorem dX9_coins_7 : decode cX9_coins 7 = .ok (.ireturn, 1) := by decide +kernel
theorem dX9_coinsByAccounts_0 : decode cX9_coinsByAccounts 0 = .ok (.bipush 20, 2) := by decide +kernel
theorem dX9_coinsByAccounts_2 : decode cX9_coinsByAccounts 2 = .ok (.aload_n 0, 1) := by decide +kernel
theorem dX9_coinsByAccounts_3 : decode cX9_coinsByAccounts 3 = .ok (.getfield 12, 3) := by decide +kernel
theorem dX9_coinsByAccounts_6 : decode cX9_coinsByAccounts 6 = .ok (.getfield 296, 3) := by decide +kernel
theorem dX9_coinsByAccounts_9 : decode cX9_coinsByAccounts 9 = .ok (.iadd, 1) := by decide +kernel
theorem dX9_coinsByAccounts_10 : decode cX9_coinsByAccounts 10 = .ok (.aload_n 0, 1) := by decide +kernel
theorem dX9_coinsByAccounts_11 : decode cX9_coinsByAccounts 11 = .ok (.getfield 12, 3) := by decide +kernel
theorem dX9_coinsByAccounts_14 : decode cX9_coinsByAccounts 14 = .ok (.getfield 299, 3) := by decide +kernel
theorem dX9_coinsByAccounts_17 : decode cX9_coinsByAccounts 17 = .ok (.iadd, 1) := by decide +kernel
theorem dX9_coinsByAccounts_18 : decode cX9_coinsByAccounts 18 = .ok (.aload_n 0, 1) := by decide +kernel
theorem dX9_coinsByAccounts_19 : decode cX9_coinsByAccounts 19 = .ok (.getfield 12, 3) := by decide +kernel
theorem dX9_coinsByAccounts_22 : decode cX9_coinsByAccounts 22 = .ok (.getfield 302, 3) := by decide +kernel
theorem dX9_coinsByAccounts_25 : decode cX9_coinsByAccounts 25 = .ok (.isub, 1) := by decide +kernel
theorem dX9_coinsByAccounts_26 : decode cX9_coinsByAccounts 26 = .ok (.ireturn, 1) := by decide +kernel
theorem dX9_brokenTotal_0 : decode cX9_brokenTotal 0 = .ok (.aload_n 0, 1) := by decide +kernel
theorem dX9_brokenTotal_1 : decode cX9_brokenTotal 1 = .ok (.getfield 12, 3) := by decide +kernel
theorem dX9_brokenTotal_4 : decode cX9_brokenTotal 4 = .ok (.getfield 305, 3) := by decide +kernel
theorem dX9_brokenTotal_7 : decode cX9_brokenTotal 7 = .ok (.ireturn, 1) := by decide +kernel
theorem dX9_lentTotal_0 : decode cX9_lentTotal 0 = .ok (.aload_n 0, 1) := by decide +kernel
theorem dX9_lentTotal_1 : decode cX9_lentTotal 1 = .ok (.getfield 12, 3) := by decide +kernel
theorem dX9_lentTotal_4 : decode cX9_lentTotal 4 = .ok (.getfield 308, 3) := by decide +kernel
theorem dX9_lentTotal_7 : decode cX9_lentTotal 7 = .ok (.ireturn, 1) := by decide +kernel
theorem dX9_day_0 : decode cX9_day 0 = .ok (.aload_n 0, 1) := by decide +kernel
theorem dX9_day_1 : decode cX9_day 1 = .ok (.getfield 12, 3) := by decide +kernel
theorem dX9_day_4 : decode cX9_day 4 = .ok (.getfield 311, 3) := by decide +kernel
theorem dX9_day_7 : decode cX9_day 7 = .ok (.ireturn, 1) := by decide +kernel
theorem dX9_isConsistent_0 : decode cX9_isConsistent 0 = .ok (.aload_n 0, 1) := by decide +kernel
theorem dX9_isConsistent_1 : decode cX9_isConsistent 1 = .ok (.invokevirtual 314, 3) := by decide +kernel
theorem dX9_isConsistent_4 : decode cX9_isConsistent 4 = .ok (.aload_n 0, 1) := by decide +kernel
theorem dX9_isConsistent_5 : decode cX9_isConsistent 5 = .ok (.invokevirtual 317, 3) := by decide +kernel
theorem dX9_isConsistent_8 : decode cX9_isConsistent 8 = .ok (.if_icmp .ne 45, 3) := by decide +kernel
theorem dX9_isConsistent_11 : decode cX9_isConsistent 11 = .ok (.aload_n 0, 1) := by decide +kernel
theorem dX9_isConsistent_12 : decode cX9_isConsistent 12 = .ok (.invokevirtual 320, 3) := by decide +kernel
theorem dX9_isConsistent_15 : decode cX9_isConsistent 15 = .ok (.ifCond .eq 38, 3) := by decide +kernel
theorem dX9_isConsistent_18 : decode cX9_isConsistent 18 = .ok (.aload_n 0, 1) := by decide +kernel
theorem dX9_isConsistent_19 : decode cX9_isConsistent 19 = .ok (.invokevirtual 324, 3) := by decide +kernel
theorem dX9_isConsistent_22 : decode cX9_isConsistent 22 = .ok (.ifCond .eq 31, 3) := by decide +kernel
theorem dX9_isConsistent_25 : decode cX9_isConsistent 25 = .ok (.aload_n 0, 1) := by decide +kernel
theorem dX9_isConsistent_26 : decode cX9_isConsistent 26 = .ok (.invokevirtual 327, 3) := by decide +kernel
theorem dX9_isConsistent_29 : decode cX9_isConsistent 29 = .ok (.aload_n 0, 1) := by decide +kernel
theorem dX9_isConsistent_30 : decode cX9_isConsistent 30 = .ok (.invokevirtual 329, 3) := by decide +kernel
theorem dX9_isConsistent_33 : decode cX9_isConsistent 33 = .ok (.if_icmp .ne 20, 3) := by decide +kernel
theorem dX9_isConsistent_36 : decode cX9_isConsistent 36 = .ok (.aload_n 0, 1) := by decide +kernel
theorem dX9_isConsistent_37 : decode cX9_isConsistent 37 = .ok (.getfield 12, 3) := by decide +kernel
theorem dX9_isConsistent_40 : decode cX9_isConsistent 40 = .ok (.getfield 137, 3) := by decide +kernel
theorem dX9_isConsistent_43 : decode cX9_isConsistent 43 = .ok (.invokevirtual 332, 3) := by decide +kernel
theorem dX9_isConsistent_46 : decode cX9_isConsistent 46 = .ok (.ifCond .eq 7, 3) := by decide +kernel
theorem dX9_isConsistent_49 : decode cX9_isConsistent 49 = .ok (.iconst 1, 1) := by decide +kernel
theorem dX9_isConsistent_50 : decode cX9_isConsistent 50 = .ok (.goto 4, 3) := by decide +kernel
theorem dX9_isConsistent_53 : decode cX9_isConsistent 53 = .ok (.iconst 0, 1) := by decide +kernel
theorem dX9_isConsistent_54 : decode cX9_isConsistent 54 = .ok (.ireturn, 1) := by decide +kernel
theorem dX9_chordsAgree_0 : decode cX9_chordsAgree 0 = .ok (.aload_n 0, 1) := by decide +kernel
theorem dX9_chordsAgree_1 : decode cX9_chordsAgree 1 = .ok (.getfield 36, 3) := by decide +kernel
theorem dX9_chordsAgree_4 : decode cX9_chordsAgree 4 = .ok (.aload_n 0, 1) := by decide +kernel
theorem dX9_chordsAgree_5 : decode cX9_chordsAgree 5 = .ok (.getfield 12, 3) := by decide +kernel
theorem dX9_chordsAgree_8 : decode cX9_chordsAgree 8 = .ok (.getfield 137, 3) := by decide +kernel
theorem dX9_chordsAgree_11 : decode cX9_chordsAgree 11 = .ok (.invokevirtual 335, 3) := by decide +kernel
theorem dX9_chordsAgree_14 : decode cX9_chordsAgree 14 = .ok (.iconst 1, 1) := by decide +kernel
theorem dX9_chordsAgree_15 : decode cX9_chordsAgree 15 = .ok (.istore_n 1, 1) := by decide +kernel
theorem dX9_chordsAgree_16 : decode cX9_chordsAgree 16 = .ok (.iload_n 1, 1) := by decide +kernel
theorem dX9_chordsAgree_17 : decode cX9_chordsAgree 17 = .ok (.iconst 3, 1) := by decide +kernel
theorem dX9_chordsAgree_18 : decode cX9_chordsAgree 18 = .ok (.if_icmp .gt 41, 3) := by decide +kernel
theorem dX9_chordsAgree_21 : decode cX9_chordsAgree 21 = .ok (.aload_n 0, 1) := by decide +kernel
theorem dX9_chordsAgree_22 : decode cX9_chordsAgree 22 = .ok (.getfield 36, 3) := by decide +kernel
theorem dX9_chordsAgree_25 : decode cX9_chordsAgree 25 = .ok (.iload_n 1, 1) := by decide +kernel
theorem dX9_chordsAgree_26 : decode cX9_chordsAgree 26 = .ok (.invokevirtual 338, 3) := by decide +kernel
theorem dX9_chordsAgree_29 : decode cX9_chordsAgree 29 = .ok (.ifCond .eq 24, 3) := by decide +kernel
theorem dX9_chordsAgree_32 : decode cX9_chordsAgree 32 = .ok (.aload_n 0, 1) := by decide +kernel
theorem dX9_chordsAgree_33 : decode cX9_chordsAgree 33 = .ok (.getfield 36, 3) := by decide +kernel
theorem dX9_chordsAgree_36 : decode cX9_chordsAgree 36 = .ok (.iload_n 1, 1) := by decide +kernel
theorem dX9_chordsAgree_37 : decode cX9_chordsAgree 37 = .ok (.invokevirtual 276, 3) := by decide +kernel
theorem dX9_chordsAgree_40 : decode cX9_chordsAgree 40 = .ok (.aload_n 0, 1) := by decide +kernel
theorem dX9_chordsAgree_41 : decode cX9_chordsAgree 41 = .ok (.getfield 36, 3) := by decide +kernel
theorem dX9_chordsAgree_44 : decode cX9_chordsAgree 44 = .ok (.iload_n 1, 1) := by decide +kernel
theorem dX9_chordsAgree_45 : decode cX9_chordsAgree 45 = .ok (.invokevirtual 279, 3) := by decide +kernel
theorem dX9_chordsAgree_48 : decode cX9_chordsAgree 48 = .ok (.if_icmp .eq 5, 3) := by decide +kernel
theorem dX9_chordsAgree_51 : decode cX9_chordsAgree 51 = .ok (.iconst 0, 1) := by decide +kernel
theorem dX9_chordsAgree_52 : decode cX9_chordsAgree 52 = .ok (.ireturn, 1) := by decide +kernel
theorem dX9_chordsAgree_53 : decode cX9_chordsAgree 53 = .ok (.iinc 1 1, 3) := by decide +kernel
theorem dX9_chordsAgree_56 : decode cX9_chordsAgree 56 = .ok (.goto (-40), 3) := by decide +kernel
theorem dX9_chordsAgree_59 : decode cX9_chordsAgree 59 = .ok (.iconst 1, 1) := by decide +kernel
theorem dX9_chordsAgree_60 : decode cX9_chordsAgree 60 = .ok (.ireturn, 1) := by decide +kernel
theorem dX9_swapsAgree_0 : decode cX9_swapsAgree 0 = .ok (.iconst 0, 1) := by decide +kernel
theorem dX9_swapsAgree_1 : decode cX9_swapsAgree 1 = .ok (.istore_n 1, 1) := by decide +kernel
theorem dX9_swapsAgree_2 : decode cX9_swapsAgree 2 = .ok (.iload_n 1, 1) := by decide +kernel
theorem dX9_swapsAgree_3 : decode cX9_swapsAgree 3 = .ok (.iconst 3, 1) := by decide +kernel
theorem dX9_swapsAgree_4 : decode cX9_swapsAgree 4 = .ok (.if_icmp .ge 34, 3) := by decide +kernel
theorem dX9_swapsAgree_7 : decode cX9_swapsAgree 7 = .ok (.aload_n 0, 1) := by decide +kernel
theorem dX9_swapsAgree_8 : decode cX9_swapsAgree 8 = .ok (.getfield 12, 3) := by decide +kernel
theorem dX9_swapsAgree_11 : decode cX9_swapsAgree 11 = .ok (.getfield 137, 3) := by decide +kernel
theorem dX9_swapsAgree_14 : decode cX9_swapsAgree 14 = .ok (.iload_n 1, 1) := by decide +kernel
theorem dX9_swapsAgree_15 : decode cX9_swapsAgree 15 = .ok (.invokestatic 282, 3) := by decide +kernel
theorem dX9_swapsAgree_18 : decode cX9_swapsAgree 18 = .ok (.istore_n 2, 1) := by decide +kernel
theorem dX9_swapsAgree_19 : decode cX9_swapsAgree 19 = .ok (.iload_n 2, 1) := by decide +kernel
theorem dX9_swapsAgree_20 : decode cX9_swapsAgree 20 = .ok (.invokestatic 287, 3) := by decide +kernel
theorem dX9_swapsAgree_23 : decode cX9_swapsAgree 23 = .ok (.iload_n 2, 1) := by decide +kernel
theorem dX9_swapsAgree_24 : decode cX9_swapsAgree 24 = .ok (.invokestatic 290, 3) := by decide +kernel
theorem dX9_swapsAgree_27 : decode cX9_swapsAgree 27 = .ok (.if_icmp .eq 5, 3) := by decide +kernel
theorem dX9_swapsAgree_30 : decode cX9_swapsAgree 30 = .ok (.iconst 0, 1) := by decide +kernel
theorem dX9_swapsAgree_31 : decode cX9_swapsAgree 31 = .ok (.ireturn, 1) := by decide +kernel
theorem dX9_swapsAgree_32 : decode cX9_swapsAgree 32 = .ok (.iinc 1 1, 3) := by decide +kernel
theorem dX9_swapsAgree_35 : decode cX9_swapsAgree 35 = .ok (.goto (-33), 3) := by decide +kernel
theorem dX9_swapsAgree_38 : decode cX9_swapsAgree 38 = .ok (.iconst 1, 1) := by decide +kernel
theorem dX9_swapsAgree_39 : decode cX9_swapsAgree 39 = .ok (.ireturn, 1) := by decide +kernel
theorem dX9_renderRack_0 : decode cX9_renderRack 0 = .ok (.aload_n 0, 1) := by decide +kernel
theorem dX9_renderRack_1 : decode cX9_renderRack 1 = .ok (.iload_n 1, 1) := by decide +kernel
theorem dX9_renderRack_2 : decode cX9_renderRack 2 = .ok (.invokevirtual 254, 3) := by decide +kernel
theorem dX9_renderRack_5 : decode cX9_renderRack 5 = .ok (.aload_n 0, 1) := by decide +kernel
theorem dX9_renderRack_6 : decode cX9_renderRack 6 = .ok (.getfield 50, 3) := by decide +kernel
theorem dX9_renderRack_9 : decode cX9_renderRack 9 = .ok (.iconst 0, 1) := by decide +kernel
theorem dX9_renderRack_10 : decode cX9_renderRack 10 = .ok (.invokevirtual 341, 3) := by decide +kernel
theorem dX9_renderRack_13 : decode cX9_renderRack 13 = .ok (.iconst 0, 1) := by decide +kernel
theorem dX9_renderRack_14 : decode cX9_renderRack 14 = .ok (.istore_n 2, 1) := by decide +kernel
theorem dX9_renderRack_15 : decode cX9_renderRack 15 = .ok (.iload_n 2, 1) := by decide +kernel
theorem dX9_renderRack_16 : decode cX9_renderRack 16 = .ok (.bipush 6, 2) := by decide +kernel
theorem dX9_renderRack_18 : decode cX9_renderRack 18 = .ok (.if_icmp .ge 63, 3) := by decide +kernel
theorem dX9_renderRack_21 : decode cX9_renderRack 21 = .ok (.iload_n 2, 1) := by decide +kernel
theorem dX9_renderRack_22 : decode cX9_renderRack 22 = .ok (.ifCond .le 13, 3) := by decide +kernel
theorem dX9_renderRack_25 : decode cX9_renderRack 25 = .ok (.aload_n 0, 1) := by decide +kernel
theorem dX9_renderRack_26 : decode cX9_renderRack 26 = .ok (.getfield 50, 3) := by decide +kernel
theorem dX9_renderRack_29 : decode cX9_renderRack 29 = .ok (.bipush 44, 2) := by decide +kernel
theorem dX9_renderRack_31 : decode cX9_renderRack 31 = .ok (.invokevirtual 344, 3) := by decide +kernel
theorem dX9_renderRack_34 : decode cX9_renderRack 34 = .ok (.pop, 1) := by decide +kernel
theorem dX9_renderRack_35 : decode cX9_renderRack 35 = .ok (.aload_n 0, 1) := by decide +kernel
theorem dX9_renderRack_36 : decode cX9_renderRack 36 = .ok (.getfield 12, 3) := by decide +kernel
theorem dX9_renderRack_39 : decode cX9_renderRack 39 = .ok (.getfield 137, 3) := by decide +kernel
theorem dX9_renderRack_42 : decode cX9_renderRack 42 = .ok (.iload_n 1, 1) := by decide +kernel
theorem dX9_renderRack_43 : decode cX9_renderRack 43 = .ok (.iload_n 2, 1) := by decide +kernel
theorem dX9_renderRack_44 : decode cX9_renderRack 44 = .ok (.invokevirtual 184, 3) := by decide +kernel
theorem dX9_renderRack_47 : decode cX9_renderRack 47 = .ok (.istore_n 3, 1) := by decide +kernel
theorem dX9_renderRack_48 : decode cX9_renderRack 48 = .ok (.iload_n 3, 1) := by decide +kernel
theorem dX9_renderRack_49 : decode cX9_renderRack 49 = .ok (.iconst (-1), 1) := by decide +kernel
theorem dX9_renderRack_50 : decode cX9_renderRack 50 = .ok (.if_icmp .ne 16, 3) := by decide +kernel
theorem dX9_renderRack_53 : decode cX9_renderRack 53 = .ok (.aload_n 0, 1) := by decide +kernel
theorem dX9_renderRack_54 : decode cX9_renderRack 54 = .ok (.getfield 50, 3) := by decide +kernel
theorem dX9_renderRack_57 : decode cX9_renderRack 57 = .ok (.bipush 45, 2) := by decide +kernel
theorem dX9_renderRack_59 : decode cX9_renderRack 59 = .ok (.invokevirtual 344, 3) := by decide +kernel
theorem dX9_renderRack_62 : decode cX9_renderRack 62 = .ok (.pop, 1) := by decide +kernel
theorem dX9_renderRack_63 : decode cX9_renderRack 63 = .ok (.goto 12, 3) := by decide +kernel
theorem dX9_renderRack_66 : decode cX9_renderRack 66 = .ok (.aload_n 0, 1) := by decide +kernel
theorem dX9_renderRack_67 : decode cX9_renderRack 67 = .ok (.getfield 50, 3) := by decide +kernel
theorem dX9_renderRack_70 : decode cX9_renderRack 70 = .ok (.iload_n 3, 1) := by decide +kernel
theorem dX9_renderRack_71 : decode cX9_renderRack 71 = .ok (.invokevirtual 348, 3) := by decide +kernel
theorem dX9_renderRack_74 : decode cX9_renderRack 74 = .ok (.pop, 1) := by decide +kernel
theorem dX9_renderRack_75 : decode cX9_renderRack 75 = .ok (.iinc 2 1, 3) := by decide +kernel
theorem dX9_renderRack_78 : decode cX9_renderRack 78 = .ok (.goto (-63), 3) := by decide +kernel
theorem dX9_renderRack_81 : decode cX9_renderRack 81 = .ok (.aload_n 0, 1) := by decide +kernel
theorem dX9_renderRack_82 : decode cX9_renderRack 82 = .ok (.getfield 50, 3) := by decide +kernel
theorem dX9_renderRack_85 : decode cX9_renderRack 85 = .ok (.invokevirtual 351, 3) := by decide +kernel
theorem dX9_renderRack_88 : decode cX9_renderRack 88 = .ok (.ireturn, 1) := by decide +kernel
theorem dX9_renderHammer_0 : decode cX9_renderHammer 0 = .ok (.aload_n 0, 1) := by decide +kernel
theorem dX9_renderHammer_1 : decode cX9_renderHammer 1 = .ok (.iload_n 1, 1) := by decide +kernel
theorem dX9_renderHammer_2 : decode cX9_renderHammer 2 = .ok (.invokevirtual 147, 3) := by decide +kernel
theorem dX9_renderHammer_5 : decode cX9_renderHammer 5 = .ok (.aload_n 0, 1) := by decide +kernel
theorem dX9_renderHammer_6 : decode cX9_renderHammer 6 = .ok (.getfield 50, 3) := by decide +kernel
theorem dX9_renderHammer_9 : decode cX9_renderHammer 9 = .ok (.iconst 0, 1) := by decide +kernel
theorem dX9_renderHammer_10 : decode cX9_renderHammer 10 = .ok (.invokevirtual 341, 3) := by decide +kernel
theorem dX9_renderHammer_13 : decode cX9_renderHammer 13 = .ok (.aload_n 0, 1) := by decide +kernel
theorem dX9_renderHammer_14 : decode cX9_renderHammer 14 = .ok (.getfield 50, 3) := by decide +kernel
theorem dX9_renderHammer_17 : decode cX9_renderHammer 17 = .ok (.iload_n 1, 1) := by decide +kernel
theorem dX9_renderHammer_18 : decode cX9_renderHammer 18 = .ok (.invokevirtual 348, 3) := by decide +kernel
theorem dX9_renderHammer_21 : decode cX9_renderHammer 21 = .ok (.pop, 1) := by decide +kernel
theorem dX9_renderHammer_22 : decode cX9_renderHammer 22 = .ok (.aload_n 0, 1) := by decide +kernel
theorem dX9_renderHammer_23 : decode cX9_renderHammer 23 = .ok (.getfield 50, 3) := by decide +kernel
theorem dX9_renderHammer_26 : decode cX9_renderHammer 26 = .ok (.bipush 112, 2) := by decide +kernel
theorem dX9_renderHammer_28 : decode cX9_renderHammer 28 = .ok (.invokevirtual 344, 3) := by decide +kernel
theorem dX9_renderHammer_31 : decode cX9_renderHammer 31 = .ok (.aload_n 0, 1) := by decide +kernel
theorem dX9_renderHammer_32 : decode cX9_renderHammer 32 = .ok (.getfield 12, 3) := by decide +kernel
theorem dX9_renderHammer_35 : decode cX9_renderHammer 35 = .ok (.getfield 137, 3) := by decide +kernel
theorem dX9_renderHammer_38 : decode cX9_renderHammer 38 = .ok (.iload_n 1, 1) := by decide +kernel
theorem dX9_renderHammer_39 : decode cX9_renderHammer 39 = .ok (.invokevirtual 151, 3) := by decide +kernel
theorem dX9_renderHammer_42 : decode cX9_renderHammer 42 = .ok (.invokevirtual 348, 3) := by decide +kernel
theorem dX9_renderHammer_45 : decode cX9_renderHammer 45 = .ok (.pop, 1) := by decide +kernel
theorem dX9_renderHammer_46 : decode cX9_renderHammer 46 = .ok (.aload_n 0, 1) := by decide +kernel
theorem dX9_renderHammer_47 : decode cX9_renderHammer 47 = .ok (.getfield 50, 3) := by decide +kernel
theorem dX9_renderHammer_50 : decode cX9_renderHammer 50 = .ok (.bipush 119, 2) := by decide +kernel
theorem dX9_renderHammer_52 : decode cX9_renderHammer 52 = .ok (.invokevirtual 344, 3) := by decide +kernel
theorem dX9_renderHammer_55 : decode cX9_renderHammer 55 = .ok (.aload_n 0, 1) := by decide +kernel
theorem dX9_renderHammer_56 : decode cX9_renderHammer 56 = .ok (.getfield 12, 3) := by decide +kernel
theorem dX9_renderHammer_59 : decode cX9_renderHammer 59 = .ok (.getfield 137, 3) := by decide +kernel
theorem dX9_renderHammer_62 : decode cX9_renderHammer 62 = .ok (.iload_n 1, 1) := by decide +kernel
theorem dX9_renderHammer_63 : decode cX9_renderHammer 63 = .ok (.invokevirtual 154, 3) := by decide +kernel
theorem dX9_renderHammer_66 : decode cX9_renderHammer 66 = .ok (.invokevirtual 348, 3) := by decide +kernel
theorem dX9_renderHammer_69 : decode cX9_renderHammer 69 = .ok (.pop, 1) := by decide +kernel
theorem dX9_renderHammer_70 : decode cX9_renderHammer 70 = .ok (.aload_n 0, 1) := by decide +kernel
theorem dX9_renderHammer_71 : decode cX9_renderHammer 71 = .ok (.getfield 12, 3) := by decide +kernel
theorem dX9_renderHammer_74 : decode cX9_renderHammer 74 = .ok (.getfield 137, 3) := by decide +kernel
theorem dX9_renderHammer_77 : decode cX9_renderHammer 77 = .ok (.iload_n 1, 1) := by decide +kernel
theorem dX9_renderHammer_78 : decode cX9_renderHammer 78 = .ok (.invokevirtual 157, 3) := by decide +kernel
theorem dX9_renderHammer_81 : decode cX9_renderHammer 81 = .ok (.ifCond .eq 51, 3) := by decide +kernel
theorem dX9_renderHammer_84 : decode cX9_renderHammer 84 = .ok (.aload_n 0, 1) := by decide +kernel
theorem dX9_renderHammer_85 : decode cX9_renderHammer 85 = .ok (.getfield 50, 3) := by decide +kernel
theorem dX9_renderHammer_88 : decode cX9_renderHammer 88 = .ok (.bipush 64, 2) := by decide +kernel
theorem dX9_renderHammer_90 : decode cX9_renderHammer 90 = .ok (.invokevirtual 344, 3) := by decide +kernel
theorem dX9_renderHammer_93 : decode cX9_renderHammer 93 = .ok (.aload_n 0, 1) := by decide +kernel
theorem dX9_renderHammer_94 : decode cX9_renderHammer 94 = .ok (.getfield 12, 3) := by decide +kernel
theorem dX9_renderHammer_97 : decode cX9_renderHammer 97 = .ok (.getfield 137, 3) := by decide +kernel
theorem dX9_renderHammer_100 : decode cX9_renderHammer 100 = .ok (.iload_n 1, 1) := by decide +kernel
theorem dX9_renderHammer_101 : decode cX9_renderHammer 101 = .ok (.invokevirtual 164, 3) := by decide +kernel
theorem dX9_renderHammer_104 : decode cX9_renderHammer 104 = .ok (.invokevirtual 348, 3) := by decide +kernel
theorem dX9_renderHammer_107 : decode cX9_renderHammer 107 = .ok (.pop, 1) := by decide +kernel
theorem dX9_renderHammer_108 : decode cX9_renderHammer 108 = .ok (.aload_n 0, 1) := by decide +kernel
theorem dX9_renderHammer_109 : decode cX9_renderHammer 109 = .ok (.getfield 50, 3) := by decide +kernel
theorem dX9_renderHammer_112 : decode cX9_renderHammer 112 = .ok (.bipush 60, 2) := by decide +kernel
theorem dX9_renderHammer_114 : decode cX9_renderHammer 114 = .ok (.invokevirtual 344, 3) := by decide +kernel
theorem dX9_renderHammer_117 : decode cX9_renderHammer 117 = .ok (.aload_n 0, 1) := by decide +kernel
theorem dX9_renderHammer_118 : decode cX9_renderHammer 118 = .ok (.getfield 12, 3) := by decide +kernel
theorem dX9_renderHammer_121 : decode cX9_renderHammer 121 = .ok (.getfield 137, 3) := by decide +kernel
theorem dX9_renderHammer_124 : decode cX9_renderHammer 124 = .ok (.iload_n 1, 1) := by decide +kernel
theorem dX9_renderHammer_125 : decode cX9_renderHammer 125 = .ok (.invokevirtual 167, 3) := by decide +kernel
theorem dX9_renderHammer_128 : decode cX9_renderHammer 128 = .ok (.invokevirtual 348, 3) := by decide +kernel
theorem dX9_renderHammer_131 : decode cX9_renderHammer 131 = .ok (.pop, 1) := by decide +kernel
theorem dX9_renderHammer_132 : decode cX9_renderHammer 132 = .ok (.aload_n 0, 1) := by decide +kernel
theorem dX9_renderHammer_133 : decode cX9_renderHammer 133 = .ok (.getfield 50, 3) := by decide +kernel
theorem dX9_renderHammer_136 : decode cX9_renderHammer 136 = .ok (.invokevirtual 351, 3) := by decide +kernel
theorem dX9_renderHammer_139 : decode cX9_renderHammer 139 = .ok (.ireturn, 1) := by decide +kernel
theorem dX9_outputAt_0 : decode cX9_outputAt 0 = .ok (.iload_n 1, 1) := by decide +kernel
theorem dX9_outputAt_1 : decode cX9_outputAt 1 = .ok (.ifCond .lt 14, 3) := by decide +kernel
theorem dX9_outputAt_4 : decode cX9_outputAt 4 = .ok (.iload_n 1, 1) := by decide +kernel
theorem dX9_outputAt_5 : decode cX9_outputAt 5 = .ok (.aload_n 0, 1) := by decide +kernel
theorem dX9_outputAt_6 : decode cX9_outputAt 6 = .ok (.getfield 50, 3) := by decide +kernel
theorem dX9_outputAt_9 : decode cX9_outputAt 9 = .ok (.invokevirtual 351, 3) := by decide +kernel
theorem dX9_outputAt_12 : decode cX9_outputAt 12 = .ok (.if_icmp .lt 14, 3) := by decide +kernel
theorem dX9_outputAt_15 : decode cX9_outputAt 15 = .ok (.new 114, 3) := by decide +kernel
theorem dX9_outputAt_18 : decode cX9_outputAt 18 = .ok (.dup, 1) := by decide +kernel
theorem dX9_outputAt_19 : decode cX9_outputAt 19 = .ok (.ldc_w 354, 3) := by decide +kernel
theorem dX9_outputAt_22 : decode cX9_outputAt 22 = .ok (.invokespecial 118, 3) := by decide +kernel
theorem dX9_outputAt_25 : decode cX9_outputAt 25 = .ok (.athrow, 1) := by decide +kernel
theorem dX9_outputAt_26 : decode cX9_outputAt 26 = .ok (.aload_n 0, 1) := by decide +kernel
theorem dX9_outputAt_27 : decode cX9_outputAt 27 = .ok (.getfield 50, 3) := by decide +kernel
theorem dX9_outputAt_30 : decode cX9_outputAt 30 = .ok (.iload_n 1, 1) := by decide +kernel
theorem dX9_outputAt_31 : decode cX9_outputAt 31 = .ok (.invokevirtual 356, 3) := by decide +kernel
theorem dX9_outputAt_34 : decode cX9_outputAt 34 = .ok (.ireturn, 1) := by decide +kernel
theorem dX9_type_0 : decode cX9_type 0 = .ok (.iload_n 1, 1) := by decide +kernel
theorem dX9_type_1 : decode cX9_type 1 = .ok (.bipush 32, 2) := by decide +kernel
theorem dX9_type_3 : decode cX9_type 3 = .ok (.if_icmp .lt 9, 3) := by decide +kernel
theorem dX9_type_6 : decode cX9_type 6 = .ok (.iload_n 1, 1) := by decide +kernel
theorem dX9_type_7 : decode cX9_type 7 = .ok (.bipush 126, 2) := by decide +kernel
theorem dX9_type_9 : decode cX9_type 9 = .ok (.if_icmp .le 14, 3) := by decide +kernel
theorem dX9_type_12 : decode cX9_type 12 = .ok (.new 107, 3) := by decide +kernel
theorem dX9_type_15 : decode cX9_type 15 = .ok (.dup, 1) := by decide +kernel
theorem dX9_type_16 : decode cX9_type 16 = .ok (.ldc_w 360, 3) := by decide +kernel
theorem dX9_type_19 : decode cX9_type 19 = .ok (.invokespecial 111, 3) := by decide +kernel
theorem dX9_type_22 : decode cX9_type 22 = .ok (.athrow, 1) := by decide +kernel
theorem dX9_type_23 : decode cX9_type 23 = .ok (.aload_n 0, 1) := by decide +kernel
theorem dX9_type_24 : decode cX9_type 24 = .ok (.getfield 43, 3) := by decide +kernel
theorem dX9_type_27 : decode cX9_type 27 = .ok (.invokevirtual 362, 3) := by decide +kernel
theorem dX9_type_30 : decode cX9_type 30 = .ok (.ifCond .eq 14, 3) := by decide +kernel
theorem dX9_type_33 : decode cX9_type 33 = .ok (.new 119, 3) := by decide +kernel
theorem dX9_type_36 : decode cX9_type 36 = .ok (.dup, 1) := by decide +kernel
theorem dX9_type_37 : decode cX9_type 37 = .ok (.ldc_w 365, 3) := by decide +kernel
theorem dX9_type_40 : decode cX9_type 40 = .ok (.invokespecial 123, 3) := by decide +kernel
theorem dX9_type_43 : decode cX9_type 43 = .ok (.athrow, 1) := by decide +kernel
theorem dX9_type_44 : decode cX9_type 44 = .ok (.aload_n 0, 1) := by decide +kernel
theorem dX9_type_45 : decode cX9_type 45 = .ok (.getfield 43, 3) := by decide +kernel
theorem dX9_type_48 : decode cX9_type 48 = .ok (.iload_n 1, 1) := by decide +kernel
theorem dX9_type_49 : decode cX9_type 49 = .ok (.invokevirtual 367, 3) := by decide +kernel
theorem dX9_type_52 : decode cX9_type 52 = .ok (.ireturn, 1) := by decide +kernel
theorem dX9_runScript_0 : decode cX9_runScript 0 = .ok (.aload_n 0, 1) := by decide +kernel
theorem dX9_runScript_1 : decode cX9_runScript 1 = .ok (.getfield 43, 3) := by decide +kernel
theorem dX9_runScript_4 : decode cX9_runScript 4 = .ok (.invokevirtual 370, 3) := by decide +kernel
theorem dX9_runScript_7 : decode cX9_runScript 7 = .ok (.istore_n 1, 1) := by decide +kernel
theorem dX9_runScript_8 : decode cX9_runScript 8 = .ok (.aload_n 0, 1) := by decide +kernel
theorem dX9_runScript_9 : decode cX9_runScript 9 = .ok (.getfield 43, 3) := by decide +kernel
theorem dX9_runScript_12 : decode cX9_runScript 12 = .ok (.invokevirtual 373, 3) := by decide +kernel
theorem dX9_runScript_15 : decode cX9_runScript 15 = .ok (.iload_n 1, 1) := by decide +kernel
theorem dX9_runScript_16 : decode cX9_runScript 16 = .ok (.iconst (-1), 1) := by decide +kernel
theorem dX9_runScript_17 : decode cX9_runScript 17 = .ok (.if_icmp .eq 19, 3) := by decide +kernel
theorem dX9_runScript_20 : decode cX9_runScript 20 = .ok (.aload_n 0, 1) := by decide +kernel
theorem dX9_runScript_21 : decode cX9_runScript 21 = .ok (.iload_n 1, 1) := by decide +kernel
theorem dX9_runScript_22 : decode cX9_runScript 22 = .ok (.putfield 58, 3) := by decide +kernel
theorem dX9_runScript_25 : decode cX9_runScript 25 = .ok (.new 107, 3) := by decide +kernel
theorem dX9_runScript_28 : decode cX9_runScript 28 = .ok (.dup, 1) := by decide +kernel
theorem dX9_runScript_29 : decode cX9_runScript 29 = .ok (.ldc_w 376, 3) := by decide +kernel
theorem dX9_runScript_32 : decode cX9_runScript 32 = .ok (.invokespecial 111, 3) := by decide +kernel
theorem dX9_runScript_35 : decode cX9_runScript 35 = .ok (.athrow, 1) := by decide +kernel
theorem dX9_runScript_36 : decode cX9_runScript 36 = .ok (.aload_n 0, 1) := by decide +kernel
theorem dX9_runScript_37 : decode cX9_runScript 37 = .ok (.getfield 22, 3) := by decide +kernel
theorem dX9_runScript_40 : decode cX9_runScript 40 = .ok (.aload_n 0, 1) := by decide +kernel
theorem dX9_runScript_41 : decode cX9_runScript 41 = .ok (.getfield 12, 3) := by decide +kernel
theorem dX9_runScript_44 : decode cX9_runScript 44 = .ok (.invokevirtual 65, 3) := by decide +kernel
theorem dX9_runScript_47 : decode cX9_runScript 47 = .ok (.iconst 0, 1) := by decide +kernel
theorem dX9_runScript_48 : decode cX9_runScript 48 = .ok (.istore_n 2, 1) := by decide +kernel
theorem dX9_runScript_49 : decode cX9_runScript 49 = .ok (.iload_n 2, 1) := by decide +kernel
theorem dX9_runScript_50 : decode cX9_runScript 50 = .ok (.aload_n 0, 1) := by decide +kernel
theorem dX9_runScript_51 : decode cX9_runScript 51 = .ok (.getfield 43, 3) := by decide +kernel
theorem dX9_runScript_54 : decode cX9_runScript 54 = .ok (.invokevirtual 378, 3) := by decide +kernel
theorem dX9_runScript_57 : decode cX9_runScript 57 = .ok (.if_icmp .ge 44, 3) := by decide +kernel
theorem dX9_runScript_60 : decode cX9_runScript 60 = .ok (.aload_n 0, 1) := by decide +kernel
theorem dX9_runScript_61 : decode cX9_runScript 61 = .ok (.iload_n 2, 1) := by decide +kernel
theorem dX9_runScript_62 : decode cX9_runScript 62 = .ok (.invokevirtual 379, 3) := by decide +kernel
theorem dX9_runScript_65 : decode cX9_runScript 65 = .ok (.ifCond .ge 30, 3) := by decide +kernel
theorem dX9_runScript_68 : decode cX9_runScript 68 = .ok (.aload_n 0, 1) := by decide +kernel
theorem dX9_runScript_69 : decode cX9_runScript 69 = .ok (.getfield 22, 3) := by decide +kernel
theorem dX9_runScript_72 : decode cX9_runScript 72 = .ok (.aload_n 0, 1) := by decide +kernel
theorem dX9_runScript_73 : decode cX9_runScript 73 = .ok (.getfield 12, 3) := by decide +kernel
theorem dX9_runScript_76 : decode cX9_runScript 76 = .ok (.invokevirtual 382, 3) := by decide +kernel
theorem dX9_runScript_79 : decode cX9_runScript 79 = .ok (.aload_n 0, 1) := by decide +kernel
theorem dX9_runScript_80 : decode cX9_runScript 80 = .ok (.iload_n 2, 1) := by decide +kernel
theorem dX9_runScript_81 : decode cX9_runScript 81 = .ok (.putfield 62, 3) := by decide +kernel
theorem dX9_runScript_84 : decode cX9_runScript 84 = .ok (.new 119, 3) := by decide +kernel
theorem dX9_runScript_87 : decode cX9_runScript 87 = .ok (.dup, 1) := by decide +kernel
theorem dX9_runScript_88 : decode cX9_runScript 88 = .ok (.ldc_w 385, 3) := by decide +kernel
theorem dX9_runScript_91 : decode cX9_runScript 91 = .ok (.invokespecial 123, 3) := by decide +kernel
theorem dX9_runScript_94 : decode cX9_runScript 94 = .ok (.athrow, 1) := by decide +kernel
theorem dX9_runScript_95 : decode cX9_runScript 95 = .ok (.iinc 2 1, 3) := by decide +kernel
theorem dX9_runScript_98 : decode cX9_runScript 98 = .ok (.goto (-49), 3) := by decide +kernel
theorem dX9_runScript_101 : decode cX9_runScript 101 = .ok (.aload_n 0, 1) := by decide +kernel
theorem dX9_runScript_102 : decode cX9_runScript 102 = .ok (.getfield 22, 3) := by decide +kernel
theorem dX9_runScript_105 : decode cX9_runScript 105 = .ok (.invokevirtual 134, 3) := by decide +kernel
theorem dX9_runScript_108 : decode cX9_runScript 108 = .ok (.aload_n 0, 1) := by decide +kernel
theorem dX9_runScript_109 : decode cX9_runScript 109 = .ok (.getfield 43, 3) := by decide +kernel
theorem dX9_runScript_112 : decode cX9_runScript 112 = .ok (.invokevirtual 378, 3) := by decide +kernel
theorem dX9_runScript_115 : decode cX9_runScript 115 = .ok (.ireturn, 1) := by decide +kernel
theorem dX9_perform_0 : decode cX9_perform 0 = .ok (.aload_n 0, 1) := by decide +kernel
theorem dX9_perform_1 : decode cX9_perform 1 = .ok (.getfield 43, 3) := by decide +kernel
theorem dX9_perform_4 : decode cX9_perform 4 = .ok (.iload_n 1, 1) := by decide +kernel
theorem dX9_perform_5 : decode cX9_perform 5 = .ok (.iconst 0, 1) := by decide +kernel
theorem dX9_perform_6 : decode cX9_perform 6 = .ok (.invokevirtual 387, 3) := by decide +kernel
theorem dX9_perform_9 : decode cX9_perform 9 = .ok (.istore_n 2, 1) := by decide +kernel
theorem dX9_perform_10 : decode cX9_perform 10 = .ok (.aload_n 0, 1) := by decide +kernel
theorem dX9_perform_11 : decode cX9_perform 11 = .ok (.getfield 43, 3) := by decide +kernel
theorem dX9_perform_14 : decode cX9_perform 14 = .ok (.iload_n 1, 1) := by decide +kernel
theorem dX9_perform_15 : decode cX9_perform 15 = .ok (.iconst 1, 1) := by decide +kernel
theorem dX9_perform_16 : decode cX9_perform 16 = .ok (.invokevirtual 387, 3) := by decide +kernel
theorem dX9_perform_19 : decode cX9_perform 19 = .ok (.istore_n 3, 1) := by decide +kernel
theorem dX9_perform_20 : decode cX9_perform 20 = .ok (.aload_n 0, 1) := by decide +kernel
theorem dX9_perform_21 : decode cX9_perform 21 = .ok (.getfield 43, 3) := by decide +kernel
theorem dX9_perform_24 : decode cX9_perform 24 = .ok (.iload_n 1, 1) := by decide +kernel
theorem dX9_perform_25 : decode cX9_perform 25 = .ok (.iconst 2, 1) := by decide +kernel
theorem dX9_perform_26 : decode cX9_perform 26 = .ok (.invokevirtual 387, 3) := by decide +kernel
theorem dX9_perform_29 : decode cX9_perform 29 = .ok (.istore 4, 2) := by decide +kernel
theorem dX9_perform_31 : decode cX9_perform 31 = .ok (.aload_n 0, 1) := by decide +kernel
theorem dX9_perform_32 : decode cX9_perform 32 = .ok (.getfield 43, 3) := by decide +kernel
theorem dX9_perform_35 : decode cX9_perform 35 = .ok (.iload_n 1, 1) := by decide +kernel
theorem dX9_perform_36 : decode cX9_perform 36 = .ok (.invokevirtual 390, 3) := by decide +kernel
theorem dX9_perform_39 : decode cX9_perform 39 = .ok (.tableswitch 162 0 8 #[49, 59, 69, 81, 111, 120, 129, 141, 153], 49) := by decide +kernel
theorem dX9_perform_88 : decode cX9_perform 88 = .ok (.aload_n 0, 1) := by decide +kernel
theorem dX9_perform_89 : decode cX9_perform 89 = .ok (.getfield 12, 3) := by decide +kernel
theorem dX9_perform_92 : decode cX9_perform 92 = .ok (.iload_n 2, 1) := by decide +kernel
theorem dX9_perform_93 : decode cX9_perform 93 = .ok (.iload_n 3, 1) := by decide +kernel
theorem dX9_perform_94 : decode cX9_perform 94 = .ok (.invokevirtual 69, 3) := by decide +kernel
theorem dX9_perform_97 : decode cX9_perform 97 = .ok (.ireturn, 1) := by decide +kernel
theorem dX9_perform_98 : decode cX9_perform 98 = .ok (.aload_n 0, 1) := by decide +kernel
theorem dX9_perform_99 : decode cX9_perform 99 = .ok (.getfield 12, 3) := by decide +kernel
theorem dX9_perform_102 : decode cX9_perform 102 = .ok (.iload_n 2, 1) := by decide +kernel
theorem dX9_perform_103 : decode cX9_perform 103 = .ok (.iload_n 3, 1) := by decide +kernel
theorem dX9_perform_104 : decode cX9_perform 104 = .ok (.invokevirtual 77, 3) := by decide +kernel
theorem dX9_perform_107 : decode cX9_perform 107 = .ok (.ireturn, 1) := by decide +kernel
theorem dX9_perform_108 : decode cX9_perform 108 = .ok (.aload_n 0, 1) := by decide +kernel
theorem dX9_perform_109 : decode cX9_perform 109 = .ok (.getfield 12, 3) := by decide +kernel
theorem dX9_perform_112 : decode cX9_perform 112 = .ok (.iload_n 2, 1) := by decide +kernel
theorem dX9_perform_113 : decode cX9_perform 113 = .ok (.iload_n 3, 1) := by decide +kernel
theorem dX9_perform_114 : decode cX9_perform 114 = .ok (.iload 4, 2) := by decide +kernel
theorem dX9_perform_116 : decode cX9_perform 116 = .ok (.invokevirtual 80, 3) := by decide +kernel
theorem dX9_perform_119 : decode cX9_perform 119 = .ok (.ireturn, 1) := by decide +kernel
theorem dX9_perform_120 : decode cX9_perform 120 = .ok (.aload_n 0, 1) := by decide +kernel
theorem dX9_perform_121 : decode cX9_perform 121 = .ok (.getfield 12, 3) := by decide +kernel
theorem dX9_perform_124 : decode cX9_perform 124 = .ok (.iload_n 2, 1) := by decide +kernel
theorem dX9_perform_125 : decode cX9_perform 125 = .ok (.iload_n 3, 1) := by decide +kernel
theorem dX9_perform_126 : decode cX9_perform 126 = .ok (.iload 4, 2) := by decide +kernel
theorem dX9_perform_128 : decode cX9_perform 128 = .ok (.aload_n 0, 1) := by decide +kernel
theorem dX9_perform_129 : decode cX9_perform 129 = .ok (.getfield 43, 3) := by decide +kernel
theorem dX9_perform_132 : decode cX9_perform 132 = .ok (.iload_n 1, 1) := by decide +kernel
theorem dX9_perform_133 : decode cX9_perform 133 = .ok (.iconst 3, 1) := by decide +kernel
theorem dX9_perform_134 : decode cX9_perform 134 = .ok (.invokevirtual 387, 3) := by decide +kernel
theorem dX9_perform_137 : decode cX9_perform 137 = .ok (.aload_n 0, 1) := by decide +kernel
theorem dX9_perform_138 : decode cX9_perform 138 = .ok (.getfield 43, 3) := by decide +kernel
theorem dX9_perform_141 : decode cX9_perform 141 = .ok (.iload_n 1, 1) := by decide +kernel
theorem dX9_perform_142 : decode cX9_perform 142 = .ok (.iconst 4, 1) := by decide +kernel
theorem dX9_perform_143 : decode cX9_perform 143 = .ok (.invokevirtual 387, 3) := by decide +kernel
theorem dX9_perform_146 : decode cX9_perform 146 = .ok (.invokevirtual 84, 3) := by decide +kernel
theorem dX9_perform_149 : decode cX9_perform 149 = .ok (.ireturn, 1) := by decide +kernel
theorem dX9_perform_150 : decode cX9_perform 150 = .ok (.aload_n 0, 1) := by decide +kernel
theorem dX9_perform_151 : decode cX9_perform 151 = .ok (.getfield 12, 3) := by decide +kernel
theorem dX9_perform_154 : decode cX9_perform 154 = .ok (.iload_n 2, 1) := by decide +kernel
theorem dX9_perform_155 : decode cX9_perform 155 = .ok (.invokevirtual 88, 3) := by decide +kernel
theorem dX9_perform_158 : decode cX9_perform 158 = .ok (.ireturn, 1) := by decide +kernel
theorem dX9_perform_159 : decode cX9_perform 159 = .ok (.aload_n 0, 1) := by decide +kernel
theorem dX9_perform_160 : decode cX9_perform 160 = .ok (.getfield 12, 3) := by decide +kernel
theorem dX9_perform_163 : decode cX9_perform 163 = .ok (.iload_n 2, 1) := by decide +kernel
theorem dX9_perform_164 : decode cX9_perform 164 = .ok (.invokevirtual 91, 3) := by decide +kernel
theorem dX9_perform_167 : decode cX9_perform 167 = .ok (.ireturn, 1) := by decide +kernel
theorem dX9_perform_168 : decode cX9_perform 168 = .ok (.aload_n 0, 1) := by decide +kernel
theorem dX9_perform_169 : decode cX9_perform 169 = .ok (.getfield 12, 3) := by decide +kernel
theorem dX9_perform_172 : decode cX9_perform 172 = .ok (.aload_n 0, 1) := by decide +kernel
theorem dX9_perform_173 : decode cX9_perform 173 = .ok (.getfield 29, 3) := by decide +kernel
theorem dX9_perform_176 : decode cX9_perform 176 = .ok (.invokevirtual 94, 3) := by decide +kernel
theorem dX9_perform_179 : decode cX9_perform 179 = .ok (.ireturn, 1) := by decide +kernel
theorem dX9_perform_180 : decode cX9_perform 180 = .ok (.aload_n 0, 1) := by decide +kernel
theorem dX9_perform_181 : decode cX9_perform 181 = .ok (.getfield 12, 3) := by decide +kernel
theorem dX9_perform_184 : decode cX9_perform 184 = .ok (.iload_n 2, 1) := by decide +kernel
theorem dX9_perform_185 : decode cX9_perform 185 = .ok (.iload_n 3, 1) := by decide +kernel
theorem dX9_perform_186 : decode cX9_perform 186 = .ok (.iload 4, 2) := by decide +kernel
theorem dX9_perform_188 : decode cX9_perform 188 = .ok (.invokevirtual 98, 3) := by decide +kernel
theorem dX9_perform_191 : decode cX9_perform 191 = .ok (.ireturn, 1) := by decide +kernel
theorem dX9_perform_192 : decode cX9_perform 192 = .ok (.aload_n 0, 1) := by decide +kernel
theorem dX9_perform_193 : decode cX9_perform 193 = .ok (.getfield 12, 3) := by decide +kernel
theorem dX9_perform_196 : decode cX9_perform 196 = .ok (.iload_n 2, 1) := by decide +kernel
theorem dX9_perform_197 : decode cX9_perform 197 = .ok (.invokevirtual 101, 3) := by decide +kernel
theorem dX9_perform_200 : decode cX9_perform 200 = .ok (.ireturn, 1) := by decide +kernel
theorem dX9_perform_201 : decode cX9_perform 201 = .ok (.aload_n 0, 1) := by decide +kernel
theorem dX9_perform_202 : decode cX9_perform 202 = .ok (.getfield 12, 3) := by decide +kernel
theorem dX9_perform_205 : decode cX9_perform 205 = .ok (.iload_n 2, 1) := by decide +kernel
theorem dX9_perform_206 : decode cX9_perform 206 = .ok (.invokevirtual 104, 3) := by decide +kernel
theorem dX9_perform_209 : decode cX9_perform 209 = .ok (.ireturn, 1) := by decide +kernel
theorem dX9_errorPosition_0 : decode cX9_errorPosition 0 = .ok (.aload_n 0, 1) := by decide +kernel
theorem dX9_errorPosition_1 : decode cX9_errorPosition 1 = .ok (.getfield 58, 3) := by decide +kernel
theorem dX9_errorPosition_4 : decode cX9_errorPosition 4 = .ok (.iconst (-1), 1) := by decide +kernel
theorem dX9_errorPosition_5 : decode cX9_errorPosition 5 = .ok (.if_icmp .ne 14, 3) := by decide +kernel
theorem dX9_errorPosition_8 : decode cX9_errorPosition 8 = .ok (.new 124, 3) := by decide +kernel
theorem dX9_errorPosition_11 : decode cX9_errorPosition 11 = .ok (.dup, 1) := by decide +kernel
theorem dX9_errorPosition_12 : decode cX9_errorPosition 12 = .ok (.ldc_w 393, 3) := by decide +kernel
theorem dX9_errorPosition_15 : decode cX9_errorPosition 15 = .ok (.invokespecial 128, 3) := by decide +kernel
theorem dX9_errorPosition_18 : decode cX9_errorPosition 18 = .ok (.athrow, 1) := by decide +kernel
theorem dX9_errorPosition_19 : decode cX9_errorPosition 19 = .ok (.aload_n 0, 1) := by decide +kernel
theorem dX9_errorPosition_20 : decode cX9_errorPosition 20 = .ok (.getfield 58, 3) := by decide +kernel
theorem dX9_errorPosition_23 : decode cX9_errorPosition 23 = .ok (.ireturn, 1) := by decide +kernel
theorem dX9_failedCommand_0 : decode cX9_failedCommand 0 = .ok (.aload_n 0, 1) := by decide +kernel
theorem dX9_failedCommand_1 : decode cX9_failedCommand 1 = .ok (.getfield 62, 3) := by decide +kernel
theorem dX9_failedCommand_4 : decode cX9_failedCommand 4 = .ok (.iconst (-1), 1) := by decide +kernel
theorem dX9_failedCommand_5 : decode cX9_failedCommand 5 = .ok (.if_icmp .ne 14, 3) := by decide +kernel
theorem dX9_failedCommand_8 : decode cX9_failedCommand 8 = .ok (.new 124, 3) := by decide +kernel
theorem dX9_failedCommand_11 : decode cX9_failedCommand 11 = .ok (.dup, 1) := by decide +kernel
theorem dX9_failedCommand_12 : decode cX9_failedCommand 12 = .ok (.ldc_w 395, 3) := by decide +kernel
theorem dX9_failedCommand_15 : decode cX9_failedCommand 15 = .ok (.invokespecial 128, 3) := by decide +kernel
theorem dX9_failedCommand_18 : decode cX9_failedCommand 18 = .ok (.athrow, 1) := by decide +kernel
theorem dX9_failedCommand_19 : decode cX9_failedCommand 19 = .ok (.aload_n 0, 1) := by decide +kernel
theorem dX9_failedCommand_20 : decode cX9_failedCommand 20 = .ok (.getfield 62, 3) := by decide +kernel
theorem dX9_failedCommand_23 : decode cX9_failedCommand 23 = .ok (.ireturn, 1) := by decide +kernel
theorem dX9_undo_0 : decode cX9_undo 0 = .ok (.aload_n 0, 1) := by decide +kernel
theorem dX9_undo_1 : decode cX9_undo 1 = .ok (.getfield 22, 3) := by decide +kernel
theorem dX9_undo_4 : decode cX9_undo 4 = .ok (.invokevirtual 397, 3) := by decide +kernel
theorem dX9_undo_7 : decode cX9_undo 7 = .ok (.ifCond .ne 14, 3) := by decide +kernel
theorem dX9_undo_10 : decode cX9_undo 10 = .ok (.new 119, 3) := by decide +kernel
theorem dX9_undo_13 : decode cX9_undo 13 = .ok (.dup, 1) := by decide +kernel
theorem dX9_undo_14 : decode cX9_undo 14 = .ok (.ldc_w 398, 3) := by decide +kernel
theorem dX9_undo_17 : decode cX9_undo 17 = .ok (.invokespecial 123, 3) := by decide +kernel
theorem dX9_undo_20 : decode cX9_undo 20 = .ok (.athrow, 1) := by decide +kernel
theorem dX9_undo_21 : decode cX9_undo 21 = .ok (.aload_n 0, 1) := by decide +kernel
theorem dX9_undo_22 : decode cX9_undo 22 = .ok (.getfield 22, 3) := by decide +kernel
theorem dX9_undo_25 : decode cX9_undo 25 = .ok (.aload_n 0, 1) := by decide +kernel
theorem dX9_undo_26 : decode cX9_undo 26 = .ok (.getfield 12, 3) := by decide +kernel
theorem dX9_undo_29 : decode cX9_undo 29 = .ok (.invokevirtual 400, 3) := by decide +kernel
theorem dX9_undo_32 : decode cX9_undo 32 = .ok (.aload_n 0, 1) := by decide +kernel
theorem dX9_undo_33 : decode cX9_undo 33 = .ok (.getfield 22, 3) := by decide +kernel
theorem dX9_undo_36 : decode cX9_undo 36 = .ok (.invokevirtual 397, 3) := by decide +kernel
theorem dX9_undo_39 : decode cX9_undo 39 = .ok (.ireturn, 1) := by decide +kernel
theorem dX9_save_0 : decode cX9_save 0 = .ok (.aload_n 0, 1) := by decide +kernel
theorem dX9_save_1 : decode cX9_save 1 = .ok (.getfield 16, 3) := by decide +kernel
theorem dX9_save_4 : decode cX9_save 4 = .ok (.aload_n 0, 1) := by decide +kernel
theorem dX9_save_5 : decode cX9_save 5 = .ok (.getfield 12, 3) := by decide +kernel
theorem dX9_save_8 : decode cX9_save 8 = .ok (.invokevirtual 403, 3) := by decide +kernel
theorem dX9_save_11 : decode cX9_save 11 = .ok (.aload_n 0, 1) := by decide +kernel
theorem dX9_save_12 : decode cX9_save 12 = .ok (.iconst 1, 1) := by decide +kernel
theorem dX9_save_13 : decode cX9_save 13 = .ok (.putfield 54, 3) := by decide +kernel
theorem dX9_save_16 : decode cX9_save 16 = .ok (.aload_n 0, 1) := by decide +kernel
theorem dX9_save_17 : decode cX9_save 17 = .ok (.getfield 12, 3) := by decide +kernel
theorem dX9_save_20 : decode cX9_save 20 = .ok (.getfield 137, 3) := by decide +kernel
theorem dX9_save_23 : decode cX9_save 23 = .ok (.invokevirtual 141, 3) := by decide +kernel
theorem dX9_save_26 : decode cX9_save 26 = .ok (.ireturn, 1) := by decide +kernel
theorem dX9_restore_0 : decode cX9_restore 0 = .ok (.aload_n 0, 1) := by decide +kernel
theorem dX9_restore_1 : decode cX9_restore 1 = .ok (.getfield 54, 3) := by decide +kernel
theorem dX9_restore_4 : decode cX9_restore 4 = .ok (.ifCond .ne 14, 3) := by decide +kernel
theorem dX9_restore_7 : decode cX9_restore 7 = .ok (.new 119, 3) := by decide +kernel
theorem dX9_restore_10 : decode cX9_restore 10 = .ok (.dup, 1) := by decide +kernel
theorem dX9_restore_11 : decode cX9_restore 11 = .ok (.ldc_w 406, 3) := by decide +kernel
theorem dX9_restore_14 : decode cX9_restore 14 = .ok (.invokespecial 123, 3) := by decide +kernel
theorem dX9_restore_17 : decode cX9_restore 17 = .ok (.athrow, 1) := by decide +kernel
theorem dX9_restore_18 : decode cX9_restore 18 = .ok (.aload_n 0, 1) := by decide +kernel
theorem dX9_restore_19 : decode cX9_restore 19 = .ok (.getfield 12, 3) := by decide +kernel
theorem dX9_restore_22 : decode cX9_restore 22 = .ok (.aload_n 0, 1) := by decide +kernel
theorem dX9_restore_23 : decode cX9_restore 23 = .ok (.getfield 16, 3) := by decide +kernel
theorem dX9_restore_26 : decode cX9_restore 26 = .ok (.invokevirtual 403, 3) := by decide +kernel
theorem dX9_restore_29 : decode cX9_restore 29 = .ok (.aload_n 0, 1) := by decide +kernel
theorem dX9_restore_30 : decode cX9_restore 30 = .ok (.getfield 22, 3) := by decide +kernel
theorem dX9_restore_33 : decode cX9_restore 33 = .ok (.invokevirtual 408, 3) := by decide +kernel
theorem dX9_restore_36 : decode cX9_restore 36 = .ok (.aload_n 0, 1) := by decide +kernel
theorem dX9_restore_37 : decode cX9_restore 37 = .ok (.getfield 12, 3) := by decide +kernel
theorem dX9_restore_40 : decode cX9_restore 40 = .ok (.getfield 137, 3) := by decide +kernel
theorem dX9_restore_43 : decode cX9_restore 43 = .ok (.invokevirtual 141, 3) := by decide +kernel
theorem dX9_restore_46 : decode cX9_restore 46 = .ok (.ireturn, 1) := by decide +kernel
theorem dX9_isRack_0 : decode cX9_isRack 0 = .ok (.iload_n 0, 1) := by decide +kernel
theorem dX9_isRack_1 : decode cX9_isRack 1 = .ok (.ifCond .lt 12, 3) := by decide +kernel
theorem dX9_isRack_4 : decode cX9_isRack 4 = .ok (.iload_n 0, 1) := by decide +kernel
theorem dX9_isRack_5 : decode cX9_isRack 5 = .ok (.iconst 3, 1) := by decide +kernel
theorem dX9_isRack_6 : decode cX9_isRack 6 = .ok (.if_icmp .ge 7, 3) := by decide +kernel
theorem dX9_isRack_9 : decode cX9_isRack 9 = .ok (.iconst 1, 1) := by decide +kernel
theorem dX9_isRack_10 : decode cX9_isRack 10 = .ok (.goto 4, 3) := by decide +kernel
theorem dX9_isRack_13 : decode cX9_isRack 13 = .ok (.iconst 0, 1) := by decide +kernel
theorem dX9_isRack_14 : decode cX9_isRack 14 = .ok (.ireturn, 1) := by decide +kernel
theorem dX9_isPlace_0 : decode cX9_isPlace 0 = .ok (.iload_n 0, 1) := by decide +kernel
theorem dX9_isPlace_1 : decode cX9_isPlace 1 = .ok (.ifCond .lt 13, 3) := by decide +kernel
theorem dX9_isPlace_4 : decode cX9_isPlace 4 = .ok (.iload_n 0, 1) := by decide +kernel
theorem dX9_isPlace_5 : decode cX9_isPlace 5 = .ok (.bipush 6, 2) := by decide +kernel
theorem dX9_isPlace_7 : decode cX9_isPlace 7 = .ok (.if_icmp .ge 7, 3) := by decide +kernel
theorem dX9_isPlace_10 : decode cX9_isPlace 10 = .ok (.iconst 1, 1) := by decide +kernel
theorem dX9_isPlace_11 : decode cX9_isPlace 11 = .ok (.goto 4, 3) := by decide +kernel
theorem dX9_isPlace_14 : decode cX9_isPlace 14 = .ok (.iconst 0, 1) := by decide +kernel
theorem dX9_isPlace_15 : decode cX9_isPlace 15 = .ok (.ireturn, 1) := by decide +kernel
theorem dX9_requireRack_0 : decode cX9_requireRack 0 = .ok (.iload_n 1, 1) := by decide +kernel
theorem dX9_requireRack_1 : decode cX9_requireRack 1 = .ok (.invokestatic 176, 3) := by decide +kernel
theorem dX9_requireRack_4 : decode cX9_requireRack 4 = .ok (.ifCond .ne 14, 3) := by decide +kernel
theorem dX9_requireRack_7 : decode cX9_requireRack 7 = .ok (.new 114, 3) := by decide +kernel
theorem dX9_requireRack_10 : decode cX9_requireRack 10 = .ok (.dup, 1) := by decide +kernel
theorem dX9_requireRack_11 : decode cX9_requireRack 11 = .ok (.ldc_w 411, 3) := by decide +kernel
theorem dX9_requireRack_14 : decode cX9_requireRack 14 = .ok (.invokespecial 118, 3) := by decide +kernel
theorem dX9_requireRack_17 : decode cX9_requireRack 17 = .ok (.athrow, 1) := by decide +kernel
theorem dX9_requireRack_18 : decode cX9_requireRack 18 = .ok (.return_, 1) := by decide +kernel
theorem dX9_requireHammer_0 : decode cX9_requireHammer 0 = .ok (.aload_n 0, 1) := by decide +kernel
theorem dX9_requireHammer_1 : decode cX9_requireHammer 1 = .ok (.getfield 12, 3) := by decide +kernel
theorem dX9_requireHammer_4 : decode cX9_requireHammer 4 = .ok (.getfield 137, 3) := by decide +kernel
theorem dX9_requireHammer_7 : decode cX9_requireHammer 7 = .ok (.iload_n 1, 1) := by decide +kernel
theorem dX9_requireHammer_8 : decode cX9_requireHammer 8 = .ok (.invokevirtual 413, 3) := by decide +kernel
theorem dX9_requireHammer_11 : decode cX9_requireHammer 11 = .ok (.ifCond .ne 14, 3) := by decide +kernel
theorem dX9_requireHammer_14 : decode cX9_requireHammer 14 = .ok (.new 114, 3) := by decide +kernel
theorem dX9_requireHammer_17 : decode cX9_requireHammer 17 = .ok (.dup, 1) := by decide +kernel
theorem dX9_requireHammer_18 : decode cX9_requireHammer 18 = .ok (.ldc_w 414, 3) := by decide +kernel
theorem dX9_requireHammer_21 : decode cX9_requireHammer 21 = .ok (.invokespecial 118, 3) := by decide +kernel
theorem dX9_requireHammer_24 : decode cX9_requireHammer 24 = .ok (.athrow, 1) := by decide +kernel
theorem dX9_requireHammer_25 : decode cX9_requireHammer 25 = .ok (.return_, 1) := by decide +kernel
theorem dX9_requireLent_0 : decode cX9_requireLent 0 = .ok (.aload_n 0, 1) := by decide +kernel
theorem dX9_requireLent_1 : decode cX9_requireLent 1 = .ok (.getfield 12, 3) := by decide +kernel
theorem dX9_requireLent_4 : decode cX9_requireLent 4 = .ok (.getfield 137, 3) := by decide +kernel
theorem dX9_requireLent_7 : decode cX9_requireLent 7 = .ok (.iload_n 1, 1) := by decide +kernel
theorem dX9_requireLent_8 : decode cX9_requireLent 8 = .ok (.invokevirtual 157, 3) := by decide +kernel
theorem dX9_requireLent_11 : decode cX9_requireLent 11 = .ok (.ifCond .ne 14, 3) := by decide +kernel
theorem dX9_requireLent_14 : decode cX9_requireLent 14 = .ok (.new 124, 3) := by decide +kernel
theorem dX9_requireLent_17 : decode cX9_requireLent 17 = .ok (.dup, 1) := by decide +kernel
theorem dX9_requireLent_18 : decode cX9_requireLent 18 = .ok (.ldc_w 416, 3) := by decide +kernel
theorem dX9_requireLent_21 : decode cX9_requireLent 21 = .ok (.invokespecial 128, 3) := by decide +kernel
theorem dX9_requireLent_24 : decode cX9_requireLent 24 = .ok (.athrow, 1) := by decide +kernel
theorem dX9_requireLent_25 : decode cX9_requireLent 25 = .ok (.return_, 1) := by decide +kernel
theorem dX9_requireInRack_0 : decode cX9_requireInRack 0 = .ok (.aload_n 0, 1) := by decide +kernel
theorem dX9_requireInRack_1 : decode cX9_requireInRack 1 = .ok (.getfield 12, 3) := by decide +kernel
theorem dX9_requireInRack_4 : decode cX9_requireInRack 4 = .ok (.getfield 137, 3) := by decide +kernel
theorem dX9_requireInRack_7 : decode cX9_requireInRack 7 = .ok (.iload_n 1, 1) := by decide +kernel
theorem dX9_requireInRack_8 : decode cX9_requireInRack 8 = .ok (.invokevirtual 157, 3) := by decide +kernel
theorem dX9_requireInRack_11 : decode cX9_requireInRack 11 = .ok (.ifCond .eq 14, 3) := by decide +kernel
theorem dX9_requireInRack_14 : decode cX9_requireInRack 14 = .ok (.new 124, 3) := by decide +kernel
theorem dX9_requireInRack_17 : decode cX9_requireInRack 17 = .ok (.dup, 1) := by decide +kernel
theorem dX9_requireInRack_18 : decode cX9_requireInRack 18 = .ok (.ldc_w 418, 3) := by decide +kernel
theorem dX9_requireInRack_21 : decode cX9_requireInRack 21 = .ok (.invokespecial 128, 3) := by decide +kernel
theorem dX9_requireInRack_24 : decode cX9_requireInRack 24 = .ok (.athrow, 1) := by decide +kernel
theorem dX9_requireInRack_25 : decode cX9_requireInRack 25 = .ok (.return_, 1) := by decide +kernel
theorem dX9_requiredPosition_0 : decode cX9_requiredPosition 0 = .ok (.aload_n 0, 1) := by decide +kernel
theorem dX9_requiredPosition_1 : decode cX9_requiredPosition 1 = .ok (.getfield 12, 3) := by decide +kernel
theorem dX9_requiredPosition_4 : decode cX9_requiredPosition 4 = .ok (.getfield 218, 3) := by decide +kernel
theorem dX9_requiredPosition_7 : decode cX9_requiredPosition 7 = .ok (.iload_n 1, 1) := by decide +kernel
theorem dX9_requiredPosition_8 : decode cX9_requiredPosition 8 = .ok (.invokevirtual 420, 3) := by decide +kernel
theorem dX9_requiredPosition_11 : decode cX9_requiredPosition 11 = .ok (.istore_n 2, 1) := by decide +kernel
theorem dX9_requiredPosition_12 : decode cX9_requiredPosition 12 = .ok (.iload_n 2, 1) := by decide +kernel
theorem dX9_requiredPosition_13 : decode cX9_requiredPosition 13 = .ok (.iconst (-1), 1) := by decide +kernel
theorem dX9_requiredPosition_14 : decode cX9_requiredPosition 14 = .ok (.if_icmp .ne 13, 3) := by decide +kernel
theorem dX9_requiredPosition_17 : decode cX9_requiredPosition 17 = .ok (.new 124, 3) := by decide +kernel
theorem dX9_requiredPosition_20 : decode cX9_requiredPosition 20 = .ok (.dup, 1) := by decide +kernel
theorem dX9_requiredPosition_21 : decode cX9_requiredPosition 21 = .ok (.ldc 126, 2) := by decide +kernel
theorem dX9_requiredPosition_23 : decode cX9_requiredPosition 23 = .ok (.invokespecial 128, 3) := by decide +kernel
theorem dX9_requiredPosition_26 : decode cX9_requiredPosition 26 = .ok (.athrow, 1) := by decide +kernel
theorem dX9_requiredPosition_27 : decode cX9_requiredPosition 27 = .ok (.iload_n 2, 1) := by decide +kernel
theorem dX9_requiredPosition_28 : decode cX9_requiredPosition 28 = .ok (.ireturn, 1) := by decide +kernel
theorem dX9_requireChord_0 : decode cX9_requireChord 0 = .ok (.iload_n 1, 1) := by decide +kernel
theorem dX9_requireChord_1 : decode cX9_requireChord 1 = .ok (.iconst 1, 1) := by decide +kernel
theorem dX9_requireChord_2 : decode cX9_requireChord 2 = .ok (.if_icmp .lt 8, 3) := by decide +kernel
theorem dX9_requireChord_5 : decode cX9_requireChord 5 = .ok (.iload_n 1, 1) := by decide +kernel
theorem dX9_requireChord_6 : decode cX9_requireChord 6 = .ok (.iconst 5, 1) := by decide +kernel
theorem dX9_requireChord_7 : decode cX9_requireChord 7 = .ok (.if_icmp .le 14, 3) := by decide +kernel
theorem dX9_requireChord_10 : decode cX9_requireChord 10 = .ok (.new 107, 3) := by decide +kernel
theorem dX9_requireChord_13 : decode cX9_requireChord 13 = .ok (.dup, 1) := by decide +kernel
theorem dX9_requireChord_14 : decode cX9_requireChord 14 = .ok (.ldc_w 423, 3) := by decide +kernel
theorem dX9_requireChord_17 : decode cX9_requireChord 17 = .ok (.invokespecial 111, 3) := by decide +kernel
theorem dX9_requireChord_20 : decode cX9_requireChord 20 = .ok (.athrow, 1) := by decide +kernel
theorem dX9_requireChord_21 : decode cX9_requireChord 21 = .ok (.aload_n 0, 1) := by decide +kernel
theorem dX9_requireChord_22 : decode cX9_requireChord 22 = .ok (.getfield 36, 3) := by decide +kernel
theorem dX9_requireChord_25 : decode cX9_requireChord 25 = .ok (.aload_n 0, 1) := by decide +kernel
theorem dX9_requireChord_26 : decode cX9_requireChord 26 = .ok (.getfield 12, 3) := by decide +kernel
theorem dX9_requireChord_29 : decode cX9_requireChord 29 = .ok (.getfield 137, 3) := by decide +kernel
theorem dX9_requireChord_32 : decode cX9_requireChord 32 = .ok (.invokevirtual 335, 3) := by decide +kernel
theorem dX9_requireChord_35 : decode cX9_requireChord 35 = .ok (.aload_n 0, 1) := by decide +kernel
theorem dX9_requireChord_36 : decode cX9_requireChord 36 = .ok (.getfield 36, 3) := by decide +kernel
theorem dX9_requireChord_39 : decode cX9_requireChord 39 = .ok (.iload_n 1, 1) := by decide +kernel
theorem dX9_requireChord_40 : decode cX9_requireChord 40 = .ok (.invokevirtual 338, 3) := by decide +kernel
theorem dX9_requireChord_43 : decode cX9_requireChord 43 = .ok (.ifCond .ne 14, 3) := by decide +kernel
theorem dX9_requireChord_46 : decode cX9_requireChord 46 = .ok (.new 124, 3) := by decide +kernel
theorem dX9_requireChord_49 : decode cX9_requireChord 49 = .ok (.dup, 1) := by decide +kernel
theorem dX9_requireChord_50 : decode cX9_requireChord 50 = .ok (.ldc_w 425, 3) := by decide +kernel
theorem dX9_requireChord_53 : decode cX9_requireChord 53 = .ok (.invokespecial 128, 3) := by decide +kernel
theorem dX9_requireChord_56 : decode cX9_requireChord 56 = .ok (.athrow, 1) := by decide +kernel
theorem dX9_requireChord_57 : decode cX9_requireChord 57 = .ok (.return_, 1) := by decide +kernel
theorem dX10_init_0 : decode cX10_init 0 = .ok (.aload_n 0, 1) := by decide +kernel
theorem dX10_init_1 : decode cX10_init 1 = .ok (.invokespecial 1, 3) := by decide +kernel
theorem dX10_init_4 : decode cX10_init 4 = .ok (.aload_n 0, 1) := by decide +kernel
theorem dX10_init_5 : decode cX10_init 5 = .ok (.sipush 2048, 3) := by decide +kernel
theorem dX10_init_8 : decode cX10_init 8 = .ok (.newarray .int, 2) := by decide +kernel
theorem dX10_init_10 : decode cX10_init 10 = .ok (.putfield 9, 3) := by decide +kernel
theorem dX10_init_13 : decode cX10_init 13 = .ok (.aload_n 0, 1) := by decide +kernel
theorem dX10_init_14 : decode cX10_init 14 = .ok (.sipush 2048, 3) := by decide +kernel
theorem dX10_init_17 : decode cX10_init 17 = .ok (.newarray .int, 2) := by decide +kernel
theorem dX10_init_19 : decode cX10_init 19 = .ok (.putfield 13, 3) := by decide +kernel
theorem dX10_init_22 : decode cX10_init 22 = .ok (.aload_n 0, 1) := by decide +kernel
theorem dX10_init_23 : decode cX10_init 23 = .ok (.sipush 2048, 3) := by decide +kernel
theorem dX10_init_26 : decode cX10_init 26 = .ok (.newarray .int, 2) := by decide +kernel
theorem dX10_init_28 : decode cX10_init 28 = .ok (.putfield 16, 3) := by decide +kernel
theorem dX10_init_31 : decode cX10_init 31 = .ok (.aload_n 0, 1) := by decide +kernel
theorem dX10_init_32 : decode cX10_init 32 = .ok (.sipush 16384, 3) := by decide +kernel
theorem dX10_init_35 : decode cX10_init 35 = .ok (.newarray .int, 2) := by decide +kernel
theorem dX10_init_37 : decode cX10_init 37 = .ok (.putfield 19, 3) := by decide +kernel
theorem dX10_init_40 : decode cX10_init 40 = .ok (.aload_n 0, 1) := by decide +kernel
theorem dX10_init_41 : decode cX10_init 41 = .ok (.iconst (-1), 1) := by decide +kernel
theorem dX10_init_42 : decode cX10_init 42 = .ok (.putfield 22, 3) := by decide +kernel
theorem dX10_init_45 : decode cX10_init 45 = .ok (.aload_n 0, 1) := by decide +kernel
theorem dX10_init_46 : decode cX10_init 46 = .ok (.iconst (-1), 1) := by decide +kernel
theorem dX10_init_47 : decode cX10_init 47 = .ok (.putfield 26, 3) := by decide +kernel
theorem dX10_init_50 : decode cX10_init 50 = .ok (.aload_n 0, 1) := by decide +kernel
theorem dX10_init_51 : decode cX10_init 51 = .ok (.bipush 60, 2) := by decide +kernel
theorem dX10_init_53 : decode cX10_init 53 = .ok (.newarray .int, 2) := by decide +kernel
theorem dX10_init_55 : decode cX10_init 55 = .ok (.putfield 29, 3) := by decide +kernel
theorem dX10_init_58 : decode cX10_init 58 = .ok (.aload_n 0, 1) := by decide +kernel
theorem dX10_init_59 : decode cX10_init 59 = .ok (.bipush 8, 2) := by decide +kernel
theorem dX10_init_61 : decode cX10_init 61 = .ok (.newarray .int, 2) := by decide +kernel
theorem dX10_init_63 : decode cX10_init 63 = .ok (.putfield 32, 3) := by decide +kernel
theorem dX10_init_66 : decode cX10_init 66 = .ok (.aload_n 0, 1) := by decide +kernel
theorem dX10_init_67 : decode cX10_init 67 = .ok (.bipush 8, 2) := by decide +kernel
theorem dX10_init_69 : decode cX10_init 69 = .ok (.newarray .int, 2) := by decide +kernel
theorem dX10_init_71 : decode cX10_init 71 = .ok (.putfield 35, 3) := by decide +kernel
theorem dX10_init_74 : decode cX10_init 74 = .ok (.aload_n 0, 1) := by decide +kernel
theorem dX10_init_75 : decode cX10_init 75 = .ok (.sipush 144, 3) := by decide +kernel
theorem dX10_init_78 : decode cX10_init 78 = .ok (.newarray .int, 2) := by decide +kernel
theorem dX10_init_80 : decode cX10_init 80 = .ok (.putfield 38, 3) := by decide +kernel
theorem dX10_init_83 : decode cX10_init 83 = .ok (.aload_n 0, 1) := by decide +kernel
theorem dX10_init_84 : decode cX10_init 84 = .ok (.bipush 40, 2) := by decide +kernel
theorem dX10_init_86 : decode cX10_init 86 = .ok (.newarray .int, 2) := by decide +kernel
theorem dX10_init_88 : decode cX10_init 88 = .ok (.putfield 41, 3) := by decide +kernel
theorem dX10_init_91 : decode cX10_init 91 = .ok (.aload_n 0, 1) := by decide +kernel
theorem dX10_init_92 : decode cX10_init 92 = .ok (.bipush 49, 2) := by decide +kernel
theorem dX10_init_94 : decode cX10_init 94 = .ok (.newarray .char, 2) := by decide +kernel
theorem dX10_init_96 : decode cX10_init 96 = .ok (.dup, 1) := by decide +kernel
theorem dX10_init_97 : decode cX10_init 97 = .ok (.iconst 0, 1) := by decide +kernel
theorem dX10_init_98 : decode cX10_init 98 = .ok (.bipush 104, 2) := by decide +kernel
theorem dX10_init_100 : decode cX10_init 100 = .ok (.castore, 1) := by decide +kernel
theorem dX10_init_101 : decode cX10_init 101 = .ok (.dup, 1) := by decide +kernel
theorem dX10_init_102 : decode cX10_init 102 = .ok (.iconst 1, 1) := by decide +kernel
theorem dX10_init_103 : decode cX10_init 103 = .ok (.bipush 97, 2) := by decide +kernel
theorem dX10_init_105 : decode cX10_init 105 = .ok (.castore, 1) := by decide +kernel
theorem dX10_init_106 : decode cX10_init 106 = .ok (.dup, 1) := by decide +kernel
theorem dX10_init_107 : decode cX10_init 107 = .ok (.iconst 2, 1) := by decide +kernel
theorem dX10_init_108 : decode cX10_init 108 = .ok (.bipush 109, 2) := by decide +kernel
theorem dX10_init_110 : decode cX10_init 110 = .ok (.castore, 1) := by decide +kernel
theorem dX10_init_111 : decode cX10_init 111 = .ok (.dup, 1) := by decide +kernel
theorem dX10_init_112 : decode cX10_init 112 = .ok (.iconst 3, 1) := by decide +kernel
theorem dX10_init_113 : decode cX10_init 113 = .ok (.bipush 109, 2) := by decide +kernel
theorem dX10_init_115 : decode cX10_init 115 = .ok (.castore, 1) := by decide +kernel
theorem dX10_init_116 : decode cX10_init 116 = .ok (.dup, 1) := by decide +kernel
theorem dX10_init_117 : decode cX10_init 117 = .ok (.iconst 4, 1) := by decide +kernel
theorem dX10_init_118 : decode cX10_init 118 = .ok (.bipush 101, 2) := by decide +kernel
theorem dX10_init_120 : decode cX10_init 120 = .ok (.castore, 1) := by decide +kernel
theorem dX10_init_121 : decode cX10_init 121 = .ok (.dup, 1) := by decide +kernel
theorem dX10_init_122 : decode cX10_init 122 = .ok (.iconst 5, 1) := by decide +kernel
theorem dX10_init_123 : decode cX10_init 123 = .ok (.bipush 114, 2) := by decide +kernel
theorem dX10_init_125 : decode cX10_init 125 = .ok (.castore, 1) := by decide +kernel
theorem dX10_init_126 : decode cX10_init 126 = .ok (.dup, 1) := by decide +kernel
theorem dX10_init_127 : decode cX10_init 127 = .ok (.bipush 6, 2) := by decide +kernel
theorem dX10_init_129 : decode cX10_init 129 = .ok (.bipush 32, 2) := by decide +kernel
theorem dX10_init_131 : decode cX10_init 131 = .ok (.castore, 1) := by decide +kernel
theorem dX10_init_132 : decode cX10_init 132 = .ok (.dup, 1) := by decide +kernel
theorem dX10_init_133 : decode cX10_init 133 = .ok (.bipush 7, 2) := by decide +kernel
theorem dX10_init_135 : decode cX10_init 135 = .ok (.bipush 109, 2) := by decide +kernel
theorem dX10_init_137 : decode cX10_init 137 = .ok (.castore, 1) := by decide +kernel
theorem dX10_init_138 : decode cX10_init 138 = .ok (.dup, 1) := by decide +kernel
theorem dX10_init_139 : decode cX10_init 139 = .ok (.bipush 8, 2) := by decide +kernel
theorem dX10_init_141 : decode cX10_init 141 = .ok (.bipush 111, 2) := by decide +kernel
theorem dX10_init_143 : decode cX10_init 143 = .ok (.castore, 1) := by decide +kernel
theorem dX10_init_144 : decode cX10_init 144 = .ok (.dup, 1) := by decide +kernel
theorem dX10_init_145 : decode cX10_init 145 = .ok (.bipush 9, 2) := by decide +kernel
theorem dX10_init_147 : decode cX10_init 147 = .ok (.bipush 118, 2) := by decide +kernel
theorem dX10_init_149 : decode cX10_init 149 = .ok (.castore, 1) := by decide +kernel
theorem dX10_init_150 : decode cX10_init 150 = .ok (.dup, 1) := by decide +kernel
theorem dX10_init_151 : decode cX10_init 151 = .ok (.bipush 10, 2) := by decide +kernel
theorem dX10_init_153 : decode cX10_init 153 = .ok (.bipush 101, 2) := by decide +kernel
theorem dX10_init_155 : decode cX10_init 155 = .ok (.castore, 1) := by decide +kernel
theorem dX10_init_156 : decode cX10_init 156 = .ok (.dup, 1) := by decide +kernel
theorem dX10_init_157 : decode cX10_init 157 = .ok (.bipush 11, 2) := by decide +kernel
theorem dX10_init_159 : decode cX10_init 159 = .ok (.bipush 32, 2) := by decide +kernel
theorem dX10_init_161 : decode cX10_init 161 = .ok (.castore, 1) := by decide +kernel
theorem dX10_init_162 : decode cX10_init 162 = .ok (.dup, 1) := by decide +kernel
theorem dX10_init_163 : decode cX10_init 163 = .ok (.bipush 12, 2) := by decide +kernel
theorem dX10_init_165 : decode cX10_init 165 = .ok (.bipush 115, 2) := by decide +kernel
theorem dX10_init_167 : decode cX10_init 167 = .ok (.castore, 1) := by decide +kernel
theorem dX10_init_168 : decode cX10_init 168 = .ok (.dup, 1) := by decide +kernel
theorem dX10_init_169 : decode cX10_init 169 = .ok (.bipush 13, 2) := by decide +kernel
theorem dX10_init_171 : decode cX10_init 171 = .ok (.bipush 119, 2) := by decide +kernel
theorem dX10_init_173 : decode cX10_init 173 = .ok (.castore, 1) := by decide +kernel
theorem dX10_init_174 : decode cX10_init 174 = .ok (.dup, 1) := by decide +kernel
theorem dX10_init_175 : decode cX10_init 175 = .ok (.bipush 14, 2) := by decide +kernel
theorem dX10_init_177 : decode cX10_init 177 = .ok (.bipush 97, 2) := by decide +kernel
theorem dX10_init_179 : decode cX10_init 179 = .ok (.castore, 1) := by decide +kernel
theorem dX10_init_180 : decode cX10_init 180 = .ok (.dup, 1) := by decide +kernel
theorem dX10_init_181 : decode cX10_init 181 = .ok (.bipush 15, 2) := by decide +kernel
theorem dX10_init_183 : decode cX10_init 183 = .ok (.bipush 112, 2) := by decide +kernel
theorem dX10_init_185 : decode cX10_init 185 = .ok (.castore, 1) := by decide +kernel
theorem dX10_init_186 : decode cX10_init 186 = .ok (.dup, 1) := by decide +kernel
theorem dX10_init_187 : decode cX10_init 187 = .ok (.bipush 16, 2) := by decide +kernel
theorem dX10_init_189 : decode cX10_init 189 = .ok (.bipush 32, 2) := by decide +kernel
theorem dX10_init_191 : decode cX10_init 191 = .ok (.castore, 1) := by decide +kernel
theorem dX10_init_192 : decode cX10_init 192 = .ok (.dup, 1) := by decide +kernel
theorem dX10_init_193 : decode cX10_init 193 = .ok (.bipush 17, 2) := by decide +kernel
theorem dX10_init_195 : decode cX10_init 195 = .ok (.bipush 97, 2) := by decide +kernel
theorem dX10_init_197 : decode cX10_init 197 = .ok (.castore, 1) := by decide +kernel
theorem dX10_init_198 : decode cX10_init 198 = .ok (.dup, 1) := by decide +kernel
theorem dX10_init_199 : decode cX10_init 199 = .ok (.bipush 18, 2) := by decide +kernel
theorem dX10_init_201 : decode cX10_init 201 = .ok (.bipush 115, 2) := by decide +kernel
theorem dX10_init_203 : decode cX10_init 203 = .ok (.castore, 1) := by decide +kernel
theorem dX10_init_204 : decode cX10_init 204 = .ok (.dup, 1) := by decide +kernel
theorem dX10_init_205 : decode cX10_init 205 = .ok (.bipush 19, 2) := by decide +kernel
theorem dX10_init_207 : decode cX10_init 207 = .ok (.bipush 107, 2) := by decide +kernel
theorem dX10_init_209 : decode cX10_init 209 = .ok (.castore, 1) := by decide +kernel
theorem dX10_init_210 : decode cX10_init 210 = .ok (.dup, 1) := by decide +kernel
theorem dX10_init_211 : decode cX10_init 211 = .ok (.bipush 20, 2) := by decide +kernel
theorem dX10_init_213 : decode cX10_init 213 = .ok (.bipush 32, 2) := by decide +kernel
theorem dX10_init_215 : decode cX10_init 215 = .ok (.castore, 1) := by decide +kernel
theorem dX10_init_216 : decode cX10_init 216 = .ok (.dup, 1) := by decide +kernel
theorem dX10_init_217 : decode cX10_init 217 = .ok (.bipush 21, 2) := by decide +kernel
theorem dX10_init_219 : decode cX10_init 219 = .ok (.bipush 100, 2) := by decide +kernel
theorem dX10_init_221 : decode cX10_init 221 = .ok (.castore, 1) := by decide +kernel
theorem dX10_init_222 : decode cX10_init 222 = .ok (.dup, 1) := by decide +kernel
theorem dX10_init_223 : decode cX10_init 223 = .ok (.bipush 22, 2) := by decide +kernel
theorem dX10_init_225 : decode cX10_init 225 = .ok (.bipush 114, 2) := by decide +kernel
theorem dX10_init_227 : decode cX10_init 227 = .ok (.castore, 1) := by decide +kernel
theorem dX10_init_228 : decode cX10_init 228 = .ok (.dup, 1) := by decide +kernel
theorem dX10_init_229 : decode cX10_init 229 = .ok (.bipush 23, 2) := by decide +kernel
theorem dX10_init_231 : decode cX10_init 231 = .ok (.bipush 111, 2) := by decide +kernel
theorem dX10_init_233 : decode cX10_init 233 = .ok (.castore, 1) := by decide +kernel
theorem dX10_init_234 : decode cX10_init 234 = .ok (.dup, 1) := by decide +kernel
theorem dX10_init_235 : decode cX10_init 235 = .ok (.bipush 24, 2) := by decide +kernel
theorem dX10_init_237 : decode cX10_init 237 = .ok (.bipush 112, 2) := by decide +kernel
theorem dX10_init_239 : decode cX10_init 239 = .ok (.castore, 1) := by decide +kernel
theorem dX10_init_240 : decode cX10_init 240 = .ok (.dup, 1) := by decide +kernel
theorem dX10_init_241 : decode cX10_init 241 = .ok (.bipush 25, 2) := by decide +kernel
theorem dX10_init_243 : decode cX10_init 243 = .ok (.bipush 32, 2) := by decide +kernel
theorem dX10_init_245 : decode cX10_init 245 = .ok (.castore, 1) := by decide +kernel
theorem dX10_init_246 : decode cX10_init 246 = .ok (.dup, 1) := by decide +kernel
theorem dX10_init_247 : decode cX10_init 247 = .ok (.bipush 26, 2) := by decide +kernel
theorem dX10_init_249 : decode cX10_init 249 = .ok (.bipush 103, 2) := by decide +kernel
theorem dX10_init_251 : decode cX10_init 251 = .ok (.castore, 1) := by decide +kernel
theorem dX10_init_252 : decode cX10_init 252 = .ok (.dup, 1) := by decide +kernel
theorem dX10_init_253 : decode cX10_init 253 = .ok (.bipush 27, 2) := by decide +kernel
theorem dX10_init_255 : decode cX10_init 255 = .ok (.bipush 114, 2) := by decide +kernel
theorem dX10_init_257 : decode cX10_init 257 = .ok (.castore, 1) := by decide +kernel
theorem dX10_init_258 : decode cX10_init 258 = .ok (.dup, 1) := by decide +kernel
theorem dX10_init_259 : decode cX10_init 259 = .ok (.bipush 28, 2) := by decide +kernel
theorem dX10_init_261 : decode cX10_init 261 = .ok (.bipush 97, 2) := by decide +kernel
theorem dX10_init_263 : decode cX10_init 263 = .ok (.castore, 1) := by decide +kernel
theorem dX10_init_264 : decode cX10_init 264 = .ok (.dup, 1) := by decide +kernel
theorem dX10_init_265 : decode cX10_init 265 = .ok (.bipush 29, 2) := by decide +kernel
theorem dX10_init_267 : decode cX10_init 267 = .ok (.bipush 110, 2) := by decide +kernel
theorem dX10_init_269 : decode cX10_init 269 = .ok (.castore, 1) := by decide +kernel
theorem dX10_init_270 : decode cX10_init 270 = .ok (.dup, 1) := by decide +kernel
theorem dX10_init_271 : decode cX10_init 271 = .ok (.bipush 30, 2) := by decide +kernel
theorem dX10_init_273 : decode cX10_init 273 = .ok (.bipush 116, 2) := by decide +kernel
theorem dX10_init_275 : decode cX10_init 275 = .ok (.castore, 1) := by decide +kernel
theorem dX10_init_276 : decode cX10_init 276 = .ok (.dup, 1) := by decide +kernel
theorem dX10_init_277 : decode cX10_init 277 = .ok (.bipush 31, 2) := by decide +kernel
theorem dX10_init_279 : decode cX10_init 279 = .ok (.bipush 32, 2) := by decide +kernel
theorem dX10_init_281 : decode cX10_init 281 = .ok (.castore, 1) := by decide +kernel
theorem dX10_init_282 : decode cX10_init 282 = .ok (.dup, 1) := by decide +kernel
theorem dX10_init_283 : decode cX10_init 283 = .ok (.bipush 32, 2) := by decide +kernel
theorem dX10_init_285 : decode cX10_init 285 = .ok (.bipush 109, 2) := by decide +kernel
theorem dX10_init_287 : decode cX10_init 287 = .ok (.castore, 1) := by decide +kernel
theorem dX10_init_288 : decode cX10_init 288 = .ok (.dup, 1) := by decide +kernel
theorem dX10_init_289 : decode cX10_init 289 = .ok (.bipush 33, 2) := by decide +kernel
theorem dX10_init_291 : decode cX10_init 291 = .ok (.bipush 111, 2) := by decide +kernel
theorem dX10_init_293 : decode cX10_init 293 = .ok (.castore, 1) := by decide +kernel
theorem dX10_init_294 : decode cX10_init 294 = .ok (.dup, 1) := by decide +kernel
theorem dX10_init_295 : decode cX10_init 295 = .ok (.bipush 34, 2) := by decide +kernel
theorem dX10_init_297 : decode cX10_init 297 = .ok (.bipush 115, 2) := by decide +kernel
theorem dX10_init_299 : decode cX10_init 299 = .ok (.castore, 1) := by decide +kernel
theorem dX10_init_300 : decode cX10_init 300 = .ok (.dup, 1) := by decide +kernel
theorem dX10_init_301 : decode cX10_init 301 = .ok (.bipush 35, 2) := by decide +kernel
theorem dX10_init_303 : decode cX10_init 303 = .ok (.bipush 116, 2) := by decide +kernel
theorem dX10_init_305 : decode cX10_init 305 = .ok (.castore, 1) := by decide +kernel
theorem dX10_init_306 : decode cX10_init 306 = .ok (.dup, 1) := by decide +kernel
theorem dX10_init_307 : decode cX10_init 307 = .ok (.bipush 36, 2) := by decide +kernel
theorem dX10_init_309 : decode cX10_init 309 = .ok (.bipush 98, 2) := by decide +kernel
theorem dX10_init_311 : decode cX10_init 311 = .ok (.castore, 1) := by decide +kernel
theorem dX10_init_312 : decode cX10_init 312 = .ok (.dup, 1) := by decide +kernel
theorem dX10_init_313 : decode cX10_init 313 = .ok (.bipush 37, 2) := by decide +kernel
theorem dX10_init_315 : decode cX10_init 315 = .ok (.bipush 97, 2) := by decide +kernel
theorem dX10_init_317 : decode cX10_init 317 = .ok (.castore, 1) := by decide +kernel
theorem dX10_init_318 : decode cX10_init 318 = .ok (.dup, 1) := by decide +kernel
theorem dX10_init_319 : decode cX10_init 319 = .ok (.bipush 38, 2) := by decide +kernel
theorem dX10_init_321 : decode cX10_init 321 = .ok (.bipush 99, 2) := by decide +kernel
theorem dX10_init_323 : decode cX10_init 323 = .ok (.castore, 1) := by decide +kernel
theorem dX10_init_324 : decode cX10_init 324 = .ok (.dup, 1) := by decide +kernel
theorem dX10_init_325 : decode cX10_init 325 = .ok (.bipush 39, 2) := by decide +kernel
theorem dX10_init_327 : decode cX10_init 327 = .ok (.bipush 107, 2) := by decide +kernel
theorem dX10_init_329 : decode cX10_init 329 = .ok (.castore, 1) := by decide +kernel
theorem dX10_init_330 : decode cX10_init 330 = .ok (.dup, 1) := by decide +kernel
theorem dX10_init_331 : decode cX10_init 331 = .ok (.bipush 40, 2) := by decide +kernel
theorem dX10_init_333 : decode cX10_init 333 = .ok (.bipush 32, 2) := by decide +kernel
theorem dX10_init_335 : decode cX10_init 335 = .ok (.castore, 1) := by decide +kernel
theorem dX10_init_336 : decode cX10_init 336 = .ok (.dup, 1) := by decide +kernel
theorem dX10_init_337 : decode cX10_init 337 = .ok (.bipush 41, 2) := by decide +kernel
theorem dX10_init_339 : decode cX10_init 339 = .ok (.bipush 102, 2) := by decide +kernel
theorem dX10_init_341 : decode cX10_init 341 = .ok (.castore, 1) := by decide +kernel
theorem dX10_init_342 : decode cX10_init 342 = .ok (.dup, 1) := by decide +kernel
theorem dX10_init_343 : decode cX10_init 343 = .ok (.bipush 42, 2) := by decide +kernel
theorem dX10_init_345 : decode cX10_init 345 = .ok (.bipush 97, 2) := by decide +kernel
theorem dX10_init_347 : decode cX10_init 347 = .ok (.castore, 1) := by decide +kernel
theorem dX10_init_348 : decode cX10_init 348 = .ok (.dup, 1) := by decide +kernel
theorem dX10_init_349 : decode cX10_init 349 = .ok (.bipush 43, 2) := by decide +kernel
theorem dX10_init_351 : decode cX10_init 351 = .ok (.bipush 99, 2) := by decide +kernel
theorem dX10_init_353 : decode cX10_init 353 = .ok (.castore, 1) := by decide +kernel
theorem dX10_init_354 : decode cX10_init 354 = .ok (.dup, 1) := by decide +kernel
theorem dX10_init_355 : decode cX10_init 355 = .ok (.bipush 44, 2) := by decide +kernel
theorem dX10_init_357 : decode cX10_init 357 = .ok (.bipush 101, 2) := by decide +kernel
theorem dX10_init_359 : decode cX10_init 359 = .ok (.castore, 1) := by decide +kernel
theorem dX10_init_360 : decode cX10_init 360 = .ok (.dup, 1) := by decide +kernel
theorem dX10_init_361 : decode cX10_init 361 = .ok (.bipush 45, 2) := by decide +kernel
theorem dX10_init_363 : decode cX10_init 363 = .ok (.bipush 32, 2) := by decide +kernel
theorem dX10_init_365 : decode cX10_init 365 = .ok (.castore, 1) := by decide +kernel
theorem dX10_init_366 : decode cX10_init 366 = .ok (.dup, 1) := by decide +kernel
theorem dX10_init_367 : decode cX10_init 367 = .ok (.bipush 46, 2) := by decide +kernel
theorem dX10_init_369 : decode cX10_init 369 = .ok (.bipush 100, 2) := by decide +kernel
theorem dX10_init_371 : decode cX10_init 371 = .ok (.castore, 1) := by decide +kernel
theorem dX10_init_372 : decode cX10_init 372 = .ok (.dup, 1) := by decide +kernel
theorem dX10_init_373 : decode cX10_init 373 = .ok (.bipush 47, 2) := by decide +kernel
theorem dX10_init_375 : decode cX10_init 375 = .ok (.bipush 97, 2) := by decide +kernel
theorem dX10_init_377 : decode cX10_init 377 = .ok (.castore, 1) := by decide +kernel
theorem dX10_init_378 : decode cX10_init 378 = .ok (.dup, 1) := by decide +kernel
theorem dX10_init_379 : decode cX10_init 379 = .ok (.bipush 48, 2) := by decide +kernel
theorem dX10_init_381 : decode cX10_init 381 = .ok (.bipush 121, 2) := by decide +kernel
theorem dX10_init_383 : decode cX10_init 383 = .ok (.castore, 1) := by decide +kernel
theorem dX10_init_384 : decode cX10_init 384 = .ok (.putfield 44, 3) := by decide +kernel
theorem dX10_init_387 : decode cX10_init 387 = .ok (.aload_n 0, 1) := by decide +kernel
theorem dX10_init_388 : decode cX10_init 388 = .ok (.bipush 11, 2) := by decide +kernel
theorem dX10_init_390 : decode cX10_init 390 = .ok (.newarray .int, 2) := by decide +kernel
theorem dX10_init_392 : decode cX10_init 392 = .ok (.dup, 1) := by decide +kernel
theorem dX10_init_393 : decode cX10_init 393 = .ok (.iconst 0, 1) := by decide +kernel
theorem dX10_init_394 : decode cX10_init 394 = .ok (.iconst 0, 1) := by decide +kernel
theorem dX10_init_395 : decode cX10_init 395 = .ok (.iastore, 1) := by decide +kernel
theorem dX10_init_396 : decode cX10_init 396 = .ok (.dup, 1) := by decide +kernel
theorem dX10_init_397 : decode cX10_init 397 = .ok (.iconst 1, 1) := by decide +kernel
theorem dX10_init_398 : decode cX10_init 398 = .ok (.bipush 7, 2) := by decide +kernel
theorem dX10_init_400 : decode cX10_init 400 = .ok (.iastore, 1) := by decide +kernel
theorem dX10_init_401 : decode cX10_init 401 = .ok (.dup, 1) := by decide +kernel
theorem dX10_init_402 : decode cX10_init 402 = .ok (.iconst 2, 1) := by decide +kernel
theorem dX10_init_403 : decode cX10_init 403 = .ok (.bipush 12, 2) := by decide +kernel
theorem dX10_init_405 : decode cX10_init 405 = .ok (.iastore, 1) := by decide +kernel
theorem dX10_init_406 : decode cX10_init 406 = .ok (.dup, 1) := by decide +kernel
theorem dX10_init_407 : decode cX10_init 407 = .ok (.iconst 3, 1) := by decide +kernel
theorem dX10_init_408 : decode cX10_init 408 = .ok (.bipush 17, 2) := by decide +kernel
theorem dX10_init_410 : decode cX10_init 410 = .ok (.iastore, 1) := by decide +kernel
theorem dX10_init_411 : decode cX10_init 411 = .ok (.dup, 1) := by decide +kernel
theorem dX10_init_412 : decode cX10_init 412 = .ok (.iconst 4, 1) := by decide +kernel
theorem dX10_init_413 : decode cX10_init 413 = .ok (.bipush 21, 2) := by decide +kernel
theorem dX10_init_415 : decode cX10_init 415 = .ok (.iastore, 1) := by decide +kernel
theorem dX10_init_416 : decode cX10_init 416 = .ok (.dup, 1) := by decide +kernel
theorem dX10_init_417 : decode cX10_init 417 = .ok (.iconst 5, 1) := by decide +kernel
theorem dX10_init_418 : decode cX10_init 418 = .ok (.bipush 26, 2) := by decide +kernel
theorem dX10_init_420 : decode cX10_init 420 = .ok (.iastore, 1) := by decide +kernel
theorem dX10_init_421 : decode cX10_init 421 = .ok (.dup, 1) := by decide +kernel
theorem dX10_init_422 : decode cX10_init 422 = .ok (.bipush 6, 2) := by decide +kernel
theorem dX10_init_424 : decode cX10_init 424 = .ok (.bipush 32, 2) := by decide +kernel
theorem dX10_init_426 : decode cX10_init 426 = .ok (.iastore, 1) := by decide +kernel
theorem dX10_init_427 : decode cX10_init 427 = .ok (.dup, 1) := by decide +kernel
theorem dX10_init_428 : decode cX10_init 428 = .ok (.bipush 7, 2) := by decide +kernel
theorem dX10_init_430 : decode cX10_init 430 = .ok (.bipush 36, 2) := by decide +kernel
theorem dX10_init_432 : decode cX10_init 432 = .ok (.iastore, 1) := by decide +kernel
theorem dX10_init_433 : decode cX10_init 433 = .ok (.dup, 1) := by decide +kernel
theorem dX10_init_434 : decode cX10_init 434 = .ok (.bipush 8, 2) := by decide +kernel
theorem dX10_init_436 : decode cX10_init 436 = .ok (.bipush 41, 2) := by decide +kernel
theorem dX10_init_438 : decode cX10_init 438 = .ok (.iastore, 1) := by decide +kernel
theorem dX10_init_439 : decode cX10_init 439 = .ok (.dup, 1) := by decide +kernel
theorem dX10_init_440 : decode cX10_init 440 = .ok (.bipush 9, 2) := by decide +kernel
theorem dX10_init_442 : decode cX10_init 442 = .ok (.bipush 46, 2) := by decide +kernel
theorem dX10_init_444 : decode cX10_init 444 = .ok (.iastore, 1) := by decide +kernel
theorem dX10_init_445 : decode cX10_init 445 = .ok (.dup, 1) := by decide +kernel
theorem dX10_init_446 : decode cX10_init 446 = .ok (.bipush 10, 2) := by decide +kernel
theorem dX10_init_448 : decode cX10_init 448 = .ok (.bipush 49, 2) := by decide +kernel
theorem dX10_init_450 : decode cX10_init 450 = .ok (.iastore, 1) := by decide +kernel
theorem dX10_init_451 : decode cX10_init 451 = .ok (.putfield 48, 3) := by decide +kernel
theorem dX10_init_454 : decode cX10_init 454 = .ok (.aload_n 0, 1) := by decide +kernel
theorem dX10_init_455 : decode cX10_init 455 = .ok (.sipush 366, 3) := by decide +kernel
theorem dX10_init_458 : decode cX10_init 458 = .ok (.newarray .int, 2) := by decide +kernel
theorem dX10_init_460 : decode cX10_init 460 = .ok (.putfield 51, 3) := by decide +kernel
theorem dX10_init_463 : decode cX10_init 463 = .ok (.aload_n 0, 1) := by decide +kernel
theorem dX10_init_464 : decode cX10_init 464 = .ok (.getfield 9, 3) := by decide +kernel
theorem dX10_init_467 : decode cX10_init 467 = .ok (.iconst 2, 1) := by decide +kernel
theorem dX10_init_468 : decode cX10_init 468 = .ok (.bipush 20, 2) := by decide +kernel
theorem dX10_init_470 : decode cX10_init 470 = .ok (.iastore, 1) := by decide +kernel
theorem dX10_init_471 : decode cX10_init 471 = .ok (.return_, 1) := by decide +kernel
theorem dX10_thrown_0 : decode cX10_thrown 0 = .ok (.aload_n 0, 1) := by decide +kernel
theorem dX10_thrown_1 : decode cX10_thrown 1 = .ok (.getfield 54, 3) := by decide +kernel
theorem dX10_thrown_4 : decode cX10_thrown 4 = .ok (.ireturn, 1) := by decide +kernel
theorem dX10_throwing_0 : decode cX10_throwing 0 = .ok (.aload_n 0, 1) := by decide +kernel
theorem dX10_throwing_1 : decode cX10_throwing 1 = .ok (.iload_n 1, 1) := by decide +kernel
theorem dX10_throwing_2 : decode cX10_throwing 2 = .ok (.putfield 54, 3) := by decide +kernel
theorem dX10_throwing_5 : decode cX10_throwing 5 = .ok (.iconst (-1), 1) := by decide +kernel
theorem dX10_throwing_6 : decode cX10_throwing 6 = .ok (.ireturn, 1) := by decide +kernel
theorem dX10_in_0 : decode cX10_in 0 = .ok (.lload_n 0, 1) := by decide +kernel
theorem dX10_in_1 : decode cX10_in 1 = .ok (.lload_n 2, 1) := by decide +kernel
theorem dX10_in_2 : decode cX10_in 2 = .ok (.lcmp, 1) := by decide +kernel
theorem dX10_in_3 : decode cX10_in 3 = .ok (.ifCond .lt 14, 3) := by decide +kernel
theorem dX10_in_6 : decode cX10_in 6 = .ok (.lload_n 0, 1) := by decide +kernel
theorem dX10_in_7 : decode cX10_in 7 = .ok (.lload 4, 2) := by decide +kernel
theorem dX10_in_9 : decode cX10_in 9 = .ok (.lcmp, 1) := by decide +kernel
theorem dX10_in_10 : decode cX10_in 10 = .ok (.ifCond .gt 7, 3) := by decide +kernel
theorem dX10_in_13 : decode cX10_in 13 = .ok (.iconst 1, 1) := by decide +kernel
theorem dX10_in_14 : decode cX10_in 14 = .ok (.goto 4, 3) := by decide +kernel
theorem dX10_in_17 : decode cX10_in 17 = .ok (.iconst 0, 1) := by decide +kernel
theorem dX10_in_18 : decode cX10_in 18 = .ok (.ireturn, 1) := by decide +kernel
theorem dX10_starts_0 : decode cX10_starts 0 = .ok (.aload_n 0, 1) := by decide +kernel
theorem dX10_starts_1 : decode cX10_starts 1 = .ok (.iconst 0, 1) := by decide +kernel
theorem dX10_starts_2 : decode cX10_starts 2 = .ok (.putfield 54, 3) := by decide +kernel
theorem dX10_starts_5 : decode cX10_starts 5 = .ok (.iconst 0, 1) := by decide +kernel
theorem dX10_starts_6 : decode cX10_starts 6 = .ok (.istore_n 1, 1) := by decide +kernel
theorem dX10_starts_7 : decode cX10_starts 7 = .ok (.iload_n 1, 1) := by decide +kernel
theorem dX10_starts_8 : decode cX10_starts 8 = .ok (.sipush 2048, 3) := by decide +kernel
theorem dX10_starts_11 : decode cX10_starts 11 = .ok (.if_icmp .ge 21, 3) := by decide +kernel
theorem dX10_starts_14 : decode cX10_starts 14 = .ok (.aload_n 0, 1) := by decide +kernel
theorem dX10_starts_15 : decode cX10_starts 15 = .ok (.getfield 13, 3) := by decide +kernel
theorem dX10_starts_18 : decode cX10_starts 18 = .ok (.iload_n 1, 1) := by decide +kernel
theorem dX10_starts_19 : decode cX10_starts 19 = .ok (.aload_n 0, 1) := by decide +kernel
theorem dX10_starts_20 : decode cX10_starts 20 = .ok (.getfield 9, 3) := by decide +kernel
theorem dX10_starts_23 : decode cX10_starts 23 = .ok (.iload_n 1, 1) := by decide +kernel
theorem dX10_starts_24 : decode cX10_starts 24 = .ok (.iaload, 1) := by decide +kernel
theorem dX10_starts_25 : decode cX10_starts 25 = .ok (.iastore, 1) := by decide +kernel
theorem dX10_starts_26 : decode cX10_starts 26 = .ok (.iinc 1 1, 3) := by decide +kernel
theorem dX10_starts_29 : decode cX10_starts 29 = .ok (.goto (-22), 3) := by decide +kernel
theorem dX10_starts_32 : decode cX10_starts 32 = .ok (.return_, 1) := by decide +kernel
theorem dX10_changed_0 : decode cX10_changed 0 = .ok (.aload_n 0, 1) := by decide +kernel
theorem dX10_changed_1 : decode cX10_changed 1 = .ok (.getfield 54, 3) := by decide +kernel
theorem dX10_changed_4 : decode cX10_changed 4 = .ok (.ifCond .le 5, 3) := by decide +kernel
theorem dX10_changed_7 : decode cX10_changed 7 = .ok (.iload_n 1, 1) := by decide +kernel
theorem dX10_changed_8 : decode cX10_changed 8 = .ok (.ireturn, 1) := by decide +kernel
theorem dX10_changed_9 : decode cX10_changed 9 = .ok (.aload_n 0, 1) := by decide +kernel
theorem dX10_changed_10 : decode cX10_changed 10 = .ok (.getfield 57, 3) := by decide +kernel
theorem dX10_changed_13 : decode cX10_changed 13 = .ok (.bipush 8, 2) := by decide +kernel
theorem dX10_changed_15 : decode cX10_changed 15 = .ok (.if_icmp .ne 44, 3) := by decide +kernel
theorem dX10_changed_18 : decode cX10_changed 18 = .ok (.iconst 0, 1) := by decide +kernel
theorem dX10_changed_19 : decode cX10_changed 19 = .ok (.istore_n 2, 1) := by decide +kernel
theorem dX10_changed_20 : decode cX10_changed 20 = .ok (.iload_n 2, 1) := by decide +kernel
theorem dX10_changed_21 : decode cX10_changed 21 = .ok (.sipush 14336, 3) := by decide +kernel
theorem dX10_changed_24 : decode cX10_changed 24 = .ok (.if_icmp .ge 25, 3) := by decide +kernel
theorem dX10_changed_27 : decode cX10_changed 27 = .ok (.aload_n 0, 1) := by decide +kernel
theorem dX10_changed_28 : decode cX10_changed 28 = .ok (.getfield 19, 3) := by decide +kernel
theorem dX10_changed_31 : decode cX10_changed 31 = .ok (.iload_n 2, 1) := by decide +kernel
theorem dX10_changed_32 : decode cX10_changed 32 = .ok (.aload_n 0, 1) := by decide +kernel
theorem dX10_changed_33 : decode cX10_changed 33 = .ok (.getfield 19, 3) := by decide +kernel
theorem dX10_changed_36 : decode cX10_changed 36 = .ok (.iload_n 2, 1) := by decide +kernel
theorem dX10_changed_37 : decode cX10_changed 37 = .ok (.sipush 2048, 3) := by decide +kernel
theorem dX10_changed_40 : decode cX10_changed 40 = .ok (.iadd, 1) := by decide +kernel
theorem dX10_changed_41 : decode cX10_changed 41 = .ok (.iaload, 1) := by decide +kernel
theorem dX10_changed_42 : decode cX10_changed 42 = .ok (.iastore, 1) := by decide +kernel
theorem dX10_changed_43 : decode cX10_changed 43 = .ok (.iinc 2 1, 3) := by decide +kernel
theorem dX10_changed_46 : decode cX10_changed 46 = .ok (.goto (-26), 3) := by decide +kernel
theorem dX10_changed_49 : decode cX10_changed 49 = .ok (.aload_n 0, 1) := by decide +kernel
theorem dX10_changed_50 : decode cX10_changed 50 = .ok (.dup, 1) := by decide +kernel
theorem dX10_changed_51 : decode cX10_changed 51 = .ok (.getfield 57, 3) := by decide +kernel
theorem dX10_changed_54 : decode cX10_changed 54 = .ok (.iconst 1, 1) := by decide +kernel
theorem dX10_changed_55 : decode cX10_changed 55 = .ok (.isub, 1) := by decide +kernel
theorem dX10_changed_56 : decode cX10_changed 56 = .ok (.putfield 57, 3) := by decide +kernel
theorem dX10_changed_59 : decode cX10_changed 59 = .ok (.iconst 0, 1) := by decide +kernel
theorem dX10_changed_60 : decode cX10_changed 60 = .ok (.istore_n 2, 1) := by decide +kernel
theorem dX10_changed_61 : decode cX10_changed 61 = .ok (.iload_n 2, 1) := by decide +kernel
theorem dX10_changed_62 : decode cX10_changed 62 = .ok (.sipush 2048, 3) := by decide +kernel
theorem dX10_changed_65 : decode cX10_changed 65 = .ok (.if_icmp .ge 30, 3) := by decide +kernel
theorem dX10_changed_68 : decode cX10_changed 68 = .ok (.aload_n 0, 1) := by decide +kernel
theorem dX10_changed_69 : decode cX10_changed 69 = .ok (.getfield 19, 3) := by decide +kernel
theorem dX10_changed_72 : decode cX10_changed 72 = .ok (.sipush 2048, 3) := by decide +kernel
theorem dX10_changed_75 : decode cX10_changed 75 = .ok (.aload_n 0, 1) := by decide +kernel
theorem dX10_changed_76 : decode cX10_changed 76 = .ok (.getfield 57, 3) := by decide +kernel
theorem dX10_changed_79 : decode cX10_changed 79 = .ok (.imul, 1) := by decide +kernel
theorem dX10_changed_80 : decode cX10_changed 80 = .ok (.iload_n 2, 1) := by decide +kernel
theorem dX10_changed_81 : decode cX10_changed 81 = .ok (.iadd, 1) := by decide +kernel
theorem dX10_changed_82 : decode cX10_changed 82 = .ok (.aload_n 0, 1) := by decide +kernel
theorem dX10_changed_83 : decode cX10_changed 83 = .ok (.getfield 13, 3) := by decide +kernel
theorem dX10_changed_86 : decode cX10_changed 86 = .ok (.iload_n 2, 1) := by decide +kernel
theorem dX10_changed_87 : decode cX10_changed 87 = .ok (.iaload, 1) := by decide +kernel
theorem dX10_changed_88 : decode cX10_changed 88 = .ok (.iastore, 1) := by decide +kernel
theorem dX10_changed_89 : decode cX10_changed 89 = .ok (.iinc 2 1, 3) := by decide +kernel
theorem dX10_changed_92 : decode cX10_changed 92 = .ok (.goto (-31), 3) := by decide +kernel
theorem dX10_changed_95 : decode cX10_changed 95 = .ok (.aload_n 0, 1) := by decide +kernel
theorem dX10_changed_96 : decode cX10_changed 96 = .ok (.dup, 1) := by decide +kernel
theorem dX10_changed_97 : decode cX10_changed 97 = .ok (.getfield 57, 3) := by decide +kernel
theorem dX10_changed_100 : decode cX10_changed 100 = .ok (.iconst 1, 1) := by decide +kernel
theorem dX10_changed_101 : decode cX10_changed 101 = .ok (.iadd, 1) := by decide +kernel
theorem dX10_changed_102 : decode cX10_changed 102 = .ok (.putfield 57, 3) := by decide +kernel
theorem dX10_changed_105 : decode cX10_changed 105 = .ok (.iload_n 1, 1) := by decide +kernel
theorem dX10_changed_106 : decode cX10_changed 106 = .ok (.ireturn, 1) := by decide +kernel
theorem dX10_hammerOf_0 : decode cX10_hammerOf 0 = .ok (.bipush 8, 2) := by decide +kernel
theorem dX10_hammerOf_2 : decode cX10_hammerOf 2 = .ok (.bipush 6, 2) := by decide +kernel
theorem dX10_hammerOf_4 : decode cX10_hammerOf 4 = .ok (.iload_n 0, 1) := by decide +kernel
theorem dX10_hammerOf_5 : decode cX10_hammerOf 5 = .ok (.imul, 1) := by decide +kernel
theorem dX10_hammerOf_6 : decode cX10_hammerOf 6 = .ok (.iadd, 1) := by decide +kernel
theorem dX10_hammerOf_7 : decode cX10_hammerOf 7 = .ok (.ireturn, 1) := by decide +kernel
theorem dX10_requestOf_0 : decode cX10_requestOf 0 = .ok (.bipush 80, 2) := by decide +kernel
theorem dX10_requestOf_2 : decode cX10_requestOf 2 = .ok (.bipush 6, 2) := by decide +kernel
theorem dX10_requestOf_4 : decode cX10_requestOf 4 = .ok (.iload_n 0, 1) := by decide +kernel
theorem dX10_requestOf_5 : decode cX10_requestOf 5 = .ok (.imul, 1) := by decide +kernel
theorem dX10_requestOf_6 : decode cX10_requestOf 6 = .ok (.iadd, 1) := by decide +kernel
theorem dX10_requestOf_7 : decode cX10_requestOf 7 = .ok (.ireturn, 1) := by decide +kernel
theorem dX10_bookingOf_0 : decode cX10_bookingOf 0 = .ok (.sipush 128, 3) := by decide +kernel
theorem dX10_bookingOf_3 : decode cX10_bookingOf 3 = .ok (.iconst 4, 1) := by decide +kernel
theorem dX10_bookingOf_4 : decode cX10_bookingOf 4 = .ok (.iload_n 0, 1) := by decide +kernel
theorem dX10_bookingOf_5 : decode cX10_bookingOf 5 = .ok (.imul, 1) := by decide +kernel
theorem dX10_bookingOf_6 : decode cX10_bookingOf 6 = .ok (.iadd, 1) := by decide +kernel
theorem dX10_bookingOf_7 : decode cX10_bookingOf 7 = .ok (.ireturn, 1) := by decide +kernel
theorem dX10_isHammer_0 : decode cX10_isHammer 0 = .ok (.iload_n 1, 1) := by decide +kernel
theorem dX10_isHammer_1 : decode cX10_isHammer 1 = .ok (.i2l, 1) := by decide +kernel
theorem dX10_isHammer_2 : decode cX10_isHammer 2 = .ok (.lconst 0, 1) := by decide +kernel
theorem dX10_isHammer_3 : decode cX10_isHammer 3 = .ok (.aload_n 0, 1) := by decide +kernel
theorem dX10_isHammer_4 : decode cX10_isHammer 4 = .ok (.getfield 9, 3) := by decide +kernel
theorem dX10_isHammer_7 : decode cX10_isHammer 7 = .ok (.iconst 0, 1) := by decide +kernel
theorem dX10_isHammer_8 : decode cX10_isHammer 8 = .ok (.iaload, 1) := by decide +kernel
theorem dX10_isHammer_9 : decode cX10_isHammer 9 = .ok (.iconst 1, 1) := by decide +kernel
theorem dX10_isHammer_10 : decode cX10_isHammer 10 = .ok (.isub, 1) := by decide +kernel
theorem dX10_isHammer_11 : decode cX10_isHammer 11 = .ok (.i2l, 1) := by decide +kernel
theorem dX10_isHammer_12 : decode cX10_isHammer 12 = .ok (.invokestatic 60, 3) := by decide +kernel
theorem dX10_isHammer_15 : decode cX10_isHammer 15 = .ok (.ireturn, 1) := by decide +kernel
theorem dX10_isRack_0 : decode cX10_isRack 0 = .ok (.iload_n 0, 1) := by decide +kernel
theorem dX10_isRack_1 : decode cX10_isRack 1 = .ok (.i2l, 1) := by decide +kernel
theorem dX10_isRack_2 : decode cX10_isRack 2 = .ok (.lconst 0, 1) := by decide +kernel
theorem dX10_isRack_3 : decode cX10_isRack 3 = .ok (.ldc2_w 64, 3) := by decide +kernel
theorem dX10_isRack_6 : decode cX10_isRack 6 = .ok (.invokestatic 60, 3) := by decide +kernel
theorem dX10_isRack_9 : decode cX10_isRack 9 = .ok (.ireturn, 1) := by decide +kernel
theorem dX10_isPlace_0 : decode cX10_isPlace 0 = .ok (.iload_n 0, 1) := by decide +kernel
theorem dX10_isPlace_1 : decode cX10_isPlace 1 = .ok (.i2l, 1) := by decide +kernel
theorem dX10_isPlace_2 : decode cX10_isPlace 2 = .ok (.lconst 0, 1) := by decide +kernel
theorem dX10_isPlace_3 : decode cX10_isPlace 3 = .ok (.ldc2_w 66, 3) := by decide +kernel
theorem dX10_isPlace_6 : decode cX10_isPlace 6 = .ok (.invokestatic 60, 3) := by decide +kernel
theorem dX10_isPlace_9 : decode cX10_isPlace 9 = .ok (.ireturn, 1) := by decide +kernel
theorem dX10_standing_0 : decode cX10_standing 0 = .ok (.iconst 0, 1) := by decide +kernel
theorem dX10_standing_1 : decode cX10_standing 1 = .ok (.istore_n 3, 1) := by decide +kernel
theorem dX10_standing_2 : decode cX10_standing 2 = .ok (.iload_n 3, 1) := by decide +kernel
theorem dX10_standing_3 : decode cX10_standing 3 = .ok (.aload_n 0, 1) := by decide +kernel
theorem dX10_standing_4 : decode cX10_standing 4 = .ok (.getfield 9, 3) := by decide +kernel
theorem dX10_standing_7 : decode cX10_standing 7 = .ok (.iconst 0, 1) := by decide +kernel
theorem dX10_standing_8 : decode cX10_standing 8 = .ok (.iaload, 1) := by decide +kernel
theorem dX10_standing_9 : decode cX10_standing 9 = .ok (.if_icmp .ge 41, 3) := by decide +kernel
theorem dX10_standing_12 : decode cX10_standing 12 = .ok (.aload_n 0, 1) := by decide +kernel
theorem dX10_standing_13 : decode cX10_standing 13 = .ok (.getfield 9, 3) := by decide +kernel
theorem dX10_standing_16 : decode cX10_standing 16 = .ok (.iload_n 3, 1) := by decide +kernel
theorem dX10_standing_17 : decode cX10_standing 17 = .ok (.invokestatic 68, 3) := by decide +kernel
theorem dX10_standing_20 : decode cX10_standing 20 = .ok (.iconst 2, 1) := by decide +kernel
theorem dX10_standing_21 : decode cX10_standing 21 = .ok (.iadd, 1) := by decide +kernel
theorem dX10_standing_22 : decode cX10_standing 22 = .ok (.iaload, 1) := by decide +kernel
theorem dX10_standing_23 : decode cX10_standing 23 = .ok (.iload_n 1, 1) := by decide +kernel
theorem dX10_standing_24 : decode cX10_standing 24 = .ok (.if_icmp .ne 20, 3) := by decide +kernel
theorem dX10_standing_27 : decode cX10_standing 27 = .ok (.aload_n 0, 1) := by decide +kernel
theorem dX10_standing_28 : decode cX10_standing 28 = .ok (.getfield 9, 3) := by decide +kernel
theorem dX10_standing_31 : decode cX10_standing 31 = .ok (.iload_n 3, 1) := by decide +kernel
theorem dX10_standing_32 : decode cX10_standing 32 = .ok (.invokestatic 68, 3) := by decide +kernel
theorem dX10_standing_35 : decode cX10_standing 35 = .ok (.iconst 3, 1) := by decide +kernel
theorem dX10_standing_36 : decode cX10_standing 36 = .ok (.iadd, 1) := by decide +kernel
theorem dX10_standing_37 : decode cX10_standing 37 = .ok (.iaload, 1) := by decide +kernel
theorem dX10_standing_38 : decode cX10_standing 38 = .ok (.iload_n 2, 1) := by decide +kernel
theorem dX10_standing_39 : decode cX10_standing 39 = .ok (.if_icmp .ne 5, 3) := by decide +kernel
theorem dX10_standing_42 : decode cX10_standing 42 = .ok (.iload_n 3, 1) := by decide +kernel
theorem dX10_standing_43 : decode cX10_standing 43 = .ok (.ireturn, 1) := by decide +kernel
theorem dX10_standing_44 : decode cX10_standing 44 = .ok (.iinc 3 1, 3) := by decide +kernel
theorem dX10_standing_47 : decode cX10_standing 47 = .ok (.goto (-45), 3) := by decide +kernel
theorem dX10_standing_50 : decode cX10_standing 50 = .ok (.iconst (-1), 1) := by decide +kernel
theorem dX10_standing_51 : decode cX10_standing 51 = .ok (.ireturn, 1) := by decide +kernel
theorem dX10_freePlace_0 : decode cX10_freePlace 0 = .ok (.iconst 0, 1) := by decide +kernel
theorem dX10_freePlace_1 : decode cX10_freePlace 1 = .ok (.istore_n 2, 1) := by decide +kernel
theorem dX10_freePlace_2 : decode cX10_freePlace 2 = .ok (.iload_n 2, 1) := by decide +kernel
theorem dX10_freePlace_3 : decode cX10_freePlace 3 = .ok (.bipush 6, 2) := by decide +kernel
theorem dX10_freePlace_5 : decode cX10_freePlace 5 = .ok (.if_icmp .ge 21, 3) := by decide +kernel
theorem dX10_freePlace_8 : decode cX10_freePlace 8 = .ok (.aload_n 0, 1) := by decide +kernel
theorem dX10_freePlace_9 : decode cX10_freePlace 9 = .ok (.iload_n 1, 1) := by decide +kernel
theorem dX10_freePlace_10 : decode cX10_freePlace 10 = .ok (.iload_n 2, 1) := by decide +kernel
theorem dX10_freePlace_11 : decode cX10_freePlace 11 = .ok (.invokevirtual 72, 3) := by decide +kernel
theorem dX10_freePlace_14 : decode cX10_freePlace 14 = .ok (.iconst (-1), 1) := by decide +kernel
theorem dX10_freePlace_15 : decode cX10_freePlace 15 = .ok (.if_icmp .ne 5, 3) := by decide +kernel
theorem dX10_freePlace_18 : decode cX10_freePlace 18 = .ok (.iload_n 2, 1) := by decide +kernel
theorem dX10_freePlace_19 : decode cX10_freePlace 19 = .ok (.ireturn, 1) := by decide +kernel
theorem dX10_freePlace_20 : decode cX10_freePlace 20 = .ok (.iinc 2 1, 3) := by decide +kernel
theorem dX10_freePlace_23 : decode cX10_freePlace 23 = .ok (.goto (-21), 3) := by decide +kernel
theorem dX10_freePlace_26 : decode cX10_freePlace 26 = .ok (.iconst (-1), 1) := by decide +kernel
theorem dX10_freePlace_27 : decode cX10_freePlace 27 = .ok (.ireturn, 1) := by decide +kernel
theorem dX10_many_0 : decode cX10_many 0 = .ok (.iconst 0, 1) := by decide +kernel
theorem dX10_many_1 : decode cX10_many 1 = .ok (.istore_n 2, 1) := by decide +kernel
theorem dX10_many_2 : decode cX10_many 2 = .ok (.iconst 0, 1) := by decide +kernel
theorem dX10_many_3 : decode cX10_many 3 = .ok (.istore_n 3, 1) := by decide +kernel
theorem dX10_many_4 : decode cX10_many 4 = .ok (.iload_n 3, 1) := by decide +kernel
theorem dX10_many_5 : decode cX10_many 5 = .ok (.aload_n 0, 1) := by decide +kernel
theorem dX10_many_6 : decode cX10_many 6 = .ok (.getfield 9, 3) := by decide +kernel
theorem dX10_many_9 : decode cX10_many 9 = .ok (.iconst 0, 1) := by decide +kernel
theorem dX10_many_10 : decode cX10_many 10 = .ok (.iaload, 1) := by decide +kernel
theorem dX10_many_11 : decode cX10_many 11 = .ok (.if_icmp .ge 32, 3) := by decide +kernel
theorem dX10_many_14 : decode cX10_many 14 = .ok (.iload_n 2, 1) := by decide +kernel
theorem dX10_many_15 : decode cX10_many 15 = .ok (.aload_n 0, 1) := by decide +kernel
theorem dX10_many_16 : decode cX10_many 16 = .ok (.getfield 9, 3) := by decide +kernel
theorem dX10_many_19 : decode cX10_many 19 = .ok (.iload_n 3, 1) := by decide +kernel
theorem dX10_many_20 : decode cX10_many 20 = .ok (.invokestatic 68, 3) := by decide +kernel
theorem dX10_many_23 : decode cX10_many 23 = .ok (.iconst 2, 1) := by decide +kernel
theorem dX10_many_24 : decode cX10_many 24 = .ok (.iadd, 1) := by decide +kernel
theorem dX10_many_25 : decode cX10_many 25 = .ok (.iaload, 1) := by decide +kernel
theorem dX10_many_26 : decode cX10_many 26 = .ok (.iload_n 1, 1) := by decide +kernel
theorem dX10_many_27 : decode cX10_many 27 = .ok (.if_icmp .ne 7, 3) := by decide +kernel
theorem dX10_many_30 : decode cX10_many 30 = .ok (.iconst 1, 1) := by decide +kernel
theorem dX10_many_31 : decode cX10_many 31 = .ok (.goto 4, 3) := by decide +kernel
theorem dX10_many_34 : decode cX10_many 34 = .ok (.iconst 0, 1) := by decide +kernel
theorem dX10_many_35 : decode cX10_many 35 = .ok (.iadd, 1) := by decide +kernel
theorem dX10_many_36 : decode cX10_many 36 = .ok (.istore_n 2, 1) := by decide +kernel
theorem dX10_many_37 : decode cX10_many 37 = .ok (.iinc 3 1, 3) := by decide +kernel
theorem dX10_many_40 : decode cX10_many 40 = .ok (.goto (-36), 3) := by decide +kernel
theorem dX10_many_43 : decode cX10_many 43 = .ok (.iload_n 2, 1) := by decide +kernel
theorem dX10_many_44 : decode cX10_many 44 = .ok (.ireturn, 1) := by decide +kernel
theorem dX10_due_0 : decode cX10_due 0 = .ok (.iload_n 1, 1) := by decide +kernel
theorem dX10_due_1 : decode cX10_due 1 = .ok (.invokestatic 68, 3) := by decide +kernel
theorem dX10_due_4 : decode cX10_due 4 = .ok (.istore_n 2, 1) := by decide +kernel
theorem dX10_due_5 : decode cX10_due 5 = .ok (.iconst 0, 1) := by decide +kernel
theorem dX10_due_6 : decode cX10_due 6 = .ok (.istore_n 3, 1) := by decide +kernel
theorem dX10_due_7 : decode cX10_due 7 = .ok (.iconst 0, 1) := by decide +kernel
theorem dX10_due_8 : decode cX10_due 8 = .ok (.istore 4, 2) := by decide +kernel
theorem dX10_due_10 : decode cX10_due 10 = .ok (.iload 4, 2) := by decide +kernel
theorem dX10_due_12 : decode cX10_due 12 = .ok (.aload_n 0, 1) := by decide +kernel
theorem dX10_due_13 : decode cX10_due 13 = .ok (.getfield 9, 3) := by decide +kernel
theorem dX10_due_16 : decode cX10_due 16 = .ok (.iconst 0, 1) := by decide +kernel
theorem dX10_due_17 : decode cX10_due 17 = .ok (.iaload, 1) := by decide +kernel
theorem dX10_due_18 : decode cX10_due 18 = .ok (.if_icmp .ge 75, 3) := by decide +kernel
theorem dX10_due_21 : decode cX10_due 21 = .ok (.aload_n 0, 1) := by decide +kernel
theorem dX10_due_22 : decode cX10_due 22 = .ok (.getfield 9, 3) := by decide +kernel
theorem dX10_due_25 : decode cX10_due 25 = .ok (.iload 4, 2) := by decide +kernel
theorem dX10_due_27 : decode cX10_due 27 = .ok (.invokestatic 68, 3) := by decide +kernel
theorem dX10_due_30 : decode cX10_due 30 = .ok (.iaload, 1) := by decide +kernel
theorem dX10_due_31 : decode cX10_due 31 = .ok (.aload_n 0, 1) := by decide +kernel
theorem dX10_due_32 : decode cX10_due 32 = .ok (.getfield 9, 3) := by decide +kernel
theorem dX10_due_35 : decode cX10_due 35 = .ok (.iload_n 2, 1) := by decide +kernel
theorem dX10_due_36 : decode cX10_due 36 = .ok (.iaload, 1) := by decide +kernel
theorem dX10_due_37 : decode cX10_due 37 = .ok (.isub, 1) := by decide +kernel
theorem dX10_due_38 : decode cX10_due 38 = .ok (.istore 5, 2) := by decide +kernel
theorem dX10_due_40 : decode cX10_due 40 = .ok (.iload_n 3, 1) := by decide +kernel
theorem dX10_due_41 : decode cX10_due 41 = .ok (.aload_n 0, 1) := by decide +kernel
theorem dX10_due_42 : decode cX10_due 42 = .ok (.getfield 9, 3) := by decide +kernel
theorem dX10_due_45 : decode cX10_due 45 = .ok (.iload 4, 2) := by decide +kernel
theorem dX10_due_47 : decode cX10_due 47 = .ok (.invokestatic 68, 3) := by decide +kernel
theorem dX10_due_50 : decode cX10_due 50 = .ok (.iconst 2, 1) := by decide +kernel
theorem dX10_due_51 : decode cX10_due 51 = .ok (.iadd, 1) := by decide +kernel
theorem dX10_due_52 : decode cX10_due 52 = .ok (.iaload, 1) := by decide +kernel
theorem dX10_due_53 : decode cX10_due 53 = .ok (.aload_n 0, 1) := by decide +kernel
theorem dX10_due_54 : decode cX10_due 54 = .ok (.getfield 9, 3) := by decide +kernel
theorem dX10_due_57 : decode cX10_due 57 = .ok (.iload_n 2, 1) := by decide +kernel
theorem dX10_due_58 : decode cX10_due 58 = .ok (.iconst 2, 1) := by decide +kernel
theorem dX10_due_59 : decode cX10_due 59 = .ok (.iadd, 1) := by decide +kernel
theorem dX10_due_60 : decode cX10_due 60 = .ok (.iaload, 1) := by decide +kernel
theorem dX10_due_61 : decode cX10_due 61 = .ok (.if_icmp .ne 23, 3) := by decide +kernel
theorem dX10_due_64 : decode cX10_due 64 = .ok (.iload 5, 2) := by decide +kernel
theorem dX10_due_66 : decode cX10_due 66 = .ok (.ifCond .lt 14, 3) := by decide +kernel
theorem dX10_due_69 : decode cX10_due 69 = .ok (.iload 5, 2) := by decide +kernel
theorem dX10_due_71 : decode cX10_due 71 = .ok (.ifCond .ne 13, 3) := by decide +kernel
theorem dX10_due_74 : decode cX10_due 74 = .ok (.iload 4, 2) := by decide +kernel
theorem dX10_due_76 : decode cX10_due 76 = .ok (.iload_n 1, 1) := by decide +kernel
theorem dX10_due_77 : decode cX10_due 77 = .ok (.if_icmp .ge 7, 3) := by decide +kernel
theorem dX10_due_80 : decode cX10_due 80 = .ok (.iconst 1, 1) := by decide +kernel
theorem dX10_due_81 : decode cX10_due 81 = .ok (.goto 4, 3) := by decide +kernel
theorem dX10_due_84 : decode cX10_due 84 = .ok (.iconst 0, 1) := by decide +kernel
theorem dX10_due_85 : decode cX10_due 85 = .ok (.iadd, 1) := by decide +kernel
theorem dX10_due_86 : decode cX10_due 86 = .ok (.istore_n 3, 1) := by decide +kernel
theorem dX10_due_87 : decode cX10_due 87 = .ok (.iinc 4 1, 3) := by decide +kernel
theorem dX10_due_90 : decode cX10_due 90 = .ok (.goto (-80), 3) := by decide +kernel
theorem dX10_due_93 : decode cX10_due 93 = .ok (.iload_n 3, 1) := by decide +kernel
theorem dX10_due_94 : decode cX10_due 94 = .ok (.ireturn, 1) := by decide +kernel
theorem dX10_beginsCycle_0 : decode cX10_beginsCycle 0 = .ok (.aload_n 0, 1) := by decide +kernel
theorem dX10_beginsCycle_1 : decode cX10_beginsCycle 1 = .ok (.getfield 9, 3) := by decide +kernel
theorem dX10_beginsCycle_4 : decode cX10_beginsCycle 4 = .ok (.iload_n 1, 1) := by decide +kernel
theorem dX10_beginsCycle_5 : decode cX10_beginsCycle 5 = .ok (.invokestatic 68, 3) := by decide +kernel
theorem dX10_beginsCycle_8 : decode cX10_beginsCycle 8 = .ok (.iconst 2, 1) := by decide +kernel
theorem dX10_beginsCycle_9 : decode cX10_beginsCycle 9 = .ok (.iadd, 1) := by decide +kernel
theorem dX10_beginsCycle_10 : decode cX10_beginsCycle 10 = .ok (.iaload, 1) := by decide +kernel
theorem dX10_beginsCycle_11 : decode cX10_beginsCycle 11 = .ok (.istore_n 2, 1) := by decide +kernel
theorem dX10_beginsCycle_12 : decode cX10_beginsCycle 12 = .ok (.aload_n 0, 1) := by decide +kernel
theorem dX10_beginsCycle_13 : decode cX10_beginsCycle 13 = .ok (.iload_n 2, 1) := by decide +kernel
theorem dX10_beginsCycle_14 : decode cX10_beginsCycle 14 = .ok (.aload_n 0, 1) := by decide +kernel
theorem dX10_beginsCycle_15 : decode cX10_beginsCycle 15 = .ok (.iload_n 1, 1) := by decide +kernel
theorem dX10_beginsCycle_16 : decode cX10_beginsCycle 16 = .ok (.invokevirtual 76, 3) := by decide +kernel
theorem dX10_beginsCycle_19 : decode cX10_beginsCycle 19 = .ok (.invokevirtual 72, 3) := by decide +kernel
theorem dX10_beginsCycle_22 : decode cX10_beginsCycle 22 = .ok (.istore_n 3, 1) := by decide +kernel
theorem dX10_beginsCycle_23 : decode cX10_beginsCycle 23 = .ok (.iconst 1, 1) := by decide +kernel
theorem dX10_beginsCycle_24 : decode cX10_beginsCycle 24 = .ok (.istore 4, 2) := by decide +kernel
theorem dX10_beginsCycle_26 : decode cX10_beginsCycle 26 = .ok (.iload_n 3, 1) := by decide +kernel
theorem dX10_beginsCycle_27 : decode cX10_beginsCycle 27 = .ok (.iconst (-1), 1) := by decide +kernel
theorem dX10_beginsCycle_28 : decode cX10_beginsCycle 28 = .ok (.if_icmp .eq 37, 3) := by decide +kernel
theorem dX10_beginsCycle_31 : decode cX10_beginsCycle 31 = .ok (.iload_n 3, 1) := by decide +kernel
theorem dX10_beginsCycle_32 : decode cX10_beginsCycle 32 = .ok (.iload_n 1, 1) := by decide +kernel
theorem dX10_beginsCycle_33 : decode cX10_beginsCycle 33 = .ok (.if_icmp .eq 32, 3) := by decide +kernel
theorem dX10_beginsCycle_36 : decode cX10_beginsCycle 36 = .ok (.iload_n 3, 1) := by decide +kernel
theorem dX10_beginsCycle_37 : decode cX10_beginsCycle 37 = .ok (.iload_n 1, 1) := by decide +kernel
theorem dX10_beginsCycle_38 : decode cX10_beginsCycle 38 = .ok (.if_icmp .le 27, 3) := by decide +kernel
theorem dX10_beginsCycle_41 : decode cX10_beginsCycle 41 = .ok (.iload 4, 2) := by decide +kernel
theorem dX10_beginsCycle_43 : decode cX10_beginsCycle 43 = .ok (.bipush 6, 2) := by decide +kernel
theorem dX10_beginsCycle_45 : decode cX10_beginsCycle 45 = .ok (.if_icmp .ge 20, 3) := by decide +kernel
theorem dX10_beginsCycle_48 : decode cX10_beginsCycle 48 = .ok (.aload_n 0, 1) := by decide +kernel
theorem dX10_beginsCycle_49 : decode cX10_beginsCycle 49 = .ok (.iload_n 2, 1) := by decide +kernel
theorem dX10_beginsCycle_50 : decode cX10_beginsCycle 50 = .ok (.aload_n 0, 1) := by decide +kernel
theorem dX10_beginsCycle_51 : decode cX10_beginsCycle 51 = .ok (.iload_n 3, 1) := by decide +kernel
theorem dX10_beginsCycle_52 : decode cX10_beginsCycle 52 = .ok (.invokevirtual 76, 3) := by decide +kernel
theorem dX10_beginsCycle_55 : decode cX10_beginsCycle 55 = .ok (.invokevirtual 72, 3) := by decide +kernel
theorem dX10_beginsCycle_58 : decode cX10_beginsCycle 58 = .ok (.istore_n 3, 1) := by decide +kernel
theorem dX10_beginsCycle_59 : decode cX10_beginsCycle 59 = .ok (.iinc 4 1, 3) := by decide +kernel
theorem dX10_beginsCycle_62 : decode cX10_beginsCycle 62 = .ok (.goto (-36), 3) := by decide +kernel
theorem dX10_beginsCycle_65 : decode cX10_beginsCycle 65 = .ok (.iload_n 3, 1) := by decide +kernel
theorem dX10_beginsCycle_66 : decode cX10_beginsCycle 66 = .ok (.iload_n 1, 1) := by decide +kernel
theorem dX10_beginsCycle_67 : decode cX10_beginsCycle 67 = .ok (.if_icmp .ne 13, 3) := by decide +kernel
theorem dX10_beginsCycle_70 : decode cX10_beginsCycle 70 = .ok (.iload 4, 2) := by decide +kernel
theorem dX10_beginsCycle_72 : decode cX10_beginsCycle 72 = .ok (.iconst 1, 1) := by decide +kernel
theorem dX10_beginsCycle_73 : decode cX10_beginsCycle 73 = .ok (.if_icmp .le 7, 3) := by decide +kernel
theorem dX10_beginsCycle_76 : decode cX10_beginsCycle 76 = .ok (.iconst 1, 1) := by decide +kernel
theorem dX10_beginsCycle_77 : decode cX10_beginsCycle 77 = .ok (.goto 4, 3) := by decide +kernel
theorem dX10_beginsCycle_80 : decode cX10_beginsCycle 80 = .ok (.iconst 0, 1) := by decide +kernel
theorem dX10_beginsCycle_81 : decode cX10_beginsCycle 81 = .ok (.ireturn, 1) := by decide +kernel
theorem dX10_swaps_0 : decode cX10_swaps 0 = .ok (.iconst 0, 1) := by decide +kernel
theorem dX10_swaps_1 : decode cX10_swaps 1 = .ok (.istore_n 2, 1) := by decide +kernel
theorem dX10_swaps_2 : decode cX10_swaps 2 = .ok (.iconst 0, 1) := by decide +kernel
theorem dX10_swaps_3 : decode cX10_swaps 3 = .ok (.istore_n 3, 1) := by decide +kernel
theorem dX10_swaps_4 : decode cX10_swaps 4 = .ok (.iload_n 3, 1) := by decide +kernel
theorem dX10_swaps_5 : decode cX10_swaps 5 = .ok (.aload_n 0, 1) := by decide +kernel
theorem dX10_swaps_6 : decode cX10_swaps 6 = .ok (.getfield 9, 3) := by decide +kernel
theorem dX10_swaps_9 : decode cX10_swaps 9 = .ok (.iconst 0, 1) := by decide +kernel
theorem dX10_swaps_10 : decode cX10_swaps 10 = .ok (.iaload, 1) := by decide +kernel
theorem dX10_swaps_11 : decode cX10_swaps 11 = .ok (.if_icmp .ge 75, 3) := by decide +kernel
theorem dX10_swaps_14 : decode cX10_swaps 14 = .ok (.aload_n 0, 1) := by decide +kernel
theorem dX10_swaps_15 : decode cX10_swaps 15 = .ok (.getfield 9, 3) := by decide +kernel
theorem dX10_swaps_18 : decode cX10_swaps 18 = .ok (.iload_n 3, 1) := by decide +kernel
theorem dX10_swaps_19 : decode cX10_swaps 19 = .ok (.invokestatic 68, 3) := by decide +kernel
theorem dX10_swaps_22 : decode cX10_swaps 22 = .ok (.iconst 2, 1) := by decide +kernel
theorem dX10_swaps_23 : decode cX10_swaps 23 = .ok (.iadd, 1) := by decide +kernel
theorem dX10_swaps_24 : decode cX10_swaps 24 = .ok (.iaload, 1) := by decide +kernel
theorem dX10_swaps_25 : decode cX10_swaps 25 = .ok (.iload_n 1, 1) := by decide +kernel
theorem dX10_swaps_26 : decode cX10_swaps 26 = .ok (.if_icmp .ne 26, 3) := by decide +kernel
theorem dX10_swaps_29 : decode cX10_swaps 29 = .ok (.aload_n 0, 1) := by decide +kernel
theorem dX10_swaps_30 : decode cX10_swaps 30 = .ok (.getfield 9, 3) := by decide +kernel
theorem dX10_swaps_33 : decode cX10_swaps 33 = .ok (.iload_n 3, 1) := by decide +kernel
theorem dX10_swaps_34 : decode cX10_swaps 34 = .ok (.invokestatic 68, 3) := by decide +kernel
theorem dX10_swaps_37 : decode cX10_swaps 37 = .ok (.iconst 3, 1) := by decide +kernel
theorem dX10_swaps_38 : decode cX10_swaps 38 = .ok (.iadd, 1) := by decide +kernel
theorem dX10_swaps_39 : decode cX10_swaps 39 = .ok (.iaload, 1) := by decide +kernel
theorem dX10_swaps_40 : decode cX10_swaps 40 = .ok (.aload_n 0, 1) := by decide +kernel
theorem dX10_swaps_41 : decode cX10_swaps 41 = .ok (.iload_n 3, 1) := by decide +kernel
theorem dX10_swaps_42 : decode cX10_swaps 42 = .ok (.invokevirtual 76, 3) := by decide +kernel
theorem dX10_swaps_45 : decode cX10_swaps 45 = .ok (.if_icmp .eq 7, 3) := by decide +kernel
theorem dX10_swaps_48 : decode cX10_swaps 48 = .ok (.iconst 1, 1) := by decide +kernel
theorem dX10_swaps_49 : decode cX10_swaps 49 = .ok (.goto 4, 3) := by decide +kernel
theorem dX10_swaps_52 : decode cX10_swaps 52 = .ok (.iconst 0, 1) := by decide +kernel
theorem dX10_swaps_53 : decode cX10_swaps 53 = .ok (.istore 4, 2) := by decide +kernel
theorem dX10_swaps_55 : decode cX10_swaps 55 = .ok (.iload_n 2, 1) := by decide +kernel
theorem dX10_swaps_56 : decode cX10_swaps 56 = .ok (.iload 4, 2) := by decide +kernel
theorem dX10_swaps_58 : decode cX10_swaps 58 = .ok (.ifCond .eq 19, 3) := by decide +kernel
theorem dX10_swaps_61 : decode cX10_swaps 61 = .ok (.aload_n 0, 1) := by decide +kernel
theorem dX10_swaps_62 : decode cX10_swaps 62 = .ok (.iload_n 3, 1) := by decide +kernel
theorem dX10_swaps_63 : decode cX10_swaps 63 = .ok (.invokevirtual 79, 3) := by decide +kernel
theorem dX10_swaps_66 : decode cX10_swaps 66 = .ok (.ifCond .eq 7, 3) := by decide +kernel
theorem dX10_swaps_69 : decode cX10_swaps 69 = .ok (.iconst 0, 1) := by decide +kernel
theorem dX10_swaps_70 : decode cX10_swaps 70 = .ok (.goto 8, 3) := by decide +kernel
theorem dX10_swaps_73 : decode cX10_swaps 73 = .ok (.iconst 1, 1) := by decide +kernel
theorem dX10_swaps_74 : decode cX10_swaps 74 = .ok (.goto 4, 3) := by decide +kernel
theorem dX10_swaps_77 : decode cX10_swaps 77 = .ok (.iconst 0, 1) := by decide +kernel
theorem dX10_swaps_78 : decode cX10_swaps 78 = .ok (.iadd, 1) := by decide +kernel
theorem dX10_swaps_79 : decode cX10_swaps 79 = .ok (.istore_n 2, 1) := by decide +kernel
theorem dX10_swaps_80 : decode cX10_swaps 80 = .ok (.iinc 3 1, 3) := by decide +kernel
theorem dX10_swaps_83 : decode cX10_swaps 83 = .ok (.goto (-79), 3) := by decide +kernel
theorem dX10_swaps_86 : decode cX10_swaps 86 = .ok (.iload_n 2, 1) := by decide +kernel
theorem dX10_swaps_87 : decode cX10_swaps 87 = .ok (.ireturn, 1) := by decide +kernel
theorem dX10_find_0 : decode cX10_find 0 = .ok (.iconst 0, 1) := by decide +kernel
theorem dX10_find_1 : decode cX10_find 1 = .ok (.istore_n 2, 1) := by decide +kernel
theorem dX10_find_2 : decode cX10_find 2 = .ok (.iload_n 2, 1) := by decide +kernel
theorem dX10_find_3 : decode cX10_find 3 = .ok (.aload_n 0, 1) := by decide +kernel
theorem dX10_find_4 : decode cX10_find 4 = .ok (.getfield 9, 3) := by decide +kernel
theorem dX10_find_7 : decode cX10_find 7 = .ok (.iconst 4, 1) := by decide +kernel
theorem dX10_find_8 : decode cX10_find 8 = .ok (.iaload, 1) := by decide +kernel
theorem dX10_find_9 : decode cX10_find 9 = .ok (.if_icmp .ge 24, 3) := by decide +kernel
theorem dX10_find_12 : decode cX10_find 12 = .ok (.aload_n 0, 1) := by decide +kernel
theorem dX10_find_13 : decode cX10_find 13 = .ok (.getfield 9, 3) := by decide +kernel
theorem dX10_find_16 : decode cX10_find 16 = .ok (.iload_n 2, 1) := by decide +kernel
theorem dX10_find_17 : decode cX10_find 17 = .ok (.invokestatic 83, 3) := by decide +kernel
theorem dX10_find_20 : decode cX10_find 20 = .ok (.iaload, 1) := by decide +kernel
theorem dX10_find_21 : decode cX10_find 21 = .ok (.iload_n 1, 1) := by decide +kernel
theorem dX10_find_22 : decode cX10_find 22 = .ok (.if_icmp .ne 5, 3) := by decide +kernel
theorem dX10_find_25 : decode cX10_find 25 = .ok (.iload_n 2, 1) := by decide +kernel
theorem dX10_find_26 : decode cX10_find 26 = .ok (.ireturn, 1) := by decide +kernel
theorem dX10_find_27 : decode cX10_find 27 = .ok (.iinc 2 1, 3) := by decide +kernel
theorem dX10_find_30 : decode cX10_find 30 = .ok (.goto (-28), 3) := by decide +kernel
theorem dX10_find_33 : decode cX10_find 33 = .ok (.iconst (-1), 1) := by decide +kernel
theorem dX10_find_34 : decode cX10_find 34 = .ok (.ireturn, 1) := by decide +kernel
theorem dX10_isFree_0 : decode cX10_isFree 0 = .ok (.iconst 1, 1) := by decide +kernel
theorem dX10_isFree_1 : decode cX10_isFree 1 = .ok (.istore 4, 2) := by decide +kernel
theorem dX10_isFree_3 : decode cX10_isFree 3 = .ok (.iconst 0, 1) := by decide +kernel
theorem dX10_isFree_4 : decode cX10_isFree 4 = .ok (.istore 5, 2) := by decide +kernel
theorem dX10_isFree_6 : decode cX10_isFree 6 = .ok (.iload 5, 2) := by decide +kernel
theorem dX10_isFree_8 : decode cX10_isFree 8 = .ok (.aload_n 0, 1) := by decide +kernel
theorem dX10_isFree_9 : decode cX10_isFree 9 = .ok (.getfield 9, 3) := by decide +kernel
theorem dX10_isFree_12 : decode cX10_isFree 12 = .ok (.iconst 5, 1) := by decide +kernel
theorem dX10_isFree_13 : decode cX10_isFree 13 = .ok (.iaload, 1) := by decide +kernel
theorem dX10_isFree_14 : decode cX10_isFree 14 = .ok (.if_icmp .ge 65, 3) := by decide +kernel
theorem dX10_isFree_17 : decode cX10_isFree 17 = .ok (.iload 5, 2) := by decide +kernel
theorem dX10_isFree_19 : decode cX10_isFree 19 = .ok (.invokestatic 86, 3) := by decide +kernel
theorem dX10_isFree_22 : decode cX10_isFree 22 = .ok (.istore 6, 2) := by decide +kernel
theorem dX10_isFree_24 : decode cX10_isFree 24 = .ok (.iload 4, 2) := by decide +kernel
theorem dX10_isFree_26 : decode cX10_isFree 26 = .ok (.ifCond .eq 44, 3) := by decide +kernel
theorem dX10_isFree_29 : decode cX10_isFree 29 = .ok (.aload_n 0, 1) := by decide +kernel
theorem dX10_isFree_30 : decode cX10_isFree 30 = .ok (.getfield 9, 3) := by decide +kernel
theorem dX10_isFree_33 : decode cX10_isFree 33 = .ok (.iload 6, 2) := by decide +kernel
theorem dX10_isFree_35 : decode cX10_isFree 35 = .ok (.iaload, 1) := by decide +kernel
theorem dX10_isFree_36 : decode cX10_isFree 36 = .ok (.iload_n 1, 1) := by decide +kernel
theorem dX10_isFree_37 : decode cX10_isFree 37 = .ok (.if_icmp .ne 29, 3) := by decide +kernel
theorem dX10_isFree_40 : decode cX10_isFree 40 = .ok (.aload_n 0, 1) := by decide +kernel
theorem dX10_isFree_41 : decode cX10_isFree 41 = .ok (.getfield 9, 3) := by decide +kernel
theorem dX10_isFree_44 : decode cX10_isFree 44 = .ok (.iload 6, 2) := by decide +kernel
theorem dX10_isFree_46 : decode cX10_isFree 46 = .ok (.iconst 2, 1) := by decide +kernel
theorem dX10_isFree_47 : decode cX10_isFree 47 = .ok (.iadd, 1) := by decide +kernel
theorem dX10_isFree_48 : decode cX10_isFree 48 = .ok (.iaload, 1) := by decide +kernel
theorem dX10_isFree_49 : decode cX10_isFree 49 = .ok (.iload_n 3, 1) := by decide +kernel
theorem dX10_isFree_50 : decode cX10_isFree 50 = .ok (.if_icmp .gt 16, 3) := by decide +kernel
theorem dX10_isFree_53 : decode cX10_isFree 53 = .ok (.aload_n 0, 1) := by decide +kernel
theorem dX10_isFree_54 : decode cX10_isFree 54 = .ok (.getfield 9, 3) := by decide +kernel
theorem dX10_isFree_57 : decode cX10_isFree 57 = .ok (.iload 6, 2) := by decide +kernel
theorem dX10_isFree_59 : decode cX10_isFree 59 = .ok (.iconst 3, 1) := by decide +kernel
theorem dX10_isFree_60 : decode cX10_isFree 60 = .ok (.iadd, 1) := by decide +kernel
theorem dX10_isFree_61 : decode cX10_isFree 61 = .ok (.iaload, 1) := by decide +kernel
theorem dX10_isFree_62 : decode cX10_isFree 62 = .ok (.iload_n 2, 1) := by decide +kernel
theorem dX10_isFree_63 : decode cX10_isFree 63 = .ok (.if_icmp .ge 7, 3) := by decide +kernel
theorem dX10_isFree_66 : decode cX10_isFree 66 = .ok (.iconst 1, 1) := by decide +kernel
theorem dX10_isFree_67 : decode cX10_isFree 67 = .ok (.goto 4, 3) := by decide +kernel
theorem dX10_isFree_70 : decode cX10_isFree 70 = .ok (.iconst 0, 1) := by decide +kernel
theorem dX10_isFree_71 : decode cX10_isFree 71 = .ok (.istore 4, 2) := by decide +kernel
theorem dX10_isFree_73 : decode cX10_isFree 73 = .ok (.iinc 5 1, 3) := by decide +kernel
theorem dX10_isFree_76 : decode cX10_isFree 76 = .ok (.goto (-70), 3) := by decide +kernel
theorem dX10_isFree_79 : decode cX10_isFree 79 = .ok (.iload 4, 2) := by decide +kernel
theorem dX10_isFree_81 : decode cX10_isFree 81 = .ok (.ireturn, 1) := by decide +kernel
theorem dX10_may_0 : decode cX10_may 0 = .ok (.iload_n 1, 1) := by decide +kernel
theorem dX10_may_1 : decode cX10_may 1 = .ok (.invokestatic 83, 3) := by decide +kernel
theorem dX10_may_4 : decode cX10_may 4 = .ok (.istore_n 3, 1) := by decide +kernel
theorem dX10_may_5 : decode cX10_may 5 = .ok (.iload_n 2, 1) := by decide +kernel
theorem dX10_may_6 : decode cX10_may 6 = .ok (.invokestatic 68, 3) := by decide +kernel
theorem dX10_may_9 : decode cX10_may 9 = .ok (.istore 4, 2) := by decide +kernel
theorem dX10_may_11 : decode cX10_may 11 = .ok (.aload_n 0, 1) := by decide +kernel
theorem dX10_may_12 : decode cX10_may 12 = .ok (.getfield 9, 3) := by decide +kernel
theorem dX10_may_15 : decode cX10_may 15 = .ok (.iload 4, 2) := by decide +kernel
theorem dX10_may_17 : decode cX10_may 17 = .ok (.iaload, 1) := by decide +kernel
theorem dX10_may_18 : decode cX10_may 18 = .ok (.aload_n 0, 1) := by decide +kernel
theorem dX10_may_19 : decode cX10_may 19 = .ok (.getfield 9, 3) := by decide +kernel
theorem dX10_may_22 : decode cX10_may 22 = .ok (.iload_n 3, 1) := by decide +kernel
theorem dX10_may_23 : decode cX10_may 23 = .ok (.iconst 2, 1) := by decide +kernel
theorem dX10_may_24 : decode cX10_may 24 = .ok (.iadd, 1) := by decide +kernel
theorem dX10_may_25 : decode cX10_may 25 = .ok (.iaload, 1) := by decide +kernel
theorem dX10_may_26 : decode cX10_may 26 = .ok (.isub, 1) := by decide +kernel
theorem dX10_may_27 : decode cX10_may 27 = .ok (.invokestatic 89, 3) := by decide +kernel
theorem dX10_may_30 : decode cX10_may 30 = .ok (.aload_n 0, 1) := by decide +kernel
theorem dX10_may_31 : decode cX10_may 31 = .ok (.getfield 9, 3) := by decide +kernel
theorem dX10_may_34 : decode cX10_may 34 = .ok (.iload_n 3, 1) := by decide +kernel
theorem dX10_may_35 : decode cX10_may 35 = .ok (.iconst 3, 1) := by decide +kernel
theorem dX10_may_36 : decode cX10_may 36 = .ok (.iadd, 1) := by decide +kernel
theorem dX10_may_37 : decode cX10_may 37 = .ok (.iaload, 1) := by decide +kernel
theorem dX10_may_38 : decode cX10_may 38 = .ok (.if_icmp .gt 21, 3) := by decide +kernel
theorem dX10_may_41 : decode cX10_may 41 = .ok (.aload_n 0, 1) := by decide +kernel
theorem dX10_may_42 : decode cX10_may 42 = .ok (.getfield 9, 3) := by decide +kernel
theorem dX10_may_45 : decode cX10_may 45 = .ok (.iload 4, 2) := by decide +kernel
theorem dX10_may_47 : decode cX10_may 47 = .ok (.iconst 1, 1) := by decide +kernel
theorem dX10_may_48 : decode cX10_may 48 = .ok (.iadd, 1) := by decide +kernel
theorem dX10_may_49 : decode cX10_may 49 = .ok (.iaload, 1) := by decide +kernel
theorem dX10_may_50 : decode cX10_may 50 = .ok (.bipush 100, 2) := by decide +kernel
theorem dX10_may_52 : decode cX10_may 52 = .ok (.if_icmp .ge 7, 3) := by decide +kernel
theorem dX10_may_55 : decode cX10_may 55 = .ok (.iconst 1, 1) := by decide +kernel
theorem dX10_may_56 : decode cX10_may 56 = .ok (.goto 4, 3) := by decide +kernel
theorem dX10_may_59 : decode cX10_may 59 = .ok (.iconst 0, 1) := by decide +kernel
theorem dX10_may_60 : decode cX10_may 60 = .ok (.istore 5, 2) := by decide +kernel
theorem dX10_may_62 : decode cX10_may 62 = .ok (.aload_n 0, 1) := by decide +kernel
theorem dX10_may_63 : decode cX10_may 63 = .ok (.getfield 9, 3) := by decide +kernel
theorem dX10_may_66 : decode cX10_may 66 = .ok (.iload 4, 2) := by decide +kernel
theorem dX10_may_68 : decode cX10_may 68 = .ok (.iconst 2, 1) := by decide +kernel
theorem dX10_may_69 : decode cX10_may 69 = .ok (.iadd, 1) := by decide +kernel
theorem dX10_may_70 : decode cX10_may 70 = .ok (.iaload, 1) := by decide +kernel
theorem dX10_may_71 : decode cX10_may 71 = .ok (.iconst (-1), 1) := by decide +kernel
theorem dX10_may_72 : decode cX10_may 72 = .ok (.if_icmp .ne 23, 3) := by decide +kernel
theorem dX10_may_75 : decode cX10_may 75 = .ok (.aload_n 0, 1) := by decide +kernel
theorem dX10_may_76 : decode cX10_may 76 = .ok (.getfield 9, 3) := by decide +kernel
theorem dX10_may_79 : decode cX10_may 79 = .ok (.iload 4, 2) := by decide +kernel
theorem dX10_may_81 : decode cX10_may 81 = .ok (.iconst 5, 1) := by decide +kernel
theorem dX10_may_82 : decode cX10_may 82 = .ok (.iadd, 1) := by decide +kernel
theorem dX10_may_83 : decode cX10_may 83 = .ok (.iaload, 1) := by decide +kernel
theorem dX10_may_84 : decode cX10_may 84 = .ok (.aload_n 0, 1) := by decide +kernel
theorem dX10_may_85 : decode cX10_may 85 = .ok (.getfield 9, 3) := by decide +kernel
theorem dX10_may_88 : decode cX10_may 88 = .ok (.iload_n 3, 1) := by decide +kernel
theorem dX10_may_89 : decode cX10_may 89 = .ok (.iconst 4, 1) := by decide +kernel
theorem dX10_may_90 : decode cX10_may 90 = .ok (.iadd, 1) := by decide +kernel
theorem dX10_may_91 : decode cX10_may 91 = .ok (.iaload, 1) := by decide +kernel
theorem dX10_may_92 : decode cX10_may 92 = .ok (.if_icmp .ge 7, 3) := by decide +kernel
theorem dX10_may_95 : decode cX10_may 95 = .ok (.iconst 1, 1) := by decide +kernel
theorem dX10_may_96 : decode cX10_may 96 = .ok (.goto 4, 3) := by decide +kernel
theorem dX10_may_99 : decode cX10_may 99 = .ok (.iconst 0, 1) := by decide +kernel
theorem dX10_may_100 : decode cX10_may 100 = .ok (.istore 6, 2) := by decide +kernel
theorem dX10_may_102 : decode cX10_may 102 = .ok (.iload 5, 2) := by decide +kernel
theorem dX10_may_104 : decode cX10_may 104 = .ok (.ifCond .eq 36, 3) := by decide +kernel
theorem dX10_may_107 : decode cX10_may 107 = .ok (.iload 6, 2) := by decide +kernel
theorem dX10_may_109 : decode cX10_may 109 = .ok (.ifCond .eq 31, 3) := by decide +kernel
theorem dX10_may_112 : decode cX10_may 112 = .ok (.aload_n 0, 1) := by decide +kernel
theorem dX10_may_113 : decode cX10_may 113 = .ok (.iload_n 2, 1) := by decide +kernel
theorem dX10_may_114 : decode cX10_may 114 = .ok (.aload_n 0, 1) := by decide +kernel
theorem dX10_may_115 : decode cX10_may 115 = .ok (.getfield 9, 3) := by decide +kernel
theorem dX10_may_118 : decode cX10_may 118 = .ok (.iload_n 3, 1) := by decide +kernel
theorem dX10_may_119 : decode cX10_may 119 = .ok (.iconst 4, 1) := by decide +kernel
theorem dX10_may_120 : decode cX10_may 120 = .ok (.iadd, 1) := by decide +kernel
theorem dX10_may_121 : decode cX10_may 121 = .ok (.iaload, 1) := by decide +kernel
theorem dX10_may_122 : decode cX10_may 122 = .ok (.aload_n 0, 1) := by decide +kernel
theorem dX10_may_123 : decode cX10_may 123 = .ok (.getfield 9, 3) := by decide +kernel
theorem dX10_may_126 : decode cX10_may 126 = .ok (.iload_n 3, 1) := by decide +kernel
theorem dX10_may_127 : decode cX10_may 127 = .ok (.iconst 5, 1) := by decide +kernel
theorem dX10_may_128 : decode cX10_may 128 = .ok (.iadd, 1) := by decide +kernel
theorem dX10_may_129 : decode cX10_may 129 = .ok (.iaload, 1) := by decide +kernel
theorem dX10_may_130 : decode cX10_may 130 = .ok (.invokevirtual 94, 3) := by decide +kernel
theorem dX10_may_133 : decode cX10_may 133 = .ok (.ifCond .eq 7, 3) := by decide +kernel
theorem dX10_may_136 : decode cX10_may 136 = .ok (.iconst 1, 1) := by decide +kernel
theorem dX10_may_137 : decode cX10_may 137 = .ok (.goto 4, 3) := by decide +kernel
theorem dX10_may_140 : decode cX10_may 140 = .ok (.iconst 0, 1) := by decide +kernel
theorem dX10_may_141 : decode cX10_may 141 = .ok (.ireturn, 1) := by decide +kernel
theorem dX10_best_0 : decode cX10_best 0 = .ok (.iconst (-1), 1) := by decide +kernel
theorem dX10_best_1 : decode cX10_best 1 = .ok (.istore_n 2, 1) := by decide +kernel
theorem dX10_best_2 : decode cX10_best 2 = .ok (.iconst 0, 1) := by decide +kernel
theorem dX10_best_3 : decode cX10_best 3 = .ok (.istore_n 3, 1) := by decide +kernel
theorem dX10_best_4 : decode cX10_best 4 = .ok (.iload_n 3, 1) := by decide +kernel
theorem dX10_best_5 : decode cX10_best 5 = .ok (.aload_n 0, 1) := by decide +kernel
theorem dX10_best_6 : decode cX10_best 6 = .ok (.getfield 9, 3) := by decide +kernel
theorem dX10_best_9 : decode cX10_best 9 = .ok (.iconst 0, 1) := by decide +kernel
theorem dX10_best_10 : decode cX10_best 10 = .ok (.iaload, 1) := by decide +kernel
theorem dX10_best_11 : decode cX10_best 11 = .ok (.if_icmp .ge 119, 3) := by decide +kernel
theorem dX10_best_14 : decode cX10_best 14 = .ok (.aload_n 0, 1) := by decide +kernel
theorem dX10_best_15 : decode cX10_best 15 = .ok (.iload_n 1, 1) := by decide +kernel
theorem dX10_best_16 : decode cX10_best 16 = .ok (.iload_n 3, 1) := by decide +kernel
theorem dX10_best_17 : decode cX10_best 17 = .ok (.invokevirtual 98, 3) := by decide +kernel
theorem dX10_best_20 : decode cX10_best 20 = .ok (.ifCond .eq 104, 3) := by decide +kernel
theorem dX10_best_23 : decode cX10_best 23 = .ok (.aload_n 0, 1) := by decide +kernel
theorem dX10_best_24 : decode cX10_best 24 = .ok (.getfield 9, 3) := by decide +kernel
theorem dX10_best_27 : decode cX10_best 27 = .ok (.iload_n 1, 1) := by decide +kernel
theorem dX10_best_28 : decode cX10_best 28 = .ok (.invokestatic 83, 3) := by decide +kernel
theorem dX10_best_31 : decode cX10_best 31 = .ok (.iconst 2, 1) := by decide +kernel
theorem dX10_best_32 : decode cX10_best 32 = .ok (.iadd, 1) := by decide +kernel
theorem dX10_best_33 : decode cX10_best 33 = .ok (.iaload, 1) := by decide +kernel
theorem dX10_best_34 : decode cX10_best 34 = .ok (.istore 4, 2) := by decide +kernel
theorem dX10_best_36 : decode cX10_best 36 = .ok (.iload_n 2, 1) := by decide +kernel
theorem dX10_best_37 : decode cX10_best 37 = .ok (.iconst (-1), 1) := by decide +kernel
theorem dX10_best_38 : decode cX10_best 38 = .ok (.if_icmp .ne 7, 3) := by decide +kernel
theorem dX10_best_41 : decode cX10_best 41 = .ok (.iconst (-1), 1) := by decide +kernel
theorem dX10_best_42 : decode cX10_best 42 = .ok (.goto 34, 3) := by decide +kernel
theorem dX10_best_45 : decode cX10_best 45 = .ok (.aload_n 0, 1) := by decide +kernel
theorem dX10_best_46 : decode cX10_best 46 = .ok (.getfield 9, 3) := by decide +kernel
theorem dX10_best_49 : decode cX10_best 49 = .ok (.iload_n 3, 1) := by decide +kernel
theorem dX10_best_50 : decode cX10_best 50 = .ok (.invokestatic 68, 3) := by decide +kernel
theorem dX10_best_53 : decode cX10_best 53 = .ok (.iaload, 1) := by decide +kernel
theorem dX10_best_54 : decode cX10_best 54 = .ok (.iload 4, 2) := by decide +kernel
theorem dX10_best_56 : decode cX10_best 56 = .ok (.isub, 1) := by decide +kernel
theorem dX10_best_57 : decode cX10_best 57 = .ok (.invokestatic 89, 3) := by decide +kernel
theorem dX10_best_60 : decode cX10_best 60 = .ok (.aload_n 0, 1) := by decide +kernel
theorem dX10_best_61 : decode cX10_best 61 = .ok (.getfield 9, 3) := by decide +kernel
theorem dX10_best_64 : decode cX10_best 64 = .ok (.iload_n 2, 1) := by decide +kernel
theorem dX10_best_65 : decode cX10_best 65 = .ok (.invokestatic 68, 3) := by decide +kernel
theorem dX10_best_68 : decode cX10_best 68 = .ok (.iaload, 1) := by decide +kernel
theorem dX10_best_69 : decode cX10_best 69 = .ok (.iload 4, 2) := by decide +kernel
theorem dX10_best_71 : decode cX10_best 71 = .ok (.isub, 1) := by decide +kernel
theorem dX10_best_72 : decode cX10_best 72 = .ok (.invokestatic 89, 3) := by decide +kernel
theorem dX10_best_75 : decode cX10_best 75 = .ok (.isub, 1) := by decide +kernel
theorem dX10_best_76 : decode cX10_best 76 = .ok (.istore 5, 2) := by decide +kernel
theorem dX10_best_78 : decode cX10_best 78 = .ok (.iload 5, 2) := by decide +kernel
theorem dX10_best_80 : decode cX10_best 80 = .ok (.ifCond .ne 29, 3) := by decide +kernel
theorem dX10_best_83 : decode cX10_best 83 = .ok (.aload_n 0, 1) := by decide +kernel
theorem dX10_best_84 : decode cX10_best 84 = .ok (.getfield 9, 3) := by decide +kernel
theorem dX10_best_87 : decode cX10_best 87 = .ok (.iload_n 3, 1) := by decide +kernel
theorem dX10_best_88 : decode cX10_best 88 = .ok (.invokestatic 68, 3) := by decide +kernel
theorem dX10_best_91 : decode cX10_best 91 = .ok (.iconst 1, 1) := by decide +kernel
theorem dX10_best_92 : decode cX10_best 92 = .ok (.iadd, 1) := by decide +kernel
theorem dX10_best_93 : decode cX10_best 93 = .ok (.iaload, 1) := by decide +kernel
theorem dX10_best_94 : decode cX10_best 94 = .ok (.aload_n 0, 1) := by decide +kernel
theorem dX10_best_95 : decode cX10_best 95 = .ok (.getfield 9, 3) := by decide +kernel
theorem dX10_best_98 : decode cX10_best 98 = .ok (.iload_n 2, 1) := by decide +kernel
theorem dX10_best_99 : decode cX10_best 99 = .ok (.invokestatic 68, 3) := by decide +kernel
theorem dX10_best_102 : decode cX10_best 102 = .ok (.iconst 1, 1) := by decide +kernel
theorem dX10_best_103 : decode cX10_best 103 = .ok (.iadd, 1) := by decide +kernel
theorem dX10_best_104 : decode cX10_best 104 = .ok (.iaload, 1) := by decide +kernel
theorem dX10_best_105 : decode cX10_best 105 = .ok (.isub, 1) := by decide +kernel
theorem dX10_best_106 : decode cX10_best 106 = .ok (.goto 5, 3) := by decide +kernel
theorem dX10_best_109 : decode cX10_best 109 = .ok (.iload 5, 2) := by decide +kernel
theorem dX10_best_111 : decode cX10_best 111 = .ok (.istore 5, 2) := by decide +kernel
theorem dX10_best_113 : decode cX10_best 113 = .ok (.iload 5, 2) := by decide +kernel
theorem dX10_best_115 : decode cX10_best 115 = .ok (.ifCond .ge 7, 3) := by decide +kernel
theorem dX10_best_118 : decode cX10_best 118 = .ok (.iload_n 3, 1) := by decide +kernel
theorem dX10_best_119 : decode cX10_best 119 = .ok (.goto 4, 3) := by decide +kernel
theorem dX10_best_122 : decode cX10_best 122 = .ok (.iload_n 2, 1) := by decide +kernel
theorem dX10_best_123 : decode cX10_best 123 = .ok (.istore_n 2, 1) := by decide +kernel
theorem dX10_best_124 : decode cX10_best 124 = .ok (.iinc 3 1, 3) := by decide +kernel
theorem dX10_best_127 : decode cX10_best 127 = .ok (.goto (-123), 3) := by decide +kernel
theorem dX10_best_130 : decode cX10_best 130 = .ok (.iload_n 2, 1) := by decide +kernel
theorem dX10_best_131 : decode cX10_best 131 = .ok (.ireturn, 1) := by decide +kernel
theorem dX10_dropsRequest_0 : decode cX10_dropsRequest 0 = .ok (.iload_n 1, 1) := by decide +kernel
theorem dX10_dropsRequest_1 : decode cX10_dropsRequest 1 = .ok (.invokestatic 83, 3) := by decide +kernel
theorem dX10_dropsRequest_4 : decode cX10_dropsRequest 4 = .ok (.istore_n 2, 1) := by decide +kernel
theorem dX10_dropsRequest_5 : decode cX10_dropsRequest 5 = .ok (.iload_n 2, 1) := by decide +kernel
theorem dX10_dropsRequest_6 : decode cX10_dropsRequest 6 = .ok (.bipush 122, 2) := by decide +kernel
theorem dX10_dropsRequest_8 : decode cX10_dropsRequest 8 = .ok (.if_icmp .ge 24, 3) := by decide +kernel
theorem dX10_dropsRequest_11 : decode cX10_dropsRequest 11 = .ok (.aload_n 0, 1) := by decide +kernel
theorem dX10_dropsRequest_12 : decode cX10_dropsRequest 12 = .ok (.getfield 9, 3) := by decide +kernel
theorem dX10_dropsRequest_15 : decode cX10_dropsRequest 15 = .ok (.iload_n 2, 1) := by decide +kernel
theorem dX10_dropsRequest_16 : decode cX10_dropsRequest 16 = .ok (.aload_n 0, 1) := by decide +kernel
theorem dX10_dropsRequest_17 : decode cX10_dropsRequest 17 = .ok (.getfield 9, 3) := by decide +kernel
theorem dX10_dropsRequest_20 : decode cX10_dropsRequest 20 = .ok (.iload_n 2, 1) := by decide +kernel
theorem dX10_dropsRequest_21 : decode cX10_dropsRequest 21 = .ok (.bipush 6, 2) := by decide +kernel
theorem dX10_dropsRequest_23 : decode cX10_dropsRequest 23 = .ok (.iadd, 1) := by decide +kernel
theorem dX10_dropsRequest_24 : decode cX10_dropsRequest 24 = .ok (.iaload, 1) := by decide +kernel
theorem dX10_dropsRequest_25 : decode cX10_dropsRequest 25 = .ok (.iastore, 1) := by decide +kernel
theorem dX10_dropsRequest_26 : decode cX10_dropsRequest 26 = .ok (.iinc 2 1, 3) := by decide +kernel
theorem dX10_dropsRequest_29 : decode cX10_dropsRequest 29 = .ok (.goto (-24), 3) := by decide +kernel
theorem dX10_dropsRequest_32 : decode cX10_dropsRequest 32 = .ok (.bipush 122, 2) := by decide +kernel
theorem dX10_dropsRequest_34 : decode cX10_dropsRequest 34 = .ok (.istore_n 2, 1) := by decide +kernel
theorem dX10_dropsRequest_35 : decode cX10_dropsRequest 35 = .ok (.iload_n 2, 1) := by decide +kernel
theorem dX10_dropsRequest_36 : decode cX10_dropsRequest 36 = .ok (.sipush 128, 3) := by decide +kernel
theorem dX10_dropsRequest_39 : decode cX10_dropsRequest 39 = .ok (.if_icmp .ge 16, 3) := by decide +kernel
theorem dX10_dropsRequest_42 : decode cX10_dropsRequest 42 = .ok (.aload_n 0, 1) := by decide +kernel
theorem dX10_dropsRequest_43 : decode cX10_dropsRequest 43 = .ok (.getfield 9, 3) := by decide +kernel
theorem dX10_dropsRequest_46 : decode cX10_dropsRequest 46 = .ok (.iload_n 2, 1) := by decide +kernel
theorem dX10_dropsRequest_47 : decode cX10_dropsRequest 47 = .ok (.iconst 0, 1) := by decide +kernel
theorem dX10_dropsRequest_48 : decode cX10_dropsRequest 48 = .ok (.iastore, 1) := by decide +kernel
theorem dX10_dropsRequest_49 : decode cX10_dropsRequest 49 = .ok (.iinc 2 1, 3) := by decide +kernel
theorem dX10_dropsRequest_52 : decode cX10_dropsRequest 52 = .ok (.goto (-17), 3) := by decide +kernel
theorem dX10_dropsRequest_55 : decode cX10_dropsRequest 55 = .ok (.aload_n 0, 1) := by decide +kernel
theorem dX10_dropsRequest_56 : decode cX10_dropsRequest 56 = .ok (.getfield 9, 3) := by decide +kernel
theorem dX10_dropsRequest_59 : decode cX10_dropsRequest 59 = .ok (.iconst 4, 1) := by decide +kernel
theorem dX10_dropsRequest_60 : decode cX10_dropsRequest 60 = .ok (.dup2, 1) := by decide +kernel
theorem dX10_dropsRequest_61 : decode cX10_dropsRequest 61 = .ok (.iaload, 1) := by decide +kernel
theorem dX10_dropsRequest_62 : decode cX10_dropsRequest 62 = .ok (.iconst 1, 1) := by decide +kernel
theorem dX10_dropsRequest_63 : decode cX10_dropsRequest 63 = .ok (.isub, 1) := by decide +kernel
theorem dX10_dropsRequest_64 : decode cX10_dropsRequest 64 = .ok (.iastore, 1) := by decide +kernel
theorem dX10_dropsRequest_65 : decode cX10_dropsRequest 65 = .ok (.return_, 1) := by decide +kernel
theorem dX10_dropsBooking_0 : decode cX10_dropsBooking 0 = .ok (.iload_n 1, 1) := by decide +kernel
theorem dX10_dropsBooking_1 : decode cX10_dropsBooking 1 = .ok (.invokestatic 86, 3) := by decide +kernel
theorem dX10_dropsBooking_4 : decode cX10_dropsBooking 4 = .ok (.istore_n 2, 1) := by decide +kernel
theorem dX10_dropsBooking_5 : decode cX10_dropsBooking 5 = .ok (.iload_n 2, 1) := by decide +kernel
theorem dX10_dropsBooking_6 : decode cX10_dropsBooking 6 = .ok (.aload_n 0, 1) := by decide +kernel
theorem dX10_dropsBooking_7 : decode cX10_dropsBooking 7 = .ok (.getfield 9, 3) := by decide +kernel
theorem dX10_dropsBooking_10 : decode cX10_dropsBooking 10 = .ok (.iconst 5, 1) := by decide +kernel
theorem dX10_dropsBooking_11 : decode cX10_dropsBooking 11 = .ok (.iaload, 1) := by decide +kernel
theorem dX10_dropsBooking_12 : decode cX10_dropsBooking 12 = .ok (.iconst 1, 1) := by decide +kernel
theorem dX10_dropsBooking_13 : decode cX10_dropsBooking 13 = .ok (.isub, 1) := by decide +kernel
theorem dX10_dropsBooking_14 : decode cX10_dropsBooking 14 = .ok (.invokestatic 86, 3) := by decide +kernel
theorem dX10_dropsBooking_17 : decode cX10_dropsBooking 17 = .ok (.if_icmp .ge 23, 3) := by decide +kernel
theorem dX10_dropsBooking_20 : decode cX10_dropsBooking 20 = .ok (.aload_n 0, 1) := by decide +kernel
theorem dX10_dropsBooking_21 : decode cX10_dropsBooking 21 = .ok (.getfield 9, 3) := by decide +kernel
theorem dX10_dropsBooking_24 : decode cX10_dropsBooking 24 = .ok (.iload_n 2, 1) := by decide +kernel
theorem dX10_dropsBooking_25 : decode cX10_dropsBooking 25 = .ok (.aload_n 0, 1) := by decide +kernel
theorem dX10_dropsBooking_26 : decode cX10_dropsBooking 26 = .ok (.getfield 9, 3) := by decide +kernel
theorem dX10_dropsBooking_29 : decode cX10_dropsBooking 29 = .ok (.iload_n 2, 1) := by decide +kernel
theorem dX10_dropsBooking_30 : decode cX10_dropsBooking 30 = .ok (.iconst 4, 1) := by decide +kernel
theorem dX10_dropsBooking_31 : decode cX10_dropsBooking 31 = .ok (.iadd, 1) := by decide +kernel
theorem dX10_dropsBooking_32 : decode cX10_dropsBooking 32 = .ok (.iaload, 1) := by decide +kernel
theorem dX10_dropsBooking_33 : decode cX10_dropsBooking 33 = .ok (.iastore, 1) := by decide +kernel
theorem dX10_dropsBooking_34 : decode cX10_dropsBooking 34 = .ok (.iinc 2 1, 3) := by decide +kernel
theorem dX10_dropsBooking_37 : decode cX10_dropsBooking 37 = .ok (.goto (-32), 3) := by decide +kernel
theorem dX10_dropsBooking_40 : decode cX10_dropsBooking 40 = .ok (.aload_n 0, 1) := by decide +kernel
theorem dX10_dropsBooking_41 : decode cX10_dropsBooking 41 = .ok (.getfield 9, 3) := by decide +kernel
theorem dX10_dropsBooking_44 : decode cX10_dropsBooking 44 = .ok (.iconst 5, 1) := by decide +kernel
theorem dX10_dropsBooking_45 : decode cX10_dropsBooking 45 = .ok (.iaload, 1) := by decide +kernel
theorem dX10_dropsBooking_46 : decode cX10_dropsBooking 46 = .ok (.iconst 1, 1) := by decide +kernel
theorem dX10_dropsBooking_47 : decode cX10_dropsBooking 47 = .ok (.isub, 1) := by decide +kernel
theorem dX10_dropsBooking_48 : decode cX10_dropsBooking 48 = .ok (.invokestatic 86, 3) := by decide +kernel
theorem dX10_dropsBooking_51 : decode cX10_dropsBooking 51 = .ok (.istore_n 2, 1) := by decide +kernel
theorem dX10_dropsBooking_52 : decode cX10_dropsBooking 52 = .ok (.iload_n 2, 1) := by decide +kernel
theorem dX10_dropsBooking_53 : decode cX10_dropsBooking 53 = .ok (.aload_n 0, 1) := by decide +kernel
theorem dX10_dropsBooking_54 : decode cX10_dropsBooking 54 = .ok (.getfield 9, 3) := by decide +kernel
theorem dX10_dropsBooking_57 : decode cX10_dropsBooking 57 = .ok (.iconst 5, 1) := by decide +kernel
theorem dX10_dropsBooking_58 : decode cX10_dropsBooking 58 = .ok (.iaload, 1) := by decide +kernel
theorem dX10_dropsBooking_59 : decode cX10_dropsBooking 59 = .ok (.invokestatic 86, 3) := by decide +kernel
theorem dX10_dropsBooking_62 : decode cX10_dropsBooking 62 = .ok (.if_icmp .ge 16, 3) := by decide +kernel
theorem dX10_dropsBooking_65 : decode cX10_dropsBooking 65 = .ok (.aload_n 0, 1) := by decide +kernel
theorem dX10_dropsBooking_66 : decode cX10_dropsBooking 66 = .ok (.getfield 9, 3) := by decide +kernel
theorem dX10_dropsBooking_69 : decode cX10_dropsBooking 69 = .ok (.iload_n 2, 1) := by decide +kernel
theorem dX10_dropsBooking_70 : decode cX10_dropsBooking 70 = .ok (.iconst 0, 1) := by decide +kernel
theorem dX10_dropsBooking_71 : decode cX10_dropsBooking 71 = .ok (.iastore, 1) := by decide +kernel
theorem dX10_dropsBooking_72 : decode cX10_dropsBooking 72 = .ok (.iinc 2 1, 3) := by decide +kernel
theorem dX10_dropsBooking_75 : decode cX10_dropsBooking 75 = .ok (.goto (-23), 3) := by decide +kernel
theorem dX10_dropsBooking_78 : decode cX10_dropsBooking 78 = .ok (.aload_n 0, 1) := by decide +kernel
theorem dX10_dropsBooking_79 : decode cX10_dropsBooking 79 = .ok (.getfield 9, 3) := by decide +kernel
theorem dX10_dropsBooking_82 : decode cX10_dropsBooking 82 = .ok (.iconst 5, 1) := by decide +kernel
theorem dX10_dropsBooking_83 : decode cX10_dropsBooking 83 = .ok (.dup2, 1) := by decide +kernel
theorem dX10_dropsBooking_84 : decode cX10_dropsBooking 84 = .ok (.iaload, 1) := by decide +kernel
theorem dX10_dropsBooking_85 : decode cX10_dropsBooking 85 = .ok (.iconst 1, 1) := by decide +kernel
theorem dX10_dropsBooking_86 : decode cX10_dropsBooking 86 = .ok (.isub, 1) := by decide +kernel
theorem dX10_dropsBooking_87 : decode cX10_dropsBooking 87 = .ok (.iastore, 1) := by decide +kernel
theorem dX10_dropsBooking_88 : decode cX10_dropsBooking 88 = .ok (.return_, 1) := by decide +kernel
theorem dX10_books_0 : decode cX10_books 0 = .ok (.iload_n 1, 1) := by decide +kernel
theorem dX10_books_1 : decode cX10_books 1 = .ok (.invokestatic 83, 3) := by decide +kernel
theorem dX10_books_4 : decode cX10_books 4 = .ok (.istore_n 3, 1) := by decide +kernel
theorem dX10_books_5 : decode cX10_books 5 = .ok (.aload_n 0, 1) := by decide +kernel
theorem dX10_books_6 : decode cX10_books 6 = .ok (.getfield 9, 3) := by decide +kernel
theorem dX10_books_9 : decode cX10_books 9 = .ok (.iconst 5, 1) := by decide +kernel
theorem dX10_books_10 : decode cX10_books 10 = .ok (.iaload, 1) := by decide +kernel
theorem dX10_books_11 : decode cX10_books 11 = .ok (.sipush 480, 3) := by decide +kernel
theorem dX10_books_14 : decode cX10_books 14 = .ok (.if_icmp .ge 83, 3) := by decide +kernel
theorem dX10_books_17 : decode cX10_books 17 = .ok (.aload_n 0, 1) := by decide +kernel
theorem dX10_books_18 : decode cX10_books 18 = .ok (.getfield 9, 3) := by decide +kernel
theorem dX10_books_21 : decode cX10_books 21 = .ok (.iconst 5, 1) := by decide +kernel
theorem dX10_books_22 : decode cX10_books 22 = .ok (.iaload, 1) := by decide +kernel
theorem dX10_books_23 : decode cX10_books 23 = .ok (.invokestatic 86, 3) := by decide +kernel
theorem dX10_books_26 : decode cX10_books 26 = .ok (.istore 4, 2) := by decide +kernel
theorem dX10_books_28 : decode cX10_books 28 = .ok (.aload_n 0, 1) := by decide +kernel
theorem dX10_books_29 : decode cX10_books 29 = .ok (.getfield 9, 3) := by decide +kernel
theorem dX10_books_32 : decode cX10_books 32 = .ok (.iload 4, 2) := by decide +kernel
theorem dX10_books_34 : decode cX10_books 34 = .ok (.iload_n 2, 1) := by decide +kernel
theorem dX10_books_35 : decode cX10_books 35 = .ok (.iastore, 1) := by decide +kernel
theorem dX10_books_36 : decode cX10_books 36 = .ok (.aload_n 0, 1) := by decide +kernel
theorem dX10_books_37 : decode cX10_books 37 = .ok (.getfield 9, 3) := by decide +kernel
theorem dX10_books_40 : decode cX10_books 40 = .ok (.iload 4, 2) := by decide +kernel
theorem dX10_books_42 : decode cX10_books 42 = .ok (.iconst 1, 1) := by decide +kernel
theorem dX10_books_43 : decode cX10_books 43 = .ok (.iadd, 1) := by decide +kernel
theorem dX10_books_44 : decode cX10_books 44 = .ok (.aload_n 0, 1) := by decide +kernel
theorem dX10_books_45 : decode cX10_books 45 = .ok (.getfield 9, 3) := by decide +kernel
theorem dX10_books_48 : decode cX10_books 48 = .ok (.iload_n 3, 1) := by decide +kernel
theorem dX10_books_49 : decode cX10_books 49 = .ok (.iconst 1, 1) := by decide +kernel
theorem dX10_books_50 : decode cX10_books 50 = .ok (.iadd, 1) := by decide +kernel
theorem dX10_books_51 : decode cX10_books 51 = .ok (.iaload, 1) := by decide +kernel
theorem dX10_books_52 : decode cX10_books 52 = .ok (.iastore, 1) := by decide +kernel
theorem dX10_books_53 : decode cX10_books 53 = .ok (.aload_n 0, 1) := by decide +kernel
theorem dX10_books_54 : decode cX10_books 54 = .ok (.getfield 9, 3) := by decide +kernel
theorem dX10_books_57 : decode cX10_books 57 = .ok (.iload 4, 2) := by decide +kernel
theorem dX10_books_59 : decode cX10_books 59 = .ok (.iconst 2, 1) := by decide +kernel
theorem dX10_books_60 : decode cX10_books 60 = .ok (.iadd, 1) := by decide +kernel
theorem dX10_books_61 : decode cX10_books 61 = .ok (.aload_n 0, 1) := by decide +kernel
theorem dX10_books_62 : decode cX10_books 62 = .ok (.getfield 9, 3) := by decide +kernel
theorem dX10_books_65 : decode cX10_books 65 = .ok (.iload_n 3, 1) := by decide +kernel
theorem dX10_books_66 : decode cX10_books 66 = .ok (.iconst 4, 1) := by decide +kernel
theorem dX10_books_67 : decode cX10_books 67 = .ok (.iadd, 1) := by decide +kernel
theorem dX10_books_68 : decode cX10_books 68 = .ok (.iaload, 1) := by decide +kernel
theorem dX10_books_69 : decode cX10_books 69 = .ok (.iastore, 1) := by decide +kernel
theorem dX10_books_70 : decode cX10_books 70 = .ok (.aload_n 0, 1) := by decide +kernel
theorem dX10_books_71 : decode cX10_books 71 = .ok (.getfield 9, 3) := by decide +kernel
theorem dX10_books_74 : decode cX10_books 74 = .ok (.iload 4, 2) := by decide +kernel
theorem dX10_books_76 : decode cX10_books 76 = .ok (.iconst 3, 1) := by decide +kernel
theorem dX10_books_77 : decode cX10_books 77 = .ok (.iadd, 1) := by decide +kernel
theorem dX10_books_78 : decode cX10_books 78 = .ok (.aload_n 0, 1) := by decide +kernel
theorem dX10_books_79 : decode cX10_books 79 = .ok (.getfield 9, 3) := by decide +kernel
theorem dX10_books_82 : decode cX10_books 82 = .ok (.iload_n 3, 1) := by decide +kernel
theorem dX10_books_83 : decode cX10_books 83 = .ok (.iconst 5, 1) := by decide +kernel
theorem dX10_books_84 : decode cX10_books 84 = .ok (.iadd, 1) := by decide +kernel
theorem dX10_books_85 : decode cX10_books 85 = .ok (.iaload, 1) := by decide +kernel
theorem dX10_books_86 : decode cX10_books 86 = .ok (.iastore, 1) := by decide +kernel
theorem dX10_books_87 : decode cX10_books 87 = .ok (.aload_n 0, 1) := by decide +kernel
theorem dX10_books_88 : decode cX10_books 88 = .ok (.getfield 9, 3) := by decide +kernel
theorem dX10_books_91 : decode cX10_books 91 = .ok (.iconst 5, 1) := by decide +kernel
theorem dX10_books_92 : decode cX10_books 92 = .ok (.dup2, 1) := by decide +kernel
theorem dX10_books_93 : decode cX10_books 93 = .ok (.iaload, 1) := by decide +kernel
theorem dX10_books_94 : decode cX10_books 94 = .ok (.iconst 1, 1) := by decide +kernel
theorem dX10_books_95 : decode cX10_books 95 = .ok (.iadd, 1) := by decide +kernel
theorem dX10_books_96 : decode cX10_books 96 = .ok (.iastore, 1) := by decide +kernel
theorem dX10_books_97 : decode cX10_books 97 = .ok (.aload_n 0, 1) := by decide +kernel
theorem dX10_books_98 : decode cX10_books 98 = .ok (.getfield 9, 3) := by decide +kernel
theorem dX10_books_101 : decode cX10_books 101 = .ok (.iconst 2, 1) := by decide +kernel
theorem dX10_books_102 : decode cX10_books 102 = .ok (.dup2, 1) := by decide +kernel
theorem dX10_books_103 : decode cX10_books 103 = .ok (.iaload, 1) := by decide +kernel
theorem dX10_books_104 : decode cX10_books 104 = .ok (.aload_n 0, 1) := by decide +kernel
theorem dX10_books_105 : decode cX10_books 105 = .ok (.getfield 9, 3) := by decide +kernel
theorem dX10_books_108 : decode cX10_books 108 = .ok (.iload_n 3, 1) := by decide +kernel
theorem dX10_books_109 : decode cX10_books 109 = .ok (.iconst 5, 1) := by decide +kernel
theorem dX10_books_110 : decode cX10_books 110 = .ok (.iadd, 1) := by decide +kernel
theorem dX10_books_111 : decode cX10_books 111 = .ok (.iaload, 1) := by decide +kernel
theorem dX10_books_112 : decode cX10_books 112 = .ok (.aload_n 0, 1) := by decide +kernel
theorem dX10_books_113 : decode cX10_books 113 = .ok (.getfield 9, 3) := by decide +kernel
theorem dX10_books_116 : decode cX10_books 116 = .ok (.iload_n 3, 1) := by decide +kernel
theorem dX10_books_117 : decode cX10_books 117 = .ok (.iconst 4, 1) := by decide +kernel
theorem dX10_books_118 : decode cX10_books 118 = .ok (.iadd, 1) := by decide +kernel
theorem dX10_books_119 : decode cX10_books 119 = .ok (.iaload, 1) := by decide +kernel
theorem dX10_books_120 : decode cX10_books 120 = .ok (.isub, 1) := by decide +kernel
theorem dX10_books_121 : decode cX10_books 121 = .ok (.iconst 1, 1) := by decide +kernel
theorem dX10_books_122 : decode cX10_books 122 = .ok (.iadd, 1) := by decide +kernel
theorem dX10_books_123 : decode cX10_books 123 = .ok (.iadd, 1) := by decide +kernel
theorem dX10_books_124 : decode cX10_books 124 = .ok (.iastore, 1) := by decide +kernel
theorem dX10_books_125 : decode cX10_books 125 = .ok (.aload_n 0, 1) := by decide +kernel
theorem dX10_books_126 : decode cX10_books 126 = .ok (.iload_n 1, 1) := by decide +kernel
theorem dX10_books_127 : decode cX10_books 127 = .ok (.invokevirtual 102, 3) := by decide +kernel
theorem dX10_books_130 : decode cX10_books 130 = .ok (.return_, 1) := by decide +kernel
theorem dX10_worksFitting_0 : decode cX10_worksFitting 0 = .ok (.iconst 0, 1) := by decide +kernel
theorem dX10_worksFitting_1 : decode cX10_worksFitting 1 = .ok (.istore_n 1, 1) := by decide +kernel
theorem dX10_worksFitting_2 : decode cX10_worksFitting 2 = .ok (.iload_n 1, 1) := by decide +kernel
theorem dX10_worksFitting_3 : decode cX10_worksFitting 3 = .ok (.aload_n 0, 1) := by decide +kernel
theorem dX10_worksFitting_4 : decode cX10_worksFitting 4 = .ok (.getfield 9, 3) := by decide +kernel
theorem dX10_worksFitting_7 : decode cX10_worksFitting 7 = .ok (.iconst 4, 1) := by decide +kernel
theorem dX10_worksFitting_8 : decode cX10_worksFitting 8 = .ok (.iaload, 1) := by decide +kernel
theorem dX10_worksFitting_9 : decode cX10_worksFitting 9 = .ok (.if_icmp .ge 59, 3) := by decide +kernel
theorem dX10_worksFitting_12 : decode cX10_worksFitting 12 = .ok (.aload_n 0, 1) := by decide +kernel
theorem dX10_worksFitting_13 : decode cX10_worksFitting 13 = .ok (.getfield 32, 3) := by decide +kernel
theorem dX10_worksFitting_16 : decode cX10_worksFitting 16 = .ok (.iload_n 1, 1) := by decide +kernel
theorem dX10_worksFitting_17 : decode cX10_worksFitting 17 = .ok (.iconst 0, 1) := by decide +kernel
theorem dX10_worksFitting_18 : decode cX10_worksFitting 18 = .ok (.iastore, 1) := by decide +kernel
theorem dX10_worksFitting_19 : decode cX10_worksFitting 19 = .ok (.iconst 0, 1) := by decide +kernel
theorem dX10_worksFitting_20 : decode cX10_worksFitting 20 = .ok (.istore_n 2, 1) := by decide +kernel
theorem dX10_worksFitting_21 : decode cX10_worksFitting 21 = .ok (.iload_n 2, 1) := by decide +kernel
theorem dX10_worksFitting_22 : decode cX10_worksFitting 22 = .ok (.aload_n 0, 1) := by decide +kernel
theorem dX10_worksFitting_23 : decode cX10_worksFitting 23 = .ok (.getfield 9, 3) := by decide +kernel
theorem dX10_worksFitting_26 : decode cX10_worksFitting 26 = .ok (.iconst 0, 1) := by decide +kernel
theorem dX10_worksFitting_27 : decode cX10_worksFitting 27 = .ok (.iaload, 1) := by decide +kernel
theorem dX10_worksFitting_28 : decode cX10_worksFitting 28 = .ok (.if_icmp .ge 34, 3) := by decide +kernel
theorem dX10_worksFitting_31 : decode cX10_worksFitting 31 = .ok (.aload_n 0, 1) := by decide +kernel
theorem dX10_worksFitting_32 : decode cX10_worksFitting 32 = .ok (.getfield 32, 3) := by decide +kernel
theorem dX10_worksFitting_35 : decode cX10_worksFitting 35 = .ok (.iload_n 1, 1) := by decide +kernel
theorem dX10_worksFitting_36 : decode cX10_worksFitting 36 = .ok (.dup2, 1) := by decide +kernel
theorem dX10_worksFitting_37 : decode cX10_worksFitting 37 = .ok (.iaload, 1) := by decide +kernel
theorem dX10_worksFitting_38 : decode cX10_worksFitting 38 = .ok (.aload_n 0, 1) := by decide +kernel
theorem dX10_worksFitting_39 : decode cX10_worksFitting 39 = .ok (.iload_n 1, 1) := by decide +kernel
theorem dX10_worksFitting_40 : decode cX10_worksFitting 40 = .ok (.iload_n 2, 1) := by decide +kernel
theorem dX10_worksFitting_41 : decode cX10_worksFitting 41 = .ok (.invokevirtual 98, 3) := by decide +kernel
theorem dX10_worksFitting_44 : decode cX10_worksFitting 44 = .ok (.ifCond .eq 9, 3) := by decide +kernel
theorem dX10_worksFitting_47 : decode cX10_worksFitting 47 = .ok (.iconst 1, 1) := by decide +kernel
theorem dX10_worksFitting_48 : decode cX10_worksFitting 48 = .ok (.iload_n 2, 1) := by decide +kernel
theorem dX10_worksFitting_49 : decode cX10_worksFitting 49 = .ok (.ishl, 1) := by decide +kernel
theorem dX10_worksFitting_50 : decode cX10_worksFitting 50 = .ok (.goto 4, 3) := by decide +kernel
theorem dX10_worksFitting_53 : decode cX10_worksFitting 53 = .ok (.iconst 0, 1) := by decide +kernel
theorem dX10_worksFitting_54 : decode cX10_worksFitting 54 = .ok (.ior, 1) := by decide +kernel
theorem dX10_worksFitting_55 : decode cX10_worksFitting 55 = .ok (.iastore, 1) := by decide +kernel
theorem dX10_worksFitting_56 : decode cX10_worksFitting 56 = .ok (.iinc 2 1, 3) := by decide +kernel
theorem dX10_worksFitting_59 : decode cX10_worksFitting 59 = .ok (.goto (-38), 3) := by decide +kernel
theorem dX10_worksFitting_62 : decode cX10_worksFitting 62 = .ok (.iinc 1 1, 3) := by decide +kernel
theorem dX10_worksFitting_65 : decode cX10_worksFitting 65 = .ok (.goto (-63), 3) := by decide +kernel
theorem dX10_worksFitting_68 : decode cX10_worksFitting 68 = .ok (.return_, 1) := by decide +kernel
theorem dX10_ones_0 : decode cX10_ones 0 = .ok (.iconst 0, 1) := by decide +kernel
theorem dX10_ones_1 : decode cX10_ones 1 = .ok (.istore_n 1, 1) := by decide +kernel
theorem dX10_ones_2 : decode cX10_ones 2 = .ok (.iconst 0, 1) := by decide +kernel
theorem dX10_ones_3 : decode cX10_ones 3 = .ok (.istore_n 2, 1) := by decide +kernel
theorem dX10_ones_4 : decode cX10_ones 4 = .ok (.iload_n 2, 1) := by decide +kernel
theorem dX10_ones_5 : decode cX10_ones 5 = .ok (.bipush 12, 2) := by decide +kernel
theorem dX10_ones_7 : decode cX10_ones 7 = .ok (.if_icmp .ge 17, 3) := by decide +kernel
theorem dX10_ones_10 : decode cX10_ones 10 = .ok (.iload_n 1, 1) := by decide +kernel
theorem dX10_ones_11 : decode cX10_ones 11 = .ok (.iload_n 0, 1) := by decide +kernel
theorem dX10_ones_12 : decode cX10_ones 12 = .ok (.iload_n 2, 1) := by decide +kernel
theorem dX10_ones_13 : decode cX10_ones 13 = .ok (.ishr, 1) := by decide +kernel
theorem dX10_ones_14 : decode cX10_ones 14 = .ok (.iconst 1, 1) := by decide +kernel
theorem dX10_ones_15 : decode cX10_ones 15 = .ok (.iand, 1) := by decide +kernel
theorem dX10_ones_16 : decode cX10_ones 16 = .ok (.iadd, 1) := by decide +kernel
theorem dX10_ones_17 : decode cX10_ones 17 = .ok (.istore_n 1, 1) := by decide +kernel
theorem dX10_ones_18 : decode cX10_ones 18 = .ok (.iinc 2 1, 3) := by decide +kernel
theorem dX10_ones_21 : decode cX10_ones 21 = .ok (.goto (-17), 3) := by decide +kernel
theorem dX10_ones_24 : decode cX10_ones 24 = .ok (.iload_n 1, 1) := by decide +kernel
theorem dX10_ones_25 : decode cX10_ones 25 = .ok (.ireturn, 1) := by decide +kernel
theorem dX10_most_0 : decode cX10_most 0 = .ok (.bipush 8, 2) := by decide +kernel
theorem dX10_most_2 : decode cX10_most 2 = .ok (.istore_n 3, 1) := by decide +kernel
theorem dX10_most_3 : decode cX10_most 3 = .ok (.iconst 0, 1) := by decide +kernel
theorem dX10_most_4 : decode cX10_most 4 = .ok (.istore 4, 2) := by decide +kernel
theorem dX10_most_6 : decode cX10_most 6 = .ok (.iload 4, 2) := by decide +kernel
theorem dX10_most_8 : decode cX10_most 8 = .ok (.iconst 1, 1) := by decide +kernel
theorem dX10_most_9 : decode cX10_most 9 = .ok (.aload_n 0, 1) := by decide +kernel
theorem dX10_most_10 : decode cX10_most 10 = .ok (.getfield 9, 3) := by decide +kernel
theorem dX10_most_13 : decode cX10_most 13 = .ok (.iconst 4, 1) := by decide +kernel
theorem dX10_most_14 : decode cX10_most 14 = .ok (.iaload, 1) := by decide +kernel
theorem dX10_most_15 : decode cX10_most 15 = .ok (.ishl, 1) := by decide +kernel
theorem dX10_most_16 : decode cX10_most 16 = .ok (.if_icmp .ge 90, 3) := by decide +kernel
theorem dX10_most_19 : decode cX10_most 19 = .ok (.iload 4, 2) := by decide +kernel
theorem dX10_most_21 : decode cX10_most 21 = .ok (.iload_n 1, 1) := by decide +kernel
theorem dX10_most_22 : decode cX10_most 22 = .ok (.iconst (-1), 1) := by decide +kernel
theorem dX10_most_23 : decode cX10_most 23 = .ok (.ixor, 1) := by decide +kernel
theorem dX10_most_24 : decode cX10_most 24 = .ok (.iand, 1) := by decide +kernel
theorem dX10_most_25 : decode cX10_most 25 = .ok (.ifCond .ne 75, 3) := by decide +kernel
theorem dX10_most_28 : decode cX10_most 28 = .ok (.iconst 0, 1) := by decide +kernel
theorem dX10_most_29 : decode cX10_most 29 = .ok (.istore 5, 2) := by decide +kernel
theorem dX10_most_31 : decode cX10_most 31 = .ok (.iconst 0, 1) := by decide +kernel
theorem dX10_most_32 : decode cX10_most 32 = .ok (.istore 6, 2) := by decide +kernel
theorem dX10_most_34 : decode cX10_most 34 = .ok (.iload 6, 2) := by decide +kernel
theorem dX10_most_36 : decode cX10_most 36 = .ok (.aload_n 0, 1) := by decide +kernel
theorem dX10_most_37 : decode cX10_most 37 = .ok (.getfield 9, 3) := by decide +kernel
theorem dX10_most_40 : decode cX10_most 40 = .ok (.iconst 4, 1) := by decide +kernel
theorem dX10_most_41 : decode cX10_most 41 = .ok (.iaload, 1) := by decide +kernel
theorem dX10_most_42 : decode cX10_most 42 = .ok (.if_icmp .ge 36, 3) := by decide +kernel
theorem dX10_most_45 : decode cX10_most 45 = .ok (.iload 5, 2) := by decide +kernel
theorem dX10_most_47 : decode cX10_most 47 = .ok (.iload 4, 2) := by decide +kernel
theorem dX10_most_49 : decode cX10_most 49 = .ok (.iload 6, 2) := by decide +kernel
theorem dX10_most_51 : decode cX10_most 51 = .ok (.ishr, 1) := by decide +kernel
theorem dX10_most_52 : decode cX10_most 52 = .ok (.iconst 1, 1) := by decide +kernel
theorem dX10_most_53 : decode cX10_most 53 = .ok (.iand, 1) := by decide +kernel
theorem dX10_most_54 : decode cX10_most 54 = .ok (.iconst 1, 1) := by decide +kernel
theorem dX10_most_55 : decode cX10_most 55 = .ok (.if_icmp .ne 13, 3) := by decide +kernel
theorem dX10_most_58 : decode cX10_most 58 = .ok (.aload_n 0, 1) := by decide +kernel
theorem dX10_most_59 : decode cX10_most 59 = .ok (.getfield 32, 3) := by decide +kernel
theorem dX10_most_62 : decode cX10_most 62 = .ok (.iload 6, 2) := by decide +kernel
theorem dX10_most_64 : decode cX10_most 64 = .ok (.iaload, 1) := by decide +kernel
theorem dX10_most_65 : decode cX10_most 65 = .ok (.goto 4, 3) := by decide +kernel
theorem dX10_most_68 : decode cX10_most 68 = .ok (.iconst 0, 1) := by decide +kernel
theorem dX10_most_69 : decode cX10_most 69 = .ok (.ior, 1) := by decide +kernel
theorem dX10_most_70 : decode cX10_most 70 = .ok (.istore 5, 2) := by decide +kernel
theorem dX10_most_72 : decode cX10_most 72 = .ok (.iinc 6 1, 3) := by decide +kernel
theorem dX10_most_75 : decode cX10_most 75 = .ok (.goto (-41), 3) := by decide +kernel
theorem dX10_most_78 : decode cX10_most 78 = .ok (.iload_n 3, 1) := by decide +kernel
theorem dX10_most_79 : decode cX10_most 79 = .ok (.iload_n 1, 1) := by decide +kernel
theorem dX10_most_80 : decode cX10_most 80 = .ok (.iload 4, 2) := by decide +kernel
theorem dX10_most_82 : decode cX10_most 82 = .ok (.iconst (-1), 1) := by decide +kernel
theorem dX10_most_83 : decode cX10_most 83 = .ok (.ixor, 1) := by decide +kernel
theorem dX10_most_84 : decode cX10_most 84 = .ok (.iand, 1) := by decide +kernel
theorem dX10_most_85 : decode cX10_most 85 = .ok (.invokestatic 106, 3) := by decide +kernel
theorem dX10_most_88 : decode cX10_most 88 = .ok (.iload 5, 2) := by decide +kernel
theorem dX10_most_90 : decode cX10_most 90 = .ok (.iload_n 2, 1) := by decide +kernel
theorem dX10_most_91 : decode cX10_most 91 = .ok (.iand, 1) := by decide +kernel
theorem dX10_most_92 : decode cX10_most 92 = .ok (.invokestatic 106, 3) := by decide +kernel
theorem dX10_most_95 : decode cX10_most 95 = .ok (.iadd, 1) := by decide +kernel
theorem dX10_most_96 : decode cX10_most 96 = .ok (.invokestatic 109, 3) := by decide +kernel
theorem dX10_most_99 : decode cX10_most 99 = .ok (.istore_n 3, 1) := by decide +kernel
theorem dX10_most_100 : decode cX10_most 100 = .ok (.iinc 4 1, 3) := by decide +kernel
theorem dX10_most_103 : decode cX10_most 103 = .ok (.goto (-97), 3) := by decide +kernel
theorem dX10_most_106 : decode cX10_most 106 = .ok (.iload_n 3, 1) := by decide +kernel
theorem dX10_most_107 : decode cX10_most 107 = .ok (.ireturn, 1) := by decide +kernel
theorem dX10_mostNow_0 : decode cX10_mostNow 0 = .ok (.aload_n 0, 1) := by decide +kernel
theorem dX10_mostNow_1 : decode cX10_mostNow 1 = .ok (.invokevirtual 112, 3) := by decide +kernel
theorem dX10_mostNow_4 : decode cX10_mostNow 4 = .ok (.aload_n 0, 1) := by decide +kernel
theorem dX10_mostNow_5 : decode cX10_mostNow 5 = .ok (.iconst 1, 1) := by decide +kernel
theorem dX10_mostNow_6 : decode cX10_mostNow 6 = .ok (.aload_n 0, 1) := by decide +kernel
theorem dX10_mostNow_7 : decode cX10_mostNow 7 = .ok (.getfield 9, 3) := by decide +kernel
theorem dX10_mostNow_10 : decode cX10_mostNow 10 = .ok (.iconst 4, 1) := by decide +kernel
theorem dX10_mostNow_11 : decode cX10_mostNow 11 = .ok (.iaload, 1) := by decide +kernel
theorem dX10_mostNow_12 : decode cX10_mostNow 12 = .ok (.ishl, 1) := by decide +kernel
theorem dX10_mostNow_13 : decode cX10_mostNow 13 = .ok (.iconst 1, 1) := by decide +kernel
theorem dX10_mostNow_14 : decode cX10_mostNow 14 = .ok (.isub, 1) := by decide +kernel
theorem dX10_mostNow_15 : decode cX10_mostNow 15 = .ok (.iconst 1, 1) := by decide +kernel
theorem dX10_mostNow_16 : decode cX10_mostNow 16 = .ok (.aload_n 0, 1) := by decide +kernel
theorem dX10_mostNow_17 : decode cX10_mostNow 17 = .ok (.getfield 9, 3) := by decide +kernel
theorem dX10_mostNow_20 : decode cX10_mostNow 20 = .ok (.iconst 0, 1) := by decide +kernel
theorem dX10_mostNow_21 : decode cX10_mostNow 21 = .ok (.iaload, 1) := by decide +kernel
theorem dX10_mostNow_22 : decode cX10_mostNow 22 = .ok (.ishl, 1) := by decide +kernel
theorem dX10_mostNow_23 : decode cX10_mostNow 23 = .ok (.iconst 1, 1) := by decide +kernel
theorem dX10_mostNow_24 : decode cX10_mostNow 24 = .ok (.isub, 1) := by decide +kernel
theorem dX10_mostNow_25 : decode cX10_mostNow 25 = .ok (.invokevirtual 115, 3) := by decide +kernel
theorem dX10_mostNow_28 : decode cX10_mostNow 28 = .ok (.ireturn, 1) := by decide +kernel
theorem dX10_hammerIt_0 : decode cX10_hammerIt 0 = .ok (.iload_n 1, 1) := by decide +kernel
theorem dX10_hammerIt_1 : decode cX10_hammerIt 1 = .ok (.i2l, 1) := by decide +kernel
theorem dX10_hammerIt_2 : decode cX10_hammerIt 2 = .ok (.lconst 0, 1) := by decide +kernel
theorem dX10_hammerIt_3 : decode cX10_hammerIt 3 = .ok (.ldc2_w 118, 3) := by decide +kernel
theorem dX10_hammerIt_6 : decode cX10_hammerIt 6 = .ok (.invokestatic 60, 3) := by decide +kernel
theorem dX10_hammerIt_9 : decode cX10_hammerIt 9 = .ok (.ifCond .ne 9, 3) := by decide +kernel
theorem dX10_hammerIt_12 : decode cX10_hammerIt 12 = .ok (.aload_n 0, 1) := by decide +kernel
theorem dX10_hammerIt_13 : decode cX10_hammerIt 13 = .ok (.iconst 1, 1) := by decide +kernel
theorem dX10_hammerIt_14 : decode cX10_hammerIt 14 = .ok (.invokevirtual 120, 3) := by decide +kernel
theorem dX10_hammerIt_17 : decode cX10_hammerIt 17 = .ok (.ireturn, 1) := by decide +kernel
theorem dX10_hammerIt_18 : decode cX10_hammerIt 18 = .ok (.iload_n 2, 1) := by decide +kernel
theorem dX10_hammerIt_19 : decode cX10_hammerIt 19 = .ok (.invokestatic 123, 3) := by decide +kernel
theorem dX10_hammerIt_22 : decode cX10_hammerIt 22 = .ok (.ifCond .ne 9, 3) := by decide +kernel
theorem dX10_hammerIt_25 : decode cX10_hammerIt 25 = .ok (.aload_n 0, 1) := by decide +kernel
theorem dX10_hammerIt_26 : decode cX10_hammerIt 26 = .ok (.iconst 2, 1) := by decide +kernel
theorem dX10_hammerIt_27 : decode cX10_hammerIt 27 = .ok (.invokevirtual 120, 3) := by decide +kernel
theorem dX10_hammerIt_30 : decode cX10_hammerIt 30 = .ok (.ireturn, 1) := by decide +kernel
theorem dX10_hammerIt_31 : decode cX10_hammerIt 31 = .ok (.aload_n 0, 1) := by decide +kernel
theorem dX10_hammerIt_32 : decode cX10_hammerIt 32 = .ok (.getfield 9, 3) := by decide +kernel
theorem dX10_hammerIt_35 : decode cX10_hammerIt 35 = .ok (.iconst 0, 1) := by decide +kernel
theorem dX10_hammerIt_36 : decode cX10_hammerIt 36 = .ok (.iaload, 1) := by decide +kernel
theorem dX10_hammerIt_37 : decode cX10_hammerIt 37 = .ok (.bipush 12, 2) := by decide +kernel
theorem dX10_hammerIt_39 : decode cX10_hammerIt 39 = .ok (.if_icmp .eq 12, 3) := by decide +kernel
theorem dX10_hammerIt_42 : decode cX10_hammerIt 42 = .ok (.aload_n 0, 1) := by decide +kernel
theorem dX10_hammerIt_43 : decode cX10_hammerIt 43 = .ok (.iload_n 2, 1) := by decide +kernel
theorem dX10_hammerIt_44 : decode cX10_hammerIt 44 = .ok (.invokevirtual 126, 3) := by decide +kernel
theorem dX10_hammerIt_47 : decode cX10_hammerIt 47 = .ok (.iconst (-1), 1) := by decide +kernel
theorem dX10_hammerIt_48 : decode cX10_hammerIt 48 = .ok (.if_icmp .ne 9, 3) := by decide +kernel
theorem dX10_hammerIt_51 : decode cX10_hammerIt 51 = .ok (.aload_n 0, 1) := by decide +kernel
theorem dX10_hammerIt_52 : decode cX10_hammerIt 52 = .ok (.iconst 3, 1) := by decide +kernel
theorem dX10_hammerIt_53 : decode cX10_hammerIt 53 = .ok (.invokevirtual 120, 3) := by decide +kernel
theorem dX10_hammerIt_56 : decode cX10_hammerIt 56 = .ok (.ireturn, 1) := by decide +kernel
theorem dX10_hammerIt_57 : decode cX10_hammerIt 57 = .ok (.aload_n 0, 1) := by decide +kernel
theorem dX10_hammerIt_58 : decode cX10_hammerIt 58 = .ok (.iload_n 2, 1) := by decide +kernel
theorem dX10_hammerIt_59 : decode cX10_hammerIt 59 = .ok (.invokevirtual 126, 3) := by decide +kernel
theorem dX10_hammerIt_62 : decode cX10_hammerIt 62 = .ok (.istore_n 3, 1) := by decide +kernel
theorem dX10_hammerIt_63 : decode cX10_hammerIt 63 = .ok (.aload_n 0, 1) := by decide +kernel
theorem dX10_hammerIt_64 : decode cX10_hammerIt 64 = .ok (.getfield 9, 3) := by decide +kernel
theorem dX10_hammerIt_67 : decode cX10_hammerIt 67 = .ok (.iconst 0, 1) := by decide +kernel
theorem dX10_hammerIt_68 : decode cX10_hammerIt 68 = .ok (.iaload, 1) := by decide +kernel
theorem dX10_hammerIt_69 : decode cX10_hammerIt 69 = .ok (.invokestatic 68, 3) := by decide +kernel
theorem dX10_hammerIt_72 : decode cX10_hammerIt 72 = .ok (.istore 4, 2) := by decide +kernel
theorem dX10_hammerIt_74 : decode cX10_hammerIt 74 = .ok (.aload_n 0, 1) := by decide +kernel
theorem dX10_hammerIt_75 : decode cX10_hammerIt 75 = .ok (.getfield 9, 3) := by decide +kernel
theorem dX10_hammerIt_78 : decode cX10_hammerIt 78 = .ok (.iload 4, 2) := by decide +kernel
theorem dX10_hammerIt_80 : decode cX10_hammerIt 80 = .ok (.iload_n 1, 1) := by decide +kernel
theorem dX10_hammerIt_81 : decode cX10_hammerIt 81 = .ok (.iastore, 1) := by decide +kernel
theorem dX10_hammerIt_82 : decode cX10_hammerIt 82 = .ok (.aload_n 0, 1) := by decide +kernel
theorem dX10_hammerIt_83 : decode cX10_hammerIt 83 = .ok (.getfield 9, 3) := by decide +kernel
theorem dX10_hammerIt_86 : decode cX10_hammerIt 86 = .ok (.iload 4, 2) := by decide +kernel
theorem dX10_hammerIt_88 : decode cX10_hammerIt 88 = .ok (.iconst 2, 1) := by decide +kernel
theorem dX10_hammerIt_89 : decode cX10_hammerIt 89 = .ok (.iadd, 1) := by decide +kernel
theorem dX10_hammerIt_90 : decode cX10_hammerIt 90 = .ok (.iload_n 2, 1) := by decide +kernel
theorem dX10_hammerIt_91 : decode cX10_hammerIt 91 = .ok (.iastore, 1) := by decide +kernel
theorem dX10_hammerIt_92 : decode cX10_hammerIt 92 = .ok (.aload_n 0, 1) := by decide +kernel
theorem dX10_hammerIt_93 : decode cX10_hammerIt 93 = .ok (.getfield 9, 3) := by decide +kernel
theorem dX10_hammerIt_96 : decode cX10_hammerIt 96 = .ok (.iload 4, 2) := by decide +kernel
theorem dX10_hammerIt_98 : decode cX10_hammerIt 98 = .ok (.iconst 3, 1) := by decide +kernel
theorem dX10_hammerIt_99 : decode cX10_hammerIt 99 = .ok (.iadd, 1) := by decide +kernel
theorem dX10_hammerIt_100 : decode cX10_hammerIt 100 = .ok (.iload_n 3, 1) := by decide +kernel
theorem dX10_hammerIt_101 : decode cX10_hammerIt 101 = .ok (.iastore, 1) := by decide +kernel
theorem dX10_hammerIt_102 : decode cX10_hammerIt 102 = .ok (.aload_n 0, 1) := by decide +kernel
theorem dX10_hammerIt_103 : decode cX10_hammerIt 103 = .ok (.getfield 9, 3) := by decide +kernel
theorem dX10_hammerIt_106 : decode cX10_hammerIt 106 = .ok (.iconst 0, 1) := by decide +kernel
theorem dX10_hammerIt_107 : decode cX10_hammerIt 107 = .ok (.dup2, 1) := by decide +kernel
theorem dX10_hammerIt_108 : decode cX10_hammerIt 108 = .ok (.iaload, 1) := by decide +kernel
theorem dX10_hammerIt_109 : decode cX10_hammerIt 109 = .ok (.iconst 1, 1) := by decide +kernel
theorem dX10_hammerIt_110 : decode cX10_hammerIt 110 = .ok (.iadd, 1) := by decide +kernel
theorem dX10_hammerIt_111 : decode cX10_hammerIt 111 = .ok (.iastore, 1) := by decide +kernel
theorem dX10_hammerIt_112 : decode cX10_hammerIt 112 = .ok (.aload_n 0, 1) := by decide +kernel
theorem dX10_hammerIt_113 : decode cX10_hammerIt 113 = .ok (.getfield 9, 3) := by decide +kernel
theorem dX10_hammerIt_116 : decode cX10_hammerIt 116 = .ok (.iconst 0, 1) := by decide +kernel
theorem dX10_hammerIt_117 : decode cX10_hammerIt 117 = .ok (.iaload, 1) := by decide +kernel
theorem dX10_hammerIt_118 : decode cX10_hammerIt 118 = .ok (.iconst 1, 1) := by decide +kernel
theorem dX10_hammerIt_119 : decode cX10_hammerIt 119 = .ok (.isub, 1) := by decide +kernel
theorem dX10_hammerIt_120 : decode cX10_hammerIt 120 = .ok (.ireturn, 1) := by decide +kernel
theorem dX10_addHammer_0 : decode cX10_addHammer 0 = .ok (.aload_n 0, 1) := by decide +kernel
theorem dX10_addHammer_1 : decode cX10_addHammer 1 = .ok (.invokevirtual 129, 3) := by decide +kernel
theorem dX10_addHammer_4 : decode cX10_addHammer 4 = .ok (.aload_n 0, 1) := by decide +kernel
theorem dX10_addHammer_5 : decode cX10_addHammer 5 = .ok (.aload_n 0, 1) := by decide +kernel
theorem dX10_addHammer_6 : decode cX10_addHammer 6 = .ok (.iload_n 1, 1) := by decide +kernel
theorem dX10_addHammer_7 : decode cX10_addHammer 7 = .ok (.iload_n 2, 1) := by decide +kernel
theorem dX10_addHammer_8 : decode cX10_addHammer 8 = .ok (.invokevirtual 132, 3) := by decide +kernel
theorem dX10_addHammer_11 : decode cX10_addHammer 11 = .ok (.invokevirtual 135, 3) := by decide +kernel
theorem dX10_addHammer_14 : decode cX10_addHammer 14 = .ok (.ireturn, 1) := by decide +kernel
theorem dX10_moveIt_0 : decode cX10_moveIt 0 = .ok (.aload_n 0, 1) := by decide +kernel
theorem dX10_moveIt_1 : decode cX10_moveIt 1 = .ok (.iload_n 1, 1) := by decide +kernel
theorem dX10_moveIt_2 : decode cX10_moveIt 2 = .ok (.invokevirtual 138, 3) := by decide +kernel
theorem dX10_moveIt_5 : decode cX10_moveIt 5 = .ok (.ifCond .eq 10, 3) := by decide +kernel
theorem dX10_moveIt_8 : decode cX10_moveIt 8 = .ok (.iload_n 2, 1) := by decide +kernel
theorem dX10_moveIt_9 : decode cX10_moveIt 9 = .ok (.invokestatic 123, 3) := by decide +kernel
theorem dX10_moveIt_12 : decode cX10_moveIt 12 = .ok (.ifCond .ne 9, 3) := by decide +kernel
theorem dX10_moveIt_15 : decode cX10_moveIt 15 = .ok (.aload_n 0, 1) := by decide +kernel
theorem dX10_moveIt_16 : decode cX10_moveIt 16 = .ok (.iconst 1, 1) := by decide +kernel
theorem dX10_moveIt_17 : decode cX10_moveIt 17 = .ok (.invokevirtual 120, 3) := by decide +kernel
theorem dX10_moveIt_20 : decode cX10_moveIt 20 = .ok (.ireturn, 1) := by decide +kernel
theorem dX10_moveIt_21 : decode cX10_moveIt 21 = .ok (.iload_n 1, 1) := by decide +kernel
theorem dX10_moveIt_22 : decode cX10_moveIt 22 = .ok (.invokestatic 68, 3) := by decide +kernel
theorem dX10_moveIt_25 : decode cX10_moveIt 25 = .ok (.istore_n 3, 1) := by decide +kernel
theorem dX10_moveIt_26 : decode cX10_moveIt 26 = .ok (.aload_n 0, 1) := by decide +kernel
theorem dX10_moveIt_27 : decode cX10_moveIt 27 = .ok (.getfield 9, 3) := by decide +kernel
theorem dX10_moveIt_30 : decode cX10_moveIt 30 = .ok (.iload_n 3, 1) := by decide +kernel
theorem dX10_moveIt_31 : decode cX10_moveIt 31 = .ok (.iconst 2, 1) := by decide +kernel
theorem dX10_moveIt_32 : decode cX10_moveIt 32 = .ok (.iadd, 1) := by decide +kernel
theorem dX10_moveIt_33 : decode cX10_moveIt 33 = .ok (.iaload, 1) := by decide +kernel
theorem dX10_moveIt_34 : decode cX10_moveIt 34 = .ok (.iconst (-1), 1) := by decide +kernel
theorem dX10_moveIt_35 : decode cX10_moveIt 35 = .ok (.if_icmp .eq 24, 3) := by decide +kernel
theorem dX10_moveIt_38 : decode cX10_moveIt 38 = .ok (.aload_n 0, 1) := by decide +kernel
theorem dX10_moveIt_39 : decode cX10_moveIt 39 = .ok (.getfield 9, 3) := by decide +kernel
theorem dX10_moveIt_42 : decode cX10_moveIt 42 = .ok (.iload_n 3, 1) := by decide +kernel
theorem dX10_moveIt_43 : decode cX10_moveIt 43 = .ok (.iconst 2, 1) := by decide +kernel
theorem dX10_moveIt_44 : decode cX10_moveIt 44 = .ok (.iadd, 1) := by decide +kernel
theorem dX10_moveIt_45 : decode cX10_moveIt 45 = .ok (.iaload, 1) := by decide +kernel
theorem dX10_moveIt_46 : decode cX10_moveIt 46 = .ok (.iload_n 2, 1) := by decide +kernel
theorem dX10_moveIt_47 : decode cX10_moveIt 47 = .ok (.if_icmp .eq 12, 3) := by decide +kernel
theorem dX10_moveIt_50 : decode cX10_moveIt 50 = .ok (.aload_n 0, 1) := by decide +kernel
theorem dX10_moveIt_51 : decode cX10_moveIt 51 = .ok (.iload_n 2, 1) := by decide +kernel
theorem dX10_moveIt_52 : decode cX10_moveIt 52 = .ok (.invokevirtual 126, 3) := by decide +kernel
theorem dX10_moveIt_55 : decode cX10_moveIt 55 = .ok (.iconst (-1), 1) := by decide +kernel
theorem dX10_moveIt_56 : decode cX10_moveIt 56 = .ok (.if_icmp .ne 9, 3) := by decide +kernel
theorem dX10_moveIt_59 : decode cX10_moveIt 59 = .ok (.aload_n 0, 1) := by decide +kernel
theorem dX10_moveIt_60 : decode cX10_moveIt 60 = .ok (.iconst 2, 1) := by decide +kernel
theorem dX10_moveIt_61 : decode cX10_moveIt 61 = .ok (.invokevirtual 120, 3) := by decide +kernel
theorem dX10_moveIt_64 : decode cX10_moveIt 64 = .ok (.ireturn, 1) := by decide +kernel
theorem dX10_moveIt_65 : decode cX10_moveIt 65 = .ok (.aload_n 0, 1) := by decide +kernel
theorem dX10_moveIt_66 : decode cX10_moveIt 66 = .ok (.iload_n 2, 1) := by decide +kernel
theorem dX10_moveIt_67 : decode cX10_moveIt 67 = .ok (.invokevirtual 126, 3) := by decide +kernel
theorem dX10_moveIt_70 : decode cX10_moveIt 70 = .ok (.istore 4, 2) := by decide +kernel
theorem dX10_moveIt_72 : decode cX10_moveIt 72 = .ok (.aload_n 0, 1) := by decide +kernel
theorem dX10_moveIt_73 : decode cX10_moveIt 73 = .ok (.getfield 9, 3) := by decide +kernel
theorem dX10_moveIt_76 : decode cX10_moveIt 76 = .ok (.iload_n 3, 1) := by decide +kernel
theorem dX10_moveIt_77 : decode cX10_moveIt 77 = .ok (.iconst 2, 1) := by decide +kernel
theorem dX10_moveIt_78 : decode cX10_moveIt 78 = .ok (.iadd, 1) := by decide +kernel
theorem dX10_moveIt_79 : decode cX10_moveIt 79 = .ok (.iload_n 2, 1) := by decide +kernel
theorem dX10_moveIt_80 : decode cX10_moveIt 80 = .ok (.iastore, 1) := by decide +kernel
theorem dX10_moveIt_81 : decode cX10_moveIt 81 = .ok (.aload_n 0, 1) := by decide +kernel
theorem dX10_moveIt_82 : decode cX10_moveIt 82 = .ok (.getfield 9, 3) := by decide +kernel
theorem dX10_moveIt_85 : decode cX10_moveIt 85 = .ok (.iload_n 3, 1) := by decide +kernel
theorem dX10_moveIt_86 : decode cX10_moveIt 86 = .ok (.iconst 3, 1) := by decide +kernel
theorem dX10_moveIt_87 : decode cX10_moveIt 87 = .ok (.iadd, 1) := by decide +kernel
theorem dX10_moveIt_88 : decode cX10_moveIt 88 = .ok (.iload 4, 2) := by decide +kernel
theorem dX10_moveIt_90 : decode cX10_moveIt 90 = .ok (.iastore, 1) := by decide +kernel
theorem dX10_moveIt_91 : decode cX10_moveIt 91 = .ok (.iload 4, 2) := by decide +kernel
theorem dX10_moveIt_93 : decode cX10_moveIt 93 = .ok (.ireturn, 1) := by decide +kernel
theorem dX10_moveHammer_0 : decode cX10_moveHammer 0 = .ok (.aload_n 0, 1) := by decide +kernel
theorem dX10_moveHammer_1 : decode cX10_moveHammer 1 = .ok (.invokevirtual 129, 3) := by decide +kernel
theorem dX10_moveHammer_4 : decode cX10_moveHammer 4 = .ok (.aload_n 0, 1) := by decide +kernel
theorem dX10_moveHammer_5 : decode cX10_moveHammer 5 = .ok (.aload_n 0, 1) := by decide +kernel
theorem dX10_moveHammer_6 : decode cX10_moveHammer 6 = .ok (.iload_n 1, 1) := by decide +kernel
theorem dX10_moveHammer_7 : decode cX10_moveHammer 7 = .ok (.iload_n 2, 1) := by decide +kernel
theorem dX10_moveHammer_8 : decode cX10_moveHammer 8 = .ok (.invokevirtual 141, 3) := by decide +kernel
theorem dX10_moveHammer_11 : decode cX10_moveHammer 11 = .ok (.invokevirtual 135, 3) := by decide +kernel
theorem dX10_moveHammer_14 : decode cX10_moveHammer 14 = .ok (.ireturn, 1) := by decide +kernel
theorem dX10_swapIt_0 : decode cX10_swapIt 0 = .ok (.iload_n 1, 1) := by decide +kernel
theorem dX10_swapIt_1 : decode cX10_swapIt 1 = .ok (.invokestatic 123, 3) := by decide +kernel
theorem dX10_swapIt_4 : decode cX10_swapIt 4 = .ok (.ifCond .eq 17, 3) := by decide +kernel
theorem dX10_swapIt_7 : decode cX10_swapIt 7 = .ok (.iload_n 2, 1) := by decide +kernel
theorem dX10_swapIt_8 : decode cX10_swapIt 8 = .ok (.invokestatic 144, 3) := by decide +kernel
theorem dX10_swapIt_11 : decode cX10_swapIt 11 = .ok (.ifCond .eq 10, 3) := by decide +kernel
theorem dX10_swapIt_14 : decode cX10_swapIt 14 = .ok (.iload_n 3, 1) := by decide +kernel
theorem dX10_swapIt_15 : decode cX10_swapIt 15 = .ok (.invokestatic 144, 3) := by decide +kernel
theorem dX10_swapIt_18 : decode cX10_swapIt 18 = .ok (.ifCond .ne 9, 3) := by decide +kernel
theorem dX10_swapIt_21 : decode cX10_swapIt 21 = .ok (.aload_n 0, 1) := by decide +kernel
theorem dX10_swapIt_22 : decode cX10_swapIt 22 = .ok (.iconst 1, 1) := by decide +kernel
theorem dX10_swapIt_23 : decode cX10_swapIt 23 = .ok (.invokevirtual 120, 3) := by decide +kernel
theorem dX10_swapIt_26 : decode cX10_swapIt 26 = .ok (.ireturn, 1) := by decide +kernel
theorem dX10_swapIt_27 : decode cX10_swapIt 27 = .ok (.iload_n 2, 1) := by decide +kernel
theorem dX10_swapIt_28 : decode cX10_swapIt 28 = .ok (.iload_n 3, 1) := by decide +kernel
theorem dX10_swapIt_29 : decode cX10_swapIt 29 = .ok (.if_icmp .ne 9, 3) := by decide +kernel
theorem dX10_swapIt_32 : decode cX10_swapIt 32 = .ok (.aload_n 0, 1) := by decide +kernel
theorem dX10_swapIt_33 : decode cX10_swapIt 33 = .ok (.iconst 2, 1) := by decide +kernel
theorem dX10_swapIt_34 : decode cX10_swapIt 34 = .ok (.invokevirtual 120, 3) := by decide +kernel
theorem dX10_swapIt_37 : decode cX10_swapIt 37 = .ok (.ireturn, 1) := by decide +kernel
theorem dX10_swapIt_38 : decode cX10_swapIt 38 = .ok (.aload_n 0, 1) := by decide +kernel
theorem dX10_swapIt_39 : decode cX10_swapIt 39 = .ok (.iload_n 1, 1) := by decide +kernel
theorem dX10_swapIt_40 : decode cX10_swapIt 40 = .ok (.iload_n 2, 1) := by decide +kernel
theorem dX10_swapIt_41 : decode cX10_swapIt 41 = .ok (.invokevirtual 72, 3) := by decide +kernel
theorem dX10_swapIt_44 : decode cX10_swapIt 44 = .ok (.istore 4, 2) := by decide +kernel
theorem dX10_swapIt_46 : decode cX10_swapIt 46 = .ok (.aload_n 0, 1) := by decide +kernel
theorem dX10_swapIt_47 : decode cX10_swapIt 47 = .ok (.iload_n 1, 1) := by decide +kernel
theorem dX10_swapIt_48 : decode cX10_swapIt 48 = .ok (.iload_n 3, 1) := by decide +kernel
theorem dX10_swapIt_49 : decode cX10_swapIt 49 = .ok (.invokevirtual 72, 3) := by decide +kernel
theorem dX10_swapIt_52 : decode cX10_swapIt 52 = .ok (.istore 5, 2) := by decide +kernel
theorem dX10_swapIt_54 : decode cX10_swapIt 54 = .ok (.iload 4, 2) := by decide +kernel
theorem dX10_swapIt_56 : decode cX10_swapIt 56 = .ok (.iconst (-1), 1) := by decide +kernel
theorem dX10_swapIt_57 : decode cX10_swapIt 57 = .ok (.if_icmp .eq 16, 3) := by decide +kernel
theorem dX10_swapIt_60 : decode cX10_swapIt 60 = .ok (.aload_n 0, 1) := by decide +kernel
theorem dX10_swapIt_61 : decode cX10_swapIt 61 = .ok (.getfield 9, 3) := by decide +kernel
theorem dX10_swapIt_64 : decode cX10_swapIt 64 = .ok (.iload 4, 2) := by decide +kernel
theorem dX10_swapIt_66 : decode cX10_swapIt 66 = .ok (.invokestatic 68, 3) := by decide +kernel
theorem dX10_swapIt_69 : decode cX10_swapIt 69 = .ok (.iconst 3, 1) := by decide +kernel
theorem dX10_swapIt_70 : decode cX10_swapIt 70 = .ok (.iadd, 1) := by decide +kernel
theorem dX10_swapIt_71 : decode cX10_swapIt 71 = .ok (.iload_n 3, 1) := by decide +kernel
theorem dX10_swapIt_72 : decode cX10_swapIt 72 = .ok (.iastore, 1) := by decide +kernel
theorem dX10_swapIt_73 : decode cX10_swapIt 73 = .ok (.iload 5, 2) := by decide +kernel
theorem dX10_swapIt_75 : decode cX10_swapIt 75 = .ok (.iconst (-1), 1) := by decide +kernel
theorem dX10_swapIt_76 : decode cX10_swapIt 76 = .ok (.if_icmp .eq 16, 3) := by decide +kernel
theorem dX10_swapIt_79 : decode cX10_swapIt 79 = .ok (.aload_n 0, 1) := by decide +kernel
theorem dX10_swapIt_80 : decode cX10_swapIt 80 = .ok (.getfield 9, 3) := by decide +kernel
theorem dX10_swapIt_83 : decode cX10_swapIt 83 = .ok (.iload 5, 2) := by decide +kernel
theorem dX10_swapIt_85 : decode cX10_swapIt 85 = .ok (.invokestatic 68, 3) := by decide +kernel
theorem dX10_swapIt_88 : decode cX10_swapIt 88 = .ok (.iconst 3, 1) := by decide +kernel
theorem dX10_swapIt_89 : decode cX10_swapIt 89 = .ok (.iadd, 1) := by decide +kernel
theorem dX10_swapIt_90 : decode cX10_swapIt 90 = .ok (.iload_n 2, 1) := by decide +kernel
theorem dX10_swapIt_91 : decode cX10_swapIt 91 = .ok (.iastore, 1) := by decide +kernel
theorem dX10_swapIt_92 : decode cX10_swapIt 92 = .ok (.aload_n 0, 1) := by decide +kernel
theorem dX10_swapIt_93 : decode cX10_swapIt 93 = .ok (.iload_n 1, 1) := by decide +kernel
theorem dX10_swapIt_94 : decode cX10_swapIt 94 = .ok (.invokevirtual 147, 3) := by decide +kernel
theorem dX10_swapIt_97 : decode cX10_swapIt 97 = .ok (.ireturn, 1) := by decide +kernel
theorem dX10_swapPlaces_0 : decode cX10_swapPlaces 0 = .ok (.aload_n 0, 1) := by decide +kernel
theorem dX10_swapPlaces_1 : decode cX10_swapPlaces 1 = .ok (.invokevirtual 129, 3) := by decide +kernel
theorem dX10_swapPlaces_4 : decode cX10_swapPlaces 4 = .ok (.aload_n 0, 1) := by decide +kernel
theorem dX10_swapPlaces_5 : decode cX10_swapPlaces 5 = .ok (.aload_n 0, 1) := by decide +kernel
theorem dX10_swapPlaces_6 : decode cX10_swapPlaces 6 = .ok (.iload_n 1, 1) := by decide +kernel
theorem dX10_swapPlaces_7 : decode cX10_swapPlaces 7 = .ok (.iload_n 2, 1) := by decide +kernel
theorem dX10_swapPlaces_8 : decode cX10_swapPlaces 8 = .ok (.iload_n 3, 1) := by decide +kernel
theorem dX10_swapPlaces_9 : decode cX10_swapPlaces 9 = .ok (.invokevirtual 150, 3) := by decide +kernel
theorem dX10_swapPlaces_12 : decode cX10_swapPlaces 12 = .ok (.invokevirtual 135, 3) := by decide +kernel
theorem dX10_swapPlaces_15 : decode cX10_swapPlaces 15 = .ok (.ireturn, 1) := by decide +kernel
theorem dX10_askIt_0 : decode cX10_askIt 0 = .ok (.iload_n 1, 1) := by decide +kernel
theorem dX10_askIt_1 : decode cX10_askIt 1 = .ok (.i2l, 1) := by decide +kernel
theorem dX10_askIt_2 : decode cX10_askIt 2 = .ok (.lconst 0, 1) := by decide +kernel
theorem dX10_askIt_3 : decode cX10_askIt 3 = .ok (.ldc2_w 154, 3) := by decide +kernel
theorem dX10_askIt_6 : decode cX10_askIt 6 = .ok (.invokestatic 60, 3) := by decide +kernel
theorem dX10_askIt_9 : decode cX10_askIt 9 = .ok (.ifCond .eq 31, 3) := by decide +kernel
theorem dX10_askIt_12 : decode cX10_askIt 12 = .ok (.iload_n 2, 1) := by decide +kernel
theorem dX10_askIt_13 : decode cX10_askIt 13 = .ok (.i2l, 1) := by decide +kernel
theorem dX10_askIt_14 : decode cX10_askIt 14 = .ok (.lconst 0, 1) := by decide +kernel
theorem dX10_askIt_15 : decode cX10_askIt 15 = .ok (.ldc2_w 118, 3) := by decide +kernel
theorem dX10_askIt_18 : decode cX10_askIt 18 = .ok (.invokestatic 60, 3) := by decide +kernel
theorem dX10_askIt_21 : decode cX10_askIt 21 = .ok (.ifCond .eq 19, 3) := by decide +kernel
theorem dX10_askIt_24 : decode cX10_askIt 24 = .ok (.iload_n 3, 1) := by decide +kernel
theorem dX10_askIt_25 : decode cX10_askIt 25 = .ok (.i2l, 1) := by decide +kernel
theorem dX10_askIt_26 : decode cX10_askIt 26 = .ok (.lconst 0, 1) := by decide +kernel
theorem dX10_askIt_27 : decode cX10_askIt 27 = .ok (.ldc2_w 156, 3) := by decide +kernel
theorem dX10_askIt_30 : decode cX10_askIt 30 = .ok (.invokestatic 60, 3) := by decide +kernel
theorem dX10_askIt_33 : decode cX10_askIt 33 = .ok (.ifCond .eq 7, 3) := by decide +kernel
theorem dX10_askIt_36 : decode cX10_askIt 36 = .ok (.iconst 1, 1) := by decide +kernel
theorem dX10_askIt_37 : decode cX10_askIt 37 = .ok (.goto 4, 3) := by decide +kernel
theorem dX10_askIt_40 : decode cX10_askIt 40 = .ok (.iconst 0, 1) := by decide +kernel
theorem dX10_askIt_41 : decode cX10_askIt 41 = .ok (.istore 6, 2) := by decide +kernel
theorem dX10_askIt_43 : decode cX10_askIt 43 = .ok (.iload 6, 2) := by decide +kernel
theorem dX10_askIt_45 : decode cX10_askIt 45 = .ok (.ifCond .eq 35, 3) := by decide +kernel
theorem dX10_askIt_48 : decode cX10_askIt 48 = .ok (.iload 4, 2) := by decide +kernel
theorem dX10_askIt_50 : decode cX10_askIt 50 = .ok (.aload_n 0, 1) := by decide +kernel
theorem dX10_askIt_51 : decode cX10_askIt 51 = .ok (.getfield 9, 3) := by decide +kernel
theorem dX10_askIt_54 : decode cX10_askIt 54 = .ok (.iconst 1, 1) := by decide +kernel
theorem dX10_askIt_55 : decode cX10_askIt 55 = .ok (.iaload, 1) := by decide +kernel
theorem dX10_askIt_56 : decode cX10_askIt 56 = .ok (.if_icmp .le 24, 3) := by decide +kernel
theorem dX10_askIt_59 : decode cX10_askIt 59 = .ok (.iload 5, 2) := by decide +kernel
theorem dX10_askIt_61 : decode cX10_askIt 61 = .ok (.iload 4, 2) := by decide +kernel
theorem dX10_askIt_63 : decode cX10_askIt 63 = .ok (.if_icmp .lt 17, 3) := by decide +kernel
theorem dX10_askIt_66 : decode cX10_askIt 66 = .ok (.iload 5, 2) := by decide +kernel
theorem dX10_askIt_68 : decode cX10_askIt 68 = .ok (.aload_n 0, 1) := by decide +kernel
theorem dX10_askIt_69 : decode cX10_askIt 69 = .ok (.getfield 9, 3) := by decide +kernel
theorem dX10_askIt_72 : decode cX10_askIt 72 = .ok (.iconst 1, 1) := by decide +kernel
theorem dX10_askIt_73 : decode cX10_askIt 73 = .ok (.iaload, 1) := by decide +kernel
theorem dX10_askIt_74 : decode cX10_askIt 74 = .ok (.bipush 40, 2) := by decide +kernel
theorem dX10_askIt_76 : decode cX10_askIt 76 = .ok (.iadd, 1) := by decide +kernel
theorem dX10_askIt_77 : decode cX10_askIt 77 = .ok (.if_icmp .le 9, 3) := by decide +kernel
theorem dX10_askIt_80 : decode cX10_askIt 80 = .ok (.aload_n 0, 1) := by decide +kernel
theorem dX10_askIt_81 : decode cX10_askIt 81 = .ok (.iconst 1, 1) := by decide +kernel
theorem dX10_askIt_82 : decode cX10_askIt 82 = .ok (.invokevirtual 120, 3) := by decide +kernel
theorem dX10_askIt_85 : decode cX10_askIt 85 = .ok (.ireturn, 1) := by decide +kernel
theorem dX10_askIt_86 : decode cX10_askIt 86 = .ok (.aload_n 0, 1) := by decide +kernel
theorem dX10_askIt_87 : decode cX10_askIt 87 = .ok (.getfield 9, 3) := by decide +kernel
theorem dX10_askIt_90 : decode cX10_askIt 90 = .ok (.iconst 4, 1) := by decide +kernel
theorem dX10_askIt_91 : decode cX10_askIt 91 = .ok (.iaload, 1) := by decide +kernel
theorem dX10_askIt_92 : decode cX10_askIt 92 = .ok (.bipush 8, 2) := by decide +kernel
theorem dX10_askIt_94 : decode cX10_askIt 94 = .ok (.if_icmp .ne 9, 3) := by decide +kernel
theorem dX10_askIt_97 : decode cX10_askIt 97 = .ok (.aload_n 0, 1) := by decide +kernel
theorem dX10_askIt_98 : decode cX10_askIt 98 = .ok (.iconst 2, 1) := by decide +kernel
theorem dX10_askIt_99 : decode cX10_askIt 99 = .ok (.invokevirtual 120, 3) := by decide +kernel
theorem dX10_askIt_102 : decode cX10_askIt 102 = .ok (.ireturn, 1) := by decide +kernel
theorem dX10_askIt_103 : decode cX10_askIt 103 = .ok (.aload_n 0, 1) := by decide +kernel
theorem dX10_askIt_104 : decode cX10_askIt 104 = .ok (.getfield 9, 3) := by decide +kernel
theorem dX10_askIt_107 : decode cX10_askIt 107 = .ok (.iconst 4, 1) := by decide +kernel
theorem dX10_askIt_108 : decode cX10_askIt 108 = .ok (.iaload, 1) := by decide +kernel
theorem dX10_askIt_109 : decode cX10_askIt 109 = .ok (.invokestatic 83, 3) := by decide +kernel
theorem dX10_askIt_112 : decode cX10_askIt 112 = .ok (.istore 7, 2) := by decide +kernel
theorem dX10_askIt_114 : decode cX10_askIt 114 = .ok (.aload_n 0, 1) := by decide +kernel
theorem dX10_askIt_115 : decode cX10_askIt 115 = .ok (.getfield 9, 3) := by decide +kernel
theorem dX10_askIt_118 : decode cX10_askIt 118 = .ok (.iload 7, 2) := by decide +kernel
theorem dX10_askIt_120 : decode cX10_askIt 120 = .ok (.aload_n 0, 1) := by decide +kernel
theorem dX10_askIt_121 : decode cX10_askIt 121 = .ok (.getfield 9, 3) := by decide +kernel
theorem dX10_askIt_124 : decode cX10_askIt 124 = .ok (.iconst 3, 1) := by decide +kernel
theorem dX10_askIt_125 : decode cX10_askIt 125 = .ok (.iaload, 1) := by decide +kernel
theorem dX10_askIt_126 : decode cX10_askIt 126 = .ok (.iastore, 1) := by decide +kernel
theorem dX10_askIt_127 : decode cX10_askIt 127 = .ok (.aload_n 0, 1) := by decide +kernel
theorem dX10_askIt_128 : decode cX10_askIt 128 = .ok (.getfield 9, 3) := by decide +kernel
theorem dX10_askIt_131 : decode cX10_askIt 131 = .ok (.iload 7, 2) := by decide +kernel
theorem dX10_askIt_133 : decode cX10_askIt 133 = .ok (.iconst 1, 1) := by decide +kernel
theorem dX10_askIt_134 : decode cX10_askIt 134 = .ok (.iadd, 1) := by decide +kernel
theorem dX10_askIt_135 : decode cX10_askIt 135 = .ok (.iload_n 1, 1) := by decide +kernel
theorem dX10_askIt_136 : decode cX10_askIt 136 = .ok (.iastore, 1) := by decide +kernel
theorem dX10_askIt_137 : decode cX10_askIt 137 = .ok (.aload_n 0, 1) := by decide +kernel
theorem dX10_askIt_138 : decode cX10_askIt 138 = .ok (.getfield 9, 3) := by decide +kernel
theorem dX10_askIt_141 : decode cX10_askIt 141 = .ok (.iload 7, 2) := by decide +kernel
theorem dX10_askIt_143 : decode cX10_askIt 143 = .ok (.iconst 2, 1) := by decide +kernel
theorem dX10_askIt_144 : decode cX10_askIt 144 = .ok (.iadd, 1) := by decide +kernel
theorem dX10_askIt_145 : decode cX10_askIt 145 = .ok (.iload_n 2, 1) := by decide +kernel
theorem dX10_askIt_146 : decode cX10_askIt 146 = .ok (.iastore, 1) := by decide +kernel
theorem dX10_askIt_147 : decode cX10_askIt 147 = .ok (.aload_n 0, 1) := by decide +kernel
theorem dX10_askIt_148 : decode cX10_askIt 148 = .ok (.getfield 9, 3) := by decide +kernel
theorem dX10_askIt_151 : decode cX10_askIt 151 = .ok (.iload 7, 2) := by decide +kernel
theorem dX10_askIt_153 : decode cX10_askIt 153 = .ok (.iconst 3, 1) := by decide +kernel
theorem dX10_askIt_154 : decode cX10_askIt 154 = .ok (.iadd, 1) := by decide +kernel
theorem dX10_askIt_155 : decode cX10_askIt 155 = .ok (.iload_n 3, 1) := by decide +kernel
theorem dX10_askIt_156 : decode cX10_askIt 156 = .ok (.iastore, 1) := by decide +kernel
theorem dX10_askIt_157 : decode cX10_askIt 157 = .ok (.aload_n 0, 1) := by decide +kernel
theorem dX10_askIt_158 : decode cX10_askIt 158 = .ok (.getfield 9, 3) := by decide +kernel
theorem dX10_askIt_161 : decode cX10_askIt 161 = .ok (.iload 7, 2) := by decide +kernel
theorem dX10_askIt_163 : decode cX10_askIt 163 = .ok (.iconst 4, 1) := by decide +kernel
theorem dX10_askIt_164 : decode cX10_askIt 164 = .ok (.iadd, 1) := by decide +kernel
theorem dX10_askIt_165 : decode cX10_askIt 165 = .ok (.iload 4, 2) := by decide +kernel
theorem dX10_askIt_167 : decode cX10_askIt 167 = .ok (.iastore, 1) := by decide +kernel
theorem dX10_askIt_168 : decode cX10_askIt 168 = .ok (.aload_n 0, 1) := by decide +kernel
theorem dX10_askIt_169 : decode cX10_askIt 169 = .ok (.getfield 9, 3) := by decide +kernel
theorem dX10_askIt_172 : decode cX10_askIt 172 = .ok (.iload 7, 2) := by decide +kernel
theorem dX10_askIt_174 : decode cX10_askIt 174 = .ok (.iconst 5, 1) := by decide +kernel
theorem dX10_askIt_175 : decode cX10_askIt 175 = .ok (.iadd, 1) := by decide +kernel
theorem dX10_askIt_176 : decode cX10_askIt 176 = .ok (.iload 5, 2) := by decide +kernel
theorem dX10_askIt_178 : decode cX10_askIt 178 = .ok (.iastore, 1) := by decide +kernel
theorem dX10_askIt_179 : decode cX10_askIt 179 = .ok (.aload_n 0, 1) := by decide +kernel
theorem dX10_askIt_180 : decode cX10_askIt 180 = .ok (.getfield 9, 3) := by decide +kernel
theorem dX10_askIt_183 : decode cX10_askIt 183 = .ok (.iconst 4, 1) := by decide +kernel
theorem dX10_askIt_184 : decode cX10_askIt 184 = .ok (.dup2, 1) := by decide +kernel
theorem dX10_askIt_185 : decode cX10_askIt 185 = .ok (.iaload, 1) := by decide +kernel
theorem dX10_askIt_186 : decode cX10_askIt 186 = .ok (.iconst 1, 1) := by decide +kernel
theorem dX10_askIt_187 : decode cX10_askIt 187 = .ok (.iadd, 1) := by decide +kernel
theorem dX10_askIt_188 : decode cX10_askIt 188 = .ok (.iastore, 1) := by decide +kernel
theorem dX10_askIt_189 : decode cX10_askIt 189 = .ok (.aload_n 0, 1) := by decide +kernel
theorem dX10_askIt_190 : decode cX10_askIt 190 = .ok (.getfield 9, 3) := by decide +kernel
theorem dX10_askIt_193 : decode cX10_askIt 193 = .ok (.iconst 3, 1) := by decide +kernel
theorem dX10_askIt_194 : decode cX10_askIt 194 = .ok (.dup2, 1) := by decide +kernel
theorem dX10_askIt_195 : decode cX10_askIt 195 = .ok (.iaload, 1) := by decide +kernel
theorem dX10_askIt_196 : decode cX10_askIt 196 = .ok (.iconst 1, 1) := by decide +kernel
theorem dX10_askIt_197 : decode cX10_askIt 197 = .ok (.iadd, 1) := by decide +kernel
theorem dX10_askIt_198 : decode cX10_askIt 198 = .ok (.iastore, 1) := by decide +kernel
theorem dX10_askIt_199 : decode cX10_askIt 199 = .ok (.aload_n 0, 1) := by decide +kernel
theorem dX10_askIt_200 : decode cX10_askIt 200 = .ok (.getfield 9, 3) := by decide +kernel
theorem dX10_askIt_203 : decode cX10_askIt 203 = .ok (.iload 7, 2) := by decide +kernel
theorem dX10_askIt_205 : decode cX10_askIt 205 = .ok (.iaload, 1) := by decide +kernel
theorem dX10_askIt_206 : decode cX10_askIt 206 = .ok (.ireturn, 1) := by decide +kernel
theorem dX10_request_0 : decode cX10_request 0 = .ok (.aload_n 0, 1) := by decide +kernel
theorem dX10_request_1 : decode cX10_request 1 = .ok (.invokevirtual 129, 3) := by decide +kernel
theorem dX10_request_4 : decode cX10_request 4 = .ok (.aload_n 0, 1) := by decide +kernel
theorem dX10_request_5 : decode cX10_request 5 = .ok (.aload_n 0, 1) := by decide +kernel
theorem dX10_request_6 : decode cX10_request 6 = .ok (.iload_n 1, 1) := by decide +kernel
theorem dX10_request_7 : decode cX10_request 7 = .ok (.iload_n 2, 1) := by decide +kernel
theorem dX10_request_8 : decode cX10_request 8 = .ok (.iload_n 3, 1) := by decide +kernel
theorem dX10_request_9 : decode cX10_request 9 = .ok (.iload 4, 2) := by decide +kernel
theorem dX10_request_11 : decode cX10_request 11 = .ok (.iload 5, 2) := by decide +kernel
theorem dX10_request_13 : decode cX10_request 13 = .ok (.invokevirtual 158, 3) := by decide +kernel
theorem dX10_request_16 : decode cX10_request 16 = .ok (.invokevirtual 135, 3) := by decide +kernel
theorem dX10_request_19 : decode cX10_request 19 = .ok (.ireturn, 1) := by decide +kernel
theorem dX10_dropIt_0 : decode cX10_dropIt 0 = .ok (.aload_n 0, 1) := by decide +kernel
theorem dX10_dropIt_1 : decode cX10_dropIt 1 = .ok (.iload_n 1, 1) := by decide +kernel
theorem dX10_dropIt_2 : decode cX10_dropIt 2 = .ok (.invokevirtual 162, 3) := by decide +kernel
theorem dX10_dropIt_5 : decode cX10_dropIt 5 = .ok (.istore_n 2, 1) := by decide +kernel
theorem dX10_dropIt_6 : decode cX10_dropIt 6 = .ok (.iload_n 2, 1) := by decide +kernel
theorem dX10_dropIt_7 : decode cX10_dropIt 7 = .ok (.iconst (-1), 1) := by decide +kernel
theorem dX10_dropIt_8 : decode cX10_dropIt 8 = .ok (.if_icmp .ne 9, 3) := by decide +kernel
theorem dX10_dropIt_11 : decode cX10_dropIt 11 = .ok (.aload_n 0, 1) := by decide +kernel
theorem dX10_dropIt_12 : decode cX10_dropIt 12 = .ok (.iconst 1, 1) := by decide +kernel
theorem dX10_dropIt_13 : decode cX10_dropIt 13 = .ok (.invokevirtual 120, 3) := by decide +kernel
theorem dX10_dropIt_16 : decode cX10_dropIt 16 = .ok (.ireturn, 1) := by decide +kernel
theorem dX10_dropIt_17 : decode cX10_dropIt 17 = .ok (.aload_n 0, 1) := by decide +kernel
theorem dX10_dropIt_18 : decode cX10_dropIt 18 = .ok (.iload_n 2, 1) := by decide +kernel
theorem dX10_dropIt_19 : decode cX10_dropIt 19 = .ok (.invokevirtual 102, 3) := by decide +kernel
theorem dX10_dropIt_22 : decode cX10_dropIt 22 = .ok (.aload_n 0, 1) := by decide +kernel
theorem dX10_dropIt_23 : decode cX10_dropIt 23 = .ok (.getfield 9, 3) := by decide +kernel
theorem dX10_dropIt_26 : decode cX10_dropIt 26 = .ok (.iconst 4, 1) := by decide +kernel
theorem dX10_dropIt_27 : decode cX10_dropIt 27 = .ok (.iaload, 1) := by decide +kernel
theorem dX10_dropIt_28 : decode cX10_dropIt 28 = .ok (.ireturn, 1) := by decide +kernel
theorem dX10_cancelRequest_0 : decode cX10_cancelRequest 0 = .ok (.aload_n 0, 1) := by decide +kernel
theorem dX10_cancelRequest_1 : decode cX10_cancelRequest 1 = .ok (.invokevirtual 129, 3) := by decide +kernel
theorem dX10_cancelRequest_4 : decode cX10_cancelRequest 4 = .ok (.aload_n 0, 1) := by decide +kernel
theorem dX10_cancelRequest_5 : decode cX10_cancelRequest 5 = .ok (.aload_n 0, 1) := by decide +kernel
theorem dX10_cancelRequest_6 : decode cX10_cancelRequest 6 = .ok (.iload_n 1, 1) := by decide +kernel
theorem dX10_cancelRequest_7 : decode cX10_cancelRequest 7 = .ok (.invokevirtual 165, 3) := by decide +kernel
theorem dX10_cancelRequest_10 : decode cX10_cancelRequest 10 = .ok (.invokevirtual 135, 3) := by decide +kernel
theorem dX10_cancelRequest_13 : decode cX10_cancelRequest 13 = .ok (.ireturn, 1) := by decide +kernel
theorem dX10_grantIt_0 : decode cX10_grantIt 0 = .ok (.aload_n 0, 1) := by decide +kernel
theorem dX10_grantIt_1 : decode cX10_grantIt 1 = .ok (.iload_n 1, 1) := by decide +kernel
theorem dX10_grantIt_2 : decode cX10_grantIt 2 = .ok (.invokevirtual 162, 3) := by decide +kernel
theorem dX10_grantIt_5 : decode cX10_grantIt 5 = .ok (.istore_n 2, 1) := by decide +kernel
theorem dX10_grantIt_6 : decode cX10_grantIt 6 = .ok (.iload_n 2, 1) := by decide +kernel
theorem dX10_grantIt_7 : decode cX10_grantIt 7 = .ok (.iconst (-1), 1) := by decide +kernel
theorem dX10_grantIt_8 : decode cX10_grantIt 8 = .ok (.if_icmp .ne 9, 3) := by decide +kernel
theorem dX10_grantIt_11 : decode cX10_grantIt 11 = .ok (.aload_n 0, 1) := by decide +kernel
theorem dX10_grantIt_12 : decode cX10_grantIt 12 = .ok (.iconst 1, 1) := by decide +kernel
theorem dX10_grantIt_13 : decode cX10_grantIt 13 = .ok (.invokevirtual 120, 3) := by decide +kernel
theorem dX10_grantIt_16 : decode cX10_grantIt 16 = .ok (.ireturn, 1) := by decide +kernel
theorem dX10_grantIt_17 : decode cX10_grantIt 17 = .ok (.aload_n 0, 1) := by decide +kernel
theorem dX10_grantIt_18 : decode cX10_grantIt 18 = .ok (.getfield 9, 3) := by decide +kernel
theorem dX10_grantIt_21 : decode cX10_grantIt 21 = .ok (.iload_n 2, 1) := by decide +kernel
theorem dX10_grantIt_22 : decode cX10_grantIt 22 = .ok (.invokestatic 83, 3) := by decide +kernel
theorem dX10_grantIt_25 : decode cX10_grantIt 25 = .ok (.iconst 4, 1) := by decide +kernel
theorem dX10_grantIt_26 : decode cX10_grantIt 26 = .ok (.iadd, 1) := by decide +kernel
theorem dX10_grantIt_27 : decode cX10_grantIt 27 = .ok (.iaload, 1) := by decide +kernel
theorem dX10_grantIt_28 : decode cX10_grantIt 28 = .ok (.aload_n 0, 1) := by decide +kernel
theorem dX10_grantIt_29 : decode cX10_grantIt 29 = .ok (.getfield 9, 3) := by decide +kernel
theorem dX10_grantIt_32 : decode cX10_grantIt 32 = .ok (.iconst 1, 1) := by decide +kernel
theorem dX10_grantIt_33 : decode cX10_grantIt 33 = .ok (.iaload, 1) := by decide +kernel
theorem dX10_grantIt_34 : decode cX10_grantIt 34 = .ok (.if_icmp .gt 9, 3) := by decide +kernel
theorem dX10_grantIt_37 : decode cX10_grantIt 37 = .ok (.aload_n 0, 1) := by decide +kernel
theorem dX10_grantIt_38 : decode cX10_grantIt 38 = .ok (.iconst 2, 1) := by decide +kernel
theorem dX10_grantIt_39 : decode cX10_grantIt 39 = .ok (.invokevirtual 120, 3) := by decide +kernel
theorem dX10_grantIt_42 : decode cX10_grantIt 42 = .ok (.ireturn, 1) := by decide +kernel
theorem dX10_grantIt_43 : decode cX10_grantIt 43 = .ok (.aload_n 0, 1) := by decide +kernel
theorem dX10_grantIt_44 : decode cX10_grantIt 44 = .ok (.iload_n 2, 1) := by decide +kernel
theorem dX10_grantIt_45 : decode cX10_grantIt 45 = .ok (.invokevirtual 168, 3) := by decide +kernel
theorem dX10_grantIt_48 : decode cX10_grantIt 48 = .ok (.istore_n 3, 1) := by decide +kernel
theorem dX10_grantIt_49 : decode cX10_grantIt 49 = .ok (.iload_n 3, 1) := by decide +kernel
theorem dX10_grantIt_50 : decode cX10_grantIt 50 = .ok (.iconst (-1), 1) := by decide +kernel
theorem dX10_grantIt_51 : decode cX10_grantIt 51 = .ok (.if_icmp .ne 9, 3) := by decide +kernel
theorem dX10_grantIt_54 : decode cX10_grantIt 54 = .ok (.aload_n 0, 1) := by decide +kernel
theorem dX10_grantIt_55 : decode cX10_grantIt 55 = .ok (.iconst 3, 1) := by decide +kernel
theorem dX10_grantIt_56 : decode cX10_grantIt 56 = .ok (.invokevirtual 120, 3) := by decide +kernel
theorem dX10_grantIt_59 : decode cX10_grantIt 59 = .ok (.ireturn, 1) := by decide +kernel
theorem dX10_grantIt_60 : decode cX10_grantIt 60 = .ok (.aload_n 0, 1) := by decide +kernel
theorem dX10_grantIt_61 : decode cX10_grantIt 61 = .ok (.iload_n 2, 1) := by decide +kernel
theorem dX10_grantIt_62 : decode cX10_grantIt 62 = .ok (.iload_n 3, 1) := by decide +kernel
theorem dX10_grantIt_63 : decode cX10_grantIt 63 = .ok (.invokevirtual 171, 3) := by decide +kernel
theorem dX10_grantIt_66 : decode cX10_grantIt 66 = .ok (.iload_n 3, 1) := by decide +kernel
theorem dX10_grantIt_67 : decode cX10_grantIt 67 = .ok (.ireturn, 1) := by decide +kernel
theorem dX10_grant_0 : decode cX10_grant 0 = .ok (.aload_n 0, 1) := by decide +kernel
theorem dX10_grant_1 : decode cX10_grant 1 = .ok (.invokevirtual 129, 3) := by decide +kernel
theorem dX10_grant_4 : decode cX10_grant 4 = .ok (.aload_n 0, 1) := by decide +kernel
theorem dX10_grant_5 : decode cX10_grant 5 = .ok (.aload_n 0, 1) := by decide +kernel
theorem dX10_grant_6 : decode cX10_grant 6 = .ok (.iload_n 1, 1) := by decide +kernel
theorem dX10_grant_7 : decode cX10_grant 7 = .ok (.invokevirtual 175, 3) := by decide +kernel
theorem dX10_grant_10 : decode cX10_grant 10 = .ok (.invokevirtual 135, 3) := by decide +kernel
theorem dX10_grant_13 : decode cX10_grant 13 = .ok (.ireturn, 1) := by decide +kernel
theorem dX10_mostIt_0 : decode cX10_mostIt 0 = .ok (.iconst 0, 1) := by decide +kernel
theorem dX10_mostIt_1 : decode cX10_mostIt 1 = .ok (.istore_n 1, 1) := by decide +kernel
theorem dX10_mostIt_2 : decode cX10_mostIt 2 = .ok (.iload_n 1, 1) := by decide +kernel
theorem dX10_mostIt_3 : decode cX10_mostIt 3 = .ok (.aload_n 0, 1) := by decide +kernel
theorem dX10_mostIt_4 : decode cX10_mostIt 4 = .ok (.getfield 9, 3) := by decide +kernel
theorem dX10_mostIt_7 : decode cX10_mostIt 7 = .ok (.iconst 4, 1) := by decide +kernel
theorem dX10_mostIt_8 : decode cX10_mostIt 8 = .ok (.iaload, 1) := by decide +kernel
theorem dX10_mostIt_9 : decode cX10_mostIt 9 = .ok (.if_icmp .ge 37, 3) := by decide +kernel
theorem dX10_mostIt_12 : decode cX10_mostIt 12 = .ok (.aload_n 0, 1) := by decide +kernel
theorem dX10_mostIt_13 : decode cX10_mostIt 13 = .ok (.getfield 9, 3) := by decide +kernel
theorem dX10_mostIt_16 : decode cX10_mostIt 16 = .ok (.iload_n 1, 1) := by decide +kernel
theorem dX10_mostIt_17 : decode cX10_mostIt 17 = .ok (.invokestatic 83, 3) := by decide +kernel
theorem dX10_mostIt_20 : decode cX10_mostIt 20 = .ok (.iconst 4, 1) := by decide +kernel
theorem dX10_mostIt_21 : decode cX10_mostIt 21 = .ok (.iadd, 1) := by decide +kernel
theorem dX10_mostIt_22 : decode cX10_mostIt 22 = .ok (.iaload, 1) := by decide +kernel
theorem dX10_mostIt_23 : decode cX10_mostIt 23 = .ok (.aload_n 0, 1) := by decide +kernel
theorem dX10_mostIt_24 : decode cX10_mostIt 24 = .ok (.getfield 9, 3) := by decide +kernel
theorem dX10_mostIt_27 : decode cX10_mostIt 27 = .ok (.iconst 1, 1) := by decide +kernel
