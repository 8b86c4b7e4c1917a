theorem dX0_init_0 : decode cX0_init 0 = .ok (.aload_n 0, 1) := by decide +kernel
theorem dX0_init_1 : decode cX0_init 1 = .ok (.invokespecial 3, 3) := by decide +kernel
theorem dX0_init_4 : decode cX0_init 4 = .ok (.aload_n 0, 1) := by decide +kernel
theorem dX0_init_5 : decode cX0_init 5 = .ok (.iconst 0, 1) := by decide +kernel
theorem dX0_init_6 : decode cX0_init 6 = .ok (.putfield 9, 3) := by decide +kernel
theorem dX0_init_9 : decode cX0_init 9 = .ok (.aload_n 0, 1) := by decide +kernel
theorem dX0_init_10 : decode cX0_init 10 = .ok (.sipush 480, 3) := by decide +kernel
theorem dX0_init_13 : decode cX0_init 13 = .ok (.newarray .int, 2) := by decide +kernel
theorem dX0_init_15 : decode cX0_init 15 = .ok (.putfield 15, 3) := by decide +kernel
theorem dX0_init_18 : decode cX0_init 18 = .ok (.aload_n 0, 1) := by decide +kernel
theorem dX0_init_19 : decode cX0_init 19 = .ok (.sipush 480, 3) := by decide +kernel
theorem dX0_init_22 : decode cX0_init 22 = .ok (.newarray .int, 2) := by decide +kernel
theorem dX0_init_24 : decode cX0_init 24 = .ok (.putfield 19, 3) := by decide +kernel
theorem dX0_init_27 : decode cX0_init 27 = .ok (.aload_n 0, 1) := by decide +kernel
theorem dX0_init_28 : decode cX0_init 28 = .ok (.sipush 480, 3) := by decide +kernel
theorem dX0_init_31 : decode cX0_init 31 = .ok (.newarray .int, 2) := by decide +kernel
theorem dX0_init_33 : decode cX0_init 33 = .ok (.putfield 22, 3) := by decide +kernel
theorem dX0_init_36 : decode cX0_init 36 = .ok (.aload_n 0, 1) := by decide +kernel
theorem dX0_init_37 : decode cX0_init 37 = .ok (.sipush 480, 3) := by decide +kernel
theorem dX0_init_40 : decode cX0_init 40 = .ok (.newarray .int, 2) := by decide +kernel
theorem dX0_init_42 : decode cX0_init 42 = .ok (.putfield 25, 3) := by decide +kernel
theorem dX0_init_45 : decode cX0_init 45 = .ok (.return_, 1) := by decide +kernel
theorem dX0_copyFrom_0 : decode cX0_copyFrom 0 = .ok (.aload_n 1, 1) := by decide +kernel
theorem dX0_copyFrom_1 : decode cX0_copyFrom 1 = .ok (.getfield 9, 3) := by decide +kernel
theorem dX0_copyFrom_4 : decode cX0_copyFrom 4 = .ok (.sipush 480, 3) := by decide +kernel
theorem dX0_copyFrom_7 : decode cX0_copyFrom 7 = .ok (.invokestatic 28, 3) := by decide +kernel
theorem dX0_copyFrom_10 : decode cX0_copyFrom 10 = .ok (.istore_n 2, 1) := by decide +kernel
theorem dX0_copyFrom_11 : decode cX0_copyFrom 11 = .ok (.iload_n 2, 1) := by decide +kernel
theorem dX0_copyFrom_12 : decode cX0_copyFrom 12 = .ok (.ifCond .lt 64, 3) := by decide +kernel
theorem dX0_copyFrom_15 : decode cX0_copyFrom 15 = .ok (.aload_n 0, 1) := by decide +kernel
theorem dX0_copyFrom_16 : decode cX0_copyFrom 16 = .ok (.iload_n 2, 1) := by decide +kernel
theorem dX0_copyFrom_17 : decode cX0_copyFrom 17 = .ok (.putfield 9, 3) := by decide +kernel
theorem dX0_copyFrom_20 : decode cX0_copyFrom 20 = .ok (.aload_n 1, 1) := by decide +kernel
theorem dX0_copyFrom_21 : decode cX0_copyFrom 21 = .ok (.getfield 15, 3) := by decide +kernel
theorem dX0_copyFrom_24 : decode cX0_copyFrom 24 = .ok (.iconst 0, 1) := by decide +kernel
theorem dX0_copyFrom_25 : decode cX0_copyFrom 25 = .ok (.aload_n 0, 1) := by decide +kernel
theorem dX0_copyFrom_26 : decode cX0_copyFrom 26 = .ok (.getfield 15, 3) := by decide +kernel
theorem dX0_copyFrom_29 : decode cX0_copyFrom 29 = .ok (.iconst 0, 1) := by decide +kernel
theorem dX0_copyFrom_30 : decode cX0_copyFrom 30 = .ok (.iload_n 2, 1) := by decide +kernel
theorem dX0_copyFrom_31 : decode cX0_copyFrom 31 = .ok (.invokestatic 34, 3) := by decide +kernel
theorem dX0_copyFrom_34 : decode cX0_copyFrom 34 = .ok (.aload_n 1, 1) := by decide +kernel
theorem dX0_copyFrom_35 : decode cX0_copyFrom 35 = .ok (.getfield 19, 3) := by decide +kernel
theorem dX0_copyFrom_38 : decode cX0_copyFrom 38 = .ok (.iconst 0, 1) := by decide +kernel
theorem dX0_copyFrom_39 : decode cX0_copyFrom 39 = .ok (.aload_n 0, 1) := by decide +kernel
theorem dX0_copyFrom_40 : decode cX0_copyFrom 40 = .ok (.getfield 19, 3) := by decide +kernel
theorem dX0_copyFrom_43 : decode cX0_copyFrom 43 = .ok (.iconst 0, 1) := by decide +kernel
theorem dX0_copyFrom_44 : decode cX0_copyFrom 44 = .ok (.iload_n 2, 1) := by decide +kernel
theorem dX0_copyFrom_45 : decode cX0_copyFrom 45 = .ok (.invokestatic 34, 3) := by decide +kernel
theorem dX0_copyFrom_48 : decode cX0_copyFrom 48 = .ok (.aload_n 1, 1) := by decide +kernel
theorem dX0_copyFrom_49 : decode cX0_copyFrom 49 = .ok (.getfield 22, 3) := by decide +kernel
theorem dX0_copyFrom_52 : decode cX0_copyFrom 52 = .ok (.iconst 0, 1) := by decide +kernel
theorem dX0_copyFrom_53 : decode cX0_copyFrom 53 = .ok (.aload_n 0, 1) := by decide +kernel
theorem dX0_copyFrom_54 : decode cX0_copyFrom 54 = .ok (.getfield 22, 3) := by decide +kernel
theorem dX0_copyFrom_57 : decode cX0_copyFrom 57 = .ok (.iconst 0, 1) := by decide +kernel
theorem dX0_copyFrom_58 : decode cX0_copyFrom 58 = .ok (.iload_n 2, 1) := by decide +kernel
theorem dX0_copyFrom_59 : decode cX0_copyFrom 59 = .ok (.invokestatic 34, 3) := by decide +kernel
theorem dX0_copyFrom_62 : decode cX0_copyFrom 62 = .ok (.aload_n 1, 1) := by decide +kernel
theorem dX0_copyFrom_63 : decode cX0_copyFrom 63 = .ok (.getfield 25, 3) := by decide +kernel
theorem dX0_copyFrom_66 : decode cX0_copyFrom 66 = .ok (.iconst 0, 1) := by decide +kernel
theorem dX0_copyFrom_67 : decode cX0_copyFrom 67 = .ok (.aload_n 0, 1) := by decide +kernel
theorem dX0_copyFrom_68 : decode cX0_copyFrom 68 = .ok (.getfield 25, 3) := by decide +kernel
theorem dX0_copyFrom_71 : decode cX0_copyFrom 71 = .ok (.iconst 0, 1) := by decide +kernel
theorem dX0_copyFrom_72 : decode cX0_copyFrom 72 = .ok (.iload_n 2, 1) := by decide +kernel
theorem dX0_copyFrom_73 : decode cX0_copyFrom 73 = .ok (.invokestatic 34, 3) := by decide +kernel
theorem dX0_copyFrom_76 : decode cX0_copyFrom 76 = .ok (.return_, 1) := by decide +kernel
theorem dX0_has_0 : decode cX0_has 0 = .ok (.iload_n 1, 1) := by decide +kernel
theorem dX0_has_1 : decode cX0_has 1 = .ok (.ifCond .lt 22, 3) := by decide +kernel
theorem dX0_has_4 : decode cX0_has 4 = .ok (.iload_n 1, 1) := by decide +kernel
theorem dX0_has_5 : decode cX0_has 5 = .ok (.aload_n 0, 1) := by decide +kernel
theorem dX0_has_6 : decode cX0_has 6 = .ok (.getfield 9, 3) := by decide +kernel
theorem dX0_has_9 : decode cX0_has 9 = .ok (.if_icmp .ge 14, 3) := by decide +kernel
theorem dX0_has_12 : decode cX0_has 12 = .ok (.iload_n 1, 1) := by decide +kernel
theorem dX0_has_13 : decode cX0_has 13 = .ok (.sipush 480, 3) := by decide +kernel
theorem dX0_has_16 : decode cX0_has 16 = .ok (.if_icmp .ge 7, 3) := by decide +kernel
theorem dX0_has_19 : decode cX0_has 19 = .ok (.iconst 1, 1) := by decide +kernel
theorem dX0_has_20 : decode cX0_has 20 = .ok (.goto 4, 3) := by decide +kernel
theorem dX0_has_23 : decode cX0_has 23 = .ok (.iconst 0, 1) := by decide +kernel
theorem dX0_has_24 : decode cX0_has 24 = .ok (.ireturn, 1) := by decide +kernel
theorem dX0_size_0 : decode cX0_size 0 = .ok (.aload_n 0, 1) := by decide +kernel
theorem dX0_size_1 : decode cX0_size 1 = .ok (.getfield 9, 3) := by decide +kernel
theorem dX0_size_4 : decode cX0_size 4 = .ok (.ireturn, 1) := by decide +kernel
theorem dX0_hammerOf_0 : decode cX0_hammerOf 0 = .ok (.aload_n 0, 1) := by decide +kernel
theorem dX0_hammerOf_1 : decode cX0_hammerOf 1 = .ok (.iload_n 1, 1) := by decide +kernel
theorem dX0_hammerOf_2 : decode cX0_hammerOf 2 = .ok (.invokevirtual 40, 3) := by decide +kernel
theorem dX0_hammerOf_5 : decode cX0_hammerOf 5 = .ok (.ifCond .eq 12, 3) := by decide +kernel
theorem dX0_hammerOf_8 : decode cX0_hammerOf 8 = .ok (.aload_n 0, 1) := by decide +kernel
theorem dX0_hammerOf_9 : decode cX0_hammerOf 9 = .ok (.getfield 15, 3) := by decide +kernel
theorem dX0_hammerOf_12 : decode cX0_hammerOf 12 = .ok (.iload_n 1, 1) := by decide +kernel
theorem dX0_hammerOf_13 : decode cX0_hammerOf 13 = .ok (.iaload, 1) := by decide +kernel
theorem dX0_hammerOf_14 : decode cX0_hammerOf 14 = .ok (.goto 4, 3) := by decide +kernel
theorem dX0_hammerOf_17 : decode cX0_hammerOf 17 = .ok (.iconst (-1), 1) := by decide +kernel
theorem dX0_hammerOf_18 : decode cX0_hammerOf 18 = .ok (.ireturn, 1) := by decide +kernel
theorem dX0_borrowerOf_0 : decode cX0_borrowerOf 0 = .ok (.aload_n 0, 1) := by decide +kernel
theorem dX0_borrowerOf_1 : decode cX0_borrowerOf 1 = .ok (.iload_n 1, 1) := by decide +kernel
theorem dX0_borrowerOf_2 : decode cX0_borrowerOf 2 = .ok (.invokevirtual 40, 3) := by decide +kernel
theorem dX0_borrowerOf_5 : decode cX0_borrowerOf 5 = .ok (.ifCond .eq 12, 3) := by decide +kernel
theorem dX0_borrowerOf_8 : decode cX0_borrowerOf 8 = .ok (.aload_n 0, 1) := by decide +kernel
theorem dX0_borrowerOf_9 : decode cX0_borrowerOf 9 = .ok (.getfield 19, 3) := by decide +kernel
theorem dX0_borrowerOf_12 : decode cX0_borrowerOf 12 = .ok (.iload_n 1, 1) := by decide +kernel
theorem dX0_borrowerOf_13 : decode cX0_borrowerOf 13 = .ok (.iaload, 1) := by decide +kernel
theorem dX0_borrowerOf_14 : decode cX0_borrowerOf 14 = .ok (.goto 4, 3) := by decide +kernel
theorem dX0_borrowerOf_17 : decode cX0_borrowerOf 17 = .ok (.iconst (-1), 1) := by decide +kernel
theorem dX0_borrowerOf_18 : decode cX0_borrowerOf 18 = .ok (.ireturn, 1) := by decide +kernel
theorem dX0_lastDayOf_0 : decode cX0_lastDayOf 0 = .ok (.aload_n 0, 1) := by decide +kernel
theorem dX0_lastDayOf_1 : decode cX0_lastDayOf 1 = .ok (.iload_n 1, 1) := by decide +kernel
theorem dX0_lastDayOf_2 : decode cX0_lastDayOf 2 = .ok (.invokevirtual 40, 3) := by decide +kernel
theorem dX0_lastDayOf_5 : decode cX0_lastDayOf 5 = .ok (.ifCond .eq 12, 3) := by decide +kernel
theorem dX0_lastDayOf_8 : decode cX0_lastDayOf 8 = .ok (.aload_n 0, 1) := by decide +kernel
theorem dX0_lastDayOf_9 : decode cX0_lastDayOf 9 = .ok (.getfield 25, 3) := by decide +kernel
theorem dX0_lastDayOf_12 : decode cX0_lastDayOf 12 = .ok (.iload_n 1, 1) := by decide +kernel
theorem dX0_lastDayOf_13 : decode cX0_lastDayOf 13 = .ok (.iaload, 1) := by decide +kernel
theorem dX0_lastDayOf_14 : decode cX0_lastDayOf 14 = .ok (.goto 4, 3) := by decide +kernel
theorem dX0_lastDayOf_17 : decode cX0_lastDayOf 17 = .ok (.iconst 0, 1) := by decide +kernel
theorem dX0_lastDayOf_18 : decode cX0_lastDayOf 18 = .ok (.ireturn, 1) := by decide +kernel
theorem dX0_add_0 : decode cX0_add 0 = .ok (.aload_n 0, 1) := by decide +kernel
theorem dX0_add_1 : decode cX0_add 1 = .ok (.getfield 9, 3) := by decide +kernel
theorem dX0_add_4 : decode cX0_add 4 = .ok (.ifCond .lt 13, 3) := by decide +kernel
theorem dX0_add_7 : decode cX0_add 7 = .ok (.aload_n 0, 1) := by decide +kernel
theorem dX0_add_8 : decode cX0_add 8 = .ok (.getfield 9, 3) := by decide +kernel
theorem dX0_add_11 : decode cX0_add 11 = .ok (.sipush 480, 3) := by decide +kernel
theorem dX0_add_14 : decode cX0_add 14 = .ok (.if_icmp .lt 4, 3) := by decide +kernel
theorem dX0_add_17 : decode cX0_add 17 = .ok (.return_, 1) := by decide +kernel
theorem dX0_add_18 : decode cX0_add 18 = .ok (.aload_n 0, 1) := by decide +kernel
theorem dX0_add_19 : decode cX0_add 19 = .ok (.getfield 15, 3) := by decide +kernel
theorem dX0_add_22 : decode cX0_add 22 = .ok (.aload_n 0, 1) := by decide +kernel
theorem dX0_add_23 : decode cX0_add 23 = .ok (.getfield 9, 3) := by decide +kernel
theorem dX0_add_26 : decode cX0_add 26 = .ok (.iload_n 1, 1) := by decide +kernel
theorem dX0_add_27 : decode cX0_add 27 = .ok (.iastore, 1) := by decide +kernel
theorem dX0_add_28 : decode cX0_add 28 = .ok (.aload_n 0, 1) := by decide +kernel
theorem dX0_add_29 : decode cX0_add 29 = .ok (.getfield 19, 3) := by decide +kernel
theorem dX0_add_32 : decode cX0_add 32 = .ok (.aload_n 0, 1) := by decide +kernel
theorem dX0_add_33 : decode cX0_add 33 = .ok (.getfield 9, 3) := by decide +kernel
theorem dX0_add_36 : decode cX0_add 36 = .ok (.iload_n 2, 1) := by decide +kernel
theorem dX0_add_37 : decode cX0_add 37 = .ok (.iastore, 1) := by decide +kernel
theorem dX0_add_38 : decode cX0_add 38 = .ok (.aload_n 0, 1) := by decide +kernel
theorem dX0_add_39 : decode cX0_add 39 = .ok (.getfield 22, 3) := by decide +kernel
theorem dX0_add_42 : decode cX0_add 42 = .ok (.aload_n 0, 1) := by decide +kernel
theorem dX0_add_43 : decode cX0_add 43 = .ok (.getfield 9, 3) := by decide +kernel
theorem dX0_add_46 : decode cX0_add 46 = .ok (.iload_n 3, 1) := by decide +kernel
theorem dX0_add_47 : decode cX0_add 47 = .ok (.iastore, 1) := by decide +kernel
theorem dX0_add_48 : decode cX0_add 48 = .ok (.aload_n 0, 1) := by decide +kernel
theorem dX0_add_49 : decode cX0_add 49 = .ok (.getfield 25, 3) := by decide +kernel
theorem dX0_add_52 : decode cX0_add 52 = .ok (.aload_n 0, 1) := by decide +kernel
theorem dX0_add_53 : decode cX0_add 53 = .ok (.getfield 9, 3) := by decide +kernel
theorem dX0_add_56 : decode cX0_add 56 = .ok (.iload 4, 2) := by decide +kernel
theorem dX0_add_58 : decode cX0_add 58 = .ok (.iastore, 1) := by decide +kernel
theorem dX0_add_59 : decode cX0_add 59 = .ok (.aload_n 0, 1) := by decide +kernel
theorem dX0_add_60 : decode cX0_add 60 = .ok (.dup, 1) := by decide +kernel
theorem dX0_add_61 : decode cX0_add 61 = .ok (.getfield 9, 3) := by decide +kernel
theorem dX0_add_64 : decode cX0_add 64 = .ok (.iconst 1, 1) := by decide +kernel
theorem dX0_add_65 : decode cX0_add 65 = .ok (.iadd, 1) := by decide +kernel
theorem dX0_add_66 : decode cX0_add 66 = .ok (.putfield 9, 3) := by decide +kernel
theorem dX0_add_69 : decode cX0_add 69 = .ok (.return_, 1) := by decide +kernel
theorem dX0_remove_0 : decode cX0_remove 0 = .ok (.aload_n 0, 1) := by decide +kernel
theorem dX0_remove_1 : decode cX0_remove 1 = .ok (.iload_n 1, 1) := by decide +kernel
theorem dX0_remove_2 : decode cX0_remove 2 = .ok (.invokevirtual 40, 3) := by decide +kernel
theorem dX0_remove_5 : decode cX0_remove 5 = .ok (.ifCond .ne 4, 3) := by decide +kernel
theorem dX0_remove_8 : decode cX0_remove 8 = .ok (.return_, 1) := by decide +kernel
theorem dX0_remove_9 : decode cX0_remove 9 = .ok (.aload_n 0, 1) := by decide +kernel
theorem dX0_remove_10 : decode cX0_remove 10 = .ok (.dup, 1) := by decide +kernel
theorem dX0_remove_11 : decode cX0_remove 11 = .ok (.getfield 9, 3) := by decide +kernel
theorem dX0_remove_14 : decode cX0_remove 14 = .ok (.iconst 1, 1) := by decide +kernel
theorem dX0_remove_15 : decode cX0_remove 15 = .ok (.isub, 1) := by decide +kernel
theorem dX0_remove_16 : decode cX0_remove 16 = .ok (.putfield 9, 3) := by decide +kernel
theorem dX0_remove_19 : decode cX0_remove 19 = .ok (.iload_n 1, 1) := by decide +kernel
theorem dX0_remove_20 : decode cX0_remove 20 = .ok (.istore_n 2, 1) := by decide +kernel
theorem dX0_remove_21 : decode cX0_remove 21 = .ok (.iload_n 2, 1) := by decide +kernel
theorem dX0_remove_22 : decode cX0_remove 22 = .ok (.aload_n 0, 1) := by decide +kernel
theorem dX0_remove_23 : decode cX0_remove 23 = .ok (.getfield 9, 3) := by decide +kernel
theorem dX0_remove_26 : decode cX0_remove 26 = .ok (.if_icmp .ge 74, 3) := by decide +kernel
theorem dX0_remove_29 : decode cX0_remove 29 = .ok (.iload_n 2, 1) := by decide +kernel
theorem dX0_remove_30 : decode cX0_remove 30 = .ok (.iconst 1, 1) := by decide +kernel
theorem dX0_remove_31 : decode cX0_remove 31 = .ok (.iadd, 1) := by decide +kernel
theorem dX0_remove_32 : decode cX0_remove 32 = .ok (.sipush 480, 3) := by decide +kernel
theorem dX0_remove_35 : decode cX0_remove 35 = .ok (.if_icmp .ge 65, 3) := by decide +kernel
theorem dX0_remove_38 : decode cX0_remove 38 = .ok (.aload_n 0, 1) := by decide +kernel
theorem dX0_remove_39 : decode cX0_remove 39 = .ok (.getfield 15, 3) := by decide +kernel
theorem dX0_remove_42 : decode cX0_remove 42 = .ok (.iload_n 2, 1) := by decide +kernel
theorem dX0_remove_43 : decode cX0_remove 43 = .ok (.aload_n 0, 1) := by decide +kernel
theorem dX0_remove_44 : decode cX0_remove 44 = .ok (.getfield 15, 3) := by decide +kernel
theorem dX0_remove_47 : decode cX0_remove 47 = .ok (.iload_n 2, 1) := by decide +kernel
theorem dX0_remove_48 : decode cX0_remove 48 = .ok (.iconst 1, 1) := by decide +kernel
theorem dX0_remove_49 : decode cX0_remove 49 = .ok (.iadd, 1) := by decide +kernel
theorem dX0_remove_50 : decode cX0_remove 50 = .ok (.iaload, 1) := by decide +kernel
theorem dX0_remove_51 : decode cX0_remove 51 = .ok (.iastore, 1) := by decide +kernel
theorem dX0_remove_52 : decode cX0_remove 52 = .ok (.aload_n 0, 1) := by decide +kernel
theorem dX0_remove_53 : decode cX0_remove 53 = .ok (.getfield 19, 3) := by decide +kernel
theorem dX0_remove_56 : decode cX0_remove 56 = .ok (.iload_n 2, 1) := by decide +kernel
theorem dX0_remove_57 : decode cX0_remove 57 = .ok (.aload_n 0, 1) := by decide +kernel
theorem dX0_remove_58 : decode cX0_remove 58 = .ok (.getfield 19, 3) := by decide +kernel
theorem dX0_remove_61 : decode cX0_remove 61 = .ok (.iload_n 2, 1) := by decide +kernel
theorem dX0_remove_62 : decode cX0_remove 62 = .ok (.iconst 1, 1) := by decide +kernel
theorem dX0_remove_63 : decode cX0_remove 63 = .ok (.iadd, 1) := by decide +kernel
theorem dX0_remove_64 : decode cX0_remove 64 = .ok (.iaload, 1) := by decide +kernel
theorem dX0_remove_65 : decode cX0_remove 65 = .ok (.iastore, 1) := by decide +kernel
theorem dX0_remove_66 : decode cX0_remove 66 = .ok (.aload_n 0, 1) := by decide +kernel
theorem dX0_remove_67 : decode cX0_remove 67 = .ok (.getfield 22, 3) := by decide +kernel
theorem dX0_remove_70 : decode cX0_remove 70 = .ok (.iload_n 2, 1) := by decide +kernel
theorem dX0_remove_71 : decode cX0_remove 71 = .ok (.aload_n 0, 1) := by decide +kernel
theorem dX0_remove_72 : decode cX0_remove 72 = .ok (.getfield 22, 3) := by decide +kernel
theorem dX0_remove_75 : decode cX0_remove 75 = .ok (.iload_n 2, 1) := by decide +kernel
theorem dX0_remove_76 : decode cX0_remove 76 = .ok (.iconst 1, 1) := by decide +kernel
theorem dX0_remove_77 : decode cX0_remove 77 = .ok (.iadd, 1) := by decide +kernel
theorem dX0_remove_78 : decode cX0_remove 78 = .ok (.iaload, 1) := by decide +kernel
theorem dX0_remove_79 : decode cX0_remove 79 = .ok (.iastore, 1) := by decide +kernel
theorem dX0_remove_80 : decode cX0_remove 80 = .ok (.aload_n 0, 1) := by decide +kernel
theorem dX0_remove_81 : decode cX0_remove 81 = .ok (.getfield 25, 3) := by decide +kernel
theorem dX0_remove_84 : decode cX0_remove 84 = .ok (.iload_n 2, 1) := by decide +kernel
theorem dX0_remove_85 : decode cX0_remove 85 = .ok (.aload_n 0, 1) := by decide +kernel
theorem dX0_remove_86 : decode cX0_remove 86 = .ok (.getfield 25, 3) := by decide +kernel
theorem dX0_remove_89 : decode cX0_remove 89 = .ok (.iload_n 2, 1) := by decide +kernel
theorem dX0_remove_90 : decode cX0_remove 90 = .ok (.iconst 1, 1) := by decide +kernel
theorem dX0_remove_91 : decode cX0_remove 91 = .ok (.iadd, 1) := by decide +kernel
theorem dX0_remove_92 : decode cX0_remove 92 = .ok (.iaload, 1) := by decide +kernel
theorem dX0_remove_93 : decode cX0_remove 93 = .ok (.iastore, 1) := by decide +kernel
theorem dX0_remove_94 : decode cX0_remove 94 = .ok (.iinc 2 1, 3) := by decide +kernel
theorem dX0_remove_97 : decode cX0_remove 97 = .ok (.goto (-76), 3) := by decide +kernel
theorem dX0_remove_100 : decode cX0_remove 100 = .ok (.return_, 1) := by decide +kernel
theorem dX0_countOf_0 : decode cX0_countOf 0 = .ok (.iconst 0, 1) := by decide +kernel
theorem dX0_countOf_1 : decode cX0_countOf 1 = .ok (.istore_n 2, 1) := by decide +kernel
theorem dX0_countOf_2 : decode cX0_countOf 2 = .ok (.iconst 0, 1) := by decide +kernel
theorem dX0_countOf_3 : decode cX0_countOf 3 = .ok (.istore_n 3, 1) := by decide +kernel
theorem dX0_countOf_4 : decode cX0_countOf 4 = .ok (.iload_n 3, 1) := by decide +kernel
theorem dX0_countOf_5 : decode cX0_countOf 5 = .ok (.aload_n 0, 1) := by decide +kernel
theorem dX0_countOf_6 : decode cX0_countOf 6 = .ok (.getfield 9, 3) := by decide +kernel
theorem dX0_countOf_9 : decode cX0_countOf 9 = .ok (.if_icmp .ge 30, 3) := by decide +kernel
theorem dX0_countOf_12 : decode cX0_countOf 12 = .ok (.aload_n 0, 1) := by decide +kernel
theorem dX0_countOf_13 : decode cX0_countOf 13 = .ok (.iload_n 3, 1) := by decide +kernel
theorem dX0_countOf_14 : decode cX0_countOf 14 = .ok (.invokevirtual 40, 3) := by decide +kernel
theorem dX0_countOf_17 : decode cX0_countOf 17 = .ok (.ifCond .eq 22, 3) := by decide +kernel
theorem dX0_countOf_20 : decode cX0_countOf 20 = .ok (.aload_n 0, 1) := by decide +kernel
theorem dX0_countOf_21 : decode cX0_countOf 21 = .ok (.getfield 15, 3) := by decide +kernel
theorem dX0_countOf_24 : decode cX0_countOf 24 = .ok (.iload_n 3, 1) := by decide +kernel
theorem dX0_countOf_25 : decode cX0_countOf 25 = .ok (.iaload, 1) := by decide +kernel
theorem dX0_countOf_26 : decode cX0_countOf 26 = .ok (.iload_n 1, 1) := by decide +kernel
theorem dX0_countOf_27 : decode cX0_countOf 27 = .ok (.if_icmp .ne 6, 3) := by decide +kernel
theorem dX0_countOf_30 : decode cX0_countOf 30 = .ok (.iinc 2 1, 3) := by decide +kernel
theorem dX0_countOf_33 : decode cX0_countOf 33 = .ok (.iinc 3 1, 3) := by decide +kernel
theorem dX0_countOf_36 : decode cX0_countOf 36 = .ok (.goto (-32), 3) := by decide +kernel
theorem dX0_countOf_39 : decode cX0_countOf 39 = .ok (.iload_n 2, 1) := by decide +kernel
theorem dX0_countOf_40 : decode cX0_countOf 40 = .ok (.ireturn, 1) := by decide +kernel
theorem dX0_meets_0 : decode cX0_meets 0 = .ok (.iconst 0, 1) := by decide +kernel
theorem dX0_meets_1 : decode cX0_meets 1 = .ok (.istore 4, 2) := by decide +kernel
theorem dX0_meets_3 : decode cX0_meets 3 = .ok (.iload 4, 2) := by decide +kernel
theorem dX0_meets_5 : decode cX0_meets 5 = .ok (.aload_n 0, 1) := by decide +kernel
theorem dX0_meets_6 : decode cX0_meets 6 = .ok (.getfield 9, 3) := by decide +kernel
theorem dX0_meets_9 : decode cX0_meets 9 = .ok (.if_icmp .ge 53, 3) := by decide +kernel
theorem dX0_meets_12 : decode cX0_meets 12 = .ok (.aload_n 0, 1) := by decide +kernel
theorem dX0_meets_13 : decode cX0_meets 13 = .ok (.iload 4, 2) := by decide +kernel
theorem dX0_meets_15 : decode cX0_meets 15 = .ok (.invokevirtual 40, 3) := by decide +kernel
theorem dX0_meets_18 : decode cX0_meets 18 = .ok (.ifCond .eq 44, 3) := by decide +kernel
theorem dX0_meets_21 : decode cX0_meets 21 = .ok (.aload_n 0, 1) := by decide +kernel
theorem dX0_meets_22 : decode cX0_meets 22 = .ok (.getfield 15, 3) := by decide +kernel
theorem dX0_meets_25 : decode cX0_meets 25 = .ok (.iload 4, 2) := by decide +kernel
theorem dX0_meets_27 : decode cX0_meets 27 = .ok (.iaload, 1) := by decide +kernel
theorem dX0_meets_28 : decode cX0_meets 28 = .ok (.iload_n 1, 1) := by decide +kernel
theorem dX0_meets_29 : decode cX0_meets 29 = .ok (.if_icmp .ne 27, 3) := by decide +kernel
theorem dX0_meets_32 : decode cX0_meets 32 = .ok (.aload_n 0, 1) := by decide +kernel
theorem dX0_meets_33 : decode cX0_meets 33 = .ok (.getfield 22, 3) := by decide +kernel
theorem dX0_meets_36 : decode cX0_meets 36 = .ok (.iload 4, 2) := by decide +kernel
theorem dX0_meets_38 : decode cX0_meets 38 = .ok (.iaload, 1) := by decide +kernel
theorem dX0_meets_39 : decode cX0_meets 39 = .ok (.iload_n 3, 1) := by decide +kernel
theorem dX0_meets_40 : decode cX0_meets 40 = .ok (.if_icmp .gt 16, 3) := by decide +kernel
theorem dX0_meets_43 : decode cX0_meets 43 = .ok (.aload_n 0, 1) := by decide +kernel
theorem dX0_meets_44 : decode cX0_meets 44 = .ok (.getfield 25, 3) := by decide +kernel
theorem dX0_meets_47 : decode cX0_meets 47 = .ok (.iload 4, 2) := by decide +kernel
theorem dX0_meets_49 : decode cX0_meets 49 = .ok (.iaload, 1) := by decide +kernel
theorem dX0_meets_50 : decode cX0_meets 50 = .ok (.iload_n 2, 1) := by decide +kernel
theorem dX0_meets_51 : decode cX0_meets 51 = .ok (.if_icmp .lt 5, 3) := by decide +kernel
theorem dX0_meets_54 : decode cX0_meets 54 = .ok (.iconst 1, 1) := by decide +kernel
theorem dX0_meets_55 : decode cX0_meets 55 = .ok (.ireturn, 1) := by decide +kernel
theorem dX0_meets_56 : decode cX0_meets 56 = .ok (.iinc 4 1, 3) := by decide +kernel
theorem dX0_meets_59 : decode cX0_meets 59 = .ok (.goto (-56), 3) := by decide +kernel
theorem dX0_meets_62 : decode cX0_meets 62 = .ok (.iconst 0, 1) := by decide +kernel
theorem dX0_meets_63 : decode cX0_meets 63 = .ok (.ireturn, 1) := by decide +kernel
theorem dX0_beginningOn_0 : decode cX0_beginningOn 0 = .ok (.iconst 0, 1) := by decide +kernel
theorem dX0_beginningOn_1 : decode cX0_beginningOn 1 = .ok (.istore_n 2, 1) := by decide +kernel
theorem dX0_beginningOn_2 : decode cX0_beginningOn 2 = .ok (.iload_n 2, 1) := by decide +kernel
theorem dX0_beginningOn_3 : decode cX0_beginningOn 3 = .ok (.aload_n 0, 1) := by decide +kernel
theorem dX0_beginningOn_4 : decode cX0_beginningOn 4 = .ok (.getfield 9, 3) := by decide +kernel
theorem dX0_beginningOn_7 : decode cX0_beginningOn 7 = .ok (.if_icmp .ge 29, 3) := by decide +kernel
theorem dX0_beginningOn_10 : decode cX0_beginningOn 10 = .ok (.aload_n 0, 1) := by decide +kernel
theorem dX0_beginningOn_11 : decode cX0_beginningOn 11 = .ok (.iload_n 2, 1) := by decide +kernel
theorem dX0_beginningOn_12 : decode cX0_beginningOn 12 = .ok (.invokevirtual 40, 3) := by decide +kernel
theorem dX0_beginningOn_15 : decode cX0_beginningOn 15 = .ok (.ifCond .eq 21, 3) := by decide +kernel
theorem dX0_beginningOn_18 : decode cX0_beginningOn 18 = .ok (.aload_n 0, 1) := by decide +kernel
theorem dX0_beginningOn_19 : decode cX0_beginningOn 19 = .ok (.getfield 22, 3) := by decide +kernel
theorem dX0_beginningOn_22 : decode cX0_beginningOn 22 = .ok (.iload_n 2, 1) := by decide +kernel
theorem dX0_beginningOn_23 : decode cX0_beginningOn 23 = .ok (.iaload, 1) := by decide +kernel
theorem dX0_beginningOn_24 : decode cX0_beginningOn 24 = .ok (.iload_n 1, 1) := by decide +kernel
theorem dX0_beginningOn_25 : decode cX0_beginningOn 25 = .ok (.if_icmp .ne 5, 3) := by decide +kernel
theorem dX0_beginningOn_28 : decode cX0_beginningOn 28 = .ok (.iload_n 2, 1) := by decide +kernel
theorem dX0_beginningOn_29 : decode cX0_beginningOn 29 = .ok (.ireturn, 1) := by decide +kernel
theorem dX0_beginningOn_30 : decode cX0_beginningOn 30 = .ok (.iinc 2 1, 3) := by decide +kernel
theorem dX0_beginningOn_33 : decode cX0_beginningOn 33 = .ok (.goto (-31), 3) := by decide +kernel
theorem dX0_beginningOn_36 : decode cX0_beginningOn 36 = .ok (.iconst (-1), 1) := by decide +kernel
theorem dX0_beginningOn_37 : decode cX0_beginningOn 37 = .ok (.ireturn, 1) := by decide +kernel
theorem dX1_init_0 : decode cX1_init 0 = .ok (.aload_n 0, 1) := by decide +kernel
theorem dX1_init_1 : decode cX1_init 1 = .ok (.invokespecial 3, 3) := by decide +kernel
theorem dX1_init_4 : decode cX1_init 4 = .ok (.aload_n 0, 1) := by decide +kernel
theorem dX1_init_5 : decode cX1_init 5 = .ok (.iconst 0, 1) := by decide +kernel
theorem dX1_init_6 : decode cX1_init 6 = .ok (.putfield 9, 3) := by decide +kernel
theorem dX1_init_9 : decode cX1_init 9 = .ok (.aload_n 0, 1) := by decide +kernel
theorem dX1_init_10 : decode cX1_init 10 = .ok (.iconst 0, 1) := by decide +kernel
theorem dX1_init_11 : decode cX1_init 11 = .ok (.putfield 15, 3) := by decide +kernel
theorem dX1_init_14 : decode cX1_init 14 = .ok (.aload_n 0, 1) := by decide +kernel
theorem dX1_init_15 : decode cX1_init 15 = .ok (.bipush 12, 2) := by decide +kernel
theorem dX1_init_17 : decode cX1_init 17 = .ok (.newarray .int, 2) := by decide +kernel
theorem dX1_init_19 : decode cX1_init 19 = .ok (.putfield 18, 3) := by decide +kernel
theorem dX1_init_22 : decode cX1_init 22 = .ok (.aload_n 0, 1) := by decide +kernel
theorem dX1_init_23 : decode cX1_init 23 = .ok (.sipush 144, 3) := by decide +kernel
theorem dX1_init_26 : decode cX1_init 26 = .ok (.newarray .int, 2) := by decide +kernel
theorem dX1_init_28 : decode cX1_init 28 = .ok (.putfield 22, 3) := by decide +kernel
theorem dX1_init_31 : decode cX1_init 31 = .ok (.return_, 1) := by decide +kernel
theorem dX1_loudnessAbove_0 : decode cX1_loudnessAbove 0 = .ok (.iload_n 0, 1) := by decide +kernel
theorem dX1_loudnessAbove_1 : decode cX1_loudnessAbove 1 = .ok (.lookupswitch 52 #[(0, 43), (12, 46), (19, 48), (24, 50)], 43) := by decide +kernel
theorem dX1_loudnessAbove_44 : decode cX1_loudnessAbove 44 = .ok (.bipush 8, 2) := by decide +kernel
theorem dX1_loudnessAbove_46 : decode cX1_loudnessAbove 46 = .ok (.ireturn, 1) := by decide +kernel
theorem dX1_loudnessAbove_47 : decode cX1_loudnessAbove 47 = .ok (.iconst 4, 1) := by decide +kernel
theorem dX1_loudnessAbove_48 : decode cX1_loudnessAbove 48 = .ok (.ireturn, 1) := by decide +kernel
theorem dX1_loudnessAbove_49 : decode cX1_loudnessAbove 49 = .ok (.iconst 2, 1) := by decide +kernel
theorem dX1_loudnessAbove_50 : decode cX1_loudnessAbove 50 = .ok (.ireturn, 1) := by decide +kernel
theorem dX1_loudnessAbove_51 : decode cX1_loudnessAbove 51 = .ok (.iconst 1, 1) := by decide +kernel
theorem dX1_loudnessAbove_52 : decode cX1_loudnessAbove 52 = .ok (.ireturn, 1) := by decide +kernel
theorem dX1_loudnessAbove_53 : decode cX1_loudnessAbove 53 = .ok (.iconst 0, 1) := by decide +kernel
theorem dX1_loudnessAbove_54 : decode cX1_loudnessAbove 54 = .ok (.ireturn, 1) := by decide +kernel
theorem dX1_loudnessOf_0 : decode cX1_loudnessOf 0 = .ok (.iload_n 2, 1) := by decide +kernel
theorem dX1_loudnessOf_1 : decode cX1_loudnessOf 1 = .ok (.ifCond .lt 9, 3) := by decide +kernel
theorem dX1_loudnessOf_4 : decode cX1_loudnessOf 4 = .ok (.iload_n 2, 1) := by decide +kernel
theorem dX1_loudnessOf_5 : decode cX1_loudnessOf 5 = .ok (.bipush 84, 2) := by decide +kernel
theorem dX1_loudnessOf_7 : decode cX1_loudnessOf 7 = .ok (.if_icmp .le 5, 3) := by decide +kernel
theorem dX1_loudnessOf_10 : decode cX1_loudnessOf 10 = .ok (.iconst 0, 1) := by decide +kernel
theorem dX1_loudnessOf_11 : decode cX1_loudnessOf 11 = .ok (.ireturn, 1) := by decide +kernel
theorem dX1_loudnessOf_12 : decode cX1_loudnessOf 12 = .ok (.iconst 0, 1) := by decide +kernel
theorem dX1_loudnessOf_13 : decode cX1_loudnessOf 13 = .ok (.istore_n 3, 1) := by decide +kernel
theorem dX1_loudnessOf_14 : decode cX1_loudnessOf 14 = .ok (.iconst 0, 1) := by decide +kernel
theorem dX1_loudnessOf_15 : decode cX1_loudnessOf 15 = .ok (.istore 4, 2) := by decide +kernel
theorem dX1_loudnessOf_17 : decode cX1_loudnessOf 17 = .ok (.iload 4, 2) := by decide +kernel
theorem dX1_loudnessOf_19 : decode cX1_loudnessOf 19 = .ok (.bipush 6, 2) := by decide +kernel
theorem dX1_loudnessOf_21 : decode cX1_loudnessOf 21 = .ok (.if_icmp .ge 38, 3) := by decide +kernel
theorem dX1_loudnessOf_24 : decode cX1_loudnessOf 24 = .ok (.aload_n 0, 1) := by decide +kernel
theorem dX1_loudnessOf_25 : decode cX1_loudnessOf 25 = .ok (.iload_n 1, 1) := by decide +kernel
theorem dX1_loudnessOf_26 : decode cX1_loudnessOf 26 = .ok (.iload 4, 2) := by decide +kernel
theorem dX1_loudnessOf_28 : decode cX1_loudnessOf 28 = .ok (.invokevirtual 25, 3) := by decide +kernel
theorem dX1_loudnessOf_31 : decode cX1_loudnessOf 31 = .ok (.istore 5, 2) := by decide +kernel
theorem dX1_loudnessOf_33 : decode cX1_loudnessOf 33 = .ok (.iload 5, 2) := by decide +kernel
theorem dX1_loudnessOf_35 : decode cX1_loudnessOf 35 = .ok (.iconst (-1), 1) := by decide +kernel
theorem dX1_loudnessOf_36 : decode cX1_loudnessOf 36 = .ok (.if_icmp .eq 17, 3) := by decide +kernel
theorem dX1_loudnessOf_39 : decode cX1_loudnessOf 39 = .ok (.iload_n 3, 1) := by decide +kernel
theorem dX1_loudnessOf_40 : decode cX1_loudnessOf 40 = .ok (.iload_n 2, 1) := by decide +kernel
theorem dX1_loudnessOf_41 : decode cX1_loudnessOf 41 = .ok (.aload_n 0, 1) := by decide +kernel
theorem dX1_loudnessOf_42 : decode cX1_loudnessOf 42 = .ok (.iload 5, 2) := by decide +kernel
theorem dX1_loudnessOf_44 : decode cX1_loudnessOf 44 = .ok (.invokevirtual 31, 3) := by decide +kernel
theorem dX1_loudnessOf_47 : decode cX1_loudnessOf 47 = .ok (.isub, 1) := by decide +kernel
theorem dX1_loudnessOf_48 : decode cX1_loudnessOf 48 = .ok (.invokestatic 35, 3) := by decide +kernel
theorem dX1_loudnessOf_51 : decode cX1_loudnessOf 51 = .ok (.iadd, 1) := by decide +kernel
theorem dX1_loudnessOf_52 : decode cX1_loudnessOf 52 = .ok (.istore_n 3, 1) := by decide +kernel
theorem dX1_loudnessOf_53 : decode cX1_loudnessOf 53 = .ok (.iinc 4 1, 3) := by decide +kernel
theorem dX1_loudnessOf_56 : decode cX1_loudnessOf 56 = .ok (.goto (-39), 3) := by decide +kernel
theorem dX1_loudnessOf_59 : decode cX1_loudnessOf 59 = .ok (.iload_n 3, 1) := by decide +kernel
theorem dX1_loudnessOf_60 : decode cX1_loudnessOf 60 = .ok (.ireturn, 1) := by decide +kernel
theorem dX1_loudestOf_0 : decode cX1_loudestOf 0 = .ok (.iconst 0, 1) := by decide +kernel
theorem dX1_loudestOf_1 : decode cX1_loudestOf 1 = .ok (.istore_n 2, 1) := by decide +kernel
theorem dX1_loudestOf_2 : decode cX1_loudestOf 2 = .ok (.iconst 0, 1) := by decide +kernel
theorem dX1_loudestOf_3 : decode cX1_loudestOf 3 = .ok (.istore_n 3, 1) := by decide +kernel
theorem dX1_loudestOf_4 : decode cX1_loudestOf 4 = .ok (.iconst 0, 1) := by decide +kernel
theorem dX1_loudestOf_5 : decode cX1_loudestOf 5 = .ok (.istore 4, 2) := by decide +kernel
theorem dX1_loudestOf_7 : decode cX1_loudestOf 7 = .ok (.iload 4, 2) := by decide +kernel
theorem dX1_loudestOf_9 : decode cX1_loudestOf 9 = .ok (.bipush 84, 2) := by decide +kernel
theorem dX1_loudestOf_11 : decode cX1_loudestOf 11 = .ok (.if_icmp .gt 30, 3) := by decide +kernel
theorem dX1_loudestOf_14 : decode cX1_loudestOf 14 = .ok (.aload_n 0, 1) := by decide +kernel
theorem dX1_loudestOf_15 : decode cX1_loudestOf 15 = .ok (.iload_n 1, 1) := by decide +kernel
theorem dX1_loudestOf_16 : decode cX1_loudestOf 16 = .ok (.iload 4, 2) := by decide +kernel
theorem dX1_loudestOf_18 : decode cX1_loudestOf 18 = .ok (.invokestatic 38, 3) := by decide +kernel
theorem dX1_loudestOf_21 : decode cX1_loudestOf 21 = .ok (.istore 5, 2) := by decide +kernel
theorem dX1_loudestOf_23 : decode cX1_loudestOf 23 = .ok (.iload 5, 2) := by decide +kernel
theorem dX1_loudestOf_25 : decode cX1_loudestOf 25 = .ok (.iload_n 3, 1) := by decide +kernel
theorem dX1_loudestOf_26 : decode cX1_loudestOf 26 = .ok (.if_icmp .le 9, 3) := by decide +kernel
theorem dX1_loudestOf_29 : decode cX1_loudestOf 29 = .ok (.iload 5, 2) := by decide +kernel
theorem dX1_loudestOf_31 : decode cX1_loudestOf 31 = .ok (.istore_n 3, 1) := by decide +kernel
theorem dX1_loudestOf_32 : decode cX1_loudestOf 32 = .ok (.iload 4, 2) := by decide +kernel
theorem dX1_loudestOf_34 : decode cX1_loudestOf 34 = .ok (.istore_n 2, 1) := by decide +kernel
theorem dX1_loudestOf_35 : decode cX1_loudestOf 35 = .ok (.iinc 4 1, 3) := by decide +kernel
theorem dX1_loudestOf_38 : decode cX1_loudestOf 38 = .ok (.goto (-31), 3) := by decide +kernel
theorem dX1_loudestOf_41 : decode cX1_loudestOf 41 = .ok (.iload_n 2, 1) := by decide +kernel
theorem dX1_loudestOf_42 : decode cX1_loudestOf 42 = .ok (.ireturn, 1) := by decide +kernel
theorem dX1_between_0 : decode cX1_between 0 = .ok (.iconst 0, 1) := by decide +kernel
theorem dX1_between_1 : decode cX1_between 1 = .ok (.istore_n 2, 1) := by decide +kernel
theorem dX1_between_2 : decode cX1_between 2 = .ok (.getstatic 42, 3) := by decide +kernel
theorem dX1_between_5 : decode cX1_between 5 = .ok (.astore_n 3, 1) := by decide +kernel
theorem dX1_between_6 : decode cX1_between 6 = .ok (.aload_n 3, 1) := by decide +kernel
theorem dX1_between_7 : decode cX1_between 7 = .ok (.arraylength, 1) := by decide +kernel
theorem dX1_between_8 : decode cX1_between 8 = .ok (.istore 4, 2) := by decide +kernel
theorem dX1_between_10 : decode cX1_between 10 = .ok (.iconst 0, 1) := by decide +kernel
theorem dX1_between_11 : decode cX1_between 11 = .ok (.istore 5, 2) := by decide +kernel
theorem dX1_between_13 : decode cX1_between 13 = .ok (.iload 5, 2) := by decide +kernel
theorem dX1_between_15 : decode cX1_between 15 = .ok (.iload 4, 2) := by decide +kernel
theorem dX1_between_17 : decode cX1_between 17 = .ok (.if_icmp .ge 35, 3) := by decide +kernel
theorem dX1_between_20 : decode cX1_between 20 = .ok (.aload_n 3, 1) := by decide +kernel
theorem dX1_between_21 : decode cX1_between 21 = .ok (.iload 5, 2) := by decide +kernel
theorem dX1_between_23 : decode cX1_between 23 = .ok (.iaload, 1) := by decide +kernel
theorem dX1_between_24 : decode cX1_between 24 = .ok (.istore 6, 2) := by decide +kernel
theorem dX1_between_26 : decode cX1_between 26 = .ok (.iload_n 2, 1) := by decide +kernel
theorem dX1_between_27 : decode cX1_between 27 = .ok (.iload 6, 2) := by decide +kernel
theorem dX1_between_29 : decode cX1_between 29 = .ok (.invokestatic 35, 3) := by decide +kernel
theorem dX1_between_32 : decode cX1_between 32 = .ok (.iload_n 0, 1) := by decide +kernel
theorem dX1_between_33 : decode cX1_between 33 = .ok (.iload 6, 2) := by decide +kernel
theorem dX1_between_35 : decode cX1_between 35 = .ok (.iadd, 1) := by decide +kernel
theorem dX1_between_36 : decode cX1_between 36 = .ok (.iload_n 1, 1) := by decide +kernel
theorem dX1_between_37 : decode cX1_between 37 = .ok (.isub, 1) := by decide +kernel
theorem dX1_between_38 : decode cX1_between 38 = .ok (.invokestatic 35, 3) := by decide +kernel
theorem dX1_between_41 : decode cX1_between 41 = .ok (.invokestatic 45, 3) := by decide +kernel
theorem dX1_between_44 : decode cX1_between 44 = .ok (.iadd, 1) := by decide +kernel
theorem dX1_between_45 : decode cX1_between 45 = .ok (.istore_n 2, 1) := by decide +kernel
theorem dX1_between_46 : decode cX1_between 46 = .ok (.iinc 5 1, 3) := by decide +kernel
theorem dX1_between_49 : decode cX1_between 49 = .ok (.goto (-36), 3) := by decide +kernel
theorem dX1_between_52 : decode cX1_between 52 = .ok (.iload_n 2, 1) := by decide +kernel
theorem dX1_between_53 : decode cX1_between 53 = .ok (.ireturn, 1) := by decide +kernel
theorem dX1_load_0 : decode cX1_load 0 = .ok (.aload_n 0, 1) := by decide +kernel
theorem dX1_load_1 : decode cX1_load 1 = .ok (.iconst 0, 1) := by decide +kernel
theorem dX1_load_2 : decode cX1_load 2 = .ok (.putfield 9, 3) := by decide +kernel
theorem dX1_load_5 : decode cX1_load 5 = .ok (.iconst 0, 1) := by decide +kernel
theorem dX1_load_6 : decode cX1_load 6 = .ok (.istore_n 2, 1) := by decide +kernel
theorem dX1_load_7 : decode cX1_load 7 = .ok (.iload_n 2, 1) := by decide +kernel
theorem dX1_load_8 : decode cX1_load 8 = .ok (.aload_n 1, 1) := by decide +kernel
theorem dX1_load_9 : decode cX1_load 9 = .ok (.invokevirtual 50, 3) := by decide +kernel
theorem dX1_load_12 : decode cX1_load 12 = .ok (.if_icmp .ge 50, 3) := by decide +kernel
theorem dX1_load_15 : decode cX1_load 15 = .ok (.aload_n 0, 1) := by decide +kernel
theorem dX1_load_16 : decode cX1_load 16 = .ok (.getfield 9, 3) := by decide +kernel
theorem dX1_load_19 : decode cX1_load 19 = .ok (.bipush 12, 2) := by decide +kernel
theorem dX1_load_21 : decode cX1_load 21 = .ok (.if_icmp .ge 41, 3) := by decide +kernel
theorem dX1_load_24 : decode cX1_load 24 = .ok (.aload_n 1, 1) := by decide +kernel
theorem dX1_load_25 : decode cX1_load 25 = .ok (.iload_n 2, 1) := by decide +kernel
theorem dX1_load_26 : decode cX1_load 26 = .ok (.invokevirtual 53, 3) := by decide +kernel
theorem dX1_load_29 : decode cX1_load 29 = .ok (.ifCond .ne 27, 3) := by decide +kernel
theorem dX1_load_32 : decode cX1_load 32 = .ok (.aload_n 0, 1) := by decide +kernel
theorem dX1_load_33 : decode cX1_load 33 = .ok (.getfield 18, 3) := by decide +kernel
theorem dX1_load_36 : decode cX1_load 36 = .ok (.aload_n 0, 1) := by decide +kernel
theorem dX1_load_37 : decode cX1_load 37 = .ok (.getfield 9, 3) := by decide +kernel
theorem dX1_load_40 : decode cX1_load 40 = .ok (.aload_n 1, 1) := by decide +kernel
theorem dX1_load_41 : decode cX1_load 41 = .ok (.iload_n 2, 1) := by decide +kernel
theorem dX1_load_42 : decode cX1_load 42 = .ok (.invokevirtual 31, 3) := by decide +kernel
theorem dX1_load_45 : decode cX1_load 45 = .ok (.iastore, 1) := by decide +kernel
theorem dX1_load_46 : decode cX1_load 46 = .ok (.aload_n 0, 1) := by decide +kernel
theorem dX1_load_47 : decode cX1_load 47 = .ok (.dup, 1) := by decide +kernel
theorem dX1_load_48 : decode cX1_load 48 = .ok (.getfield 9, 3) := by decide +kernel
theorem dX1_load_51 : decode cX1_load 51 = .ok (.iconst 1, 1) := by decide +kernel
theorem dX1_load_52 : decode cX1_load 52 = .ok (.iadd, 1) := by decide +kernel
theorem dX1_load_53 : decode cX1_load 53 = .ok (.putfield 9, 3) := by decide +kernel
theorem dX1_load_56 : decode cX1_load 56 = .ok (.iinc 2 1, 3) := by decide +kernel
theorem dX1_load_59 : decode cX1_load 59 = .ok (.goto (-52), 3) := by decide +kernel
theorem dX1_load_62 : decode cX1_load 62 = .ok (.iconst 0, 1) := by decide +kernel
theorem dX1_load_63 : decode cX1_load 63 = .ok (.istore_n 2, 1) := by decide +kernel
theorem dX1_load_64 : decode cX1_load 64 = .ok (.iload_n 2, 1) := by decide +kernel
theorem dX1_load_65 : decode cX1_load 65 = .ok (.aload_n 0, 1) := by decide +kernel
theorem dX1_load_66 : decode cX1_load 66 = .ok (.getfield 9, 3) := by decide +kernel
theorem dX1_load_69 : decode cX1_load 69 = .ok (.if_icmp .ge 51, 3) := by decide +kernel
theorem dX1_load_72 : decode cX1_load 72 = .ok (.iconst 0, 1) := by decide +kernel
theorem dX1_load_73 : decode cX1_load 73 = .ok (.istore_n 3, 1) := by decide +kernel
theorem dX1_load_74 : decode cX1_load 74 = .ok (.iload_n 3, 1) := by decide +kernel
theorem dX1_load_75 : decode cX1_load 75 = .ok (.aload_n 0, 1) := by decide +kernel
theorem dX1_load_76 : decode cX1_load 76 = .ok (.getfield 9, 3) := by decide +kernel
theorem dX1_load_79 : decode cX1_load 79 = .ok (.if_icmp .ge 35, 3) := by decide +kernel
theorem dX1_load_82 : decode cX1_load 82 = .ok (.aload_n 0, 1) := by decide +kernel
theorem dX1_load_83 : decode cX1_load 83 = .ok (.getfield 22, 3) := by decide +kernel
theorem dX1_load_86 : decode cX1_load 86 = .ok (.iload_n 2, 1) := by decide +kernel
theorem dX1_load_87 : decode cX1_load 87 = .ok (.bipush 12, 2) := by decide +kernel
theorem dX1_load_89 : decode cX1_load 89 = .ok (.imul, 1) := by decide +kernel
theorem dX1_load_90 : decode cX1_load 90 = .ok (.iload_n 3, 1) := by decide +kernel
theorem dX1_load_91 : decode cX1_load 91 = .ok (.iadd, 1) := by decide +kernel
theorem dX1_load_92 : decode cX1_load 92 = .ok (.aload_n 0, 1) := by decide +kernel
theorem dX1_load_93 : decode cX1_load 93 = .ok (.getfield 18, 3) := by decide +kernel
theorem dX1_load_96 : decode cX1_load 96 = .ok (.iload_n 2, 1) := by decide +kernel
theorem dX1_load_97 : decode cX1_load 97 = .ok (.iaload, 1) := by decide +kernel
theorem dX1_load_98 : decode cX1_load 98 = .ok (.aload_n 0, 1) := by decide +kernel
theorem dX1_load_99 : decode cX1_load 99 = .ok (.getfield 18, 3) := by decide +kernel
theorem dX1_load_102 : decode cX1_load 102 = .ok (.iload_n 3, 1) := by decide +kernel
theorem dX1_load_103 : decode cX1_load 103 = .ok (.iaload, 1) := by decide +kernel
theorem dX1_load_104 : decode cX1_load 104 = .ok (.invokestatic 57, 3) := by decide +kernel
theorem dX1_load_107 : decode cX1_load 107 = .ok (.iastore, 1) := by decide +kernel
theorem dX1_load_108 : decode cX1_load 108 = .ok (.iinc 3 1, 3) := by decide +kernel
theorem dX1_load_111 : decode cX1_load 111 = .ok (.goto (-37), 3) := by decide +kernel
theorem dX1_load_114 : decode cX1_load 114 = .ok (.iinc 2 1, 3) := by decide +kernel
theorem dX1_load_117 : decode cX1_load 117 = .ok (.goto (-53), 3) := by decide +kernel
theorem dX1_load_120 : decode cX1_load 120 = .ok (.return_, 1) := by decide +kernel
theorem dX1_allow_0 : decode cX1_allow 0 = .ok (.iload_n 1, 1) := by decide +kernel
theorem dX1_allow_1 : decode cX1_allow 1 = .ok (.aload_n 0, 1) := by decide +kernel
theorem dX1_allow_2 : decode cX1_allow 2 = .ok (.getfield 9, 3) := by decide +kernel
theorem dX1_allow_5 : decode cX1_allow 5 = .ok (.if_icmp .gt 7, 3) := by decide +kernel
theorem dX1_allow_8 : decode cX1_allow 8 = .ok (.iconst 1, 1) := by decide +kernel
theorem dX1_allow_9 : decode cX1_allow 9 = .ok (.goto 4, 3) := by decide +kernel
theorem dX1_allow_12 : decode cX1_allow 12 = .ok (.iconst 0, 1) := by decide +kernel
theorem dX1_allow_13 : decode cX1_allow 13 = .ok (.ireturn, 1) := by decide +kernel
theorem dX1_best_0 : decode cX1_best 0 = .ok (.aload_n 0, 1) := by decide +kernel
theorem dX1_best_1 : decode cX1_best 1 = .ok (.iload_n 1, 1) := by decide +kernel
theorem dX1_best_2 : decode cX1_best 2 = .ok (.putfield 15, 3) := by decide +kernel
theorem dX1_best_5 : decode cX1_best 5 = .ok (.aload_n 0, 1) := by decide +kernel
theorem dX1_best_6 : decode cX1_best 6 = .ok (.iconst 0, 1) := by decide +kernel
theorem dX1_best_7 : decode cX1_best 7 = .ok (.iconst 0, 1) := by decide +kernel
theorem dX1_best_8 : decode cX1_best 8 = .ok (.iconst 0, 1) := by decide +kernel
theorem dX1_best_9 : decode cX1_best 9 = .ok (.iconst (-1), 1) := by decide +kernel
theorem dX1_best_10 : decode cX1_best 10 = .ok (.invokestatic 60, 3) := by decide +kernel
theorem dX1_best_13 : decode cX1_best 13 = .ok (.ireturn, 1) := by decide +kernel
theorem dX1_extend_0 : decode cX1_extend 0 = .ok (.aload_n 0, 1) := by decide +kernel
theorem dX1_extend_1 : decode cX1_extend 1 = .ok (.getfield 15, 3) := by decide +kernel
theorem dX1_extend_4 : decode cX1_extend 4 = .ok (.iload_n 2, 1) := by decide +kernel
theorem dX1_extend_5 : decode cX1_extend 5 = .ok (.invokestatic 64, 3) := by decide +kernel
theorem dX1_extend_8 : decode cX1_extend 8 = .ok (.isub, 1) := by decide +kernel
theorem dX1_extend_9 : decode cX1_extend 9 = .ok (.istore 5, 2) := by decide +kernel
theorem dX1_extend_11 : decode cX1_extend 11 = .ok (.iload 5, 2) := by decide +kernel
theorem dX1_extend_13 : decode cX1_extend 13 = .ok (.ifCond .gt 10, 3) := by decide +kernel
theorem dX1_extend_16 : decode cX1_extend 16 = .ok (.iload 4, 2) := by decide +kernel
theorem dX1_extend_18 : decode cX1_extend 18 = .ok (.iload_n 3, 1) := by decide +kernel
theorem dX1_extend_19 : decode cX1_extend 19 = .ok (.invokestatic 69, 3) := by decide +kernel
theorem dX1_extend_22 : decode cX1_extend 22 = .ok (.ireturn, 1) := by decide +kernel
theorem dX1_extend_23 : decode cX1_extend 23 = .ok (.iload 4, 2) := by decide +kernel
theorem dX1_extend_25 : decode cX1_extend 25 = .ok (.istore 6, 2) := by decide +kernel
theorem dX1_extend_27 : decode cX1_extend 27 = .ok (.iload_n 1, 1) := by decide +kernel
theorem dX1_extend_28 : decode cX1_extend 28 = .ok (.iconst 0, 1) := by decide +kernel
theorem dX1_extend_29 : decode cX1_extend 29 = .ok (.invokestatic 69, 3) := by decide +kernel
theorem dX1_extend_32 : decode cX1_extend 32 = .ok (.istore 7, 2) := by decide +kernel
theorem dX1_extend_34 : decode cX1_extend 34 = .ok (.iload 7, 2) := by decide +kernel
theorem dX1_extend_36 : decode cX1_extend 36 = .ok (.iload 5, 2) := by decide +kernel
theorem dX1_extend_38 : decode cX1_extend 38 = .ok (.iadd, 1) := by decide +kernel
theorem dX1_extend_39 : decode cX1_extend 39 = .ok (.aload_n 0, 1) := by decide +kernel
theorem dX1_extend_40 : decode cX1_extend 40 = .ok (.getfield 9, 3) := by decide +kernel
theorem dX1_extend_43 : decode cX1_extend 43 = .ok (.if_icmp .gt 56, 3) := by decide +kernel
theorem dX1_extend_46 : decode cX1_extend 46 = .ok (.iload_n 3, 1) := by decide +kernel
theorem dX1_extend_47 : decode cX1_extend 47 = .ok (.aload_n 0, 1) := by decide +kernel
theorem dX1_extend_48 : decode cX1_extend 48 = .ok (.iload 7, 2) := by decide +kernel
theorem dX1_extend_50 : decode cX1_extend 50 = .ok (.iload_n 2, 1) := by decide +kernel
theorem dX1_extend_51 : decode cX1_extend 51 = .ok (.invokevirtual 72, 3) := by decide +kernel
theorem dX1_extend_54 : decode cX1_extend 54 = .ok (.iadd, 1) := by decide +kernel
theorem dX1_extend_55 : decode cX1_extend 55 = .ok (.istore 8, 2) := by decide +kernel
theorem dX1_extend_57 : decode cX1_extend 57 = .ok (.iload 8, 2) := by decide +kernel
theorem dX1_extend_59 : decode cX1_extend 59 = .ok (.aload_n 0, 1) := by decide +kernel
theorem dX1_extend_60 : decode cX1_extend 60 = .ok (.iload 5, 2) := by decide +kernel
theorem dX1_extend_62 : decode cX1_extend 62 = .ok (.iconst 1, 1) := by decide +kernel
theorem dX1_extend_63 : decode cX1_extend 63 = .ok (.isub, 1) := by decide +kernel
theorem dX1_extend_64 : decode cX1_extend 64 = .ok (.invokevirtual 75, 3) := by decide +kernel
theorem dX1_extend_67 : decode cX1_extend 67 = .ok (.iadd, 1) := by decide +kernel
theorem dX1_extend_68 : decode cX1_extend 68 = .ok (.iload 6, 2) := by decide +kernel
theorem dX1_extend_70 : decode cX1_extend 70 = .ok (.if_icmp .le 23, 3) := by decide +kernel
theorem dX1_extend_73 : decode cX1_extend 73 = .ok (.aload_n 0, 1) := by decide +kernel
theorem dX1_extend_74 : decode cX1_extend 74 = .ok (.iload 7, 2) := by decide +kernel
theorem dX1_extend_76 : decode cX1_extend 76 = .ok (.iconst 1, 1) := by decide +kernel
theorem dX1_extend_77 : decode cX1_extend 77 = .ok (.iadd, 1) := by decide +kernel
theorem dX1_extend_78 : decode cX1_extend 78 = .ok (.iload_n 2, 1) := by decide +kernel
theorem dX1_extend_79 : decode cX1_extend 79 = .ok (.iconst 1, 1) := by decide +kernel
theorem dX1_extend_80 : decode cX1_extend 80 = .ok (.iload 7, 2) := by decide +kernel
theorem dX1_extend_82 : decode cX1_extend 82 = .ok (.ishl, 1) := by decide +kernel
theorem dX1_extend_83 : decode cX1_extend 83 = .ok (.ior, 1) := by decide +kernel
theorem dX1_extend_84 : decode cX1_extend 84 = .ok (.iload 8, 2) := by decide +kernel
theorem dX1_extend_86 : decode cX1_extend 86 = .ok (.iload 6, 2) := by decide +kernel
theorem dX1_extend_88 : decode cX1_extend 88 = .ok (.invokestatic 60, 3) := by decide +kernel
theorem dX1_extend_91 : decode cX1_extend 91 = .ok (.istore 6, 2) := by decide +kernel
theorem dX1_extend_93 : decode cX1_extend 93 = .ok (.iinc 7 1, 3) := by decide +kernel
theorem dX1_extend_96 : decode cX1_extend 96 = .ok (.goto (-62), 3) := by decide +kernel
theorem dX1_extend_99 : decode cX1_extend 99 = .ok (.iload 6, 2) := by decide +kernel
theorem dX1_extend_101 : decode cX1_extend 101 = .ok (.ireturn, 1) := by decide +kernel
theorem dX1_withChosen_0 : decode cX1_withChosen 0 = .ok (.iconst 0, 1) := by decide +kernel
theorem dX1_withChosen_1 : decode cX1_withChosen 1 = .ok (.istore_n 3, 1) := by decide +kernel
theorem dX1_withChosen_2 : decode cX1_withChosen 2 = .ok (.iconst 0, 1) := by decide +kernel
theorem dX1_withChosen_3 : decode cX1_withChosen 3 = .ok (.istore 4, 2) := by decide +kernel
theorem dX1_withChosen_5 : decode cX1_withChosen 5 = .ok (.iload 4, 2) := by decide +kernel
theorem dX1_withChosen_7 : decode cX1_withChosen 7 = .ok (.aload_n 0, 1) := by decide +kernel
theorem dX1_withChosen_8 : decode cX1_withChosen 8 = .ok (.getfield 9, 3) := by decide +kernel
theorem dX1_withChosen_11 : decode cX1_withChosen 11 = .ok (.if_icmp .ge 28, 3) := by decide +kernel
theorem dX1_withChosen_14 : decode cX1_withChosen 14 = .ok (.iload_n 2, 1) := by decide +kernel
theorem dX1_withChosen_15 : decode cX1_withChosen 15 = .ok (.iconst 1, 1) := by decide +kernel
theorem dX1_withChosen_16 : decode cX1_withChosen 16 = .ok (.iload 4, 2) := by decide +kernel
theorem dX1_withChosen_18 : decode cX1_withChosen 18 = .ok (.ishl, 1) := by decide +kernel
theorem dX1_withChosen_19 : decode cX1_withChosen 19 = .ok (.iand, 1) := by decide +kernel
theorem dX1_withChosen_20 : decode cX1_withChosen 20 = .ok (.ifCond .eq 13, 3) := by decide +kernel
theorem dX1_withChosen_23 : decode cX1_withChosen 23 = .ok (.iload_n 3, 1) := by decide +kernel
theorem dX1_withChosen_24 : decode cX1_withChosen 24 = .ok (.aload_n 0, 1) := by decide +kernel
theorem dX1_withChosen_25 : decode cX1_withChosen 25 = .ok (.iload_n 1, 1) := by decide +kernel
theorem dX1_withChosen_26 : decode cX1_withChosen 26 = .ok (.iload 4, 2) := by decide +kernel
theorem dX1_withChosen_28 : decode cX1_withChosen 28 = .ok (.invokevirtual 78, 3) := by decide +kernel
theorem dX1_withChosen_31 : decode cX1_withChosen 31 = .ok (.iadd, 1) := by decide +kernel
theorem dX1_withChosen_32 : decode cX1_withChosen 32 = .ok (.istore_n 3, 1) := by decide +kernel
theorem dX1_withChosen_33 : decode cX1_withChosen 33 = .ok (.iinc 4 1, 3) := by decide +kernel
theorem dX1_withChosen_36 : decode cX1_withChosen 36 = .ok (.goto (-31), 3) := by decide +kernel
theorem dX1_withChosen_39 : decode cX1_withChosen 39 = .ok (.iload_n 3, 1) := by decide +kernel
theorem dX1_withChosen_40 : decode cX1_withChosen 40 = .ok (.ireturn, 1) := by decide +kernel
theorem dX1_pair_0 : decode cX1_pair 0 = .ok (.iload_n 1, 1) := by decide +kernel
theorem dX1_pair_1 : decode cX1_pair 1 = .ok (.ifCond .lt 23, 3) := by decide +kernel
theorem dX1_pair_4 : decode cX1_pair 4 = .ok (.iload_n 1, 1) := by decide +kernel
theorem dX1_pair_5 : decode cX1_pair 5 = .ok (.bipush 12, 2) := by decide +kernel
theorem dX1_pair_7 : decode cX1_pair 7 = .ok (.if_icmp .ge 17, 3) := by decide +kernel
theorem dX1_pair_10 : decode cX1_pair 10 = .ok (.iload_n 2, 1) := by decide +kernel
theorem dX1_pair_11 : decode cX1_pair 11 = .ok (.ifCond .lt 13, 3) := by decide +kernel
theorem dX1_pair_14 : decode cX1_pair 14 = .ok (.iload_n 2, 1) := by decide +kernel
theorem dX1_pair_15 : decode cX1_pair 15 = .ok (.bipush 12, 2) := by decide +kernel
theorem dX1_pair_17 : decode cX1_pair 17 = .ok (.if_icmp .ge 7, 3) := by decide +kernel
theorem dX1_pair_20 : decode cX1_pair 20 = .ok (.iconst 1, 1) := by decide +kernel
theorem dX1_pair_21 : decode cX1_pair 21 = .ok (.goto 4, 3) := by decide +kernel
theorem dX1_pair_24 : decode cX1_pair 24 = .ok (.iconst 0, 1) := by decide +kernel
theorem dX1_pair_25 : decode cX1_pair 25 = .ok (.istore_n 3, 1) := by decide +kernel
theorem dX1_pair_26 : decode cX1_pair 26 = .ok (.iload_n 3, 1) := by decide +kernel
theorem dX1_pair_27 : decode cX1_pair 27 = .ok (.ifCond .eq 17, 3) := by decide +kernel
theorem dX1_pair_30 : decode cX1_pair 30 = .ok (.aload_n 0, 1) := by decide +kernel
theorem dX1_pair_31 : decode cX1_pair 31 = .ok (.getfield 22, 3) := by decide +kernel
theorem dX1_pair_34 : decode cX1_pair 34 = .ok (.iload_n 1, 1) := by decide +kernel
theorem dX1_pair_35 : decode cX1_pair 35 = .ok (.bipush 12, 2) := by decide +kernel
theorem dX1_pair_37 : decode cX1_pair 37 = .ok (.imul, 1) := by decide +kernel
theorem dX1_pair_38 : decode cX1_pair 38 = .ok (.iload_n 2, 1) := by decide +kernel
theorem dX1_pair_39 : decode cX1_pair 39 = .ok (.iadd, 1) := by decide +kernel
theorem dX1_pair_40 : decode cX1_pair 40 = .ok (.iaload, 1) := by decide +kernel
theorem dX1_pair_41 : decode cX1_pair 41 = .ok (.goto 4, 3) := by decide +kernel
theorem dX1_pair_44 : decode cX1_pair 44 = .ok (.iconst 0, 1) := by decide +kernel
theorem dX1_pair_45 : decode cX1_pair 45 = .ok (.ireturn, 1) := by decide +kernel
theorem dX1_greatestStillToCome_0 : decode cX1_greatestStillToCome 0 = .ok (.aload_n 0, 1) := by decide +kernel
theorem dX1_greatestStillToCome_1 : decode cX1_greatestStillToCome 1 = .ok (.getfield 15, 3) := by decide +kernel
theorem dX1_greatestStillToCome_4 : decode cX1_greatestStillToCome 4 = .ok (.iload_n 1, 1) := by decide +kernel
theorem dX1_greatestStillToCome_5 : decode cX1_greatestStillToCome 5 = .ok (.isub, 1) := by decide +kernel
theorem dX1_greatestStillToCome_6 : decode cX1_greatestStillToCome 6 = .ok (.istore_n 2, 1) := by decide +kernel
theorem dX1_greatestStillToCome_7 : decode cX1_greatestStillToCome 7 = .ok (.aload_n 0, 1) := by decide +kernel
theorem dX1_greatestStillToCome_8 : decode cX1_greatestStillToCome 8 = .ok (.getfield 15, 3) := by decide +kernel
theorem dX1_greatestStillToCome_11 : decode cX1_greatestStillToCome 11 = .ok (.aload_n 0, 1) := by decide +kernel
theorem dX1_greatestStillToCome_12 : decode cX1_greatestStillToCome 12 = .ok (.getfield 15, 3) := by decide +kernel
theorem dX1_greatestStillToCome_15 : decode cX1_greatestStillToCome 15 = .ok (.iconst 1, 1) := by decide +kernel
theorem dX1_greatestStillToCome_16 : decode cX1_greatestStillToCome 16 = .ok (.isub, 1) := by decide +kernel
theorem dX1_greatestStillToCome_17 : decode cX1_greatestStillToCome 17 = .ok (.imul, 1) := by decide +kernel
theorem dX1_greatestStillToCome_18 : decode cX1_greatestStillToCome 18 = .ok (.iload_n 2, 1) := by decide +kernel
theorem dX1_greatestStillToCome_19 : decode cX1_greatestStillToCome 19 = .ok (.iload_n 2, 1) := by decide +kernel
theorem dX1_greatestStillToCome_20 : decode cX1_greatestStillToCome 20 = .ok (.iconst 1, 1) := by decide +kernel
theorem dX1_greatestStillToCome_21 : decode cX1_greatestStillToCome 21 = .ok (.isub, 1) := by decide +kernel
theorem dX1_greatestStillToCome_22 : decode cX1_greatestStillToCome 22 = .ok (.imul, 1) := by decide +kernel
theorem dX1_greatestStillToCome_23 : decode cX1_greatestStillToCome 23 = .ok (.isub, 1) := by decide +kernel
theorem dX1_greatestStillToCome_24 : decode cX1_greatestStillToCome 24 = .ok (.iconst 2, 1) := by decide +kernel
theorem dX1_greatestStillToCome_25 : decode cX1_greatestStillToCome 25 = .ok (.idiv, 1) := by decide +kernel
theorem dX1_greatestStillToCome_26 : decode cX1_greatestStillToCome 26 = .ok (.bipush 15, 2) := by decide +kernel
theorem dX1_greatestStillToCome_28 : decode cX1_greatestStillToCome 28 = .ok (.imul, 1) := by decide +kernel
theorem dX1_greatestStillToCome_29 : decode cX1_greatestStillToCome 29 = .ok (.ireturn, 1) := by decide +kernel
theorem dX1_bestBySets_0 : decode cX1_bestBySets 0 = .ok (.iconst (-1), 1) := by decide +kernel
theorem dX1_bestBySets_1 : decode cX1_bestBySets 1 = .ok (.istore_n 2, 1) := by decide +kernel
theorem dX1_bestBySets_2 : decode cX1_bestBySets 2 = .ok (.iconst 0, 1) := by decide +kernel
theorem dX1_bestBySets_3 : decode cX1_bestBySets 3 = .ok (.istore_n 3, 1) := by decide +kernel
theorem dX1_bestBySets_4 : decode cX1_bestBySets 4 = .ok (.iload_n 3, 1) := by decide +kernel
theorem dX1_bestBySets_5 : decode cX1_bestBySets 5 = .ok (.iconst 1, 1) := by decide +kernel
theorem dX1_bestBySets_6 : decode cX1_bestBySets 6 = .ok (.aload_n 0, 1) := by decide +kernel
theorem dX1_bestBySets_7 : decode cX1_bestBySets 7 = .ok (.getfield 9, 3) := by decide +kernel
theorem dX1_bestBySets_10 : decode cX1_bestBySets 10 = .ok (.ishl, 1) := by decide +kernel
theorem dX1_bestBySets_11 : decode cX1_bestBySets 11 = .ok (.if_icmp .ge 27, 3) := by decide +kernel
theorem dX1_bestBySets_14 : decode cX1_bestBySets 14 = .ok (.iload_n 3, 1) := by decide +kernel
theorem dX1_bestBySets_15 : decode cX1_bestBySets 15 = .ok (.invokestatic 64, 3) := by decide +kernel
theorem dX1_bestBySets_18 : decode cX1_bestBySets 18 = .ok (.iload_n 1, 1) := by decide +kernel
theorem dX1_bestBySets_19 : decode cX1_bestBySets 19 = .ok (.if_icmp .ne 13, 3) := by decide +kernel
theorem dX1_bestBySets_22 : decode cX1_bestBySets 22 = .ok (.iload_n 2, 1) := by decide +kernel
theorem dX1_bestBySets_23 : decode cX1_bestBySets 23 = .ok (.aload_n 0, 1) := by decide +kernel
theorem dX1_bestBySets_24 : decode cX1_bestBySets 24 = .ok (.iload_n 3, 1) := by decide +kernel
theorem dX1_bestBySets_25 : decode cX1_bestBySets 25 = .ok (.invokevirtual 81, 3) := by decide +kernel
theorem dX1_bestBySets_28 : decode cX1_bestBySets 28 = .ok (.invokestatic 69, 3) := by decide +kernel
theorem dX1_bestBySets_31 : decode cX1_bestBySets 31 = .ok (.istore_n 2, 1) := by decide +kernel
theorem dX1_bestBySets_32 : decode cX1_bestBySets 32 = .ok (.iinc 3 1, 3) := by decide +kernel
theorem dX1_bestBySets_35 : decode cX1_bestBySets 35 = .ok (.goto (-31), 3) := by decide +kernel
theorem dX1_bestBySets_38 : decode cX1_bestBySets 38 = .ok (.iload_n 2, 1) := by decide +kernel
theorem dX1_bestBySets_39 : decode cX1_bestBySets 39 = .ok (.ireturn, 1) := by decide +kernel
theorem dX1_consonanceOf_0 : decode cX1_consonanceOf 0 = .ok (.iconst 0, 1) := by decide +kernel
theorem dX1_consonanceOf_1 : decode cX1_consonanceOf 1 = .ok (.istore_n 2, 1) := by decide +kernel
theorem dX1_consonanceOf_2 : decode cX1_consonanceOf 2 = .ok (.iconst 0, 1) := by decide +kernel
theorem dX1_consonanceOf_3 : decode cX1_consonanceOf 3 = .ok (.istore_n 3, 1) := by decide +kernel
theorem dX1_consonanceOf_4 : decode cX1_consonanceOf 4 = .ok (.iload_n 3, 1) := by decide +kernel
theorem dX1_consonanceOf_5 : decode cX1_consonanceOf 5 = .ok (.aload_n 0, 1) := by decide +kernel
theorem dX1_consonanceOf_6 : decode cX1_consonanceOf 6 = .ok (.getfield 9, 3) := by decide +kernel
theorem dX1_consonanceOf_9 : decode cX1_consonanceOf 9 = .ok (.if_icmp .ge 32, 3) := by decide +kernel
theorem dX1_consonanceOf_12 : decode cX1_consonanceOf 12 = .ok (.iload_n 1, 1) := by decide +kernel
theorem dX1_consonanceOf_13 : decode cX1_consonanceOf 13 = .ok (.iconst 1, 1) := by decide +kernel
theorem dX1_consonanceOf_14 : decode cX1_consonanceOf 14 = .ok (.iload_n 3, 1) := by decide +kernel
theorem dX1_consonanceOf_15 : decode cX1_consonanceOf 15 = .ok (.ishl, 1) := by decide +kernel
theorem dX1_consonanceOf_16 : decode cX1_consonanceOf 16 = .ok (.iand, 1) := by decide +kernel
theorem dX1_consonanceOf_17 : decode cX1_consonanceOf 17 = .ok (.ifCond .eq 18, 3) := by decide +kernel
theorem dX1_consonanceOf_20 : decode cX1_consonanceOf 20 = .ok (.iload_n 2, 1) := by decide +kernel
theorem dX1_consonanceOf_21 : decode cX1_consonanceOf 21 = .ok (.aload_n 0, 1) := by decide +kernel
theorem dX1_consonanceOf_22 : decode cX1_consonanceOf 22 = .ok (.iload_n 3, 1) := by decide +kernel
theorem dX1_consonanceOf_23 : decode cX1_consonanceOf 23 = .ok (.iload_n 1, 1) := by decide +kernel
theorem dX1_consonanceOf_24 : decode cX1_consonanceOf 24 = .ok (.iconst 1, 1) := by decide +kernel
theorem dX1_consonanceOf_25 : decode cX1_consonanceOf 25 = .ok (.iload_n 3, 1) := by decide +kernel
theorem dX1_consonanceOf_26 : decode cX1_consonanceOf 26 = .ok (.ishl, 1) := by decide +kernel
theorem dX1_consonanceOf_27 : decode cX1_consonanceOf 27 = .ok (.iconst 1, 1) := by decide +kernel
theorem dX1_consonanceOf_28 : decode cX1_consonanceOf 28 = .ok (.isub, 1) := by decide +kernel
theorem dX1_consonanceOf_29 : decode cX1_consonanceOf 29 = .ok (.iand, 1) := by decide +kernel
theorem dX1_consonanceOf_30 : decode cX1_consonanceOf 30 = .ok (.invokevirtual 72, 3) := by decide +kernel
theorem dX1_consonanceOf_33 : decode cX1_consonanceOf 33 = .ok (.iadd, 1) := by decide +kernel
theorem dX1_consonanceOf_34 : decode cX1_consonanceOf 34 = .ok (.istore_n 2, 1) := by decide +kernel
theorem dX1_consonanceOf_35 : decode cX1_consonanceOf 35 = .ok (.iinc 3 1, 3) := by decide +kernel
theorem dX1_consonanceOf_38 : decode cX1_consonanceOf 38 = .ok (.goto (-34), 3) := by decide +kernel
theorem dX1_consonanceOf_41 : decode cX1_consonanceOf 41 = .ok (.iload_n 2, 1) := by decide +kernel
theorem dX1_consonanceOf_42 : decode cX1_consonanceOf 42 = .ok (.ireturn, 1) := by decide +kernel
theorem dX2_init_0 : decode cX2_init 0 = .ok (.aload_n 0, 1) := by decide +kernel
theorem dX2_init_1 : decode cX2_init 1 = .ok (.invokespecial 3, 3) := by decide +kernel
theorem dX2_init_4 : decode cX2_init 4 = .ok (.aload_n 0, 1) := by decide +kernel
theorem dX2_init_5 : decode cX2_init 5 = .ok (.iconst 0, 1) := by decide +kernel
theorem dX2_init_6 : decode cX2_init 6 = .ok (.putfield 9, 3) := by decide +kernel
theorem dX2_init_9 : decode cX2_init 9 = .ok (.aload_n 0, 1) := by decide +kernel
theorem dX2_init_10 : decode cX2_init 10 = .ok (.bipush 12, 2) := by decide +kernel
theorem dX2_init_12 : decode cX2_init 12 = .ok (.newarray .int, 2) := by decide +kernel
theorem dX2_init_14 : decode cX2_init 14 = .ok (.putfield 15, 3) := by decide +kernel
theorem dX2_init_17 : decode cX2_init 17 = .ok (.aload_n 0, 1) := by decide +kernel
theorem dX2_init_18 : decode cX2_init 18 = .ok (.bipush 12, 2) := by decide +kernel
theorem dX2_init_20 : decode cX2_init 20 = .ok (.newarray .int, 2) := by decide +kernel
theorem dX2_init_22 : decode cX2_init 22 = .ok (.putfield 19, 3) := by decide +kernel
theorem dX2_init_25 : decode cX2_init 25 = .ok (.aload_n 0, 1) := by decide +kernel
theorem dX2_init_26 : decode cX2_init 26 = .ok (.bipush 12, 2) := by decide +kernel
theorem dX2_init_28 : decode cX2_init 28 = .ok (.newarray .int, 2) := by decide +kernel
theorem dX2_init_30 : decode cX2_init 30 = .ok (.putfield 22, 3) := by decide +kernel
theorem dX2_init_33 : decode cX2_init 33 = .ok (.aload_n 0, 1) := by decide +kernel
theorem dX2_init_34 : decode cX2_init 34 = .ok (.bipush 12, 2) := by decide +kernel
theorem dX2_init_36 : decode cX2_init 36 = .ok (.newarray .int, 2) := by decide +kernel
theorem dX2_init_38 : decode cX2_init 38 = .ok (.putfield 25, 3) := by decide +kernel
theorem dX2_init_41 : decode cX2_init 41 = .ok (.aload_n 0, 1) := by decide +kernel
theorem dX2_init_42 : decode cX2_init 42 = .ok (.bipush 12, 2) := by decide +kernel
theorem dX2_init_44 : decode cX2_init 44 = .ok (.newarray .int, 2) := by decide +kernel
theorem dX2_init_46 : decode cX2_init 46 = .ok (.putfield 28, 3) := by decide +kernel
theorem dX2_init_49 : decode cX2_init 49 = .ok (.aload_n 0, 1) := by decide +kernel
theorem dX2_init_50 : decode cX2_init 50 = .ok (.bipush 18, 2) := by decide +kernel
theorem dX2_init_52 : decode cX2_init 52 = .ok (.newarray .int, 2) := by decide +kernel
theorem dX2_init_54 : decode cX2_init 54 = .ok (.putfield 31, 3) := by decide +kernel
theorem dX2_init_57 : decode cX2_init 57 = .ok (.aload_n 0, 1) := by decide +kernel
theorem dX2_init_58 : decode cX2_init 58 = .ok (.getfield 31, 3) := by decide +kernel
theorem dX2_init_61 : decode cX2_init 61 = .ok (.iconst (-1), 1) := by decide +kernel
theorem dX2_init_62 : decode cX2_init 62 = .ok (.invokestatic 34, 3) := by decide +kernel
theorem dX2_init_65 : decode cX2_init 65 = .ok (.return_, 1) := by decide +kernel
theorem dX2_copyFrom_0 : decode cX2_copyFrom 0 = .ok (.aload_n 0, 1) := by decide +kernel
theorem dX2_copyFrom_1 : decode cX2_copyFrom 1 = .ok (.aload_n 1, 1) := by decide +kernel
theorem dX2_copyFrom_2 : decode cX2_copyFrom 2 = .ok (.getfield 9, 3) := by decide +kernel
theorem dX2_copyFrom_5 : decode cX2_copyFrom 5 = .ok (.putfield 9, 3) := by decide +kernel
theorem dX2_copyFrom_8 : decode cX2_copyFrom 8 = .ok (.aload_n 1, 1) := by decide +kernel
theorem dX2_copyFrom_9 : decode cX2_copyFrom 9 = .ok (.getfield 15, 3) := by decide +kernel
theorem dX2_copyFrom_12 : decode cX2_copyFrom 12 = .ok (.iconst 0, 1) := by decide +kernel
theorem dX2_copyFrom_13 : decode cX2_copyFrom 13 = .ok (.aload_n 0, 1) := by decide +kernel
theorem dX2_copyFrom_14 : decode cX2_copyFrom 14 = .ok (.getfield 15, 3) := by decide +kernel
theorem dX2_copyFrom_17 : decode cX2_copyFrom 17 = .ok (.iconst 0, 1) := by decide +kernel
theorem dX2_copyFrom_18 : decode cX2_copyFrom 18 = .ok (.bipush 12, 2) := by decide +kernel
theorem dX2_copyFrom_20 : decode cX2_copyFrom 20 = .ok (.invokestatic 40, 3) := by decide +kernel
theorem dX2_copyFrom_23 : decode cX2_copyFrom 23 = .ok (.aload_n 1, 1) := by decide +kernel
theorem dX2_copyFrom_24 : decode cX2_copyFrom 24 = .ok (.getfield 19, 3) := by decide +kernel
theorem dX2_copyFrom_27 : decode cX2_copyFrom 27 = .ok (.iconst 0, 1) := by decide +kernel
theorem dX2_copyFrom_28 : decode cX2_copyFrom 28 = .ok (.aload_n 0, 1) := by decide +kernel
theorem dX2_copyFrom_29 : decode cX2_copyFrom 29 = .ok (.getfield 19, 3) := by decide +kernel
theorem dX2_copyFrom_32 : decode cX2_copyFrom 32 = .ok (.iconst 0, 1) := by decide +kernel
theorem dX2_copyFrom_33 : decode cX2_copyFrom 33 = .ok (.bipush 12, 2) := by decide +kernel
theorem dX2_copyFrom_35 : decode cX2_copyFrom 35 = .ok (.invokestatic 40, 3) := by decide +kernel
theorem dX2_copyFrom_38 : decode cX2_copyFrom 38 = .ok (.aload_n 1, 1) := by decide +kernel
theorem dX2_copyFrom_39 : decode cX2_copyFrom 39 = .ok (.getfield 22, 3) := by decide +kernel
theorem dX2_copyFrom_42 : decode cX2_copyFrom 42 = .ok (.iconst 0, 1) := by decide +kernel
theorem dX2_copyFrom_43 : decode cX2_copyFrom 43 = .ok (.aload_n 0, 1) := by decide +kernel
theorem dX2_copyFrom_44 : decode cX2_copyFrom 44 = .ok (.getfield 22, 3) := by decide +kernel
theorem dX2_copyFrom_47 : decode cX2_copyFrom 47 = .ok (.iconst 0, 1) := by decide +kernel
theorem dX2_copyFrom_48 : decode cX2_copyFrom 48 = .ok (.bipush 12, 2) := by decide +kernel
theorem dX2_copyFrom_50 : decode cX2_copyFrom 50 = .ok (.invokestatic 40, 3) := by decide +kernel
theorem dX2_copyFrom_53 : decode cX2_copyFrom 53 = .ok (.aload_n 1, 1) := by decide +kernel
theorem dX2_copyFrom_54 : decode cX2_copyFrom 54 = .ok (.getfield 25, 3) := by decide +kernel
theorem dX2_copyFrom_57 : decode cX2_copyFrom 57 = .ok (.iconst 0, 1) := by decide +kernel
theorem dX2_copyFrom_58 : decode cX2_copyFrom 58 = .ok (.aload_n 0, 1) := by decide +kernel
theorem dX2_copyFrom_59 : decode cX2_copyFrom 59 = .ok (.getfield 25, 3) := by decide +kernel
theorem dX2_copyFrom_62 : decode cX2_copyFrom 62 = .ok (.iconst 0, 1) := by decide +kernel
theorem dX2_copyFrom_63 : decode cX2_copyFrom 63 = .ok (.bipush 12, 2) := by decide +kernel
theorem dX2_copyFrom_65 : decode cX2_copyFrom 65 = .ok (.invokestatic 40, 3) := by decide +kernel
theorem dX2_copyFrom_68 : decode cX2_copyFrom 68 = .ok (.aload_n 1, 1) := by decide +kernel
theorem dX2_copyFrom_69 : decode cX2_copyFrom 69 = .ok (.getfield 28, 3) := by decide +kernel
theorem dX2_copyFrom_72 : decode cX2_copyFrom 72 = .ok (.iconst 0, 1) := by decide +kernel
theorem dX2_copyFrom_73 : decode cX2_copyFrom 73 = .ok (.aload_n 0, 1) := by decide +kernel
theorem dX2_copyFrom_74 : decode cX2_copyFrom 74 = .ok (.getfield 28, 3) := by decide +kernel
theorem dX2_copyFrom_77 : decode cX2_copyFrom 77 = .ok (.iconst 0, 1) := by decide +kernel
theorem dX2_copyFrom_78 : decode cX2_copyFrom 78 = .ok (.bipush 12, 2) := by decide +kernel
theorem dX2_copyFrom_80 : decode cX2_copyFrom 80 = .ok (.invokestatic 40, 3) := by decide +kernel
theorem dX2_copyFrom_83 : decode cX2_copyFrom 83 = .ok (.aload_n 1, 1) := by decide +kernel
theorem dX2_copyFrom_84 : decode cX2_copyFrom 84 = .ok (.getfield 31, 3) := by decide +kernel
theorem dX2_copyFrom_87 : decode cX2_copyFrom 87 = .ok (.iconst 0, 1) := by decide +kernel
theorem dX2_copyFrom_88 : decode cX2_copyFrom 88 = .ok (.aload_n 0, 1) := by decide +kernel
theorem dX2_copyFrom_89 : decode cX2_copyFrom 89 = .ok (.getfield 31, 3) := by decide +kernel
theorem dX2_copyFrom_92 : decode cX2_copyFrom 92 = .ok (.iconst 0, 1) := by decide +kernel
theorem dX2_copyFrom_93 : decode cX2_copyFrom 93 = .ok (.bipush 18, 2) := by decide +kernel
theorem dX2_copyFrom_95 : decode cX2_copyFrom 95 = .ok (.invokestatic 40, 3) := by decide +kernel
theorem dX2_copyFrom_98 : decode cX2_copyFrom 98 = .ok (.return_, 1) := by decide +kernel
theorem dX2_size_0 : decode cX2_size 0 = .ok (.aload_n 0, 1) := by decide +kernel
theorem dX2_size_1 : decode cX2_size 1 = .ok (.getfield 9, 3) := by decide +kernel
theorem dX2_size_4 : decode cX2_size 4 = .ok (.ireturn, 1) := by decide +kernel
theorem dX2_isFull_0 : decode cX2_isFull 0 = .ok (.aload_n 0, 1) := by decide +kernel
theorem dX2_isFull_1 : decode cX2_isFull 1 = .ok (.getfield 9, 3) := by decide +kernel
theorem dX2_isFull_4 : decode cX2_isFull 4 = .ok (.bipush 12, 2) := by decide +kernel
theorem dX2_isFull_6 : decode cX2_isFull 6 = .ok (.if_icmp .lt 7, 3) := by decide +kernel
theorem dX2_isFull_9 : decode cX2_isFull 9 = .ok (.iconst 1, 1) := by decide +kernel
theorem dX2_isFull_10 : decode cX2_isFull 10 = .ok (.goto 4, 3) := by decide +kernel
theorem dX2_isFull_13 : decode cX2_isFull 13 = .ok (.iconst 0, 1) := by decide +kernel
theorem dX2_isFull_14 : decode cX2_isFull 14 = .ok (.ireturn, 1) := by decide +kernel
theorem dX2_has_0 : decode cX2_has 0 = .ok (.iload_n 1, 1) := by decide +kernel
theorem dX2_has_1 : decode cX2_has 1 = .ok (.ifCond .lt 21, 3) := by decide +kernel
theorem dX2_has_4 : decode cX2_has 4 = .ok (.iload_n 1, 1) := by decide +kernel
theorem dX2_has_5 : decode cX2_has 5 = .ok (.aload_n 0, 1) := by decide +kernel
theorem dX2_has_6 : decode cX2_has 6 = .ok (.getfield 9, 3) := by decide +kernel
theorem dX2_has_9 : decode cX2_has 9 = .ok (.if_icmp .ge 13, 3) := by decide +kernel
theorem dX2_has_12 : decode cX2_has 12 = .ok (.iload_n 1, 1) := by decide +kernel
theorem dX2_has_13 : decode cX2_has 13 = .ok (.bipush 12, 2) := by decide +kernel
theorem dX2_has_15 : decode cX2_has 15 = .ok (.if_icmp .ge 7, 3) := by decide +kernel
theorem dX2_has_18 : decode cX2_has 18 = .ok (.iconst 1, 1) := by decide +kernel
theorem dX2_has_19 : decode cX2_has 19 = .ok (.goto 4, 3) := by decide +kernel
theorem dX2_has_22 : decode cX2_has 22 = .ok (.iconst 0, 1) := by decide +kernel
theorem dX2_has_23 : decode cX2_has 23 = .ok (.ireturn, 1) := by decide +kernel
theorem dX2_pitchOf_0 : decode cX2_pitchOf 0 = .ok (.aload_n 0, 1) := by decide +kernel
theorem dX2_pitchOf_1 : decode cX2_pitchOf 1 = .ok (.iload_n 1, 1) := by decide +kernel
theorem dX2_pitchOf_2 : decode cX2_pitchOf 2 = .ok (.invokevirtual 46, 3) := by decide +kernel
theorem dX2_pitchOf_5 : decode cX2_pitchOf 5 = .ok (.ifCond .eq 12, 3) := by decide +kernel
theorem dX2_pitchOf_8 : decode cX2_pitchOf 8 = .ok (.aload_n 0, 1) := by decide +kernel
theorem dX2_pitchOf_9 : decode cX2_pitchOf 9 = .ok (.getfield 15, 3) := by decide +kernel
theorem dX2_pitchOf_12 : decode cX2_pitchOf 12 = .ok (.iload_n 1, 1) := by decide +kernel
theorem dX2_pitchOf_13 : decode cX2_pitchOf 13 = .ok (.iaload, 1) := by decide +kernel
theorem dX2_pitchOf_14 : decode cX2_pitchOf 14 = .ok (.goto 4, 3) := by decide +kernel
theorem dX2_pitchOf_17 : decode cX2_pitchOf 17 = .ok (.iconst 0, 1) := by decide +kernel
theorem dX2_pitchOf_18 : decode cX2_pitchOf 18 = .ok (.ireturn, 1) := by decide +kernel
theorem dX2_wearOf_0 : decode cX2_wearOf 0 = .ok (.aload_n 0, 1) := by decide +kernel
theorem dX2_wearOf_1 : decode cX2_wearOf 1 = .ok (.iload_n 1, 1) := by decide +kernel
theorem dX2_wearOf_2 : decode cX2_wearOf 2 = .ok (.invokevirtual 46, 3) := by decide +kernel
theorem dX2_wearOf_5 : decode cX2_wearOf 5 = .ok (.ifCond .eq 12, 3) := by decide +kernel
theorem dX2_wearOf_8 : decode cX2_wearOf 8 = .ok (.aload_n 0, 1) := by decide +kernel
theorem dX2_wearOf_9 : decode cX2_wearOf 9 = .ok (.getfield 19, 3) := by decide +kernel
theorem dX2_wearOf_12 : decode cX2_wearOf 12 = .ok (.iload_n 1, 1) := by decide +kernel
theorem dX2_wearOf_13 : decode cX2_wearOf 13 = .ok (.iaload, 1) := by decide +kernel
theorem dX2_wearOf_14 : decode cX2_wearOf 14 = .ok (.goto 4, 3) := by decide +kernel
theorem dX2_wearOf_17 : decode cX2_wearOf 17 = .ok (.iconst 0, 1) := by decide +kernel
theorem dX2_wearOf_18 : decode cX2_wearOf 18 = .ok (.ireturn, 1) := by decide +kernel
theorem dX2_setWear_0 : decode cX2_setWear 0 = .ok (.aload_n 0, 1) := by decide +kernel
theorem dX2_setWear_1 : decode cX2_setWear 1 = .ok (.iload_n 1, 1) := by decide +kernel
theorem dX2_setWear_2 : decode cX2_setWear 2 = .ok (.invokevirtual 46, 3) := by decide +kernel
theorem dX2_setWear_5 : decode cX2_setWear 5 = .ok (.ifCond .eq 10, 3) := by decide +kernel
theorem dX2_setWear_8 : decode cX2_setWear 8 = .ok (.aload_n 0, 1) := by decide +kernel
theorem dX2_setWear_9 : decode cX2_setWear 9 = .ok (.getfield 19, 3) := by decide +kernel
theorem dX2_setWear_12 : decode cX2_setWear 12 = .ok (.iload_n 1, 1) := by decide +kernel
theorem dX2_setWear_13 : decode cX2_setWear 13 = .ok (.iload_n 2, 1) := by decide +kernel
theorem dX2_setWear_14 : decode cX2_setWear 14 = .ok (.iastore, 1) := by decide +kernel
theorem dX2_setWear_15 : decode cX2_setWear 15 = .ok (.return_, 1) := by decide +kernel
theorem dX2_slotOf_0 : decode cX2_slotOf 0 = .ok (.aload_n 0, 1) := by decide +kernel
theorem dX2_slotOf_1 : decode cX2_slotOf 1 = .ok (.iload_n 1, 1) := by decide +kernel
theorem dX2_slotOf_2 : decode cX2_slotOf 2 = .ok (.invokevirtual 46, 3) := by decide +kernel
theorem dX2_slotOf_5 : decode cX2_slotOf 5 = .ok (.ifCond .eq 12, 3) := by decide +kernel
theorem dX2_slotOf_8 : decode cX2_slotOf 8 = .ok (.aload_n 0, 1) := by decide +kernel
theorem dX2_slotOf_9 : decode cX2_slotOf 9 = .ok (.getfield 22, 3) := by decide +kernel
theorem dX2_slotOf_12 : decode cX2_slotOf 12 = .ok (.iload_n 1, 1) := by decide +kernel
theorem dX2_slotOf_13 : decode cX2_slotOf 13 = .ok (.iaload, 1) := by decide +kernel
theorem dX2_slotOf_14 : decode cX2_slotOf 14 = .ok (.goto 4, 3) := by decide +kernel
theorem dX2_slotOf_17 : decode cX2_slotOf 17 = .ok (.iconst (-1), 1) := by decide +kernel
theorem dX2_slotOf_18 : decode cX2_slotOf 18 = .ok (.ireturn, 1) := by decide +kernel
theorem dX2_isAway_0 : decode cX2_isAway 0 = .ok (.aload_n 0, 1) := by decide +kernel
theorem dX2_isAway_1 : decode cX2_isAway 1 = .ok (.iload_n 1, 1) := by decide +kernel
theorem dX2_isAway_2 : decode cX2_isAway 2 = .ok (.invokevirtual 46, 3) := by decide +kernel
theorem dX2_isAway_5 : decode cX2_isAway 5 = .ok (.ifCond .eq 17, 3) := by decide +kernel
theorem dX2_isAway_8 : decode cX2_isAway 8 = .ok (.aload_n 0, 1) := by decide +kernel
theorem dX2_isAway_9 : decode cX2_isAway 9 = .ok (.getfield 22, 3) := by decide +kernel
theorem dX2_isAway_12 : decode cX2_isAway 12 = .ok (.iload_n 1, 1) := by decide +kernel
theorem dX2_isAway_13 : decode cX2_isAway 13 = .ok (.iaload, 1) := by decide +kernel
theorem dX2_isAway_14 : decode cX2_isAway 14 = .ok (.iconst (-1), 1) := by decide +kernel
theorem dX2_isAway_15 : decode cX2_isAway 15 = .ok (.if_icmp .ne 7, 3) := by decide +kernel
theorem dX2_isAway_18 : decode cX2_isAway 18 = .ok (.iconst 1, 1) := by decide +kernel
theorem dX2_isAway_19 : decode cX2_isAway 19 = .ok (.goto 4, 3) := by decide +kernel
theorem dX2_isAway_22 : decode cX2_isAway 22 = .ok (.iconst 0, 1) := by decide +kernel
theorem dX2_isAway_23 : decode cX2_isAway 23 = .ok (.ireturn, 1) := by decide +kernel
theorem dX2_borrowerOf_0 : decode cX2_borrowerOf 0 = .ok (.aload_n 0, 1) := by decide +kernel
theorem dX2_borrowerOf_1 : decode cX2_borrowerOf 1 = .ok (.iload_n 1, 1) := by decide +kernel
theorem dX2_borrowerOf_2 : decode cX2_borrowerOf 2 = .ok (.invokevirtual 46, 3) := by decide +kernel
theorem dX2_borrowerOf_5 : decode cX2_borrowerOf 5 = .ok (.ifCond .eq 12, 3) := by decide +kernel
theorem dX2_borrowerOf_8 : decode cX2_borrowerOf 8 = .ok (.aload_n 0, 1) := by decide +kernel
theorem dX2_borrowerOf_9 : decode cX2_borrowerOf 9 = .ok (.getfield 25, 3) := by decide +kernel
theorem dX2_borrowerOf_12 : decode cX2_borrowerOf 12 = .ok (.iload_n 1, 1) := by decide +kernel
theorem dX2_borrowerOf_13 : decode cX2_borrowerOf 13 = .ok (.iaload, 1) := by decide +kernel
theorem dX2_borrowerOf_14 : decode cX2_borrowerOf 14 = .ok (.goto 4, 3) := by decide +kernel
theorem dX2_borrowerOf_17 : decode cX2_borrowerOf 17 = .ok (.iconst (-1), 1) := by decide +kernel
theorem dX2_borrowerOf_18 : decode cX2_borrowerOf 18 = .ok (.ireturn, 1) := by decide +kernel
theorem dX2_dueDayOf_0 : decode cX2_dueDayOf 0 = .ok (.aload_n 0, 1) := by decide +kernel
theorem dX2_dueDayOf_1 : decode cX2_dueDayOf 1 = .ok (.iload_n 1, 1) := by decide +kernel
theorem dX2_dueDayOf_2 : decode cX2_dueDayOf 2 = .ok (.invokevirtual 46, 3) := by decide +kernel
theorem dX2_dueDayOf_5 : decode cX2_dueDayOf 5 = .ok (.ifCond .eq 12, 3) := by decide +kernel
theorem dX2_dueDayOf_8 : decode cX2_dueDayOf 8 = .ok (.aload_n 0, 1) := by decide +kernel
theorem dX2_dueDayOf_9 : decode cX2_dueDayOf 9 = .ok (.getfield 28, 3) := by decide +kernel
theorem dX2_dueDayOf_12 : decode cX2_dueDayOf 12 = .ok (.iload_n 1, 1) := by decide +kernel
theorem dX2_dueDayOf_13 : decode cX2_dueDayOf 13 = .ok (.iaload, 1) := by decide +kernel
theorem dX2_dueDayOf_14 : decode cX2_dueDayOf 14 = .ok (.goto 4, 3) := by decide +kernel
theorem dX2_dueDayOf_17 : decode cX2_dueDayOf 17 = .ok (.iconst (-1), 1) := by decide +kernel
theorem dX2_dueDayOf_18 : decode cX2_dueDayOf 18 = .ok (.ireturn, 1) := by decide +kernel
theorem dX2_contentOf_0 : decode cX2_contentOf 0 = .ok (.iload_n 1, 1) := by decide +kernel
theorem dX2_contentOf_1 : decode cX2_contentOf 1 = .ok (.invokestatic 50, 3) := by decide +kernel
theorem dX2_contentOf_4 : decode cX2_contentOf 4 = .ok (.ifCond .eq 24, 3) := by decide +kernel
theorem dX2_contentOf_7 : decode cX2_contentOf 7 = .ok (.iload_n 2, 1) := by decide +kernel
theorem dX2_contentOf_8 : decode cX2_contentOf 8 = .ok (.invokestatic 53, 3) := by decide +kernel
theorem dX2_contentOf_11 : decode cX2_contentOf 11 = .ok (.ifCond .eq 17, 3) := by decide +kernel
theorem dX2_contentOf_14 : decode cX2_contentOf 14 = .ok (.aload_n 0, 1) := by decide +kernel
theorem dX2_contentOf_15 : decode cX2_contentOf 15 = .ok (.getfield 31, 3) := by decide +kernel
theorem dX2_contentOf_18 : decode cX2_contentOf 18 = .ok (.iload_n 1, 1) := by decide +kernel
theorem dX2_contentOf_19 : decode cX2_contentOf 19 = .ok (.bipush 6, 2) := by decide +kernel
theorem dX2_contentOf_21 : decode cX2_contentOf 21 = .ok (.imul, 1) := by decide +kernel
theorem dX2_contentOf_22 : decode cX2_contentOf 22 = .ok (.iload_n 2, 1) := by decide +kernel
theorem dX2_contentOf_23 : decode cX2_contentOf 23 = .ok (.iadd, 1) := by decide +kernel
theorem dX2_contentOf_24 : decode cX2_contentOf 24 = .ok (.iaload, 1) := by decide +kernel
theorem dX2_contentOf_25 : decode cX2_contentOf 25 = .ok (.goto 4, 3) := by decide +kernel
theorem dX2_contentOf_28 : decode cX2_contentOf 28 = .ok (.iconst (-1), 1) := by decide +kernel
theorem dX2_contentOf_29 : decode cX2_contentOf 29 = .ok (.ireturn, 1) := by decide +kernel
theorem dX2_countIn_0 : decode cX2_countIn 0 = .ok (.iconst 0, 1) := by decide +kernel
theorem dX2_countIn_1 : decode cX2_countIn 1 = .ok (.istore_n 2, 1) := by decide +kernel
theorem dX2_countIn_2 : decode cX2_countIn 2 = .ok (.iconst 0, 1) := by decide +kernel
theorem dX2_countIn_3 : decode cX2_countIn 3 = .ok (.istore_n 3, 1) := by decide +kernel
theorem dX2_countIn_4 : decode cX2_countIn 4 = .ok (.iload_n 3, 1) := by decide +kernel
theorem dX2_countIn_5 : decode cX2_countIn 5 = .ok (.bipush 6, 2) := by decide +kernel
theorem dX2_countIn_7 : decode cX2_countIn 7 = .ok (.if_icmp .ge 22, 3) := by decide +kernel
theorem dX2_countIn_10 : decode cX2_countIn 10 = .ok (.aload_n 0, 1) := by decide +kernel
theorem dX2_countIn_11 : decode cX2_countIn 11 = .ok (.iload_n 1, 1) := by decide +kernel
theorem dX2_countIn_12 : decode cX2_countIn 12 = .ok (.iload_n 3, 1) := by decide +kernel
theorem dX2_countIn_13 : decode cX2_countIn 13 = .ok (.invokevirtual 56, 3) := by decide +kernel
theorem dX2_countIn_16 : decode cX2_countIn 16 = .ok (.iconst (-1), 1) := by decide +kernel
theorem dX2_countIn_17 : decode cX2_countIn 17 = .ok (.if_icmp .eq 6, 3) := by decide +kernel
theorem dX2_countIn_20 : decode cX2_countIn 20 = .ok (.iinc 2 1, 3) := by decide +kernel
theorem dX2_countIn_23 : decode cX2_countIn 23 = .ok (.iinc 3 1, 3) := by decide +kernel
theorem dX2_countIn_26 : decode cX2_countIn 26 = .ok (.goto (-22), 3) := by decide +kernel
theorem dX2_countIn_29 : decode cX2_countIn 29 = .ok (.iload_n 2, 1) := by decide +kernel
theorem dX2_countIn_30 : decode cX2_countIn 30 = .ok (.ireturn, 1) := by decide +kernel
theorem dX2_wearSum_0 : decode cX2_wearSum 0 = .ok (.iconst 0, 1) := by decide +kernel
theorem dX2_wearSum_1 : decode cX2_wearSum 1 = .ok (.istore_n 1, 1) := by decide +kernel
theorem dX2_wearSum_2 : decode cX2_wearSum 2 = .ok (.iconst 0, 1) := by decide +kernel
theorem dX2_wearSum_3 : decode cX2_wearSum 3 = .ok (.istore_n 2, 1) := by decide +kernel
theorem dX2_wearSum_4 : decode cX2_wearSum 4 = .ok (.iload_n 2, 1) := by decide +kernel
theorem dX2_wearSum_5 : decode cX2_wearSum 5 = .ok (.aload_n 0, 1) := by decide +kernel
theorem dX2_wearSum_6 : decode cX2_wearSum 6 = .ok (.getfield 9, 3) := by decide +kernel
theorem dX2_wearSum_9 : decode cX2_wearSum 9 = .ok (.if_icmp .ge 17, 3) := by decide +kernel
theorem dX2_wearSum_12 : decode cX2_wearSum 12 = .ok (.iload_n 1, 1) := by decide +kernel
theorem dX2_wearSum_13 : decode cX2_wearSum 13 = .ok (.aload_n 0, 1) := by decide +kernel
theorem dX2_wearSum_14 : decode cX2_wearSum 14 = .ok (.iload_n 2, 1) := by decide +kernel
theorem dX2_wearSum_15 : decode cX2_wearSum 15 = .ok (.invokevirtual 60, 3) := by decide +kernel
theorem dX2_wearSum_18 : decode cX2_wearSum 18 = .ok (.iadd, 1) := by decide +kernel
theorem dX2_wearSum_19 : decode cX2_wearSum 19 = .ok (.istore_n 1, 1) := by decide +kernel
theorem dX2_wearSum_20 : decode cX2_wearSum 20 = .ok (.iinc 2 1, 3) := by decide +kernel
theorem dX2_wearSum_23 : decode cX2_wearSum 23 = .ok (.goto (-19), 3) := by decide +kernel
theorem dX2_wearSum_26 : decode cX2_wearSum 26 = .ok (.iload_n 1, 1) := by decide +kernel
theorem dX2_wearSum_27 : decode cX2_wearSum 27 = .ok (.ireturn, 1) := by decide +kernel
theorem dX2_awayCount_0 : decode cX2_awayCount 0 = .ok (.iconst 0, 1) := by decide +kernel
theorem dX2_awayCount_1 : decode cX2_awayCount 1 = .ok (.istore_n 1, 1) := by decide +kernel
theorem dX2_awayCount_2 : decode cX2_awayCount 2 = .ok (.iconst 0, 1) := by decide +kernel
theorem dX2_awayCount_3 : decode cX2_awayCount 3 = .ok (.istore_n 2, 1) := by decide +kernel
theorem dX2_awayCount_4 : decode cX2_awayCount 4 = .ok (.iload_n 2, 1) := by decide +kernel
theorem dX2_awayCount_5 : decode cX2_awayCount 5 = .ok (.aload_n 0, 1) := by decide +kernel
theorem dX2_awayCount_6 : decode cX2_awayCount 6 = .ok (.getfield 9, 3) := by decide +kernel
theorem dX2_awayCount_9 : decode cX2_awayCount 9 = .ok (.if_icmp .ge 20, 3) := by decide +kernel
theorem dX2_awayCount_12 : decode cX2_awayCount 12 = .ok (.aload_n 0, 1) := by decide +kernel
theorem dX2_awayCount_13 : decode cX2_awayCount 13 = .ok (.iload_n 2, 1) := by decide +kernel
theorem dX2_awayCount_14 : decode cX2_awayCount 14 = .ok (.invokevirtual 64, 3) := by decide +kernel
theorem dX2_awayCount_17 : decode cX2_awayCount 17 = .ok (.ifCond .eq 6, 3) := by decide +kernel
theorem dX2_awayCount_20 : decode cX2_awayCount 20 = .ok (.iinc 1 1, 3) := by decide +kernel
theorem dX2_awayCount_23 : decode cX2_awayCount 23 = .ok (.iinc 2 1, 3) := by decide +kernel
theorem dX2_awayCount_26 : decode cX2_awayCount 26 = .ok (.goto (-22), 3) := by decide +kernel
theorem dX2_awayCount_29 : decode cX2_awayCount 29 = .ok (.iload_n 1, 1) := by decide +kernel
theorem dX2_awayCount_30 : decode cX2_awayCount 30 = .ok (.ireturn, 1) := by decide +kernel
theorem dX2_freePlaceOf_0 : decode cX2_freePlaceOf 0 = .ok (.iconst 0, 1) := by decide +kernel
theorem dX2_freePlaceOf_1 : decode cX2_freePlaceOf 1 = .ok (.istore_n 2, 1) := by decide +kernel
theorem dX2_freePlaceOf_2 : decode cX2_freePlaceOf 2 = .ok (.iload_n 1, 1) := by decide +kernel
theorem dX2_freePlaceOf_3 : decode cX2_freePlaceOf 3 = .ok (.invokestatic 50, 3) := by decide +kernel
theorem dX2_freePlaceOf_6 : decode cX2_freePlaceOf 6 = .ok (.ifCond .eq 27, 3) := by decide +kernel
theorem dX2_freePlaceOf_9 : decode cX2_freePlaceOf 9 = .ok (.iload_n 2, 1) := by decide +kernel
theorem dX2_freePlaceOf_10 : decode cX2_freePlaceOf 10 = .ok (.bipush 6, 2) := by decide +kernel
theorem dX2_freePlaceOf_12 : decode cX2_freePlaceOf 12 = .ok (.if_icmp .ge 21, 3) := by decide +kernel
theorem dX2_freePlaceOf_15 : decode cX2_freePlaceOf 15 = .ok (.aload_n 0, 1) := by decide +kernel
theorem dX2_freePlaceOf_16 : decode cX2_freePlaceOf 16 = .ok (.iload_n 1, 1) := by decide +kernel
theorem dX2_freePlaceOf_17 : decode cX2_freePlaceOf 17 = .ok (.iload_n 2, 1) := by decide +kernel
theorem dX2_freePlaceOf_18 : decode cX2_freePlaceOf 18 = .ok (.invokevirtual 56, 3) := by decide +kernel
theorem dX2_freePlaceOf_21 : decode cX2_freePlaceOf 21 = .ok (.iconst (-1), 1) := by decide +kernel
theorem dX2_freePlaceOf_22 : decode cX2_freePlaceOf 22 = .ok (.if_icmp .ne 5, 3) := by decide +kernel
theorem dX2_freePlaceOf_25 : decode cX2_freePlaceOf 25 = .ok (.iload_n 2, 1) := by decide +kernel
theorem dX2_freePlaceOf_26 : decode cX2_freePlaceOf 26 = .ok (.ireturn, 1) := by decide +kernel
theorem dX2_freePlaceOf_27 : decode cX2_freePlaceOf 27 = .ok (.iinc 2 1, 3) := by decide +kernel
theorem dX2_freePlaceOf_30 : decode cX2_freePlaceOf 30 = .ok (.goto (-28), 3) := by decide +kernel
theorem dX2_freePlaceOf_33 : decode cX2_freePlaceOf 33 = .ok (.iconst (-1), 1) := by decide +kernel
theorem dX2_freePlaceOf_34 : decode cX2_freePlaceOf 34 = .ok (.ireturn, 1) := by decide +kernel
theorem dX2_add_0 : decode cX2_add 0 = .ok (.aload_n 0, 1) := by decide +kernel
theorem dX2_add_1 : decode cX2_add 1 = .ok (.invokevirtual 67, 3) := by decide +kernel
theorem dX2_add_4 : decode cX2_add 4 = .ok (.ifCond .eq 5, 3) := by decide +kernel
theorem dX2_add_7 : decode cX2_add 7 = .ok (.iconst (-1), 1) := by decide +kernel
theorem dX2_add_8 : decode cX2_add 8 = .ok (.ireturn, 1) := by decide +kernel
theorem dX2_add_9 : decode cX2_add 9 = .ok (.aload_n 0, 1) := by decide +kernel
theorem dX2_add_10 : decode cX2_add 10 = .ok (.getfield 9, 3) := by decide +kernel
theorem dX2_add_13 : decode cX2_add 13 = .ok (.istore_n 2, 1) := by decide +kernel
theorem dX2_add_14 : decode cX2_add 14 = .ok (.aload_n 0, 1) := by decide +kernel
theorem dX2_add_15 : decode cX2_add 15 = .ok (.dup, 1) := by decide +kernel
theorem dX2_add_16 : decode cX2_add 16 = .ok (.getfield 9, 3) := by decide +kernel
theorem dX2_add_19 : decode cX2_add 19 = .ok (.iconst 1, 1) := by decide +kernel
theorem dX2_add_20 : decode cX2_add 20 = .ok (.iadd, 1) := by decide +kernel
theorem dX2_add_21 : decode cX2_add 21 = .ok (.putfield 9, 3) := by decide +kernel
theorem dX2_add_24 : decode cX2_add 24 = .ok (.aload_n 0, 1) := by decide +kernel
theorem dX2_add_25 : decode cX2_add 25 = .ok (.getfield 15, 3) := by decide +kernel
theorem dX2_add_28 : decode cX2_add 28 = .ok (.iload_n 2, 1) := by decide +kernel
theorem dX2_add_29 : decode cX2_add 29 = .ok (.iload_n 1, 1) := by decide +kernel
theorem dX2_add_30 : decode cX2_add 30 = .ok (.iastore, 1) := by decide +kernel
theorem dX2_add_31 : decode cX2_add 31 = .ok (.aload_n 0, 1) := by decide +kernel
theorem dX2_add_32 : decode cX2_add 32 = .ok (.getfield 19, 3) := by decide +kernel
theorem dX2_add_35 : decode cX2_add 35 = .ok (.iload_n 2, 1) := by decide +kernel
theorem dX2_add_36 : decode cX2_add 36 = .ok (.iconst 0, 1) := by decide +kernel
theorem dX2_add_37 : decode cX2_add 37 = .ok (.iastore, 1) := by decide +kernel
theorem dX2_add_38 : decode cX2_add 38 = .ok (.aload_n 0, 1) := by decide +kernel
theorem dX2_add_39 : decode cX2_add 39 = .ok (.getfield 22, 3) := by decide +kernel
theorem dX2_add_42 : decode cX2_add 42 = .ok (.iload_n 2, 1) := by decide +kernel
theorem dX2_add_43 : decode cX2_add 43 = .ok (.iconst (-1), 1) := by decide +kernel
theorem dX2_add_44 : decode cX2_add 44 = .ok (.iastore, 1) := by decide +kernel
theorem dX2_add_45 : decode cX2_add 45 = .ok (.iload_n 2, 1) := by decide +kernel
theorem dX2_add_46 : decode cX2_add 46 = .ok (.ireturn, 1) := by decide +kernel
theorem dX2_setContent_0 : decode cX2_setContent 0 = .ok (.iload_n 1, 1) := by decide +kernel
theorem dX2_setContent_1 : decode cX2_setContent 1 = .ok (.invokestatic 50, 3) := by decide +kernel
theorem dX2_setContent_4 : decode cX2_setContent 4 = .ok (.ifCond .eq 10, 3) := by decide +kernel
theorem dX2_setContent_7 : decode cX2_setContent 7 = .ok (.iload_n 2, 1) := by decide +kernel
theorem dX2_setContent_8 : decode cX2_setContent 8 = .ok (.invokestatic 53, 3) := by decide +kernel
theorem dX2_setContent_11 : decode cX2_setContent 11 = .ok (.ifCond .ne 4, 3) := by decide +kernel
theorem dX2_setContent_14 : decode cX2_setContent 14 = .ok (.return_, 1) := by decide +kernel
theorem dX2_setContent_15 : decode cX2_setContent 15 = .ok (.iload_n 1, 1) := by decide +kernel
theorem dX2_setContent_16 : decode cX2_setContent 16 = .ok (.bipush 6, 2) := by decide +kernel
theorem dX2_setContent_18 : decode cX2_setContent 18 = .ok (.imul, 1) := by decide +kernel
theorem dX2_setContent_19 : decode cX2_setContent 19 = .ok (.iload_n 2, 1) := by decide +kernel
theorem dX2_setContent_20 : decode cX2_setContent 20 = .ok (.iadd, 1) := by decide +kernel
theorem dX2_setContent_21 : decode cX2_setContent 21 = .ok (.istore 4, 2) := by decide +kernel
theorem dX2_setContent_23 : decode cX2_setContent 23 = .ok (.aload_n 0, 1) := by decide +kernel
theorem dX2_setContent_24 : decode cX2_setContent 24 = .ok (.getfield 31, 3) := by decide +kernel
theorem dX2_setContent_27 : decode cX2_setContent 27 = .ok (.iload 4, 2) := by decide +kernel
theorem dX2_setContent_29 : decode cX2_setContent 29 = .ok (.iload_n 3, 1) := by decide +kernel
theorem dX2_setContent_30 : decode cX2_setContent 30 = .ok (.iastore, 1) := by decide +kernel
theorem dX2_setContent_31 : decode cX2_setContent 31 = .ok (.aload_n 0, 1) := by decide +kernel
theorem dX2_setContent_32 : decode cX2_setContent 32 = .ok (.iload_n 3, 1) := by decide +kernel
theorem dX2_setContent_33 : decode cX2_setContent 33 = .ok (.invokevirtual 46, 3) := by decide +kernel
theorem dX2_setContent_36 : decode cX2_setContent 36 = .ok (.ifCond .eq 11, 3) := by decide +kernel
theorem dX2_setContent_39 : decode cX2_setContent 39 = .ok (.aload_n 0, 1) := by decide +kernel
theorem dX2_setContent_40 : decode cX2_setContent 40 = .ok (.getfield 22, 3) := by decide +kernel
theorem dX2_setContent_43 : decode cX2_setContent 43 = .ok (.iload_n 3, 1) := by decide +kernel
theorem dX2_setContent_44 : decode cX2_setContent 44 = .ok (.iload 4, 2) := by decide +kernel
theorem dX2_setContent_46 : decode cX2_setContent 46 = .ok (.iastore, 1) := by decide +kernel
theorem dX2_setContent_47 : decode cX2_setContent 47 = .ok (.return_, 1) := by decide +kernel
theorem dX2_takeOut_0 : decode cX2_takeOut 0 = .ok (.aload_n 0, 1) := by decide +kernel
theorem dX2_takeOut_1 : decode cX2_takeOut 1 = .ok (.iload_n 1, 1) := by decide +kernel
theorem dX2_takeOut_2 : decode cX2_takeOut 2 = .ok (.invokevirtual 46, 3) := by decide +kernel
theorem dX2_takeOut_5 : decode cX2_takeOut 5 = .ok (.ifCond .eq 12, 3) := by decide +kernel
theorem dX2_takeOut_8 : decode cX2_takeOut 8 = .ok (.aload_n 0, 1) := by decide +kernel
theorem dX2_takeOut_9 : decode cX2_takeOut 9 = .ok (.getfield 22, 3) := by decide +kernel
theorem dX2_takeOut_12 : decode cX2_takeOut 12 = .ok (.iload_n 1, 1) := by decide +kernel
theorem dX2_takeOut_13 : decode cX2_takeOut 13 = .ok (.iaload, 1) := by decide +kernel
theorem dX2_takeOut_14 : decode cX2_takeOut 14 = .ok (.goto 4, 3) := by decide +kernel
theorem dX2_takeOut_17 : decode cX2_takeOut 17 = .ok (.iconst (-1), 1) := by decide +kernel
theorem dX2_takeOut_18 : decode cX2_takeOut 18 = .ok (.istore_n 2, 1) := by decide +kernel
theorem dX2_takeOut_19 : decode cX2_takeOut 19 = .ok (.iload_n 2, 1) := by decide +kernel
theorem dX2_takeOut_20 : decode cX2_takeOut 20 = .ok (.ifCond .lt 26, 3) := by decide +kernel
theorem dX2_takeOut_23 : decode cX2_takeOut 23 = .ok (.iload_n 2, 1) := by decide +kernel
theorem dX2_takeOut_24 : decode cX2_takeOut 24 = .ok (.aload_n 0, 1) := by decide +kernel
theorem dX2_takeOut_25 : decode cX2_takeOut 25 = .ok (.getfield 31, 3) := by decide +kernel
theorem dX2_takeOut_28 : decode cX2_takeOut 28 = .ok (.arraylength, 1) := by decide +kernel
theorem dX2_takeOut_29 : decode cX2_takeOut 29 = .ok (.if_icmp .ge 17, 3) := by decide +kernel
theorem dX2_takeOut_32 : decode cX2_takeOut 32 = .ok (.aload_n 0, 1) := by decide +kernel
theorem dX2_takeOut_33 : decode cX2_takeOut 33 = .ok (.getfield 31, 3) := by decide +kernel
theorem dX2_takeOut_36 : decode cX2_takeOut 36 = .ok (.iload_n 2, 1) := by decide +kernel
theorem dX2_takeOut_37 : decode cX2_takeOut 37 = .ok (.iconst (-1), 1) := by decide +kernel
theorem dX2_takeOut_38 : decode cX2_takeOut 38 = .ok (.iastore, 1) := by decide +kernel
theorem dX2_takeOut_39 : decode cX2_takeOut 39 = .ok (.aload_n 0, 1) := by decide +kernel
theorem dX2_takeOut_40 : decode cX2_takeOut 40 = .ok (.getfield 22, 3) := by decide +kernel
theorem dX2_takeOut_43 : decode cX2_takeOut 43 = .ok (.iload_n 1, 1) := by decide +kernel
theorem dX2_takeOut_44 : decode cX2_takeOut 44 = .ok (.iconst (-1), 1) := by decide +kernel
theorem dX2_takeOut_45 : decode cX2_takeOut 45 = .ok (.iastore, 1) := by decide +kernel
theorem dX2_takeOut_46 : decode cX2_takeOut 46 = .ok (.return_, 1) := by decide +kernel
theorem dX2_lend_0 : decode cX2_lend 0 = .ok (.aload_n 0, 1) := by decide +kernel
theorem dX2_lend_1 : decode cX2_lend 1 = .ok (.iload_n 1, 1) := by decide +kernel
theorem dX2_lend_2 : decode cX2_lend 2 = .ok (.invokevirtual 46, 3) := by decide +kernel
theorem dX2_lend_5 : decode cX2_lend 5 = .ok (.ifCond .eq 22, 3) := by decide +kernel
theorem dX2_lend_8 : decode cX2_lend 8 = .ok (.aload_n 0, 1) := by decide +kernel
theorem dX2_lend_9 : decode cX2_lend 9 = .ok (.iload_n 1, 1) := by decide +kernel
theorem dX2_lend_10 : decode cX2_lend 10 = .ok (.invokevirtual 71, 3) := by decide +kernel
theorem dX2_lend_13 : decode cX2_lend 13 = .ok (.aload_n 0, 1) := by decide +kernel
theorem dX2_lend_14 : decode cX2_lend 14 = .ok (.getfield 25, 3) := by decide +kernel
theorem dX2_lend_17 : decode cX2_lend 17 = .ok (.iload_n 1, 1) := by decide +kernel
theorem dX2_lend_18 : decode cX2_lend 18 = .ok (.iload_n 2, 1) := by decide +kernel
theorem dX2_lend_19 : decode cX2_lend 19 = .ok (.iastore, 1) := by decide +kernel
theorem dX2_lend_20 : decode cX2_lend 20 = .ok (.aload_n 0, 1) := by decide +kernel
theorem dX2_lend_21 : decode cX2_lend 21 = .ok (.getfield 28, 3) := by decide +kernel
theorem dX2_lend_24 : decode cX2_lend 24 = .ok (.iload_n 1, 1) := by decide +kernel
theorem dX2_lend_25 : decode cX2_lend 25 = .ok (.iload_n 3, 1) := by decide +kernel
theorem dX2_lend_26 : decode cX2_lend 26 = .ok (.iastore, 1) := by decide +kernel
theorem dX2_lend_27 : decode cX2_lend 27 = .ok (.return_, 1) := by decide +kernel
theorem dX2_sortsBefore_0 : decode cX2_sortsBefore 0 = .ok (.aload_n 0, 1) := by decide +kernel
theorem dX2_sortsBefore_1 : decode cX2_sortsBefore 1 = .ok (.iload_n 1, 1) := by decide +kernel
theorem dX2_sortsBefore_2 : decode cX2_sortsBefore 2 = .ok (.invokevirtual 46, 3) := by decide +kernel
theorem dX2_sortsBefore_5 : decode cX2_sortsBefore 5 = .ok (.ifCond .eq 11, 3) := by decide +kernel
theorem dX2_sortsBefore_8 : decode cX2_sortsBefore 8 = .ok (.aload_n 0, 1) := by decide +kernel
theorem dX2_sortsBefore_9 : decode cX2_sortsBefore 9 = .ok (.iload_n 2, 1) := by decide +kernel
theorem dX2_sortsBefore_10 : decode cX2_sortsBefore 10 = .ok (.invokevirtual 46, 3) := by decide +kernel
theorem dX2_sortsBefore_13 : decode cX2_sortsBefore 13 = .ok (.ifCond .ne 5, 3) := by decide +kernel
theorem dX2_sortsBefore_16 : decode cX2_sortsBefore 16 = .ok (.iconst 0, 1) := by decide +kernel
theorem dX2_sortsBefore_17 : decode cX2_sortsBefore 17 = .ok (.ireturn, 1) := by decide +kernel
theorem dX2_sortsBefore_18 : decode cX2_sortsBefore 18 = .ok (.aload_n 0, 1) := by decide +kernel
theorem dX2_sortsBefore_19 : decode cX2_sortsBefore 19 = .ok (.getfield 15, 3) := by decide +kernel
theorem dX2_sortsBefore_22 : decode cX2_sortsBefore 22 = .ok (.iload_n 1, 1) := by decide +kernel
theorem dX2_sortsBefore_23 : decode cX2_sortsBefore 23 = .ok (.iaload, 1) := by decide +kernel
theorem dX2_sortsBefore_24 : decode cX2_sortsBefore 24 = .ok (.aload_n 0, 1) := by decide +kernel
theorem dX2_sortsBefore_25 : decode cX2_sortsBefore 25 = .ok (.getfield 15, 3) := by decide +kernel
theorem dX2_sortsBefore_28 : decode cX2_sortsBefore 28 = .ok (.iload_n 2, 1) := by decide +kernel
theorem dX2_sortsBefore_29 : decode cX2_sortsBefore 29 = .ok (.iaload, 1) := by decide +kernel
theorem dX2_sortsBefore_30 : decode cX2_sortsBefore 30 = .ok (.isub, 1) := by decide +kernel
theorem dX2_sortsBefore_31 : decode cX2_sortsBefore 31 = .ok (.istore_n 3, 1) := by decide +kernel
theorem dX2_sortsBefore_32 : decode cX2_sortsBefore 32 = .ok (.iload_n 3, 1) := by decide +kernel
theorem dX2_sortsBefore_33 : decode cX2_sortsBefore 33 = .ok (.ifCond .lt 12, 3) := by decide +kernel
theorem dX2_sortsBefore_36 : decode cX2_sortsBefore 36 = .ok (.iload_n 3, 1) := by decide +kernel
theorem dX2_sortsBefore_37 : decode cX2_sortsBefore 37 = .ok (.ifCond .ne 12, 3) := by decide +kernel
theorem dX2_sortsBefore_40 : decode cX2_sortsBefore 40 = .ok (.iload_n 1, 1) := by decide +kernel
theorem dX2_sortsBefore_41 : decode cX2_sortsBefore 41 = .ok (.iload_n 2, 1) := by decide +kernel
theorem dX2_sortsBefore_42 : decode cX2_sortsBefore 42 = .ok (.if_icmp .ge 7, 3) := by decide +kernel
theorem dX2_sortsBefore_45 : decode cX2_sortsBefore 45 = .ok (.iconst 1, 1) := by decide +kernel
theorem dX2_sortsBefore_46 : decode cX2_sortsBefore 46 = .ok (.goto 4, 3) := by decide +kernel
theorem dX2_sortsBefore_49 : decode cX2_sortsBefore 49 = .ok (.iconst 0, 1) := by decide +kernel
theorem dX2_sortsBefore_50 : decode cX2_sortsBefore 50 = .ok (.ireturn, 1) := by decide +kernel
theorem dX2_moreWorn_0 : decode cX2_moreWorn 0 = .ok (.aload_n 0, 1) := by decide +kernel
theorem dX2_moreWorn_1 : decode cX2_moreWorn 1 = .ok (.iload_n 1, 1) := by decide +kernel
theorem dX2_moreWorn_2 : decode cX2_moreWorn 2 = .ok (.invokevirtual 60, 3) := by decide +kernel
theorem dX2_moreWorn_5 : decode cX2_moreWorn 5 = .ok (.aload_n 0, 1) := by decide +kernel
theorem dX2_moreWorn_6 : decode cX2_moreWorn 6 = .ok (.iload_n 2, 1) := by decide +kernel
theorem dX2_moreWorn_7 : decode cX2_moreWorn 7 = .ok (.invokevirtual 60, 3) := by decide +kernel
theorem dX2_moreWorn_10 : decode cX2_moreWorn 10 = .ok (.isub, 1) := by decide +kernel
theorem dX2_moreWorn_11 : decode cX2_moreWorn 11 = .ok (.istore_n 3, 1) := by decide +kernel
theorem dX2_moreWorn_12 : decode cX2_moreWorn 12 = .ok (.iload_n 3, 1) := by decide +kernel
theorem dX2_moreWorn_13 : decode cX2_moreWorn 13 = .ok (.ifCond .gt 16, 3) := by decide +kernel
theorem dX2_moreWorn_16 : decode cX2_moreWorn 16 = .ok (.iload_n 3, 1) := by decide +kernel
theorem dX2_moreWorn_17 : decode cX2_moreWorn 17 = .ok (.ifCond .ne 16, 3) := by decide +kernel
theorem dX2_moreWorn_20 : decode cX2_moreWorn 20 = .ok (.aload_n 0, 1) := by decide +kernel
theorem dX2_moreWorn_21 : decode cX2_moreWorn 21 = .ok (.iload_n 1, 1) := by decide +kernel
theorem dX2_moreWorn_22 : decode cX2_moreWorn 22 = .ok (.iload_n 2, 1) := by decide +kernel
theorem dX2_moreWorn_23 : decode cX2_moreWorn 23 = .ok (.invokevirtual 75, 3) := by decide +kernel
theorem dX2_moreWorn_26 : decode cX2_moreWorn 26 = .ok (.ifCond .eq 7, 3) := by decide +kernel
theorem dX2_moreWorn_29 : decode cX2_moreWorn 29 = .ok (.iconst 1, 1) := by decide +kernel
theorem dX2_moreWorn_30 : decode cX2_moreWorn 30 = .ok (.goto 4, 3) := by decide +kernel
theorem dX2_moreWorn_33 : decode cX2_moreWorn 33 = .ok (.iconst 0, 1) := by decide +kernel
theorem dX2_moreWorn_34 : decode cX2_moreWorn 34 = .ok (.ireturn, 1) := by decide +kernel
theorem dX2_byWear_0 : decode cX2_byWear 0 = .ok (.iconst 0, 1) := by decide +kernel
theorem dX2_byWear_1 : decode cX2_byWear 1 = .ok (.istore_n 2, 1) := by decide +kernel
theorem dX2_byWear_2 : decode cX2_byWear 2 = .ok (.iload_n 2, 1) := by decide +kernel
theorem dX2_byWear_3 : decode cX2_byWear 3 = .ok (.aload_n 0, 1) := by decide +kernel
theorem dX2_byWear_4 : decode cX2_byWear 4 = .ok (.getfield 9, 3) := by decide +kernel
theorem dX2_byWear_7 : decode cX2_byWear 7 = .ok (.if_icmp .ge 49, 3) := by decide +kernel
theorem dX2_byWear_10 : decode cX2_byWear 10 = .ok (.iconst 0, 1) := by decide +kernel
theorem dX2_byWear_11 : decode cX2_byWear 11 = .ok (.istore_n 3, 1) := by decide +kernel
theorem dX2_byWear_12 : decode cX2_byWear 12 = .ok (.iconst 0, 1) := by decide +kernel
theorem dX2_byWear_13 : decode cX2_byWear 13 = .ok (.istore 4, 2) := by decide +kernel
theorem dX2_byWear_15 : decode cX2_byWear 15 = .ok (.iload 4, 2) := by decide +kernel
theorem dX2_byWear_17 : decode cX2_byWear 17 = .ok (.aload_n 0, 1) := by decide +kernel
theorem dX2_byWear_18 : decode cX2_byWear 18 = .ok (.getfield 9, 3) := by decide +kernel
theorem dX2_byWear_21 : decode cX2_byWear 21 = .ok (.if_icmp .ge 22, 3) := by decide +kernel
theorem dX2_byWear_24 : decode cX2_byWear 24 = .ok (.aload_n 0, 1) := by decide +kernel
theorem dX2_byWear_25 : decode cX2_byWear 25 = .ok (.iload 4, 2) := by decide +kernel
theorem dX2_byWear_27 : decode cX2_byWear 27 = .ok (.iload_n 2, 1) := by decide +kernel
theorem dX2_byWear_28 : decode cX2_byWear 28 = .ok (.invokevirtual 79, 3) := by decide +kernel
theorem dX2_byWear_31 : decode cX2_byWear 31 = .ok (.ifCond .eq 6, 3) := by decide +kernel
theorem dX2_byWear_34 : decode cX2_byWear 34 = .ok (.iinc 3 1, 3) := by decide +kernel
theorem dX2_byWear_37 : decode cX2_byWear 37 = .ok (.iinc 4 1, 3) := by decide +kernel
theorem dX2_byWear_40 : decode cX2_byWear 40 = .ok (.goto (-25), 3) := by decide +kernel
theorem dX2_byWear_43 : decode cX2_byWear 43 = .ok (.iload_n 3, 1) := by decide +kernel
theorem dX2_byWear_44 : decode cX2_byWear 44 = .ok (.iload_n 1, 1) := by decide +kernel
theorem dX2_byWear_45 : decode cX2_byWear 45 = .ok (.if_icmp .ne 5, 3) := by decide +kernel
theorem dX2_byWear_48 : decode cX2_byWear 48 = .ok (.iload_n 2, 1) := by decide +kernel
theorem dX2_byWear_49 : decode cX2_byWear 49 = .ok (.ireturn, 1) := by decide +kernel
theorem dX2_byWear_50 : decode cX2_byWear 50 = .ok (.iinc 2 1, 3) := by decide +kernel
theorem dX2_byWear_53 : decode cX2_byWear 53 = .ok (.goto (-51), 3) := by decide +kernel
theorem dX2_byWear_56 : decode cX2_byWear 56 = .ok (.iconst (-1), 1) := by decide +kernel
theorem dX2_byWear_57 : decode cX2_byWear 57 = .ok (.ireturn, 1) := by decide +kernel
theorem dX2_lieWhereTheyShould_0 : decode cX2_lieWhereTheyShould 0 = .ok (.iconst 0, 1) := by decide +kernel
theorem dX2_lieWhereTheyShould_1 : decode cX2_lieWhereTheyShould 1 = .ok (.istore_n 1, 1) := by decide +kernel
theorem dX2_lieWhereTheyShould_2 : decode cX2_lieWhereTheyShould 2 = .ok (.iload_n 1, 1) := by decide +kernel
theorem dX2_lieWhereTheyShould_3 : decode cX2_lieWhereTheyShould 3 = .ok (.aload_n 0, 1) := by decide +kernel
theorem dX2_lieWhereTheyShould_4 : decode cX2_lieWhereTheyShould 4 = .ok (.getfield 31, 3) := by decide +kernel
theorem dX2_lieWhereTheyShould_7 : decode cX2_lieWhereTheyShould 7 = .ok (.arraylength, 1) := by decide +kernel
theorem dX2_lieWhereTheyShould_8 : decode cX2_lieWhereTheyShould 8 = .ok (.if_icmp .ge 32, 3) := by decide +kernel
theorem dX2_lieWhereTheyShould_11 : decode cX2_lieWhereTheyShould 11 = .ok (.aload_n 0, 1) := by decide +kernel
theorem dX2_lieWhereTheyShould_12 : decode cX2_lieWhereTheyShould 12 = .ok (.getfield 31, 3) := by decide +kernel
theorem dX2_lieWhereTheyShould_15 : decode cX2_lieWhereTheyShould 15 = .ok (.iload_n 1, 1) := by decide +kernel
theorem dX2_lieWhereTheyShould_16 : decode cX2_lieWhereTheyShould 16 = .ok (.iaload, 1) := by decide +kernel
theorem dX2_lieWhereTheyShould_17 : decode cX2_lieWhereTheyShould 17 = .ok (.istore_n 2, 1) := by decide +kernel
theorem dX2_lieWhereTheyShould_18 : decode cX2_lieWhereTheyShould 18 = .ok (.iload_n 2, 1) := by decide +kernel
theorem dX2_lieWhereTheyShould_19 : decode cX2_lieWhereTheyShould 19 = .ok (.iconst (-1), 1) := by decide +kernel
theorem dX2_lieWhereTheyShould_20 : decode cX2_lieWhereTheyShould 20 = .ok (.if_icmp .eq 14, 3) := by decide +kernel
theorem dX2_lieWhereTheyShould_23 : decode cX2_lieWhereTheyShould 23 = .ok (.aload_n 0, 1) := by decide +kernel
theorem dX2_lieWhereTheyShould_24 : decode cX2_lieWhereTheyShould 24 = .ok (.iload_n 2, 1) := by decide +kernel
theorem dX2_lieWhereTheyShould_25 : decode cX2_lieWhereTheyShould 25 = .ok (.invokevirtual 82, 3) := by decide +kernel
theorem dX2_lieWhereTheyShould_28 : decode cX2_lieWhereTheyShould 28 = .ok (.iload_n 1, 1) := by decide +kernel
theorem dX2_lieWhereTheyShould_29 : decode cX2_lieWhereTheyShould 29 = .ok (.if_icmp .eq 5, 3) := by decide +kernel
theorem dX2_lieWhereTheyShould_32 : decode cX2_lieWhereTheyShould 32 = .ok (.iconst 0, 1) := by decide +kernel
theorem dX2_lieWhereTheyShould_33 : decode cX2_lieWhereTheyShould 33 = .ok (.ireturn, 1) := by decide +kernel
theorem dX2_lieWhereTheyShould_34 : decode cX2_lieWhereTheyShould 34 = .ok (.iinc 1 1, 3) := by decide +kernel
theorem dX2_lieWhereTheyShould_37 : decode cX2_lieWhereTheyShould 37 = .ok (.goto (-35), 3) := by decide +kernel
theorem dX2_lieWhereTheyShould_40 : decode cX2_lieWhereTheyShould 40 = .ok (.iconst 1, 1) := by decide +kernel
theorem dX2_lieWhereTheyShould_41 : decode cX2_lieWhereTheyShould 41 = .ok (.ireturn, 1) := by decide +kernel
theorem dX3_init_0 : decode cX3_init 0 = .ok (.aload_n 0, 1) := by decide +kernel
theorem dX3_init_1 : decode cX3_init 1 = .ok (.invokespecial 3, 3) := by decide +kernel
theorem dX3_init_4 : decode cX3_init 4 = .ok (.aload_n 0, 1) := by decide +kernel
theorem dX3_init_5 : decode cX3_init 5 = .ok (.bipush 9, 2) := by decide +kernel
theorem dX3_init_7 : decode cX3_init 7 = .ok (.anewarray 11, 3) := by decide +kernel
theorem dX3_init_10 : decode cX3_init 10 = .ok (.putfield 13, 3) := by decide +kernel
theorem dX3_init_13 : decode cX3_init 13 = .ok (.aload_n 0, 1) := by decide +kernel
theorem dX3_init_14 : decode cX3_init 14 = .ok (.iconst 0, 1) := by decide +kernel
theorem dX3_init_15 : decode cX3_init 15 = .ok (.putfield 17, 3) := by decide +kernel
theorem dX3_init_18 : decode cX3_init 18 = .ok (.aload_n 0, 1) := by decide +kernel
theorem dX3_init_19 : decode cX3_init 19 = .ok (.iconst 0, 1) := by decide +kernel
theorem dX3_init_20 : decode cX3_init 20 = .ok (.putfield 21, 3) := by decide +kernel
theorem dX3_init_23 : decode cX3_init 23 = .ok (.iconst 0, 1) := by decide +kernel
theorem dX3_init_24 : decode cX3_init 24 = .ok (.istore_n 1, 1) := by decide +kernel
theorem dX3_init_25 : decode cX3_init 25 = .ok (.iload_n 1, 1) := by decide +kernel
theorem dX3_init_26 : decode cX3_init 26 = .ok (.bipush 9, 2) := by decide +kernel
theorem dX3_init_28 : decode cX3_init 28 = .ok (.if_icmp .ge 22, 3) := by decide +kernel
theorem dX3_init_31 : decode cX3_init 31 = .ok (.aload_n 0, 1) := by decide +kernel
theorem dX3_init_32 : decode cX3_init 32 = .ok (.getfield 13, 3) := by decide +kernel
theorem dX3_init_35 : decode cX3_init 35 = .ok (.iload_n 1, 1) := by decide +kernel
theorem dX3_init_36 : decode cX3_init 36 = .ok (.new 11, 3) := by decide +kernel
theorem dX3_init_39 : decode cX3_init 39 = .ok (.dup, 1) := by decide +kernel
theorem dX3_init_40 : decode cX3_init 40 = .ok (.invokespecial 24, 3) := by decide +kernel
theorem dX3_init_43 : decode cX3_init 43 = .ok (.aastore, 1) := by decide +kernel
theorem dX3_init_44 : decode cX3_init 44 = .ok (.iinc 1 1, 3) := by decide +kernel
theorem dX3_init_47 : decode cX3_init 47 = .ok (.goto (-22), 3) := by decide +kernel
theorem dX3_init_50 : decode cX3_init 50 = .ok (.return_, 1) := by decide +kernel
theorem dX3_size_0 : decode cX3_size 0 = .ok (.aload_n 0, 1) := by decide +kernel
theorem dX3_size_1 : decode cX3_size 1 = .ok (.getfield 21, 3) := by decide +kernel
theorem dX3_size_4 : decode cX3_size 4 = .ok (.ireturn, 1) := by decide +kernel
theorem dX3_spareState_0 : decode cX3_spareState 0 = .ok (.aload_n 0, 1) := by decide +kernel
theorem dX3_spareState_1 : decode cX3_spareState 1 = .ok (.getfield 17, 3) := by decide +kernel
theorem dX3_spareState_4 : decode cX3_spareState 4 = .ok (.ifCond .lt 24, 3) := by decide +kernel
theorem dX3_spareState_7 : decode cX3_spareState 7 = .ok (.aload_n 0, 1) := by decide +kernel
theorem dX3_spareState_8 : decode cX3_spareState 8 = .ok (.getfield 17, 3) := by decide +kernel
theorem dX3_spareState_11 : decode cX3_spareState 11 = .ok (.bipush 9, 2) := by decide +kernel
theorem dX3_spareState_13 : decode cX3_spareState 13 = .ok (.if_icmp .ge 15, 3) := by decide +kernel
theorem dX3_spareState_16 : decode cX3_spareState 16 = .ok (.aload_n 0, 1) := by decide +kernel
theorem dX3_spareState_17 : decode cX3_spareState 17 = .ok (.getfield 13, 3) := by decide +kernel
theorem dX3_spareState_20 : decode cX3_spareState 20 = .ok (.aload_n 0, 1) := by decide +kernel
theorem dX3_spareState_21 : decode cX3_spareState 21 = .ok (.getfield 17, 3) := by decide +kernel
theorem dX3_spareState_24 : decode cX3_spareState 24 = .ok (.aaload, 1) := by decide +kernel
theorem dX3_spareState_25 : decode cX3_spareState 25 = .ok (.goto 4, 3) := by decide +kernel
theorem dX3_spareState_28 : decode cX3_spareState 28 = .ok (.aconst_null, 1) := by decide +kernel
theorem dX3_spareState_29 : decode cX3_spareState 29 = .ok (.areturn, 1) := by decide +kernel
theorem dX3_mark_0 : decode cX3_mark 0 = .ok (.aload_n 0, 1) := by decide +kernel
theorem dX3_mark_1 : decode cX3_mark 1 = .ok (.invokevirtual 25, 3) := by decide +kernel
theorem dX3_mark_4 : decode cX3_mark 4 = .ok (.astore_n 2, 1) := by decide +kernel
theorem dX3_mark_5 : decode cX3_mark 5 = .ok (.aload_n 2, 1) := by decide +kernel
theorem dX3_mark_6 : decode cX3_mark 6 = .ok (.ifnull 8, 3) := by decide +kernel
theorem dX3_mark_9 : decode cX3_mark 9 = .ok (.aload_n 2, 1) := by decide +kernel
theorem dX3_mark_10 : decode cX3_mark 10 = .ok (.aload_n 1, 1) := by decide +kernel
theorem dX3_mark_11 : decode cX3_mark 11 = .ok (.invokevirtual 29, 3) := by decide +kernel
theorem dX3_mark_14 : decode cX3_mark 14 = .ok (.return_, 1) := by decide +kernel
theorem dX3_revert_0 : decode cX3_revert 0 = .ok (.aload_n 0, 1) := by decide +kernel
theorem dX3_revert_1 : decode cX3_revert 1 = .ok (.invokevirtual 25, 3) := by decide +kernel
theorem dX3_revert_4 : decode cX3_revert 4 = .ok (.astore_n 2, 1) := by decide +kernel
theorem dX3_revert_5 : decode cX3_revert 5 = .ok (.aload_n 2, 1) := by decide +kernel
theorem dX3_revert_6 : decode cX3_revert 6 = .ok (.ifnull 8, 3) := by decide +kernel
theorem dX3_revert_9 : decode cX3_revert 9 = .ok (.aload_n 1, 1) := by decide +kernel
theorem dX3_revert_10 : decode cX3_revert 10 = .ok (.aload_n 2, 1) := by decide +kernel
theorem dX3_revert_11 : decode cX3_revert 11 = .ok (.invokevirtual 29, 3) := by decide +kernel
theorem dX3_revert_14 : decode cX3_revert 14 = .ok (.return_, 1) := by decide +kernel
theorem dX3_keep_0 : decode cX3_keep 0 = .ok (.aload_n 0, 1) := by decide +kernel
theorem dX3_keep_1 : decode cX3_keep 1 = .ok (.aload_n 0, 1) := by decide +kernel
theorem dX3_keep_2 : decode cX3_keep 2 = .ok (.getfield 17, 3) := by decide +kernel
theorem dX3_keep_5 : decode cX3_keep 5 = .ok (.iconst 1, 1) := by decide +kernel
theorem dX3_keep_6 : decode cX3_keep 6 = .ok (.iadd, 1) := by decide +kernel
theorem dX3_keep_7 : decode cX3_keep 7 = .ok (.bipush 9, 2) := by decide +kernel
theorem dX3_keep_9 : decode cX3_keep 9 = .ok (.irem, 1) := by decide +kernel
theorem dX3_keep_10 : decode cX3_keep 10 = .ok (.putfield 17, 3) := by decide +kernel
theorem dX3_keep_13 : decode cX3_keep 13 = .ok (.aload_n 0, 1) := by decide +kernel
theorem dX3_keep_14 : decode cX3_keep 14 = .ok (.aload_n 0, 1) := by decide +kernel
theorem dX3_keep_15 : decode cX3_keep 15 = .ok (.getfield 21, 3) := by decide +kernel
theorem dX3_keep_18 : decode cX3_keep 18 = .ok (.iconst 1, 1) := by decide +kernel
theorem dX3_keep_19 : decode cX3_keep 19 = .ok (.iadd, 1) := by decide +kernel
theorem dX3_keep_20 : decode cX3_keep 20 = .ok (.bipush 8, 2) := by decide +kernel
theorem dX3_keep_22 : decode cX3_keep 22 = .ok (.invokestatic 33, 3) := by decide +kernel
theorem dX3_keep_25 : decode cX3_keep 25 = .ok (.putfield 21, 3) := by decide +kernel
theorem dX3_keep_28 : decode cX3_keep 28 = .ok (.return_, 1) := by decide +kernel
theorem dX3_back_0 : decode cX3_back 0 = .ok (.aload_n 0, 1) := by decide +kernel
theorem dX3_back_1 : decode cX3_back 1 = .ok (.getfield 21, 3) := by decide +kernel
theorem dX3_back_4 : decode cX3_back 4 = .ok (.ifCond .le 34, 3) := by decide +kernel
theorem dX3_back_7 : decode cX3_back 7 = .ok (.aload_n 0, 1) := by decide +kernel
theorem dX3_back_8 : decode cX3_back 8 = .ok (.dup, 1) := by decide +kernel
theorem dX3_back_9 : decode cX3_back 9 = .ok (.getfield 21, 3) := by decide +kernel
theorem dX3_back_12 : decode cX3_back 12 = .ok (.iconst 1, 1) := by decide +kernel
theorem dX3_back_13 : decode cX3_back 13 = .ok (.isub, 1) := by decide +kernel
theorem dX3_back_14 : decode cX3_back 14 = .ok (.putfield 21, 3) := by decide +kernel
theorem dX3_back_17 : decode cX3_back 17 = .ok (.aload_n 0, 1) := by decide +kernel
theorem dX3_back_18 : decode cX3_back 18 = .ok (.aload_n 0, 1) := by decide +kernel
theorem dX3_back_19 : decode cX3_back 19 = .ok (.getfield 17, 3) := by decide +kernel
theorem dX3_back_22 : decode cX3_back 22 = .ok (.bipush 9, 2) := by decide +kernel
theorem dX3_back_24 : decode cX3_back 24 = .ok (.iadd, 1) := by decide +kernel
theorem dX3_back_25 : decode cX3_back 25 = .ok (.iconst 1, 1) := by decide +kernel
theorem dX3_back_26 : decode cX3_back 26 = .ok (.isub, 1) := by decide +kernel
theorem dX3_back_27 : decode cX3_back 27 = .ok (.bipush 9, 2) := by decide +kernel
theorem dX3_back_29 : decode cX3_back 29 = .ok (.irem, 1) := by decide +kernel
theorem dX3_back_30 : decode cX3_back 30 = .ok (.putfield 17, 3) := by decide +kernel
theorem dX3_back_33 : decode cX3_back 33 = .ok (.aload_n 0, 1) := by decide +kernel
theorem dX3_back_34 : decode cX3_back 34 = .ok (.aload_n 1, 1) := by decide +kernel
theorem dX3_back_35 : decode cX3_back 35 = .ok (.invokevirtual 39, 3) := by decide +kernel
theorem dX3_back_38 : decode cX3_back 38 = .ok (.return_, 1) := by decide +kernel
theorem dX3_forget_0 : decode cX3_forget 0 = .ok (.aload_n 0, 1) := by decide +kernel
theorem dX3_forget_1 : decode cX3_forget 1 = .ok (.iconst 0, 1) := by decide +kernel
theorem dX3_forget_2 : decode cX3_forget 2 = .ok (.putfield 21, 3) := by decide +kernel
theorem dX3_forget_5 : decode cX3_forget 5 = .ok (.return_, 1) := by decide +kernel
theorem dX4_init_0 : decode cX4_init 0 = .ok (.aload_n 0, 1) := by decide +kernel
theorem dX4_init_1 : decode cX4_init 1 = .ok (.invokespecial 3, 3) := by decide +kernel
theorem dX4_init_4 : decode cX4_init 4 = .ok (.aload_n 0, 1) := by decide +kernel
theorem dX4_init_5 : decode cX4_init 5 = .ok (.iconst 0, 1) := by decide +kernel
theorem dX4_init_6 : decode cX4_init 6 = .ok (.putfield 9, 3) := by decide +kernel
theorem dX4_init_9 : decode cX4_init 9 = .ok (.aload_n 0, 1) := by decide +kernel
theorem dX4_init_10 : decode cX4_init 10 = .ok (.bipush 8, 2) := by decide +kernel
theorem dX4_init_12 : decode cX4_init 12 = .ok (.newarray .int, 2) := by decide +kernel
theorem dX4_init_14 : decode cX4_init 14 = .ok (.putfield 15, 3) := by decide +kernel
theorem dX4_init_17 : decode cX4_init 17 = .ok (.aload_n 0, 1) := by decide +kernel
theorem dX4_init_18 : decode cX4_init 18 = .ok (.bipush 12, 2) := by decide +kernel
theorem dX4_init_20 : decode cX4_init 20 = .ok (.newarray .int, 2) := by decide +kernel
theorem dX4_init_22 : decode cX4_init 22 = .ok (.putfield 19, 3) := by decide +kernel
theorem dX4_init_25 : decode cX4_init 25 = .ok (.aload_n 0, 1) := by decide +kernel
theorem dX4_init_26 : decode cX4_init 26 = .ok (.bipush 8, 2) := by decide +kernel
theorem dX4_init_28 : decode cX4_init 28 = .ok (.newarray .int, 2) := by decide +kernel
theorem dX4_init_30 : decode cX4_init 30 = .ok (.putfield 22, 3) := by decide +kernel
theorem dX4_init_33 : decode cX4_init 33 = .ok (.aload_n 0, 1) := by decide +kernel
theorem dX4_init_34 : decode cX4_init 34 = .ok (.iconst 0, 1) := by decide +kernel
theorem dX4_init_35 : decode cX4_init 35 = .ok (.putfield 25, 3) := by decide +kernel
theorem dX4_init_38 : decode cX4_init 38 = .ok (.return_, 1) := by decide +kernel
theorem dX4_load_0 : decode cX4_load 0 = .ok (.aload_n 0, 1) := by decide +kernel
theorem dX4_load_1 : decode cX4_load 1 = .ok (.aload_n 1, 1) := by decide +kernel
theorem dX4_load_2 : decode cX4_load 2 = .ok (.getfield 28, 3) := by decide +kernel
theorem dX4_load_5 : decode cX4_load 5 = .ok (.invokevirtual 34, 3) := by decide +kernel
theorem dX4_load_8 : decode cX4_load 8 = .ok (.bipush 8, 2) := by decide +kernel
theorem dX4_load_10 : decode cX4_load 10 = .ok (.invokestatic 40, 3) := by decide +kernel
theorem dX4_load_13 : decode cX4_load 13 = .ok (.putfield 9, 3) := by decide +kernel
theorem dX4_load_16 : decode cX4_load 16 = .ok (.iconst 0, 1) := by decide +kernel
theorem dX4_load_17 : decode cX4_load 17 = .ok (.istore_n 2, 1) := by decide +kernel
theorem dX4_load_18 : decode cX4_load 18 = .ok (.iload_n 2, 1) := by decide +kernel
theorem dX4_load_19 : decode cX4_load 19 = .ok (.aload_n 0, 1) := by decide +kernel
theorem dX4_load_20 : decode cX4_load 20 = .ok (.getfield 9, 3) := by decide +kernel
theorem dX4_load_23 : decode cX4_load 23 = .ok (.if_icmp .ge 56, 3) := by decide +kernel
theorem dX4_load_26 : decode cX4_load 26 = .ok (.iconst 0, 1) := by decide +kernel
theorem dX4_load_27 : decode cX4_load 27 = .ok (.istore_n 3, 1) := by decide +kernel
theorem dX4_load_28 : decode cX4_load 28 = .ok (.iconst 0, 1) := by decide +kernel
theorem dX4_load_29 : decode cX4_load 29 = .ok (.istore 4, 2) := by decide +kernel
theorem dX4_load_31 : decode cX4_load 31 = .ok (.iload 4, 2) := by decide +kernel
theorem dX4_load_33 : decode cX4_load 33 = .ok (.aload_n 1, 1) := by decide +kernel
theorem dX4_load_34 : decode cX4_load 34 = .ok (.getfield 46, 3) := by decide +kernel
theorem dX4_load_37 : decode cX4_load 37 = .ok (.invokevirtual 50, 3) := by decide +kernel
theorem dX4_load_40 : decode cX4_load 40 = .ok (.if_icmp .ge 26, 3) := by decide +kernel
theorem dX4_load_43 : decode cX4_load 43 = .ok (.aload_n 1, 1) := by decide +kernel
theorem dX4_load_44 : decode cX4_load 44 = .ok (.iload_n 2, 1) := by decide +kernel
theorem dX4_load_45 : decode cX4_load 45 = .ok (.iload 4, 2) := by decide +kernel
theorem dX4_load_47 : decode cX4_load 47 = .ok (.invokevirtual 53, 3) := by decide +kernel
theorem dX4_load_50 : decode cX4_load 50 = .ok (.ifCond .eq 10, 3) := by decide +kernel
theorem dX4_load_53 : decode cX4_load 53 = .ok (.iload_n 3, 1) := by decide +kernel
theorem dX4_load_54 : decode cX4_load 54 = .ok (.iconst 1, 1) := by decide +kernel
theorem dX4_load_55 : decode cX4_load 55 = .ok (.iload 4, 2) := by decide +kernel
theorem dX4_load_57 : decode cX4_load 57 = .ok (.ishl, 1) := by decide +kernel
theorem dX4_load_58 : decode cX4_load 58 = .ok (.ior, 1) := by decide +kernel
theorem dX4_load_59 : decode cX4_load 59 = .ok (.istore_n 3, 1) := by decide +kernel
theorem dX4_load_60 : decode cX4_load 60 = .ok (.iinc 4 1, 3) := by decide +kernel
theorem dX4_load_63 : decode cX4_load 63 = .ok (.goto (-32), 3) := by decide +kernel
theorem dX4_load_66 : decode cX4_load 66 = .ok (.aload_n 0, 1) := by decide +kernel
theorem dX4_load_67 : decode cX4_load 67 = .ok (.getfield 15, 3) := by decide +kernel
theorem dX4_load_70 : decode cX4_load 70 = .ok (.iload_n 2, 1) := by decide +kernel
theorem dX4_load_71 : decode cX4_load 71 = .ok (.iload_n 3, 1) := by decide +kernel
theorem dX4_load_72 : decode cX4_load 72 = .ok (.iastore, 1) := by decide +kernel
theorem dX4_load_73 : decode cX4_load 73 = .ok (.iinc 2 1, 3) := by decide +kernel
theorem dX4_load_76 : decode cX4_load 76 = .ok (.goto (-58), 3) := by decide +kernel
theorem dX4_load_79 : decode cX4_load 79 = .ok (.return_, 1) := by decide +kernel
theorem dX4_greatest_0 : decode cX4_greatest 0 = .ok (.aload_n 0, 1) := by decide +kernel
theorem dX4_greatest_1 : decode cX4_greatest 1 = .ok (.iconst 0, 1) := by decide +kernel
theorem dX4_greatest_2 : decode cX4_greatest 2 = .ok (.sipush 4095, 3) := by decide +kernel
theorem dX4_greatest_5 : decode cX4_greatest 5 = .ok (.invokevirtual 57, 3) := by decide +kernel
theorem dX4_greatest_8 : decode cX4_greatest 8 = .ok (.ireturn, 1) := by decide +kernel
theorem dX4_greatestFrom_0 : decode cX4_greatestFrom 0 = .ok (.aload_n 0, 1) := by decide +kernel
theorem dX4_greatestFrom_1 : decode cX4_greatestFrom 1 = .ok (.getfield 19, 3) := by decide +kernel
theorem dX4_greatestFrom_4 : decode cX4_greatestFrom 4 = .ok (.iconst (-1), 1) := by decide +kernel
theorem dX4_greatestFrom_5 : decode cX4_greatestFrom 5 = .ok (.invokestatic 60, 3) := by decide +kernel
theorem dX4_greatestFrom_8 : decode cX4_greatestFrom 8 = .ok (.iconst 0, 1) := by decide +kernel
theorem dX4_greatestFrom_9 : decode cX4_greatestFrom 9 = .ok (.istore_n 3, 1) := by decide +kernel
theorem dX4_greatestFrom_10 : decode cX4_greatestFrom 10 = .ok (.iload_n 1, 1) := by decide +kernel
theorem dX4_greatestFrom_11 : decode cX4_greatestFrom 11 = .ok (.istore 4, 2) := by decide +kernel
theorem dX4_greatestFrom_13 : decode cX4_greatestFrom 13 = .ok (.iload 4, 2) := by decide +kernel
theorem dX4_greatestFrom_15 : decode cX4_greatestFrom 15 = .ok (.aload_n 0, 1) := by decide +kernel
theorem dX4_greatestFrom_16 : decode cX4_greatestFrom 16 = .ok (.getfield 9, 3) := by decide +kernel
theorem dX4_greatestFrom_19 : decode cX4_greatestFrom 19 = .ok (.if_icmp .ge 27, 3) := by decide +kernel
theorem dX4_greatestFrom_22 : decode cX4_greatestFrom 22 = .ok (.aload_n 0, 1) := by decide +kernel
theorem dX4_greatestFrom_23 : decode cX4_greatestFrom 23 = .ok (.iload_n 2, 1) := by decide +kernel
theorem dX4_greatestFrom_24 : decode cX4_greatestFrom 24 = .ok (.putfield 25, 3) := by decide +kernel
theorem dX4_greatestFrom_27 : decode cX4_greatestFrom 27 = .ok (.aload_n 0, 1) := by decide +kernel
theorem dX4_greatestFrom_28 : decode cX4_greatestFrom 28 = .ok (.iload 4, 2) := by decide +kernel
theorem dX4_greatestFrom_30 : decode cX4_greatestFrom 30 = .ok (.iconst 0, 1) := by decide +kernel
theorem dX4_greatestFrom_31 : decode cX4_greatestFrom 31 = .ok (.invokestatic 66, 3) := by decide +kernel
theorem dX4_greatestFrom_34 : decode cX4_greatestFrom 34 = .ok (.ifCond .eq 6, 3) := by decide +kernel
theorem dX4_greatestFrom_37 : decode cX4_greatestFrom 37 = .ok (.iinc 3 1, 3) := by decide +kernel
theorem dX4_greatestFrom_40 : decode cX4_greatestFrom 40 = .ok (.iinc 4 1, 3) := by decide +kernel
theorem dX4_greatestFrom_43 : decode cX4_greatestFrom 43 = .ok (.goto (-30), 3) := by decide +kernel
theorem dX4_greatestFrom_46 : decode cX4_greatestFrom 46 = .ok (.iload_n 3, 1) := by decide +kernel
theorem dX4_greatestFrom_47 : decode cX4_greatestFrom 47 = .ok (.ireturn, 1) := by decide +kernel
theorem dX4_augment_0 : decode cX4_augment 0 = .ok (.iload_n 2, 1) := by decide +kernel
theorem dX4_augment_1 : decode cX4_augment 1 = .ok (.bipush 8, 2) := by decide +kernel
theorem dX4_augment_3 : decode cX4_augment 3 = .ok (.if_icmp .gt 13, 3) := by decide +kernel
theorem dX4_augment_6 : decode cX4_augment 6 = .ok (.iload_n 1, 1) := by decide +kernel
theorem dX4_augment_7 : decode cX4_augment 7 = .ok (.ifCond .lt 9, 3) := by decide +kernel
theorem dX4_augment_10 : decode cX4_augment 10 = .ok (.iload_n 1, 1) := by decide +kernel
theorem dX4_augment_11 : decode cX4_augment 11 = .ok (.bipush 8, 2) := by decide +kernel
theorem dX4_augment_13 : decode cX4_augment 13 = .ok (.if_icmp .lt 5, 3) := by decide +kernel
theorem dX4_augment_16 : decode cX4_augment 16 = .ok (.iconst 0, 1) := by decide +kernel
theorem dX4_augment_17 : decode cX4_augment 17 = .ok (.ireturn, 1) := by decide +kernel
theorem dX4_augment_18 : decode cX4_augment 18 = .ok (.iconst 0, 1) := by decide +kernel
theorem dX4_augment_19 : decode cX4_augment 19 = .ok (.istore_n 3, 1) := by decide +kernel
theorem dX4_augment_20 : decode cX4_augment 20 = .ok (.iload_n 3, 1) := by decide +kernel
theorem dX4_augment_21 : decode cX4_augment 21 = .ok (.bipush 12, 2) := by decide +kernel
theorem dX4_augment_23 : decode cX4_augment 23 = .ok (.if_icmp .ge 79, 3) := by decide +kernel
theorem dX4_augment_26 : decode cX4_augment 26 = .ok (.iconst 1, 1) := by decide +kernel
theorem dX4_augment_27 : decode cX4_augment 27 = .ok (.iload_n 3, 1) := by decide +kernel
theorem dX4_augment_28 : decode cX4_augment 28 = .ok (.ishl, 1) := by decide +kernel
theorem dX4_augment_29 : decode cX4_augment 29 = .ok (.istore 4, 2) := by decide +kernel
theorem dX4_augment_31 : decode cX4_augment 31 = .ok (.aload_n 0, 1) := by decide +kernel
theorem dX4_augment_32 : decode cX4_augment 32 = .ok (.getfield 15, 3) := by decide +kernel
theorem dX4_augment_35 : decode cX4_augment 35 = .ok (.iload_n 1, 1) := by decide +kernel
theorem dX4_augment_36 : decode cX4_augment 36 = .ok (.iaload, 1) := by decide +kernel
theorem dX4_augment_37 : decode cX4_augment 37 = .ok (.aload_n 0, 1) := by decide +kernel
theorem dX4_augment_38 : decode cX4_augment 38 = .ok (.getfield 25, 3) := by decide +kernel
theorem dX4_augment_41 : decode cX4_augment 41 = .ok (.iand, 1) := by decide +kernel
theorem dX4_augment_42 : decode cX4_augment 42 = .ok (.iload 4, 2) := by decide +kernel
theorem dX4_augment_44 : decode cX4_augment 44 = .ok (.iand, 1) := by decide +kernel
theorem dX4_augment_45 : decode cX4_augment 45 = .ok (.ifCond .eq 51, 3) := by decide +kernel
theorem dX4_augment_48 : decode cX4_augment 48 = .ok (.aload_n 0, 1) := by decide +kernel
theorem dX4_augment_49 : decode cX4_augment 49 = .ok (.dup, 1) := by decide +kernel
theorem dX4_augment_50 : decode cX4_augment 50 = .ok (.getfield 25, 3) := by decide +kernel
theorem dX4_augment_53 : decode cX4_augment 53 = .ok (.iload 4, 2) := by decide +kernel
theorem dX4_augment_55 : decode cX4_augment 55 = .ok (.iconst (-1), 1) := by decide +kernel
theorem dX4_augment_56 : decode cX4_augment 56 = .ok (.ixor, 1) := by decide +kernel
theorem dX4_augment_57 : decode cX4_augment 57 = .ok (.iand, 1) := by decide +kernel
theorem dX4_augment_58 : decode cX4_augment 58 = .ok (.putfield 25, 3) := by decide +kernel
theorem dX4_augment_61 : decode cX4_augment 61 = .ok (.aload_n 0, 1) := by decide +kernel
theorem dX4_augment_62 : decode cX4_augment 62 = .ok (.getfield 19, 3) := by decide +kernel
theorem dX4_augment_65 : decode cX4_augment 65 = .ok (.iload_n 3, 1) := by decide +kernel
theorem dX4_augment_66 : decode cX4_augment 66 = .ok (.iaload, 1) := by decide +kernel
theorem dX4_augment_67 : decode cX4_augment 67 = .ok (.istore 5, 2) := by decide +kernel
theorem dX4_augment_69 : decode cX4_augment 69 = .ok (.iload 5, 2) := by decide +kernel
theorem dX4_augment_71 : decode cX4_augment 71 = .ok (.iconst (-1), 1) := by decide +kernel
theorem dX4_augment_72 : decode cX4_augment 72 = .ok (.if_icmp .eq 15, 3) := by decide +kernel
theorem dX4_augment_75 : decode cX4_augment 75 = .ok (.aload_n 0, 1) := by decide +kernel
theorem dX4_augment_76 : decode cX4_augment 76 = .ok (.iload 5, 2) := by decide +kernel
theorem dX4_augment_78 : decode cX4_augment 78 = .ok (.iload_n 2, 1) := by decide +kernel
theorem dX4_augment_79 : decode cX4_augment 79 = .ok (.iconst 1, 1) := by decide +kernel
theorem dX4_augment_80 : decode cX4_augment 80 = .ok (.iadd, 1) := by decide +kernel
theorem dX4_augment_81 : decode cX4_augment 81 = .ok (.invokestatic 66, 3) := by decide +kernel
theorem dX4_augment_84 : decode cX4_augment 84 = .ok (.ifCond .eq 12, 3) := by decide +kernel
theorem dX4_augment_87 : decode cX4_augment 87 = .ok (.aload_n 0, 1) := by decide +kernel
theorem dX4_augment_88 : decode cX4_augment 88 = .ok (.getfield 19, 3) := by decide +kernel
theorem dX4_augment_91 : decode cX4_augment 91 = .ok (.iload_n 3, 1) := by decide +kernel
theorem dX4_augment_92 : decode cX4_augment 92 = .ok (.iload_n 1, 1) := by decide +kernel
theorem dX4_augment_93 : decode cX4_augment 93 = .ok (.iastore, 1) := by decide +kernel
theorem dX4_augment_94 : decode cX4_augment 94 = .ok (.iconst 1, 1) := by decide +kernel
theorem dX4_augment_95 : decode cX4_augment 95 = .ok (.ireturn, 1) := by decide +kernel
theorem dX4_augment_96 : decode cX4_augment 96 = .ok (.iinc 3 1, 3) := by decide +kernel
theorem dX4_augment_99 : decode cX4_augment 99 = .ok (.goto (-79), 3) := by decide +kernel
theorem dX4_augment_102 : decode cX4_augment 102 = .ok (.iconst 0, 1) := by decide +kernel
theorem dX4_augment_103 : decode cX4_augment 103 = .ok (.ireturn, 1) := by decide +kernel
theorem dX4_greatestBySets_0 : decode cX4_greatestBySets 0 = .ok (.aload_n 0, 1) := by decide +kernel
theorem dX4_greatestBySets_1 : decode cX4_greatestBySets 1 = .ok (.getfield 9, 3) := by decide +kernel
theorem dX4_greatestBySets_4 : decode cX4_greatestBySets 4 = .ok (.istore_n 1, 1) := by decide +kernel
theorem dX4_greatestBySets_5 : decode cX4_greatestBySets 5 = .ok (.iconst 0, 1) := by decide +kernel
theorem dX4_greatestBySets_6 : decode cX4_greatestBySets 6 = .ok (.istore_n 2, 1) := by decide +kernel
theorem dX4_greatestBySets_7 : decode cX4_greatestBySets 7 = .ok (.iload_n 2, 1) := by decide +kernel
theorem dX4_greatestBySets_8 : decode cX4_greatestBySets 8 = .ok (.iconst 1, 1) := by decide +kernel
theorem dX4_greatestBySets_9 : decode cX4_greatestBySets 9 = .ok (.aload_n 0, 1) := by decide +kernel
theorem dX4_greatestBySets_10 : decode cX4_greatestBySets 10 = .ok (.getfield 9, 3) := by decide +kernel
theorem dX4_greatestBySets_13 : decode cX4_greatestBySets 13 = .ok (.ishl, 1) := by decide +kernel
theorem dX4_greatestBySets_14 : decode cX4_greatestBySets 14 = .ok (.if_icmp .ge 34, 3) := by decide +kernel
theorem dX4_greatestBySets_17 : decode cX4_greatestBySets 17 = .ok (.aload_n 0, 1) := by decide +kernel
theorem dX4_greatestBySets_18 : decode cX4_greatestBySets 18 = .ok (.getfield 9, 3) := by decide +kernel
theorem dX4_greatestBySets_21 : decode cX4_greatestBySets 21 = .ok (.iload_n 2, 1) := by decide +kernel
theorem dX4_greatestBySets_22 : decode cX4_greatestBySets 22 = .ok (.invokestatic 70, 3) := by decide +kernel
theorem dX4_greatestBySets_25 : decode cX4_greatestBySets 25 = .ok (.isub, 1) := by decide +kernel
theorem dX4_greatestBySets_26 : decode cX4_greatestBySets 26 = .ok (.istore_n 3, 1) := by decide +kernel
theorem dX4_greatestBySets_27 : decode cX4_greatestBySets 27 = .ok (.iload_n 1, 1) := by decide +kernel
theorem dX4_greatestBySets_28 : decode cX4_greatestBySets 28 = .ok (.iload_n 3, 1) := by decide +kernel
theorem dX4_greatestBySets_29 : decode cX4_greatestBySets 29 = .ok (.aload_n 0, 1) := by decide +kernel
theorem dX4_greatestBySets_30 : decode cX4_greatestBySets 30 = .ok (.iload_n 2, 1) := by decide +kernel
theorem dX4_greatestBySets_31 : decode cX4_greatestBySets 31 = .ok (.invokevirtual 76, 3) := by decide +kernel
theorem dX4_greatestBySets_34 : decode cX4_greatestBySets 34 = .ok (.invokestatic 70, 3) := by decide +kernel
theorem dX4_greatestBySets_37 : decode cX4_greatestBySets 37 = .ok (.iadd, 1) := by decide +kernel
theorem dX4_greatestBySets_38 : decode cX4_greatestBySets 38 = .ok (.invokestatic 40, 3) := by decide +kernel
theorem dX4_greatestBySets_41 : decode cX4_greatestBySets 41 = .ok (.istore_n 1, 1) := by decide +kernel
theorem dX4_greatestBySets_42 : decode cX4_greatestBySets 42 = .ok (.iinc 2 1, 3) := by decide +kernel
theorem dX4_greatestBySets_45 : decode cX4_greatestBySets 45 = .ok (.goto (-38), 3) := by decide +kernel
theorem dX4_greatestBySets_48 : decode cX4_greatestBySets 48 = .ok (.iload_n 1, 1) := by decide +kernel
theorem dX4_greatestBySets_49 : decode cX4_greatestBySets 49 = .ok (.ireturn, 1) := by decide +kernel
theorem dX4_fittingAny_0 : decode cX4_fittingAny 0 = .ok (.iconst 0, 1) := by decide +kernel
theorem dX4_fittingAny_1 : decode cX4_fittingAny 1 = .ok (.istore_n 2, 1) := by decide +kernel
theorem dX4_fittingAny_2 : decode cX4_fittingAny 2 = .ok (.iconst 0, 1) := by decide +kernel
theorem dX4_fittingAny_3 : decode cX4_fittingAny 3 = .ok (.istore_n 3, 1) := by decide +kernel
theorem dX4_fittingAny_4 : decode cX4_fittingAny 4 = .ok (.iload_n 3, 1) := by decide +kernel
theorem dX4_fittingAny_5 : decode cX4_fittingAny 5 = .ok (.aload_n 0, 1) := by decide +kernel
theorem dX4_fittingAny_6 : decode cX4_fittingAny 6 = .ok (.getfield 9, 3) := by decide +kernel
theorem dX4_fittingAny_9 : decode cX4_fittingAny 9 = .ok (.if_icmp .ge 26, 3) := by decide +kernel
theorem dX4_fittingAny_12 : decode cX4_fittingAny 12 = .ok (.iload_n 1, 1) := by decide +kernel
theorem dX4_fittingAny_13 : decode cX4_fittingAny 13 = .ok (.iconst 1, 1) := by decide +kernel
theorem dX4_fittingAny_14 : decode cX4_fittingAny 14 = .ok (.iload_n 3, 1) := by decide +kernel
theorem dX4_fittingAny_15 : decode cX4_fittingAny 15 = .ok (.ishl, 1) := by decide +kernel
theorem dX4_fittingAny_16 : decode cX4_fittingAny 16 = .ok (.iand, 1) := by decide +kernel
theorem dX4_fittingAny_17 : decode cX4_fittingAny 17 = .ok (.ifCond .eq 12, 3) := by decide +kernel
theorem dX4_fittingAny_20 : decode cX4_fittingAny 20 = .ok (.iload_n 2, 1) := by decide +kernel
theorem dX4_fittingAny_21 : decode cX4_fittingAny 21 = .ok (.aload_n 0, 1) := by decide +kernel
theorem dX4_fittingAny_22 : decode cX4_fittingAny 22 = .ok (.getfield 15, 3) := by decide +kernel
theorem dX4_fittingAny_25 : decode cX4_fittingAny 25 = .ok (.iload_n 3, 1) := by decide +kernel
theorem dX4_fittingAny_26 : decode cX4_fittingAny 26 = .ok (.iaload, 1) := by decide +kernel
theorem dX4_fittingAny_27 : decode cX4_fittingAny 27 = .ok (.ior, 1) := by decide +kernel
theorem dX4_fittingAny_28 : decode cX4_fittingAny 28 = .ok (.istore_n 2, 1) := by decide +kernel
theorem dX4_fittingAny_29 : decode cX4_fittingAny 29 = .ok (.iinc 3 1, 3) := by decide +kernel
theorem dX4_fittingAny_32 : decode cX4_fittingAny 32 = .ok (.goto (-28), 3) := by decide +kernel
theorem dX4_fittingAny_35 : decode cX4_fittingAny 35 = .ok (.iload_n 2, 1) := by decide +kernel
theorem dX4_fittingAny_36 : decode cX4_fittingAny 36 = .ok (.ireturn, 1) := by decide +kernel
theorem dX4_choose_0 : decode cX4_choose 0 = .ok (.aload_n 0, 1) := by decide +kernel
theorem dX4_choose_1 : decode cX4_choose 1 = .ok (.invokevirtual 79, 3) := by decide +kernel
theorem dX4_choose_4 : decode cX4_choose 4 = .ok (.istore_n 1, 1) := by decide +kernel
theorem dX4_choose_5 : decode cX4_choose 5 = .ok (.sipush 4095, 3) := by decide +kernel
theorem dX4_choose_8 : decode cX4_choose 8 = .ok (.istore_n 2, 1) := by decide +kernel
theorem dX4_choose_9 : decode cX4_choose 9 = .ok (.iconst 0, 1) := by decide +kernel
theorem dX4_choose_10 : decode cX4_choose 10 = .ok (.istore_n 3, 1) := by decide +kernel
theorem dX4_choose_11 : decode cX4_choose 11 = .ok (.aload_n 0, 1) := by decide +kernel
theorem dX4_choose_12 : decode cX4_choose 12 = .ok (.getfield 22, 3) := by decide +kernel
theorem dX4_choose_15 : decode cX4_choose 15 = .ok (.iconst (-1), 1) := by decide +kernel
theorem dX4_choose_16 : decode cX4_choose 16 = .ok (.invokestatic 60, 3) := by decide +kernel
theorem dX4_choose_19 : decode cX4_choose 19 = .ok (.iconst 0, 1) := by decide +kernel
theorem dX4_choose_20 : decode cX4_choose 20 = .ok (.istore 4, 2) := by decide +kernel
theorem dX4_choose_22 : decode cX4_choose 22 = .ok (.iload 4, 2) := by decide +kernel
theorem dX4_choose_24 : decode cX4_choose 24 = .ok (.aload_n 0, 1) := by decide +kernel
theorem dX4_choose_25 : decode cX4_choose 25 = .ok (.getfield 9, 3) := by decide +kernel
theorem dX4_choose_28 : decode cX4_choose 28 = .ok (.if_icmp .ge 48, 3) := by decide +kernel
theorem dX4_choose_31 : decode cX4_choose 31 = .ok (.aload_n 0, 1) := by decide +kernel
theorem dX4_choose_32 : decode cX4_choose 32 = .ok (.iload_n 1, 1) := by decide +kernel
theorem dX4_choose_33 : decode cX4_choose 33 = .ok (.iload_n 3, 1) := by decide +kernel
theorem dX4_choose_34 : decode cX4_choose 34 = .ok (.isub, 1) := by decide +kernel
theorem dX4_choose_35 : decode cX4_choose 35 = .ok (.iload 4, 2) := by decide +kernel
theorem dX4_choose_37 : decode cX4_choose 37 = .ok (.iload_n 2, 1) := by decide +kernel
theorem dX4_choose_38 : decode cX4_choose 38 = .ok (.invokevirtual 82, 3) := by decide +kernel
theorem dX4_choose_41 : decode cX4_choose 41 = .ok (.istore 5, 2) := by decide +kernel
theorem dX4_choose_43 : decode cX4_choose 43 = .ok (.iload 5, 2) := by decide +kernel
theorem dX4_choose_45 : decode cX4_choose 45 = .ok (.iconst (-1), 1) := by decide +kernel
theorem dX4_choose_46 : decode cX4_choose 46 = .ok (.if_icmp .eq 24, 3) := by decide +kernel
theorem dX4_choose_49 : decode cX4_choose 49 = .ok (.aload_n 0, 1) := by decide +kernel
theorem dX4_choose_50 : decode cX4_choose 50 = .ok (.getfield 22, 3) := by decide +kernel
theorem dX4_choose_53 : decode cX4_choose 53 = .ok (.iload 4, 2) := by decide +kernel
theorem dX4_choose_55 : decode cX4_choose 55 = .ok (.iload 5, 2) := by decide +kernel
theorem dX4_choose_57 : decode cX4_choose 57 = .ok (.iastore, 1) := by decide +kernel
theorem dX4_choose_58 : decode cX4_choose 58 = .ok (.iload_n 2, 1) := by decide +kernel
theorem dX4_choose_59 : decode cX4_choose 59 = .ok (.iconst 1, 1) := by decide +kernel
theorem dX4_choose_60 : decode cX4_choose 60 = .ok (.iload 5, 2) := by decide +kernel
theorem dX4_choose_62 : decode cX4_choose 62 = .ok (.ishl, 1) := by decide +kernel
theorem dX4_choose_63 : decode cX4_choose 63 = .ok (.iconst (-1), 1) := by decide +kernel
theorem dX4_choose_64 : decode cX4_choose 64 = .ok (.ixor, 1) := by decide +kernel
theorem dX4_choose_65 : decode cX4_choose 65 = .ok (.iand, 1) := by decide +kernel
theorem dX4_choose_66 : decode cX4_choose 66 = .ok (.istore_n 2, 1) := by decide +kernel
theorem dX4_choose_67 : decode cX4_choose 67 = .ok (.iinc 3 1, 3) := by decide +kernel
theorem dX4_choose_70 : decode cX4_choose 70 = .ok (.iinc 4 1, 3) := by decide +kernel
theorem dX4_choose_73 : decode cX4_choose 73 = .ok (.goto (-51), 3) := by decide +kernel
theorem dX4_choose_76 : decode cX4_choose 76 = .ok (.iload_n 3, 1) := by decide +kernel
theorem dX4_choose_77 : decode cX4_choose 77 = .ok (.ireturn, 1) := by decide +kernel
theorem dX4_firstThatKeeps_0 : decode cX4_firstThatKeeps 0 = .ok (.iconst 0, 1) := by decide +kernel
theorem dX4_firstThatKeeps_1 : decode cX4_firstThatKeeps 1 = .ok (.istore 4, 2) := by decide +kernel
theorem dX4_firstThatKeeps_3 : decode cX4_firstThatKeeps 3 = .ok (.iload 4, 2) := by decide +kernel
theorem dX4_firstThatKeeps_5 : decode cX4_firstThatKeeps 5 = .ok (.bipush 12, 2) := by decide +kernel
theorem dX4_firstThatKeeps_7 : decode cX4_firstThatKeeps 7 = .ok (.if_icmp .ge 51, 3) := by decide +kernel
theorem dX4_firstThatKeeps_10 : decode cX4_firstThatKeeps 10 = .ok (.iconst 1, 1) := by decide +kernel
theorem dX4_firstThatKeeps_11 : decode cX4_firstThatKeeps 11 = .ok (.iload 4, 2) := by decide +kernel
theorem dX4_firstThatKeeps_13 : decode cX4_firstThatKeeps 13 = .ok (.ishl, 1) := by decide +kernel
theorem dX4_firstThatKeeps_14 : decode cX4_firstThatKeeps 14 = .ok (.istore 5, 2) := by decide +kernel
theorem dX4_firstThatKeeps_16 : decode cX4_firstThatKeeps 16 = .ok (.aload_n 0, 1) := by decide +kernel
theorem dX4_firstThatKeeps_17 : decode cX4_firstThatKeeps 17 = .ok (.getfield 15, 3) := by decide +kernel
theorem dX4_firstThatKeeps_20 : decode cX4_firstThatKeeps 20 = .ok (.iload_n 2, 1) := by decide +kernel
theorem dX4_firstThatKeeps_21 : decode cX4_firstThatKeeps 21 = .ok (.iaload, 1) := by decide +kernel
theorem dX4_firstThatKeeps_22 : decode cX4_firstThatKeeps 22 = .ok (.iload_n 3, 1) := by decide +kernel
theorem dX4_firstThatKeeps_23 : decode cX4_firstThatKeeps 23 = .ok (.iand, 1) := by decide +kernel
theorem dX4_firstThatKeeps_24 : decode cX4_firstThatKeeps 24 = .ok (.iload 5, 2) := by decide +kernel
theorem dX4_firstThatKeeps_26 : decode cX4_firstThatKeeps 26 = .ok (.iand, 1) := by decide +kernel
theorem dX4_firstThatKeeps_27 : decode cX4_firstThatKeeps 27 = .ok (.ifCond .eq 25, 3) := by decide +kernel
theorem dX4_firstThatKeeps_30 : decode cX4_firstThatKeeps 30 = .ok (.iconst 1, 1) := by decide +kernel
theorem dX4_firstThatKeeps_31 : decode cX4_firstThatKeeps 31 = .ok (.aload_n 0, 1) := by decide +kernel
theorem dX4_firstThatKeeps_32 : decode cX4_firstThatKeeps 32 = .ok (.iload_n 2, 1) := by decide +kernel
theorem dX4_firstThatKeeps_33 : decode cX4_firstThatKeeps 33 = .ok (.iconst 1, 1) := by decide +kernel
theorem dX4_firstThatKeeps_34 : decode cX4_firstThatKeeps 34 = .ok (.iadd, 1) := by decide +kernel
theorem dX4_firstThatKeeps_35 : decode cX4_firstThatKeeps 35 = .ok (.iload_n 3, 1) := by decide +kernel
theorem dX4_firstThatKeeps_36 : decode cX4_firstThatKeeps 36 = .ok (.iload 5, 2) := by decide +kernel
theorem dX4_firstThatKeeps_38 : decode cX4_firstThatKeeps 38 = .ok (.iconst (-1), 1) := by decide +kernel
theorem dX4_firstThatKeeps_39 : decode cX4_firstThatKeeps 39 = .ok (.ixor, 1) := by decide +kernel
theorem dX4_firstThatKeeps_40 : decode cX4_firstThatKeeps 40 = .ok (.iand, 1) := by decide +kernel
theorem dX4_firstThatKeeps_41 : decode cX4_firstThatKeeps 41 = .ok (.invokevirtual 57, 3) := by decide +kernel
theorem dX4_firstThatKeeps_44 : decode cX4_firstThatKeeps 44 = .ok (.iadd, 1) := by decide +kernel
theorem dX4_firstThatKeeps_45 : decode cX4_firstThatKeeps 45 = .ok (.iload_n 1, 1) := by decide +kernel
theorem dX4_firstThatKeeps_46 : decode cX4_firstThatKeeps 46 = .ok (.if_icmp .lt 6, 3) := by decide +kernel
theorem dX4_firstThatKeeps_49 : decode cX4_firstThatKeeps 49 = .ok (.iload 4, 2) := by decide +kernel
theorem dX4_firstThatKeeps_51 : decode cX4_firstThatKeeps 51 = .ok (.ireturn, 1) := by decide +kernel
theorem dX4_firstThatKeeps_52 : decode cX4_firstThatKeeps 52 = .ok (.iinc 4 1, 3) := by decide +kernel
theorem dX4_firstThatKeeps_55 : decode cX4_firstThatKeeps 55 = .ok (.goto (-52), 3) := by decide +kernel
theorem dX4_firstThatKeeps_58 : decode cX4_firstThatKeeps 58 = .ok (.iconst (-1), 1) := by decide +kernel
theorem dX4_firstThatKeeps_59 : decode cX4_firstThatKeeps 59 = .ok (.ireturn, 1) := by decide +kernel
theorem dX4_chosenFor_0 : decode cX4_chosenFor 0 = .ok (.iload_n 1, 1) := by decide +kernel
theorem dX4_chosenFor_1 : decode cX4_chosenFor 1 = .ok (.ifCond .lt 20, 3) := by decide +kernel
theorem dX4_chosenFor_4 : decode cX4_chosenFor 4 = .ok (.iload_n 1, 1) := by decide +kernel
theorem dX4_chosenFor_5 : decode cX4_chosenFor 5 = .ok (.aload_n 0, 1) := by decide +kernel
theorem dX4_chosenFor_6 : decode cX4_chosenFor 6 = .ok (.getfield 9, 3) := by decide +kernel
theorem dX4_chosenFor_9 : decode cX4_chosenFor 9 = .ok (.if_icmp .ge 12, 3) := by decide +kernel
theorem dX4_chosenFor_12 : decode cX4_chosenFor 12 = .ok (.aload_n 0, 1) := by decide +kernel
theorem dX4_chosenFor_13 : decode cX4_chosenFor 13 = .ok (.getfield 22, 3) := by decide +kernel
theorem dX4_chosenFor_16 : decode cX4_chosenFor 16 = .ok (.iload_n 1, 1) := by decide +kernel
theorem dX4_chosenFor_17 : decode cX4_chosenFor 17 = .ok (.iaload, 1) := by decide +kernel
theorem dX4_chosenFor_18 : decode cX4_chosenFor 18 = .ok (.goto 4, 3) := by decide +kernel
theorem dX4_chosenFor_21 : decode cX4_chosenFor 21 = .ok (.iconst (-1), 1) := by decide +kernel
theorem dX4_chosenFor_22 : decode cX4_chosenFor 22 = .ok (.ireturn, 1) := by decide +kernel
theorem dX5_init_0 : decode cX5_init 0 = .ok (.aload_n 0, 1) := by decide +kernel
theorem dX5_init_1 : decode cX5_init 1 = .ok (.invokespecial 3, 3) := by decide +kernel
theorem dX5_init_4 : decode cX5_init 4 = .ok (.aload_n 0, 1) := by decide +kernel
theorem dX5_init_5 : decode cX5_init 5 = .ok (.iconst 0, 1) := by decide +kernel
theorem dX5_init_6 : decode cX5_init 6 = .ok (.putfield 9, 3) := by decide +kernel
theorem dX5_init_9 : decode cX5_init 9 = .ok (.aload_n 0, 1) := by decide +kernel
theorem dX5_init_10 : decode cX5_init 10 = .ok (.iconst 0, 1) := by decide +kernel
theorem dX5_init_11 : decode cX5_init 11 = .ok (.putfield 15, 3) := by decide +kernel
theorem dX5_init_14 : decode cX5_init 14 = .ok (.aload_n 0, 1) := by decide +kernel
theorem dX5_init_15 : decode cX5_init 15 = .ok (.bipush 8, 2) := by decide +kernel
theorem dX5_init_17 : decode cX5_init 17 = .ok (.newarray .int, 2) := by decide +kernel
theorem dX5_init_19 : decode cX5_init 19 = .ok (.putfield 18, 3) := by decide +kernel
theorem dX5_init_22 : decode cX5_init 22 = .ok (.aload_n 0, 1) := by decide +kernel
theorem dX5_init_23 : decode cX5_init 23 = .ok (.bipush 8, 2) := by decide +kernel
theorem dX5_init_25 : decode cX5_init 25 = .ok (.newarray .int, 2) := by decide +kernel
theorem dX5_init_27 : decode cX5_init 27 = .ok (.putfield 22, 3) := by decide +kernel
theorem dX5_init_30 : decode cX5_init 30 = .ok (.aload_n 0, 1) := by decide +kernel
theorem dX5_init_31 : decode cX5_init 31 = .ok (.bipush 8, 2) := by decide +kernel
theorem dX5_init_33 : decode cX5_init 33 = .ok (.newarray .int, 2) := by decide +kernel
theorem dX5_init_35 : decode cX5_init 35 = .ok (.putfield 25, 3) := by decide +kernel
theorem dX5_init_38 : decode cX5_init 38 = .ok (.aload_n 0, 1) := by decide +kernel
theorem dX5_init_39 : decode cX5_init 39 = .ok (.bipush 8, 2) := by decide +kernel
theorem dX5_init_41 : decode cX5_init 41 = .ok (.newarray .int, 2) := by decide +kernel
theorem dX5_init_43 : decode cX5_init 43 = .ok (.putfield 28, 3) := by decide +kernel
theorem dX5_init_46 : decode cX5_init 46 = .ok (.aload_n 0, 1) := by decide +kernel
theorem dX5_init_47 : decode cX5_init 47 = .ok (.bipush 8, 2) := by decide +kernel
theorem dX5_init_49 : decode cX5_init 49 = .ok (.newarray .int, 2) := by decide +kernel
theorem dX5_init_51 : decode cX5_init 51 = .ok (.putfield 31, 3) := by decide +kernel
theorem dX5_init_54 : decode cX5_init 54 = .ok (.aload_n 0, 1) := by decide +kernel
theorem dX5_init_55 : decode cX5_init 55 = .ok (.bipush 8, 2) := by decide +kernel
theorem dX5_init_57 : decode cX5_init 57 = .ok (.newarray .int, 2) := by decide +kernel
theorem dX5_init_59 : decode cX5_init 59 = .ok (.putfield 34, 3) := by decide +kernel
theorem dX5_init_62 : decode cX5_init 62 = .ok (.return_, 1) := by decide +kernel
theorem dX5_copyFrom_0 : decode cX5_copyFrom 0 = .ok (.aload_n 0, 1) := by decide +kernel
theorem dX5_copyFrom_1 : decode cX5_copyFrom 1 = .ok (.aload_n 1, 1) := by decide +kernel
theorem dX5_copyFrom_2 : decode cX5_copyFrom 2 = .ok (.getfield 9, 3) := by decide +kernel
theorem dX5_copyFrom_5 : decode cX5_copyFrom 5 = .ok (.putfield 9, 3) := by decide +kernel
theorem dX5_copyFrom_8 : decode cX5_copyFrom 8 = .ok (.aload_n 0, 1) := by decide +kernel
theorem dX5_copyFrom_9 : decode cX5_copyFrom 9 = .ok (.aload_n 1, 1) := by decide +kernel
theorem dX5_copyFrom_10 : decode cX5_copyFrom 10 = .ok (.getfield 15, 3) := by decide +kernel
theorem dX5_copyFrom_13 : decode cX5_copyFrom 13 = .ok (.putfield 15, 3) := by decide +kernel
theorem dX5_copyFrom_16 : decode cX5_copyFrom 16 = .ok (.aload_n 1, 1) := by decide +kernel
theorem dX5_copyFrom_17 : decode cX5_copyFrom 17 = .ok (.getfield 18, 3) := by decide +kernel
theorem dX5_copyFrom_20 : decode cX5_copyFrom 20 = .ok (.iconst 0, 1) := by decide +kernel
theorem dX5_copyFrom_21 : decode cX5_copyFrom 21 = .ok (.aload_n 0, 1) := by decide +kernel
theorem dX5_copyFrom_22 : decode cX5_copyFrom 22 = .ok (.getfield 18, 3) := by decide +kernel
theorem dX5_copyFrom_25 : decode cX5_copyFrom 25 = .ok (.iconst 0, 1) := by decide +kernel
theorem dX5_copyFrom_26 : decode cX5_copyFrom 26 = .ok (.bipush 8, 2) := by decide +kernel
theorem dX5_copyFrom_28 : decode cX5_copyFrom 28 = .ok (.invokestatic 37, 3) := by decide +kernel
theorem dX5_copyFrom_31 : decode cX5_copyFrom 31 = .ok (.aload_n 1, 1) := by decide +kernel
theorem dX5_copyFrom_32 : decode cX5_copyFrom 32 = .ok (.getfield 22, 3) := by decide +kernel
theorem dX5_copyFrom_35 : decode cX5_copyFrom 35 = .ok (.iconst 0, 1) := by decide +kernel
theorem dX5_copyFrom_36 : decode cX5_copyFrom 36 = .ok (.aload_n 0, 1) := by decide +kernel
theorem dX5_copyFrom_37 : decode cX5_copyFrom 37 = .ok (.getfield 22, 3) := by decide +kernel
theorem dX5_copyFrom_40 : decode cX5_copyFrom 40 = .ok (.iconst 0, 1) := by decide +kernel
theorem dX5_copyFrom_41 : decode cX5_copyFrom 41 = .ok (.bipush 8, 2) := by decide +kernel
theorem dX5_copyFrom_43 : decode cX5_copyFrom 43 = .ok (.invokestatic 37, 3) := by decide +kernel
theorem dX5_copyFrom_46 : decode cX5_copyFrom 46 = .ok (.aload_n 1, 1) := by decide +kernel
theorem dX5_copyFrom_47 : decode cX5_copyFrom 47 = .ok (.getfield 25, 3) := by decide +kernel
theorem dX5_copyFrom_50 : decode cX5_copyFrom 50 = .ok (.iconst 0, 1) := by decide +kernel
theorem dX5_copyFrom_51 : decode cX5_copyFrom 51 = .ok (.aload_n 0, 1) := by decide +kernel
theorem dX5_copyFrom_52 : decode cX5_copyFrom 52 = .ok (.getfield 25, 3) := by decide +kernel
theorem dX5_copyFrom_55 : decode cX5_copyFrom 55 = .ok (.iconst 0, 1) := by decide +kernel
theorem dX5_copyFrom_56 : decode cX5_copyFrom 56 = .ok (.bipush 8, 2) := by decide +kernel
theorem dX5_copyFrom_58 : decode cX5_copyFrom 58 = .ok (.invokestatic 37, 3) := by decide +kernel
theorem dX5_copyFrom_61 : decode cX5_copyFrom 61 = .ok (.aload_n 1, 1) := by decide +kernel
theorem dX5_copyFrom_62 : decode cX5_copyFrom 62 = .ok (.getfield 28, 3) := by decide +kernel
theorem dX5_copyFrom_65 : decode cX5_copyFrom 65 = .ok (.iconst 0, 1) := by decide +kernel
theorem dX5_copyFrom_66 : decode cX5_copyFrom 66 = .ok (.aload_n 0, 1) := by decide +kernel
theorem dX5_copyFrom_67 : decode cX5_copyFrom 67 = .ok (.getfield 28, 3) := by decide +kernel
theorem dX5_copyFrom_70 : decode cX5_copyFrom 70 = .ok (.iconst 0, 1) := by decide +kernel
theorem dX5_copyFrom_71 : decode cX5_copyFrom 71 = .ok (.bipush 8, 2) := by decide +kernel
theorem dX5_copyFrom_73 : decode cX5_copyFrom 73 = .ok (.invokestatic 37, 3) := by decide +kernel
theorem dX5_copyFrom_76 : decode cX5_copyFrom 76 = .ok (.aload_n 1, 1) := by decide +kernel
theorem dX5_copyFrom_77 : decode cX5_copyFrom 77 = .ok (.getfield 31, 3) := by decide +kernel
theorem dX5_copyFrom_80 : decode cX5_copyFrom 80 = .ok (.iconst 0, 1) := by decide +kernel
theorem dX5_copyFrom_81 : decode cX5_copyFrom 81 = .ok (.aload_n 0, 1) := by decide +kernel
theorem dX5_copyFrom_82 : decode cX5_copyFrom 82 = .ok (.getfield 31, 3) := by decide +kernel
theorem dX5_copyFrom_85 : decode cX5_copyFrom 85 = .ok (.iconst 0, 1) := by decide +kernel
theorem dX5_copyFrom_86 : decode cX5_copyFrom 86 = .ok (.bipush 8, 2) := by decide +kernel
theorem dX5_copyFrom_88 : decode cX5_copyFrom 88 = .ok (.invokestatic 37, 3) := by decide +kernel
theorem dX5_copyFrom_91 : decode cX5_copyFrom 91 = .ok (.aload_n 1, 1) := by decide +kernel
theorem dX5_copyFrom_92 : decode cX5_copyFrom 92 = .ok (.getfield 34, 3) := by decide +kernel
theorem dX5_copyFrom_95 : decode cX5_copyFrom 95 = .ok (.iconst 0, 1) := by decide +kernel
theorem dX5_copyFrom_96 : decode cX5_copyFrom 96 = .ok (.aload_n 0, 1) := by decide +kernel
theorem dX5_copyFrom_97 : decode cX5_copyFrom 97 = .ok (.getfield 34, 3) := by decide +kernel
theorem dX5_copyFrom_100 : decode cX5_copyFrom 100 = .ok (.iconst 0, 1) := by decide +kernel
theorem dX5_copyFrom_101 : decode cX5_copyFrom 101 = .ok (.bipush 8, 2) := by decide +kernel
theorem dX5_copyFrom_103 : decode cX5_copyFrom 103 = .ok (.invokestatic 37, 3) := by decide +kernel
theorem dX5_copyFrom_106 : decode cX5_copyFrom 106 = .ok (.return_, 1) := by decide +kernel
theorem dX5_size_0 : decode cX5_size 0 = .ok (.aload_n 0, 1) := by decide +kernel
theorem dX5_size_1 : decode cX5_size 1 = .ok (.getfield 9, 3) := by decide +kernel
theorem dX5_size_4 : decode cX5_size 4 = .ok (.ireturn, 1) := by decide +kernel
theorem dX5_isFull_0 : decode cX5_isFull 0 = .ok (.aload_n 0, 1) := by decide +kernel
theorem dX5_isFull_1 : decode cX5_isFull 1 = .ok (.getfield 9, 3) := by decide +kernel
theorem dX5_isFull_4 : decode cX5_isFull 4 = .ok (.bipush 8, 2) := by decide +kernel
theorem dX5_isFull_6 : decode cX5_isFull 6 = .ok (.if_icmp .lt 7, 3) := by decide +kernel
theorem dX5_isFull_9 : decode cX5_isFull 9 = .ok (.iconst 1, 1) := by decide +kernel
theorem dX5_isFull_10 : decode cX5_isFull 10 = .ok (.goto 4, 3) := by decide +kernel
theorem dX5_isFull_13 : decode cX5_isFull 13 = .ok (.iconst 0, 1) := by decide +kernel
theorem dX5_isFull_14 : decode cX5_isFull 14 = .ok (.ireturn, 1) := by decide +kernel
theorem dX5_has_0 : decode cX5_has 0 = .ok (.iload_n 1, 1) := by decide +kernel
theorem dX5_has_1 : decode cX5_has 1 = .ok (.ifCond .lt 21, 3) := by decide +kernel
theorem dX5_has_4 : decode cX5_has 4 = .ok (.iload_n 1, 1) := by decide +kernel
theorem dX5_has_5 : decode cX5_has 5 = .ok (.aload_n 0, 1) := by decide +kernel
theorem dX5_has_6 : decode cX5_has 6 = .ok (.getfield 9, 3) := by decide +kernel
theorem dX5_has_9 : decode cX5_has 9 = .ok (.if_icmp .ge 13, 3) := by decide +kernel
theorem dX5_has_12 : decode cX5_has 12 = .ok (.iload_n 1, 1) := by decide +kernel
theorem dX5_has_13 : decode cX5_has 13 = .ok (.bipush 8, 2) := by decide +kernel
theorem dX5_has_15 : decode cX5_has 15 = .ok (.if_icmp .ge 7, 3) := by decide +kernel
theorem dX5_has_18 : decode cX5_has 18 = .ok (.iconst 1, 1) := by decide +kernel
theorem dX5_has_19 : decode cX5_has 19 = .ok (.goto 4, 3) := by decide +kernel
theorem dX5_has_22 : decode cX5_has 22 = .ok (.iconst 0, 1) := by decide +kernel
theorem dX5_has_23 : decode cX5_has 23 = .ok (.ireturn, 1) := by decide +kernel
theorem dX5_positionOf_0 : decode cX5_positionOf 0 = .ok (.iconst 0, 1) := by decide +kernel
theorem dX5_positionOf_1 : decode cX5_positionOf 1 = .ok (.istore_n 2, 1) := by decide +kernel
theorem dX5_positionOf_2 : decode cX5_positionOf 2 = .ok (.iload_n 2, 1) := by decide +kernel
theorem dX5_positionOf_3 : decode cX5_positionOf 3 = .ok (.aload_n 0, 1) := by decide +kernel
theorem dX5_positionOf_4 : decode cX5_positionOf 4 = .ok (.getfield 9, 3) := by decide +kernel
theorem dX5_positionOf_7 : decode cX5_positionOf 7 = .ok (.if_icmp .ge 20, 3) := by decide +kernel
theorem dX5_positionOf_10 : decode cX5_positionOf 10 = .ok (.aload_n 0, 1) := by decide +kernel
theorem dX5_positionOf_11 : decode cX5_positionOf 11 = .ok (.iload_n 2, 1) := by decide +kernel
theorem dX5_positionOf_12 : decode cX5_positionOf 12 = .ok (.invokevirtual 43, 3) := by decide +kernel
theorem dX5_positionOf_15 : decode cX5_positionOf 15 = .ok (.iload_n 1, 1) := by decide +kernel
theorem dX5_positionOf_16 : decode cX5_positionOf 16 = .ok (.if_icmp .ne 5, 3) := by decide +kernel
theorem dX5_positionOf_19 : decode cX5_positionOf 19 = .ok (.iload_n 2, 1) := by decide +kernel
theorem dX5_positionOf_20 : decode cX5_positionOf 20 = .ok (.ireturn, 1) := by decide +kernel
theorem dX5_positionOf_21 : decode cX5_positionOf 21 = .ok (.iinc 2 1, 3) := by decide +kernel
theorem dX5_positionOf_24 : decode cX5_positionOf 24 = .ok (.goto (-22), 3) := by decide +kernel
theorem dX5_positionOf_27 : decode cX5_positionOf 27 = .ok (.iconst (-1), 1) := by decide +kernel
theorem dX5_positionOf_28 : decode cX5_positionOf 28 = .ok (.ireturn, 1) := by decide +kernel
theorem dX5_idAt_0 : decode cX5_idAt 0 = .ok (.aload_n 0, 1) := by decide +kernel
theorem dX5_idAt_1 : decode cX5_idAt 1 = .ok (.iload_n 1, 1) := by decide +kernel
theorem dX5_idAt_2 : decode cX5_idAt 2 = .ok (.invokevirtual 47, 3) := by decide +kernel
theorem dX5_idAt_5 : decode cX5_idAt 5 = .ok (.ifCond .eq 12, 3) := by decide +kernel
theorem dX5_idAt_8 : decode cX5_idAt 8 = .ok (.aload_n 0, 1) := by decide +kernel
theorem dX5_idAt_9 : decode cX5_idAt 9 = .ok (.getfield 18, 3) := by decide +kernel
theorem dX5_idAt_12 : decode cX5_idAt 12 = .ok (.iload_n 1, 1) := by decide +kernel
theorem dX5_idAt_13 : decode cX5_idAt 13 = .ok (.iaload, 1) := by decide +kernel
theorem dX5_idAt_14 : decode cX5_idAt 14 = .ok (.goto 4, 3) := by decide +kernel
theorem dX5_idAt_17 : decode cX5_idAt 17 = .ok (.iconst (-1), 1) := by decide +kernel
theorem dX5_idAt_18 : decode cX5_idAt 18 = .ok (.ireturn, 1) := by decide +kernel
theorem dX5_borrowerAt_0 : decode cX5_borrowerAt 0 = .ok (.aload_n 0, 1) := by decide +kernel
theorem dX5_borrowerAt_1 : decode cX5_borrowerAt 1 = .ok (.iload_n 1, 1) := by decide +kernel
theorem dX5_borrowerAt_2 : decode cX5_borrowerAt 2 = .ok (.invokevirtual 47, 3) := by decide +kernel
theorem dX5_borrowerAt_5 : decode cX5_borrowerAt 5 = .ok (.ifCond .eq 12, 3) := by decide +kernel
theorem dX5_borrowerAt_8 : decode cX5_borrowerAt 8 = .ok (.aload_n 0, 1) := by decide +kernel
theorem dX5_borrowerAt_9 : decode cX5_borrowerAt 9 = .ok (.getfield 22, 3) := by decide +kernel
theorem dX5_borrowerAt_12 : decode cX5_borrowerAt 12 = .ok (.iload_n 1, 1) := by decide +kernel
theorem dX5_borrowerAt_13 : decode cX5_borrowerAt 13 = .ok (.iaload, 1) := by decide +kernel
theorem dX5_borrowerAt_14 : decode cX5_borrowerAt 14 = .ok (.goto 4, 3) := by decide +kernel
theorem dX5_borrowerAt_17 : decode cX5_borrowerAt 17 = .ok (.iconst (-1), 1) := by decide +kernel
theorem dX5_borrowerAt_18 : decode cX5_borrowerAt 18 = .ok (.ireturn, 1) := by decide +kernel
theorem dX5_pitchAt_0 : decode cX5_pitchAt 0 = .ok (.aload_n 0, 1) := by decide +kernel
theorem dX5_pitchAt_1 : decode cX5_pitchAt 1 = .ok (.iload_n 1, 1) := by decide +kernel
theorem dX5_pitchAt_2 : decode cX5_pitchAt 2 = .ok (.invokevirtual 47, 3) := by decide +kernel
theorem dX5_pitchAt_5 : decode cX5_pitchAt 5 = .ok (.ifCond .eq 12, 3) := by decide +kernel
theorem dX5_pitchAt_8 : decode cX5_pitchAt 8 = .ok (.aload_n 0, 1) := by decide +kernel
theorem dX5_pitchAt_9 : decode cX5_pitchAt 9 = .ok (.getfield 25, 3) := by decide +kernel
theorem dX5_pitchAt_12 : decode cX5_pitchAt 12 = .ok (.iload_n 1, 1) := by decide +kernel
theorem dX5_pitchAt_13 : decode cX5_pitchAt 13 = .ok (.iaload, 1) := by decide +kernel
theorem dX5_pitchAt_14 : decode cX5_pitchAt 14 = .ok (.goto 4, 3) := by decide +kernel
theorem dX5_pitchAt_17 : decode cX5_pitchAt 17 = .ok (.iconst 0, 1) := by decide +kernel
theorem dX5_pitchAt_18 : decode cX5_pitchAt 18 = .ok (.ireturn, 1) := by decide +kernel
theorem dX5_toleranceAt_0 : decode cX5_toleranceAt 0 = .ok (.aload_n 0, 1) := by decide +kernel
theorem dX5_toleranceAt_1 : decode cX5_toleranceAt 1 = .ok (.iload_n 1, 1) := by decide +kernel
theorem dX5_toleranceAt_2 : decode cX5_toleranceAt 2 = .ok (.invokevirtual 47, 3) := by decide +kernel
theorem dX5_toleranceAt_5 : decode cX5_toleranceAt 5 = .ok (.ifCond .eq 12, 3) := by decide +kernel
theorem dX5_toleranceAt_8 : decode cX5_toleranceAt 8 = .ok (.aload_n 0, 1) := by decide +kernel
theorem dX5_toleranceAt_9 : decode cX5_toleranceAt 9 = .ok (.getfield 28, 3) := by decide +kernel
theorem dX5_toleranceAt_12 : decode cX5_toleranceAt 12 = .ok (.iload_n 1, 1) := by decide +kernel
theorem dX5_toleranceAt_13 : decode cX5_toleranceAt 13 = .ok (.iaload, 1) := by decide +kernel
theorem dX5_toleranceAt_14 : decode cX5_toleranceAt 14 = .ok (.goto 4, 3) := by decide +kernel
theorem dX5_toleranceAt_17 : decode cX5_toleranceAt 17 = .ok (.iconst (-1), 1) := by decide +kernel
theorem dX5_toleranceAt_18 : decode cX5_toleranceAt 18 = .ok (.ireturn, 1) := by decide +kernel
theorem dX5_firstDayAt_0 : decode cX5_firstDayAt 0 = .ok (.aload_n 0, 1) := by decide +kernel
theorem dX5_firstDayAt_1 : decode cX5_firstDayAt 1 = .ok (.iload_n 1, 1) := by decide +kernel
theorem dX5_firstDayAt_2 : decode cX5_firstDayAt 2 = .ok (.invokevirtual 47, 3) := by decide +kernel
theorem dX5_firstDayAt_5 : decode cX5_firstDayAt 5 = .ok (.ifCond .eq 12, 3) := by decide +kernel
theorem dX5_firstDayAt_8 : decode cX5_firstDayAt 8 = .ok (.aload_n 0, 1) := by decide +kernel
theorem dX5_firstDayAt_9 : decode cX5_firstDayAt 9 = .ok (.getfield 31, 3) := by decide +kernel
theorem dX5_firstDayAt_12 : decode cX5_firstDayAt 12 = .ok (.iload_n 1, 1) := by decide +kernel
theorem dX5_firstDayAt_13 : decode cX5_firstDayAt 13 = .ok (.iaload, 1) := by decide +kernel
theorem dX5_firstDayAt_14 : decode cX5_firstDayAt 14 = .ok (.goto 4, 3) := by decide +kernel
theorem dX5_firstDayAt_17 : decode cX5_firstDayAt 17 = .ok (.iconst 0, 1) := by decide +kernel
theorem dX5_firstDayAt_18 : decode cX5_firstDayAt 18 = .ok (.ireturn, 1) := by decide +kernel
theorem dX5_lastDayAt_0 : decode cX5_lastDayAt 0 = .ok (.aload_n 0, 1) := by decide +kernel
theorem dX5_lastDayAt_1 : decode cX5_lastDayAt 1 = .ok (.iload_n 1, 1) := by decide +kernel
theorem dX5_lastDayAt_2 : decode cX5_lastDayAt 2 = .ok (.invokevirtual 47, 3) := by decide +kernel
theorem dX5_lastDayAt_5 : decode cX5_lastDayAt 5 = .ok (.ifCond .eq 12, 3) := by decide +kernel
theorem dX5_lastDayAt_8 : decode cX5_lastDayAt 8 = .ok (.aload_n 0, 1) := by decide +kernel
theorem dX5_lastDayAt_9 : decode cX5_lastDayAt 9 = .ok (.getfield 34, 3) := by decide +kernel
theorem dX5_lastDayAt_12 : decode cX5_lastDayAt 12 = .ok (.iload_n 1, 1) := by decide +kernel
theorem dX5_lastDayAt_13 : decode cX5_lastDayAt 13 = .ok (.iaload, 1) := by decide +kernel
theorem dX5_lastDayAt_14 : decode cX5_lastDayAt 14 = .ok (.goto 4, 3) := by decide +kernel
theorem dX5_lastDayAt_17 : decode cX5_lastDayAt 17 = .ok (.iconst 0, 1) := by decide +kernel
theorem dX5_lastDayAt_18 : decode cX5_lastDayAt 18 = .ok (.ireturn, 1) := by decide +kernel
theorem dX5_add_0 : decode cX5_add 0 = .ok (.aload_n 0, 1) := by decide +kernel
theorem dX5_add_1 : decode cX5_add 1 = .ok (.invokevirtual 51, 3) := by decide +kernel
theorem dX5_add_4 : decode cX5_add 4 = .ok (.ifCond .eq 5, 3) := by decide +kernel
theorem dX5_add_7 : decode cX5_add 7 = .ok (.iconst (-1), 1) := by decide +kernel
theorem dX5_add_8 : decode cX5_add 8 = .ok (.ireturn, 1) := by decide +kernel
theorem dX5_add_9 : decode cX5_add 9 = .ok (.aload_n 0, 1) := by decide +kernel
theorem dX5_add_10 : decode cX5_add 10 = .ok (.getfield 15, 3) := by decide +kernel
theorem dX5_add_13 : decode cX5_add 13 = .ok (.istore 6, 2) := by decide +kernel
theorem dX5_add_15 : decode cX5_add 15 = .ok (.aload_n 0, 1) := by decide +kernel
theorem dX5_add_16 : decode cX5_add 16 = .ok (.dup, 1) := by decide +kernel
theorem dX5_add_17 : decode cX5_add 17 = .ok (.getfield 15, 3) := by decide +kernel
theorem dX5_add_20 : decode cX5_add 20 = .ok (.iconst 1, 1) := by decide +kernel
theorem dX5_add_21 : decode cX5_add 21 = .ok (.iadd, 1) := by decide +kernel
theorem dX5_add_22 : decode cX5_add 22 = .ok (.putfield 15, 3) := by decide +kernel
theorem dX5_add_25 : decode cX5_add 25 = .ok (.aload_n 0, 1) := by decide +kernel
theorem dX5_add_26 : decode cX5_add 26 = .ok (.getfield 18, 3) := by decide +kernel
theorem dX5_add_29 : decode cX5_add 29 = .ok (.aload_n 0, 1) := by decide +kernel
theorem dX5_add_30 : decode cX5_add 30 = .ok (.getfield 9, 3) := by decide +kernel
theorem dX5_add_33 : decode cX5_add 33 = .ok (.iload 6, 2) := by decide +kernel
theorem dX5_add_35 : decode cX5_add 35 = .ok (.iastore, 1) := by decide +kernel
theorem dX5_add_36 : decode cX5_add 36 = .ok (.aload_n 0, 1) := by decide +kernel
theorem dX5_add_37 : decode cX5_add 37 = .ok (.getfield 22, 3) := by decide +kernel
theorem dX5_add_40 : decode cX5_add 40 = .ok (.aload_n 0, 1) := by decide +kernel
theorem dX5_add_41 : decode cX5_add 41 = .ok (.getfield 9, 3) := by decide +kernel
theorem dX5_add_44 : decode cX5_add 44 = .ok (.iload_n 1, 1) := by decide +kernel
theorem dX5_add_45 : decode cX5_add 45 = .ok (.iastore, 1) := by decide +kernel
theorem dX5_add_46 : decode cX5_add 46 = .ok (.aload_n 0, 1) := by decide +kernel
theorem dX5_add_47 : decode cX5_add 47 = .ok (.getfield 25, 3) := by decide +kernel
theorem dX5_add_50 : decode cX5_add 50 = .ok (.aload_n 0, 1) := by decide +kernel
theorem dX5_add_51 : decode cX5_add 51 = .ok (.getfield 9, 3) := by decide +kernel
theorem dX5_add_54 : decode cX5_add 54 = .ok (.iload_n 2, 1) := by decide +kernel
theorem dX5_add_55 : decode cX5_add 55 = .ok (.iastore, 1) := by decide +kernel
theorem dX5_add_56 : decode cX5_add 56 = .ok (.aload_n 0, 1) := by decide +kernel
theorem dX5_add_57 : decode cX5_add 57 = .ok (.getfield 28, 3) := by decide +kernel
theorem dX5_add_60 : decode cX5_add 60 = .ok (.aload_n 0, 1) := by decide +kernel
theorem dX5_add_61 : decode cX5_add 61 = .ok (.getfield 9, 3) := by decide +kernel
theorem dX5_add_64 : decode cX5_add 64 = .ok (.iload_n 3, 1) := by decide +kernel
theorem dX5_add_65 : decode cX5_add 65 = .ok (.iastore, 1) := by decide +kernel
theorem dX5_add_66 : decode cX5_add 66 = .ok (.aload_n 0, 1) := by decide +kernel
theorem dX5_add_67 : decode cX5_add 67 = .ok (.getfield 31, 3) := by decide +kernel
theorem dX5_add_70 : decode cX5_add 70 = .ok (.aload_n 0, 1) := by decide +kernel
theorem dX5_add_71 : decode cX5_add 71 = .ok (.getfield 9, 3) := by decide +kernel
theorem dX5_add_74 : decode cX5_add 74 = .ok (.iload 4, 2) := by decide +kernel
theorem dX5_add_76 : decode cX5_add 76 = .ok (.iastore, 1) := by decide +kernel
theorem dX5_add_77 : decode cX5_add 77 = .ok (.aload_n 0, 1) := by decide +kernel
theorem dX5_add_78 : decode cX5_add 78 = .ok (.getfield 34, 3) := by decide +kernel
theorem dX5_add_81 : decode cX5_add 81 = .ok (.aload_n 0, 1) := by decide +kernel
theorem dX5_add_82 : decode cX5_add 82 = .ok (.getfield 9, 3) := by decide +kernel
theorem dX5_add_85 : decode cX5_add 85 = .ok (.iload 5, 2) := by decide +kernel
theorem dX5_add_87 : decode cX5_add 87 = .ok (.iastore, 1) := by decide +kernel
theorem dX5_add_88 : decode cX5_add 88 = .ok (.aload_n 0, 1) := by decide +kernel
theorem dX5_add_89 : decode cX5_add 89 = .ok (.dup, 1) := by decide +kernel
theorem dX5_add_90 : decode cX5_add 90 = .ok (.getfield 9, 3) := by decide +kernel
theorem dX5_add_93 : decode cX5_add 93 = .ok (.iconst 1, 1) := by decide +kernel
theorem dX5_add_94 : decode cX5_add 94 = .ok (.iadd, 1) := by decide +kernel
theorem dX5_add_95 : decode cX5_add 95 = .ok (.putfield 9, 3) := by decide +kernel
theorem dX5_add_98 : decode cX5_add 98 = .ok (.iload 6, 2) := by decide +kernel
theorem dX5_add_100 : decode cX5_add 100 = .ok (.ireturn, 1) := by decide +kernel
theorem dX5_remove_0 : decode cX5_remove 0 = .ok (.aload_n 0, 1) := by decide +kernel
theorem dX5_remove_1 : decode cX5_remove 1 = .ok (.iload_n 1, 1) := by decide +kernel
theorem dX5_remove_2 : decode cX5_remove 2 = .ok (.invokevirtual 47, 3) := by decide +kernel
theorem dX5_remove_5 : decode cX5_remove 5 = .ok (.ifCond .ne 4, 3) := by decide +kernel
theorem dX5_remove_8 : decode cX5_remove 8 = .ok (.return_, 1) := by decide +kernel
theorem dX5_remove_9 : decode cX5_remove 9 = .ok (.aload_n 0, 1) := by decide +kernel
theorem dX5_remove_10 : decode cX5_remove 10 = .ok (.dup, 1) := by decide +kernel
theorem dX5_remove_11 : decode cX5_remove 11 = .ok (.getfield 9, 3) := by decide +kernel
theorem dX5_remove_14 : decode cX5_remove 14 = .ok (.iconst 1, 1) := by decide +kernel
theorem dX5_remove_15 : decode cX5_remove 15 = .ok (.isub, 1) := by decide +kernel
theorem dX5_remove_16 : decode cX5_remove 16 = .ok (.putfield 9, 3) := by decide +kernel
theorem dX5_remove_19 : decode cX5_remove 19 = .ok (.iload_n 1, 1) := by decide +kernel
theorem dX5_remove_20 : decode cX5_remove 20 = .ok (.istore_n 2, 1) := by decide +kernel
theorem dX5_remove_21 : decode cX5_remove 21 = .ok (.iload_n 2, 1) := by decide +kernel
theorem dX5_remove_22 : decode cX5_remove 22 = .ok (.aload_n 0, 1) := by decide +kernel
theorem dX5_remove_23 : decode cX5_remove 23 = .ok (.getfield 9, 3) := by decide +kernel
theorem dX5_remove_26 : decode cX5_remove 26 = .ok (.if_icmp .ge 101, 3) := by decide +kernel
theorem dX5_remove_29 : decode cX5_remove 29 = .ok (.iload_n 2, 1) := by decide +kernel
theorem dX5_remove_30 : decode cX5_remove 30 = .ok (.iconst 1, 1) := by decide +kernel
theorem dX5_remove_31 : decode cX5_remove 31 = .ok (.iadd, 1) := by decide +kernel
theorem dX5_remove_32 : decode cX5_remove 32 = .ok (.bipush 8, 2) := by decide +kernel
theorem dX5_remove_34 : decode cX5_remove 34 = .ok (.if_icmp .ge 93, 3) := by decide +kernel
theorem dX5_remove_37 : decode cX5_remove 37 = .ok (.aload_n 0, 1) := by decide +kernel
theorem dX5_remove_38 : decode cX5_remove 38 = .ok (.getfield 18, 3) := by decide +kernel
theorem dX5_remove_41 : decode cX5_remove 41 = .ok (.iload_n 2, 1) := by decide +kernel
theorem dX5_remove_42 : decode cX5_remove 42 = .ok (.aload_n 0, 1) := by decide +kernel
theorem dX5_remove_43 : decode cX5_remove 43 = .ok (.getfield 18, 3) := by decide +kernel
theorem dX5_remove_46 : decode cX5_remove 46 = .ok (.iload_n 2, 1) := by decide +kernel
theorem dX5_remove_47 : decode cX5_remove 47 = .ok (.iconst 1, 1) := by decide +kernel
theorem dX5_remove_48 : decode cX5_remove 48 = .ok (.iadd, 1) := by decide +kernel
theorem dX5_remove_49 : decode cX5_remove 49 = .ok (.iaload, 1) := by decide +kernel
theorem dX5_remove_50 : decode cX5_remove 50 = .ok (.iastore, 1) := by decide +kernel
theorem dX5_remove_51 : decode cX5_remove 51 = .ok (.aload_n 0, 1) := by decide +kernel
theorem dX5_remove_52 : decode cX5_remove 52 = .ok (.getfield 22, 3) := by decide +kernel
theorem dX5_remove_55 : decode cX5_remove 55 = .ok (.iload_n 2, 1) := by decide +kernel
theorem dX5_remove_56 : decode cX5_remove 56 = .ok (.aload_n 0, 1) := by decide +kernel
theorem dX5_remove_57 : decode cX5_remove 57 = .ok (.getfield 22, 3) := by decide +kernel
theorem dX5_remove_60 : decode cX5_remove 60 = .ok (.iload_n 2, 1) := by decide +kernel
theorem dX5_remove_61 : decode cX5_remove 61 = .ok (.iconst 1, 1) := by decide +kernel
theorem dX5_remove_62 : decode cX5_remove 62 = .ok (.iadd, 1) := by decide +kernel
theorem dX5_remove_63 : decode cX5_remove 63 = .ok (.iaload, 1) := by decide +kernel
theorem dX5_remove_64 : decode cX5_remove 64 = .ok (.iastore, 1) := by decide +kernel
theorem dX5_remove_65 : decode cX5_remove 65 = .ok (.aload_n 0, 1) := by decide +kernel
theorem dX5_remove_66 : decode cX5_remove 66 = .ok (.getfield 25, 3) := by decide +kernel
theorem dX5_remove_69 : decode cX5_remove 69 = .ok (.iload_n 2, 1) := by decide +kernel
theorem dX5_remove_70 : decode cX5_remove 70 = .ok (.aload_n 0, 1) := by decide +kernel
theorem dX5_remove_71 : decode cX5_remove 71 = .ok (.getfield 25, 3) := by decide +kernel
theorem dX5_remove_74 : decode cX5_remove 74 = .ok (.iload_n 2, 1) := by decide +kernel
theorem dX5_remove_75 : decode cX5_remove 75 = .ok (.iconst 1, 1) := by decide +kernel
theorem dX5_remove_76 : decode cX5_remove 76 = .ok (.iadd, 1) := by decide +kernel
theorem dX5_remove_77 : decode cX5_remove 77 = .ok (.iaload, 1) := by decide +kernel
theorem dX5_remove_78 : decode cX5_remove 78 = .ok (.iastore, 1) := by decide +kernel
theorem dX5_remove_79 : decode cX5_remove 79 = .ok (.aload_n 0, 1) := by decide +kernel
theorem dX5_remove_80 : decode cX5_remove 80 = .ok (.getfield 28, 3) := by decide +kernel
theorem dX5_remove_83 : decode cX5_remove 83 = .ok (.iload_n 2, 1) := by decide +kernel
theorem dX5_remove_84 : decode cX5_remove 84 = .ok (.aload_n 0, 1) := by decide +kernel
theorem dX5_remove_85 : decode cX5_remove 85 = .ok (.getfield 28, 3) := by decide +kernel
theorem dX5_remove_88 : decode cX5_remove 88 = .ok (.iload_n 2, 1) := by decide +kernel
theorem dX5_remove_89 : decode cX5_remove 89 = .ok (.iconst 1, 1) := by decide +kernel
theorem dX5_remove_90 : decode cX5_remove 90 = .ok (.iadd, 1) := by decide +kernel
theorem dX5_remove_91 : decode cX5_remove 91 = .ok (.iaload, 1) := by decide +kernel
theorem dX5_remove_92 : decode cX5_remove 92 = .ok (.iastore, 1) := by decide +kernel
theorem dX5_remove_93 : decode cX5_remove 93 = .ok (.aload_n 0, 1) := by decide +kernel
theorem dX5_remove_94 : decode cX5_remove 94 = .ok (.getfield 31, 3) := by decide +kernel
theorem dX5_remove_97 : decode cX5_remove 97 = .ok (.iload_n 2, 1) := by decide +kernel
theorem dX5_remove_98 : decode cX5_remove 98 = .ok (.aload_n 0, 1) := by decide +kernel
theorem dX5_remove_99 : decode cX5_remove 99 = .ok (.getfield 31, 3) := by decide +kernel
theorem dX5_remove_102 : decode cX5_remove 102 = .ok (.iload_n 2, 1) := by decide +kernel
theorem dX5_remove_103 : decode cX5_remove 103 = .ok (.iconst 1, 1) := by decide +kernel
theorem dX5_remove_104 : decode cX5_remove 104 = .ok (.iadd, 1) := by decide +kernel
theorem dX5_remove_105 : decode cX5_remove 105 = .ok (.iaload, 1) := by decide +kernel
theorem dX5_remove_106 : decode cX5_remove 106 = .ok (.iastore, 1) := by decide +kernel
theorem dX5_remove_107 : decode cX5_remove 107 = .ok (.aload_n 0, 1) := by decide +kernel
theorem dX5_remove_108 : decode cX5_remove 108 = .ok (.getfield 34, 3) := by decide +kernel
theorem dX5_remove_111 : decode cX5_remove 111 = .ok (.iload_n 2, 1) := by decide +kernel
theorem dX5_remove_112 : decode cX5_remove 112 = .ok (.aload_n 0, 1) := by decide +kernel
theorem dX5_remove_113 : decode cX5_remove 113 = .ok (.getfield 34, 3) := by decide +kernel
theorem dX5_remove_116 : decode cX5_remove 116 = .ok (.iload_n 2, 1) := by decide +kernel
theorem dX5_remove_117 : decode cX5_remove 117 = .ok (.iconst 1, 1) := by decide +kernel
theorem dX5_remove_118 : decode cX5_remove 118 = .ok (.iadd, 1) := by decide +kernel
theorem dX5_remove_119 : decode cX5_remove 119 = .ok (.iaload, 1) := by decide +kernel
theorem dX5_remove_120 : decode cX5_remove 120 = .ok (.iastore, 1) := by decide +kernel
theorem dX5_remove_121 : decode cX5_remove 121 = .ok (.iinc 2 1, 3) := by decide +kernel
theorem dX5_remove_124 : decode cX5_remove 124 = .ok (.goto (-103), 3) := by decide +kernel
theorem dX5_remove_127 : decode cX5_remove 127 = .ok (.return_, 1) := by decide +kernel
theorem dX6_init_0 : decode cX6_init 0 = .ok (.aload_n 0, 1) := by decide +kernel
theorem dX6_init_1 : decode cX6_init 1 = .ok (.invokespecial 5, 3) := by decide +kernel
theorem dX6_init_4 : decode cX6_init 4 = .ok (.aload_n 0, 1) := by decide +kernel
theorem dX6_init_5 : decode cX6_init 5 = .ok (.bipush 60, 2) := by decide +kernel
theorem dX6_init_7 : decode cX6_init 7 = .ok (.newarray .char, 2) := by decide +kernel
theorem dX6_init_9 : decode cX6_init 9 = .ok (.putfield 11, 3) := by decide +kernel
theorem dX6_init_12 : decode cX6_init 12 = .ok (.aload_n 0, 1) := by decide +kernel
theorem dX6_init_13 : decode cX6_init 13 = .ok (.iconst 0, 1) := by decide +kernel
theorem dX6_init_14 : decode cX6_init 14 = .ok (.putfield 15, 3) := by decide +kernel
theorem dX6_init_17 : decode cX6_init 17 = .ok (.aload_n 0, 1) := by decide +kernel
theorem dX6_init_18 : decode cX6_init 18 = .ok (.iconst 0, 1) := by decide +kernel
theorem dX6_init_19 : decode cX6_init 19 = .ok (.putfield 19, 3) := by decide +kernel
theorem dX6_init_22 : decode cX6_init 22 = .ok (.aload_n 0, 1) := by decide +kernel
theorem dX6_init_23 : decode cX6_init 23 = .ok (.iconst 0, 1) := by decide +kernel
theorem dX6_init_24 : decode cX6_init 24 = .ok (.putfield 22, 3) := by decide +kernel
theorem dX6_init_27 : decode cX6_init 27 = .ok (.aload_n 0, 1) := by decide +kernel
theorem dX6_init_28 : decode cX6_init 28 = .ok (.bipush 15, 2) := by decide +kernel
theorem dX6_init_30 : decode cX6_init 30 = .ok (.newarray .int, 2) := by decide +kernel
theorem dX6_init_32 : decode cX6_init 32 = .ok (.putfield 25, 3) := by decide +kernel
theorem dX6_init_35 : decode cX6_init 35 = .ok (.aload_n 0, 1) := by decide +kernel
theorem dX6_init_36 : decode cX6_init 36 = .ok (.bipush 75, 2) := by decide +kernel
theorem dX6_init_38 : decode cX6_init 38 = .ok (.newarray .int, 2) := by decide +kernel
theorem dX6_init_40 : decode cX6_init 40 = .ok (.putfield 29, 3) := by decide +kernel
theorem dX6_init_43 : decode cX6_init 43 = .ok (.aload_n 0, 1) := by decide +kernel
theorem dX6_init_44 : decode cX6_init 44 = .ok (.iconst 0, 1) := by decide +kernel
theorem dX6_init_45 : decode cX6_init 45 = .ok (.putfield 32, 3) := by decide +kernel
theorem dX6_init_48 : decode cX6_init 48 = .ok (.return_, 1) := by decide +kernel
theorem dX6_isFull_0 : decode cX6_isFull 0 = .ok (.aload_n 0, 1) := by decide +kernel
theorem dX6_isFull_1 : decode cX6_isFull 1 = .ok (.getfield 15, 3) := by decide +kernel
theorem dX6_isFull_4 : decode cX6_isFull 4 = .ok (.bipush 60, 2) := by decide +kernel
theorem dX6_isFull_6 : decode cX6_isFull 6 = .ok (.if_icmp .lt 7, 3) := by decide +kernel
theorem dX6_isFull_9 : decode cX6_isFull 9 = .ok (.iconst 1, 1) := by decide +kernel
theorem dX6_isFull_10 : decode cX6_isFull 10 = .ok (.goto 4, 3) := by decide +kernel
theorem dX6_isFull_13 : decode cX6_isFull 13 = .ok (.iconst 0, 1) := by decide +kernel
theorem dX6_isFull_14 : decode cX6_isFull 14 = .ok (.ireturn, 1) := by decide +kernel
theorem dX6_append_0 : decode cX6_append 0 = .ok (.aload_n 0, 1) := by decide +kernel
theorem dX6_append_1 : decode cX6_append 1 = .ok (.invokevirtual 35, 3) := by decide +kernel
theorem dX6_append_4 : decode cX6_append 4 = .ok (.ifCond .ne 23, 3) := by decide +kernel
theorem dX6_append_7 : decode cX6_append 7 = .ok (.aload_n 0, 1) := by decide +kernel
theorem dX6_append_8 : decode cX6_append 8 = .ok (.getfield 11, 3) := by decide +kernel
theorem dX6_append_11 : decode cX6_append 11 = .ok (.aload_n 0, 1) := by decide +kernel
theorem dX6_append_12 : decode cX6_append 12 = .ok (.getfield 15, 3) := by decide +kernel
theorem dX6_append_15 : decode cX6_append 15 = .ok (.iload_n 1, 1) := by decide +kernel
theorem dX6_append_16 : decode cX6_append 16 = .ok (.castore, 1) := by decide +kernel
theorem dX6_append_17 : decode cX6_append 17 = .ok (.aload_n 0, 1) := by decide +kernel
theorem dX6_append_18 : decode cX6_append 18 = .ok (.dup, 1) := by decide +kernel
theorem dX6_append_19 : decode cX6_append 19 = .ok (.getfield 15, 3) := by decide +kernel
theorem dX6_append_22 : decode cX6_append 22 = .ok (.iconst 1, 1) := by decide +kernel
theorem dX6_append_23 : decode cX6_append 23 = .ok (.iadd, 1) := by decide +kernel
theorem dX6_append_24 : decode cX6_append 24 = .ok (.putfield 15, 3) := by decide +kernel
theorem dX6_append_27 : decode cX6_append 27 = .ok (.aload_n 0, 1) := by decide +kernel
theorem dX6_append_28 : decode cX6_append 28 = .ok (.getfield 15, 3) := by decide +kernel
theorem dX6_append_31 : decode cX6_append 31 = .ok (.ireturn, 1) := by decide +kernel
theorem dX6_clear_0 : decode cX6_clear 0 = .ok (.aload_n 0, 1) := by decide +kernel
theorem dX6_clear_1 : decode cX6_clear 1 = .ok (.iconst 0, 1) := by decide +kernel
theorem dX6_clear_2 : decode cX6_clear 2 = .ok (.putfield 15, 3) := by decide +kernel
theorem dX6_clear_5 : decode cX6_clear 5 = .ok (.return_, 1) := by decide +kernel
theorem dX6_size_0 : decode cX6_size 0 = .ok (.aload_n 0, 1) := by decide +kernel
theorem dX6_size_1 : decode cX6_size 1 = .ok (.getfield 22, 3) := by decide +kernel
theorem dX6_size_4 : decode cX6_size 4 = .ok (.ireturn, 1) := by decide +kernel
theorem dX6_kindOf_0 : decode cX6_kindOf 0 = .ok (.iload_n 1, 1) := by decide +kernel
theorem dX6_kindOf_1 : decode cX6_kindOf 1 = .ok (.ifCond .lt 26, 3) := by decide +kernel
theorem dX6_kindOf_4 : decode cX6_kindOf 4 = .ok (.iload_n 1, 1) := by decide +kernel
theorem dX6_kindOf_5 : decode cX6_kindOf 5 = .ok (.aload_n 0, 1) := by decide +kernel
theorem dX6_kindOf_6 : decode cX6_kindOf 6 = .ok (.getfield 22, 3) := by decide +kernel
theorem dX6_kindOf_9 : decode cX6_kindOf 9 = .ok (.if_icmp .ge 18, 3) := by decide +kernel
theorem dX6_kindOf_12 : decode cX6_kindOf 12 = .ok (.iload_n 1, 1) := by decide +kernel
theorem dX6_kindOf_13 : decode cX6_kindOf 13 = .ok (.bipush 15, 2) := by decide +kernel
theorem dX6_kindOf_15 : decode cX6_kindOf 15 = .ok (.if_icmp .ge 12, 3) := by decide +kernel
theorem dX6_kindOf_18 : decode cX6_kindOf 18 = .ok (.aload_n 0, 1) := by decide +kernel
theorem dX6_kindOf_19 : decode cX6_kindOf 19 = .ok (.getfield 25, 3) := by decide +kernel
theorem dX6_kindOf_22 : decode cX6_kindOf 22 = .ok (.iload_n 1, 1) := by decide +kernel
theorem dX6_kindOf_23 : decode cX6_kindOf 23 = .ok (.iaload, 1) := by decide +kernel
theorem dX6_kindOf_24 : decode cX6_kindOf 24 = .ok (.goto 4, 3) := by decide +kernel
theorem dX6_kindOf_27 : decode cX6_kindOf 27 = .ok (.iconst (-1), 1) := by decide +kernel
theorem dX6_kindOf_28 : decode cX6_kindOf 28 = .ok (.ireturn, 1) := by decide +kernel
theorem dX6_argument_0 : decode cX6_argument 0 = .ok (.iload_n 1, 1) := by decide +kernel
theorem dX6_argument_1 : decode cX6_argument 1 = .ok (.ifCond .lt 30, 3) := by decide +kernel
theorem dX6_argument_4 : decode cX6_argument 4 = .ok (.iload_n 1, 1) := by decide +kernel
theorem dX6_argument_5 : decode cX6_argument 5 = .ok (.aload_n 0, 1) := by decide +kernel
theorem dX6_argument_6 : decode cX6_argument 6 = .ok (.getfield 22, 3) := by decide +kernel
theorem dX6_argument_9 : decode cX6_argument 9 = .ok (.if_icmp .ge 22, 3) := by decide +kernel
theorem dX6_argument_12 : decode cX6_argument 12 = .ok (.iload_n 1, 1) := by decide +kernel
theorem dX6_argument_13 : decode cX6_argument 13 = .ok (.bipush 15, 2) := by decide +kernel
theorem dX6_argument_15 : decode cX6_argument 15 = .ok (.if_icmp .ge 16, 3) := by decide +kernel
theorem dX6_argument_18 : decode cX6_argument 18 = .ok (.iload_n 2, 1) := by decide +kernel
theorem dX6_argument_19 : decode cX6_argument 19 = .ok (.ifCond .lt 12, 3) := by decide +kernel
theorem dX6_argument_22 : decode cX6_argument 22 = .ok (.iload_n 2, 1) := by decide +kernel
theorem dX6_argument_23 : decode cX6_argument 23 = .ok (.iconst 5, 1) := by decide +kernel
theorem dX6_argument_24 : decode cX6_argument 24 = .ok (.if_icmp .ge 7, 3) := by decide +kernel
theorem dX6_argument_27 : decode cX6_argument 27 = .ok (.iconst 1, 1) := by decide +kernel
theorem dX6_argument_28 : decode cX6_argument 28 = .ok (.goto 4, 3) := by decide +kernel
theorem dX6_argument_31 : decode cX6_argument 31 = .ok (.iconst 0, 1) := by decide +kernel
theorem dX6_argument_32 : decode cX6_argument 32 = .ok (.istore_n 3, 1) := by decide +kernel
theorem dX6_argument_33 : decode cX6_argument 33 = .ok (.iload_n 3, 1) := by decide +kernel
theorem dX6_argument_34 : decode cX6_argument 34 = .ok (.ifCond .eq 16, 3) := by decide +kernel
theorem dX6_argument_37 : decode cX6_argument 37 = .ok (.aload_n 0, 1) := by decide +kernel
theorem dX6_argument_38 : decode cX6_argument 38 = .ok (.getfield 29, 3) := by decide +kernel
theorem dX6_argument_41 : decode cX6_argument 41 = .ok (.iload_n 1, 1) := by decide +kernel
theorem dX6_argument_42 : decode cX6_argument 42 = .ok (.iconst 5, 1) := by decide +kernel
theorem dX6_argument_43 : decode cX6_argument 43 = .ok (.imul, 1) := by decide +kernel
theorem dX6_argument_44 : decode cX6_argument 44 = .ok (.iload_n 2, 1) := by decide +kernel
theorem dX6_argument_45 : decode cX6_argument 45 = .ok (.iadd, 1) := by decide +kernel
theorem dX6_argument_46 : decode cX6_argument 46 = .ok (.iaload, 1) := by decide +kernel
theorem dX6_argument_47 : decode cX6_argument 47 = .ok (.goto 4, 3) := by decide +kernel
theorem dX6_argument_50 : decode cX6_argument 50 = .ok (.iconst 0, 1) := by decide +kernel
theorem dX6_argument_51 : decode cX6_argument 51 = .ok (.ireturn, 1) := by decide +kernel
theorem dX6_formOf_0 : decode cX6_formOf 0 = .ok (.iload_n 0, 1) := by decide +kernel
theorem dX6_formOf_1 : decode cX6_formOf 1 = .ok (.tableswitch 78 0 8 #[51, 54, 57, 60, 63, 66, 69, 72, 75], 51) := by decide +kernel
theorem dX6_formOf_52 : decode cX6_formOf 52 = .ok (.ldc 39, 2) := by decide +kernel
theorem dX6_formOf_54 : decode cX6_formOf 54 = .ok (.areturn, 1) := by decide +kernel
theorem dX6_formOf_55 : decode cX6_formOf 55 = .ok (.ldc 41, 2) := by decide +kernel
theorem dX6_formOf_57 : decode cX6_formOf 57 = .ok (.areturn, 1) := by decide +kernel
theorem dX6_formOf_58 : decode cX6_formOf 58 = .ok (.ldc 43, 2) := by decide +kernel
theorem dX6_formOf_60 : decode cX6_formOf 60 = .ok (.areturn, 1) := by decide +kernel
theorem dX6_formOf_61 : decode cX6_formOf 61 = .ok (.ldc 45, 2) := by decide +kernel
theorem dX6_formOf_63 : decode cX6_formOf 63 = .ok (.areturn, 1) := by decide +kernel
theorem dX6_formOf_64 : decode cX6_formOf 64 = .ok (.ldc 47, 2) := by decide +kernel
theorem dX6_formOf_66 : decode cX6_formOf 66 = .ok (.areturn, 1) := by decide +kernel
theorem dX6_formOf_67 : decode cX6_formOf 67 = .ok (.ldc 49, 2) := by decide +kernel
theorem dX6_formOf_69 : decode cX6_formOf 69 = .ok (.areturn, 1) := by decide +kernel
theorem dX6_formOf_70 : decode cX6_formOf 70 = .ok (.ldc 51, 2) := by decide +kernel
theorem dX6_formOf_72 : decode cX6_formOf 72 = .ok (.areturn, 1) := by decide +kernel
theorem dX6_formOf_73 : decode cX6_formOf 73 = .ok (.ldc 53, 2) := by decide +kernel
theorem dX6_formOf_75 : decode cX6_formOf 75 = .ok (.areturn, 1) := by decide +kernel
theorem dX6_formOf_76 : decode cX6_formOf 76 = .ok (.ldc 55, 2) := by decide +kernel
theorem dX6_formOf_78 : decode cX6_formOf 78 = .ok (.areturn, 1) := by decide +kernel
theorem dX6_formOf_79 : decode cX6_formOf 79 = .ok (.ldc 57, 2) := by decide +kernel
theorem dX6_formOf_81 : decode cX6_formOf 81 = .ok (.areturn, 1) := by decide +kernel
theorem dX6_read_0 : decode cX6_read 0 = .ok (.aload_n 0, 1) := by decide +kernel
theorem dX6_read_1 : decode cX6_read 1 = .ok (.iconst 0, 1) := by decide +kernel
theorem dX6_read_2 : decode cX6_read 2 = .ok (.putfield 19, 3) := by decide +kernel
theorem dX6_read_5 : decode cX6_read 5 = .ok (.aload_n 0, 1) := by decide +kernel
theorem dX6_read_6 : decode cX6_read 6 = .ok (.iconst 0, 1) := by decide +kernel
theorem dX6_read_7 : decode cX6_read 7 = .ok (.putfield 22, 3) := by decide +kernel
theorem dX6_read_10 : decode cX6_read 10 = .ok (.bipush 15, 2) := by decide +kernel
theorem dX6_read_12 : decode cX6_read 12 = .ok (.istore_n 1, 1) := by decide +kernel
theorem dX6_read_13 : decode cX6_read 13 = .ok (.iload_n 1, 1) := by decide +kernel
theorem dX6_read_14 : decode cX6_read 14 = .ok (.ifCond .le 58, 3) := by decide +kernel
theorem dX6_read_17 : decode cX6_read 17 = .ok (.aload_n 0, 1) := by decide +kernel
theorem dX6_read_18 : decode cX6_read 18 = .ok (.invokevirtual 59, 3) := by decide +kernel
theorem dX6_read_21 : decode cX6_read 21 = .ok (.ifCond .ne 8, 3) := by decide +kernel
theorem dX6_read_24 : decode cX6_read 24 = .ok (.aload_n 0, 1) := by decide +kernel
theorem dX6_read_25 : decode cX6_read 25 = .ok (.getfield 19, 3) := by decide +kernel
theorem dX6_read_28 : decode cX6_read 28 = .ok (.ireturn, 1) := by decide +kernel
theorem dX6_read_29 : decode cX6_read 29 = .ok (.aload_n 0, 1) := by decide +kernel
theorem dX6_read_30 : decode cX6_read 30 = .ok (.dup, 1) := by decide +kernel
theorem dX6_read_31 : decode cX6_read 31 = .ok (.getfield 22, 3) := by decide +kernel
theorem dX6_read_34 : decode cX6_read 34 = .ok (.iconst 1, 1) := by decide +kernel
theorem dX6_read_35 : decode cX6_read 35 = .ok (.iadd, 1) := by decide +kernel
theorem dX6_read_36 : decode cX6_read 36 = .ok (.putfield 22, 3) := by decide +kernel
theorem dX6_read_39 : decode cX6_read 39 = .ok (.aload_n 0, 1) := by decide +kernel
theorem dX6_read_40 : decode cX6_read 40 = .ok (.getfield 19, 3) := by decide +kernel
theorem dX6_read_43 : decode cX6_read 43 = .ok (.aload_n 0, 1) := by decide +kernel
theorem dX6_read_44 : decode cX6_read 44 = .ok (.getfield 15, 3) := by decide +kernel
theorem dX6_read_47 : decode cX6_read 47 = .ok (.if_icmp .ne 5, 3) := by decide +kernel
theorem dX6_read_50 : decode cX6_read 50 = .ok (.iconst (-1), 1) := by decide +kernel
theorem dX6_read_51 : decode cX6_read 51 = .ok (.ireturn, 1) := by decide +kernel
theorem dX6_read_52 : decode cX6_read 52 = .ok (.aload_n 0, 1) := by decide +kernel
theorem dX6_read_53 : decode cX6_read 53 = .ok (.bipush 59, 2) := by decide +kernel
theorem dX6_read_55 : decode cX6_read 55 = .ok (.invokevirtual 62, 3) := by decide +kernel
theorem dX6_read_58 : decode cX6_read 58 = .ok (.ifCond .ne 8, 3) := by decide +kernel
theorem dX6_read_61 : decode cX6_read 61 = .ok (.aload_n 0, 1) := by decide +kernel
theorem dX6_read_62 : decode cX6_read 62 = .ok (.getfield 19, 3) := by decide +kernel
theorem dX6_read_65 : decode cX6_read 65 = .ok (.ireturn, 1) := by decide +kernel
theorem dX6_read_66 : decode cX6_read 66 = .ok (.iinc 1 (-1), 3) := by decide +kernel
theorem dX6_read_69 : decode cX6_read 69 = .ok (.goto (-56), 3) := by decide +kernel
theorem dX6_read_72 : decode cX6_read 72 = .ok (.aload_n 0, 1) := by decide +kernel
theorem dX6_read_73 : decode cX6_read 73 = .ok (.getfield 19, 3) := by decide +kernel
theorem dX6_read_76 : decode cX6_read 76 = .ok (.ireturn, 1) := by decide +kernel
theorem dX6_readCommand_0 : decode cX6_readCommand 0 = .ok (.aload_n 0, 1) := by decide +kernel
theorem dX6_readCommand_1 : decode cX6_readCommand 1 = .ok (.getfield 19, 3) := by decide +kernel
theorem dX6_readCommand_4 : decode cX6_readCommand 4 = .ok (.istore_n 1, 1) := by decide +kernel
theorem dX6_readCommand_5 : decode cX6_readCommand 5 = .ok (.aload_n 0, 1) := by decide +kernel
theorem dX6_readCommand_6 : decode cX6_readCommand 6 = .ok (.getfield 19, 3) := by decide +kernel
theorem dX6_readCommand_9 : decode cX6_readCommand 9 = .ok (.istore_n 2, 1) := by decide +kernel
theorem dX6_readCommand_10 : decode cX6_readCommand 10 = .ok (.iconst 0, 1) := by decide +kernel
theorem dX6_readCommand_11 : decode cX6_readCommand 11 = .ok (.istore_n 3, 1) := by decide +kernel
theorem dX6_readCommand_12 : decode cX6_readCommand 12 = .ok (.iload_n 3, 1) := by decide +kernel
theorem dX6_readCommand_13 : decode cX6_readCommand 13 = .ok (.bipush 10, 2) := by decide +kernel
theorem dX6_readCommand_15 : decode cX6_readCommand 15 = .ok (.if_icmp .ge 59, 3) := by decide +kernel
theorem dX6_readCommand_18 : decode cX6_readCommand 18 = .ok (.aload_n 0, 1) := by decide +kernel
theorem dX6_readCommand_19 : decode cX6_readCommand 19 = .ok (.iload_n 1, 1) := by decide +kernel
theorem dX6_readCommand_20 : decode cX6_readCommand 20 = .ok (.putfield 19, 3) := by decide +kernel
theorem dX6_readCommand_23 : decode cX6_readCommand 23 = .ok (.aload_n 0, 1) := by decide +kernel
theorem dX6_readCommand_24 : decode cX6_readCommand 24 = .ok (.getfield 22, 3) := by decide +kernel
theorem dX6_readCommand_27 : decode cX6_readCommand 27 = .ok (.ifCond .lt 32, 3) := by decide +kernel
theorem dX6_readCommand_30 : decode cX6_readCommand 30 = .ok (.aload_n 0, 1) := by decide +kernel
theorem dX6_readCommand_31 : decode cX6_readCommand 31 = .ok (.getfield 22, 3) := by decide +kernel
theorem dX6_readCommand_34 : decode cX6_readCommand 34 = .ok (.bipush 15, 2) := by decide +kernel
theorem dX6_readCommand_36 : decode cX6_readCommand 36 = .ok (.if_icmp .ge 23, 3) := by decide +kernel
theorem dX6_readCommand_39 : decode cX6_readCommand 39 = .ok (.aload_n 0, 1) := by decide +kernel
theorem dX6_readCommand_40 : decode cX6_readCommand 40 = .ok (.iload_n 3, 1) := by decide +kernel
theorem dX6_readCommand_41 : decode cX6_readCommand 41 = .ok (.invokevirtual 66, 3) := by decide +kernel
theorem dX6_readCommand_44 : decode cX6_readCommand 44 = .ok (.ifCond .eq 15, 3) := by decide +kernel
theorem dX6_readCommand_47 : decode cX6_readCommand 47 = .ok (.aload_n 0, 1) := by decide +kernel
theorem dX6_readCommand_48 : decode cX6_readCommand 48 = .ok (.getfield 25, 3) := by decide +kernel
theorem dX6_readCommand_51 : decode cX6_readCommand 51 = .ok (.aload_n 0, 1) := by decide +kernel
theorem dX6_readCommand_52 : decode cX6_readCommand 52 = .ok (.getfield 22, 3) := by decide +kernel
theorem dX6_readCommand_55 : decode cX6_readCommand 55 = .ok (.iload_n 3, 1) := by decide +kernel
theorem dX6_readCommand_56 : decode cX6_readCommand 56 = .ok (.iastore, 1) := by decide +kernel
theorem dX6_readCommand_57 : decode cX6_readCommand 57 = .ok (.iconst 1, 1) := by decide +kernel
theorem dX6_readCommand_58 : decode cX6_readCommand 58 = .ok (.ireturn, 1) := by decide +kernel
theorem dX6_readCommand_59 : decode cX6_readCommand 59 = .ok (.iload_n 2, 1) := by decide +kernel
theorem dX6_readCommand_60 : decode cX6_readCommand 60 = .ok (.aload_n 0, 1) := by decide +kernel
theorem dX6_readCommand_61 : decode cX6_readCommand 61 = .ok (.getfield 19, 3) := by decide +kernel
theorem dX6_readCommand_64 : decode cX6_readCommand 64 = .ok (.invokestatic 70, 3) := by decide +kernel
theorem dX6_readCommand_67 : decode cX6_readCommand 67 = .ok (.istore_n 2, 1) := by decide +kernel
theorem dX6_readCommand_68 : decode cX6_readCommand 68 = .ok (.iinc 3 1, 3) := by decide +kernel
theorem dX6_readCommand_71 : decode cX6_readCommand 71 = .ok (.goto (-59), 3) := by decide +kernel
theorem dX6_readCommand_74 : decode cX6_readCommand 74 = .ok (.aload_n 0, 1) := by decide +kernel
theorem dX6_readCommand_75 : decode cX6_readCommand 75 = .ok (.iload_n 2, 1) := by decide +kernel
theorem dX6_readCommand_76 : decode cX6_readCommand 76 = .ok (.putfield 19, 3) := by decide +kernel
theorem dX6_readCommand_79 : decode cX6_readCommand 79 = .ok (.iconst 0, 1) := by decide +kernel
theorem dX6_readCommand_80 : decode cX6_readCommand 80 = .ok (.ireturn, 1) := by decide +kernel
theorem dX6_readForm_0 : decode cX6_readForm 0 = .ok (.aload_n 0, 1) := by decide +kernel
theorem dX6_readForm_1 : decode cX6_readForm 1 = .ok (.iconst 0, 1) := by decide +kernel
theorem dX6_readForm_2 : decode cX6_readForm 2 = .ok (.putfield 32, 3) := by decide +kernel
theorem dX6_readForm_5 : decode cX6_readForm 5 = .ok (.iload_n 1, 1) := by decide +kernel
theorem dX6_readForm_6 : decode cX6_readForm 6 = .ok (.invokestatic 76, 3) := by decide +kernel
theorem dX6_readForm_9 : decode cX6_readForm 9 = .ok (.astore_n 2, 1) := by decide +kernel
theorem dX6_readForm_10 : decode cX6_readForm 10 = .ok (.iconst 0, 1) := by decide +kernel
theorem dX6_readForm_11 : decode cX6_readForm 11 = .ok (.istore_n 3, 1) := by decide +kernel
theorem dX6_readForm_12 : decode cX6_readForm 12 = .ok (.iload_n 3, 1) := by decide +kernel
theorem dX6_readForm_13 : decode cX6_readForm 13 = .ok (.aload_n 2, 1) := by decide +kernel
theorem dX6_readForm_14 : decode cX6_readForm 14 = .ok (.invokevirtual 80, 3) := by decide +kernel
theorem dX6_readForm_17 : decode cX6_readForm 17 = .ok (.if_icmp .ge 23, 3) := by decide +kernel
theorem dX6_readForm_20 : decode cX6_readForm 20 = .ok (.aload_n 0, 1) := by decide +kernel
theorem dX6_readForm_21 : decode cX6_readForm 21 = .ok (.aload_n 2, 1) := by decide +kernel
theorem dX6_readForm_22 : decode cX6_readForm 22 = .ok (.iload_n 3, 1) := by decide +kernel
theorem dX6_readForm_23 : decode cX6_readForm 23 = .ok (.invokevirtual 85, 3) := by decide +kernel
theorem dX6_readForm_26 : decode cX6_readForm 26 = .ok (.invokevirtual 89, 3) := by decide +kernel
theorem dX6_readForm_29 : decode cX6_readForm 29 = .ok (.ifCond .ne 5, 3) := by decide +kernel
theorem dX6_readForm_32 : decode cX6_readForm 32 = .ok (.iconst 0, 1) := by decide +kernel
theorem dX6_readForm_33 : decode cX6_readForm 33 = .ok (.ireturn, 1) := by decide +kernel
theorem dX6_readForm_34 : decode cX6_readForm 34 = .ok (.iinc 3 1, 3) := by decide +kernel
theorem dX6_readForm_37 : decode cX6_readForm 37 = .ok (.goto (-25), 3) := by decide +kernel
theorem dX6_readForm_40 : decode cX6_readForm 40 = .ok (.iload_n 1, 1) := by decide +kernel
theorem dX6_readForm_41 : decode cX6_readForm 41 = .ok (.bipush 9, 2) := by decide +kernel
theorem dX6_readForm_43 : decode cX6_readForm 43 = .ok (.if_icmp .ne 10, 3) := by decide +kernel
theorem dX6_readForm_46 : decode cX6_readForm 46 = .ok (.aload_n 0, 1) := by decide +kernel
theorem dX6_readForm_47 : decode cX6_readForm 47 = .ok (.invokevirtual 92, 3) := by decide +kernel
theorem dX6_readForm_50 : decode cX6_readForm 50 = .ok (.ifCond .eq 7, 3) := by decide +kernel
theorem dX6_readForm_53 : decode cX6_readForm 53 = .ok (.iconst 1, 1) := by decide +kernel
theorem dX6_readForm_54 : decode cX6_readForm 54 = .ok (.goto 4, 3) := by decide +kernel
theorem dX6_readForm_57 : decode cX6_readForm 57 = .ok (.iconst 0, 1) := by decide +kernel
theorem dX6_readForm_58 : decode cX6_readForm 58 = .ok (.ireturn, 1) := by decide +kernel
theorem dX6_readOptionalDays_0 : decode cX6_readOptionalDays 0 = .ok (.aload_n 0, 1) := by decide +kernel
theorem dX6_readOptionalDays_1 : decode cX6_readOptionalDays 1 = .ok (.bipush 32, 2) := by decide +kernel
theorem dX6_readOptionalDays_3 : decode cX6_readOptionalDays 3 = .ok (.invokevirtual 62, 3) := by decide +kernel
theorem dX6_readOptionalDays_6 : decode cX6_readOptionalDays 6 = .ok (.ifCond .eq 9, 3) := by decide +kernel
theorem dX6_readOptionalDays_9 : decode cX6_readOptionalDays 9 = .ok (.aload_n 0, 1) := by decide +kernel
theorem dX6_readOptionalDays_10 : decode cX6_readOptionalDays 10 = .ok (.iconst 3, 1) := by decide +kernel
theorem dX6_readOptionalDays_11 : decode cX6_readOptionalDays 11 = .ok (.invokevirtual 95, 3) := by decide +kernel
theorem dX6_readOptionalDays_14 : decode cX6_readOptionalDays 14 = .ok (.ireturn, 1) := by decide +kernel
theorem dX6_readOptionalDays_15 : decode cX6_readOptionalDays 15 = .ok (.aload_n 0, 1) := by decide +kernel
theorem dX6_readOptionalDays_16 : decode cX6_readOptionalDays 16 = .ok (.iconst 1, 1) := by decide +kernel
theorem dX6_readOptionalDays_17 : decode cX6_readOptionalDays 17 = .ok (.invokevirtual 98, 3) := by decide +kernel
theorem dX6_readOptionalDays_20 : decode cX6_readOptionalDays 20 = .ok (.iconst 1, 1) := by decide +kernel
theorem dX6_readOptionalDays_21 : decode cX6_readOptionalDays 21 = .ok (.ireturn, 1) := by decide +kernel
theorem dX6_readPart_0 : decode cX6_readPart 0 = .ok (.iload_n 1, 1) := by decide +kernel
theorem dX6_readPart_1 : decode cX6_readPart 1 = .ok (.bipush 78, 2) := by decide +kernel
theorem dX6_readPart_3 : decode cX6_readPart 3 = .ok (.if_icmp .ne 9, 3) := by decide +kernel
theorem dX6_readPart_6 : decode cX6_readPart 6 = .ok (.aload_n 0, 1) := by decide +kernel
theorem dX6_readPart_7 : decode cX6_readPart 7 = .ok (.iconst 3, 1) := by decide +kernel
theorem dX6_readPart_8 : decode cX6_readPart 8 = .ok (.invokevirtual 95, 3) := by decide +kernel
theorem dX6_readPart_11 : decode cX6_readPart 11 = .ok (.ireturn, 1) := by decide +kernel
theorem dX6_readPart_12 : decode cX6_readPart 12 = .ok (.iload_n 1, 1) := by decide +kernel
theorem dX6_readPart_13 : decode cX6_readPart 13 = .ok (.bipush 68, 2) := by decide +kernel
theorem dX6_readPart_15 : decode cX6_readPart 15 = .ok (.if_icmp .ne 9, 3) := by decide +kernel
theorem dX6_readPart_18 : decode cX6_readPart 18 = .ok (.aload_n 0, 1) := by decide +kernel
theorem dX6_readPart_19 : decode cX6_readPart 19 = .ok (.iconst 1, 1) := by decide +kernel
theorem dX6_readPart_20 : decode cX6_readPart 20 = .ok (.invokevirtual 95, 3) := by decide +kernel
theorem dX6_readPart_23 : decode cX6_readPart 23 = .ok (.ireturn, 1) := by decide +kernel
theorem dX6_readPart_24 : decode cX6_readPart 24 = .ok (.aload_n 0, 1) := by decide +kernel
theorem dX6_readPart_25 : decode cX6_readPart 25 = .ok (.iload_n 1, 1) := by decide +kernel
theorem dX6_readPart_26 : decode cX6_readPart 26 = .ok (.invokevirtual 62, 3) := by decide +kernel
theorem dX6_readPart_29 : decode cX6_readPart 29 = .ok (.ireturn, 1) := by decide +kernel
theorem dX6_readCharacter_0 : decode cX6_readCharacter 0 = .ok (.aload_n 0, 1) := by decide +kernel
theorem dX6_readCharacter_1 : decode cX6_readCharacter 1 = .ok (.getfield 19, 3) := by decide +kernel
theorem dX6_readCharacter_4 : decode cX6_readCharacter 4 = .ok (.ifCond .lt 36, 3) := by decide +kernel
theorem dX6_readCharacter_7 : decode cX6_readCharacter 7 = .ok (.aload_n 0, 1) := by decide +kernel
theorem dX6_readCharacter_8 : decode cX6_readCharacter 8 = .ok (.getfield 19, 3) := by decide +kernel
theorem dX6_readCharacter_11 : decode cX6_readCharacter 11 = .ok (.aload_n 0, 1) := by decide +kernel
theorem dX6_readCharacter_12 : decode cX6_readCharacter 12 = .ok (.getfield 15, 3) := by decide +kernel
theorem dX6_readCharacter_15 : decode cX6_readCharacter 15 = .ok (.if_icmp .ge 25, 3) := by decide +kernel
theorem dX6_readCharacter_18 : decode cX6_readCharacter 18 = .ok (.aload_n 0, 1) := by decide +kernel
theorem dX6_readCharacter_19 : decode cX6_readCharacter 19 = .ok (.getfield 19, 3) := by decide +kernel
theorem dX6_readCharacter_22 : decode cX6_readCharacter 22 = .ok (.bipush 60, 2) := by decide +kernel
theorem dX6_readCharacter_24 : decode cX6_readCharacter 24 = .ok (.if_icmp .ge 16, 3) := by decide +kernel
theorem dX6_readCharacter_27 : decode cX6_readCharacter 27 = .ok (.aload_n 0, 1) := by decide +kernel
theorem dX6_readCharacter_28 : decode cX6_readCharacter 28 = .ok (.getfield 11, 3) := by decide +kernel
theorem dX6_readCharacter_31 : decode cX6_readCharacter 31 = .ok (.aload_n 0, 1) := by decide +kernel
theorem dX6_readCharacter_32 : decode cX6_readCharacter 32 = .ok (.getfield 19, 3) := by decide +kernel
theorem dX6_readCharacter_35 : decode cX6_readCharacter 35 = .ok (.caload, 1) := by decide +kernel
theorem dX6_readCharacter_36 : decode cX6_readCharacter 36 = .ok (.iload_n 1, 1) := by decide +kernel
theorem dX6_readCharacter_37 : decode cX6_readCharacter 37 = .ok (.if_icmp .eq 5, 3) := by decide +kernel
theorem dX6_readCharacter_40 : decode cX6_readCharacter 40 = .ok (.iconst 0, 1) := by decide +kernel
theorem dX6_readCharacter_41 : decode cX6_readCharacter 41 = .ok (.ireturn, 1) := by decide +kernel
theorem dX6_readCharacter_42 : decode cX6_readCharacter 42 = .ok (.aload_n 0, 1) := by decide +kernel
theorem dX6_readCharacter_43 : decode cX6_readCharacter 43 = .ok (.dup, 1) := by decide +kernel
theorem dX6_readCharacter_44 : decode cX6_readCharacter 44 = .ok (.getfield 19, 3) := by decide +kernel
theorem dX6_readCharacter_47 : decode cX6_readCharacter 47 = .ok (.iconst 1, 1) := by decide +kernel
theorem dX6_readCharacter_48 : decode cX6_readCharacter 48 = .ok (.iadd, 1) := by decide +kernel
theorem dX6_readCharacter_49 : decode cX6_readCharacter 49 = .ok (.putfield 19, 3) := by decide +kernel
theorem dX6_readCharacter_52 : decode cX6_readCharacter 52 = .ok (.iconst 1, 1) := by decide +kernel
theorem dX6_readCharacter_53 : decode cX6_readCharacter 53 = .ok (.ireturn, 1) := by decide +kernel
theorem dX6_readNumber_0 : decode cX6_readNumber 0 = .ok (.iconst 0, 1) := by decide +kernel
theorem dX6_readNumber_1 : decode cX6_readNumber 1 = .ok (.istore_n 2, 1) := by decide +kernel
theorem dX6_readNumber_2 : decode cX6_readNumber 2 = .ok (.iconst 0, 1) := by decide +kernel
theorem dX6_readNumber_3 : decode cX6_readNumber 3 = .ok (.istore_n 3, 1) := by decide +kernel
theorem dX6_readNumber_4 : decode cX6_readNumber 4 = .ok (.iload_n 3, 1) := by decide +kernel
theorem dX6_readNumber_5 : decode cX6_readNumber 5 = .ok (.iload_n 1, 1) := by decide +kernel
theorem dX6_readNumber_6 : decode cX6_readNumber 6 = .ok (.if_icmp .ge 44, 3) := by decide +kernel
theorem dX6_readNumber_9 : decode cX6_readNumber 9 = .ok (.aload_n 0, 1) := by decide +kernel
theorem dX6_readNumber_10 : decode cX6_readNumber 10 = .ok (.invokevirtual 102, 3) := by decide +kernel
theorem dX6_readNumber_13 : decode cX6_readNumber 13 = .ok (.ifCond .eq 37, 3) := by decide +kernel
theorem dX6_readNumber_16 : decode cX6_readNumber 16 = .ok (.bipush 10, 2) := by decide +kernel
theorem dX6_readNumber_18 : decode cX6_readNumber 18 = .ok (.iload_n 2, 1) := by decide +kernel
theorem dX6_readNumber_19 : decode cX6_readNumber 19 = .ok (.imul, 1) := by decide +kernel
theorem dX6_readNumber_20 : decode cX6_readNumber 20 = .ok (.aload_n 0, 1) := by decide +kernel
theorem dX6_readNumber_21 : decode cX6_readNumber 21 = .ok (.getfield 11, 3) := by decide +kernel
theorem dX6_readNumber_24 : decode cX6_readNumber 24 = .ok (.aload_n 0, 1) := by decide +kernel
theorem dX6_readNumber_25 : decode cX6_readNumber 25 = .ok (.getfield 19, 3) := by decide +kernel
theorem dX6_readNumber_28 : decode cX6_readNumber 28 = .ok (.caload, 1) := by decide +kernel
theorem dX6_readNumber_29 : decode cX6_readNumber 29 = .ok (.bipush 48, 2) := by decide +kernel
theorem dX6_readNumber_31 : decode cX6_readNumber 31 = .ok (.isub, 1) := by decide +kernel
theorem dX6_readNumber_32 : decode cX6_readNumber 32 = .ok (.iadd, 1) := by decide +kernel
theorem dX6_readNumber_33 : decode cX6_readNumber 33 = .ok (.istore_n 2, 1) := by decide +kernel
theorem dX6_readNumber_34 : decode cX6_readNumber 34 = .ok (.aload_n 0, 1) := by decide +kernel
theorem dX6_readNumber_35 : decode cX6_readNumber 35 = .ok (.dup, 1) := by decide +kernel
theorem dX6_readNumber_36 : decode cX6_readNumber 36 = .ok (.getfield 19, 3) := by decide +kernel
theorem dX6_readNumber_39 : decode cX6_readNumber 39 = .ok (.iconst 1, 1) := by decide +kernel
theorem dX6_readNumber_40 : decode cX6_readNumber 40 = .ok (.iadd, 1) := by decide +kernel
theorem dX6_readNumber_41 : decode cX6_readNumber 41 = .ok (.putfield 19, 3) := by decide +kernel
theorem dX6_readNumber_44 : decode cX6_readNumber 44 = .ok (.iinc 3 1, 3) := by decide +kernel
theorem dX6_readNumber_47 : decode cX6_readNumber 47 = .ok (.goto (-43), 3) := by decide +kernel
theorem dX6_readNumber_50 : decode cX6_readNumber 50 = .ok (.iload_n 3, 1) := by decide +kernel
theorem dX6_readNumber_51 : decode cX6_readNumber 51 = .ok (.ifCond .ne 5, 3) := by decide +kernel
theorem dX6_readNumber_54 : decode cX6_readNumber 54 = .ok (.iconst 0, 1) := by decide +kernel
theorem dX6_readNumber_55 : decode cX6_readNumber 55 = .ok (.ireturn, 1) := by decide +kernel
theorem dX6_readNumber_56 : decode cX6_readNumber 56 = .ok (.aload_n 0, 1) := by decide +kernel
theorem dX6_readNumber_57 : decode cX6_readNumber 57 = .ok (.iload_n 2, 1) := by decide +kernel
theorem dX6_readNumber_58 : decode cX6_readNumber 58 = .ok (.invokevirtual 98, 3) := by decide +kernel
theorem dX6_readNumber_61 : decode cX6_readNumber 61 = .ok (.iconst 1, 1) := by decide +kernel
theorem dX6_readNumber_62 : decode cX6_readNumber 62 = .ok (.ireturn, 1) := by decide +kernel
theorem dX6_isDigitHere_0 : decode cX6_isDigitHere 0 = .ok (.aload_n 0, 1) := by decide +kernel
theorem dX6_isDigitHere_1 : decode cX6_isDigitHere 1 = .ok (.getfield 19, 3) := by decide +kernel
theorem dX6_isDigitHere_4 : decode cX6_isDigitHere 4 = .ok (.ifCond .lt 55, 3) := by decide +kernel
theorem dX6_isDigitHere_7 : decode cX6_isDigitHere 7 = .ok (.aload_n 0, 1) := by decide +kernel
theorem dX6_isDigitHere_8 : decode cX6_isDigitHere 8 = .ok (.getfield 19, 3) := by decide +kernel
theorem dX6_isDigitHere_11 : decode cX6_isDigitHere 11 = .ok (.aload_n 0, 1) := by decide +kernel
theorem dX6_isDigitHere_12 : decode cX6_isDigitHere 12 = .ok (.getfield 15, 3) := by decide +kernel
theorem dX6_isDigitHere_15 : decode cX6_isDigitHere 15 = .ok (.if_icmp .ge 44, 3) := by decide +kernel
theorem dX6_isDigitHere_18 : decode cX6_isDigitHere 18 = .ok (.aload_n 0, 1) := by decide +kernel
theorem dX6_isDigitHere_19 : decode cX6_isDigitHere 19 = .ok (.getfield 19, 3) := by decide +kernel
theorem dX6_isDigitHere_22 : decode cX6_isDigitHere 22 = .ok (.bipush 60, 2) := by decide +kernel
theorem dX6_isDigitHere_24 : decode cX6_isDigitHere 24 = .ok (.if_icmp .ge 35, 3) := by decide +kernel
theorem dX6_isDigitHere_27 : decode cX6_isDigitHere 27 = .ok (.aload_n 0, 1) := by decide +kernel
theorem dX6_isDigitHere_28 : decode cX6_isDigitHere 28 = .ok (.getfield 11, 3) := by decide +kernel
theorem dX6_isDigitHere_31 : decode cX6_isDigitHere 31 = .ok (.aload_n 0, 1) := by decide +kernel
theorem dX6_isDigitHere_32 : decode cX6_isDigitHere 32 = .ok (.getfield 19, 3) := by decide +kernel
theorem dX6_isDigitHere_35 : decode cX6_isDigitHere 35 = .ok (.caload, 1) := by decide +kernel
theorem dX6_isDigitHere_36 : decode cX6_isDigitHere 36 = .ok (.bipush 48, 2) := by decide +kernel
theorem dX6_isDigitHere_38 : decode cX6_isDigitHere 38 = .ok (.if_icmp .lt 21, 3) := by decide +kernel
theorem dX6_isDigitHere_41 : decode cX6_isDigitHere 41 = .ok (.aload_n 0, 1) := by decide +kernel
theorem dX6_isDigitHere_42 : decode cX6_isDigitHere 42 = .ok (.getfield 11, 3) := by decide +kernel
theorem dX6_isDigitHere_45 : decode cX6_isDigitHere 45 = .ok (.aload_n 0, 1) := by decide +kernel
theorem dX6_isDigitHere_46 : decode cX6_isDigitHere 46 = .ok (.getfield 19, 3) := by decide +kernel
theorem dX6_isDigitHere_49 : decode cX6_isDigitHere 49 = .ok (.caload, 1) := by decide +kernel
theorem dX6_isDigitHere_50 : decode cX6_isDigitHere 50 = .ok (.bipush 57, 2) := by decide +kernel
theorem dX6_isDigitHere_52 : decode cX6_isDigitHere 52 = .ok (.if_icmp .gt 7, 3) := by decide +kernel
theorem dX6_isDigitHere_55 : decode cX6_isDigitHere 55 = .ok (.iconst 1, 1) := by decide +kernel
theorem dX6_isDigitHere_56 : decode cX6_isDigitHere 56 = .ok (.goto 4, 3) := by decide +kernel
theorem dX6_isDigitHere_59 : decode cX6_isDigitHere 59 = .ok (.iconst 0, 1) := by decide +kernel
theorem dX6_isDigitHere_60 : decode cX6_isDigitHere 60 = .ok (.ireturn, 1) := by decide +kernel
theorem dX6_store_0 : decode cX6_store 0 = .ok (.aload_n 0, 1) := by decide +kernel
theorem dX6_store_1 : decode cX6_store 1 = .ok (.getfield 22, 3) := by decide +kernel
theorem dX6_store_4 : decode cX6_store 4 = .ok (.bipush 15, 2) := by decide +kernel
theorem dX6_store_6 : decode cX6_store 6 = .ok (.if_icmp .ge 38, 3) := by decide +kernel
theorem dX6_store_9 : decode cX6_store 9 = .ok (.aload_n 0, 1) := by decide +kernel
theorem dX6_store_10 : decode cX6_store 10 = .ok (.getfield 32, 3) := by decide +kernel
theorem dX6_store_13 : decode cX6_store 13 = .ok (.iconst 5, 1) := by decide +kernel
theorem dX6_store_14 : decode cX6_store 14 = .ok (.if_icmp .ge 30, 3) := by decide +kernel
theorem dX6_store_17 : decode cX6_store 17 = .ok (.aload_n 0, 1) := by decide +kernel
theorem dX6_store_18 : decode cX6_store 18 = .ok (.getfield 29, 3) := by decide +kernel
theorem dX6_store_21 : decode cX6_store 21 = .ok (.aload_n 0, 1) := by decide +kernel
theorem dX6_store_22 : decode cX6_store 22 = .ok (.getfield 22, 3) := by decide +kernel
theorem dX6_store_25 : decode cX6_store 25 = .ok (.iconst 5, 1) := by decide +kernel
theorem dX6_store_26 : decode cX6_store 26 = .ok (.imul, 1) := by decide +kernel
theorem dX6_store_27 : decode cX6_store 27 = .ok (.aload_n 0, 1) := by decide +kernel
theorem dX6_store_28 : decode cX6_store 28 = .ok (.getfield 32, 3) := by decide +kernel
theorem dX6_store_31 : decode cX6_store 31 = .ok (.iadd, 1) := by decide +kernel
theorem dX6_store_32 : decode cX6_store 32 = .ok (.iload_n 1, 1) := by decide +kernel
theorem dX6_store_33 : decode cX6_store 33 = .ok (.iastore, 1) := by decide +kernel
theorem dX6_store_34 : decode cX6_store 34 = .ok (.aload_n 0, 1) := by decide +kernel
theorem dX6_store_35 : decode cX6_store 35 = .ok (.dup, 1) := by decide +kernel
theorem dX6_store_36 : decode cX6_store 36 = .ok (.getfield 32, 3) := by decide +kernel
theorem dX6_store_39 : decode cX6_store 39 = .ok (.iconst 1, 1) := by decide +kernel
theorem dX6_store_40 : decode cX6_store 40 = .ok (.iadd, 1) := by decide +kernel
theorem dX6_store_41 : decode cX6_store 41 = .ok (.putfield 32, 3) := by decide +kernel
theorem dX6_store_44 : decode cX6_store 44 = .ok (.return_, 1) := by decide +kernel
theorem dX7_codeOf_0 : decode cX7_codeOf 0 = .ok (.iconst 0, 1) := by decide +kernel
theorem dX7_codeOf_1 : decode cX7_codeOf 1 = .ok (.istore_n 2, 1) := by decide +kernel
theorem dX7_codeOf_2 : decode cX7_codeOf 2 = .ok (.iconst 0, 1) := by decide +kernel
theorem dX7_codeOf_3 : decode cX7_codeOf 3 = .ok (.istore_n 3, 1) := by decide +kernel
theorem dX7_codeOf_4 : decode cX7_codeOf 4 = .ok (.iload_n 3, 1) := by decide +kernel
theorem dX7_codeOf_5 : decode cX7_codeOf 5 = .ok (.bipush 6, 2) := by decide +kernel
theorem dX7_codeOf_7 : decode cX7_codeOf 7 = .ok (.if_icmp .ge 37, 3) := by decide +kernel
theorem dX7_codeOf_10 : decode cX7_codeOf 10 = .ok (.aload_n 0, 1) := by decide +kernel
theorem dX7_codeOf_11 : decode cX7_codeOf 11 = .ok (.iload_n 1, 1) := by decide +kernel
theorem dX7_codeOf_12 : decode cX7_codeOf 12 = .ok (.iload_n 3, 1) := by decide +kernel
theorem dX7_codeOf_13 : decode cX7_codeOf 13 = .ok (.invokevirtual 9, 3) := by decide +kernel
theorem dX7_codeOf_16 : decode cX7_codeOf 16 = .ok (.istore 4, 2) := by decide +kernel
theorem dX7_codeOf_18 : decode cX7_codeOf 18 = .ok (.iload 4, 2) := by decide +kernel
theorem dX7_codeOf_20 : decode cX7_codeOf 20 = .ok (.iconst (-1), 1) := by decide +kernel
theorem dX7_codeOf_21 : decode cX7_codeOf 21 = .ok (.if_icmp .eq 17, 3) := by decide +kernel
theorem dX7_codeOf_24 : decode cX7_codeOf 24 = .ok (.iload_n 2, 1) := by decide +kernel
theorem dX7_codeOf_25 : decode cX7_codeOf 25 = .ok (.aload_n 0, 1) := by decide +kernel
theorem dX7_codeOf_26 : decode cX7_codeOf 26 = .ok (.iload_n 1, 1) := by decide +kernel
theorem dX7_codeOf_27 : decode cX7_codeOf 27 = .ok (.iload 4, 2) := by decide +kernel
theorem dX7_codeOf_29 : decode cX7_codeOf 29 = .ok (.invokestatic 15, 3) := by decide +kernel
theorem dX7_codeOf_32 : decode cX7_codeOf 32 = .ok (.iconst 3, 1) := by decide +kernel
theorem dX7_codeOf_33 : decode cX7_codeOf 33 = .ok (.iload_n 3, 1) := by decide +kernel
theorem dX7_codeOf_34 : decode cX7_codeOf 34 = .ok (.imul, 1) := by decide +kernel
theorem dX7_codeOf_35 : decode cX7_codeOf 35 = .ok (.ishl, 1) := by decide +kernel
theorem dX7_codeOf_36 : decode cX7_codeOf 36 = .ok (.ior, 1) := by decide +kernel
theorem dX7_codeOf_37 : decode cX7_codeOf 37 = .ok (.istore_n 2, 1) := by decide +kernel
theorem dX7_codeOf_38 : decode cX7_codeOf 38 = .ok (.iinc 3 1, 3) := by decide +kernel
theorem dX7_codeOf_41 : decode cX7_codeOf 41 = .ok (.goto (-37), 3) := by decide +kernel
theorem dX7_codeOf_44 : decode cX7_codeOf 44 = .ok (.iload_n 2, 1) := by decide +kernel
theorem dX7_codeOf_45 : decode cX7_codeOf 45 = .ok (.ireturn, 1) := by decide +kernel
theorem dX7_numberOf_0 : decode cX7_numberOf 0 = .ok (.iconst 1, 1) := by decide +kernel
theorem dX7_numberOf_1 : decode cX7_numberOf 1 = .ok (.istore_n 3, 1) := by decide +kernel
theorem dX7_numberOf_2 : decode cX7_numberOf 2 = .ok (.iconst 0, 1) := by decide +kernel
theorem dX7_numberOf_3 : decode cX7_numberOf 3 = .ok (.istore 4, 2) := by decide +kernel
theorem dX7_numberOf_5 : decode cX7_numberOf 5 = .ok (.iload 4, 2) := by decide +kernel
theorem dX7_numberOf_7 : decode cX7_numberOf 7 = .ok (.bipush 6, 2) := by decide +kernel
theorem dX7_numberOf_9 : decode cX7_numberOf 9 = .ok (.if_icmp .ge 37, 3) := by decide +kernel
theorem dX7_numberOf_12 : decode cX7_numberOf 12 = .ok (.aload_n 0, 1) := by decide +kernel
theorem dX7_numberOf_13 : decode cX7_numberOf 13 = .ok (.iload_n 1, 1) := by decide +kernel
theorem dX7_numberOf_14 : decode cX7_numberOf 14 = .ok (.iload 4, 2) := by decide +kernel
theorem dX7_numberOf_16 : decode cX7_numberOf 16 = .ok (.invokevirtual 9, 3) := by decide +kernel
theorem dX7_numberOf_19 : decode cX7_numberOf 19 = .ok (.istore 5, 2) := by decide +kernel
theorem dX7_numberOf_21 : decode cX7_numberOf 21 = .ok (.iload 5, 2) := by decide +kernel
theorem dX7_numberOf_23 : decode cX7_numberOf 23 = .ok (.iconst (-1), 1) := by decide +kernel
theorem dX7_numberOf_24 : decode cX7_numberOf 24 = .ok (.if_icmp .eq 16, 3) := by decide +kernel
theorem dX7_numberOf_27 : decode cX7_numberOf 27 = .ok (.aload_n 0, 1) := by decide +kernel
theorem dX7_numberOf_28 : decode cX7_numberOf 28 = .ok (.iload 5, 2) := by decide +kernel
theorem dX7_numberOf_30 : decode cX7_numberOf 30 = .ok (.iload_n 2, 1) := by decide +kernel
theorem dX7_numberOf_31 : decode cX7_numberOf 31 = .ok (.invokevirtual 21, 3) := by decide +kernel
theorem dX7_numberOf_34 : decode cX7_numberOf 34 = .ok (.ifCond .eq 6, 3) := by decide +kernel
theorem dX7_numberOf_37 : decode cX7_numberOf 37 = .ok (.iinc 3 1, 3) := by decide +kernel
theorem dX7_numberOf_40 : decode cX7_numberOf 40 = .ok (.iinc 4 1, 3) := by decide +kernel
theorem dX7_numberOf_43 : decode cX7_numberOf 43 = .ok (.goto (-38), 3) := by decide +kernel
theorem dX7_numberOf_46 : decode cX7_numberOf 46 = .ok (.iload_n 3, 1) := by decide +kernel
theorem dX7_numberOf_47 : decode cX7_numberOf 47 = .ok (.ireturn, 1) := by decide +kernel
theorem dX7_contentAt_0 : decode cX7_contentAt 0 = .ok (.iload_n 0, 1) := by decide +kernel
theorem dX7_contentAt_1 : decode cX7_contentAt 1 = .ok (.iconst 3, 1) := by decide +kernel
theorem dX7_contentAt_2 : decode cX7_contentAt 2 = .ok (.iload_n 1, 1) := by decide +kernel
theorem dX7_contentAt_3 : decode cX7_contentAt 3 = .ok (.imul, 1) := by decide +kernel
theorem dX7_contentAt_4 : decode cX7_contentAt 4 = .ok (.ishr, 1) := by decide +kernel
theorem dX7_contentAt_5 : decode cX7_contentAt 5 = .ok (.bipush 7, 2) := by decide +kernel
theorem dX7_contentAt_7 : decode cX7_contentAt 7 = .ok (.iand, 1) := by decide +kernel
theorem dX7_contentAt_8 : decode cX7_contentAt 8 = .ok (.ireturn, 1) := by decide +kernel
theorem dX7_isMisplaced_0 : decode cX7_isMisplaced 0 = .ok (.iload_n 0, 1) := by decide +kernel
theorem dX7_isMisplaced_1 : decode cX7_isMisplaced 1 = .ok (.ifCond .eq 14, 3) := by decide +kernel
theorem dX7_isMisplaced_4 : decode cX7_isMisplaced 4 = .ok (.iload_n 0, 1) := by decide +kernel
theorem dX7_isMisplaced_5 : decode cX7_isMisplaced 5 = .ok (.iconst 1, 1) := by decide +kernel
theorem dX7_isMisplaced_6 : decode cX7_isMisplaced 6 = .ok (.isub, 1) := by decide +kernel
theorem dX7_isMisplaced_7 : decode cX7_isMisplaced 7 = .ok (.iload_n 1, 1) := by decide +kernel
theorem dX7_isMisplaced_8 : decode cX7_isMisplaced 8 = .ok (.if_icmp .eq 7, 3) := by decide +kernel
theorem dX7_isMisplaced_11 : decode cX7_isMisplaced 11 = .ok (.iconst 1, 1) := by decide +kernel
theorem dX7_isMisplaced_12 : decode cX7_isMisplaced 12 = .ok (.goto 4, 3) := by decide +kernel
theorem dX7_isMisplaced_15 : decode cX7_isMisplaced 15 = .ok (.iconst 0, 1) := by decide +kernel
theorem dX7_isMisplaced_16 : decode cX7_isMisplaced 16 = .ok (.ireturn, 1) := by decide +kernel
theorem dX7_misplaced_0 : decode cX7_misplaced 0 = .ok (.iconst 0, 1) := by decide +kernel
theorem dX7_misplaced_1 : decode cX7_misplaced 1 = .ok (.istore_n 1, 1) := by decide +kernel
theorem dX7_misplaced_2 : decode cX7_misplaced 2 = .ok (.iconst 0, 1) := by decide +kernel
theorem dX7_misplaced_3 : decode cX7_misplaced 3 = .ok (.istore_n 2, 1) := by decide +kernel
theorem dX7_misplaced_4 : decode cX7_misplaced 4 = .ok (.iload_n 2, 1) := by decide +kernel
theorem dX7_misplaced_5 : decode cX7_misplaced 5 = .ok (.bipush 6, 2) := by decide +kernel
theorem dX7_misplaced_7 : decode cX7_misplaced 7 = .ok (.if_icmp .ge 24, 3) := by decide +kernel
theorem dX7_misplaced_10 : decode cX7_misplaced 10 = .ok (.iload_n 0, 1) := by decide +kernel
theorem dX7_misplaced_11 : decode cX7_misplaced 11 = .ok (.iload_n 2, 1) := by decide +kernel
theorem dX7_misplaced_12 : decode cX7_misplaced 12 = .ok (.invokestatic 25, 3) := by decide +kernel
theorem dX7_misplaced_15 : decode cX7_misplaced 15 = .ok (.iload_n 2, 1) := by decide +kernel
theorem dX7_misplaced_16 : decode cX7_misplaced 16 = .ok (.invokestatic 28, 3) := by decide +kernel
theorem dX7_misplaced_19 : decode cX7_misplaced 19 = .ok (.ifCond .eq 6, 3) := by decide +kernel
theorem dX7_misplaced_22 : decode cX7_misplaced 22 = .ok (.iinc 1 1, 3) := by decide +kernel
theorem dX7_misplaced_25 : decode cX7_misplaced 25 = .ok (.iinc 2 1, 3) := by decide +kernel
theorem dX7_misplaced_28 : decode cX7_misplaced 28 = .ok (.goto (-24), 3) := by decide +kernel
theorem dX7_misplaced_31 : decode cX7_misplaced 31 = .ok (.iload_n 1, 1) := by decide +kernel
theorem dX7_misplaced_32 : decode cX7_misplaced 32 = .ok (.ireturn, 1) := by decide +kernel
theorem dX7_leastSwaps_0 : decode cX7_leastSwaps 0 = .ok (.iconst 0, 1) := by decide +kernel
theorem dX7_leastSwaps_1 : decode cX7_leastSwaps 1 = .ok (.istore_n 1, 1) := by decide +kernel
theorem dX7_leastSwaps_2 : decode cX7_leastSwaps 2 = .ok (.iload_n 1, 1) := by decide +kernel
theorem dX7_leastSwaps_3 : decode cX7_leastSwaps 3 = .ok (.bipush 6, 2) := by decide +kernel
theorem dX7_leastSwaps_5 : decode cX7_leastSwaps 5 = .ok (.if_icmp .ge 19, 3) := by decide +kernel
theorem dX7_leastSwaps_8 : decode cX7_leastSwaps 8 = .ok (.iload_n 0, 1) := by decide +kernel
theorem dX7_leastSwaps_9 : decode cX7_leastSwaps 9 = .ok (.iload_n 1, 1) := by decide +kernel
theorem dX7_leastSwaps_10 : decode cX7_leastSwaps 10 = .ok (.invokestatic 31, 3) := by decide +kernel
theorem dX7_leastSwaps_13 : decode cX7_leastSwaps 13 = .ok (.ifCond .eq 5, 3) := by decide +kernel
theorem dX7_leastSwaps_16 : decode cX7_leastSwaps 16 = .ok (.iload_n 1, 1) := by decide +kernel
theorem dX7_leastSwaps_17 : decode cX7_leastSwaps 17 = .ok (.ireturn, 1) := by decide +kernel
theorem dX7_leastSwaps_18 : decode cX7_leastSwaps 18 = .ok (.iinc 1 1, 3) := by decide +kernel
theorem dX7_leastSwaps_21 : decode cX7_leastSwaps 21 = .ok (.goto (-19), 3) := by decide +kernel
theorem dX7_leastSwaps_24 : decode cX7_leastSwaps 24 = .ok (.bipush 6, 2) := by decide +kernel
theorem dX7_leastSwaps_26 : decode cX7_leastSwaps 26 = .ok (.ireturn, 1) := by decide +kernel
theorem dX7_canSort_0 : decode cX7_canSort 0 = .ok (.iload_n 0, 1) := by decide +kernel
theorem dX7_canSort_1 : decode cX7_canSort 1 = .ok (.invokestatic 34, 3) := by decide +kernel
theorem dX7_canSort_4 : decode cX7_canSort 4 = .ok (.istore_n 2, 1) := by decide +kernel
theorem dX7_canSort_5 : decode cX7_canSort 5 = .ok (.iload_n 2, 1) := by decide +kernel
theorem dX7_canSort_6 : decode cX7_canSort 6 = .ok (.ifCond .ne 5, 3) := by decide +kernel
theorem dX7_canSort_9 : decode cX7_canSort 9 = .ok (.iconst 1, 1) := by decide +kernel
theorem dX7_canSort_10 : decode cX7_canSort 10 = .ok (.ireturn, 1) := by decide +kernel
theorem dX7_canSort_11 : decode cX7_canSort 11 = .ok (.iload_n 1, 1) := by decide +kernel
theorem dX7_canSort_12 : decode cX7_canSort 12 = .ok (.ifCond .le 10, 3) := by decide +kernel
theorem dX7_canSort_15 : decode cX7_canSort 15 = .ok (.iload_n 2, 1) := by decide +kernel
theorem dX7_canSort_16 : decode cX7_canSort 16 = .ok (.iconst 2, 1) := by decide +kernel
theorem dX7_canSort_17 : decode cX7_canSort 17 = .ok (.iload_n 1, 1) := by decide +kernel
theorem dX7_canSort_18 : decode cX7_canSort 18 = .ok (.imul, 1) := by decide +kernel
theorem dX7_canSort_19 : decode cX7_canSort 19 = .ok (.if_icmp .le 5, 3) := by decide +kernel
theorem dX7_canSort_22 : decode cX7_canSort 22 = .ok (.iconst 0, 1) := by decide +kernel
theorem dX7_canSort_23 : decode cX7_canSort 23 = .ok (.ireturn, 1) := by decide +kernel
theorem dX7_canSort_24 : decode cX7_canSort 24 = .ok (.iload_n 0, 1) := by decide +kernel
theorem dX7_canSort_25 : decode cX7_canSort 25 = .ok (.invokestatic 38, 3) := by decide +kernel
theorem dX7_canSort_28 : decode cX7_canSort 28 = .ok (.istore_n 3, 1) := by decide +kernel
theorem dX7_canSort_29 : decode cX7_canSort 29 = .ok (.iconst 0, 1) := by decide +kernel
theorem dX7_canSort_30 : decode cX7_canSort 30 = .ok (.istore 4, 2) := by decide +kernel
theorem dX7_canSort_32 : decode cX7_canSort 32 = .ok (.iload 4, 2) := by decide +kernel
theorem dX7_canSort_34 : decode cX7_canSort 34 = .ok (.bipush 6, 2) := by decide +kernel
theorem dX7_canSort_36 : decode cX7_canSort 36 = .ok (.if_icmp .ge 37, 3) := by decide +kernel
theorem dX7_canSort_39 : decode cX7_canSort 39 = .ok (.iload_n 0, 1) := by decide +kernel
theorem dX7_canSort_40 : decode cX7_canSort 40 = .ok (.iload_n 3, 1) := by decide +kernel
theorem dX7_canSort_41 : decode cX7_canSort 41 = .ok (.iload 4, 2) := by decide +kernel
theorem dX7_canSort_43 : decode cX7_canSort 43 = .ok (.invokestatic 41, 3) := by decide +kernel
theorem dX7_canSort_46 : decode cX7_canSort 46 = .ok (.istore 5, 2) := by decide +kernel
theorem dX7_canSort_48 : decode cX7_canSort 48 = .ok (.iload 5, 2) := by decide +kernel
theorem dX7_canSort_50 : decode cX7_canSort 50 = .ok (.iload_n 0, 1) := by decide +kernel
theorem dX7_canSort_51 : decode cX7_canSort 51 = .ok (.if_icmp .eq 16, 3) := by decide +kernel
theorem dX7_canSort_54 : decode cX7_canSort 54 = .ok (.iload 5, 2) := by decide +kernel
theorem dX7_canSort_56 : decode cX7_canSort 56 = .ok (.iload_n 1, 1) := by decide +kernel
theorem dX7_canSort_57 : decode cX7_canSort 57 = .ok (.iconst 1, 1) := by decide +kernel
theorem dX7_canSort_58 : decode cX7_canSort 58 = .ok (.isub, 1) := by decide +kernel
theorem dX7_canSort_59 : decode cX7_canSort 59 = .ok (.invokestatic 31, 3) := by decide +kernel
theorem dX7_canSort_62 : decode cX7_canSort 62 = .ok (.ifCond .eq 5, 3) := by decide +kernel
theorem dX7_canSort_65 : decode cX7_canSort 65 = .ok (.iconst 1, 1) := by decide +kernel
theorem dX7_canSort_66 : decode cX7_canSort 66 = .ok (.ireturn, 1) := by decide +kernel
theorem dX7_canSort_67 : decode cX7_canSort 67 = .ok (.iinc 4 1, 3) := by decide +kernel
theorem dX7_canSort_70 : decode cX7_canSort 70 = .ok (.goto (-38), 3) := by decide +kernel
theorem dX7_canSort_73 : decode cX7_canSort 73 = .ok (.iconst 0, 1) := by decide +kernel
theorem dX7_canSort_74 : decode cX7_canSort 74 = .ok (.ireturn, 1) := by decide +kernel
theorem dX7_firstMisplaced_0 : decode cX7_firstMisplaced 0 = .ok (.iconst 0, 1) := by decide +kernel
theorem dX7_firstMisplaced_1 : decode cX7_firstMisplaced 1 = .ok (.istore_n 1, 1) := by decide +kernel
theorem dX7_firstMisplaced_2 : decode cX7_firstMisplaced 2 = .ok (.iload_n 1, 1) := by decide +kernel
theorem dX7_firstMisplaced_3 : decode cX7_firstMisplaced 3 = .ok (.bipush 6, 2) := by decide +kernel
theorem dX7_firstMisplaced_5 : decode cX7_firstMisplaced 5 = .ok (.if_icmp .ge 23, 3) := by decide +kernel
theorem dX7_firstMisplaced_8 : decode cX7_firstMisplaced 8 = .ok (.iload_n 0, 1) := by decide +kernel
theorem dX7_firstMisplaced_9 : decode cX7_firstMisplaced 9 = .ok (.iload_n 1, 1) := by decide +kernel
theorem dX7_firstMisplaced_10 : decode cX7_firstMisplaced 10 = .ok (.invokestatic 25, 3) := by decide +kernel
theorem dX7_firstMisplaced_13 : decode cX7_firstMisplaced 13 = .ok (.iload_n 1, 1) := by decide +kernel
theorem dX7_firstMisplaced_14 : decode cX7_firstMisplaced 14 = .ok (.invokestatic 28, 3) := by decide +kernel
theorem dX7_firstMisplaced_17 : decode cX7_firstMisplaced 17 = .ok (.ifCond .eq 5, 3) := by decide +kernel
theorem dX7_firstMisplaced_20 : decode cX7_firstMisplaced 20 = .ok (.iload_n 1, 1) := by decide +kernel
theorem dX7_firstMisplaced_21 : decode cX7_firstMisplaced 21 = .ok (.ireturn, 1) := by decide +kernel
theorem dX7_firstMisplaced_22 : decode cX7_firstMisplaced 22 = .ok (.iinc 1 1, 3) := by decide +kernel
theorem dX7_firstMisplaced_25 : decode cX7_firstMisplaced 25 = .ok (.goto (-23), 3) := by decide +kernel
theorem dX7_firstMisplaced_28 : decode cX7_firstMisplaced 28 = .ok (.iconst 0, 1) := by decide +kernel
theorem dX7_firstMisplaced_29 : decode cX7_firstMisplaced 29 = .ok (.ireturn, 1) := by decide +kernel
theorem dX7_swapped_0 : decode cX7_swapped 0 = .ok (.iload_n 0, 1) := by decide +kernel
theorem dX7_swapped_1 : decode cX7_swapped 1 = .ok (.iload_n 1, 1) := by decide +kernel
theorem dX7_swapped_2 : decode cX7_swapped 2 = .ok (.invokestatic 25, 3) := by decide +kernel
theorem dX7_swapped_5 : decode cX7_swapped 5 = .ok (.iload_n 0, 1) := by decide +kernel
theorem dX7_swapped_6 : decode cX7_swapped 6 = .ok (.iload_n 2, 1) := by decide +kernel
theorem dX7_swapped_7 : decode cX7_swapped 7 = .ok (.invokestatic 25, 3) := by decide +kernel
theorem dX7_swapped_10 : decode cX7_swapped 10 = .ok (.ixor, 1) := by decide +kernel
theorem dX7_swapped_11 : decode cX7_swapped 11 = .ok (.istore_n 3, 1) := by decide +kernel
theorem dX7_swapped_12 : decode cX7_swapped 12 = .ok (.iload_n 0, 1) := by decide +kernel
theorem dX7_swapped_13 : decode cX7_swapped 13 = .ok (.iload_n 3, 1) := by decide +kernel
theorem dX7_swapped_14 : decode cX7_swapped 14 = .ok (.iconst 3, 1) := by decide +kernel
theorem dX7_swapped_15 : decode cX7_swapped 15 = .ok (.iload_n 1, 1) := by decide +kernel
theorem dX7_swapped_16 : decode cX7_swapped 16 = .ok (.imul, 1) := by decide +kernel
theorem dX7_swapped_17 : decode cX7_swapped 17 = .ok (.ishl, 1) := by decide +kernel
theorem dX7_swapped_18 : decode cX7_swapped 18 = .ok (.ixor, 1) := by decide +kernel
theorem dX7_swapped_19 : decode cX7_swapped 19 = .ok (.iload_n 3, 1) := by decide +kernel
theorem dX7_swapped_20 : decode cX7_swapped 20 = .ok (.iconst 3, 1) := by decide +kernel
theorem dX7_swapped_21 : decode cX7_swapped 21 = .ok (.iload_n 2, 1) := by decide +kernel
theorem dX7_swapped_22 : decode cX7_swapped 22 = .ok (.imul, 1) := by decide +kernel
theorem dX7_swapped_23 : decode cX7_swapped 23 = .ok (.ishl, 1) := by decide +kernel
theorem dX7_swapped_24 : decode cX7_swapped 24 = .ok (.ixor, 1) := by decide +kernel
theorem dX7_swapped_25 : decode cX7_swapped 25 = .ok (.ireturn, 1) := by decide +kernel
theorem dX7_swapsByCycles_0 : decode cX7_swapsByCycles 0 = .ok (.iconst 0, 1) := by decide +kernel
theorem dX7_swapsByCycles_1 : decode cX7_swapsByCycles 1 = .ok (.istore_n 1, 1) := by decide +kernel
theorem dX7_swapsByCycles_2 : decode cX7_swapsByCycles 2 = .ok (.iconst 0, 1) := by decide +kernel
theorem dX7_swapsByCycles_3 : decode cX7_swapsByCycles 3 = .ok (.istore_n 2, 1) := by decide +kernel
theorem dX7_swapsByCycles_4 : decode cX7_swapsByCycles 4 = .ok (.iconst 0, 1) := by decide +kernel
theorem dX7_swapsByCycles_5 : decode cX7_swapsByCycles 5 = .ok (.istore_n 3, 1) := by decide +kernel
theorem dX7_swapsByCycles_6 : decode cX7_swapsByCycles 6 = .ok (.iload_n 3, 1) := by decide +kernel
theorem dX7_swapsByCycles_7 : decode cX7_swapsByCycles 7 = .ok (.bipush 6, 2) := by decide +kernel
theorem dX7_swapsByCycles_9 : decode cX7_swapsByCycles 9 = .ok (.if_icmp .ge 49, 3) := by decide +kernel
theorem dX7_swapsByCycles_12 : decode cX7_swapsByCycles 12 = .ok (.iload_n 0, 1) := by decide +kernel
theorem dX7_swapsByCycles_13 : decode cX7_swapsByCycles 13 = .ok (.iload_n 3, 1) := by decide +kernel
theorem dX7_swapsByCycles_14 : decode cX7_swapsByCycles 14 = .ok (.invokestatic 25, 3) := by decide +kernel
theorem dX7_swapsByCycles_17 : decode cX7_swapsByCycles 17 = .ok (.iload_n 3, 1) := by decide +kernel
theorem dX7_swapsByCycles_18 : decode cX7_swapsByCycles 18 = .ok (.invokestatic 28, 3) := by decide +kernel
theorem dX7_swapsByCycles_21 : decode cX7_swapsByCycles 21 = .ok (.ifCond .eq 31, 3) := by decide +kernel
theorem dX7_swapsByCycles_24 : decode cX7_swapsByCycles 24 = .ok (.iload_n 2, 1) := by decide +kernel
theorem dX7_swapsByCycles_25 : decode cX7_swapsByCycles 25 = .ok (.iconst 1, 1) := by decide +kernel
theorem dX7_swapsByCycles_26 : decode cX7_swapsByCycles 26 = .ok (.iload_n 3, 1) := by decide +kernel
theorem dX7_swapsByCycles_27 : decode cX7_swapsByCycles 27 = .ok (.ishl, 1) := by decide +kernel
theorem dX7_swapsByCycles_28 : decode cX7_swapsByCycles 28 = .ok (.iand, 1) := by decide +kernel
theorem dX7_swapsByCycles_29 : decode cX7_swapsByCycles 29 = .ok (.ifCond .ne 23, 3) := by decide +kernel
theorem dX7_swapsByCycles_32 : decode cX7_swapsByCycles 32 = .ok (.iload_n 0, 1) := by decide +kernel
theorem dX7_swapsByCycles_33 : decode cX7_swapsByCycles 33 = .ok (.iload_n 3, 1) := by decide +kernel
theorem dX7_swapsByCycles_34 : decode cX7_swapsByCycles 34 = .ok (.invokestatic 45, 3) := by decide +kernel
theorem dX7_swapsByCycles_37 : decode cX7_swapsByCycles 37 = .ok (.istore 4, 2) := by decide +kernel
theorem dX7_swapsByCycles_39 : decode cX7_swapsByCycles 39 = .ok (.iload 4, 2) := by decide +kernel
theorem dX7_swapsByCycles_41 : decode cX7_swapsByCycles 41 = .ok (.ifCond .eq 6, 3) := by decide +kernel
theorem dX7_swapsByCycles_44 : decode cX7_swapsByCycles 44 = .ok (.iinc 1 1, 3) := by decide +kernel
theorem dX7_swapsByCycles_47 : decode cX7_swapsByCycles 47 = .ok (.iload_n 2, 1) := by decide +kernel
theorem dX7_swapsByCycles_48 : decode cX7_swapsByCycles 48 = .ok (.iload 4, 2) := by decide +kernel
theorem dX7_swapsByCycles_50 : decode cX7_swapsByCycles 50 = .ok (.ior, 1) := by decide +kernel
theorem dX7_swapsByCycles_51 : decode cX7_swapsByCycles 51 = .ok (.istore_n 2, 1) := by decide +kernel
theorem dX7_swapsByCycles_52 : decode cX7_swapsByCycles 52 = .ok (.iinc 3 1, 3) := by decide +kernel
theorem dX7_swapsByCycles_55 : decode cX7_swapsByCycles 55 = .ok (.goto (-49), 3) := by decide +kernel
theorem dX7_swapsByCycles_58 : decode cX7_swapsByCycles 58 = .ok (.iload_n 0, 1) := by decide +kernel
theorem dX7_swapsByCycles_59 : decode cX7_swapsByCycles 59 = .ok (.invokestatic 34, 3) := by decide +kernel
theorem dX7_swapsByCycles_62 : decode cX7_swapsByCycles 62 = .ok (.iload_n 1, 1) := by decide +kernel
theorem dX7_swapsByCycles_63 : decode cX7_swapsByCycles 63 = .ok (.isub, 1) := by decide +kernel
theorem dX7_swapsByCycles_64 : decode cX7_swapsByCycles 64 = .ok (.ireturn, 1) := by decide +kernel
theorem dX7_closedCycleFrom_0 : decode cX7_closedCycleFrom 0 = .ok (.iconst 0, 1) := by decide +kernel
theorem dX7_closedCycleFrom_1 : decode cX7_closedCycleFrom 1 = .ok (.istore_n 2, 1) := by decide +kernel
theorem dX7_closedCycleFrom_2 : decode cX7_closedCycleFrom 2 = .ok (.iload_n 1, 1) := by decide +kernel
theorem dX7_closedCycleFrom_3 : decode cX7_closedCycleFrom 3 = .ok (.istore_n 3, 1) := by decide +kernel
theorem dX7_closedCycleFrom_4 : decode cX7_closedCycleFrom 4 = .ok (.iconst 0, 1) := by decide +kernel
theorem dX7_closedCycleFrom_5 : decode cX7_closedCycleFrom 5 = .ok (.istore 4, 2) := by decide +kernel
theorem dX7_closedCycleFrom_7 : decode cX7_closedCycleFrom 7 = .ok (.iload 4, 2) := by decide +kernel
theorem dX7_closedCycleFrom_9 : decode cX7_closedCycleFrom 9 = .ok (.bipush 6, 2) := by decide +kernel
theorem dX7_closedCycleFrom_11 : decode cX7_closedCycleFrom 11 = .ok (.if_icmp .ge 41, 3) := by decide +kernel
theorem dX7_closedCycleFrom_14 : decode cX7_closedCycleFrom 14 = .ok (.iload_n 2, 1) := by decide +kernel
theorem dX7_closedCycleFrom_15 : decode cX7_closedCycleFrom 15 = .ok (.iconst 1, 1) := by decide +kernel
theorem dX7_closedCycleFrom_16 : decode cX7_closedCycleFrom 16 = .ok (.iload_n 3, 1) := by decide +kernel
theorem dX7_closedCycleFrom_17 : decode cX7_closedCycleFrom 17 = .ok (.ishl, 1) := by decide +kernel
theorem dX7_closedCycleFrom_18 : decode cX7_closedCycleFrom 18 = .ok (.ior, 1) := by decide +kernel
theorem dX7_closedCycleFrom_19 : decode cX7_closedCycleFrom 19 = .ok (.istore_n 2, 1) := by decide +kernel
theorem dX7_closedCycleFrom_20 : decode cX7_closedCycleFrom 20 = .ok (.iload_n 0, 1) := by decide +kernel
theorem dX7_closedCycleFrom_21 : decode cX7_closedCycleFrom 21 = .ok (.iload_n 3, 1) := by decide +kernel
theorem dX7_closedCycleFrom_22 : decode cX7_closedCycleFrom 22 = .ok (.invokestatic 25, 3) := by decide +kernel
theorem dX7_closedCycleFrom_25 : decode cX7_closedCycleFrom 25 = .ok (.istore 5, 2) := by decide +kernel
theorem dX7_closedCycleFrom_27 : decode cX7_closedCycleFrom 27 = .ok (.iload 5, 2) := by decide +kernel
theorem dX7_closedCycleFrom_29 : decode cX7_closedCycleFrom 29 = .ok (.ifCond .ne 5, 3) := by decide +kernel
theorem dX7_closedCycleFrom_32 : decode cX7_closedCycleFrom 32 = .ok (.iconst 0, 1) := by decide +kernel
theorem dX7_closedCycleFrom_33 : decode cX7_closedCycleFrom 33 = .ok (.ireturn, 1) := by decide +kernel
theorem dX7_closedCycleFrom_34 : decode cX7_closedCycleFrom 34 = .ok (.iload 5, 2) := by decide +kernel
theorem dX7_closedCycleFrom_36 : decode cX7_closedCycleFrom 36 = .ok (.iconst 1, 1) := by decide +kernel
theorem dX7_closedCycleFrom_37 : decode cX7_closedCycleFrom 37 = .ok (.isub, 1) := by decide +kernel
theorem dX7_closedCycleFrom_38 : decode cX7_closedCycleFrom 38 = .ok (.istore_n 3, 1) := by decide +kernel
theorem dX7_closedCycleFrom_39 : decode cX7_closedCycleFrom 39 = .ok (.iload_n 3, 1) := by decide +kernel
theorem dX7_closedCycleFrom_40 : decode cX7_closedCycleFrom 40 = .ok (.iload_n 1, 1) := by decide +kernel
theorem dX7_closedCycleFrom_41 : decode cX7_closedCycleFrom 41 = .ok (.if_icmp .ne 5, 3) := by decide +kernel
theorem dX7_closedCycleFrom_44 : decode cX7_closedCycleFrom 44 = .ok (.iload_n 2, 1) := by decide +kernel
theorem dX7_closedCycleFrom_45 : decode cX7_closedCycleFrom 45 = .ok (.ireturn, 1) := by decide +kernel
theorem dX7_closedCycleFrom_46 : decode cX7_closedCycleFrom 46 = .ok (.iinc 4 1, 3) := by decide +kernel
theorem dX7_closedCycleFrom_49 : decode cX7_closedCycleFrom 49 = .ok (.goto (-42), 3) := by decide +kernel
theorem dX7_closedCycleFrom_52 : decode cX7_closedCycleFrom 52 = .ok (.iconst 0, 1) := by decide +kernel
theorem dX7_closedCycleFrom_53 : decode cX7_closedCycleFrom 53 = .ok (.ireturn, 1) := by decide +kernel
theorem dX8_init_0 : decode cX8_init 0 = .ok (.aload_n 0, 1) := by decide +kernel
theorem dX8_init_1 : decode cX8_init 1 = .ok (.invokespecial 3, 3) := by decide +kernel
theorem dX8_init_4 : decode cX8_init 4 = .ok (.aload_n 0, 1) := by decide +kernel
theorem dX8_init_5 : decode cX8_init 5 = .ok (.new 9, 3) := by decide +kernel
theorem dX8_init_8 : decode cX8_init 8 = .ok (.dup, 1) := by decide +kernel
theorem dX8_init_9 : decode cX8_init 9 = .ok (.invokespecial 11, 3) := by decide +kernel
theorem dX8_init_12 : decode cX8_init 12 = .ok (.putfield 12, 3) := by decide +kernel
theorem dX8_init_15 : decode cX8_init 15 = .ok (.aload_n 0, 1) := by decide +kernel
theorem dX8_init_16 : decode cX8_init 16 = .ok (.new 18, 3) := by decide +kernel
theorem dX8_init_19 : decode cX8_init 19 = .ok (.dup, 1) := by decide +kernel
theorem dX8_init_20 : decode cX8_init 20 = .ok (.invokespecial 20, 3) := by decide +kernel
theorem dX8_init_23 : decode cX8_init 23 = .ok (.putfield 21, 3) := by decide +kernel
theorem dX8_init_26 : decode cX8_init 26 = .ok (.aload_n 0, 1) := by decide +kernel
theorem dX8_init_27 : decode cX8_init 27 = .ok (.new 25, 3) := by decide +kernel
theorem dX8_init_30 : decode cX8_init 30 = .ok (.dup, 1) := by decide +kernel
theorem dX8_init_31 : decode cX8_init 31 = .ok (.invokespecial 27, 3) := by decide +kernel
theorem dX8_init_34 : decode cX8_init 34 = .ok (.putfield 28, 3) := by decide +kernel
theorem dX8_init_37 : decode cX8_init 37 = .ok (.aload_n 0, 1) := by decide +kernel
theorem dX8_init_38 : decode cX8_init 38 = .ok (.iconst 0, 1) := by decide +kernel
theorem dX8_init_39 : decode cX8_init 39 = .ok (.putfield 32, 3) := by decide +kernel
theorem dX8_init_42 : decode cX8_init 42 = .ok (.aload_n 0, 1) := by decide +kernel
theorem dX8_init_43 : decode cX8_init 43 = .ok (.bipush 20, 2) := by decide +kernel
theorem dX8_init_45 : decode cX8_init 45 = .ok (.putfield 36, 3) := by decide +kernel
theorem dX8_init_48 : decode cX8_init 48 = .ok (.aload_n 0, 1) := by decide +kernel
theorem dX8_init_49 : decode cX8_init 49 = .ok (.iconst 0, 1) := by decide +kernel
theorem dX8_init_50 : decode cX8_init 50 = .ok (.putfield 39, 3) := by decide +kernel
theorem dX8_init_53 : decode cX8_init 53 = .ok (.aload_n 0, 1) := by decide +kernel
theorem dX8_init_54 : decode cX8_init 54 = .ok (.iconst 0, 1) := by decide +kernel
theorem dX8_init_55 : decode cX8_init 55 = .ok (.putfield 42, 3) := by decide +kernel
theorem dX8_init_58 : decode cX8_init 58 = .ok (.aload_n 0, 1) := by decide +kernel
theorem dX8_init_59 : decode cX8_init 59 = .ok (.iconst 0, 1) := by decide +kernel
theorem dX8_init_60 : decode cX8_init 60 = .ok (.putfield 45, 3) := by decide +kernel
theorem dX8_init_63 : decode cX8_init 63 = .ok (.aload_n 0, 1) := by decide +kernel
theorem dX8_init_64 : decode cX8_init 64 = .ok (.iconst 0, 1) := by decide +kernel
theorem dX8_init_65 : decode cX8_init 65 = .ok (.putfield 48, 3) := by decide +kernel
theorem dX8_init_68 : decode cX8_init 68 = .ok (.aload_n 0, 1) := by decide +kernel
theorem dX8_init_69 : decode cX8_init 69 = .ok (.iconst 0, 1) := by decide +kernel
theorem dX8_init_70 : decode cX8_init 70 = .ok (.putfield 51, 3) := by decide +kernel
theorem dX8_init_73 : decode cX8_init 73 = .ok (.return_, 1) := by decide +kernel
theorem dX8_copyFrom_0 : decode cX8_copyFrom 0 = .ok (.aload_n 0, 1) := by decide +kernel
theorem dX8_copyFrom_1 : decode cX8_copyFrom 1 = .ok (.getfield 12, 3) := by decide +kernel
theorem dX8_copyFrom_4 : decode cX8_copyFrom 4 = .ok (.aload_n 1, 1) := by decide +kernel
theorem dX8_copyFrom_5 : decode cX8_copyFrom 5 = .ok (.getfield 12, 3) := by decide +kernel
theorem dX8_copyFrom_8 : decode cX8_copyFrom 8 = .ok (.invokevirtual 54, 3) := by decide +kernel
theorem dX8_copyFrom_11 : decode cX8_copyFrom 11 = .ok (.aload_n 0, 1) := by decide +kernel
theorem dX8_copyFrom_12 : decode cX8_copyFrom 12 = .ok (.getfield 21, 3) := by decide +kernel
theorem dX8_copyFrom_15 : decode cX8_copyFrom 15 = .ok (.aload_n 1, 1) := by decide +kernel
theorem dX8_copyFrom_16 : decode cX8_copyFrom 16 = .ok (.getfield 21, 3) := by decide +kernel
theorem dX8_copyFrom_19 : decode cX8_copyFrom 19 = .ok (.invokevirtual 58, 3) := by decide +kernel
theorem dX8_copyFrom_22 : decode cX8_copyFrom 22 = .ok (.aload_n 0, 1) := by decide +kernel
theorem dX8_copyFrom_23 : decode cX8_copyFrom 23 = .ok (.getfield 28, 3) := by decide +kernel
theorem dX8_copyFrom_26 : decode cX8_copyFrom 26 = .ok (.aload_n 1, 1) := by decide +kernel
theorem dX8_copyFrom_27 : decode cX8_copyFrom 27 = .ok (.getfield 28, 3) := by decide +kernel
theorem dX8_copyFrom_30 : decode cX8_copyFrom 30 = .ok (.invokevirtual 61, 3) := by decide +kernel
theorem dX8_copyFrom_33 : decode cX8_copyFrom 33 = .ok (.aload_n 0, 1) := by decide +kernel
theorem dX8_copyFrom_34 : decode cX8_copyFrom 34 = .ok (.aload_n 1, 1) := by decide +kernel
theorem dX8_copyFrom_35 : decode cX8_copyFrom 35 = .ok (.getfield 32, 3) := by decide +kernel
theorem dX8_copyFrom_38 : decode cX8_copyFrom 38 = .ok (.putfield 32, 3) := by decide +kernel
theorem dX8_copyFrom_41 : decode cX8_copyFrom 41 = .ok (.aload_n 0, 1) := by decide +kernel
theorem dX8_copyFrom_42 : decode cX8_copyFrom 42 = .ok (.aload_n 1, 1) := by decide +kernel
theorem dX8_copyFrom_43 : decode cX8_copyFrom 43 = .ok (.getfield 36, 3) := by decide +kernel
theorem dX8_copyFrom_46 : decode cX8_copyFrom 46 = .ok (.putfield 36, 3) := by decide +kernel
theorem dX8_copyFrom_49 : decode cX8_copyFrom 49 = .ok (.aload_n 0, 1) := by decide +kernel
theorem dX8_copyFrom_50 : decode cX8_copyFrom 50 = .ok (.aload_n 1, 1) := by decide +kernel
theorem dX8_copyFrom_51 : decode cX8_copyFrom 51 = .ok (.getfield 39, 3) := by decide +kernel
theorem dX8_copyFrom_54 : decode cX8_copyFrom 54 = .ok (.putfield 39, 3) := by decide +kernel
theorem dX8_copyFrom_57 : decode cX8_copyFrom 57 = .ok (.aload_n 0, 1) := by decide +kernel
theorem dX8_copyFrom_58 : decode cX8_copyFrom 58 = .ok (.aload_n 1, 1) := by decide +kernel
theorem dX8_copyFrom_59 : decode cX8_copyFrom 59 = .ok (.getfield 42, 3) := by decide +kernel
theorem dX8_copyFrom_62 : decode cX8_copyFrom 62 = .ok (.putfield 42, 3) := by decide +kernel
theorem dX8_copyFrom_65 : decode cX8_copyFrom 65 = .ok (.aload_n 0, 1) := by decide +kernel
theorem dX8_copyFrom_66 : decode cX8_copyFrom 66 = .ok (.aload_n 1, 1) := by decide +kernel
theorem dX8_copyFrom_67 : decode cX8_copyFrom 67 = .ok (.getfield 45, 3) := by decide +kernel
theorem dX8_copyFrom_70 : decode cX8_copyFrom 70 = .ok (.putfield 45, 3) := by decide +kernel
theorem dX8_copyFrom_73 : decode cX8_copyFrom 73 = .ok (.aload_n 0, 1) := by decide +kernel
theorem dX8_copyFrom_74 : decode cX8_copyFrom 74 = .ok (.aload_n 1, 1) := by decide +kernel
theorem dX8_copyFrom_75 : decode cX8_copyFrom 75 = .ok (.getfield 48, 3) := by decide +kernel
theorem dX8_copyFrom_78 : decode cX8_copyFrom 78 = .ok (.putfield 48, 3) := by decide +kernel
theorem dX8_copyFrom_81 : decode cX8_copyFrom 81 = .ok (.aload_n 0, 1) := by decide +kernel
theorem dX8_copyFrom_82 : decode cX8_copyFrom 82 = .ok (.aload_n 1, 1) := by decide +kernel
theorem dX8_copyFrom_83 : decode cX8_copyFrom 83 = .ok (.getfield 51, 3) := by decide +kernel
theorem dX8_copyFrom_86 : decode cX8_copyFrom 86 = .ok (.putfield 51, 3) := by decide +kernel
theorem dX8_copyFrom_89 : decode cX8_copyFrom 89 = .ok (.return_, 1) := by decide +kernel
theorem dX8_enlist_0 : decode cX8_enlist 0 = .ok (.iload_n 1, 1) := by decide +kernel
theorem dX8_enlist_1 : decode cX8_enlist 1 = .ok (.ifCond .lt 9, 3) := by decide +kernel
theorem dX8_enlist_4 : decode cX8_enlist 4 = .ok (.iload_n 1, 1) := by decide +kernel
theorem dX8_enlist_5 : decode cX8_enlist 5 = .ok (.bipush 60, 2) := by decide +kernel
theorem dX8_enlist_7 : decode cX8_enlist 7 = .ok (.if_icmp .le 5, 3) := by decide +kernel
theorem dX8_enlist_10 : decode cX8_enlist 10 = .ok (.iconst (-1), 1) := by decide +kernel
theorem dX8_enlist_11 : decode cX8_enlist 11 = .ok (.ireturn, 1) := by decide +kernel
theorem dX8_enlist_12 : decode cX8_enlist 12 = .ok (.iload_n 2, 1) := by decide +kernel
theorem dX8_enlist_13 : decode cX8_enlist 13 = .ok (.invokestatic 64, 3) := by decide +kernel
theorem dX8_enlist_16 : decode cX8_enlist 16 = .ok (.ifCond .ne 6, 3) := by decide +kernel
theorem dX8_enlist_19 : decode cX8_enlist 19 = .ok (.bipush (-2), 2) := by decide +kernel
theorem dX8_enlist_21 : decode cX8_enlist 21 = .ok (.ireturn, 1) := by decide +kernel
theorem dX8_enlist_22 : decode cX8_enlist 22 = .ok (.aload_n 0, 1) := by decide +kernel
theorem dX8_enlist_23 : decode cX8_enlist 23 = .ok (.getfield 12, 3) := by decide +kernel
theorem dX8_enlist_26 : decode cX8_enlist 26 = .ok (.iload_n 2, 1) := by decide +kernel
theorem dX8_enlist_27 : decode cX8_enlist 27 = .ok (.invokevirtual 68, 3) := by decide +kernel
theorem dX8_enlist_30 : decode cX8_enlist 30 = .ok (.istore_n 3, 1) := by decide +kernel
theorem dX8_enlist_31 : decode cX8_enlist 31 = .ok (.aload_n 0, 1) := by decide +kernel
theorem dX8_enlist_32 : decode cX8_enlist 32 = .ok (.getfield 12, 3) := by decide +kernel
theorem dX8_enlist_35 : decode cX8_enlist 35 = .ok (.invokevirtual 72, 3) := by decide +kernel
theorem dX8_enlist_38 : decode cX8_enlist 38 = .ok (.ifCond .ne 8, 3) := by decide +kernel
theorem dX8_enlist_41 : decode cX8_enlist 41 = .ok (.iload_n 3, 1) := by decide +kernel
theorem dX8_enlist_42 : decode cX8_enlist 42 = .ok (.iconst (-1), 1) := by decide +kernel
theorem dX8_enlist_43 : decode cX8_enlist 43 = .ok (.if_icmp .ne 6, 3) := by decide +kernel
theorem dX8_enlist_46 : decode cX8_enlist 46 = .ok (.bipush (-3), 2) := by decide +kernel
theorem dX8_enlist_48 : decode cX8_enlist 48 = .ok (.ireturn, 1) := by decide +kernel
theorem dX8_enlist_49 : decode cX8_enlist 49 = .ok (.aload_n 0, 1) := by decide +kernel
theorem dX8_enlist_50 : decode cX8_enlist 50 = .ok (.getfield 12, 3) := by decide +kernel
theorem dX8_enlist_53 : decode cX8_enlist 53 = .ok (.iload_n 1, 1) := by decide +kernel
theorem dX8_enlist_54 : decode cX8_enlist 54 = .ok (.invokevirtual 76, 3) := by decide +kernel
theorem dX8_enlist_57 : decode cX8_enlist 57 = .ok (.istore 4, 2) := by decide +kernel
theorem dX8_enlist_59 : decode cX8_enlist 59 = .ok (.aload_n 0, 1) := by decide +kernel
theorem dX8_enlist_60 : decode cX8_enlist 60 = .ok (.getfield 12, 3) := by decide +kernel
theorem dX8_enlist_63 : decode cX8_enlist 63 = .ok (.iload_n 2, 1) := by decide +kernel
theorem dX8_enlist_64 : decode cX8_enlist 64 = .ok (.iload_n 3, 1) := by decide +kernel
theorem dX8_enlist_65 : decode cX8_enlist 65 = .ok (.iload 4, 2) := by decide +kernel
theorem dX8_enlist_67 : decode cX8_enlist 67 = .ok (.invokevirtual 79, 3) := by decide +kernel
theorem dX8_enlist_70 : decode cX8_enlist 70 = .ok (.iload 4, 2) := by decide +kernel
theorem dX8_enlist_72 : decode cX8_enlist 72 = .ok (.ireturn, 1) := by decide +kernel
theorem dX8_carry_0 : decode cX8_carry 0 = .ok (.aload_n 0, 1) := by decide +kernel
theorem dX8_carry_1 : decode cX8_carry 1 = .ok (.getfield 12, 3) := by decide +kernel
theorem dX8_carry_4 : decode cX8_carry 4 = .ok (.iload_n 1, 1) := by decide +kernel
theorem dX8_carry_5 : decode cX8_carry 5 = .ok (.invokevirtual 83, 3) := by decide +kernel
theorem dX8_carry_8 : decode cX8_carry 8 = .ok (.ifCond .eq 10, 3) := by decide +kernel
theorem dX8_carry_11 : decode cX8_carry 11 = .ok (.iload_n 2, 1) := by decide +kernel
theorem dX8_carry_12 : decode cX8_carry 12 = .ok (.invokestatic 64, 3) := by decide +kernel
theorem dX8_carry_15 : decode cX8_carry 15 = .ok (.ifCond .ne 6, 3) := by decide +kernel
theorem dX8_carry_18 : decode cX8_carry 18 = .ok (.bipush (-2), 2) := by decide +kernel
theorem dX8_carry_20 : decode cX8_carry 20 = .ok (.ireturn, 1) := by decide +kernel
theorem dX8_carry_21 : decode cX8_carry 21 = .ok (.aload_n 0, 1) := by decide +kernel
theorem dX8_carry_22 : decode cX8_carry 22 = .ok (.getfield 12, 3) := by decide +kernel
theorem dX8_carry_25 : decode cX8_carry 25 = .ok (.iload_n 2, 1) := by decide +kernel
theorem dX8_carry_26 : decode cX8_carry 26 = .ok (.invokevirtual 68, 3) := by decide +kernel
theorem dX8_carry_29 : decode cX8_carry 29 = .ok (.istore_n 3, 1) := by decide +kernel
theorem dX8_carry_30 : decode cX8_carry 30 = .ok (.aload_n 0, 1) := by decide +kernel
theorem dX8_carry_31 : decode cX8_carry 31 = .ok (.getfield 12, 3) := by decide +kernel
theorem dX8_carry_34 : decode cX8_carry 34 = .ok (.iload_n 1, 1) := by decide +kernel
theorem dX8_carry_35 : decode cX8_carry 35 = .ok (.invokevirtual 86, 3) := by decide +kernel
theorem dX8_carry_38 : decode cX8_carry 38 = .ok (.ifCond .ne 23, 3) := by decide +kernel
theorem dX8_carry_41 : decode cX8_carry 41 = .ok (.aload_n 0, 1) := by decide +kernel
theorem dX8_carry_42 : decode cX8_carry 42 = .ok (.getfield 12, 3) := by decide +kernel
theorem dX8_carry_45 : decode cX8_carry 45 = .ok (.iload_n 1, 1) := by decide +kernel
theorem dX8_carry_46 : decode cX8_carry 46 = .ok (.invokevirtual 89, 3) := by decide +kernel
theorem dX8_carry_49 : decode cX8_carry 49 = .ok (.bipush 6, 2) := by decide +kernel
theorem dX8_carry_51 : decode cX8_carry 51 = .ok (.idiv, 1) := by decide +kernel
theorem dX8_carry_52 : decode cX8_carry 52 = .ok (.iload_n 2, 1) := by decide +kernel
theorem dX8_carry_53 : decode cX8_carry 53 = .ok (.if_icmp .eq 8, 3) := by decide +kernel
theorem dX8_carry_56 : decode cX8_carry 56 = .ok (.iload_n 3, 1) := by decide +kernel
theorem dX8_carry_57 : decode cX8_carry 57 = .ok (.iconst (-1), 1) := by decide +kernel
theorem dX8_carry_58 : decode cX8_carry 58 = .ok (.if_icmp .ne 6, 3) := by decide +kernel
theorem dX8_carry_61 : decode cX8_carry 61 = .ok (.bipush (-3), 2) := by decide +kernel
theorem dX8_carry_63 : decode cX8_carry 63 = .ok (.ireturn, 1) := by decide +kernel
theorem dX8_carry_64 : decode cX8_carry 64 = .ok (.aload_n 0, 1) := by decide +kernel
theorem dX8_carry_65 : decode cX8_carry 65 = .ok (.getfield 12, 3) := by decide +kernel
theorem dX8_carry_68 : decode cX8_carry 68 = .ok (.iload_n 1, 1) := by decide +kernel
theorem dX8_carry_69 : decode cX8_carry 69 = .ok (.invokevirtual 92, 3) := by decide +kernel
theorem dX8_carry_72 : decode cX8_carry 72 = .ok (.aload_n 0, 1) := by decide +kernel
theorem dX8_carry_73 : decode cX8_carry 73 = .ok (.getfield 12, 3) := by decide +kernel
theorem dX8_carry_76 : decode cX8_carry 76 = .ok (.iload_n 2, 1) := by decide +kernel
theorem dX8_carry_77 : decode cX8_carry 77 = .ok (.iload_n 3, 1) := by decide +kernel
theorem dX8_carry_78 : decode cX8_carry 78 = .ok (.iload_n 1, 1) := by decide +kernel
theorem dX8_carry_79 : decode cX8_carry 79 = .ok (.invokevirtual 79, 3) := by decide +kernel
theorem dX8_carry_82 : decode cX8_carry 82 = .ok (.iload_n 3, 1) := by decide +kernel
theorem dX8_carry_83 : decode cX8_carry 83 = .ok (.ireturn, 1) := by decide +kernel
theorem dX8_exchange_0 : decode cX8_exchange 0 = .ok (.iload_n 1, 1) := by decide +kernel
theorem dX8_exchange_1 : decode cX8_exchange 1 = .ok (.invokestatic 64, 3) := by decide +kernel
theorem dX8_exchange_4 : decode cX8_exchange 4 = .ok (.ifCond .eq 17, 3) := by decide +kernel
theorem dX8_exchange_7 : decode cX8_exchange 7 = .ok (.iload_n 2, 1) := by decide +kernel
theorem dX8_exchange_8 : decode cX8_exchange 8 = .ok (.invokestatic 96, 3) := by decide +kernel
theorem dX8_exchange_11 : decode cX8_exchange 11 = .ok (.ifCond .eq 10, 3) := by decide +kernel
theorem dX8_exchange_14 : decode cX8_exchange 14 = .ok (.iload_n 3, 1) := by decide +kernel
theorem dX8_exchange_15 : decode cX8_exchange 15 = .ok (.invokestatic 96, 3) := by decide +kernel
theorem dX8_exchange_18 : decode cX8_exchange 18 = .ok (.ifCond .ne 6, 3) := by decide +kernel
theorem dX8_exchange_21 : decode cX8_exchange 21 = .ok (.bipush (-2), 2) := by decide +kernel
theorem dX8_exchange_23 : decode cX8_exchange 23 = .ok (.ireturn, 1) := by decide +kernel
theorem dX8_exchange_24 : decode cX8_exchange 24 = .ok (.iload_n 2, 1) := by decide +kernel
theorem dX8_exchange_25 : decode cX8_exchange 25 = .ok (.iload_n 3, 1) := by decide +kernel
theorem dX8_exchange_26 : decode cX8_exchange 26 = .ok (.if_icmp .ne 5, 3) := by decide +kernel
theorem dX8_exchange_29 : decode cX8_exchange 29 = .ok (.iconst (-1), 1) := by decide +kernel
theorem dX8_exchange_30 : decode cX8_exchange 30 = .ok (.ireturn, 1) := by decide +kernel
theorem dX8_exchange_31 : decode cX8_exchange 31 = .ok (.aload_n 0, 1) := by decide +kernel
theorem dX8_exchange_32 : decode cX8_exchange 32 = .ok (.getfield 12, 3) := by decide +kernel
theorem dX8_exchange_35 : decode cX8_exchange 35 = .ok (.iload_n 1, 1) := by decide +kernel
theorem dX8_exchange_36 : decode cX8_exchange 36 = .ok (.iload_n 2, 1) := by decide +kernel
theorem dX8_exchange_37 : decode cX8_exchange 37 = .ok (.invokevirtual 99, 3) := by decide +kernel
theorem dX8_exchange_40 : decode cX8_exchange 40 = .ok (.istore 4, 2) := by decide +kernel
theorem dX8_exchange_42 : decode cX8_exchange 42 = .ok (.aload_n 0, 1) := by decide +kernel
theorem dX8_exchange_43 : decode cX8_exchange 43 = .ok (.getfield 12, 3) := by decide +kernel
theorem dX8_exchange_46 : decode cX8_exchange 46 = .ok (.iload_n 1, 1) := by decide +kernel
theorem dX8_exchange_47 : decode cX8_exchange 47 = .ok (.iload_n 2, 1) := by decide +kernel
theorem dX8_exchange_48 : decode cX8_exchange 48 = .ok (.aload_n 0, 1) := by decide +kernel
theorem dX8_exchange_49 : decode cX8_exchange 49 = .ok (.getfield 12, 3) := by decide +kernel
theorem dX8_exchange_52 : decode cX8_exchange 52 = .ok (.iload_n 1, 1) := by decide +kernel
theorem dX8_exchange_53 : decode cX8_exchange 53 = .ok (.iload_n 3, 1) := by decide +kernel
theorem dX8_exchange_54 : decode cX8_exchange 54 = .ok (.invokevirtual 99, 3) := by decide +kernel
theorem dX8_exchange_57 : decode cX8_exchange 57 = .ok (.invokevirtual 79, 3) := by decide +kernel
theorem dX8_exchange_60 : decode cX8_exchange 60 = .ok (.aload_n 0, 1) := by decide +kernel
theorem dX8_exchange_61 : decode cX8_exchange 61 = .ok (.getfield 12, 3) := by decide +kernel
theorem dX8_exchange_64 : decode cX8_exchange 64 = .ok (.iload_n 1, 1) := by decide +kernel
theorem dX8_exchange_65 : decode cX8_exchange 65 = .ok (.iload_n 3, 1) := by decide +kernel
theorem dX8_exchange_66 : decode cX8_exchange 66 = .ok (.iload 4, 2) := by decide +kernel
theorem dX8_exchange_68 : decode cX8_exchange 68 = .ok (.invokevirtual 79, 3) := by decide +kernel
theorem dX8_exchange_71 : decode cX8_exchange 71 = .ok (.aload_n 0, 1) := by decide +kernel
theorem dX8_exchange_72 : decode cX8_exchange 72 = .ok (.getfield 12, 3) := by decide +kernel
theorem dX8_exchange_75 : decode cX8_exchange 75 = .ok (.iload_n 1, 1) := by decide +kernel
theorem dX8_exchange_76 : decode cX8_exchange 76 = .ok (.invokestatic 103, 3) := by decide +kernel
theorem dX8_exchange_79 : decode cX8_exchange 79 = .ok (.invokestatic 109, 3) := by decide +kernel
theorem dX8_exchange_82 : decode cX8_exchange 82 = .ok (.ireturn, 1) := by decide +kernel
theorem dX8_ask_0 : decode cX8_ask 0 = .ok (.iload_n 1, 1) := by decide +kernel
theorem dX8_ask_1 : decode cX8_ask 1 = .ok (.ifCond .lt 19, 3) := by decide +kernel
theorem dX8_ask_4 : decode cX8_ask 4 = .ok (.iload_n 1, 1) := by decide +kernel
theorem dX8_ask_5 : decode cX8_ask 5 = .ok (.bipush 9, 2) := by decide +kernel
theorem dX8_ask_7 : decode cX8_ask 7 = .ok (.if_icmp .gt 13, 3) := by decide +kernel
theorem dX8_ask_10 : decode cX8_ask 10 = .ok (.iload_n 2, 1) := by decide +kernel
theorem dX8_ask_11 : decode cX8_ask 11 = .ok (.ifCond .lt 9, 3) := by decide +kernel
theorem dX8_ask_14 : decode cX8_ask 14 = .ok (.iload_n 2, 1) := by decide +kernel
theorem dX8_ask_15 : decode cX8_ask 15 = .ok (.bipush 60, 2) := by decide +kernel
theorem dX8_ask_17 : decode cX8_ask 17 = .ok (.if_icmp .le 5, 3) := by decide +kernel
theorem dX8_ask_20 : decode cX8_ask 20 = .ok (.iconst (-1), 1) := by decide +kernel
theorem dX8_ask_21 : decode cX8_ask 21 = .ok (.ireturn, 1) := by decide +kernel
theorem dX8_ask_22 : decode cX8_ask 22 = .ok (.iload_n 3, 1) := by decide +kernel
theorem dX8_ask_23 : decode cX8_ask 23 = .ok (.ifCond .lt 9, 3) := by decide +kernel
theorem dX8_ask_26 : decode cX8_ask 26 = .ok (.iload_n 3, 1) := by decide +kernel
theorem dX8_ask_27 : decode cX8_ask 27 = .ok (.bipush 12, 2) := by decide +kernel
theorem dX8_ask_29 : decode cX8_ask 29 = .ok (.if_icmp .le 5, 3) := by decide +kernel
theorem dX8_ask_32 : decode cX8_ask 32 = .ok (.iconst (-1), 1) := by decide +kernel
theorem dX8_ask_33 : decode cX8_ask 33 = .ok (.ireturn, 1) := by decide +kernel
theorem dX8_ask_34 : decode cX8_ask 34 = .ok (.iload 4, 2) := by decide +kernel
theorem dX8_ask_36 : decode cX8_ask 36 = .ok (.aload_n 0, 1) := by decide +kernel
theorem dX8_ask_37 : decode cX8_ask 37 = .ok (.getfield 32, 3) := by decide +kernel
theorem dX8_ask_40 : decode cX8_ask 40 = .ok (.if_icmp .le 22, 3) := by decide +kernel
theorem dX8_ask_43 : decode cX8_ask 43 = .ok (.iload 5, 2) := by decide +kernel
theorem dX8_ask_45 : decode cX8_ask 45 = .ok (.iload 4, 2) := by decide +kernel
theorem dX8_ask_47 : decode cX8_ask 47 = .ok (.if_icmp .lt 15, 3) := by decide +kernel
theorem dX8_ask_50 : decode cX8_ask 50 = .ok (.iload 5, 2) := by decide +kernel
theorem dX8_ask_52 : decode cX8_ask 52 = .ok (.aload_n 0, 1) := by decide +kernel
theorem dX8_ask_53 : decode cX8_ask 53 = .ok (.getfield 32, 3) := by decide +kernel
theorem dX8_ask_56 : decode cX8_ask 56 = .ok (.bipush 40, 2) := by decide +kernel
theorem dX8_ask_58 : decode cX8_ask 58 = .ok (.iadd, 1) := by decide +kernel
theorem dX8_ask_59 : decode cX8_ask 59 = .ok (.if_icmp .le 5, 3) := by decide +kernel
theorem dX8_ask_62 : decode cX8_ask 62 = .ok (.iconst (-1), 1) := by decide +kernel
theorem dX8_ask_63 : decode cX8_ask 63 = .ok (.ireturn, 1) := by decide +kernel
theorem dX8_ask_64 : decode cX8_ask 64 = .ok (.aload_n 0, 1) := by decide +kernel
theorem dX8_ask_65 : decode cX8_ask 65 = .ok (.getfield 21, 3) := by decide +kernel
theorem dX8_ask_68 : decode cX8_ask 68 = .ok (.invokevirtual 112, 3) := by decide +kernel
theorem dX8_ask_71 : decode cX8_ask 71 = .ok (.ifCond .eq 6, 3) := by decide +kernel
theorem dX8_ask_74 : decode cX8_ask 74 = .ok (.bipush (-3), 2) := by decide +kernel
theorem dX8_ask_76 : decode cX8_ask 76 = .ok (.ireturn, 1) := by decide +kernel
theorem dX8_ask_77 : decode cX8_ask 77 = .ok (.aload_n 0, 1) := by decide +kernel
theorem dX8_ask_78 : decode cX8_ask 78 = .ok (.getfield 21, 3) := by decide +kernel
theorem dX8_ask_81 : decode cX8_ask 81 = .ok (.iload_n 1, 1) := by decide +kernel
theorem dX8_ask_82 : decode cX8_ask 82 = .ok (.iload_n 2, 1) := by decide +kernel
theorem dX8_ask_83 : decode cX8_ask 83 = .ok (.iload_n 3, 1) := by decide +kernel
theorem dX8_ask_84 : decode cX8_ask 84 = .ok (.iload 4, 2) := by decide +kernel
theorem dX8_ask_86 : decode cX8_ask 86 = .ok (.iload 5, 2) := by decide +kernel
theorem dX8_ask_88 : decode cX8_ask 88 = .ok (.invokevirtual 113, 3) := by decide +kernel
theorem dX8_ask_91 : decode cX8_ask 91 = .ok (.ireturn, 1) := by decide +kernel
theorem dX8_drop_0 : decode cX8_drop 0 = .ok (.aload_n 0, 1) := by decide +kernel
theorem dX8_drop_1 : decode cX8_drop 1 = .ok (.getfield 21, 3) := by decide +kernel
theorem dX8_drop_4 : decode cX8_drop 4 = .ok (.iload_n 1, 1) := by decide +kernel
theorem dX8_drop_5 : decode cX8_drop 5 = .ok (.invokevirtual 116, 3) := by decide +kernel
theorem dX8_drop_8 : decode cX8_drop 8 = .ok (.istore_n 2, 1) := by decide +kernel
theorem dX8_drop_9 : decode cX8_drop 9 = .ok (.iload_n 2, 1) := by decide +kernel
theorem dX8_drop_10 : decode cX8_drop 10 = .ok (.iconst (-1), 1) := by decide +kernel
theorem dX8_drop_11 : decode cX8_drop 11 = .ok (.if_icmp .ne 6, 3) := by decide +kernel
theorem dX8_drop_14 : decode cX8_drop 14 = .ok (.bipush (-4), 2) := by decide +kernel
theorem dX8_drop_16 : decode cX8_drop 16 = .ok (.ireturn, 1) := by decide +kernel
theorem dX8_drop_17 : decode cX8_drop 17 = .ok (.aload_n 0, 1) := by decide +kernel
theorem dX8_drop_18 : decode cX8_drop 18 = .ok (.getfield 21, 3) := by decide +kernel
theorem dX8_drop_21 : decode cX8_drop 21 = .ok (.iload_n 2, 1) := by decide +kernel
theorem dX8_drop_22 : decode cX8_drop 22 = .ok (.invokevirtual 119, 3) := by decide +kernel
theorem dX8_drop_25 : decode cX8_drop 25 = .ok (.aload_n 0, 1) := by decide +kernel
theorem dX8_drop_26 : decode cX8_drop 26 = .ok (.getfield 21, 3) := by decide +kernel
theorem dX8_drop_29 : decode cX8_drop 29 = .ok (.invokevirtual 122, 3) := by decide +kernel
theorem dX8_drop_32 : decode cX8_drop 32 = .ok (.ireturn, 1) := by decide +kernel
theorem dX8_grantBest_0 : decode cX8_grantBest 0 = .ok (.aload_n 0, 1) := by decide +kernel
theorem dX8_grantBest_1 : decode cX8_grantBest 1 = .ok (.getfield 21, 3) := by decide +kernel
theorem dX8_grantBest_4 : decode cX8_grantBest 4 = .ok (.iload_n 1, 1) := by decide +kernel
theorem dX8_grantBest_5 : decode cX8_grantBest 5 = .ok (.invokevirtual 116, 3) := by decide +kernel
theorem dX8_grantBest_8 : decode cX8_grantBest 8 = .ok (.istore_n 2, 1) := by decide +kernel
theorem dX8_grantBest_9 : decode cX8_grantBest 9 = .ok (.iload_n 2, 1) := by decide +kernel
theorem dX8_grantBest_10 : decode cX8_grantBest 10 = .ok (.iconst (-1), 1) := by decide +kernel
theorem dX8_grantBest_11 : decode cX8_grantBest 11 = .ok (.if_icmp .ne 6, 3) := by decide +kernel
theorem dX8_grantBest_14 : decode cX8_grantBest 14 = .ok (.bipush (-4), 2) := by decide +kernel
theorem dX8_grantBest_16 : decode cX8_grantBest 16 = .ok (.ireturn, 1) := by decide +kernel
theorem dX8_grantBest_17 : decode cX8_grantBest 17 = .ok (.aload_n 0, 1) := by decide +kernel
theorem dX8_grantBest_18 : decode cX8_grantBest 18 = .ok (.getfield 21, 3) := by decide +kernel
theorem dX8_grantBest_21 : decode cX8_grantBest 21 = .ok (.iload_n 2, 1) := by decide +kernel
theorem dX8_grantBest_22 : decode cX8_grantBest 22 = .ok (.invokevirtual 126, 3) := by decide +kernel
theorem dX8_grantBest_25 : decode cX8_grantBest 25 = .ok (.aload_n 0, 1) := by decide +kernel
theorem dX8_grantBest_26 : decode cX8_grantBest 26 = .ok (.getfield 32, 3) := by decide +kernel
theorem dX8_grantBest_29 : decode cX8_grantBest 29 = .ok (.if_icmp .gt 6, 3) := by decide +kernel
theorem dX8_grantBest_32 : decode cX8_grantBest 32 = .ok (.bipush (-3), 2) := by decide +kernel
theorem dX8_grantBest_34 : decode cX8_grantBest 34 = .ok (.ireturn, 1) := by decide +kernel
theorem dX8_grantBest_35 : decode cX8_grantBest 35 = .ok (.aload_n 0, 1) := by decide +kernel
theorem dX8_grantBest_36 : decode cX8_grantBest 36 = .ok (.iload_n 2, 1) := by decide +kernel
theorem dX8_grantBest_37 : decode cX8_grantBest 37 = .ok (.invokevirtual 129, 3) := by decide +kernel
theorem dX8_grantBest_40 : decode cX8_grantBest 40 = .ok (.istore_n 3, 1) := by decide +kernel
theorem dX8_grantBest_41 : decode cX8_grantBest 41 = .ok (.iload_n 3, 1) := by decide +kernel
theorem dX8_grantBest_42 : decode cX8_grantBest 42 = .ok (.iconst (-1), 1) := by decide +kernel
theorem dX8_grantBest_43 : decode cX8_grantBest 43 = .ok (.if_icmp .ne 6, 3) := by decide +kernel
theorem dX8_grantBest_46 : decode cX8_grantBest 46 = .ok (.bipush (-5), 2) := by decide +kernel
theorem dX8_grantBest_48 : decode cX8_grantBest 48 = .ok (.ireturn, 1) := by decide +kernel
theorem dX8_grantBest_49 : decode cX8_grantBest 49 = .ok (.aload_n 0, 1) := by decide +kernel
theorem dX8_grantBest_50 : decode cX8_grantBest 50 = .ok (.iload_n 2, 1) := by decide +kernel
theorem dX8_grantBest_51 : decode cX8_grantBest 51 = .ok (.iload_n 3, 1) := by decide +kernel
theorem dX8_grantBest_52 : decode cX8_grantBest 52 = .ok (.invokevirtual 132, 3) := by decide +kernel
theorem dX8_grantBest_55 : decode cX8_grantBest 55 = .ok (.iload_n 3, 1) := by decide +kernel
theorem dX8_grantBest_56 : decode cX8_grantBest 56 = .ok (.ireturn, 1) := by decide +kernel
theorem dX8_grantTogether_0 : decode cX8_grantTogether 0 = .ok (.aload_n 0, 1) := by decide +kernel
theorem dX8_grantTogether_1 : decode cX8_grantTogether 1 = .ok (.invokevirtual 136, 3) := by decide +kernel
theorem dX8_grantTogether_4 : decode cX8_grantTogether 4 = .ok (.aload_n 1, 1) := by decide +kernel
theorem dX8_grantTogether_5 : decode cX8_grantTogether 5 = .ok (.aload_n 0, 1) := by decide +kernel
theorem dX8_grantTogether_6 : decode cX8_grantTogether 6 = .ok (.invokevirtual 139, 3) := by decide +kernel
theorem dX8_grantTogether_9 : decode cX8_grantTogether 9 = .ok (.aload_n 1, 1) := by decide +kernel
theorem dX8_grantTogether_10 : decode cX8_grantTogether 10 = .ok (.invokevirtual 145, 3) := by decide +kernel
theorem dX8_grantTogether_13 : decode cX8_grantTogether 13 = .ok (.istore_n 2, 1) := by decide +kernel
theorem dX8_grantTogether_14 : decode cX8_grantTogether 14 = .ok (.iconst 0, 1) := by decide +kernel
theorem dX8_grantTogether_15 : decode cX8_grantTogether 15 = .ok (.istore_n 3, 1) := by decide +kernel
theorem dX8_grantTogether_16 : decode cX8_grantTogether 16 = .ok (.iconst 0, 1) := by decide +kernel
theorem dX8_grantTogether_17 : decode cX8_grantTogether 17 = .ok (.istore 4, 2) := by decide +kernel
theorem dX8_grantTogether_19 : decode cX8_grantTogether 19 = .ok (.iload 4, 2) := by decide +kernel
theorem dX8_grantTogether_21 : decode cX8_grantTogether 21 = .ok (.bipush 8, 2) := by decide +kernel
theorem dX8_grantTogether_23 : decode cX8_grantTogether 23 = .ok (.if_icmp .ge 36, 3) := by decide +kernel
theorem dX8_grantTogether_26 : decode cX8_grantTogether 26 = .ok (.aload_n 1, 1) := by decide +kernel
theorem dX8_grantTogether_27 : decode cX8_grantTogether 27 = .ok (.iload 4, 2) := by decide +kernel
theorem dX8_grantTogether_29 : decode cX8_grantTogether 29 = .ok (.invokevirtual 148, 3) := by decide +kernel
theorem dX8_grantTogether_32 : decode cX8_grantTogether 32 = .ok (.istore 5, 2) := by decide +kernel
theorem dX8_grantTogether_34 : decode cX8_grantTogether 34 = .ok (.iload 5, 2) := by decide +kernel
theorem dX8_grantTogether_36 : decode cX8_grantTogether 36 = .ok (.iconst (-1), 1) := by decide +kernel
theorem dX8_grantTogether_37 : decode cX8_grantTogether 37 = .ok (.if_icmp .ne 9, 3) := by decide +kernel
theorem dX8_grantTogether_40 : decode cX8_grantTogether 40 = .ok (.iinc 3 1, 3) := by decide +kernel
theorem dX8_grantTogether_43 : decode cX8_grantTogether 43 = .ok (.goto 10, 3) := by decide +kernel
theorem dX8_grantTogether_46 : decode cX8_grantTogether 46 = .ok (.aload_n 0, 1) := by decide +kernel
theorem dX8_grantTogether_47 : decode cX8_grantTogether 47 = .ok (.iload_n 3, 1) := by decide +kernel
theorem dX8_grantTogether_48 : decode cX8_grantTogether 48 = .ok (.iload 5, 2) := by decide +kernel
theorem dX8_grantTogether_50 : decode cX8_grantTogether 50 = .ok (.invokevirtual 132, 3) := by decide +kernel
theorem dX8_grantTogether_53 : decode cX8_grantTogether 53 = .ok (.iinc 4 1, 3) := by decide +kernel
theorem dX8_grantTogether_56 : decode cX8_grantTogether 56 = .ok (.goto (-37), 3) := by decide +kernel
theorem dX8_grantTogether_59 : decode cX8_grantTogether 59 = .ok (.iload_n 2, 1) := by decide +kernel
theorem dX8_grantTogether_60 : decode cX8_grantTogether 60 = .ok (.ireturn, 1) := by decide +kernel
theorem dX8_dropRequestsThatHaveCome_0 : decode cX8_dropRequestsThatHaveCome 0 = .ok (.aload_n 0, 1) := by decide +kernel
theorem dX8_dropRequestsThatHaveCome_1 : decode cX8_dropRequestsThatHaveCome 1 = .ok (.getfield 21, 3) := by decide +kernel
theorem dX8_dropRequestsThatHaveCome_4 : decode cX8_dropRequestsThatHaveCome 4 = .ok (.invokevirtual 122, 3) := by decide +kernel
theorem dX8_dropRequestsThatHaveCome_7 : decode cX8_dropRequestsThatHaveCome 7 = .ok (.iconst 1, 1) := by decide +kernel
theorem dX8_dropRequestsThatHaveCome_8 : decode cX8_dropRequestsThatHaveCome 8 = .ok (.isub, 1) := by decide +kernel
theorem dX8_dropRequestsThatHaveCome_9 : decode cX8_dropRequestsThatHaveCome 9 = .ok (.istore_n 1, 1) := by decide +kernel
theorem dX8_dropRequestsThatHaveCome_10 : decode cX8_dropRequestsThatHaveCome 10 = .ok (.iload_n 1, 1) := by decide +kernel
theorem dX8_dropRequestsThatHaveCome_11 : decode cX8_dropRequestsThatHaveCome 11 = .ok (.ifCond .lt 32, 3) := by decide +kernel
theorem dX8_dropRequestsThatHaveCome_14 : decode cX8_dropRequestsThatHaveCome 14 = .ok (.aload_n 0, 1) := by decide +kernel
theorem dX8_dropRequestsThatHaveCome_15 : decode cX8_dropRequestsThatHaveCome 15 = .ok (.getfield 21, 3) := by decide +kernel
theorem dX8_dropRequestsThatHaveCome_18 : decode cX8_dropRequestsThatHaveCome 18 = .ok (.iload_n 1, 1) := by decide +kernel
theorem dX8_dropRequestsThatHaveCome_19 : decode cX8_dropRequestsThatHaveCome 19 = .ok (.invokevirtual 126, 3) := by decide +kernel
theorem dX8_dropRequestsThatHaveCome_22 : decode cX8_dropRequestsThatHaveCome 22 = .ok (.aload_n 0, 1) := by decide +kernel
theorem dX8_dropRequestsThatHaveCome_23 : decode cX8_dropRequestsThatHaveCome 23 = .ok (.getfield 32, 3) := by decide +kernel
theorem dX8_dropRequestsThatHaveCome_26 : decode cX8_dropRequestsThatHaveCome 26 = .ok (.if_icmp .gt 11, 3) := by decide +kernel
theorem dX8_dropRequestsThatHaveCome_29 : decode cX8_dropRequestsThatHaveCome 29 = .ok (.aload_n 0, 1) := by decide +kernel
theorem dX8_dropRequestsThatHaveCome_30 : decode cX8_dropRequestsThatHaveCome 30 = .ok (.getfield 21, 3) := by decide +kernel
theorem dX8_dropRequestsThatHaveCome_33 : decode cX8_dropRequestsThatHaveCome 33 = .ok (.iload_n 1, 1) := by decide +kernel
theorem dX8_dropRequestsThatHaveCome_34 : decode cX8_dropRequestsThatHaveCome 34 = .ok (.invokevirtual 119, 3) := by decide +kernel
theorem dX8_dropRequestsThatHaveCome_37 : decode cX8_dropRequestsThatHaveCome 37 = .ok (.iinc 1 (-1), 3) := by decide +kernel
theorem dX8_dropRequestsThatHaveCome_40 : decode cX8_dropRequestsThatHaveCome 40 = .ok (.goto (-30), 3) := by decide +kernel
theorem dX8_dropRequestsThatHaveCome_43 : decode cX8_dropRequestsThatHaveCome 43 = .ok (.return_, 1) := by decide +kernel
theorem dX8_book_0 : decode cX8_book 0 = .ok (.aload_n 0, 1) := by decide +kernel
theorem dX8_book_1 : decode cX8_book 1 = .ok (.getfield 21, 3) := by decide +kernel
theorem dX8_book_4 : decode cX8_book 4 = .ok (.iload_n 1, 1) := by decide +kernel
theorem dX8_book_5 : decode cX8_book 5 = .ok (.invokevirtual 126, 3) := by decide +kernel
theorem dX8_book_8 : decode cX8_book 8 = .ok (.istore_n 3, 1) := by decide +kernel
theorem dX8_book_9 : decode cX8_book 9 = .ok (.aload_n 0, 1) := by decide +kernel
theorem dX8_book_10 : decode cX8_book 10 = .ok (.getfield 21, 3) := by decide +kernel
theorem dX8_book_13 : decode cX8_book 13 = .ok (.iload_n 1, 1) := by decide +kernel
theorem dX8_book_14 : decode cX8_book 14 = .ok (.invokevirtual 151, 3) := by decide +kernel
theorem dX8_book_17 : decode cX8_book 17 = .ok (.istore 4, 2) := by decide +kernel
theorem dX8_book_19 : decode cX8_book 19 = .ok (.aload_n 0, 1) := by decide +kernel
theorem dX8_book_20 : decode cX8_book 20 = .ok (.getfield 28, 3) := by decide +kernel
theorem dX8_book_23 : decode cX8_book 23 = .ok (.iload_n 2, 1) := by decide +kernel
theorem dX8_book_24 : decode cX8_book 24 = .ok (.aload_n 0, 1) := by decide +kernel
theorem dX8_book_25 : decode cX8_book 25 = .ok (.getfield 21, 3) := by decide +kernel
theorem dX8_book_28 : decode cX8_book 28 = .ok (.iload_n 1, 1) := by decide +kernel
theorem dX8_book_29 : decode cX8_book 29 = .ok (.invokevirtual 154, 3) := by decide +kernel
theorem dX8_book_32 : decode cX8_book 32 = .ok (.iload_n 3, 1) := by decide +kernel
theorem dX8_book_33 : decode cX8_book 33 = .ok (.iload 4, 2) := by decide +kernel
theorem dX8_book_35 : decode cX8_book 35 = .ok (.invokevirtual 157, 3) := by decide +kernel
theorem dX8_book_38 : decode cX8_book 38 = .ok (.aload_n 0, 1) := by decide +kernel
theorem dX8_book_39 : decode cX8_book 39 = .ok (.getfield 21, 3) := by decide +kernel
theorem dX8_book_42 : decode cX8_book 42 = .ok (.iload_n 1, 1) := by decide +kernel
theorem dX8_book_43 : decode cX8_book 43 = .ok (.invokevirtual 119, 3) := by decide +kernel
theorem dX8_book_46 : decode cX8_book 46 = .ok (.iload 4, 2) := by decide +kernel
theorem dX8_book_48 : decode cX8_book 48 = .ok (.iload_n 3, 1) := by decide +kernel
theorem dX8_book_49 : decode cX8_book 49 = .ok (.isub, 1) := by decide +kernel
theorem dX8_book_50 : decode cX8_book 50 = .ok (.iconst 1, 1) := by decide +kernel
theorem dX8_book_51 : decode cX8_book 51 = .ok (.iadd, 1) := by decide +kernel
theorem dX8_book_52 : decode cX8_book 52 = .ok (.istore 5, 2) := by decide +kernel
theorem dX8_book_54 : decode cX8_book 54 = .ok (.aload_n 0, 1) := by decide +kernel
theorem dX8_book_55 : decode cX8_book 55 = .ok (.dup, 1) := by decide +kernel
theorem dX8_book_56 : decode cX8_book 56 = .ok (.getfield 36, 3) := by decide +kernel
theorem dX8_book_59 : decode cX8_book 59 = .ok (.iload 5, 2) := by decide +kernel
theorem dX8_book_61 : decode cX8_book 61 = .ok (.iadd, 1) := by decide +kernel
theorem dX8_book_62 : decode cX8_book 62 = .ok (.putfield 36, 3) := by decide +kernel
theorem dX8_book_65 : decode cX8_book 65 = .ok (.aload_n 0, 1) := by decide +kernel
theorem dX8_book_66 : decode cX8_book 66 = .ok (.dup, 1) := by decide +kernel
theorem dX8_book_67 : decode cX8_book 67 = .ok (.getfield 39, 3) := by decide +kernel
theorem dX8_book_70 : decode cX8_book 70 = .ok (.iload 5, 2) := by decide +kernel
theorem dX8_book_72 : decode cX8_book 72 = .ok (.iadd, 1) := by decide +kernel
theorem dX8_book_73 : decode cX8_book 73 = .ok (.putfield 39, 3) := by decide +kernel
theorem dX8_book_76 : decode cX8_book 76 = .ok (.return_, 1) := by decide +kernel
theorem dX8_suits_0 : decode cX8_suits 0 = .ok (.aload_n 0, 1) := by decide +kernel
theorem dX8_suits_1 : decode cX8_suits 1 = .ok (.getfield 21, 3) := by decide +kernel
theorem dX8_suits_4 : decode cX8_suits 4 = .ok (.iload_n 1, 1) := by decide +kernel
theorem dX8_suits_5 : decode cX8_suits 5 = .ok (.invokevirtual 160, 3) := by decide +kernel
theorem dX8_suits_8 : decode cX8_suits 8 = .ok (.ifCond .eq 14, 3) := by decide +kernel
theorem dX8_suits_11 : decode cX8_suits 11 = .ok (.aload_n 0, 1) := by decide +kernel
theorem dX8_suits_12 : decode cX8_suits 12 = .ok (.getfield 12, 3) := by decide +kernel
theorem dX8_suits_15 : decode cX8_suits 15 = .ok (.iload_n 2, 1) := by decide +kernel
theorem dX8_suits_16 : decode cX8_suits 16 = .ok (.invokevirtual 83, 3) := by decide +kernel
theorem dX8_suits_19 : decode cX8_suits 19 = .ok (.ifCond .ne 5, 3) := by decide +kernel
theorem dX8_suits_22 : decode cX8_suits 22 = .ok (.iconst 0, 1) := by decide +kernel
theorem dX8_suits_23 : decode cX8_suits 23 = .ok (.ireturn, 1) := by decide +kernel
theorem dX8_suits_24 : decode cX8_suits 24 = .ok (.aload_n 0, 1) := by decide +kernel
theorem dX8_suits_25 : decode cX8_suits 25 = .ok (.getfield 21, 3) := by decide +kernel
theorem dX8_suits_28 : decode cX8_suits 28 = .ok (.iload_n 1, 1) := by decide +kernel
theorem dX8_suits_29 : decode cX8_suits 29 = .ok (.invokevirtual 126, 3) := by decide +kernel
theorem dX8_suits_32 : decode cX8_suits 32 = .ok (.istore_n 3, 1) := by decide +kernel
theorem dX8_suits_33 : decode cX8_suits 33 = .ok (.aload_n 0, 1) := by decide +kernel
theorem dX8_suits_34 : decode cX8_suits 34 = .ok (.getfield 12, 3) := by decide +kernel
theorem dX8_suits_37 : decode cX8_suits 37 = .ok (.iload_n 2, 1) := by decide +kernel
theorem dX8_suits_38 : decode cX8_suits 38 = .ok (.invokevirtual 161, 3) := by decide +kernel
theorem dX8_suits_41 : decode cX8_suits 41 = .ok (.aload_n 0, 1) := by decide +kernel
theorem dX8_suits_42 : decode cX8_suits 42 = .ok (.getfield 21, 3) := by decide +kernel
theorem dX8_suits_45 : decode cX8_suits 45 = .ok (.iload_n 1, 1) := by decide +kernel
theorem dX8_suits_46 : decode cX8_suits 46 = .ok (.invokevirtual 164, 3) := by decide +kernel
theorem dX8_suits_49 : decode cX8_suits 49 = .ok (.isub, 1) := by decide +kernel
theorem dX8_suits_50 : decode cX8_suits 50 = .ok (.invokestatic 167, 3) := by decide +kernel
theorem dX8_suits_53 : decode cX8_suits 53 = .ok (.aload_n 0, 1) := by decide +kernel
theorem dX8_suits_54 : decode cX8_suits 54 = .ok (.getfield 21, 3) := by decide +kernel
theorem dX8_suits_57 : decode cX8_suits 57 = .ok (.iload_n 1, 1) := by decide +kernel
theorem dX8_suits_58 : decode cX8_suits 58 = .ok (.invokevirtual 172, 3) := by decide +kernel
theorem dX8_suits_61 : decode cX8_suits 61 = .ok (.if_icmp .gt 63, 3) := by decide +kernel
theorem dX8_suits_64 : decode cX8_suits 64 = .ok (.aload_n 0, 1) := by decide +kernel
theorem dX8_suits_65 : decode cX8_suits 65 = .ok (.getfield 12, 3) := by decide +kernel
theorem dX8_suits_68 : decode cX8_suits 68 = .ok (.iload_n 2, 1) := by decide +kernel
theorem dX8_suits_69 : decode cX8_suits 69 = .ok (.invokevirtual 175, 3) := by decide +kernel
theorem dX8_suits_72 : decode cX8_suits 72 = .ok (.bipush 100, 2) := by decide +kernel
theorem dX8_suits_74 : decode cX8_suits 74 = .ok (.if_icmp .ge 50, 3) := by decide +kernel
theorem dX8_suits_77 : decode cX8_suits 77 = .ok (.aload_n 0, 1) := by decide +kernel
theorem dX8_suits_78 : decode cX8_suits 78 = .ok (.getfield 12, 3) := by decide +kernel
theorem dX8_suits_81 : decode cX8_suits 81 = .ok (.iload_n 2, 1) := by decide +kernel
theorem dX8_suits_82 : decode cX8_suits 82 = .ok (.invokevirtual 86, 3) := by decide +kernel
theorem dX8_suits_85 : decode cX8_suits 85 = .ok (.ifCond .eq 15, 3) := by decide +kernel
theorem dX8_suits_88 : decode cX8_suits 88 = .ok (.aload_n 0, 1) := by decide +kernel
theorem dX8_suits_89 : decode cX8_suits 89 = .ok (.getfield 12, 3) := by decide +kernel
theorem dX8_suits_92 : decode cX8_suits 92 = .ok (.iload_n 2, 1) := by decide +kernel
theorem dX8_suits_93 : decode cX8_suits 93 = .ok (.invokevirtual 178, 3) := by decide +kernel
theorem dX8_suits_96 : decode cX8_suits 96 = .ok (.iload_n 3, 1) := by decide +kernel
theorem dX8_suits_97 : decode cX8_suits 97 = .ok (.if_icmp .ge 27, 3) := by decide +kernel
theorem dX8_suits_100 : decode cX8_suits 100 = .ok (.aload_n 0, 1) := by decide +kernel
theorem dX8_suits_101 : decode cX8_suits 101 = .ok (.getfield 28, 3) := by decide +kernel
theorem dX8_suits_104 : decode cX8_suits 104 = .ok (.iload_n 2, 1) := by decide +kernel
theorem dX8_suits_105 : decode cX8_suits 105 = .ok (.iload_n 3, 1) := by decide +kernel
theorem dX8_suits_106 : decode cX8_suits 106 = .ok (.aload_n 0, 1) := by decide +kernel
theorem dX8_suits_107 : decode cX8_suits 107 = .ok (.getfield 21, 3) := by decide +kernel
theorem dX8_suits_110 : decode cX8_suits 110 = .ok (.iload_n 1, 1) := by decide +kernel
theorem dX8_suits_111 : decode cX8_suits 111 = .ok (.invokevirtual 151, 3) := by decide +kernel
theorem dX8_suits_114 : decode cX8_suits 114 = .ok (.invokevirtual 181, 3) := by decide +kernel
theorem dX8_suits_117 : decode cX8_suits 117 = .ok (.ifCond .ne 7, 3) := by decide +kernel
theorem dX8_suits_120 : decode cX8_suits 120 = .ok (.iconst 1, 1) := by decide +kernel
theorem dX8_suits_121 : decode cX8_suits 121 = .ok (.goto 4, 3) := by decide +kernel
theorem dX8_suits_124 : decode cX8_suits 124 = .ok (.iconst 0, 1) := by decide +kernel
theorem dX8_suits_125 : decode cX8_suits 125 = .ok (.ireturn, 1) := by decide +kernel
theorem dX8_bestFor_0 : decode cX8_bestFor 0 = .ok (.iconst (-1), 1) := by decide +kernel
theorem dX8_bestFor_1 : decode cX8_bestFor 1 = .ok (.istore_n 2, 1) := by decide +kernel
theorem dX8_bestFor_2 : decode cX8_bestFor 2 = .ok (.iconst 0, 1) := by decide +kernel
theorem dX8_bestFor_3 : decode cX8_bestFor 3 = .ok (.istore_n 3, 1) := by decide +kernel
theorem dX8_bestFor_4 : decode cX8_bestFor 4 = .ok (.iconst 0, 1) := by decide +kernel
theorem dX8_bestFor_5 : decode cX8_bestFor 5 = .ok (.istore 4, 2) := by decide +kernel
theorem dX8_bestFor_7 : decode cX8_bestFor 7 = .ok (.iload 4, 2) := by decide +kernel
theorem dX8_bestFor_9 : decode cX8_bestFor 9 = .ok (.aload_n 0, 1) := by decide +kernel
theorem dX8_bestFor_10 : decode cX8_bestFor 10 = .ok (.getfield 12, 3) := by decide +kernel
theorem dX8_bestFor_13 : decode cX8_bestFor 13 = .ok (.invokevirtual 185, 3) := by decide +kernel
theorem dX8_bestFor_16 : decode cX8_bestFor 16 = .ok (.if_icmp .ge 45, 3) := by decide +kernel
theorem dX8_bestFor_19 : decode cX8_bestFor 19 = .ok (.aload_n 0, 1) := by decide +kernel
theorem dX8_bestFor_20 : decode cX8_bestFor 20 = .ok (.iload_n 1, 1) := by decide +kernel
theorem dX8_bestFor_21 : decode cX8_bestFor 21 = .ok (.iload 4, 2) := by decide +kernel
theorem dX8_bestFor_23 : decode cX8_bestFor 23 = .ok (.invokevirtual 186, 3) := by decide +kernel
theorem dX8_bestFor_26 : decode cX8_bestFor 26 = .ok (.istore 5, 2) := by decide +kernel
theorem dX8_bestFor_28 : decode cX8_bestFor 28 = .ok (.aload_n 0, 1) := by decide +kernel
theorem dX8_bestFor_29 : decode cX8_bestFor 29 = .ok (.iload_n 1, 1) := by decide +kernel
theorem dX8_bestFor_30 : decode cX8_bestFor 30 = .ok (.iload 4, 2) := by decide +kernel
theorem dX8_bestFor_32 : decode cX8_bestFor 32 = .ok (.invokevirtual 189, 3) := by decide +kernel
