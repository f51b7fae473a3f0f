theorem dX0_init_0 : decode cX0_init 0 = .ok (.aload_n 0, 1) := by decide +kernel
theorem dX0_init_1 : decode cX0_init 1 = .ok (.invokespecial 3, 3) := by decide +kernel
theorem dX0_init_4 : decode cX0_init 4 = .ok (.aload_n 0, 1) := by decide +kernel
theorem dX0_init_5 : decode cX0_init 5 = .ok (.bipush 96, 2) := by decide +kernel
theorem dX0_init_7 : decode cX0_init 7 = .ok (.newarray .int, 2) := by decide +kernel
theorem dX0_init_9 : decode cX0_init 9 = .ok (.putfield 11, 3) := by decide +kernel
theorem dX0_init_12 : decode cX0_init 12 = .ok (.return_, 1) := by decide +kernel
theorem dX0_copy_0 : decode cX0_copy 0 = .ok (.aload_n 0, 1) := by decide +kernel
theorem dX0_copy_1 : decode cX0_copy 1 = .ok (.aload_n 1, 1) := by decide +kernel
theorem dX0_copy_2 : decode cX0_copy 2 = .ok (.getfield 15, 3) := by decide +kernel
theorem dX0_copy_5 : decode cX0_copy 5 = .ok (.putfield 15, 3) := by decide +kernel
theorem dX0_copy_8 : decode cX0_copy 8 = .ok (.aload_n 0, 1) := by decide +kernel
theorem dX0_copy_9 : decode cX0_copy 9 = .ok (.aload_n 1, 1) := by decide +kernel
theorem dX0_copy_10 : decode cX0_copy 10 = .ok (.getfield 19, 3) := by decide +kernel
theorem dX0_copy_13 : decode cX0_copy 13 = .ok (.putfield 19, 3) := by decide +kernel
theorem dX0_copy_16 : decode cX0_copy 16 = .ok (.aload_n 0, 1) := by decide +kernel
theorem dX0_copy_17 : decode cX0_copy 17 = .ok (.aload_n 1, 1) := by decide +kernel
theorem dX0_copy_18 : decode cX0_copy 18 = .ok (.getfield 22, 3) := by decide +kernel
theorem dX0_copy_21 : decode cX0_copy 21 = .ok (.putfield 22, 3) := by decide +kernel
theorem dX0_copy_24 : decode cX0_copy 24 = .ok (.aload_n 0, 1) := by decide +kernel
theorem dX0_copy_25 : decode cX0_copy 25 = .ok (.aload_n 1, 1) := by decide +kernel
theorem dX0_copy_26 : decode cX0_copy 26 = .ok (.getfield 25, 3) := by decide +kernel
theorem dX0_copy_29 : decode cX0_copy 29 = .ok (.putfield 25, 3) := by decide +kernel
theorem dX0_copy_32 : decode cX0_copy 32 = .ok (.aload_n 0, 1) := by decide +kernel
theorem dX0_copy_33 : decode cX0_copy 33 = .ok (.aload_n 1, 1) := by decide +kernel
theorem dX0_copy_34 : decode cX0_copy 34 = .ok (.getfield 28, 3) := by decide +kernel
theorem dX0_copy_37 : decode cX0_copy 37 = .ok (.putfield 28, 3) := by decide +kernel
theorem dX0_copy_40 : decode cX0_copy 40 = .ok (.aload_n 0, 1) := by decide +kernel
theorem dX0_copy_41 : decode cX0_copy 41 = .ok (.aload_n 1, 1) := by decide +kernel
theorem dX0_copy_42 : decode cX0_copy 42 = .ok (.getfield 31, 3) := by decide +kernel
theorem dX0_copy_45 : decode cX0_copy 45 = .ok (.putfield 31, 3) := by decide +kernel
theorem dX0_copy_48 : decode cX0_copy 48 = .ok (.aload_n 0, 1) := by decide +kernel
theorem dX0_copy_49 : decode cX0_copy 49 = .ok (.aload_n 1, 1) := by decide +kernel
theorem dX0_copy_50 : decode cX0_copy 50 = .ok (.getfield 34, 3) := by decide +kernel
theorem dX0_copy_53 : decode cX0_copy 53 = .ok (.putfield 34, 3) := by decide +kernel
theorem dX0_copy_56 : decode cX0_copy 56 = .ok (.aload_n 1, 1) := by decide +kernel
theorem dX0_copy_57 : decode cX0_copy 57 = .ok (.getfield 11, 3) := by decide +kernel
theorem dX0_copy_60 : decode cX0_copy 60 = .ok (.iconst 0, 1) := by decide +kernel
theorem dX0_copy_61 : decode cX0_copy 61 = .ok (.aload_n 0, 1) := by decide +kernel
theorem dX0_copy_62 : decode cX0_copy 62 = .ok (.getfield 11, 3) := by decide +kernel
theorem dX0_copy_65 : decode cX0_copy 65 = .ok (.iconst 0, 1) := by decide +kernel
theorem dX0_copy_66 : decode cX0_copy 66 = .ok (.bipush 96, 2) := by decide +kernel
theorem dX0_copy_68 : decode cX0_copy 68 = .ok (.invokestatic 37, 3) := by decide +kernel
theorem dX0_copy_71 : decode cX0_copy 71 = .ok (.return_, 1) := by decide +kernel
theorem dX0_keeps_0 : decode cX0_keeps 0 = .ok (.iload_n 1, 1) := by decide +kernel
theorem dX0_keeps_1 : decode cX0_keeps 1 = .ok (.ifCond .lt 26, 3) := by decide +kernel
theorem dX0_keeps_4 : decode cX0_keeps 4 = .ok (.iload_n 1, 1) := by decide +kernel
theorem dX0_keeps_5 : decode cX0_keeps 5 = .ok (.aload_n 0, 1) := by decide +kernel
theorem dX0_keeps_6 : decode cX0_keeps 6 = .ok (.getfield 15, 3) := by decide +kernel
theorem dX0_keeps_9 : decode cX0_keeps 9 = .ok (.if_icmp .ge 18, 3) := by decide +kernel
theorem dX0_keeps_12 : decode cX0_keeps 12 = .ok (.iload_n 1, 1) := by decide +kernel
theorem dX0_keeps_13 : decode cX0_keeps 13 = .ok (.aload_n 0, 1) := by decide +kernel
theorem dX0_keeps_14 : decode cX0_keeps 14 = .ok (.getfield 15, 3) := by decide +kernel
theorem dX0_keeps_17 : decode cX0_keeps 17 = .ok (.bipush 16, 2) := by decide +kernel
theorem dX0_keeps_19 : decode cX0_keeps 19 = .ok (.isub, 1) := by decide +kernel
theorem dX0_keeps_20 : decode cX0_keeps 20 = .ok (.if_icmp .lt 7, 3) := by decide +kernel
theorem dX0_keeps_23 : decode cX0_keeps 23 = .ok (.iconst 1, 1) := by decide +kernel
theorem dX0_keeps_24 : decode cX0_keeps 24 = .ok (.goto 4, 3) := by decide +kernel
theorem dX0_keeps_27 : decode cX0_keeps 27 = .ok (.iconst 0, 1) := by decide +kernel
theorem dX0_keeps_28 : decode cX0_keeps 28 = .ok (.ireturn, 1) := by decide +kernel
theorem dX0_entry_0 : decode cX0_entry 0 = .ok (.aload_n 0, 1) := by decide +kernel
theorem dX0_entry_1 : decode cX0_entry 1 = .ok (.getfield 11, 3) := by decide +kernel
theorem dX0_entry_4 : decode cX0_entry 4 = .ok (.iload_n 1, 1) := by decide +kernel
theorem dX0_entry_5 : decode cX0_entry 5 = .ok (.bipush 16, 2) := by decide +kernel
theorem dX0_entry_7 : decode cX0_entry 7 = .ok (.irem, 1) := by decide +kernel
theorem dX0_entry_8 : decode cX0_entry 8 = .ok (.bipush 6, 2) := by decide +kernel
theorem dX0_entry_10 : decode cX0_entry 10 = .ok (.imul, 1) := by decide +kernel
theorem dX0_entry_11 : decode cX0_entry 11 = .ok (.iload_n 2, 1) := by decide +kernel
theorem dX0_entry_12 : decode cX0_entry 12 = .ok (.iadd, 1) := by decide +kernel
theorem dX0_entry_13 : decode cX0_entry 13 = .ok (.iaload, 1) := by decide +kernel
theorem dX0_entry_14 : decode cX0_entry 14 = .ok (.ireturn, 1) := by decide +kernel
theorem dX0_addFailure_0 : decode cX0_addFailure 0 = .ok (.aload_n 0, 1) := by decide +kernel
theorem dX0_addFailure_1 : decode cX0_addFailure 1 = .ok (.bipush (-5), 2) := by decide +kernel
theorem dX0_addFailure_3 : decode cX0_addFailure 3 = .ok (.iload_n 1, 1) := by decide +kernel
theorem dX0_addFailure_4 : decode cX0_addFailure 4 = .ok (.iload_n 2, 1) := by decide +kernel
theorem dX0_addFailure_5 : decode cX0_addFailure 5 = .ok (.iconst 0, 1) := by decide +kernel
theorem dX0_addFailure_6 : decode cX0_addFailure 6 = .ok (.iload_n 3, 1) := by decide +kernel
theorem dX0_addFailure_7 : decode cX0_addFailure 7 = .ok (.iconst 0, 1) := by decide +kernel
theorem dX0_addFailure_8 : decode cX0_addFailure 8 = .ok (.invokevirtual 43, 3) := by decide +kernel
theorem dX0_addFailure_11 : decode cX0_addFailure 11 = .ok (.aload_n 0, 1) := by decide +kernel
theorem dX0_addFailure_12 : decode cX0_addFailure 12 = .ok (.iconst 0, 1) := by decide +kernel
theorem dX0_addFailure_13 : decode cX0_addFailure 13 = .ok (.putfield 31, 3) := by decide +kernel
theorem dX0_addFailure_16 : decode cX0_addFailure 16 = .ok (.return_, 1) := by decide +kernel
theorem dX0_addOutput_0 : decode cX0_addOutput 0 = .ok (.iload_n 1, 1) := by decide +kernel
theorem dX0_addOutput_1 : decode cX0_addOutput 1 = .ok (.iconst 1, 1) := by decide +kernel
theorem dX0_addOutput_2 : decode cX0_addOutput 2 = .ok (.iand, 1) := by decide +kernel
theorem dX0_addOutput_3 : decode cX0_addOutput 3 = .ok (.istore 5, 2) := by decide +kernel
theorem dX0_addOutput_5 : decode cX0_addOutput 5 = .ok (.iload_n 2, 1) := by decide +kernel
theorem dX0_addOutput_6 : decode cX0_addOutput 6 = .ok (.invokestatic 47, 3) := by decide +kernel
theorem dX0_addOutput_9 : decode cX0_addOutput 9 = .ok (.iload_n 3, 1) := by decide +kernel
theorem dX0_addOutput_10 : decode cX0_addOutput 10 = .ok (.isub, 1) := by decide +kernel
theorem dX0_addOutput_11 : decode cX0_addOutput 11 = .ok (.istore 6, 2) := by decide +kernel
theorem dX0_addOutput_13 : decode cX0_addOutput 13 = .ok (.aload_n 0, 1) := by decide +kernel
theorem dX0_addOutput_14 : decode cX0_addOutput 14 = .ok (.iload 5, 2) := by decide +kernel
theorem dX0_addOutput_16 : decode cX0_addOutput 16 = .ok (.iload_n 2, 1) := by decide +kernel
theorem dX0_addOutput_17 : decode cX0_addOutput 17 = .ok (.iload_n 3, 1) := by decide +kernel
theorem dX0_addOutput_18 : decode cX0_addOutput 18 = .ok (.iload 6, 2) := by decide +kernel
theorem dX0_addOutput_20 : decode cX0_addOutput 20 = .ok (.iload 4, 2) := by decide +kernel
theorem dX0_addOutput_22 : decode cX0_addOutput 22 = .ok (.iload_n 1, 1) := by decide +kernel
theorem dX0_addOutput_23 : decode cX0_addOutput 23 = .ok (.invokevirtual 43, 3) := by decide +kernel
theorem dX0_addOutput_26 : decode cX0_addOutput 26 = .ok (.aload_n 0, 1) := by decide +kernel
theorem dX0_addOutput_27 : decode cX0_addOutput 27 = .ok (.iload_n 1, 1) := by decide +kernel
theorem dX0_addOutput_28 : decode cX0_addOutput 28 = .ok (.putfield 19, 3) := by decide +kernel
theorem dX0_addOutput_31 : decode cX0_addOutput 31 = .ok (.iload 5, 2) := by decide +kernel
theorem dX0_addOutput_33 : decode cX0_addOutput 33 = .ok (.iconst 1, 1) := by decide +kernel
theorem dX0_addOutput_34 : decode cX0_addOutput 34 = .ok (.if_icmp .ne 16, 3) := by decide +kernel
theorem dX0_addOutput_37 : decode cX0_addOutput 37 = .ok (.aload_n 0, 1) := by decide +kernel
theorem dX0_addOutput_38 : decode cX0_addOutput 38 = .ok (.dup, 1) := by decide +kernel
theorem dX0_addOutput_39 : decode cX0_addOutput 39 = .ok (.getfield 25, 3) := by decide +kernel
theorem dX0_addOutput_42 : decode cX0_addOutput 42 = .ok (.iconst 1, 1) := by decide +kernel
theorem dX0_addOutput_43 : decode cX0_addOutput 43 = .ok (.iadd, 1) := by decide +kernel
theorem dX0_addOutput_44 : decode cX0_addOutput 44 = .ok (.putfield 25, 3) := by decide +kernel
theorem dX0_addOutput_47 : decode cX0_addOutput 47 = .ok (.goto 13, 3) := by decide +kernel
theorem dX0_addOutput_50 : decode cX0_addOutput 50 = .ok (.aload_n 0, 1) := by decide +kernel
theorem dX0_addOutput_51 : decode cX0_addOutput 51 = .ok (.dup, 1) := by decide +kernel
theorem dX0_addOutput_52 : decode cX0_addOutput 52 = .ok (.getfield 22, 3) := by decide +kernel
theorem dX0_addOutput_55 : decode cX0_addOutput 55 = .ok (.iconst 1, 1) := by decide +kernel
theorem dX0_addOutput_56 : decode cX0_addOutput 56 = .ok (.iadd, 1) := by decide +kernel
theorem dX0_addOutput_57 : decode cX0_addOutput 57 = .ok (.putfield 22, 3) := by decide +kernel
theorem dX0_addOutput_60 : decode cX0_addOutput 60 = .ok (.aload_n 0, 1) := by decide +kernel
theorem dX0_addOutput_61 : decode cX0_addOutput 61 = .ok (.aload_n 0, 1) := by decide +kernel
theorem dX0_addOutput_62 : decode cX0_addOutput 62 = .ok (.getfield 34, 3) := by decide +kernel
theorem dX0_addOutput_65 : decode cX0_addOutput 65 = .ok (.iload 5, 2) := by decide +kernel
theorem dX0_addOutput_67 : decode cX0_addOutput 67 = .ok (.if_icmp .ne 12, 3) := by decide +kernel
theorem dX0_addOutput_70 : decode cX0_addOutput 70 = .ok (.aload_n 0, 1) := by decide +kernel
theorem dX0_addOutput_71 : decode cX0_addOutput 71 = .ok (.getfield 31, 3) := by decide +kernel
theorem dX0_addOutput_74 : decode cX0_addOutput 74 = .ok (.iconst 1, 1) := by decide +kernel
theorem dX0_addOutput_75 : decode cX0_addOutput 75 = .ok (.iadd, 1) := by decide +kernel
theorem dX0_addOutput_76 : decode cX0_addOutput 76 = .ok (.goto 4, 3) := by decide +kernel
theorem dX0_addOutput_79 : decode cX0_addOutput 79 = .ok (.iconst 1, 1) := by decide +kernel
theorem dX0_addOutput_80 : decode cX0_addOutput 80 = .ok (.putfield 31, 3) := by decide +kernel
theorem dX0_addOutput_83 : decode cX0_addOutput 83 = .ok (.aload_n 0, 1) := by decide +kernel
theorem dX0_addOutput_84 : decode cX0_addOutput 84 = .ok (.iload 5, 2) := by decide +kernel
theorem dX0_addOutput_86 : decode cX0_addOutput 86 = .ok (.putfield 34, 3) := by decide +kernel
theorem dX0_addOutput_89 : decode cX0_addOutput 89 = .ok (.aload_n 0, 1) := by decide +kernel
theorem dX0_addOutput_90 : decode cX0_addOutput 90 = .ok (.aload_n 0, 1) := by decide +kernel
theorem dX0_addOutput_91 : decode cX0_addOutput 91 = .ok (.getfield 28, 3) := by decide +kernel
theorem dX0_addOutput_94 : decode cX0_addOutput 94 = .ok (.aload_n 0, 1) := by decide +kernel
theorem dX0_addOutput_95 : decode cX0_addOutput 95 = .ok (.getfield 31, 3) := by decide +kernel
theorem dX0_addOutput_98 : decode cX0_addOutput 98 = .ok (.invokestatic 53, 3) := by decide +kernel
theorem dX0_addOutput_101 : decode cX0_addOutput 101 = .ok (.putfield 28, 3) := by decide +kernel
theorem dX0_addOutput_104 : decode cX0_addOutput 104 = .ok (.return_, 1) := by decide +kernel
theorem dX0_put_0 : decode cX0_put 0 = .ok (.aload_n 0, 1) := by decide +kernel
theorem dX0_put_1 : decode cX0_put 1 = .ok (.getfield 15, 3) := by decide +kernel
theorem dX0_put_4 : decode cX0_put 4 = .ok (.bipush 16, 2) := by decide +kernel
theorem dX0_put_6 : decode cX0_put 6 = .ok (.irem, 1) := by decide +kernel
theorem dX0_put_7 : decode cX0_put 7 = .ok (.bipush 6, 2) := by decide +kernel
theorem dX0_put_9 : decode cX0_put 9 = .ok (.imul, 1) := by decide +kernel
theorem dX0_put_10 : decode cX0_put 10 = .ok (.istore 7, 2) := by decide +kernel
theorem dX0_put_12 : decode cX0_put 12 = .ok (.aload_n 0, 1) := by decide +kernel
theorem dX0_put_13 : decode cX0_put 13 = .ok (.getfield 11, 3) := by decide +kernel
theorem dX0_put_16 : decode cX0_put 16 = .ok (.iload 7, 2) := by decide +kernel
theorem dX0_put_18 : decode cX0_put 18 = .ok (.iload_n 1, 1) := by decide +kernel
theorem dX0_put_19 : decode cX0_put 19 = .ok (.iastore, 1) := by decide +kernel
theorem dX0_put_20 : decode cX0_put 20 = .ok (.aload_n 0, 1) := by decide +kernel
theorem dX0_put_21 : decode cX0_put 21 = .ok (.getfield 11, 3) := by decide +kernel
theorem dX0_put_24 : decode cX0_put 24 = .ok (.iload 7, 2) := by decide +kernel
theorem dX0_put_26 : decode cX0_put 26 = .ok (.iconst 1, 1) := by decide +kernel
theorem dX0_put_27 : decode cX0_put 27 = .ok (.iadd, 1) := by decide +kernel
theorem dX0_put_28 : decode cX0_put 28 = .ok (.iload_n 2, 1) := by decide +kernel
theorem dX0_put_29 : decode cX0_put 29 = .ok (.iastore, 1) := by decide +kernel
theorem dX0_put_30 : decode cX0_put 30 = .ok (.aload_n 0, 1) := by decide +kernel
theorem dX0_put_31 : decode cX0_put 31 = .ok (.getfield 11, 3) := by decide +kernel
theorem dX0_put_34 : decode cX0_put 34 = .ok (.iload 7, 2) := by decide +kernel
theorem dX0_put_36 : decode cX0_put 36 = .ok (.iconst 2, 1) := by decide +kernel
theorem dX0_put_37 : decode cX0_put 37 = .ok (.iadd, 1) := by decide +kernel
theorem dX0_put_38 : decode cX0_put 38 = .ok (.iload_n 3, 1) := by decide +kernel
theorem dX0_put_39 : decode cX0_put 39 = .ok (.iastore, 1) := by decide +kernel
theorem dX0_put_40 : decode cX0_put 40 = .ok (.aload_n 0, 1) := by decide +kernel
theorem dX0_put_41 : decode cX0_put 41 = .ok (.getfield 11, 3) := by decide +kernel
theorem dX0_put_44 : decode cX0_put 44 = .ok (.iload 7, 2) := by decide +kernel
theorem dX0_put_46 : decode cX0_put 46 = .ok (.iconst 3, 1) := by decide +kernel
theorem dX0_put_47 : decode cX0_put 47 = .ok (.iadd, 1) := by decide +kernel
theorem dX0_put_48 : decode cX0_put 48 = .ok (.iload 4, 2) := by decide +kernel
theorem dX0_put_50 : decode cX0_put 50 = .ok (.iastore, 1) := by decide +kernel
theorem dX0_put_51 : decode cX0_put 51 = .ok (.aload_n 0, 1) := by decide +kernel
theorem dX0_put_52 : decode cX0_put 52 = .ok (.getfield 11, 3) := by decide +kernel
theorem dX0_put_55 : decode cX0_put 55 = .ok (.iload 7, 2) := by decide +kernel
theorem dX0_put_57 : decode cX0_put 57 = .ok (.iconst 4, 1) := by decide +kernel
theorem dX0_put_58 : decode cX0_put 58 = .ok (.iadd, 1) := by decide +kernel
theorem dX0_put_59 : decode cX0_put 59 = .ok (.iload 5, 2) := by decide +kernel
theorem dX0_put_61 : decode cX0_put 61 = .ok (.iastore, 1) := by decide +kernel
theorem dX0_put_62 : decode cX0_put 62 = .ok (.aload_n 0, 1) := by decide +kernel
theorem dX0_put_63 : decode cX0_put 63 = .ok (.getfield 11, 3) := by decide +kernel
theorem dX0_put_66 : decode cX0_put 66 = .ok (.iload 7, 2) := by decide +kernel
theorem dX0_put_68 : decode cX0_put 68 = .ok (.iconst 5, 1) := by decide +kernel
theorem dX0_put_69 : decode cX0_put 69 = .ok (.iadd, 1) := by decide +kernel
theorem dX0_put_70 : decode cX0_put 70 = .ok (.iload 6, 2) := by decide +kernel
theorem dX0_put_72 : decode cX0_put 72 = .ok (.iastore, 1) := by decide +kernel
theorem dX0_put_73 : decode cX0_put 73 = .ok (.aload_n 0, 1) := by decide +kernel
theorem dX0_put_74 : decode cX0_put 74 = .ok (.dup, 1) := by decide +kernel
theorem dX0_put_75 : decode cX0_put 75 = .ok (.getfield 15, 3) := by decide +kernel
theorem dX0_put_78 : decode cX0_put 78 = .ok (.iconst 1, 1) := by decide +kernel
theorem dX0_put_79 : decode cX0_put 79 = .ok (.iadd, 1) := by decide +kernel
theorem dX0_put_80 : decode cX0_put 80 = .ok (.putfield 15, 3) := by decide +kernel
theorem dX0_put_83 : decode cX0_put 83 = .ok (.return_, 1) := by decide +kernel
theorem dX1_init_0 : decode cX1_init 0 = .ok (.aload_n 0, 1) := by decide +kernel
theorem dX1_init_1 : decode cX1_init 1 = .ok (.invokespecial 3, 3) := by decide +kernel
theorem dX1_init_4 : decode cX1_init 4 = .ok (.aload_n 0, 1) := by decide +kernel
theorem dX1_init_5 : decode cX1_init 5 = .ok (.sipush 256, 3) := by decide +kernel
theorem dX1_init_8 : decode cX1_init 8 = .ok (.newarray .int, 2) := by decide +kernel
theorem dX1_init_10 : decode cX1_init 10 = .ok (.putfield 9, 3) := by decide +kernel
theorem dX1_init_13 : decode cX1_init 13 = .ok (.aload_n 0, 1) := by decide +kernel
theorem dX1_init_14 : decode cX1_init 14 = .ok (.sipush 256, 3) := by decide +kernel
theorem dX1_init_17 : decode cX1_init 17 = .ok (.newarray .int, 2) := by decide +kernel
theorem dX1_init_19 : decode cX1_init 19 = .ok (.putfield 15, 3) := by decide +kernel
theorem dX1_init_22 : decode cX1_init 22 = .ok (.aload_n 0, 1) := by decide +kernel
theorem dX1_init_23 : decode cX1_init 23 = .ok (.bipush 8, 2) := by decide +kernel
theorem dX1_init_25 : decode cX1_init 25 = .ok (.newarray .int, 2) := by decide +kernel
theorem dX1_init_27 : decode cX1_init 27 = .ok (.putfield 18, 3) := by decide +kernel
theorem dX1_init_30 : decode cX1_init 30 = .ok (.return_, 1) := by decide +kernel
theorem dX1_gather_0 : decode cX1_gather 0 = .ok (.aload_n 0, 1) := by decide +kernel
theorem dX1_gather_1 : decode cX1_gather 1 = .ok (.iconst 0, 1) := by decide +kernel
theorem dX1_gather_2 : decode cX1_gather 2 = .ok (.putfield 21, 3) := by decide +kernel
theorem dX1_gather_5 : decode cX1_gather 5 = .ok (.aload_n 0, 1) := by decide +kernel
theorem dX1_gather_6 : decode cX1_gather 6 = .ok (.iconst 0, 1) := by decide +kernel
theorem dX1_gather_7 : decode cX1_gather 7 = .ok (.putfield 25, 3) := by decide +kernel
theorem dX1_gather_10 : decode cX1_gather 10 = .ok (.aload_n 1, 1) := by decide +kernel
theorem dX1_gather_11 : decode cX1_gather 11 = .ok (.getfield 29, 3) := by decide +kernel
theorem dX1_gather_14 : decode cX1_gather 14 = .ok (.iload_n 2, 1) := by decide +kernel
theorem dX1_gather_15 : decode cX1_gather 15 = .ok (.iconst (-1), 1) := by decide +kernel
theorem dX1_gather_16 : decode cX1_gather 16 = .ok (.ixor, 1) := by decide +kernel
theorem dX1_gather_17 : decode cX1_gather 17 = .ok (.iand, 1) := by decide +kernel
theorem dX1_gather_18 : decode cX1_gather 18 = .ok (.istore_n 3, 1) := by decide +kernel
theorem dX1_gather_19 : decode cX1_gather 19 = .ok (.iconst 0, 1) := by decide +kernel
theorem dX1_gather_20 : decode cX1_gather 20 = .ok (.istore 4, 2) := by decide +kernel
theorem dX1_gather_22 : decode cX1_gather 22 = .ok (.iload 4, 2) := by decide +kernel
theorem dX1_gather_24 : decode cX1_gather 24 = .ok (.sipush 256, 3) := by decide +kernel
theorem dX1_gather_27 : decode cX1_gather 27 = .ok (.if_icmp .ge 30, 3) := by decide +kernel
theorem dX1_gather_30 : decode cX1_gather 30 = .ok (.iload 4, 2) := by decide +kernel
theorem dX1_gather_32 : decode cX1_gather 32 = .ok (.iload_n 2, 1) := by decide +kernel
theorem dX1_gather_33 : decode cX1_gather 33 = .ok (.iconst (-1), 1) := by decide +kernel
theorem dX1_gather_34 : decode cX1_gather 34 = .ok (.ixor, 1) := by decide +kernel
theorem dX1_gather_35 : decode cX1_gather 35 = .ok (.iand, 1) := by decide +kernel
theorem dX1_gather_36 : decode cX1_gather 36 = .ok (.ifCond .ne 15, 3) := by decide +kernel
theorem dX1_gather_39 : decode cX1_gather 39 = .ok (.aload_n 0, 1) := by decide +kernel
theorem dX1_gather_40 : decode cX1_gather 40 = .ok (.aload_n 1, 1) := by decide +kernel
theorem dX1_gather_41 : decode cX1_gather 41 = .ok (.iload_n 3, 1) := by decide +kernel
theorem dX1_gather_42 : decode cX1_gather 42 = .ok (.iload 4, 2) := by decide +kernel
theorem dX1_gather_44 : decode cX1_gather 44 = .ok (.ior, 1) := by decide +kernel
theorem dX1_gather_45 : decode cX1_gather 45 = .ok (.invokevirtual 34, 3) := by decide +kernel
theorem dX1_gather_48 : decode cX1_gather 48 = .ok (.invokevirtual 38, 3) := by decide +kernel
theorem dX1_gather_51 : decode cX1_gather 51 = .ok (.iinc 4 1, 3) := by decide +kernel
theorem dX1_gather_54 : decode cX1_gather 54 = .ok (.goto (-32), 3) := by decide +kernel
theorem dX1_gather_57 : decode cX1_gather 57 = .ok (.return_, 1) := by decide +kernel
theorem dX1_add_0 : decode cX1_add 0 = .ok (.iload_n 1, 1) := by decide +kernel
theorem dX1_add_1 : decode cX1_add 1 = .ok (.iconst (-1), 1) := by decide +kernel
theorem dX1_add_2 : decode cX1_add 2 = .ok (.if_icmp .ne 9, 3) := by decide +kernel
theorem dX1_add_5 : decode cX1_add 5 = .ok (.aload_n 0, 1) := by decide +kernel
theorem dX1_add_6 : decode cX1_add 6 = .ok (.iconst 1, 1) := by decide +kernel
theorem dX1_add_7 : decode cX1_add 7 = .ok (.putfield 25, 3) := by decide +kernel
theorem dX1_add_10 : decode cX1_add 10 = .ok (.return_, 1) := by decide +kernel
theorem dX1_add_11 : decode cX1_add 11 = .ok (.aload_n 0, 1) := by decide +kernel
theorem dX1_add_12 : decode cX1_add 12 = .ok (.getfield 21, 3) := by decide +kernel
theorem dX1_add_15 : decode cX1_add 15 = .ok (.ifCond .le 34, 3) := by decide +kernel
theorem dX1_add_18 : decode cX1_add 18 = .ok (.aload_n 0, 1) := by decide +kernel
theorem dX1_add_19 : decode cX1_add 19 = .ok (.getfield 21, 3) := by decide +kernel
theorem dX1_add_22 : decode cX1_add 22 = .ok (.aload_n 0, 1) := by decide +kernel
theorem dX1_add_23 : decode cX1_add 23 = .ok (.getfield 9, 3) := by decide +kernel
theorem dX1_add_26 : decode cX1_add 26 = .ok (.arraylength, 1) := by decide +kernel
theorem dX1_add_27 : decode cX1_add 27 = .ok (.if_icmp .gt 22, 3) := by decide +kernel
theorem dX1_add_30 : decode cX1_add 30 = .ok (.aload_n 0, 1) := by decide +kernel
theorem dX1_add_31 : decode cX1_add 31 = .ok (.getfield 9, 3) := by decide +kernel
theorem dX1_add_34 : decode cX1_add 34 = .ok (.aload_n 0, 1) := by decide +kernel
theorem dX1_add_35 : decode cX1_add 35 = .ok (.getfield 21, 3) := by decide +kernel
theorem dX1_add_38 : decode cX1_add 38 = .ok (.iconst 1, 1) := by decide +kernel
theorem dX1_add_39 : decode cX1_add 39 = .ok (.isub, 1) := by decide +kernel
theorem dX1_add_40 : decode cX1_add 40 = .ok (.iaload, 1) := by decide +kernel
theorem dX1_add_41 : decode cX1_add 41 = .ok (.iload_n 1, 1) := by decide +kernel
theorem dX1_add_42 : decode cX1_add 42 = .ok (.if_icmp .ne 7, 3) := by decide +kernel
theorem dX1_add_45 : decode cX1_add 45 = .ok (.iconst 1, 1) := by decide +kernel
theorem dX1_add_46 : decode cX1_add 46 = .ok (.goto 4, 3) := by decide +kernel
theorem dX1_add_49 : decode cX1_add 49 = .ok (.iconst 0, 1) := by decide +kernel
theorem dX1_add_50 : decode cX1_add 50 = .ok (.istore_n 2, 1) := by decide +kernel
theorem dX1_add_51 : decode cX1_add 51 = .ok (.iload_n 2, 1) := by decide +kernel
theorem dX1_add_52 : decode cX1_add 52 = .ok (.ifCond .ne 35, 3) := by decide +kernel
theorem dX1_add_55 : decode cX1_add 55 = .ok (.aload_n 0, 1) := by decide +kernel
theorem dX1_add_56 : decode cX1_add 56 = .ok (.getfield 21, 3) := by decide +kernel
theorem dX1_add_59 : decode cX1_add 59 = .ok (.aload_n 0, 1) := by decide +kernel
theorem dX1_add_60 : decode cX1_add 60 = .ok (.getfield 9, 3) := by decide +kernel
theorem dX1_add_63 : decode cX1_add 63 = .ok (.arraylength, 1) := by decide +kernel
theorem dX1_add_64 : decode cX1_add 64 = .ok (.if_icmp .ge 23, 3) := by decide +kernel
theorem dX1_add_67 : decode cX1_add 67 = .ok (.aload_n 0, 1) := by decide +kernel
theorem dX1_add_68 : decode cX1_add 68 = .ok (.getfield 9, 3) := by decide +kernel
theorem dX1_add_71 : decode cX1_add 71 = .ok (.aload_n 0, 1) := by decide +kernel
theorem dX1_add_72 : decode cX1_add 72 = .ok (.getfield 21, 3) := by decide +kernel
theorem dX1_add_75 : decode cX1_add 75 = .ok (.iload_n 1, 1) := by decide +kernel
theorem dX1_add_76 : decode cX1_add 76 = .ok (.iastore, 1) := by decide +kernel
theorem dX1_add_77 : decode cX1_add 77 = .ok (.aload_n 0, 1) := by decide +kernel
theorem dX1_add_78 : decode cX1_add 78 = .ok (.dup, 1) := by decide +kernel
theorem dX1_add_79 : decode cX1_add 79 = .ok (.getfield 21, 3) := by decide +kernel
theorem dX1_add_82 : decode cX1_add 82 = .ok (.iconst 1, 1) := by decide +kernel
theorem dX1_add_83 : decode cX1_add 83 = .ok (.iadd, 1) := by decide +kernel
theorem dX1_add_84 : decode cX1_add 84 = .ok (.putfield 21, 3) := by decide +kernel
theorem dX1_add_87 : decode cX1_add 87 = .ok (.return_, 1) := by decide +kernel
theorem dX1_countResults_0 : decode cX1_countResults 0 = .ok (.aload_n 0, 1) := by decide +kernel
theorem dX1_countResults_1 : decode cX1_countResults 1 = .ok (.getfield 25, 3) := by decide +kernel
theorem dX1_countResults_4 : decode cX1_countResults 4 = .ok (.ifCond .eq 7, 3) := by decide +kernel
theorem dX1_countResults_7 : decode cX1_countResults 7 = .ok (.iconst 1, 1) := by decide +kernel
theorem dX1_countResults_8 : decode cX1_countResults 8 = .ok (.goto 4, 3) := by decide +kernel
theorem dX1_countResults_11 : decode cX1_countResults 11 = .ok (.iconst 0, 1) := by decide +kernel
theorem dX1_countResults_12 : decode cX1_countResults 12 = .ok (.istore_n 2, 1) := by decide +kernel
theorem dX1_countResults_13 : decode cX1_countResults 13 = .ok (.iconst 0, 1) := by decide +kernel
theorem dX1_countResults_14 : decode cX1_countResults 14 = .ok (.istore_n 3, 1) := by decide +kernel
theorem dX1_countResults_15 : decode cX1_countResults 15 = .ok (.iload_n 3, 1) := by decide +kernel
theorem dX1_countResults_16 : decode cX1_countResults 16 = .ok (.aload_n 0, 1) := by decide +kernel
theorem dX1_countResults_17 : decode cX1_countResults 17 = .ok (.getfield 21, 3) := by decide +kernel
theorem dX1_countResults_20 : decode cX1_countResults 20 = .ok (.if_icmp .ge 49, 3) := by decide +kernel
theorem dX1_countResults_23 : decode cX1_countResults 23 = .ok (.iload_n 3, 1) := by decide +kernel
theorem dX1_countResults_24 : decode cX1_countResults 24 = .ok (.aload_n 0, 1) := by decide +kernel
theorem dX1_countResults_25 : decode cX1_countResults 25 = .ok (.getfield 15, 3) := by decide +kernel
theorem dX1_countResults_28 : decode cX1_countResults 28 = .ok (.arraylength, 1) := by decide +kernel
theorem dX1_countResults_29 : decode cX1_countResults 29 = .ok (.if_icmp .ge 40, 3) := by decide +kernel
theorem dX1_countResults_32 : decode cX1_countResults 32 = .ok (.aload_n 0, 1) := by decide +kernel
theorem dX1_countResults_33 : decode cX1_countResults 33 = .ok (.getfield 15, 3) := by decide +kernel
theorem dX1_countResults_36 : decode cX1_countResults 36 = .ok (.iload_n 3, 1) := by decide +kernel
theorem dX1_countResults_37 : decode cX1_countResults 37 = .ok (.aload_n 1, 1) := by decide +kernel
theorem dX1_countResults_38 : decode cX1_countResults 38 = .ok (.aload_n 1, 1) := by decide +kernel
theorem dX1_countResults_39 : decode cX1_countResults 39 = .ok (.getfield 42, 3) := by decide +kernel
theorem dX1_countResults_42 : decode cX1_countResults 42 = .ok (.aload_n 0, 1) := by decide +kernel
theorem dX1_countResults_43 : decode cX1_countResults 43 = .ok (.getfield 9, 3) := by decide +kernel
theorem dX1_countResults_46 : decode cX1_countResults 46 = .ok (.iload_n 3, 1) := by decide +kernel
theorem dX1_countResults_47 : decode cX1_countResults 47 = .ok (.iaload, 1) := by decide +kernel
theorem dX1_countResults_48 : decode cX1_countResults 48 = .ok (.invokevirtual 43, 3) := by decide +kernel
theorem dX1_countResults_51 : decode cX1_countResults 51 = .ok (.iastore, 1) := by decide +kernel
theorem dX1_countResults_52 : decode cX1_countResults 52 = .ok (.aload_n 0, 1) := by decide +kernel
theorem dX1_countResults_53 : decode cX1_countResults 53 = .ok (.iload_n 3, 1) := by decide +kernel
theorem dX1_countResults_54 : decode cX1_countResults 54 = .ok (.invokevirtual 47, 3) := by decide +kernel
theorem dX1_countResults_57 : decode cX1_countResults 57 = .ok (.ifCond .eq 6, 3) := by decide +kernel
theorem dX1_countResults_60 : decode cX1_countResults 60 = .ok (.iinc 2 1, 3) := by decide +kernel
theorem dX1_countResults_63 : decode cX1_countResults 63 = .ok (.iinc 3 1, 3) := by decide +kernel
theorem dX1_countResults_66 : decode cX1_countResults 66 = .ok (.goto (-51), 3) := by decide +kernel
theorem dX1_countResults_69 : decode cX1_countResults 69 = .ok (.iload_n 2, 1) := by decide +kernel
theorem dX1_countResults_70 : decode cX1_countResults 70 = .ok (.ireturn, 1) := by decide +kernel
theorem dX1_isNew_0 : decode cX1_isNew 0 = .ok (.iconst 0, 1) := by decide +kernel
theorem dX1_isNew_1 : decode cX1_isNew 1 = .ok (.istore_n 2, 1) := by decide +kernel
theorem dX1_isNew_2 : decode cX1_isNew 2 = .ok (.iload_n 2, 1) := by decide +kernel
theorem dX1_isNew_3 : decode cX1_isNew 3 = .ok (.iload_n 1, 1) := by decide +kernel
theorem dX1_isNew_4 : decode cX1_isNew 4 = .ok (.if_icmp .ge 26, 3) := by decide +kernel
theorem dX1_isNew_7 : decode cX1_isNew 7 = .ok (.aload_n 0, 1) := by decide +kernel
theorem dX1_isNew_8 : decode cX1_isNew 8 = .ok (.getfield 15, 3) := by decide +kernel
theorem dX1_isNew_11 : decode cX1_isNew 11 = .ok (.iload_n 2, 1) := by decide +kernel
theorem dX1_isNew_12 : decode cX1_isNew 12 = .ok (.iaload, 1) := by decide +kernel
theorem dX1_isNew_13 : decode cX1_isNew 13 = .ok (.aload_n 0, 1) := by decide +kernel
theorem dX1_isNew_14 : decode cX1_isNew 14 = .ok (.getfield 15, 3) := by decide +kernel
theorem dX1_isNew_17 : decode cX1_isNew 17 = .ok (.iload_n 1, 1) := by decide +kernel
theorem dX1_isNew_18 : decode cX1_isNew 18 = .ok (.iaload, 1) := by decide +kernel
theorem dX1_isNew_19 : decode cX1_isNew 19 = .ok (.if_icmp .ne 5, 3) := by decide +kernel
theorem dX1_isNew_22 : decode cX1_isNew 22 = .ok (.iconst 0, 1) := by decide +kernel
theorem dX1_isNew_23 : decode cX1_isNew 23 = .ok (.ireturn, 1) := by decide +kernel
theorem dX1_isNew_24 : decode cX1_isNew 24 = .ok (.iinc 2 1, 3) := by decide +kernel
theorem dX1_isNew_27 : decode cX1_isNew 27 = .ok (.goto (-25), 3) := by decide +kernel
theorem dX1_isNew_30 : decode cX1_isNew 30 = .ok (.iconst 1, 1) := by decide +kernel
theorem dX1_isNew_31 : decode cX1_isNew 31 = .ok (.ireturn, 1) := by decide +kernel
theorem dX1_reaches_0 : decode cX1_reaches 0 = .ok (.iconst 0, 1) := by decide +kernel
theorem dX1_reaches_1 : decode cX1_reaches 1 = .ok (.istore 4, 2) := by decide +kernel
theorem dX1_reaches_3 : decode cX1_reaches 3 = .ok (.iload 4, 2) := by decide +kernel
theorem dX1_reaches_5 : decode cX1_reaches 5 = .ok (.aload_n 0, 1) := by decide +kernel
theorem dX1_reaches_6 : decode cX1_reaches 6 = .ok (.getfield 21, 3) := by decide +kernel
theorem dX1_reaches_9 : decode cX1_reaches 9 = .ok (.if_icmp .ge 39, 3) := by decide +kernel
theorem dX1_reaches_12 : decode cX1_reaches 12 = .ok (.iload 4, 2) := by decide +kernel
theorem dX1_reaches_14 : decode cX1_reaches 14 = .ok (.aload_n 0, 1) := by decide +kernel
theorem dX1_reaches_15 : decode cX1_reaches 15 = .ok (.getfield 9, 3) := by decide +kernel
theorem dX1_reaches_18 : decode cX1_reaches 18 = .ok (.arraylength, 1) := by decide +kernel
theorem dX1_reaches_19 : decode cX1_reaches 19 = .ok (.if_icmp .ge 29, 3) := by decide +kernel
theorem dX1_reaches_22 : decode cX1_reaches 22 = .ok (.aload_n 1, 1) := by decide +kernel
theorem dX1_reaches_23 : decode cX1_reaches 23 = .ok (.aload_n 2, 1) := by decide +kernel
theorem dX1_reaches_24 : decode cX1_reaches 24 = .ok (.aload_n 0, 1) := by decide +kernel
theorem dX1_reaches_25 : decode cX1_reaches 25 = .ok (.getfield 9, 3) := by decide +kernel
theorem dX1_reaches_28 : decode cX1_reaches 28 = .ok (.iload 4, 2) := by decide +kernel
theorem dX1_reaches_30 : decode cX1_reaches 30 = .ok (.iaload, 1) := by decide +kernel
theorem dX1_reaches_31 : decode cX1_reaches 31 = .ok (.invokevirtual 43, 3) := by decide +kernel
theorem dX1_reaches_34 : decode cX1_reaches 34 = .ok (.iconst 1, 1) := by decide +kernel
theorem dX1_reaches_35 : decode cX1_reaches 35 = .ok (.iand, 1) := by decide +kernel
theorem dX1_reaches_36 : decode cX1_reaches 36 = .ok (.iload_n 3, 1) := by decide +kernel
theorem dX1_reaches_37 : decode cX1_reaches 37 = .ok (.if_icmp .ne 5, 3) := by decide +kernel
theorem dX1_reaches_40 : decode cX1_reaches 40 = .ok (.iconst 1, 1) := by decide +kernel
theorem dX1_reaches_41 : decode cX1_reaches 41 = .ok (.ireturn, 1) := by decide +kernel
theorem dX1_reaches_42 : decode cX1_reaches 42 = .ok (.iinc 4 1, 3) := by decide +kernel
theorem dX1_reaches_45 : decode cX1_reaches 45 = .ok (.goto (-42), 3) := by decide +kernel
theorem dX1_reaches_48 : decode cX1_reaches 48 = .ok (.iconst 0, 1) := by decide +kernel
theorem dX1_reaches_49 : decode cX1_reaches 49 = .ok (.ireturn, 1) := by decide +kernel
theorem dX1_countForced_0 : decode cX1_countForced 0 = .ok (.aload_n 1, 1) := by decide +kernel
theorem dX1_countForced_1 : decode cX1_countForced 1 = .ok (.getfield 42, 3) := by decide +kernel
theorem dX1_countForced_4 : decode cX1_countForced 4 = .ok (.iconst 0, 1) := by decide +kernel
theorem dX1_countForced_5 : decode cX1_countForced 5 = .ok (.aload_n 0, 1) := by decide +kernel
theorem dX1_countForced_6 : decode cX1_countForced 6 = .ok (.getfield 18, 3) := by decide +kernel
theorem dX1_countForced_9 : decode cX1_countForced 9 = .ok (.iconst 0, 1) := by decide +kernel
theorem dX1_countForced_10 : decode cX1_countForced 10 = .ok (.bipush 8, 2) := by decide +kernel
theorem dX1_countForced_12 : decode cX1_countForced 12 = .ok (.invokestatic 51, 3) := by decide +kernel
theorem dX1_countForced_15 : decode cX1_countForced 15 = .ok (.iconst 1, 1) := by decide +kernel
theorem dX1_countForced_16 : decode cX1_countForced 16 = .ok (.iload_n 3, 1) := by decide +kernel
theorem dX1_countForced_17 : decode cX1_countForced 17 = .ok (.iload_n 2, 1) := by decide +kernel
theorem dX1_countForced_18 : decode cX1_countForced 18 = .ok (.invokestatic 57, 3) := by decide +kernel
theorem dX1_countForced_21 : decode cX1_countForced 21 = .ok (.imul, 1) := by decide +kernel
theorem dX1_countForced_22 : decode cX1_countForced 22 = .ok (.ishl, 1) := by decide +kernel
theorem dX1_countForced_23 : decode cX1_countForced 23 = .ok (.istore 4, 2) := by decide +kernel
theorem dX1_countForced_25 : decode cX1_countForced 25 = .ok (.iconst 0, 1) := by decide +kernel
theorem dX1_countForced_26 : decode cX1_countForced 26 = .ok (.istore 5, 2) := by decide +kernel
theorem dX1_countForced_28 : decode cX1_countForced 28 = .ok (.iconst 0, 1) := by decide +kernel
theorem dX1_countForced_29 : decode cX1_countForced 29 = .ok (.istore 6, 2) := by decide +kernel
theorem dX1_countForced_31 : decode cX1_countForced 31 = .ok (.iload 6, 2) := by decide +kernel
theorem dX1_countForced_33 : decode cX1_countForced 33 = .ok (.iload 4, 2) := by decide +kernel
theorem dX1_countForced_35 : decode cX1_countForced 35 = .ok (.if_icmp .ge 33, 3) := by decide +kernel
theorem dX1_countForced_38 : decode cX1_countForced 38 = .ok (.aload_n 0, 1) := by decide +kernel
theorem dX1_countForced_39 : decode cX1_countForced 39 = .ok (.iload 6, 2) := by decide +kernel
theorem dX1_countForced_41 : decode cX1_countForced 41 = .ok (.iload_n 2, 1) := by decide +kernel
theorem dX1_countForced_42 : decode cX1_countForced 42 = .ok (.iload_n 3, 1) := by decide +kernel
theorem dX1_countForced_43 : decode cX1_countForced 43 = .ok (.invokevirtual 62, 3) := by decide +kernel
theorem dX1_countForced_46 : decode cX1_countForced 46 = .ok (.aload_n 0, 1) := by decide +kernel
theorem dX1_countForced_47 : decode cX1_countForced 47 = .ok (.aload_n 1, 1) := by decide +kernel
theorem dX1_countForced_48 : decode cX1_countForced 48 = .ok (.aload_n 0, 1) := by decide +kernel
theorem dX1_countForced_49 : decode cX1_countForced 49 = .ok (.getfield 18, 3) := by decide +kernel
theorem dX1_countForced_52 : decode cX1_countForced 52 = .ok (.iconst 1, 1) := by decide +kernel
theorem dX1_countForced_53 : decode cX1_countForced 53 = .ok (.invokevirtual 66, 3) := by decide +kernel
theorem dX1_countForced_56 : decode cX1_countForced 56 = .ok (.ifCond .eq 6, 3) := by decide +kernel
theorem dX1_countForced_59 : decode cX1_countForced 59 = .ok (.iinc 5 1, 3) := by decide +kernel
theorem dX1_countForced_62 : decode cX1_countForced 62 = .ok (.iinc 6 1, 3) := by decide +kernel
theorem dX1_countForced_65 : decode cX1_countForced 65 = .ok (.goto (-34), 3) := by decide +kernel
theorem dX1_countForced_68 : decode cX1_countForced 68 = .ok (.iload 5, 2) := by decide +kernel
theorem dX1_countForced_70 : decode cX1_countForced 70 = .ok (.ireturn, 1) := by decide +kernel
theorem dX1_spread_0 : decode cX1_spread 0 = .ok (.iload_n 1, 1) := by decide +kernel
theorem dX1_spread_1 : decode cX1_spread 1 = .ok (.istore 4, 2) := by decide +kernel
theorem dX1_spread_3 : decode cX1_spread 3 = .ok (.iconst 0, 1) := by decide +kernel
theorem dX1_spread_4 : decode cX1_spread 4 = .ok (.istore 5, 2) := by decide +kernel
theorem dX1_spread_6 : decode cX1_spread 6 = .ok (.iload 5, 2) := by decide +kernel
theorem dX1_spread_8 : decode cX1_spread 8 = .ok (.bipush 8, 2) := by decide +kernel
theorem dX1_spread_10 : decode cX1_spread 10 = .ok (.if_icmp .ge 39, 3) := by decide +kernel
theorem dX1_spread_13 : decode cX1_spread 13 = .ok (.iload_n 2, 1) := by decide +kernel
theorem dX1_spread_14 : decode cX1_spread 14 = .ok (.iload 5, 2) := by decide +kernel
theorem dX1_spread_16 : decode cX1_spread 16 = .ok (.invokestatic 70, 3) := by decide +kernel
theorem dX1_spread_19 : decode cX1_spread 19 = .ok (.ifCond .eq 24, 3) := by decide +kernel
theorem dX1_spread_22 : decode cX1_spread 22 = .ok (.aload_n 0, 1) := by decide +kernel
theorem dX1_spread_23 : decode cX1_spread 23 = .ok (.getfield 18, 3) := by decide +kernel
theorem dX1_spread_26 : decode cX1_spread 26 = .ok (.iload 5, 2) := by decide +kernel
theorem dX1_spread_28 : decode cX1_spread 28 = .ok (.iload 4, 2) := by decide +kernel
theorem dX1_spread_30 : decode cX1_spread 30 = .ok (.iconst 1, 1) := by decide +kernel
theorem dX1_spread_31 : decode cX1_spread 31 = .ok (.iload_n 3, 1) := by decide +kernel
theorem dX1_spread_32 : decode cX1_spread 32 = .ok (.ishl, 1) := by decide +kernel
theorem dX1_spread_33 : decode cX1_spread 33 = .ok (.iconst 1, 1) := by decide +kernel
theorem dX1_spread_34 : decode cX1_spread 34 = .ok (.isub, 1) := by decide +kernel
theorem dX1_spread_35 : decode cX1_spread 35 = .ok (.iand, 1) := by decide +kernel
theorem dX1_spread_36 : decode cX1_spread 36 = .ok (.iastore, 1) := by decide +kernel
theorem dX1_spread_37 : decode cX1_spread 37 = .ok (.iload 4, 2) := by decide +kernel
theorem dX1_spread_39 : decode cX1_spread 39 = .ok (.iload_n 3, 1) := by decide +kernel
theorem dX1_spread_40 : decode cX1_spread 40 = .ok (.iushr, 1) := by decide +kernel
theorem dX1_spread_41 : decode cX1_spread 41 = .ok (.istore 4, 2) := by decide +kernel
theorem dX1_spread_43 : decode cX1_spread 43 = .ok (.iinc 5 1, 3) := by decide +kernel
theorem dX1_spread_46 : decode cX1_spread 46 = .ok (.goto (-40), 3) := by decide +kernel
theorem dX1_spread_49 : decode cX1_spread 49 = .ok (.return_, 1) := by decide +kernel
theorem dX2_playRound_0 : decode cX2_playRound 0 = .ok (.aload_n 0, 1) := by decide +kernel
theorem dX2_playRound_1 : decode cX2_playRound 1 = .ok (.invokevirtual 9, 3) := by decide +kernel
theorem dX2_playRound_4 : decode cX2_playRound 4 = .ok (.aload_n 0, 1) := by decide +kernel
theorem dX2_playRound_5 : decode cX2_playRound 5 = .ok (.iload_n 1, 1) := by decide +kernel
theorem dX2_playRound_6 : decode cX2_playRound 6 = .ok (.invokestatic 14, 3) := by decide +kernel
theorem dX2_playRound_9 : decode cX2_playRound 9 = .ok (.aload_n 0, 1) := by decide +kernel
theorem dX2_playRound_10 : decode cX2_playRound 10 = .ok (.getfield 20, 3) := by decide +kernel
theorem dX2_playRound_13 : decode cX2_playRound 13 = .ok (.iconst 1, 1) := by decide +kernel
theorem dX2_playRound_14 : decode cX2_playRound 14 = .ok (.if_icmp .ne 11, 3) := by decide +kernel
theorem dX2_playRound_17 : decode cX2_playRound 17 = .ok (.aload_n 0, 1) := by decide +kernel
theorem dX2_playRound_18 : decode cX2_playRound 18 = .ok (.invokestatic 24, 3) := by decide +kernel
theorem dX2_playRound_21 : decode cX2_playRound 21 = .ok (.aload_n 0, 1) := by decide +kernel
theorem dX2_playRound_22 : decode cX2_playRound 22 = .ok (.invokestatic 28, 3) := by decide +kernel
theorem dX2_playRound_25 : decode cX2_playRound 25 = .ok (.aload_n 0, 1) := by decide +kernel
theorem dX2_playRound_26 : decode cX2_playRound 26 = .ok (.invokevirtual 31, 3) := by decide +kernel
theorem dX2_playRound_29 : decode cX2_playRound 29 = .ok (.bipush (-5), 2) := by decide +kernel
theorem dX2_playRound_31 : decode cX2_playRound 31 = .ok (.if_icmp .ne 6, 3) := by decide +kernel
theorem dX2_playRound_34 : decode cX2_playRound 34 = .ok (.bipush (-5), 2) := by decide +kernel
theorem dX2_playRound_36 : decode cX2_playRound 36 = .ok (.ireturn, 1) := by decide +kernel
theorem dX2_playRound_37 : decode cX2_playRound 37 = .ok (.aload_n 0, 1) := by decide +kernel
theorem dX2_playRound_38 : decode cX2_playRound 38 = .ok (.invokestatic 35, 3) := by decide +kernel
theorem dX2_playRound_41 : decode cX2_playRound 41 = .ok (.aload_n 0, 1) := by decide +kernel
theorem dX2_playRound_42 : decode cX2_playRound 42 = .ok (.invokestatic 38, 3) := by decide +kernel
theorem dX2_playRound_45 : decode cX2_playRound 45 = .ok (.aload_n 0, 1) := by decide +kernel
theorem dX2_playRound_46 : decode cX2_playRound 46 = .ok (.invokevirtual 41, 3) := by decide +kernel
theorem dX2_playRound_49 : decode cX2_playRound 49 = .ok (.ireturn, 1) := by decide +kernel
theorem dX2_commitAll_0 : decode cX2_commitAll 0 = .ok (.iload_n 1, 1) := by decide +kernel
theorem dX2_commitAll_1 : decode cX2_commitAll 1 = .ok (.istore_n 2, 1) := by decide +kernel
theorem dX2_commitAll_2 : decode cX2_commitAll 2 = .ok (.iconst 0, 1) := by decide +kernel
theorem dX2_commitAll_3 : decode cX2_commitAll 3 = .ok (.istore_n 3, 1) := by decide +kernel
theorem dX2_commitAll_4 : decode cX2_commitAll 4 = .ok (.iload_n 3, 1) := by decide +kernel
theorem dX2_commitAll_5 : decode cX2_commitAll 5 = .ok (.bipush 8, 2) := by decide +kernel
theorem dX2_commitAll_7 : decode cX2_commitAll 7 = .ok (.if_icmp .ge 70, 3) := by decide +kernel
theorem dX2_commitAll_10 : decode cX2_commitAll 10 = .ok (.aload_n 0, 1) := by decide +kernel
theorem dX2_commitAll_11 : decode cX2_commitAll 11 = .ok (.getfield 44, 3) := by decide +kernel
theorem dX2_commitAll_14 : decode cX2_commitAll 14 = .ok (.iload_n 3, 1) := by decide +kernel
theorem dX2_commitAll_15 : decode cX2_commitAll 15 = .ok (.invokestatic 47, 3) := by decide +kernel
theorem dX2_commitAll_18 : decode cX2_commitAll 18 = .ok (.ifCond .eq 53, 3) := by decide +kernel
theorem dX2_commitAll_21 : decode cX2_commitAll 21 = .ok (.iload_n 2, 1) := by decide +kernel
theorem dX2_commitAll_22 : decode cX2_commitAll 22 = .ok (.invokestatic 51, 3) := by decide +kernel
theorem dX2_commitAll_25 : decode cX2_commitAll 25 = .ok (.istore_n 2, 1) := by decide +kernel
theorem dX2_commitAll_26 : decode cX2_commitAll 26 = .ok (.iload_n 2, 1) := by decide +kernel
theorem dX2_commitAll_27 : decode cX2_commitAll 27 = .ok (.invokestatic 55, 3) := by decide +kernel
theorem dX2_commitAll_30 : decode cX2_commitAll 30 = .ok (.sipush 1019, 3) := by decide +kernel
theorem dX2_commitAll_33 : decode cX2_commitAll 33 = .ok (.irem, 1) := by decide +kernel
theorem dX2_commitAll_34 : decode cX2_commitAll 34 = .ok (.istore 4, 2) := by decide +kernel
theorem dX2_commitAll_36 : decode cX2_commitAll 36 = .ok (.iload_n 2, 1) := by decide +kernel
theorem dX2_commitAll_37 : decode cX2_commitAll 37 = .ok (.invokestatic 51, 3) := by decide +kernel
theorem dX2_commitAll_40 : decode cX2_commitAll 40 = .ok (.istore_n 2, 1) := by decide +kernel
theorem dX2_commitAll_41 : decode cX2_commitAll 41 = .ok (.iload_n 2, 1) := by decide +kernel
theorem dX2_commitAll_42 : decode cX2_commitAll 42 = .ok (.invokestatic 55, 3) := by decide +kernel
theorem dX2_commitAll_45 : decode cX2_commitAll 45 = .ok (.istore 5, 2) := by decide +kernel
theorem dX2_commitAll_47 : decode cX2_commitAll 47 = .ok (.aload_n 0, 1) := by decide +kernel
theorem dX2_commitAll_48 : decode cX2_commitAll 48 = .ok (.aload_n 0, 1) := by decide +kernel
theorem dX2_commitAll_49 : decode cX2_commitAll 49 = .ok (.iload 4, 2) := by decide +kernel
theorem dX2_commitAll_51 : decode cX2_commitAll 51 = .ok (.iload 5, 2) := by decide +kernel
theorem dX2_commitAll_53 : decode cX2_commitAll 53 = .ok (.invokevirtual 58, 3) := by decide +kernel
theorem dX2_commitAll_56 : decode cX2_commitAll 56 = .ok (.invokevirtual 62, 3) := by decide +kernel
theorem dX2_commitAll_59 : decode cX2_commitAll 59 = .ok (.ifCond .ne 12, 3) := by decide +kernel
theorem dX2_commitAll_62 : decode cX2_commitAll 62 = .ok (.aload_n 0, 1) := by decide +kernel
theorem dX2_commitAll_63 : decode cX2_commitAll 63 = .ok (.iload_n 3, 1) := by decide +kernel
theorem dX2_commitAll_64 : decode cX2_commitAll 64 = .ok (.iload 4, 2) := by decide +kernel
theorem dX2_commitAll_66 : decode cX2_commitAll 66 = .ok (.iload 5, 2) := by decide +kernel
theorem dX2_commitAll_68 : decode cX2_commitAll 68 = .ok (.invokevirtual 66, 3) := by decide +kernel
theorem dX2_commitAll_71 : decode cX2_commitAll 71 = .ok (.iinc 3 1, 3) := by decide +kernel
theorem dX2_commitAll_74 : decode cX2_commitAll 74 = .ok (.goto (-70), 3) := by decide +kernel
theorem dX2_commitAll_77 : decode cX2_commitAll 77 = .ok (.return_, 1) := by decide +kernel
theorem dX2_cheat_0 : decode cX2_cheat 0 = .ok (.iconst 0, 1) := by decide +kernel
theorem dX2_cheat_1 : decode cX2_cheat 1 = .ok (.istore_n 1, 1) := by decide +kernel
theorem dX2_cheat_2 : decode cX2_cheat 2 = .ok (.iload_n 1, 1) := by decide +kernel
theorem dX2_cheat_3 : decode cX2_cheat 3 = .ok (.bipush 8, 2) := by decide +kernel
theorem dX2_cheat_5 : decode cX2_cheat 5 = .ok (.if_icmp .ge 52, 3) := by decide +kernel
theorem dX2_cheat_8 : decode cX2_cheat 8 = .ok (.aload_n 0, 1) := by decide +kernel
theorem dX2_cheat_9 : decode cX2_cheat 9 = .ok (.getfield 70, 3) := by decide +kernel
theorem dX2_cheat_12 : decode cX2_cheat 12 = .ok (.iload_n 1, 1) := by decide +kernel
theorem dX2_cheat_13 : decode cX2_cheat 13 = .ok (.invokestatic 47, 3) := by decide +kernel
theorem dX2_cheat_16 : decode cX2_cheat 16 = .ok (.ifCond .eq 35, 3) := by decide +kernel
theorem dX2_cheat_19 : decode cX2_cheat 19 = .ok (.aload_n 0, 1) := by decide +kernel
theorem dX2_cheat_20 : decode cX2_cheat 20 = .ok (.getfield 73, 3) := by decide +kernel
theorem dX2_cheat_23 : decode cX2_cheat 23 = .ok (.iload_n 1, 1) := by decide +kernel
theorem dX2_cheat_24 : decode cX2_cheat 24 = .ok (.aaload, 1) := by decide +kernel
theorem dX2_cheat_25 : decode cX2_cheat 25 = .ok (.getfield 77, 3) := by decide +kernel
theorem dX2_cheat_28 : decode cX2_cheat 28 = .ok (.iconst 3, 1) := by decide +kernel
theorem dX2_cheat_29 : decode cX2_cheat 29 = .ok (.if_icmp .ne 22, 3) := by decide +kernel
theorem dX2_cheat_32 : decode cX2_cheat 32 = .ok (.aload_n 0, 1) := by decide +kernel
theorem dX2_cheat_33 : decode cX2_cheat 33 = .ok (.getfield 73, 3) := by decide +kernel
theorem dX2_cheat_36 : decode cX2_cheat 36 = .ok (.iload_n 1, 1) := by decide +kernel
theorem dX2_cheat_37 : decode cX2_cheat 37 = .ok (.aaload, 1) := by decide +kernel
theorem dX2_cheat_38 : decode cX2_cheat 38 = .ok (.aload_n 0, 1) := by decide +kernel
theorem dX2_cheat_39 : decode cX2_cheat 39 = .ok (.iload_n 1, 1) := by decide +kernel
theorem dX2_cheat_40 : decode cX2_cheat 40 = .ok (.invokestatic 82, 3) := by decide +kernel
theorem dX2_cheat_43 : decode cX2_cheat 43 = .ok (.iconst 1, 1) := by decide +kernel
theorem dX2_cheat_44 : decode cX2_cheat 44 = .ok (.aload_n 0, 1) := by decide +kernel
theorem dX2_cheat_45 : decode cX2_cheat 45 = .ok (.getfield 86, 3) := by decide +kernel
theorem dX2_cheat_48 : decode cX2_cheat 48 = .ok (.invokevirtual 89, 3) := by decide +kernel
theorem dX2_cheat_51 : decode cX2_cheat 51 = .ok (.iinc 1 1, 3) := by decide +kernel
theorem dX2_cheat_54 : decode cX2_cheat 54 = .ok (.goto (-52), 3) := by decide +kernel
theorem dX2_cheat_57 : decode cX2_cheat 57 = .ok (.return_, 1) := by decide +kernel
theorem dX2_memberAfter_0 : decode cX2_memberAfter 0 = .ok (.iconst 1, 1) := by decide +kernel
theorem dX2_memberAfter_1 : decode cX2_memberAfter 1 = .ok (.istore_n 2, 1) := by decide +kernel
theorem dX2_memberAfter_2 : decode cX2_memberAfter 2 = .ok (.iload_n 2, 1) := by decide +kernel
theorem dX2_memberAfter_3 : decode cX2_memberAfter 3 = .ok (.bipush 8, 2) := by decide +kernel
theorem dX2_memberAfter_5 : decode cX2_memberAfter 5 = .ok (.if_icmp .ge 29, 3) := by decide +kernel
theorem dX2_memberAfter_8 : decode cX2_memberAfter 8 = .ok (.iload_n 1, 1) := by decide +kernel
theorem dX2_memberAfter_9 : decode cX2_memberAfter 9 = .ok (.iload_n 2, 1) := by decide +kernel
theorem dX2_memberAfter_10 : decode cX2_memberAfter 10 = .ok (.iadd, 1) := by decide +kernel
theorem dX2_memberAfter_11 : decode cX2_memberAfter 11 = .ok (.bipush 8, 2) := by decide +kernel
theorem dX2_memberAfter_13 : decode cX2_memberAfter 13 = .ok (.irem, 1) := by decide +kernel
theorem dX2_memberAfter_14 : decode cX2_memberAfter 14 = .ok (.istore_n 3, 1) := by decide +kernel
theorem dX2_memberAfter_15 : decode cX2_memberAfter 15 = .ok (.aload_n 0, 1) := by decide +kernel
theorem dX2_memberAfter_16 : decode cX2_memberAfter 16 = .ok (.getfield 44, 3) := by decide +kernel
theorem dX2_memberAfter_19 : decode cX2_memberAfter 19 = .ok (.iload_n 3, 1) := by decide +kernel
theorem dX2_memberAfter_20 : decode cX2_memberAfter 20 = .ok (.invokestatic 47, 3) := by decide +kernel
theorem dX2_memberAfter_23 : decode cX2_memberAfter 23 = .ok (.ifCond .eq 5, 3) := by decide +kernel
theorem dX2_memberAfter_26 : decode cX2_memberAfter 26 = .ok (.iload_n 3, 1) := by decide +kernel
theorem dX2_memberAfter_27 : decode cX2_memberAfter 27 = .ok (.ireturn, 1) := by decide +kernel
theorem dX2_memberAfter_28 : decode cX2_memberAfter 28 = .ok (.iinc 2 1, 3) := by decide +kernel
theorem dX2_memberAfter_31 : decode cX2_memberAfter 31 = .ok (.goto (-29), 3) := by decide +kernel
theorem dX2_memberAfter_34 : decode cX2_memberAfter 34 = .ok (.iload_n 1, 1) := by decide +kernel
theorem dX2_memberAfter_35 : decode cX2_memberAfter 35 = .ok (.ireturn, 1) := by decide +kernel
theorem dX2_complainAll_0 : decode cX2_complainAll 0 = .ok (.iconst 0, 1) := by decide +kernel
theorem dX2_complainAll_1 : decode cX2_complainAll 1 = .ok (.istore_n 1, 1) := by decide +kernel
theorem dX2_complainAll_2 : decode cX2_complainAll 2 = .ok (.iload_n 1, 1) := by decide +kernel
theorem dX2_complainAll_3 : decode cX2_complainAll 3 = .ok (.bipush 8, 2) := by decide +kernel
theorem dX2_complainAll_5 : decode cX2_complainAll 5 = .ok (.if_icmp .ge 71, 3) := by decide +kernel
theorem dX2_complainAll_8 : decode cX2_complainAll 8 = .ok (.iconst 0, 1) := by decide +kernel
theorem dX2_complainAll_9 : decode cX2_complainAll 9 = .ok (.istore_n 2, 1) := by decide +kernel
theorem dX2_complainAll_10 : decode cX2_complainAll 10 = .ok (.iload_n 2, 1) := by decide +kernel
theorem dX2_complainAll_11 : decode cX2_complainAll 11 = .ok (.bipush 8, 2) := by decide +kernel
theorem dX2_complainAll_13 : decode cX2_complainAll 13 = .ok (.if_icmp .ge 57, 3) := by decide +kernel
theorem dX2_complainAll_16 : decode cX2_complainAll 16 = .ok (.iload_n 1, 1) := by decide +kernel
theorem dX2_complainAll_17 : decode cX2_complainAll 17 = .ok (.iload_n 2, 1) := by decide +kernel
theorem dX2_complainAll_18 : decode cX2_complainAll 18 = .ok (.if_icmp .eq 46, 3) := by decide +kernel
theorem dX2_complainAll_21 : decode cX2_complainAll 21 = .ok (.aload_n 0, 1) := by decide +kernel
theorem dX2_complainAll_22 : decode cX2_complainAll 22 = .ok (.getfield 44, 3) := by decide +kernel
theorem dX2_complainAll_25 : decode cX2_complainAll 25 = .ok (.iload_n 1, 1) := by decide +kernel
theorem dX2_complainAll_26 : decode cX2_complainAll 26 = .ok (.invokestatic 47, 3) := by decide +kernel
theorem dX2_complainAll_29 : decode cX2_complainAll 29 = .ok (.ifCond .eq 35, 3) := by decide +kernel
theorem dX2_complainAll_32 : decode cX2_complainAll 32 = .ok (.aload_n 0, 1) := by decide +kernel
theorem dX2_complainAll_33 : decode cX2_complainAll 33 = .ok (.getfield 70, 3) := by decide +kernel
theorem dX2_complainAll_36 : decode cX2_complainAll 36 = .ok (.iload_n 2, 1) := by decide +kernel
theorem dX2_complainAll_37 : decode cX2_complainAll 37 = .ok (.invokestatic 47, 3) := by decide +kernel
theorem dX2_complainAll_40 : decode cX2_complainAll 40 = .ok (.ifCond .eq 24, 3) := by decide +kernel
theorem dX2_complainAll_43 : decode cX2_complainAll 43 = .ok (.aload_n 0, 1) := by decide +kernel
theorem dX2_complainAll_44 : decode cX2_complainAll 44 = .ok (.getfield 73, 3) := by decide +kernel
theorem dX2_complainAll_47 : decode cX2_complainAll 47 = .ok (.iload_n 2, 1) := by decide +kernel
theorem dX2_complainAll_48 : decode cX2_complainAll 48 = .ok (.aaload, 1) := by decide +kernel
theorem dX2_complainAll_49 : decode cX2_complainAll 49 = .ok (.getfield 92, 3) := by decide +kernel
theorem dX2_complainAll_52 : decode cX2_complainAll 52 = .ok (.iload_n 1, 1) := by decide +kernel
theorem dX2_complainAll_53 : decode cX2_complainAll 53 = .ok (.invokestatic 47, 3) := by decide +kernel
theorem dX2_complainAll_56 : decode cX2_complainAll 56 = .ok (.ifCond .ne 8, 3) := by decide +kernel
theorem dX2_complainAll_59 : decode cX2_complainAll 59 = .ok (.aload_n 0, 1) := by decide +kernel
theorem dX2_complainAll_60 : decode cX2_complainAll 60 = .ok (.iload_n 2, 1) := by decide +kernel
theorem dX2_complainAll_61 : decode cX2_complainAll 61 = .ok (.invokevirtual 95, 3) := by decide +kernel
theorem dX2_complainAll_64 : decode cX2_complainAll 64 = .ok (.iinc 2 1, 3) := by decide +kernel
theorem dX2_complainAll_67 : decode cX2_complainAll 67 = .ok (.goto (-57), 3) := by decide +kernel
theorem dX2_complainAll_70 : decode cX2_complainAll 70 = .ok (.iinc 1 1, 3) := by decide +kernel
theorem dX2_complainAll_73 : decode cX2_complainAll 73 = .ok (.goto (-71), 3) := by decide +kernel
theorem dX2_complainAll_76 : decode cX2_complainAll 76 = .ok (.return_, 1) := by decide +kernel
theorem dX2_openHonest_0 : decode cX2_openHonest 0 = .ok (.iconst 0, 1) := by decide +kernel
theorem dX2_openHonest_1 : decode cX2_openHonest 1 = .ok (.istore_n 1, 1) := by decide +kernel
theorem dX2_openHonest_2 : decode cX2_openHonest 2 = .ok (.iload_n 1, 1) := by decide +kernel
theorem dX2_openHonest_3 : decode cX2_openHonest 3 = .ok (.bipush 8, 2) := by decide +kernel
theorem dX2_openHonest_5 : decode cX2_openHonest 5 = .ok (.if_icmp .ge 51, 3) := by decide +kernel
theorem dX2_openHonest_8 : decode cX2_openHonest 8 = .ok (.aload_n 0, 1) := by decide +kernel
theorem dX2_openHonest_9 : decode cX2_openHonest 9 = .ok (.getfield 73, 3) := by decide +kernel
theorem dX2_openHonest_12 : decode cX2_openHonest 12 = .ok (.iload_n 1, 1) := by decide +kernel
theorem dX2_openHonest_13 : decode cX2_openHonest 13 = .ok (.aaload, 1) := by decide +kernel
theorem dX2_openHonest_14 : decode cX2_openHonest 14 = .ok (.getfield 77, 3) := by decide +kernel
theorem dX2_openHonest_17 : decode cX2_openHonest 17 = .ok (.istore_n 2, 1) := by decide +kernel
theorem dX2_openHonest_18 : decode cX2_openHonest 18 = .ok (.aload_n 0, 1) := by decide +kernel
theorem dX2_openHonest_19 : decode cX2_openHonest 19 = .ok (.getfield 44, 3) := by decide +kernel
theorem dX2_openHonest_22 : decode cX2_openHonest 22 = .ok (.iload_n 1, 1) := by decide +kernel
theorem dX2_openHonest_23 : decode cX2_openHonest 23 = .ok (.invokestatic 47, 3) := by decide +kernel
theorem dX2_openHonest_26 : decode cX2_openHonest 26 = .ok (.ifCond .eq 24, 3) := by decide +kernel
theorem dX2_openHonest_29 : decode cX2_openHonest 29 = .ok (.iload_n 2, 1) := by decide +kernel
theorem dX2_openHonest_30 : decode cX2_openHonest 30 = .ok (.ifCond .eq 8, 3) := by decide +kernel
theorem dX2_openHonest_33 : decode cX2_openHonest 33 = .ok (.iload_n 2, 1) := by decide +kernel
theorem dX2_openHonest_34 : decode cX2_openHonest 34 = .ok (.iconst 3, 1) := by decide +kernel
theorem dX2_openHonest_35 : decode cX2_openHonest 35 = .ok (.if_icmp .ne 15, 3) := by decide +kernel
theorem dX2_openHonest_38 : decode cX2_openHonest 38 = .ok (.aload_n 0, 1) := by decide +kernel
theorem dX2_openHonest_39 : decode cX2_openHonest 39 = .ok (.dup, 1) := by decide +kernel
theorem dX2_openHonest_40 : decode cX2_openHonest 40 = .ok (.getfield 99, 3) := by decide +kernel
theorem dX2_openHonest_43 : decode cX2_openHonest 43 = .ok (.iconst 1, 1) := by decide +kernel
theorem dX2_openHonest_44 : decode cX2_openHonest 44 = .ok (.iload_n 1, 1) := by decide +kernel
theorem dX2_openHonest_45 : decode cX2_openHonest 45 = .ok (.ishl, 1) := by decide +kernel
theorem dX2_openHonest_46 : decode cX2_openHonest 46 = .ok (.ior, 1) := by decide +kernel
theorem dX2_openHonest_47 : decode cX2_openHonest 47 = .ok (.putfield 99, 3) := by decide +kernel
theorem dX2_openHonest_50 : decode cX2_openHonest 50 = .ok (.iinc 1 1, 3) := by decide +kernel
theorem dX2_openHonest_53 : decode cX2_openHonest 53 = .ok (.goto (-51), 3) := by decide +kernel
theorem dX2_openHonest_56 : decode cX2_openHonest 56 = .ok (.return_, 1) := by decide +kernel
theorem dX2_openSelfish_0 : decode cX2_openSelfish 0 = .ok (.iconst 0, 1) := by decide +kernel
theorem dX2_openSelfish_1 : decode cX2_openSelfish 1 = .ok (.istore_n 1, 1) := by decide +kernel
theorem dX2_openSelfish_2 : decode cX2_openSelfish 2 = .ok (.iload_n 1, 1) := by decide +kernel
theorem dX2_openSelfish_3 : decode cX2_openSelfish 3 = .ok (.bipush 8, 2) := by decide +kernel
theorem dX2_openSelfish_5 : decode cX2_openSelfish 5 = .ok (.if_icmp .ge 66, 3) := by decide +kernel
theorem dX2_openSelfish_8 : decode cX2_openSelfish 8 = .ok (.aload_n 0, 1) := by decide +kernel
theorem dX2_openSelfish_9 : decode cX2_openSelfish 9 = .ok (.getfield 44, 3) := by decide +kernel
theorem dX2_openSelfish_12 : decode cX2_openSelfish 12 = .ok (.iload_n 1, 1) := by decide +kernel
theorem dX2_openSelfish_13 : decode cX2_openSelfish 13 = .ok (.invokestatic 47, 3) := by decide +kernel
theorem dX2_openSelfish_16 : decode cX2_openSelfish 16 = .ok (.ifCond .eq 49, 3) := by decide +kernel
theorem dX2_openSelfish_19 : decode cX2_openSelfish 19 = .ok (.aload_n 0, 1) := by decide +kernel
theorem dX2_openSelfish_20 : decode cX2_openSelfish 20 = .ok (.getfield 73, 3) := by decide +kernel
theorem dX2_openSelfish_23 : decode cX2_openSelfish 23 = .ok (.iload_n 1, 1) := by decide +kernel
theorem dX2_openSelfish_24 : decode cX2_openSelfish 24 = .ok (.aaload, 1) := by decide +kernel
theorem dX2_openSelfish_25 : decode cX2_openSelfish 25 = .ok (.getfield 77, 3) := by decide +kernel
theorem dX2_openSelfish_28 : decode cX2_openSelfish 28 = .ok (.iconst 2, 1) := by decide +kernel
theorem dX2_openSelfish_29 : decode cX2_openSelfish 29 = .ok (.if_icmp .ne 36, 3) := by decide +kernel
theorem dX2_openSelfish_32 : decode cX2_openSelfish 32 = .ok (.aload_n 0, 1) := by decide +kernel
theorem dX2_openSelfish_33 : decode cX2_openSelfish 33 = .ok (.getfield 99, 3) := by decide +kernel
theorem dX2_openSelfish_36 : decode cX2_openSelfish 36 = .ok (.iconst 1, 1) := by decide +kernel
theorem dX2_openSelfish_37 : decode cX2_openSelfish 37 = .ok (.iload_n 1, 1) := by decide +kernel
theorem dX2_openSelfish_38 : decode cX2_openSelfish 38 = .ok (.ishl, 1) := by decide +kernel
theorem dX2_openSelfish_39 : decode cX2_openSelfish 39 = .ok (.ior, 1) := by decide +kernel
theorem dX2_openSelfish_40 : decode cX2_openSelfish 40 = .ok (.istore_n 2, 1) := by decide +kernel
theorem dX2_openSelfish_41 : decode cX2_openSelfish 41 = .ok (.aload_n 0, 1) := by decide +kernel
theorem dX2_openSelfish_42 : decode cX2_openSelfish 42 = .ok (.aload_n 0, 1) := by decide +kernel
theorem dX2_openSelfish_43 : decode cX2_openSelfish 43 = .ok (.getfield 99, 3) := by decide +kernel
theorem dX2_openSelfish_46 : decode cX2_openSelfish 46 = .ok (.invokestatic 102, 3) := by decide +kernel
theorem dX2_openSelfish_49 : decode cX2_openSelfish 49 = .ok (.ifCond .eq 11, 3) := by decide +kernel
theorem dX2_openSelfish_52 : decode cX2_openSelfish 52 = .ok (.aload_n 0, 1) := by decide +kernel
theorem dX2_openSelfish_53 : decode cX2_openSelfish 53 = .ok (.iload_n 2, 1) := by decide +kernel
theorem dX2_openSelfish_54 : decode cX2_openSelfish 54 = .ok (.invokestatic 102, 3) := by decide +kernel
theorem dX2_openSelfish_57 : decode cX2_openSelfish 57 = .ok (.ifCond .eq 8, 3) := by decide +kernel
theorem dX2_openSelfish_60 : decode cX2_openSelfish 60 = .ok (.aload_n 0, 1) := by decide +kernel
theorem dX2_openSelfish_61 : decode cX2_openSelfish 61 = .ok (.iload_n 2, 1) := by decide +kernel
theorem dX2_openSelfish_62 : decode cX2_openSelfish 62 = .ok (.putfield 99, 3) := by decide +kernel
theorem dX2_openSelfish_65 : decode cX2_openSelfish 65 = .ok (.iinc 1 1, 3) := by decide +kernel
theorem dX2_openSelfish_68 : decode cX2_openSelfish 68 = .ok (.goto (-66), 3) := by decide +kernel
theorem dX2_openSelfish_71 : decode cX2_openSelfish 71 = .ok (.return_, 1) := by decide +kernel
theorem dX2_givesOne_0 : decode cX2_givesOne 0 = .ok (.aload_n 0, 1) := by decide +kernel
theorem dX2_givesOne_1 : decode cX2_givesOne 1 = .ok (.iload_n 1, 1) := by decide +kernel
theorem dX2_givesOne_2 : decode cX2_givesOne 2 = .ok (.invokevirtual 106, 3) := by decide +kernel
theorem dX2_givesOne_5 : decode cX2_givesOne 5 = .ok (.istore_n 2, 1) := by decide +kernel
theorem dX2_givesOne_6 : decode cX2_givesOne 6 = .ok (.iload_n 2, 1) := by decide +kernel
theorem dX2_givesOne_7 : decode cX2_givesOne 7 = .ok (.iconst (-1), 1) := by decide +kernel
theorem dX2_givesOne_8 : decode cX2_givesOne 8 = .ok (.if_icmp .eq 22, 3) := by decide +kernel
theorem dX2_givesOne_11 : decode cX2_givesOne 11 = .ok (.aload_n 0, 1) := by decide +kernel
theorem dX2_givesOne_12 : decode cX2_givesOne 12 = .ok (.aload_n 0, 1) := by decide +kernel
theorem dX2_givesOne_13 : decode cX2_givesOne 13 = .ok (.getfield 109, 3) := by decide +kernel
theorem dX2_givesOne_16 : decode cX2_givesOne 16 = .ok (.iload_n 2, 1) := by decide +kernel
theorem dX2_givesOne_17 : decode cX2_givesOne 17 = .ok (.invokevirtual 113, 3) := by decide +kernel
theorem dX2_givesOne_20 : decode cX2_givesOne 20 = .ok (.iconst 1, 1) := by decide +kernel
theorem dX2_givesOne_21 : decode cX2_givesOne 21 = .ok (.iand, 1) := by decide +kernel
theorem dX2_givesOne_22 : decode cX2_givesOne 22 = .ok (.iconst 1, 1) := by decide +kernel
theorem dX2_givesOne_23 : decode cX2_givesOne 23 = .ok (.if_icmp .ne 7, 3) := by decide +kernel
theorem dX2_givesOne_26 : decode cX2_givesOne 26 = .ok (.iconst 1, 1) := by decide +kernel
theorem dX2_givesOne_27 : decode cX2_givesOne 27 = .ok (.goto 4, 3) := by decide +kernel
theorem dX2_givesOne_30 : decode cX2_givesOne 30 = .ok (.iconst 0, 1) := by decide +kernel
theorem dX2_givesOne_31 : decode cX2_givesOne 31 = .ok (.ireturn, 1) := by decide +kernel
theorem dX3_init_0 : decode cX3_init 0 = .ok (.aload_n 0, 1) := by decide +kernel
theorem dX3_init_1 : decode cX3_init 1 = .ok (.invokespecial 1, 3) := by decide +kernel
theorem dX3_init_4 : decode cX3_init 4 = .ok (.aload_n 0, 1) := by decide +kernel
theorem dX3_init_5 : decode cX3_init 5 = .ok (.iconst 4, 1) := by decide +kernel
theorem dX3_init_6 : decode cX3_init 6 = .ok (.anewarray 9, 3) := by decide +kernel
theorem dX3_init_9 : decode cX3_init 9 = .ok (.putfield 11, 3) := by decide +kernel
theorem dX3_init_12 : decode cX3_init 12 = .ok (.iconst 0, 1) := by decide +kernel
theorem dX3_init_13 : decode cX3_init 13 = .ok (.istore_n 1, 1) := by decide +kernel
theorem dX3_init_14 : decode cX3_init 14 = .ok (.iload_n 1, 1) := by decide +kernel
theorem dX3_init_15 : decode cX3_init 15 = .ok (.iconst 4, 1) := by decide +kernel
theorem dX3_init_16 : decode cX3_init 16 = .ok (.if_icmp .ge 22, 3) := by decide +kernel
theorem dX3_init_19 : decode cX3_init 19 = .ok (.aload_n 0, 1) := by decide +kernel
theorem dX3_init_20 : decode cX3_init 20 = .ok (.getfield 11, 3) := by decide +kernel
theorem dX3_init_23 : decode cX3_init 23 = .ok (.iload_n 1, 1) := by decide +kernel
theorem dX3_init_24 : decode cX3_init 24 = .ok (.new 9, 3) := by decide +kernel
theorem dX3_init_27 : decode cX3_init 27 = .ok (.dup, 1) := by decide +kernel
theorem dX3_init_28 : decode cX3_init 28 = .ok (.invokespecial 15, 3) := by decide +kernel
theorem dX3_init_31 : decode cX3_init 31 = .ok (.aastore, 1) := by decide +kernel
theorem dX3_init_32 : decode cX3_init 32 = .ok (.iinc 1 1, 3) := by decide +kernel
theorem dX3_init_35 : decode cX3_init 35 = .ok (.goto (-21), 3) := by decide +kernel
theorem dX3_init_38 : decode cX3_init 38 = .ok (.return_, 1) := by decide +kernel
theorem dX3_remember_0 : decode cX3_remember 0 = .ok (.aload_n 0, 1) := by decide +kernel
theorem dX3_remember_1 : decode cX3_remember 1 = .ok (.getfield 16, 3) := by decide +kernel
theorem dX3_remember_4 : decode cX3_remember 4 = .ok (.iconst 4, 1) := by decide +kernel
theorem dX3_remember_5 : decode cX3_remember 5 = .ok (.if_icmp .lt 7, 3) := by decide +kernel
theorem dX3_remember_8 : decode cX3_remember 8 = .ok (.aload_n 0, 1) := by decide +kernel
theorem dX3_remember_9 : decode cX3_remember 9 = .ok (.invokevirtual 20, 3) := by decide +kernel
theorem dX3_remember_12 : decode cX3_remember 12 = .ok (.aload_n 0, 1) := by decide +kernel
theorem dX3_remember_13 : decode cX3_remember 13 = .ok (.getfield 11, 3) := by decide +kernel
theorem dX3_remember_16 : decode cX3_remember 16 = .ok (.aload_n 0, 1) := by decide +kernel
theorem dX3_remember_17 : decode cX3_remember 17 = .ok (.getfield 16, 3) := by decide +kernel
theorem dX3_remember_20 : decode cX3_remember 20 = .ok (.aaload, 1) := by decide +kernel
theorem dX3_remember_21 : decode cX3_remember 21 = .ok (.aload_n 1, 1) := by decide +kernel
theorem dX3_remember_22 : decode cX3_remember 22 = .ok (.invokevirtual 23, 3) := by decide +kernel
theorem dX3_remember_25 : decode cX3_remember 25 = .ok (.aload_n 0, 1) := by decide +kernel
theorem dX3_remember_26 : decode cX3_remember 26 = .ok (.dup, 1) := by decide +kernel
theorem dX3_remember_27 : decode cX3_remember 27 = .ok (.getfield 16, 3) := by decide +kernel
theorem dX3_remember_30 : decode cX3_remember 30 = .ok (.iconst 1, 1) := by decide +kernel
theorem dX3_remember_31 : decode cX3_remember 31 = .ok (.iadd, 1) := by decide +kernel
theorem dX3_remember_32 : decode cX3_remember 32 = .ok (.putfield 16, 3) := by decide +kernel
theorem dX3_remember_35 : decode cX3_remember 35 = .ok (.return_, 1) := by decide +kernel
theorem dX3_dropOldest_0 : decode cX3_dropOldest 0 = .ok (.aload_n 0, 1) := by decide +kernel
theorem dX3_dropOldest_1 : decode cX3_dropOldest 1 = .ok (.getfield 11, 3) := by decide +kernel
theorem dX3_dropOldest_4 : decode cX3_dropOldest 4 = .ok (.iconst 0, 1) := by decide +kernel
theorem dX3_dropOldest_5 : decode cX3_dropOldest 5 = .ok (.aaload, 1) := by decide +kernel
theorem dX3_dropOldest_6 : decode cX3_dropOldest 6 = .ok (.astore_n 1, 1) := by decide +kernel
theorem dX3_dropOldest_7 : decode cX3_dropOldest 7 = .ok (.iconst 1, 1) := by decide +kernel
theorem dX3_dropOldest_8 : decode cX3_dropOldest 8 = .ok (.istore_n 2, 1) := by decide +kernel
theorem dX3_dropOldest_9 : decode cX3_dropOldest 9 = .ok (.iload_n 2, 1) := by decide +kernel
theorem dX3_dropOldest_10 : decode cX3_dropOldest 10 = .ok (.iconst 4, 1) := by decide +kernel
theorem dX3_dropOldest_11 : decode cX3_dropOldest 11 = .ok (.if_icmp .ge 23, 3) := by decide +kernel
theorem dX3_dropOldest_14 : decode cX3_dropOldest 14 = .ok (.aload_n 0, 1) := by decide +kernel
theorem dX3_dropOldest_15 : decode cX3_dropOldest 15 = .ok (.getfield 11, 3) := by decide +kernel
theorem dX3_dropOldest_18 : decode cX3_dropOldest 18 = .ok (.iload_n 2, 1) := by decide +kernel
theorem dX3_dropOldest_19 : decode cX3_dropOldest 19 = .ok (.iconst 1, 1) := by decide +kernel
theorem dX3_dropOldest_20 : decode cX3_dropOldest 20 = .ok (.isub, 1) := by decide +kernel
theorem dX3_dropOldest_21 : decode cX3_dropOldest 21 = .ok (.aload_n 0, 1) := by decide +kernel
theorem dX3_dropOldest_22 : decode cX3_dropOldest 22 = .ok (.getfield 11, 3) := by decide +kernel
theorem dX3_dropOldest_25 : decode cX3_dropOldest 25 = .ok (.iload_n 2, 1) := by decide +kernel
theorem dX3_dropOldest_26 : decode cX3_dropOldest 26 = .ok (.aaload, 1) := by decide +kernel
theorem dX3_dropOldest_27 : decode cX3_dropOldest 27 = .ok (.aastore, 1) := by decide +kernel
theorem dX3_dropOldest_28 : decode cX3_dropOldest 28 = .ok (.iinc 2 1, 3) := by decide +kernel
theorem dX3_dropOldest_31 : decode cX3_dropOldest 31 = .ok (.goto (-22), 3) := by decide +kernel
theorem dX3_dropOldest_34 : decode cX3_dropOldest 34 = .ok (.aload_n 0, 1) := by decide +kernel
theorem dX3_dropOldest_35 : decode cX3_dropOldest 35 = .ok (.getfield 11, 3) := by decide +kernel
theorem dX3_dropOldest_38 : decode cX3_dropOldest 38 = .ok (.iconst 3, 1) := by decide +kernel
theorem dX3_dropOldest_39 : decode cX3_dropOldest 39 = .ok (.aload_n 1, 1) := by decide +kernel
theorem dX3_dropOldest_40 : decode cX3_dropOldest 40 = .ok (.aastore, 1) := by decide +kernel
theorem dX3_dropOldest_41 : decode cX3_dropOldest 41 = .ok (.aload_n 0, 1) := by decide +kernel
theorem dX3_dropOldest_42 : decode cX3_dropOldest 42 = .ok (.iconst 3, 1) := by decide +kernel
theorem dX3_dropOldest_43 : decode cX3_dropOldest 43 = .ok (.putfield 16, 3) := by decide +kernel
theorem dX3_dropOldest_46 : decode cX3_dropOldest 46 = .ok (.return_, 1) := by decide +kernel
theorem dX3_restore_0 : decode cX3_restore 0 = .ok (.aload_n 0, 1) := by decide +kernel
theorem dX3_restore_1 : decode cX3_restore 1 = .ok (.getfield 16, 3) := by decide +kernel
theorem dX3_restore_4 : decode cX3_restore 4 = .ok (.iconst 1, 1) := by decide +kernel
theorem dX3_restore_5 : decode cX3_restore 5 = .ok (.if_icmp .lt 11, 3) := by decide +kernel
theorem dX3_restore_8 : decode cX3_restore 8 = .ok (.aload_n 0, 1) := by decide +kernel
theorem dX3_restore_9 : decode cX3_restore 9 = .ok (.getfield 16, 3) := by decide +kernel
theorem dX3_restore_12 : decode cX3_restore 12 = .ok (.iconst 4, 1) := by decide +kernel
theorem dX3_restore_13 : decode cX3_restore 13 = .ok (.if_icmp .le 4, 3) := by decide +kernel
theorem dX3_restore_16 : decode cX3_restore 16 = .ok (.return_, 1) := by decide +kernel
theorem dX3_restore_17 : decode cX3_restore 17 = .ok (.aload_n 0, 1) := by decide +kernel
theorem dX3_restore_18 : decode cX3_restore 18 = .ok (.dup, 1) := by decide +kernel
theorem dX3_restore_19 : decode cX3_restore 19 = .ok (.getfield 16, 3) := by decide +kernel
theorem dX3_restore_22 : decode cX3_restore 22 = .ok (.iconst 1, 1) := by decide +kernel
theorem dX3_restore_23 : decode cX3_restore 23 = .ok (.isub, 1) := by decide +kernel
theorem dX3_restore_24 : decode cX3_restore 24 = .ok (.putfield 16, 3) := by decide +kernel
theorem dX3_restore_27 : decode cX3_restore 27 = .ok (.aload_n 1, 1) := by decide +kernel
theorem dX3_restore_28 : decode cX3_restore 28 = .ok (.aload_n 0, 1) := by decide +kernel
theorem dX3_restore_29 : decode cX3_restore 29 = .ok (.getfield 11, 3) := by decide +kernel
theorem dX3_restore_32 : decode cX3_restore 32 = .ok (.aload_n 0, 1) := by decide +kernel
theorem dX3_restore_33 : decode cX3_restore 33 = .ok (.getfield 16, 3) := by decide +kernel
theorem dX3_restore_36 : decode cX3_restore 36 = .ok (.aaload, 1) := by decide +kernel
theorem dX3_restore_37 : decode cX3_restore 37 = .ok (.invokevirtual 23, 3) := by decide +kernel
theorem dX3_restore_40 : decode cX3_restore 40 = .ok (.return_, 1) := by decide +kernel
theorem dX4_init_0 : decode cX4_init 0 = .ok (.aload_n 0, 1) := by decide +kernel
theorem dX4_init_1 : decode cX4_init 1 = .ok (.invokespecial 3, 3) := by decide +kernel
theorem dX4_init_4 : decode cX4_init 4 = .ok (.aload_n 0, 1) := by decide +kernel
theorem dX4_init_5 : decode cX4_init 5 = .ok (.bipush 8, 2) := by decide +kernel
theorem dX4_init_7 : decode cX4_init 7 = .ok (.anewarray 9, 3) := by decide +kernel
theorem dX4_init_10 : decode cX4_init 10 = .ok (.putfield 11, 3) := by decide +kernel
theorem dX4_init_13 : decode cX4_init 13 = .ok (.aload_n 0, 1) := by decide +kernel
theorem dX4_init_14 : decode cX4_init 14 = .ok (.bipush 8, 2) := by decide +kernel
theorem dX4_init_16 : decode cX4_init 16 = .ok (.newarray .int, 2) := by decide +kernel
theorem dX4_init_18 : decode cX4_init 18 = .ok (.putfield 17, 3) := by decide +kernel
theorem dX4_init_21 : decode cX4_init 21 = .ok (.aload_n 0, 1) := by decide +kernel
theorem dX4_init_22 : decode cX4_init 22 = .ok (.new 21, 3) := by decide +kernel
theorem dX4_init_25 : decode cX4_init 25 = .ok (.dup, 1) := by decide +kernel
theorem dX4_init_26 : decode cX4_init 26 = .ok (.invokespecial 23, 3) := by decide +kernel
theorem dX4_init_29 : decode cX4_init 29 = .ok (.putfield 24, 3) := by decide +kernel
theorem dX4_init_32 : decode cX4_init 32 = .ok (.aload_n 0, 1) := by decide +kernel
theorem dX4_init_33 : decode cX4_init 33 = .ok (.iconst 0, 1) := by decide +kernel
theorem dX4_init_34 : decode cX4_init 34 = .ok (.putfield 28, 3) := by decide +kernel
theorem dX4_init_37 : decode cX4_init 37 = .ok (.aload_n 0, 1) := by decide +kernel
theorem dX4_init_38 : decode cX4_init 38 = .ok (.iconst 2, 1) := by decide +kernel
theorem dX4_init_39 : decode cX4_init 39 = .ok (.putfield 32, 3) := by decide +kernel
theorem dX4_init_42 : decode cX4_init 42 = .ok (.aload_n 0, 1) := by decide +kernel
theorem dX4_init_43 : decode cX4_init 43 = .ok (.bipush 10, 2) := by decide +kernel
theorem dX4_init_45 : decode cX4_init 45 = .ok (.putfield 35, 3) := by decide +kernel
theorem dX4_init_48 : decode cX4_init 48 = .ok (.aload_n 0, 1) := by decide +kernel
theorem dX4_init_49 : decode cX4_init 49 = .ok (.bipush 100, 2) := by decide +kernel
theorem dX4_init_51 : decode cX4_init 51 = .ok (.putfield 38, 3) := by decide +kernel
theorem dX4_init_54 : decode cX4_init 54 = .ok (.aload_n 0, 1) := by decide +kernel
theorem dX4_init_55 : decode cX4_init 55 = .ok (.iconst 0, 1) := by decide +kernel
theorem dX4_init_56 : decode cX4_init 56 = .ok (.putfield 41, 3) := by decide +kernel
theorem dX4_init_59 : decode cX4_init 59 = .ok (.iconst 0, 1) := by decide +kernel
theorem dX4_init_60 : decode cX4_init 60 = .ok (.istore_n 1, 1) := by decide +kernel
theorem dX4_init_61 : decode cX4_init 61 = .ok (.iload_n 1, 1) := by decide +kernel
theorem dX4_init_62 : decode cX4_init 62 = .ok (.bipush 8, 2) := by decide +kernel
theorem dX4_init_64 : decode cX4_init 64 = .ok (.if_icmp .ge 22, 3) := by decide +kernel
theorem dX4_init_67 : decode cX4_init 67 = .ok (.aload_n 0, 1) := by decide +kernel
theorem dX4_init_68 : decode cX4_init 68 = .ok (.getfield 11, 3) := by decide +kernel
theorem dX4_init_71 : decode cX4_init 71 = .ok (.iload_n 1, 1) := by decide +kernel
theorem dX4_init_72 : decode cX4_init 72 = .ok (.new 9, 3) := by decide +kernel
theorem dX4_init_75 : decode cX4_init 75 = .ok (.dup, 1) := by decide +kernel
theorem dX4_init_76 : decode cX4_init 76 = .ok (.invokespecial 44, 3) := by decide +kernel
theorem dX4_init_79 : decode cX4_init 79 = .ok (.aastore, 1) := by decide +kernel
theorem dX4_init_80 : decode cX4_init 80 = .ok (.iinc 1 1, 3) := by decide +kernel
theorem dX4_init_83 : decode cX4_init 83 = .ok (.goto (-22), 3) := by decide +kernel
theorem dX4_init_86 : decode cX4_init 86 = .ok (.return_, 1) := by decide +kernel
theorem dX4_copy_0 : decode cX4_copy 0 = .ok (.iconst 0, 1) := by decide +kernel
theorem dX4_copy_1 : decode cX4_copy 1 = .ok (.istore_n 2, 1) := by decide +kernel
theorem dX4_copy_2 : decode cX4_copy 2 = .ok (.iload_n 2, 1) := by decide +kernel
theorem dX4_copy_3 : decode cX4_copy 3 = .ok (.bipush 8, 2) := by decide +kernel
theorem dX4_copy_5 : decode cX4_copy 5 = .ok (.if_icmp .ge 24, 3) := by decide +kernel
theorem dX4_copy_8 : decode cX4_copy 8 = .ok (.aload_n 0, 1) := by decide +kernel
theorem dX4_copy_9 : decode cX4_copy 9 = .ok (.getfield 11, 3) := by decide +kernel
theorem dX4_copy_12 : decode cX4_copy 12 = .ok (.iload_n 2, 1) := by decide +kernel
theorem dX4_copy_13 : decode cX4_copy 13 = .ok (.aaload, 1) := by decide +kernel
theorem dX4_copy_14 : decode cX4_copy 14 = .ok (.aload_n 1, 1) := by decide +kernel
theorem dX4_copy_15 : decode cX4_copy 15 = .ok (.getfield 11, 3) := by decide +kernel
theorem dX4_copy_18 : decode cX4_copy 18 = .ok (.iload_n 2, 1) := by decide +kernel
theorem dX4_copy_19 : decode cX4_copy 19 = .ok (.aaload, 1) := by decide +kernel
theorem dX4_copy_20 : decode cX4_copy 20 = .ok (.invokevirtual 45, 3) := by decide +kernel
theorem dX4_copy_23 : decode cX4_copy 23 = .ok (.iinc 2 1, 3) := by decide +kernel
theorem dX4_copy_26 : decode cX4_copy 26 = .ok (.goto (-24), 3) := by decide +kernel
theorem dX4_copy_29 : decode cX4_copy 29 = .ok (.aload_n 1, 1) := by decide +kernel
theorem dX4_copy_30 : decode cX4_copy 30 = .ok (.getfield 17, 3) := by decide +kernel
theorem dX4_copy_33 : decode cX4_copy 33 = .ok (.iconst 0, 1) := by decide +kernel
theorem dX4_copy_34 : decode cX4_copy 34 = .ok (.aload_n 0, 1) := by decide +kernel
theorem dX4_copy_35 : decode cX4_copy 35 = .ok (.getfield 17, 3) := by decide +kernel
theorem dX4_copy_38 : decode cX4_copy 38 = .ok (.iconst 0, 1) := by decide +kernel
theorem dX4_copy_39 : decode cX4_copy 39 = .ok (.bipush 8, 2) := by decide +kernel
theorem dX4_copy_41 : decode cX4_copy 41 = .ok (.invokestatic 49, 3) := by decide +kernel
theorem dX4_copy_44 : decode cX4_copy 44 = .ok (.aload_n 0, 1) := by decide +kernel
theorem dX4_copy_45 : decode cX4_copy 45 = .ok (.getfield 24, 3) := by decide +kernel
theorem dX4_copy_48 : decode cX4_copy 48 = .ok (.aload_n 1, 1) := by decide +kernel
theorem dX4_copy_49 : decode cX4_copy 49 = .ok (.getfield 24, 3) := by decide +kernel
theorem dX4_copy_52 : decode cX4_copy 52 = .ok (.invokevirtual 55, 3) := by decide +kernel
theorem dX4_copy_55 : decode cX4_copy 55 = .ok (.aload_n 0, 1) := by decide +kernel
theorem dX4_copy_56 : decode cX4_copy 56 = .ok (.aload_n 1, 1) := by decide +kernel
theorem dX4_copy_57 : decode cX4_copy 57 = .ok (.getfield 58, 3) := by decide +kernel
theorem dX4_copy_60 : decode cX4_copy 60 = .ok (.putfield 58, 3) := by decide +kernel
theorem dX4_copy_63 : decode cX4_copy 63 = .ok (.aload_n 0, 1) := by decide +kernel
theorem dX4_copy_64 : decode cX4_copy 64 = .ok (.aload_n 1, 1) := by decide +kernel
theorem dX4_copy_65 : decode cX4_copy 65 = .ok (.getfield 61, 3) := by decide +kernel
theorem dX4_copy_68 : decode cX4_copy 68 = .ok (.putfield 61, 3) := by decide +kernel
theorem dX4_copy_71 : decode cX4_copy 71 = .ok (.aload_n 0, 1) := by decide +kernel
theorem dX4_copy_72 : decode cX4_copy 72 = .ok (.aload_n 1, 1) := by decide +kernel
theorem dX4_copy_73 : decode cX4_copy 73 = .ok (.getfield 28, 3) := by decide +kernel
theorem dX4_copy_76 : decode cX4_copy 76 = .ok (.putfield 28, 3) := by decide +kernel
theorem dX4_copy_79 : decode cX4_copy 79 = .ok (.aload_n 0, 1) := by decide +kernel
theorem dX4_copy_80 : decode cX4_copy 80 = .ok (.aload_n 1, 1) := by decide +kernel
theorem dX4_copy_81 : decode cX4_copy 81 = .ok (.getfield 32, 3) := by decide +kernel
theorem dX4_copy_84 : decode cX4_copy 84 = .ok (.putfield 32, 3) := by decide +kernel
theorem dX4_copy_87 : decode cX4_copy 87 = .ok (.aload_n 0, 1) := by decide +kernel
theorem dX4_copy_88 : decode cX4_copy 88 = .ok (.aload_n 1, 1) := by decide +kernel
theorem dX4_copy_89 : decode cX4_copy 89 = .ok (.getfield 35, 3) := by decide +kernel
theorem dX4_copy_92 : decode cX4_copy 92 = .ok (.putfield 35, 3) := by decide +kernel
theorem dX4_copy_95 : decode cX4_copy 95 = .ok (.aload_n 0, 1) := by decide +kernel
theorem dX4_copy_96 : decode cX4_copy 96 = .ok (.aload_n 1, 1) := by decide +kernel
theorem dX4_copy_97 : decode cX4_copy 97 = .ok (.getfield 38, 3) := by decide +kernel
theorem dX4_copy_100 : decode cX4_copy 100 = .ok (.putfield 38, 3) := by decide +kernel
theorem dX4_copy_103 : decode cX4_copy 103 = .ok (.aload_n 0, 1) := by decide +kernel
theorem dX4_copy_104 : decode cX4_copy 104 = .ok (.aload_n 1, 1) := by decide +kernel
theorem dX4_copy_105 : decode cX4_copy 105 = .ok (.getfield 41, 3) := by decide +kernel
theorem dX4_copy_108 : decode cX4_copy 108 = .ok (.putfield 41, 3) := by decide +kernel
theorem dX4_copy_111 : decode cX4_copy 111 = .ok (.aload_n 0, 1) := by decide +kernel
theorem dX4_copy_112 : decode cX4_copy 112 = .ok (.aload_n 1, 1) := by decide +kernel
theorem dX4_copy_113 : decode cX4_copy 113 = .ok (.getfield 64, 3) := by decide +kernel
theorem dX4_copy_116 : decode cX4_copy 116 = .ok (.putfield 64, 3) := by decide +kernel
theorem dX4_copy_119 : decode cX4_copy 119 = .ok (.aload_n 0, 1) := by decide +kernel
theorem dX4_copy_120 : decode cX4_copy 120 = .ok (.aload_n 1, 1) := by decide +kernel
theorem dX4_copy_121 : decode cX4_copy 121 = .ok (.getfield 67, 3) := by decide +kernel
theorem dX4_copy_124 : decode cX4_copy 124 = .ok (.putfield 67, 3) := by decide +kernel
theorem dX4_copy_127 : decode cX4_copy 127 = .ok (.aload_n 0, 1) := by decide +kernel
theorem dX4_copy_128 : decode cX4_copy 128 = .ok (.aload_n 1, 1) := by decide +kernel
theorem dX4_copy_129 : decode cX4_copy 129 = .ok (.getfield 70, 3) := by decide +kernel
theorem dX4_copy_132 : decode cX4_copy 132 = .ok (.putfield 70, 3) := by decide +kernel
theorem dX4_copy_135 : decode cX4_copy 135 = .ok (.aload_n 0, 1) := by decide +kernel
theorem dX4_copy_136 : decode cX4_copy 136 = .ok (.aload_n 1, 1) := by decide +kernel
theorem dX4_copy_137 : decode cX4_copy 137 = .ok (.getfield 73, 3) := by decide +kernel
theorem dX4_copy_140 : decode cX4_copy 140 = .ok (.putfield 73, 3) := by decide +kernel
theorem dX4_copy_143 : decode cX4_copy 143 = .ok (.return_, 1) := by decide +kernel
theorem dX4_isParticipant_0 : decode cX4_isParticipant 0 = .ok (.iload_n 1, 1) := by decide +kernel
theorem dX4_isParticipant_1 : decode cX4_isParticipant 1 = .ok (.ifCond .lt 21, 3) := by decide +kernel
theorem dX4_isParticipant_4 : decode cX4_isParticipant 4 = .ok (.iload_n 1, 1) := by decide +kernel
theorem dX4_isParticipant_5 : decode cX4_isParticipant 5 = .ok (.aload_n 0, 1) := by decide +kernel
theorem dX4_isParticipant_6 : decode cX4_isParticipant 6 = .ok (.getfield 58, 3) := by decide +kernel
theorem dX4_isParticipant_9 : decode cX4_isParticipant 9 = .ok (.if_icmp .ge 13, 3) := by decide +kernel
theorem dX4_isParticipant_12 : decode cX4_isParticipant 12 = .ok (.iload_n 1, 1) := by decide +kernel
theorem dX4_isParticipant_13 : decode cX4_isParticipant 13 = .ok (.bipush 8, 2) := by decide +kernel
theorem dX4_isParticipant_15 : decode cX4_isParticipant 15 = .ok (.if_icmp .ge 7, 3) := by decide +kernel
theorem dX4_isParticipant_18 : decode cX4_isParticipant 18 = .ok (.iconst 1, 1) := by decide +kernel
theorem dX4_isParticipant_19 : decode cX4_isParticipant 19 = .ok (.goto 4, 3) := by decide +kernel
theorem dX4_isParticipant_22 : decode cX4_isParticipant 22 = .ok (.iconst 0, 1) := by decide +kernel
theorem dX4_isParticipant_23 : decode cX4_isParticipant 23 = .ok (.ireturn, 1) := by decide +kernel
theorem dX4_isCommitted_0 : decode cX4_isCommitted 0 = .ok (.aload_n 0, 1) := by decide +kernel
theorem dX4_isCommitted_1 : decode cX4_isCommitted 1 = .ok (.getfield 41, 3) := by decide +kernel
theorem dX4_isCommitted_4 : decode cX4_isCommitted 4 = .ok (.ifCond .eq 18, 3) := by decide +kernel
theorem dX4_isCommitted_7 : decode cX4_isCommitted 7 = .ok (.aload_n 0, 1) := by decide +kernel
theorem dX4_isCommitted_8 : decode cX4_isCommitted 8 = .ok (.getfield 67, 3) := by decide +kernel
theorem dX4_isCommitted_11 : decode cX4_isCommitted 11 = .ok (.iload_n 1, 1) := by decide +kernel
theorem dX4_isCommitted_12 : decode cX4_isCommitted 12 = .ok (.invokestatic 76, 3) := by decide +kernel
theorem dX4_isCommitted_15 : decode cX4_isCommitted 15 = .ok (.ifCond .eq 7, 3) := by decide +kernel
theorem dX4_isCommitted_18 : decode cX4_isCommitted 18 = .ok (.iconst 1, 1) := by decide +kernel
theorem dX4_isCommitted_19 : decode cX4_isCommitted 19 = .ok (.goto 4, 3) := by decide +kernel
theorem dX4_isCommitted_22 : decode cX4_isCommitted 22 = .ok (.iconst 0, 1) := by decide +kernel
theorem dX4_isCommitted_23 : decode cX4_isCommitted 23 = .ok (.ireturn, 1) := by decide +kernel
theorem dX4_hasDealt_0 : decode cX4_hasDealt 0 = .ok (.aload_n 0, 1) := by decide +kernel
theorem dX4_hasDealt_1 : decode cX4_hasDealt 1 = .ok (.getfield 28, 3) := by decide +kernel
theorem dX4_hasDealt_4 : decode cX4_hasDealt 4 = .ok (.iconst 1, 1) := by decide +kernel
theorem dX4_hasDealt_5 : decode cX4_hasDealt 5 = .ok (.if_icmp .ne 15, 3) := by decide +kernel
theorem dX4_hasDealt_8 : decode cX4_hasDealt 8 = .ok (.aload_n 0, 1) := by decide +kernel
theorem dX4_hasDealt_9 : decode cX4_hasDealt 9 = .ok (.iload_n 1, 1) := by decide +kernel
theorem dX4_hasDealt_10 : decode cX4_hasDealt 10 = .ok (.invokevirtual 80, 3) := by decide +kernel
theorem dX4_hasDealt_13 : decode cX4_hasDealt 13 = .ok (.ifCond .eq 7, 3) := by decide +kernel
theorem dX4_hasDealt_16 : decode cX4_hasDealt 16 = .ok (.iconst 1, 1) := by decide +kernel
theorem dX4_hasDealt_17 : decode cX4_hasDealt 17 = .ok (.goto 4, 3) := by decide +kernel
theorem dX4_hasDealt_20 : decode cX4_hasDealt 20 = .ok (.iconst 0, 1) := by decide +kernel
theorem dX4_hasDealt_21 : decode cX4_hasDealt 21 = .ok (.ireturn, 1) := by decide +kernel
theorem dX4_hasShare_0 : decode cX4_hasShare 0 = .ok (.aload_n 0, 1) := by decide +kernel
theorem dX4_hasShare_1 : decode cX4_hasShare 1 = .ok (.iload_n 1, 1) := by decide +kernel
theorem dX4_hasShare_2 : decode cX4_hasShare 2 = .ok (.invokevirtual 84, 3) := by decide +kernel
theorem dX4_hasShare_5 : decode cX4_hasShare 5 = .ok (.ifCond .eq 18, 3) := by decide +kernel
theorem dX4_hasShare_8 : decode cX4_hasShare 8 = .ok (.aload_n 0, 1) := by decide +kernel
theorem dX4_hasShare_9 : decode cX4_hasShare 9 = .ok (.getfield 64, 3) := by decide +kernel
theorem dX4_hasShare_12 : decode cX4_hasShare 12 = .ok (.iload_n 2, 1) := by decide +kernel
theorem dX4_hasShare_13 : decode cX4_hasShare 13 = .ok (.invokestatic 76, 3) := by decide +kernel
theorem dX4_hasShare_16 : decode cX4_hasShare 16 = .ok (.ifCond .eq 7, 3) := by decide +kernel
theorem dX4_hasShare_19 : decode cX4_hasShare 19 = .ok (.iconst 1, 1) := by decide +kernel
theorem dX4_hasShare_20 : decode cX4_hasShare 20 = .ok (.goto 4, 3) := by decide +kernel
theorem dX4_hasShare_23 : decode cX4_hasShare 23 = .ok (.iconst 0, 1) := by decide +kernel
theorem dX4_hasShare_24 : decode cX4_hasShare 24 = .ok (.ireturn, 1) := by decide +kernel
theorem dX4_canConspire_0 : decode cX4_canConspire 0 = .ok (.aload_n 0, 1) := by decide +kernel
theorem dX4_canConspire_1 : decode cX4_canConspire 1 = .ok (.getfield 41, 3) := by decide +kernel
theorem dX4_canConspire_4 : decode cX4_canConspire 4 = .ok (.iconst 2, 1) := by decide +kernel
theorem dX4_canConspire_5 : decode cX4_canConspire 5 = .ok (.if_icmp .ne 25, 3) := by decide +kernel
theorem dX4_canConspire_8 : decode cX4_canConspire 8 = .ok (.iload_n 1, 1) := by decide +kernel
theorem dX4_canConspire_9 : decode cX4_canConspire 9 = .ok (.aload_n 0, 1) := by decide +kernel
theorem dX4_canConspire_10 : decode cX4_canConspire 10 = .ok (.getfield 64, 3) := by decide +kernel
theorem dX4_canConspire_13 : decode cX4_canConspire 13 = .ok (.aload_n 0, 1) := by decide +kernel
theorem dX4_canConspire_14 : decode cX4_canConspire 14 = .ok (.getfield 70, 3) := by decide +kernel
theorem dX4_canConspire_17 : decode cX4_canConspire 17 = .ok (.iconst (-1), 1) := by decide +kernel
theorem dX4_canConspire_18 : decode cX4_canConspire 18 = .ok (.ixor, 1) := by decide +kernel
theorem dX4_canConspire_19 : decode cX4_canConspire 19 = .ok (.iand, 1) := by decide +kernel
theorem dX4_canConspire_20 : decode cX4_canConspire 20 = .ok (.iconst (-1), 1) := by decide +kernel
theorem dX4_canConspire_21 : decode cX4_canConspire 21 = .ok (.ixor, 1) := by decide +kernel
theorem dX4_canConspire_22 : decode cX4_canConspire 22 = .ok (.iand, 1) := by decide +kernel
theorem dX4_canConspire_23 : decode cX4_canConspire 23 = .ok (.ifCond .ne 7, 3) := by decide +kernel
theorem dX4_canConspire_26 : decode cX4_canConspire 26 = .ok (.iconst 1, 1) := by decide +kernel
theorem dX4_canConspire_27 : decode cX4_canConspire 27 = .ok (.goto 4, 3) := by decide +kernel
theorem dX4_canConspire_30 : decode cX4_canConspire 30 = .ok (.iconst 0, 1) := by decide +kernel
theorem dX4_canConspire_31 : decode cX4_canConspire 31 = .ok (.ireturn, 1) := by decide +kernel
theorem dX4_admit_0 : decode cX4_admit 0 = .ok (.aload_n 0, 1) := by decide +kernel
theorem dX4_admit_1 : decode cX4_admit 1 = .ok (.getfield 58, 3) := by decide +kernel
theorem dX4_admit_4 : decode cX4_admit 4 = .ok (.bipush 8, 2) := by decide +kernel
theorem dX4_admit_6 : decode cX4_admit 6 = .ok (.if_icmp .lt 6, 3) := by decide +kernel
theorem dX4_admit_9 : decode cX4_admit 9 = .ok (.bipush (-3), 2) := by decide +kernel
theorem dX4_admit_11 : decode cX4_admit 11 = .ok (.ireturn, 1) := by decide +kernel
theorem dX4_admit_12 : decode cX4_admit 12 = .ok (.aload_n 0, 1) := by decide +kernel
theorem dX4_admit_13 : decode cX4_admit 13 = .ok (.getfield 11, 3) := by decide +kernel
theorem dX4_admit_16 : decode cX4_admit 16 = .ok (.aload_n 0, 1) := by decide +kernel
theorem dX4_admit_17 : decode cX4_admit 17 = .ok (.getfield 58, 3) := by decide +kernel
theorem dX4_admit_20 : decode cX4_admit 20 = .ok (.aaload, 1) := by decide +kernel
theorem dX4_admit_21 : decode cX4_admit 21 = .ok (.iload_n 1, 1) := by decide +kernel
theorem dX4_admit_22 : decode cX4_admit 22 = .ok (.putfield 87, 3) := by decide +kernel
theorem dX4_admit_25 : decode cX4_admit 25 = .ok (.aload_n 0, 1) := by decide +kernel
theorem dX4_admit_26 : decode cX4_admit 26 = .ok (.dup, 1) := by decide +kernel
theorem dX4_admit_27 : decode cX4_admit 27 = .ok (.getfield 58, 3) := by decide +kernel
theorem dX4_admit_30 : decode cX4_admit 30 = .ok (.iconst 1, 1) := by decide +kernel
theorem dX4_admit_31 : decode cX4_admit 31 = .ok (.iadd, 1) := by decide +kernel
theorem dX4_admit_32 : decode cX4_admit 32 = .ok (.putfield 58, 3) := by decide +kernel
theorem dX4_admit_35 : decode cX4_admit 35 = .ok (.aload_n 0, 1) := by decide +kernel
theorem dX4_admit_36 : decode cX4_admit 36 = .ok (.getfield 58, 3) := by decide +kernel
theorem dX4_admit_39 : decode cX4_admit 39 = .ok (.iconst 1, 1) := by decide +kernel
theorem dX4_admit_40 : decode cX4_admit 40 = .ok (.isub, 1) := by decide +kernel
theorem dX4_admit_41 : decode cX4_admit 41 = .ok (.ireturn, 1) := by decide +kernel
theorem dX4_canStart_0 : decode cX4_canStart 0 = .ok (.aload_n 0, 1) := by decide +kernel
theorem dX4_canStart_1 : decode cX4_canStart 1 = .ok (.invokevirtual 90, 3) := by decide +kernel
theorem dX4_canStart_4 : decode cX4_canStart 4 = .ok (.invokestatic 94, 3) := by decide +kernel
theorem dX4_canStart_7 : decode cX4_canStart 7 = .ok (.istore_n 1, 1) := by decide +kernel
theorem dX4_canStart_8 : decode cX4_canStart 8 = .ok (.aload_n 0, 1) := by decide +kernel
theorem dX4_canStart_9 : decode cX4_canStart 9 = .ok (.getfield 41, 3) := by decide +kernel
theorem dX4_canStart_12 : decode cX4_canStart 12 = .ok (.ifCond .ne 28, 3) := by decide +kernel
theorem dX4_canStart_15 : decode cX4_canStart 15 = .ok (.iload_n 1, 1) := by decide +kernel
theorem dX4_canStart_16 : decode cX4_canStart 16 = .ok (.iconst 2, 1) := by decide +kernel
theorem dX4_canStart_17 : decode cX4_canStart 17 = .ok (.if_icmp .lt 23, 3) := by decide +kernel
theorem dX4_canStart_20 : decode cX4_canStart 20 = .ok (.aload_n 0, 1) := by decide +kernel
theorem dX4_canStart_21 : decode cX4_canStart 21 = .ok (.getfield 28, 3) := by decide +kernel
theorem dX4_canStart_24 : decode cX4_canStart 24 = .ok (.iconst 1, 1) := by decide +kernel
theorem dX4_canStart_25 : decode cX4_canStart 25 = .ok (.if_icmp .ne 11, 3) := by decide +kernel
theorem dX4_canStart_28 : decode cX4_canStart 28 = .ok (.iload_n 1, 1) := by decide +kernel
theorem dX4_canStart_29 : decode cX4_canStart 29 = .ok (.aload_n 0, 1) := by decide +kernel
theorem dX4_canStart_30 : decode cX4_canStart 30 = .ok (.getfield 32, 3) := by decide +kernel
theorem dX4_canStart_33 : decode cX4_canStart 33 = .ok (.if_icmp .lt 7, 3) := by decide +kernel
theorem dX4_canStart_36 : decode cX4_canStart 36 = .ok (.iconst 1, 1) := by decide +kernel
theorem dX4_canStart_37 : decode cX4_canStart 37 = .ok (.goto 4, 3) := by decide +kernel
theorem dX4_canStart_40 : decode cX4_canStart 40 = .ok (.iconst 0, 1) := by decide +kernel
theorem dX4_canStart_41 : decode cX4_canStart 41 = .ok (.ireturn, 1) := by decide +kernel
theorem dX4_ableToPay_0 : decode cX4_ableToPay 0 = .ok (.iconst 0, 1) := by decide +kernel
theorem dX4_ableToPay_1 : decode cX4_ableToPay 1 = .ok (.istore_n 1, 1) := by decide +kernel
theorem dX4_ableToPay_2 : decode cX4_ableToPay 2 = .ok (.iconst 0, 1) := by decide +kernel
theorem dX4_ableToPay_3 : decode cX4_ableToPay 3 = .ok (.istore_n 2, 1) := by decide +kernel
theorem dX4_ableToPay_4 : decode cX4_ableToPay 4 = .ok (.iload_n 2, 1) := by decide +kernel
theorem dX4_ableToPay_5 : decode cX4_ableToPay 5 = .ok (.bipush 8, 2) := by decide +kernel
theorem dX4_ableToPay_7 : decode cX4_ableToPay 7 = .ok (.if_icmp .ge 39, 3) := by decide +kernel
theorem dX4_ableToPay_10 : decode cX4_ableToPay 10 = .ok (.iload_n 2, 1) := by decide +kernel
theorem dX4_ableToPay_11 : decode cX4_ableToPay 11 = .ok (.aload_n 0, 1) := by decide +kernel
theorem dX4_ableToPay_12 : decode cX4_ableToPay 12 = .ok (.getfield 58, 3) := by decide +kernel
theorem dX4_ableToPay_15 : decode cX4_ableToPay 15 = .ok (.if_icmp .ge 25, 3) := by decide +kernel
theorem dX4_ableToPay_18 : decode cX4_ableToPay 18 = .ok (.aload_n 0, 1) := by decide +kernel
theorem dX4_ableToPay_19 : decode cX4_ableToPay 19 = .ok (.getfield 11, 3) := by decide +kernel
theorem dX4_ableToPay_22 : decode cX4_ableToPay 22 = .ok (.iload_n 2, 1) := by decide +kernel
theorem dX4_ableToPay_23 : decode cX4_ableToPay 23 = .ok (.aaload, 1) := by decide +kernel
theorem dX4_ableToPay_24 : decode cX4_ableToPay 24 = .ok (.getfield 87, 3) := by decide +kernel
theorem dX4_ableToPay_27 : decode cX4_ableToPay 27 = .ok (.aload_n 0, 1) := by decide +kernel
theorem dX4_ableToPay_28 : decode cX4_ableToPay 28 = .ok (.getfield 35, 3) := by decide +kernel
theorem dX4_ableToPay_31 : decode cX4_ableToPay 31 = .ok (.if_icmp .lt 9, 3) := by decide +kernel
theorem dX4_ableToPay_34 : decode cX4_ableToPay 34 = .ok (.iload_n 1, 1) := by decide +kernel
theorem dX4_ableToPay_35 : decode cX4_ableToPay 35 = .ok (.iconst 1, 1) := by decide +kernel
theorem dX4_ableToPay_36 : decode cX4_ableToPay 36 = .ok (.iload_n 2, 1) := by decide +kernel
theorem dX4_ableToPay_37 : decode cX4_ableToPay 37 = .ok (.ishl, 1) := by decide +kernel
theorem dX4_ableToPay_38 : decode cX4_ableToPay 38 = .ok (.ior, 1) := by decide +kernel
theorem dX4_ableToPay_39 : decode cX4_ableToPay 39 = .ok (.istore_n 1, 1) := by decide +kernel
theorem dX4_ableToPay_40 : decode cX4_ableToPay 40 = .ok (.iinc 2 1, 3) := by decide +kernel
theorem dX4_ableToPay_43 : decode cX4_ableToPay 43 = .ok (.goto (-39), 3) := by decide +kernel
theorem dX4_ableToPay_46 : decode cX4_ableToPay 46 = .ok (.iload_n 1, 1) := by decide +kernel
theorem dX4_ableToPay_47 : decode cX4_ableToPay 47 = .ok (.ireturn, 1) := by decide +kernel
theorem dX4_start_0 : decode cX4_start 0 = .ok (.aload_n 0, 1) := by decide +kernel
theorem dX4_start_1 : decode cX4_start 1 = .ok (.iconst 1, 1) := by decide +kernel
theorem dX4_start_2 : decode cX4_start 2 = .ok (.putfield 41, 3) := by decide +kernel
theorem dX4_start_5 : decode cX4_start 5 = .ok (.aload_n 0, 1) := by decide +kernel
theorem dX4_start_6 : decode cX4_start 6 = .ok (.aload_n 0, 1) := by decide +kernel
theorem dX4_start_7 : decode cX4_start 7 = .ok (.invokevirtual 90, 3) := by decide +kernel
theorem dX4_start_10 : decode cX4_start 10 = .ok (.putfield 64, 3) := by decide +kernel
theorem dX4_start_13 : decode cX4_start 13 = .ok (.aload_n 0, 1) := by decide +kernel
theorem dX4_start_14 : decode cX4_start 14 = .ok (.iconst 0, 1) := by decide +kernel
theorem dX4_start_15 : decode cX4_start 15 = .ok (.putfield 67, 3) := by decide +kernel
theorem dX4_start_18 : decode cX4_start 18 = .ok (.aload_n 0, 1) := by decide +kernel
theorem dX4_start_19 : decode cX4_start 19 = .ok (.iconst 0, 1) := by decide +kernel
theorem dX4_start_20 : decode cX4_start 20 = .ok (.putfield 70, 3) := by decide +kernel
theorem dX4_start_23 : decode cX4_start 23 = .ok (.aload_n 0, 1) := by decide +kernel
theorem dX4_start_24 : decode cX4_start 24 = .ok (.iconst 0, 1) := by decide +kernel
theorem dX4_start_25 : decode cX4_start 25 = .ok (.putfield 73, 3) := by decide +kernel
theorem dX4_start_28 : decode cX4_start 28 = .ok (.return_, 1) := by decide +kernel
theorem dX4_digestOf_0 : decode cX4_digestOf 0 = .ok (.bipush 17, 2) := by decide +kernel
theorem dX4_digestOf_2 : decode cX4_digestOf 2 = .ok (.aload_n 0, 1) := by decide +kernel
theorem dX4_digestOf_3 : decode cX4_digestOf 3 = .ok (.getfield 24, 3) := by decide +kernel
theorem dX4_digestOf_6 : decode cX4_digestOf 6 = .ok (.getfield 100, 3) := by decide +kernel
theorem dX4_digestOf_9 : decode cX4_digestOf 9 = .ok (.invokestatic 103, 3) := by decide +kernel
theorem dX4_digestOf_12 : decode cX4_digestOf 12 = .ok (.iload_n 1, 1) := by decide +kernel
theorem dX4_digestOf_13 : decode cX4_digestOf 13 = .ok (.invokestatic 103, 3) := by decide +kernel
theorem dX4_digestOf_16 : decode cX4_digestOf 16 = .ok (.iload_n 2, 1) := by decide +kernel
theorem dX4_digestOf_17 : decode cX4_digestOf 17 = .ok (.invokestatic 103, 3) := by decide +kernel
theorem dX4_digestOf_20 : decode cX4_digestOf 20 = .ok (.ireturn, 1) := by decide +kernel
theorem dX4_isTaken_0 : decode cX4_isTaken 0 = .ok (.iconst 0, 1) := by decide +kernel
theorem dX4_isTaken_1 : decode cX4_isTaken 1 = .ok (.istore_n 2, 1) := by decide +kernel
theorem dX4_isTaken_2 : decode cX4_isTaken 2 = .ok (.iload_n 2, 1) := by decide +kernel
theorem dX4_isTaken_3 : decode cX4_isTaken 3 = .ok (.bipush 8, 2) := by decide +kernel
theorem dX4_isTaken_5 : decode cX4_isTaken 5 = .ok (.if_icmp .ge 35, 3) := by decide +kernel
theorem dX4_isTaken_8 : decode cX4_isTaken 8 = .ok (.aload_n 0, 1) := by decide +kernel
theorem dX4_isTaken_9 : decode cX4_isTaken 9 = .ok (.getfield 67, 3) := by decide +kernel
theorem dX4_isTaken_12 : decode cX4_isTaken 12 = .ok (.iload_n 2, 1) := by decide +kernel
theorem dX4_isTaken_13 : decode cX4_isTaken 13 = .ok (.invokestatic 76, 3) := by decide +kernel
theorem dX4_isTaken_16 : decode cX4_isTaken 16 = .ok (.ifCond .eq 18, 3) := by decide +kernel
theorem dX4_isTaken_19 : decode cX4_isTaken 19 = .ok (.aload_n 0, 1) := by decide +kernel
theorem dX4_isTaken_20 : decode cX4_isTaken 20 = .ok (.getfield 11, 3) := by decide +kernel
theorem dX4_isTaken_23 : decode cX4_isTaken 23 = .ok (.iload_n 2, 1) := by decide +kernel
theorem dX4_isTaken_24 : decode cX4_isTaken 24 = .ok (.aaload, 1) := by decide +kernel
theorem dX4_isTaken_25 : decode cX4_isTaken 25 = .ok (.getfield 107, 3) := by decide +kernel
theorem dX4_isTaken_28 : decode cX4_isTaken 28 = .ok (.iload_n 1, 1) := by decide +kernel
theorem dX4_isTaken_29 : decode cX4_isTaken 29 = .ok (.if_icmp .ne 5, 3) := by decide +kernel
theorem dX4_isTaken_32 : decode cX4_isTaken 32 = .ok (.iconst 1, 1) := by decide +kernel
theorem dX4_isTaken_33 : decode cX4_isTaken 33 = .ok (.ireturn, 1) := by decide +kernel
theorem dX4_isTaken_34 : decode cX4_isTaken 34 = .ok (.iinc 2 1, 3) := by decide +kernel
theorem dX4_isTaken_37 : decode cX4_isTaken 37 = .ok (.goto (-35), 3) := by decide +kernel
theorem dX4_isTaken_40 : decode cX4_isTaken 40 = .ok (.iconst 0, 1) := by decide +kernel
theorem dX4_isTaken_41 : decode cX4_isTaken 41 = .ok (.ireturn, 1) := by decide +kernel
theorem dX4_accept_0 : decode cX4_accept 0 = .ok (.aload_n 0, 1) := by decide +kernel
theorem dX4_accept_1 : decode cX4_accept 1 = .ok (.getfield 11, 3) := by decide +kernel
theorem dX4_accept_4 : decode cX4_accept 4 = .ok (.iload_n 1, 1) := by decide +kernel
theorem dX4_accept_5 : decode cX4_accept 5 = .ok (.aaload, 1) := by decide +kernel
theorem dX4_accept_6 : decode cX4_accept 6 = .ok (.astore 4, 2) := by decide +kernel
theorem dX4_accept_8 : decode cX4_accept 8 = .ok (.aload_n 0, 1) := by decide +kernel
theorem dX4_accept_9 : decode cX4_accept 9 = .ok (.getfield 17, 3) := by decide +kernel
theorem dX4_accept_12 : decode cX4_accept 12 = .ok (.iload_n 1, 1) := by decide +kernel
theorem dX4_accept_13 : decode cX4_accept 13 = .ok (.iload_n 2, 1) := by decide +kernel
theorem dX4_accept_14 : decode cX4_accept 14 = .ok (.iastore, 1) := by decide +kernel
theorem dX4_accept_15 : decode cX4_accept 15 = .ok (.aload 4, 2) := by decide +kernel
theorem dX4_accept_17 : decode cX4_accept 17 = .ok (.iload_n 3, 1) := by decide +kernel
theorem dX4_accept_18 : decode cX4_accept 18 = .ok (.putfield 110, 3) := by decide +kernel
theorem dX4_accept_21 : decode cX4_accept 21 = .ok (.aload 4, 2) := by decide +kernel
theorem dX4_accept_23 : decode cX4_accept 23 = .ok (.aload_n 0, 1) := by decide +kernel
theorem dX4_accept_24 : decode cX4_accept 24 = .ok (.iload_n 2, 1) := by decide +kernel
theorem dX4_accept_25 : decode cX4_accept 25 = .ok (.iload_n 3, 1) := by decide +kernel
theorem dX4_accept_26 : decode cX4_accept 26 = .ok (.invokevirtual 113, 3) := by decide +kernel
theorem dX4_accept_29 : decode cX4_accept 29 = .ok (.putfield 107, 3) := by decide +kernel
theorem dX4_accept_32 : decode cX4_accept 32 = .ok (.aload_n 0, 1) := by decide +kernel
theorem dX4_accept_33 : decode cX4_accept 33 = .ok (.dup, 1) := by decide +kernel
theorem dX4_accept_34 : decode cX4_accept 34 = .ok (.getfield 67, 3) := by decide +kernel
theorem dX4_accept_37 : decode cX4_accept 37 = .ok (.iconst 1, 1) := by decide +kernel
theorem dX4_accept_38 : decode cX4_accept 38 = .ok (.iload_n 1, 1) := by decide +kernel
theorem dX4_accept_39 : decode cX4_accept 39 = .ok (.ishl, 1) := by decide +kernel
theorem dX4_accept_40 : decode cX4_accept 40 = .ok (.ior, 1) := by decide +kernel
theorem dX4_accept_41 : decode cX4_accept 41 = .ok (.putfield 67, 3) := by decide +kernel
theorem dX4_accept_44 : decode cX4_accept 44 = .ok (.aload_n 0, 1) := by decide +kernel
theorem dX4_accept_45 : decode cX4_accept 45 = .ok (.getfield 28, 3) := by decide +kernel
theorem dX4_accept_48 : decode cX4_accept 48 = .ok (.iconst 1, 1) := by decide +kernel
theorem dX4_accept_49 : decode cX4_accept 49 = .ok (.if_icmp .ne 13, 3) := by decide +kernel
theorem dX4_accept_52 : decode cX4_accept 52 = .ok (.aload 4, 2) := by decide +kernel
theorem dX4_accept_54 : decode cX4_accept 54 = .ok (.iload_n 2, 1) := by decide +kernel
theorem dX4_accept_55 : decode cX4_accept 55 = .ok (.aload_n 0, 1) := by decide +kernel
theorem dX4_accept_56 : decode cX4_accept 56 = .ok (.getfield 32, 3) := by decide +kernel
theorem dX4_accept_59 : decode cX4_accept 59 = .ok (.invokevirtual 116, 3) := by decide +kernel
theorem dX4_accept_62 : decode cX4_accept 62 = .ok (.aload_n 0, 1) := by decide +kernel
theorem dX4_accept_63 : decode cX4_accept 63 = .ok (.getfield 28, 3) := by decide +kernel
theorem dX4_accept_66 : decode cX4_accept 66 = .ok (.iconst 2, 1) := by decide +kernel
theorem dX4_accept_67 : decode cX4_accept 67 = .ok (.if_icmp .ne 13, 3) := by decide +kernel
theorem dX4_accept_70 : decode cX4_accept 70 = .ok (.aload 4, 2) := by decide +kernel
theorem dX4_accept_72 : decode cX4_accept 72 = .ok (.iload_n 2, 1) := by decide +kernel
theorem dX4_accept_73 : decode cX4_accept 73 = .ok (.aload_n 0, 1) := by decide +kernel
theorem dX4_accept_74 : decode cX4_accept 74 = .ok (.getfield 38, 3) := by decide +kernel
theorem dX4_accept_77 : decode cX4_accept 77 = .ok (.invokevirtual 120, 3) := by decide +kernel
theorem dX4_accept_80 : decode cX4_accept 80 = .ok (.return_, 1) := by decide +kernel
theorem dX4_payFine_0 : decode cX4_payFine 0 = .ok (.aload_n 0, 1) := by decide +kernel
theorem dX4_payFine_1 : decode cX4_payFine 1 = .ok (.getfield 35, 3) := by decide +kernel
theorem dX4_payFine_4 : decode cX4_payFine 4 = .ok (.aload_n 0, 1) := by decide +kernel
theorem dX4_payFine_5 : decode cX4_payFine 5 = .ok (.getfield 11, 3) := by decide +kernel
theorem dX4_payFine_8 : decode cX4_payFine 8 = .ok (.iload_n 1, 1) := by decide +kernel
theorem dX4_payFine_9 : decode cX4_payFine 9 = .ok (.aaload, 1) := by decide +kernel
theorem dX4_payFine_10 : decode cX4_payFine 10 = .ok (.getfield 87, 3) := by decide +kernel
theorem dX4_payFine_13 : decode cX4_payFine 13 = .ok (.invokestatic 123, 3) := by decide +kernel
theorem dX4_payFine_16 : decode cX4_payFine 16 = .ok (.istore_n 2, 1) := by decide +kernel
theorem dX4_payFine_17 : decode cX4_payFine 17 = .ok (.aload_n 0, 1) := by decide +kernel
theorem dX4_payFine_18 : decode cX4_payFine 18 = .ok (.getfield 11, 3) := by decide +kernel
theorem dX4_payFine_21 : decode cX4_payFine 21 = .ok (.iload_n 1, 1) := by decide +kernel
theorem dX4_payFine_22 : decode cX4_payFine 22 = .ok (.aaload, 1) := by decide +kernel
theorem dX4_payFine_23 : decode cX4_payFine 23 = .ok (.dup, 1) := by decide +kernel
theorem dX4_payFine_24 : decode cX4_payFine 24 = .ok (.getfield 87, 3) := by decide +kernel
theorem dX4_payFine_27 : decode cX4_payFine 27 = .ok (.iload_n 2, 1) := by decide +kernel
theorem dX4_payFine_28 : decode cX4_payFine 28 = .ok (.isub, 1) := by decide +kernel
theorem dX4_payFine_29 : decode cX4_payFine 29 = .ok (.putfield 87, 3) := by decide +kernel
theorem dX4_payFine_32 : decode cX4_payFine 32 = .ok (.aload_n 0, 1) := by decide +kernel
theorem dX4_payFine_33 : decode cX4_payFine 33 = .ok (.dup, 1) := by decide +kernel
theorem dX4_payFine_34 : decode cX4_payFine 34 = .ok (.getfield 61, 3) := by decide +kernel
theorem dX4_payFine_37 : decode cX4_payFine 37 = .ok (.iload_n 2, 1) := by decide +kernel
theorem dX4_payFine_38 : decode cX4_payFine 38 = .ok (.iadd, 1) := by decide +kernel
theorem dX4_payFine_39 : decode cX4_payFine 39 = .ok (.putfield 61, 3) := by decide +kernel
theorem dX4_payFine_42 : decode cX4_payFine 42 = .ok (.return_, 1) := by decide +kernel
theorem dX4_expel_0 : decode cX4_expel 0 = .ok (.aload_n 0, 1) := by decide +kernel
theorem dX4_expel_1 : decode cX4_expel 1 = .ok (.iload_n 1, 1) := by decide +kernel
theorem dX4_expel_2 : decode cX4_expel 2 = .ok (.invokevirtual 128, 3) := by decide +kernel
theorem dX4_expel_5 : decode cX4_expel 5 = .ok (.aload_n 0, 1) := by decide +kernel
theorem dX4_expel_6 : decode cX4_expel 6 = .ok (.getfield 11, 3) := by decide +kernel
theorem dX4_expel_9 : decode cX4_expel 9 = .ok (.iload_n 1, 1) := by decide +kernel
theorem dX4_expel_10 : decode cX4_expel 10 = .ok (.aaload, 1) := by decide +kernel
theorem dX4_expel_11 : decode cX4_expel 11 = .ok (.dup, 1) := by decide +kernel
theorem dX4_expel_12 : decode cX4_expel 12 = .ok (.getfield 132, 3) := by decide +kernel
theorem dX4_expel_15 : decode cX4_expel 15 = .ok (.iconst 1, 1) := by decide +kernel
theorem dX4_expel_16 : decode cX4_expel 16 = .ok (.iadd, 1) := by decide +kernel
theorem dX4_expel_17 : decode cX4_expel 17 = .ok (.putfield 132, 3) := by decide +kernel
theorem dX4_expel_20 : decode cX4_expel 20 = .ok (.aload_n 0, 1) := by decide +kernel
theorem dX4_expel_21 : decode cX4_expel 21 = .ok (.dup, 1) := by decide +kernel
theorem dX4_expel_22 : decode cX4_expel 22 = .ok (.getfield 73, 3) := by decide +kernel
theorem dX4_expel_25 : decode cX4_expel 25 = .ok (.iconst 1, 1) := by decide +kernel
theorem dX4_expel_26 : decode cX4_expel 26 = .ok (.iload_n 1, 1) := by decide +kernel
theorem dX4_expel_27 : decode cX4_expel 27 = .ok (.ishl, 1) := by decide +kernel
theorem dX4_expel_28 : decode cX4_expel 28 = .ok (.ior, 1) := by decide +kernel
theorem dX4_expel_29 : decode cX4_expel 29 = .ok (.putfield 73, 3) := by decide +kernel
theorem dX4_expel_32 : decode cX4_expel 32 = .ok (.aload_n 0, 1) := by decide +kernel
theorem dX4_expel_33 : decode cX4_expel 33 = .ok (.dup, 1) := by decide +kernel
theorem dX4_expel_34 : decode cX4_expel 34 = .ok (.getfield 64, 3) := by decide +kernel
theorem dX4_expel_37 : decode cX4_expel 37 = .ok (.iconst 1, 1) := by decide +kernel
theorem dX4_expel_38 : decode cX4_expel 38 = .ok (.iload_n 1, 1) := by decide +kernel
theorem dX4_expel_39 : decode cX4_expel 39 = .ok (.ishl, 1) := by decide +kernel
theorem dX4_expel_40 : decode cX4_expel 40 = .ok (.iconst (-1), 1) := by decide +kernel
theorem dX4_expel_41 : decode cX4_expel 41 = .ok (.ixor, 1) := by decide +kernel
theorem dX4_expel_42 : decode cX4_expel 42 = .ok (.iand, 1) := by decide +kernel
theorem dX4_expel_43 : decode cX4_expel 43 = .ok (.putfield 64, 3) := by decide +kernel
theorem dX4_expel_46 : decode cX4_expel 46 = .ok (.aload_n 0, 1) := by decide +kernel
theorem dX4_expel_47 : decode cX4_expel 47 = .ok (.dup, 1) := by decide +kernel
theorem dX4_expel_48 : decode cX4_expel 48 = .ok (.getfield 67, 3) := by decide +kernel
theorem dX4_expel_51 : decode cX4_expel 51 = .ok (.iconst 1, 1) := by decide +kernel
theorem dX4_expel_52 : decode cX4_expel 52 = .ok (.iload_n 1, 1) := by decide +kernel
theorem dX4_expel_53 : decode cX4_expel 53 = .ok (.ishl, 1) := by decide +kernel
theorem dX4_expel_54 : decode cX4_expel 54 = .ok (.iconst (-1), 1) := by decide +kernel
theorem dX4_expel_55 : decode cX4_expel 55 = .ok (.ixor, 1) := by decide +kernel
theorem dX4_expel_56 : decode cX4_expel 56 = .ok (.iand, 1) := by decide +kernel
theorem dX4_expel_57 : decode cX4_expel 57 = .ok (.putfield 67, 3) := by decide +kernel
theorem dX4_expel_60 : decode cX4_expel 60 = .ok (.return_, 1) := by decide +kernel
theorem dX4_startOpening_0 : decode cX4_startOpening 0 = .ok (.aload_n 0, 1) := by decide +kernel
theorem dX4_startOpening_1 : decode cX4_startOpening 1 = .ok (.aload_n 0, 1) := by decide +kernel
theorem dX4_startOpening_2 : decode cX4_startOpening 2 = .ok (.getfield 67, 3) := by decide +kernel
theorem dX4_startOpening_5 : decode cX4_startOpening 5 = .ok (.putfield 64, 3) := by decide +kernel
theorem dX4_startOpening_8 : decode cX4_startOpening 8 = .ok (.aload_n 0, 1) := by decide +kernel
theorem dX4_startOpening_9 : decode cX4_startOpening 9 = .ok (.getfield 64, 3) := by decide +kernel
theorem dX4_startOpening_12 : decode cX4_startOpening 12 = .ok (.invokestatic 94, 3) := by decide +kernel
theorem dX4_startOpening_15 : decode cX4_startOpening 15 = .ok (.istore_n 1, 1) := by decide +kernel
theorem dX4_startOpening_16 : decode cX4_startOpening 16 = .ok (.iload_n 1, 1) := by decide +kernel
theorem dX4_startOpening_17 : decode cX4_startOpening 17 = .ok (.iconst 2, 1) := by decide +kernel
theorem dX4_startOpening_18 : decode cX4_startOpening 18 = .ok (.if_icmp .ge 27, 3) := by decide +kernel
theorem dX4_startOpening_21 : decode cX4_startOpening 21 = .ok (.aload_n 0, 1) := by decide +kernel
theorem dX4_startOpening_22 : decode cX4_startOpening 22 = .ok (.getfield 24, 3) := by decide +kernel
theorem dX4_startOpening_25 : decode cX4_startOpening 25 = .ok (.aload_n 0, 1) := by decide +kernel
theorem dX4_startOpening_26 : decode cX4_startOpening 26 = .ok (.getfield 64, 3) := by decide +kernel
theorem dX4_startOpening_29 : decode cX4_startOpening 29 = .ok (.iconst 0, 1) := by decide +kernel
theorem dX4_startOpening_30 : decode cX4_startOpening 30 = .ok (.aload_n 0, 1) := by decide +kernel
theorem dX4_startOpening_31 : decode cX4_startOpening 31 = .ok (.getfield 28, 3) := by decide +kernel
theorem dX4_startOpening_34 : decode cX4_startOpening 34 = .ok (.invokevirtual 135, 3) := by decide +kernel
theorem dX4_startOpening_37 : decode cX4_startOpening 37 = .ok (.aload_n 0, 1) := by decide +kernel
theorem dX4_startOpening_38 : decode cX4_startOpening 38 = .ok (.iconst 0, 1) := by decide +kernel
theorem dX4_startOpening_39 : decode cX4_startOpening 39 = .ok (.putfield 41, 3) := by decide +kernel
theorem dX4_startOpening_42 : decode cX4_startOpening 42 = .ok (.bipush (-5), 2) := by decide +kernel
theorem dX4_startOpening_44 : decode cX4_startOpening 44 = .ok (.ireturn, 1) := by decide +kernel
theorem dX4_startOpening_45 : decode cX4_startOpening 45 = .ok (.aload_n 0, 1) := by decide +kernel
theorem dX4_startOpening_46 : decode cX4_startOpening 46 = .ok (.iconst 2, 1) := by decide +kernel
theorem dX4_startOpening_47 : decode cX4_startOpening 47 = .ok (.putfield 41, 3) := by decide +kernel
theorem dX4_startOpening_50 : decode cX4_startOpening 50 = .ok (.iload_n 1, 1) := by decide +kernel
theorem dX4_startOpening_51 : decode cX4_startOpening 51 = .ok (.ireturn, 1) := by decide +kernel
theorem dX4_finish_0 : decode cX4_finish 0 = .ok (.aload_n 0, 1) := by decide +kernel
theorem dX4_finish_1 : decode cX4_finish 1 = .ok (.aload_n 0, 1) := by decide +kernel
theorem dX4_finish_2 : decode cX4_finish 2 = .ok (.getfield 70, 3) := by decide +kernel
theorem dX4_finish_5 : decode cX4_finish 5 = .ok (.invokevirtual 139, 3) := by decide +kernel
theorem dX4_finish_8 : decode cX4_finish 8 = .ok (.istore_n 1, 1) := by decide +kernel
theorem dX4_finish_9 : decode cX4_finish 9 = .ok (.aload_n 0, 1) := by decide +kernel
theorem dX4_finish_10 : decode cX4_finish 10 = .ok (.invokevirtual 142, 3) := by decide +kernel
theorem dX4_finish_13 : decode cX4_finish 13 = .ok (.aload_n 0, 1) := by decide +kernel
theorem dX4_finish_14 : decode cX4_finish 14 = .ok (.iconst 0, 1) := by decide +kernel
theorem dX4_finish_15 : decode cX4_finish 15 = .ok (.putfield 41, 3) := by decide +kernel
theorem dX4_finish_18 : decode cX4_finish 18 = .ok (.aload_n 0, 1) := by decide +kernel
theorem dX4_finish_19 : decode cX4_finish 19 = .ok (.getfield 70, 3) := by decide +kernel
theorem dX4_finish_22 : decode cX4_finish 22 = .ok (.invokestatic 94, 3) := by decide +kernel
theorem dX4_finish_25 : decode cX4_finish 25 = .ok (.istore_n 2, 1) := by decide +kernel
theorem dX4_finish_26 : decode cX4_finish 26 = .ok (.iload_n 1, 1) := by decide +kernel
theorem dX4_finish_27 : decode cX4_finish 27 = .ok (.iconst (-1), 1) := by decide +kernel
theorem dX4_finish_28 : decode cX4_finish 28 = .ok (.if_icmp .ne 22, 3) := by decide +kernel
theorem dX4_finish_31 : decode cX4_finish 31 = .ok (.aload_n 0, 1) := by decide +kernel
theorem dX4_finish_32 : decode cX4_finish 32 = .ok (.getfield 24, 3) := by decide +kernel
theorem dX4_finish_35 : decode cX4_finish 35 = .ok (.aload_n 0, 1) := by decide +kernel
theorem dX4_finish_36 : decode cX4_finish 36 = .ok (.getfield 64, 3) := by decide +kernel
theorem dX4_finish_39 : decode cX4_finish 39 = .ok (.iload_n 2, 1) := by decide +kernel
theorem dX4_finish_40 : decode cX4_finish 40 = .ok (.aload_n 0, 1) := by decide +kernel
theorem dX4_finish_41 : decode cX4_finish 41 = .ok (.getfield 28, 3) := by decide +kernel
theorem dX4_finish_44 : decode cX4_finish 44 = .ok (.invokevirtual 135, 3) := by decide +kernel
theorem dX4_finish_47 : decode cX4_finish 47 = .ok (.bipush (-5), 2) := by decide +kernel
theorem dX4_finish_49 : decode cX4_finish 49 = .ok (.ireturn, 1) := by decide +kernel
theorem dX4_finish_50 : decode cX4_finish 50 = .ok (.aload_n 0, 1) := by decide +kernel
theorem dX4_finish_51 : decode cX4_finish 51 = .ok (.aload_n 0, 1) := by decide +kernel
theorem dX4_finish_52 : decode cX4_finish 52 = .ok (.getfield 17, 3) := by decide +kernel
theorem dX4_finish_55 : decode cX4_finish 55 = .ok (.iload_n 1, 1) := by decide +kernel
theorem dX4_finish_56 : decode cX4_finish 56 = .ok (.invokevirtual 145, 3) := by decide +kernel
theorem dX4_finish_59 : decode cX4_finish 59 = .ok (.istore_n 3, 1) := by decide +kernel
theorem dX4_finish_60 : decode cX4_finish 60 = .ok (.aload_n 0, 1) := by decide +kernel
theorem dX4_finish_61 : decode cX4_finish 61 = .ok (.getfield 24, 3) := by decide +kernel
theorem dX4_finish_64 : decode cX4_finish 64 = .ok (.iload_n 3, 1) := by decide +kernel
theorem dX4_finish_65 : decode cX4_finish 65 = .ok (.aload_n 0, 1) := by decide +kernel
theorem dX4_finish_66 : decode cX4_finish 66 = .ok (.getfield 64, 3) := by decide +kernel
theorem dX4_finish_69 : decode cX4_finish 69 = .ok (.iload_n 2, 1) := by decide +kernel
theorem dX4_finish_70 : decode cX4_finish 70 = .ok (.aload_n 0, 1) := by decide +kernel
theorem dX4_finish_71 : decode cX4_finish 71 = .ok (.getfield 28, 3) := by decide +kernel
theorem dX4_finish_74 : decode cX4_finish 74 = .ok (.invokevirtual 149, 3) := by decide +kernel
theorem dX4_finish_77 : decode cX4_finish 77 = .ok (.aload_n 0, 1) := by decide +kernel
theorem dX4_finish_78 : decode cX4_finish 78 = .ok (.iload_n 2, 1) := by decide +kernel
theorem dX4_finish_79 : decode cX4_finish 79 = .ok (.invokevirtual 153, 3) := by decide +kernel
theorem dX4_finish_82 : decode cX4_finish 82 = .ok (.iload_n 3, 1) := by decide +kernel
theorem dX4_finish_83 : decode cX4_finish 83 = .ok (.iconst 1, 1) := by decide +kernel
theorem dX4_finish_84 : decode cX4_finish 84 = .ok (.iand, 1) := by decide +kernel
theorem dX4_finish_85 : decode cX4_finish 85 = .ok (.ireturn, 1) := by decide +kernel
theorem dX4_chargeOrCredit_0 : decode cX4_chargeOrCredit 0 = .ok (.iconst 0, 1) := by decide +kernel
theorem dX4_chargeOrCredit_1 : decode cX4_chargeOrCredit 1 = .ok (.istore_n 1, 1) := by decide +kernel
theorem dX4_chargeOrCredit_2 : decode cX4_chargeOrCredit 2 = .ok (.iload_n 1, 1) := by decide +kernel
theorem dX4_chargeOrCredit_3 : decode cX4_chargeOrCredit 3 = .ok (.bipush 8, 2) := by decide +kernel
theorem dX4_chargeOrCredit_5 : decode cX4_chargeOrCredit 5 = .ok (.if_icmp .ge 69, 3) := by decide +kernel
theorem dX4_chargeOrCredit_8 : decode cX4_chargeOrCredit 8 = .ok (.aload_n 0, 1) := by decide +kernel
theorem dX4_chargeOrCredit_9 : decode cX4_chargeOrCredit 9 = .ok (.getfield 70, 3) := by decide +kernel
theorem dX4_chargeOrCredit_12 : decode cX4_chargeOrCredit 12 = .ok (.iload_n 1, 1) := by decide +kernel
theorem dX4_chargeOrCredit_13 : decode cX4_chargeOrCredit 13 = .ok (.invokestatic 76, 3) := by decide +kernel
theorem dX4_chargeOrCredit_16 : decode cX4_chargeOrCredit 16 = .ok (.ifCond .eq 21, 3) := by decide +kernel
theorem dX4_chargeOrCredit_19 : decode cX4_chargeOrCredit 19 = .ok (.aload_n 0, 1) := by decide +kernel
theorem dX4_chargeOrCredit_20 : decode cX4_chargeOrCredit 20 = .ok (.getfield 11, 3) := by decide +kernel
theorem dX4_chargeOrCredit_23 : decode cX4_chargeOrCredit 23 = .ok (.iload_n 1, 1) := by decide +kernel
theorem dX4_chargeOrCredit_24 : decode cX4_chargeOrCredit 24 = .ok (.aaload, 1) := by decide +kernel
theorem dX4_chargeOrCredit_25 : decode cX4_chargeOrCredit 25 = .ok (.dup, 1) := by decide +kernel
theorem dX4_chargeOrCredit_26 : decode cX4_chargeOrCredit 26 = .ok (.getfield 156, 3) := by decide +kernel
theorem dX4_chargeOrCredit_29 : decode cX4_chargeOrCredit 29 = .ok (.iconst 1, 1) := by decide +kernel
theorem dX4_chargeOrCredit_30 : decode cX4_chargeOrCredit 30 = .ok (.iadd, 1) := by decide +kernel
theorem dX4_chargeOrCredit_31 : decode cX4_chargeOrCredit 31 = .ok (.putfield 156, 3) := by decide +kernel
theorem dX4_chargeOrCredit_34 : decode cX4_chargeOrCredit 34 = .ok (.goto 34, 3) := by decide +kernel
theorem dX4_chargeOrCredit_37 : decode cX4_chargeOrCredit 37 = .ok (.aload_n 0, 1) := by decide +kernel
theorem dX4_chargeOrCredit_38 : decode cX4_chargeOrCredit 38 = .ok (.getfield 64, 3) := by decide +kernel
theorem dX4_chargeOrCredit_41 : decode cX4_chargeOrCredit 41 = .ok (.iload_n 1, 1) := by decide +kernel
theorem dX4_chargeOrCredit_42 : decode cX4_chargeOrCredit 42 = .ok (.invokestatic 76, 3) := by decide +kernel
theorem dX4_chargeOrCredit_45 : decode cX4_chargeOrCredit 45 = .ok (.ifCond .eq 23, 3) := by decide +kernel
theorem dX4_chargeOrCredit_48 : decode cX4_chargeOrCredit 48 = .ok (.aload_n 0, 1) := by decide +kernel
theorem dX4_chargeOrCredit_49 : decode cX4_chargeOrCredit 49 = .ok (.getfield 11, 3) := by decide +kernel
theorem dX4_chargeOrCredit_52 : decode cX4_chargeOrCredit 52 = .ok (.iload_n 1, 1) := by decide +kernel
theorem dX4_chargeOrCredit_53 : decode cX4_chargeOrCredit 53 = .ok (.aaload, 1) := by decide +kernel
theorem dX4_chargeOrCredit_54 : decode cX4_chargeOrCredit 54 = .ok (.dup, 1) := by decide +kernel
theorem dX4_chargeOrCredit_55 : decode cX4_chargeOrCredit 55 = .ok (.getfield 159, 3) := by decide +kernel
theorem dX4_chargeOrCredit_58 : decode cX4_chargeOrCredit 58 = .ok (.iconst 1, 1) := by decide +kernel
theorem dX4_chargeOrCredit_59 : decode cX4_chargeOrCredit 59 = .ok (.iadd, 1) := by decide +kernel
theorem dX4_chargeOrCredit_60 : decode cX4_chargeOrCredit 60 = .ok (.putfield 159, 3) := by decide +kernel
theorem dX4_chargeOrCredit_63 : decode cX4_chargeOrCredit 63 = .ok (.aload_n 0, 1) := by decide +kernel
theorem dX4_chargeOrCredit_64 : decode cX4_chargeOrCredit 64 = .ok (.iload_n 1, 1) := by decide +kernel
theorem dX4_chargeOrCredit_65 : decode cX4_chargeOrCredit 65 = .ok (.invokevirtual 128, 3) := by decide +kernel
theorem dX4_chargeOrCredit_68 : decode cX4_chargeOrCredit 68 = .ok (.iinc 1 1, 3) := by decide +kernel
theorem dX4_chargeOrCredit_71 : decode cX4_chargeOrCredit 71 = .ok (.goto (-69), 3) := by decide +kernel
theorem dX4_chargeOrCredit_74 : decode cX4_chargeOrCredit 74 = .ok (.return_, 1) := by decide +kernel
theorem dX4_sharePot_0 : decode cX4_sharePot 0 = .ok (.iload_n 1, 1) := by decide +kernel
theorem dX4_sharePot_1 : decode cX4_sharePot 1 = .ok (.ifCond .ne 4, 3) := by decide +kernel
theorem dX4_sharePot_4 : decode cX4_sharePot 4 = .ok (.return_, 1) := by decide +kernel
theorem dX4_sharePot_5 : decode cX4_sharePot 5 = .ok (.aload_n 0, 1) := by decide +kernel
theorem dX4_sharePot_6 : decode cX4_sharePot 6 = .ok (.getfield 61, 3) := by decide +kernel
theorem dX4_sharePot_9 : decode cX4_sharePot 9 = .ok (.iload_n 1, 1) := by decide +kernel
theorem dX4_sharePot_10 : decode cX4_sharePot 10 = .ok (.idiv, 1) := by decide +kernel
theorem dX4_sharePot_11 : decode cX4_sharePot 11 = .ok (.istore_n 2, 1) := by decide +kernel
theorem dX4_sharePot_12 : decode cX4_sharePot 12 = .ok (.iconst 0, 1) := by decide +kernel
theorem dX4_sharePot_13 : decode cX4_sharePot 13 = .ok (.istore_n 3, 1) := by decide +kernel
theorem dX4_sharePot_14 : decode cX4_sharePot 14 = .ok (.iload_n 3, 1) := by decide +kernel
theorem dX4_sharePot_15 : decode cX4_sharePot 15 = .ok (.bipush 8, 2) := by decide +kernel
theorem dX4_sharePot_17 : decode cX4_sharePot 17 = .ok (.if_icmp .ge 45, 3) := by decide +kernel
theorem dX4_sharePot_20 : decode cX4_sharePot 20 = .ok (.aload_n 0, 1) := by decide +kernel
theorem dX4_sharePot_21 : decode cX4_sharePot 21 = .ok (.getfield 70, 3) := by decide +kernel
theorem dX4_sharePot_24 : decode cX4_sharePot 24 = .ok (.iload_n 3, 1) := by decide +kernel
theorem dX4_sharePot_25 : decode cX4_sharePot 25 = .ok (.invokestatic 76, 3) := by decide +kernel
theorem dX4_sharePot_28 : decode cX4_sharePot 28 = .ok (.ifCond .eq 28, 3) := by decide +kernel
theorem dX4_sharePot_31 : decode cX4_sharePot 31 = .ok (.aload_n 0, 1) := by decide +kernel
theorem dX4_sharePot_32 : decode cX4_sharePot 32 = .ok (.getfield 11, 3) := by decide +kernel
theorem dX4_sharePot_35 : decode cX4_sharePot 35 = .ok (.iload_n 3, 1) := by decide +kernel
theorem dX4_sharePot_36 : decode cX4_sharePot 36 = .ok (.aaload, 1) := by decide +kernel
theorem dX4_sharePot_37 : decode cX4_sharePot 37 = .ok (.dup, 1) := by decide +kernel
theorem dX4_sharePot_38 : decode cX4_sharePot 38 = .ok (.getfield 87, 3) := by decide +kernel
theorem dX4_sharePot_41 : decode cX4_sharePot 41 = .ok (.iload_n 2, 1) := by decide +kernel
theorem dX4_sharePot_42 : decode cX4_sharePot 42 = .ok (.iadd, 1) := by decide +kernel
theorem dX4_sharePot_43 : decode cX4_sharePot 43 = .ok (.putfield 87, 3) := by decide +kernel
theorem dX4_sharePot_46 : decode cX4_sharePot 46 = .ok (.aload_n 0, 1) := by decide +kernel
theorem dX4_sharePot_47 : decode cX4_sharePot 47 = .ok (.dup, 1) := by decide +kernel
theorem dX4_sharePot_48 : decode cX4_sharePot 48 = .ok (.getfield 61, 3) := by decide +kernel
theorem dX4_sharePot_51 : decode cX4_sharePot 51 = .ok (.iload_n 2, 1) := by decide +kernel
theorem dX4_sharePot_52 : decode cX4_sharePot 52 = .ok (.isub, 1) := by decide +kernel
theorem dX4_sharePot_53 : decode cX4_sharePot 53 = .ok (.putfield 61, 3) := by decide +kernel
theorem dX4_sharePot_56 : decode cX4_sharePot 56 = .ok (.iinc 3 1, 3) := by decide +kernel
theorem dX4_sharePot_59 : decode cX4_sharePot 59 = .ok (.goto (-45), 3) := by decide +kernel
theorem dX4_sharePot_62 : decode cX4_sharePot 62 = .ok (.return_, 1) := by decide +kernel
theorem dX4_countedIf_0 : decode cX4_countedIf 0 = .ok (.aload_n 0, 1) := by decide +kernel
theorem dX4_countedIf_1 : decode cX4_countedIf 1 = .ok (.getfield 28, 3) := by decide +kernel
theorem dX4_countedIf_4 : decode cX4_countedIf 4 = .ok (.ifCond .ne 5, 3) := by decide +kernel
theorem dX4_countedIf_7 : decode cX4_countedIf 7 = .ok (.iload_n 1, 1) := by decide +kernel
theorem dX4_countedIf_8 : decode cX4_countedIf 8 = .ok (.ireturn, 1) := by decide +kernel
theorem dX4_countedIf_9 : decode cX4_countedIf 9 = .ok (.aload_n 0, 1) := by decide +kernel
theorem dX4_countedIf_10 : decode cX4_countedIf 10 = .ok (.getfield 28, 3) := by decide +kernel
theorem dX4_countedIf_13 : decode cX4_countedIf 13 = .ok (.iconst 1, 1) := by decide +kernel
theorem dX4_countedIf_14 : decode cX4_countedIf 14 = .ok (.if_icmp .ne 13, 3) := by decide +kernel
theorem dX4_countedIf_17 : decode cX4_countedIf 17 = .ok (.aload_n 0, 1) := by decide +kernel
theorem dX4_countedIf_18 : decode cX4_countedIf 18 = .ok (.iload_n 1, 1) := by decide +kernel
theorem dX4_countedIf_19 : decode cX4_countedIf 19 = .ok (.invokevirtual 162, 3) := by decide +kernel
theorem dX4_countedIf_22 : decode cX4_countedIf 22 = .ok (.ifCond .ne 5, 3) := by decide +kernel
theorem dX4_countedIf_25 : decode cX4_countedIf 25 = .ok (.iconst (-1), 1) := by decide +kernel
theorem dX4_countedIf_26 : decode cX4_countedIf 26 = .ok (.ireturn, 1) := by decide +kernel
theorem dX4_countedIf_27 : decode cX4_countedIf 27 = .ok (.aload_n 0, 1) := by decide +kernel
theorem dX4_countedIf_28 : decode cX4_countedIf 28 = .ok (.getfield 64, 3) := by decide +kernel
theorem dX4_countedIf_31 : decode cX4_countedIf 31 = .ok (.ireturn, 1) := by decide +kernel
theorem dX4_canRecoverAll_0 : decode cX4_canRecoverAll 0 = .ok (.iconst 0, 1) := by decide +kernel
theorem dX4_canRecoverAll_1 : decode cX4_canRecoverAll 1 = .ok (.istore_n 2, 1) := by decide +kernel
theorem dX4_canRecoverAll_2 : decode cX4_canRecoverAll 2 = .ok (.iload_n 2, 1) := by decide +kernel
theorem dX4_canRecoverAll_3 : decode cX4_canRecoverAll 3 = .ok (.bipush 8, 2) := by decide +kernel
theorem dX4_canRecoverAll_5 : decode cX4_canRecoverAll 5 = .ok (.if_icmp .ge 47, 3) := by decide +kernel
theorem dX4_canRecoverAll_8 : decode cX4_canRecoverAll 8 = .ok (.aload_n 0, 1) := by decide +kernel
theorem dX4_canRecoverAll_9 : decode cX4_canRecoverAll 9 = .ok (.getfield 64, 3) := by decide +kernel
theorem dX4_canRecoverAll_12 : decode cX4_canRecoverAll 12 = .ok (.iload_n 1, 1) := by decide +kernel
theorem dX4_canRecoverAll_13 : decode cX4_canRecoverAll 13 = .ok (.iconst (-1), 1) := by decide +kernel
theorem dX4_canRecoverAll_14 : decode cX4_canRecoverAll 14 = .ok (.ixor, 1) := by decide +kernel
theorem dX4_canRecoverAll_15 : decode cX4_canRecoverAll 15 = .ok (.iand, 1) := by decide +kernel
theorem dX4_canRecoverAll_16 : decode cX4_canRecoverAll 16 = .ok (.iload_n 2, 1) := by decide +kernel
theorem dX4_canRecoverAll_17 : decode cX4_canRecoverAll 17 = .ok (.invokestatic 76, 3) := by decide +kernel
theorem dX4_canRecoverAll_20 : decode cX4_canRecoverAll 20 = .ok (.ifCond .eq 26, 3) := by decide +kernel
theorem dX4_canRecoverAll_23 : decode cX4_canRecoverAll 23 = .ok (.iload_n 1, 1) := by decide +kernel
theorem dX4_canRecoverAll_24 : decode cX4_canRecoverAll 24 = .ok (.aload_n 0, 1) := by decide +kernel
theorem dX4_canRecoverAll_25 : decode cX4_canRecoverAll 25 = .ok (.getfield 11, 3) := by decide +kernel
theorem dX4_canRecoverAll_28 : decode cX4_canRecoverAll 28 = .ok (.iload_n 2, 1) := by decide +kernel
theorem dX4_canRecoverAll_29 : decode cX4_canRecoverAll 29 = .ok (.aaload, 1) := by decide +kernel
theorem dX4_canRecoverAll_30 : decode cX4_canRecoverAll 30 = .ok (.getfield 165, 3) := by decide +kernel
theorem dX4_canRecoverAll_33 : decode cX4_canRecoverAll 33 = .ok (.iand, 1) := by decide +kernel
theorem dX4_canRecoverAll_34 : decode cX4_canRecoverAll 34 = .ok (.invokestatic 94, 3) := by decide +kernel
theorem dX4_canRecoverAll_37 : decode cX4_canRecoverAll 37 = .ok (.aload_n 0, 1) := by decide +kernel
theorem dX4_canRecoverAll_38 : decode cX4_canRecoverAll 38 = .ok (.getfield 32, 3) := by decide +kernel
theorem dX4_canRecoverAll_41 : decode cX4_canRecoverAll 41 = .ok (.if_icmp .ge 5, 3) := by decide +kernel
theorem dX4_canRecoverAll_44 : decode cX4_canRecoverAll 44 = .ok (.iconst 0, 1) := by decide +kernel
theorem dX4_canRecoverAll_45 : decode cX4_canRecoverAll 45 = .ok (.ireturn, 1) := by decide +kernel
theorem dX4_canRecoverAll_46 : decode cX4_canRecoverAll 46 = .ok (.iinc 2 1, 3) := by decide +kernel
theorem dX4_canRecoverAll_49 : decode cX4_canRecoverAll 49 = .ok (.goto (-47), 3) := by decide +kernel
theorem dX4_canRecoverAll_52 : decode cX4_canRecoverAll 52 = .ok (.iconst 1, 1) := by decide +kernel
theorem dX4_canRecoverAll_53 : decode cX4_canRecoverAll 53 = .ok (.ireturn, 1) := by decide +kernel
theorem dX4_mixed_0 : decode cX4_mixed 0 = .ok (.aload_n 0, 1) := by decide +kernel
theorem dX4_mixed_1 : decode cX4_mixed 1 = .ok (.getfield 24, 3) := by decide +kernel
theorem dX4_mixed_4 : decode cX4_mixed 4 = .ok (.getfield 168, 3) := by decide +kernel
theorem dX4_mixed_7 : decode cX4_mixed 7 = .ok (.istore_n 3, 1) := by decide +kernel
theorem dX4_mixed_8 : decode cX4_mixed 8 = .ok (.iconst 0, 1) := by decide +kernel
theorem dX4_mixed_9 : decode cX4_mixed 9 = .ok (.istore 4, 2) := by decide +kernel
theorem dX4_mixed_11 : decode cX4_mixed 11 = .ok (.iload 4, 2) := by decide +kernel
theorem dX4_mixed_13 : decode cX4_mixed 13 = .ok (.bipush 8, 2) := by decide +kernel
theorem dX4_mixed_15 : decode cX4_mixed 15 = .ok (.if_icmp .ge 50, 3) := by decide +kernel
theorem dX4_mixed_18 : decode cX4_mixed 18 = .ok (.iload 4, 2) := by decide +kernel
theorem dX4_mixed_20 : decode cX4_mixed 20 = .ok (.aload_n 1, 1) := by decide +kernel
theorem dX4_mixed_21 : decode cX4_mixed 21 = .ok (.arraylength, 1) := by decide +kernel
theorem dX4_mixed_22 : decode cX4_mixed 22 = .ok (.if_icmp .ge 43, 3) := by decide +kernel
theorem dX4_mixed_25 : decode cX4_mixed 25 = .ok (.aload_n 0, 1) := by decide +kernel
theorem dX4_mixed_26 : decode cX4_mixed 26 = .ok (.getfield 64, 3) := by decide +kernel
theorem dX4_mixed_29 : decode cX4_mixed 29 = .ok (.iload 4, 2) := by decide +kernel
theorem dX4_mixed_31 : decode cX4_mixed 31 = .ok (.invokestatic 76, 3) := by decide +kernel
theorem dX4_mixed_34 : decode cX4_mixed 34 = .ok (.ifCond .eq 25, 3) := by decide +kernel
theorem dX4_mixed_37 : decode cX4_mixed 37 = .ok (.iload_n 3, 1) := by decide +kernel
theorem dX4_mixed_38 : decode cX4_mixed 38 = .ok (.iload_n 2, 1) := by decide +kernel
theorem dX4_mixed_39 : decode cX4_mixed 39 = .ok (.iload 4, 2) := by decide +kernel
theorem dX4_mixed_41 : decode cX4_mixed 41 = .ok (.invokestatic 76, 3) := by decide +kernel
theorem dX4_mixed_44 : decode cX4_mixed 44 = .ok (.ifCond .eq 10, 3) := by decide +kernel
theorem dX4_mixed_47 : decode cX4_mixed 47 = .ok (.aload_n 1, 1) := by decide +kernel
theorem dX4_mixed_48 : decode cX4_mixed 48 = .ok (.iload 4, 2) := by decide +kernel
theorem dX4_mixed_50 : decode cX4_mixed 50 = .ok (.iaload, 1) := by decide +kernel
theorem dX4_mixed_51 : decode cX4_mixed 51 = .ok (.goto 4, 3) := by decide +kernel
theorem dX4_mixed_54 : decode cX4_mixed 54 = .ok (.iconst 0, 1) := by decide +kernel
theorem dX4_mixed_55 : decode cX4_mixed 55 = .ok (.invokestatic 103, 3) := by decide +kernel
theorem dX4_mixed_58 : decode cX4_mixed 58 = .ok (.istore_n 3, 1) := by decide +kernel
theorem dX4_mixed_59 : decode cX4_mixed 59 = .ok (.iinc 4 1, 3) := by decide +kernel
theorem dX4_mixed_62 : decode cX4_mixed 62 = .ok (.goto (-51), 3) := by decide +kernel
theorem dX4_mixed_65 : decode cX4_mixed 65 = .ok (.iload_n 3, 1) := by decide +kernel
theorem dX4_mixed_66 : decode cX4_mixed 66 = .ok (.ireturn, 1) := by decide +kernel
theorem dX5_init_0 : decode cX5_init 0 = .ok (.aload_n 0, 1) := by decide +kernel
theorem dX5_init_1 : decode cX5_init 1 = .ok (.invokespecial 3, 3) := by decide +kernel
theorem dX5_init_4 : decode cX5_init 4 = .ok (.aload_n 0, 1) := by decide +kernel
theorem dX5_init_5 : decode cX5_init 5 = .ok (.bipush 8, 2) := by decide +kernel
theorem dX5_init_7 : decode cX5_init 7 = .ok (.newarray .int, 2) := by decide +kernel
theorem dX5_init_9 : decode cX5_init 9 = .ok (.putfield 9, 3) := by decide +kernel
theorem dX5_init_12 : decode cX5_init 12 = .ok (.aload_n 0, 1) := by decide +kernel
theorem dX5_init_13 : decode cX5_init 13 = .ok (.bipush 8, 2) := by decide +kernel
theorem dX5_init_15 : decode cX5_init 15 = .ok (.newarray .int, 2) := by decide +kernel
theorem dX5_init_17 : decode cX5_init 17 = .ok (.putfield 15, 3) := by decide +kernel
theorem dX5_init_20 : decode cX5_init 20 = .ok (.return_, 1) := by decide +kernel
theorem dX5_copy_0 : decode cX5_copy 0 = .ok (.aload_n 0, 1) := by decide +kernel
theorem dX5_copy_1 : decode cX5_copy 1 = .ok (.aload_n 1, 1) := by decide +kernel
theorem dX5_copy_2 : decode cX5_copy 2 = .ok (.getfield 18, 3) := by decide +kernel
theorem dX5_copy_5 : decode cX5_copy 5 = .ok (.putfield 18, 3) := by decide +kernel
theorem dX5_copy_8 : decode cX5_copy 8 = .ok (.aload_n 0, 1) := by decide +kernel
theorem dX5_copy_9 : decode cX5_copy 9 = .ok (.aload_n 1, 1) := by decide +kernel
theorem dX5_copy_10 : decode cX5_copy 10 = .ok (.getfield 22, 3) := by decide +kernel
theorem dX5_copy_13 : decode cX5_copy 13 = .ok (.putfield 22, 3) := by decide +kernel
theorem dX5_copy_16 : decode cX5_copy 16 = .ok (.aload_n 0, 1) := by decide +kernel
theorem dX5_copy_17 : decode cX5_copy 17 = .ok (.aload_n 1, 1) := by decide +kernel
theorem dX5_copy_18 : decode cX5_copy 18 = .ok (.getfield 25, 3) := by decide +kernel
theorem dX5_copy_21 : decode cX5_copy 21 = .ok (.putfield 25, 3) := by decide +kernel
theorem dX5_copy_24 : decode cX5_copy 24 = .ok (.aload_n 0, 1) := by decide +kernel
theorem dX5_copy_25 : decode cX5_copy 25 = .ok (.aload_n 1, 1) := by decide +kernel
theorem dX5_copy_26 : decode cX5_copy 26 = .ok (.getfield 28, 3) := by decide +kernel
theorem dX5_copy_29 : decode cX5_copy 29 = .ok (.putfield 28, 3) := by decide +kernel
theorem dX5_copy_32 : decode cX5_copy 32 = .ok (.aload_n 0, 1) := by decide +kernel
theorem dX5_copy_33 : decode cX5_copy 33 = .ok (.aload_n 1, 1) := by decide +kernel
theorem dX5_copy_34 : decode cX5_copy 34 = .ok (.getfield 31, 3) := by decide +kernel
theorem dX5_copy_37 : decode cX5_copy 37 = .ok (.putfield 31, 3) := by decide +kernel
theorem dX5_copy_40 : decode cX5_copy 40 = .ok (.aload_n 0, 1) := by decide +kernel
theorem dX5_copy_41 : decode cX5_copy 41 = .ok (.aload_n 1, 1) := by decide +kernel
theorem dX5_copy_42 : decode cX5_copy 42 = .ok (.getfield 34, 3) := by decide +kernel
theorem dX5_copy_45 : decode cX5_copy 45 = .ok (.putfield 34, 3) := by decide +kernel
theorem dX5_copy_48 : decode cX5_copy 48 = .ok (.aload_n 0, 1) := by decide +kernel
theorem dX5_copy_49 : decode cX5_copy 49 = .ok (.aload_n 1, 1) := by decide +kernel
theorem dX5_copy_50 : decode cX5_copy 50 = .ok (.getfield 37, 3) := by decide +kernel
theorem dX5_copy_53 : decode cX5_copy 53 = .ok (.putfield 37, 3) := by decide +kernel
theorem dX5_copy_56 : decode cX5_copy 56 = .ok (.aload_n 0, 1) := by decide +kernel
theorem dX5_copy_57 : decode cX5_copy 57 = .ok (.aload_n 1, 1) := by decide +kernel
theorem dX5_copy_58 : decode cX5_copy 58 = .ok (.getfield 40, 3) := by decide +kernel
theorem dX5_copy_61 : decode cX5_copy 61 = .ok (.putfield 40, 3) := by decide +kernel
theorem dX5_copy_64 : decode cX5_copy 64 = .ok (.aload_n 0, 1) := by decide +kernel
theorem dX5_copy_65 : decode cX5_copy 65 = .ok (.aload_n 1, 1) := by decide +kernel
theorem dX5_copy_66 : decode cX5_copy 66 = .ok (.getfield 43, 3) := by decide +kernel
theorem dX5_copy_69 : decode cX5_copy 69 = .ok (.putfield 43, 3) := by decide +kernel
theorem dX5_copy_72 : decode cX5_copy 72 = .ok (.aload_n 0, 1) := by decide +kernel
theorem dX5_copy_73 : decode cX5_copy 73 = .ok (.aload_n 1, 1) := by decide +kernel
theorem dX5_copy_74 : decode cX5_copy 74 = .ok (.getfield 46, 3) := by decide +kernel
theorem dX5_copy_77 : decode cX5_copy 77 = .ok (.putfield 46, 3) := by decide +kernel
theorem dX5_copy_80 : decode cX5_copy 80 = .ok (.aload_n 1, 1) := by decide +kernel
theorem dX5_copy_81 : decode cX5_copy 81 = .ok (.getfield 9, 3) := by decide +kernel
theorem dX5_copy_84 : decode cX5_copy 84 = .ok (.iconst 0, 1) := by decide +kernel
theorem dX5_copy_85 : decode cX5_copy 85 = .ok (.aload_n 0, 1) := by decide +kernel
theorem dX5_copy_86 : decode cX5_copy 86 = .ok (.getfield 9, 3) := by decide +kernel
theorem dX5_copy_89 : decode cX5_copy 89 = .ok (.iconst 0, 1) := by decide +kernel
theorem dX5_copy_90 : decode cX5_copy 90 = .ok (.bipush 8, 2) := by decide +kernel
theorem dX5_copy_92 : decode cX5_copy 92 = .ok (.invokestatic 49, 3) := by decide +kernel
theorem dX5_copy_95 : decode cX5_copy 95 = .ok (.aload_n 1, 1) := by decide +kernel
theorem dX5_copy_96 : decode cX5_copy 96 = .ok (.getfield 15, 3) := by decide +kernel
theorem dX5_copy_99 : decode cX5_copy 99 = .ok (.iconst 0, 1) := by decide +kernel
theorem dX5_copy_100 : decode cX5_copy 100 = .ok (.aload_n 0, 1) := by decide +kernel
theorem dX5_copy_101 : decode cX5_copy 101 = .ok (.getfield 15, 3) := by decide +kernel
theorem dX5_copy_104 : decode cX5_copy 104 = .ok (.iconst 0, 1) := by decide +kernel
theorem dX5_copy_105 : decode cX5_copy 105 = .ok (.bipush 8, 2) := by decide +kernel
theorem dX5_copy_107 : decode cX5_copy 107 = .ok (.invokestatic 49, 3) := by decide +kernel
theorem dX5_copy_110 : decode cX5_copy 110 = .ok (.return_, 1) := by decide +kernel
theorem dX5_deal_0 : decode cX5_deal 0 = .ok (.iconst 0, 1) := by decide +kernel
theorem dX5_deal_1 : decode cX5_deal 1 = .ok (.istore_n 3, 1) := by decide +kernel
theorem dX5_deal_2 : decode cX5_deal 2 = .ok (.iload_n 3, 1) := by decide +kernel
theorem dX5_deal_3 : decode cX5_deal 3 = .ok (.bipush 8, 2) := by decide +kernel
theorem dX5_deal_5 : decode cX5_deal 5 = .ok (.if_icmp .ge 16, 3) := by decide +kernel
theorem dX5_deal_8 : decode cX5_deal 8 = .ok (.aload_n 0, 1) := by decide +kernel
theorem dX5_deal_9 : decode cX5_deal 9 = .ok (.getfield 9, 3) := by decide +kernel
theorem dX5_deal_12 : decode cX5_deal 12 = .ok (.iload_n 3, 1) := by decide +kernel
theorem dX5_deal_13 : decode cX5_deal 13 = .ok (.iconst 0, 1) := by decide +kernel
theorem dX5_deal_14 : decode cX5_deal 14 = .ok (.iastore, 1) := by decide +kernel
theorem dX5_deal_15 : decode cX5_deal 15 = .ok (.iinc 3 1, 3) := by decide +kernel
theorem dX5_deal_18 : decode cX5_deal 18 = .ok (.goto (-16), 3) := by decide +kernel
theorem dX5_deal_21 : decode cX5_deal 21 = .ok (.aload_n 0, 1) := by decide +kernel
theorem dX5_deal_22 : decode cX5_deal 22 = .ok (.getfield 34, 3) := by decide +kernel
theorem dX5_deal_25 : decode cX5_deal 25 = .ok (.istore_n 3, 1) := by decide +kernel
theorem dX5_deal_26 : decode cX5_deal 26 = .ok (.iload_n 1, 1) := by decide +kernel
theorem dX5_deal_27 : decode cX5_deal 27 = .ok (.istore 4, 2) := by decide +kernel
theorem dX5_deal_29 : decode cX5_deal 29 = .ok (.iconst 0, 1) := by decide +kernel
theorem dX5_deal_30 : decode cX5_deal 30 = .ok (.istore 5, 2) := by decide +kernel
theorem dX5_deal_32 : decode cX5_deal 32 = .ok (.iload 5, 2) := by decide +kernel
theorem dX5_deal_34 : decode cX5_deal 34 = .ok (.iload_n 2, 1) := by decide +kernel
theorem dX5_deal_35 : decode cX5_deal 35 = .ok (.if_icmp .ge 97, 3) := by decide +kernel
theorem dX5_deal_38 : decode cX5_deal 38 = .ok (.iload 5, 2) := by decide +kernel
theorem dX5_deal_40 : decode cX5_deal 40 = .ok (.bipush 8, 2) := by decide +kernel
theorem dX5_deal_42 : decode cX5_deal 42 = .ok (.if_icmp .ge 90, 3) := by decide +kernel
theorem dX5_deal_45 : decode cX5_deal 45 = .ok (.aload_n 0, 1) := by decide +kernel
theorem dX5_deal_46 : decode cX5_deal 46 = .ok (.getfield 15, 3) := by decide +kernel
theorem dX5_deal_49 : decode cX5_deal 49 = .ok (.iload 5, 2) := by decide +kernel
theorem dX5_deal_51 : decode cX5_deal 51 = .ok (.iconst 4, 1) := by decide +kernel
theorem dX5_deal_52 : decode cX5_deal 52 = .ok (.iload 4, 2) := by decide +kernel
theorem dX5_deal_54 : decode cX5_deal 54 = .ok (.sipush 2039, 3) := by decide +kernel
theorem dX5_deal_57 : decode cX5_deal 57 = .ok (.invokestatic 55, 3) := by decide +kernel
theorem dX5_deal_60 : decode cX5_deal 60 = .ok (.iastore, 1) := by decide +kernel
theorem dX5_deal_61 : decode cX5_deal 61 = .ok (.iconst 0, 1) := by decide +kernel
theorem dX5_deal_62 : decode cX5_deal 62 = .ok (.istore 6, 2) := by decide +kernel
theorem dX5_deal_64 : decode cX5_deal 64 = .ok (.iload 6, 2) := by decide +kernel
theorem dX5_deal_66 : decode cX5_deal 66 = .ok (.bipush 8, 2) := by decide +kernel
theorem dX5_deal_68 : decode cX5_deal 68 = .ok (.if_icmp .ge 43, 3) := by decide +kernel
theorem dX5_deal_71 : decode cX5_deal 71 = .ok (.aload_n 0, 1) := by decide +kernel
theorem dX5_deal_72 : decode cX5_deal 72 = .ok (.getfield 9, 3) := by decide +kernel
theorem dX5_deal_75 : decode cX5_deal 75 = .ok (.iload 6, 2) := by decide +kernel
theorem dX5_deal_77 : decode cX5_deal 77 = .ok (.aload_n 0, 1) := by decide +kernel
theorem dX5_deal_78 : decode cX5_deal 78 = .ok (.getfield 9, 3) := by decide +kernel
theorem dX5_deal_81 : decode cX5_deal 81 = .ok (.iload 6, 2) := by decide +kernel
theorem dX5_deal_83 : decode cX5_deal 83 = .ok (.iaload, 1) := by decide +kernel
theorem dX5_deal_84 : decode cX5_deal 84 = .ok (.iload 4, 2) := by decide +kernel
theorem dX5_deal_86 : decode cX5_deal 86 = .ok (.iload 6, 2) := by decide +kernel
theorem dX5_deal_88 : decode cX5_deal 88 = .ok (.iconst 1, 1) := by decide +kernel
theorem dX5_deal_89 : decode cX5_deal 89 = .ok (.iadd, 1) := by decide +kernel
theorem dX5_deal_90 : decode cX5_deal 90 = .ok (.iload 5, 2) := by decide +kernel
theorem dX5_deal_92 : decode cX5_deal 92 = .ok (.sipush 1019, 3) := by decide +kernel
theorem dX5_deal_95 : decode cX5_deal 95 = .ok (.invokestatic 55, 3) := by decide +kernel
theorem dX5_deal_98 : decode cX5_deal 98 = .ok (.imul, 1) := by decide +kernel
theorem dX5_deal_99 : decode cX5_deal 99 = .ok (.iadd, 1) := by decide +kernel
theorem dX5_deal_100 : decode cX5_deal 100 = .ok (.sipush 1019, 3) := by decide +kernel
theorem dX5_deal_103 : decode cX5_deal 103 = .ok (.irem, 1) := by decide +kernel
theorem dX5_deal_104 : decode cX5_deal 104 = .ok (.iastore, 1) := by decide +kernel
theorem dX5_deal_105 : decode cX5_deal 105 = .ok (.iinc 6 1, 3) := by decide +kernel
theorem dX5_deal_108 : decode cX5_deal 108 = .ok (.goto (-44), 3) := by decide +kernel
theorem dX5_deal_111 : decode cX5_deal 111 = .ok (.iload_n 3, 1) := by decide +kernel
theorem dX5_deal_112 : decode cX5_deal 112 = .ok (.invokestatic 59, 3) := by decide +kernel
theorem dX5_deal_115 : decode cX5_deal 115 = .ok (.istore_n 3, 1) := by decide +kernel
theorem dX5_deal_116 : decode cX5_deal 116 = .ok (.iload_n 3, 1) := by decide +kernel
theorem dX5_deal_117 : decode cX5_deal 117 = .ok (.invokestatic 63, 3) := by decide +kernel
theorem dX5_deal_120 : decode cX5_deal 120 = .ok (.sipush 1019, 3) := by decide +kernel
theorem dX5_deal_123 : decode cX5_deal 123 = .ok (.irem, 1) := by decide +kernel
theorem dX5_deal_124 : decode cX5_deal 124 = .ok (.istore 4, 2) := by decide +kernel
theorem dX5_deal_126 : decode cX5_deal 126 = .ok (.iinc 5 1, 3) := by decide +kernel
theorem dX5_deal_129 : decode cX5_deal 129 = .ok (.goto (-97), 3) := by decide +kernel
theorem dX5_deal_132 : decode cX5_deal 132 = .ok (.aload_n 0, 1) := by decide +kernel
theorem dX5_deal_133 : decode cX5_deal 133 = .ok (.sipush 255, 3) := by decide +kernel
theorem dX5_deal_136 : decode cX5_deal 136 = .ok (.putfield 46, 3) := by decide +kernel
theorem dX5_deal_139 : decode cX5_deal 139 = .ok (.return_, 1) := by decide +kernel
theorem dX5_putLock_0 : decode cX5_putLock 0 = .ok (.aload_n 0, 1) := by decide +kernel
theorem dX5_putLock_1 : decode cX5_putLock 1 = .ok (.iconst 2, 1) := by decide +kernel
theorem dX5_putLock_2 : decode cX5_putLock 2 = .ok (.aload_n 0, 1) := by decide +kernel
theorem dX5_putLock_3 : decode cX5_putLock 3 = .ok (.getfield 34, 3) := by decide +kernel
theorem dX5_putLock_6 : decode cX5_putLock 6 = .ok (.invokestatic 59, 3) := by decide +kernel
theorem dX5_putLock_9 : decode cX5_putLock 9 = .ok (.invokestatic 63, 3) := by decide +kernel
theorem dX5_putLock_12 : decode cX5_putLock 12 = .ok (.sipush 1000, 3) := by decide +kernel
theorem dX5_putLock_15 : decode cX5_putLock 15 = .ok (.irem, 1) := by decide +kernel
theorem dX5_putLock_16 : decode cX5_putLock 16 = .ok (.iadd, 1) := by decide +kernel
theorem dX5_putLock_17 : decode cX5_putLock 17 = .ok (.putfield 40, 3) := by decide +kernel
theorem dX5_putLock_20 : decode cX5_putLock 20 = .ok (.aload_n 0, 1) := by decide +kernel
theorem dX5_putLock_21 : decode cX5_putLock 21 = .ok (.iload_n 1, 1) := by decide +kernel
theorem dX5_putLock_22 : decode cX5_putLock 22 = .ok (.aload_n 0, 1) := by decide +kernel
theorem dX5_putLock_23 : decode cX5_putLock 23 = .ok (.getfield 40, 3) := by decide +kernel
theorem dX5_putLock_26 : decode cX5_putLock 26 = .ok (.iload_n 2, 1) := by decide +kernel
theorem dX5_putLock_27 : decode cX5_putLock 27 = .ok (.invokestatic 66, 3) := by decide +kernel
theorem dX5_putLock_30 : decode cX5_putLock 30 = .ok (.iadd, 1) := by decide +kernel
theorem dX5_putLock_31 : decode cX5_putLock 31 = .ok (.sipush 1019, 3) := by decide +kernel
theorem dX5_putLock_34 : decode cX5_putLock 34 = .ok (.irem, 1) := by decide +kernel
theorem dX5_putLock_35 : decode cX5_putLock 35 = .ok (.putfield 43, 3) := by decide +kernel
theorem dX5_putLock_38 : decode cX5_putLock 38 = .ok (.return_, 1) := by decide +kernel
theorem dX5_changeShare_0 : decode cX5_changeShare 0 = .ok (.aload_n 0, 1) := by decide +kernel
theorem dX5_changeShare_1 : decode cX5_changeShare 1 = .ok (.getfield 9, 3) := by decide +kernel
theorem dX5_changeShare_4 : decode cX5_changeShare 4 = .ok (.iload_n 1, 1) := by decide +kernel
theorem dX5_changeShare_5 : decode cX5_changeShare 5 = .ok (.aload_n 0, 1) := by decide +kernel
theorem dX5_changeShare_6 : decode cX5_changeShare 6 = .ok (.getfield 9, 3) := by decide +kernel
theorem dX5_changeShare_9 : decode cX5_changeShare 9 = .ok (.iload_n 1, 1) := by decide +kernel
theorem dX5_changeShare_10 : decode cX5_changeShare 10 = .ok (.iaload, 1) := by decide +kernel
theorem dX5_changeShare_11 : decode cX5_changeShare 11 = .ok (.iload_n 2, 1) := by decide +kernel
theorem dX5_changeShare_12 : decode cX5_changeShare 12 = .ok (.iadd, 1) := by decide +kernel
theorem dX5_changeShare_13 : decode cX5_changeShare 13 = .ok (.sipush 1019, 3) := by decide +kernel
theorem dX5_changeShare_16 : decode cX5_changeShare 16 = .ok (.irem, 1) := by decide +kernel
theorem dX5_changeShare_17 : decode cX5_changeShare 17 = .ok (.iastore, 1) := by decide +kernel
theorem dX5_changeShare_18 : decode cX5_changeShare 18 = .ok (.aload_n 0, 1) := by decide +kernel
theorem dX5_changeShare_19 : decode cX5_changeShare 19 = .ok (.dup, 1) := by decide +kernel
theorem dX5_changeShare_20 : decode cX5_changeShare 20 = .ok (.getfield 46, 3) := by decide +kernel
theorem dX5_changeShare_23 : decode cX5_changeShare 23 = .ok (.iconst 1, 1) := by decide +kernel
theorem dX5_changeShare_24 : decode cX5_changeShare 24 = .ok (.iload_n 1, 1) := by decide +kernel
theorem dX5_changeShare_25 : decode cX5_changeShare 25 = .ok (.ishl, 1) := by decide +kernel
theorem dX5_changeShare_26 : decode cX5_changeShare 26 = .ok (.iconst (-1), 1) := by decide +kernel
theorem dX5_changeShare_27 : decode cX5_changeShare 27 = .ok (.ixor, 1) := by decide +kernel
theorem dX5_changeShare_28 : decode cX5_changeShare 28 = .ok (.iand, 1) := by decide +kernel
theorem dX5_changeShare_29 : decode cX5_changeShare 29 = .ok (.putfield 46, 3) := by decide +kernel
theorem dX5_changeShare_32 : decode cX5_changeShare 32 = .ok (.iconst 4, 1) := by decide +kernel
theorem dX5_changeShare_33 : decode cX5_changeShare 33 = .ok (.aload_n 0, 1) := by decide +kernel
theorem dX5_changeShare_34 : decode cX5_changeShare 34 = .ok (.getfield 9, 3) := by decide +kernel
theorem dX5_changeShare_37 : decode cX5_changeShare 37 = .ok (.iload_n 1, 1) := by decide +kernel
theorem dX5_changeShare_38 : decode cX5_changeShare 38 = .ok (.iaload, 1) := by decide +kernel
theorem dX5_changeShare_39 : decode cX5_changeShare 39 = .ok (.sipush 2039, 3) := by decide +kernel
theorem dX5_changeShare_42 : decode cX5_changeShare 42 = .ok (.invokestatic 55, 3) := by decide +kernel
theorem dX5_changeShare_45 : decode cX5_changeShare 45 = .ok (.aload_n 0, 1) := by decide +kernel
theorem dX5_changeShare_46 : decode cX5_changeShare 46 = .ok (.iload_n 1, 1) := by decide +kernel
theorem dX5_changeShare_47 : decode cX5_changeShare 47 = .ok (.iload_n 3, 1) := by decide +kernel
theorem dX5_changeShare_48 : decode cX5_changeShare 48 = .ok (.invokevirtual 72, 3) := by decide +kernel
theorem dX5_changeShare_51 : decode cX5_changeShare 51 = .ok (.if_icmp .ne 15, 3) := by decide +kernel
theorem dX5_changeShare_54 : decode cX5_changeShare 54 = .ok (.aload_n 0, 1) := by decide +kernel
theorem dX5_changeShare_55 : decode cX5_changeShare 55 = .ok (.dup, 1) := by decide +kernel
theorem dX5_changeShare_56 : decode cX5_changeShare 56 = .ok (.getfield 46, 3) := by decide +kernel
theorem dX5_changeShare_59 : decode cX5_changeShare 59 = .ok (.iconst 1, 1) := by decide +kernel
theorem dX5_changeShare_60 : decode cX5_changeShare 60 = .ok (.iload_n 1, 1) := by decide +kernel
theorem dX5_changeShare_61 : decode cX5_changeShare 61 = .ok (.ishl, 1) := by decide +kernel
theorem dX5_changeShare_62 : decode cX5_changeShare 62 = .ok (.ior, 1) := by decide +kernel
theorem dX5_changeShare_63 : decode cX5_changeShare 63 = .ok (.putfield 46, 3) := by decide +kernel
theorem dX5_changeShare_66 : decode cX5_changeShare 66 = .ok (.return_, 1) := by decide +kernel
theorem dX5_provenPower_0 : decode cX5_provenPower 0 = .ok (.iconst 1, 1) := by decide +kernel
theorem dX5_provenPower_1 : decode cX5_provenPower 1 = .ok (.istore_n 3, 1) := by decide +kernel
theorem dX5_provenPower_2 : decode cX5_provenPower 2 = .ok (.bipush 7, 2) := by decide +kernel
theorem dX5_provenPower_4 : decode cX5_provenPower 4 = .ok (.istore 4, 2) := by decide +kernel
theorem dX5_provenPower_6 : decode cX5_provenPower 6 = .ok (.iload 4, 2) := by decide +kernel
theorem dX5_provenPower_8 : decode cX5_provenPower 8 = .ok (.ifCond .lt 39, 3) := by decide +kernel
theorem dX5_provenPower_11 : decode cX5_provenPower 11 = .ok (.iload 4, 2) := by decide +kernel
theorem dX5_provenPower_13 : decode cX5_provenPower 13 = .ok (.iload_n 2, 1) := by decide +kernel
theorem dX5_provenPower_14 : decode cX5_provenPower 14 = .ok (.if_icmp .ge 27, 3) := by decide +kernel
theorem dX5_provenPower_17 : decode cX5_provenPower 17 = .ok (.iload_n 3, 1) := by decide +kernel
theorem dX5_provenPower_18 : decode cX5_provenPower 18 = .ok (.iload_n 1, 1) := by decide +kernel
theorem dX5_provenPower_19 : decode cX5_provenPower 19 = .ok (.iconst 1, 1) := by decide +kernel
theorem dX5_provenPower_20 : decode cX5_provenPower 20 = .ok (.iadd, 1) := by decide +kernel
theorem dX5_provenPower_21 : decode cX5_provenPower 21 = .ok (.sipush 2039, 3) := by decide +kernel
theorem dX5_provenPower_24 : decode cX5_provenPower 24 = .ok (.invokestatic 55, 3) := by decide +kernel
theorem dX5_provenPower_27 : decode cX5_provenPower 27 = .ok (.aload_n 0, 1) := by decide +kernel
theorem dX5_provenPower_28 : decode cX5_provenPower 28 = .ok (.getfield 15, 3) := by decide +kernel
theorem dX5_provenPower_31 : decode cX5_provenPower 31 = .ok (.iload 4, 2) := by decide +kernel
theorem dX5_provenPower_33 : decode cX5_provenPower 33 = .ok (.iaload, 1) := by decide +kernel
theorem dX5_provenPower_34 : decode cX5_provenPower 34 = .ok (.sipush 2039, 3) := by decide +kernel
theorem dX5_provenPower_37 : decode cX5_provenPower 37 = .ok (.invokestatic 75, 3) := by decide +kernel
theorem dX5_provenPower_40 : decode cX5_provenPower 40 = .ok (.istore_n 3, 1) := by decide +kernel
theorem dX5_provenPower_41 : decode cX5_provenPower 41 = .ok (.iinc 4 (-1), 3) := by decide +kernel
theorem dX5_provenPower_44 : decode cX5_provenPower 44 = .ok (.goto (-38), 3) := by decide +kernel
theorem dX5_provenPower_47 : decode cX5_provenPower 47 = .ok (.iload_n 3, 1) := by decide +kernel
theorem dX5_provenPower_48 : decode cX5_provenPower 48 = .ok (.ireturn, 1) := by decide +kernel
theorem dX5_valueAtZero_0 : decode cX5_valueAtZero 0 = .ok (.iconst 0, 1) := by decide +kernel
theorem dX5_valueAtZero_1 : decode cX5_valueAtZero 1 = .ok (.istore_n 2, 1) := by decide +kernel
theorem dX5_valueAtZero_2 : decode cX5_valueAtZero 2 = .ok (.iconst 0, 1) := by decide +kernel
theorem dX5_valueAtZero_3 : decode cX5_valueAtZero 3 = .ok (.istore_n 3, 1) := by decide +kernel
theorem dX5_valueAtZero_4 : decode cX5_valueAtZero 4 = .ok (.iload_n 3, 1) := by decide +kernel
theorem dX5_valueAtZero_5 : decode cX5_valueAtZero 5 = .ok (.bipush 8, 2) := by decide +kernel
theorem dX5_valueAtZero_7 : decode cX5_valueAtZero 7 = .ok (.if_icmp .ge 41, 3) := by decide +kernel
theorem dX5_valueAtZero_10 : decode cX5_valueAtZero 10 = .ok (.iload_n 1, 1) := by decide +kernel
theorem dX5_valueAtZero_11 : decode cX5_valueAtZero 11 = .ok (.iload_n 3, 1) := by decide +kernel
theorem dX5_valueAtZero_12 : decode cX5_valueAtZero 12 = .ok (.invokestatic 78, 3) := by decide +kernel
theorem dX5_valueAtZero_15 : decode cX5_valueAtZero 15 = .ok (.ifCond .eq 27, 3) := by decide +kernel
theorem dX5_valueAtZero_18 : decode cX5_valueAtZero 18 = .ok (.iload_n 2, 1) := by decide +kernel
theorem dX5_valueAtZero_19 : decode cX5_valueAtZero 19 = .ok (.aload_n 0, 1) := by decide +kernel
theorem dX5_valueAtZero_20 : decode cX5_valueAtZero 20 = .ok (.getfield 9, 3) := by decide +kernel
theorem dX5_valueAtZero_23 : decode cX5_valueAtZero 23 = .ok (.iload_n 3, 1) := by decide +kernel
theorem dX5_valueAtZero_24 : decode cX5_valueAtZero 24 = .ok (.iaload, 1) := by decide +kernel
theorem dX5_valueAtZero_25 : decode cX5_valueAtZero 25 = .ok (.iload_n 3, 1) := by decide +kernel
theorem dX5_valueAtZero_26 : decode cX5_valueAtZero 26 = .ok (.iload_n 1, 1) := by decide +kernel
theorem dX5_valueAtZero_27 : decode cX5_valueAtZero 27 = .ok (.invokestatic 82, 3) := by decide +kernel
theorem dX5_valueAtZero_30 : decode cX5_valueAtZero 30 = .ok (.sipush 1019, 3) := by decide +kernel
theorem dX5_valueAtZero_33 : decode cX5_valueAtZero 33 = .ok (.invokestatic 75, 3) := by decide +kernel
theorem dX5_valueAtZero_36 : decode cX5_valueAtZero 36 = .ok (.iadd, 1) := by decide +kernel
theorem dX5_valueAtZero_37 : decode cX5_valueAtZero 37 = .ok (.sipush 1019, 3) := by decide +kernel
theorem dX5_valueAtZero_40 : decode cX5_valueAtZero 40 = .ok (.irem, 1) := by decide +kernel
theorem dX5_valueAtZero_41 : decode cX5_valueAtZero 41 = .ok (.istore_n 2, 1) := by decide +kernel
theorem dX5_valueAtZero_42 : decode cX5_valueAtZero 42 = .ok (.iinc 3 1, 3) := by decide +kernel
theorem dX5_valueAtZero_45 : decode cX5_valueAtZero 45 = .ok (.goto (-41), 3) := by decide +kernel
theorem dX5_valueAtZero_48 : decode cX5_valueAtZero 48 = .ok (.iload_n 2, 1) := by decide +kernel
theorem dX5_valueAtZero_49 : decode cX5_valueAtZero 49 = .ok (.ireturn, 1) := by decide +kernel
theorem dX5_weight_0 : decode cX5_weight 0 = .ok (.iconst 1, 1) := by decide +kernel
theorem dX5_weight_1 : decode cX5_weight 1 = .ok (.istore_n 2, 1) := by decide +kernel
theorem dX5_weight_2 : decode cX5_weight 2 = .ok (.iconst 1, 1) := by decide +kernel
theorem dX5_weight_3 : decode cX5_weight 3 = .ok (.istore_n 3, 1) := by decide +kernel
theorem dX5_weight_4 : decode cX5_weight 4 = .ok (.iconst 0, 1) := by decide +kernel
theorem dX5_weight_5 : decode cX5_weight 5 = .ok (.istore 4, 2) := by decide +kernel
theorem dX5_weight_7 : decode cX5_weight 7 = .ok (.iload 4, 2) := by decide +kernel
theorem dX5_weight_9 : decode cX5_weight 9 = .ok (.bipush 8, 2) := by decide +kernel
theorem dX5_weight_11 : decode cX5_weight 11 = .ok (.if_icmp .ge 56, 3) := by decide +kernel
theorem dX5_weight_14 : decode cX5_weight 14 = .ok (.iload 4, 2) := by decide +kernel
theorem dX5_weight_16 : decode cX5_weight 16 = .ok (.iload_n 0, 1) := by decide +kernel
theorem dX5_weight_17 : decode cX5_weight 17 = .ok (.if_icmp .eq 44, 3) := by decide +kernel
theorem dX5_weight_20 : decode cX5_weight 20 = .ok (.iload_n 1, 1) := by decide +kernel
theorem dX5_weight_21 : decode cX5_weight 21 = .ok (.iload 4, 2) := by decide +kernel
theorem dX5_weight_23 : decode cX5_weight 23 = .ok (.invokestatic 78, 3) := by decide +kernel
theorem dX5_weight_26 : decode cX5_weight 26 = .ok (.ifCond .eq 35, 3) := by decide +kernel
theorem dX5_weight_29 : decode cX5_weight 29 = .ok (.iload_n 2, 1) := by decide +kernel
theorem dX5_weight_30 : decode cX5_weight 30 = .ok (.iload 4, 2) := by decide +kernel
theorem dX5_weight_32 : decode cX5_weight 32 = .ok (.iconst 1, 1) := by decide +kernel
theorem dX5_weight_33 : decode cX5_weight 33 = .ok (.iadd, 1) := by decide +kernel
theorem dX5_weight_34 : decode cX5_weight 34 = .ok (.sipush 1019, 3) := by decide +kernel
theorem dX5_weight_37 : decode cX5_weight 37 = .ok (.invokestatic 75, 3) := by decide +kernel
theorem dX5_weight_40 : decode cX5_weight 40 = .ok (.istore_n 2, 1) := by decide +kernel
theorem dX5_weight_41 : decode cX5_weight 41 = .ok (.iload_n 3, 1) := by decide +kernel
theorem dX5_weight_42 : decode cX5_weight 42 = .ok (.iload 4, 2) := by decide +kernel
theorem dX5_weight_44 : decode cX5_weight 44 = .ok (.iload_n 0, 1) := by decide +kernel
theorem dX5_weight_45 : decode cX5_weight 45 = .ok (.isub, 1) := by decide +kernel
theorem dX5_weight_46 : decode cX5_weight 46 = .ok (.sipush 1019, 3) := by decide +kernel
theorem dX5_weight_49 : decode cX5_weight 49 = .ok (.iadd, 1) := by decide +kernel
theorem dX5_weight_50 : decode cX5_weight 50 = .ok (.sipush 1019, 3) := by decide +kernel
theorem dX5_weight_53 : decode cX5_weight 53 = .ok (.irem, 1) := by decide +kernel
theorem dX5_weight_54 : decode cX5_weight 54 = .ok (.sipush 1019, 3) := by decide +kernel
theorem dX5_weight_57 : decode cX5_weight 57 = .ok (.invokestatic 75, 3) := by decide +kernel
theorem dX5_weight_60 : decode cX5_weight 60 = .ok (.istore_n 3, 1) := by decide +kernel
theorem dX5_weight_61 : decode cX5_weight 61 = .ok (.iinc 4 1, 3) := by decide +kernel
theorem dX5_weight_64 : decode cX5_weight 64 = .ok (.goto (-57), 3) := by decide +kernel
theorem dX5_weight_67 : decode cX5_weight 67 = .ok (.iload_n 2, 1) := by decide +kernel
theorem dX5_weight_68 : decode cX5_weight 68 = .ok (.iload_n 3, 1) := by decide +kernel
theorem dX5_weight_69 : decode cX5_weight 69 = .ok (.sipush 1017, 3) := by decide +kernel
theorem dX5_weight_72 : decode cX5_weight 72 = .ok (.sipush 1019, 3) := by decide +kernel
theorem dX5_weight_75 : decode cX5_weight 75 = .ok (.invokestatic 55, 3) := by decide +kernel
theorem dX5_weight_78 : decode cX5_weight 78 = .ok (.sipush 1019, 3) := by decide +kernel
theorem dX5_weight_81 : decode cX5_weight 81 = .ok (.invokestatic 75, 3) := by decide +kernel
theorem dX5_weight_84 : decode cX5_weight 84 = .ok (.ireturn, 1) := by decide +kernel
theorem dX6_value_0 : decode cX6_value 0 = .ok (.iload_n 0, 1) := by decide +kernel
theorem dX6_value_1 : decode cX6_value 1 = .ok (.ldc 9, 2) := by decide +kernel
theorem dX6_value_3 : decode cX6_value 3 = .ok (.irem, 1) := by decide +kernel
theorem dX6_value_4 : decode cX6_value 4 = .ok (.istore_n 2, 1) := by decide +kernel
theorem dX6_value_5 : decode cX6_value 5 = .ok (.iconst 0, 1) := by decide +kernel
theorem dX6_value_6 : decode cX6_value 6 = .ok (.istore_n 3, 1) := by decide +kernel
theorem dX6_value_7 : decode cX6_value 7 = .ok (.iload_n 3, 1) := by decide +kernel
theorem dX6_value_8 : decode cX6_value 8 = .ok (.iload_n 1, 1) := by decide +kernel
theorem dX6_value_9 : decode cX6_value 9 = .ok (.if_icmp .ge 17, 3) := by decide +kernel
theorem dX6_value_12 : decode cX6_value 12 = .ok (.iload_n 2, 1) := by decide +kernel
theorem dX6_value_13 : decode cX6_value 13 = .ok (.iload_n 2, 1) := by decide +kernel
theorem dX6_value_14 : decode cX6_value 14 = .ok (.ldc 9, 2) := by decide +kernel
theorem dX6_value_16 : decode cX6_value 16 = .ok (.invokestatic 10, 3) := by decide +kernel
theorem dX6_value_19 : decode cX6_value 19 = .ok (.istore_n 2, 1) := by decide +kernel
theorem dX6_value_20 : decode cX6_value 20 = .ok (.iinc 3 1, 3) := by decide +kernel
theorem dX6_value_23 : decode cX6_value 23 = .ok (.goto (-16), 3) := by decide +kernel
theorem dX6_value_26 : decode cX6_value 26 = .ok (.iload_n 2, 1) := by decide +kernel
theorem dX6_value_27 : decode cX6_value 27 = .ok (.ireturn, 1) := by decide +kernel
theorem dX7_init_0 : decode cX7_init 0 = .ok (.aload_n 0, 1) := by decide +kernel
theorem dX7_init_1 : decode cX7_init 1 = .ok (.invokespecial 3, 3) := by decide +kernel
theorem dX7_init_4 : decode cX7_init 4 = .ok (.aload_n 0, 1) := by decide +kernel
theorem dX7_init_5 : decode cX7_init 5 = .ok (.new 9, 3) := by decide +kernel
theorem dX7_init_8 : decode cX7_init 8 = .ok (.dup, 1) := by decide +kernel
theorem dX7_init_9 : decode cX7_init 9 = .ok (.invokespecial 11, 3) := by decide +kernel
theorem dX7_init_12 : decode cX7_init 12 = .ok (.putfield 12, 3) := by decide +kernel
theorem dX7_init_15 : decode cX7_init 15 = .ok (.aload_n 0, 1) := by decide +kernel
theorem dX7_init_16 : decode cX7_init 16 = .ok (.new 16, 3) := by decide +kernel
theorem dX7_init_19 : decode cX7_init 19 = .ok (.dup, 1) := by decide +kernel
theorem dX7_init_20 : decode cX7_init 20 = .ok (.invokespecial 18, 3) := by decide +kernel
theorem dX7_init_23 : decode cX7_init 23 = .ok (.putfield 19, 3) := by decide +kernel
theorem dX7_init_26 : decode cX7_init 26 = .ok (.aload_n 0, 1) := by decide +kernel
theorem dX7_init_27 : decode cX7_init 27 = .ok (.new 23, 3) := by decide +kernel
theorem dX7_init_30 : decode cX7_init 30 = .ok (.dup, 1) := by decide +kernel
theorem dX7_init_31 : decode cX7_init 31 = .ok (.invokespecial 25, 3) := by decide +kernel
theorem dX7_init_34 : decode cX7_init 34 = .ok (.putfield 26, 3) := by decide +kernel
theorem dX7_init_37 : decode cX7_init 37 = .ok (.return_, 1) := by decide +kernel
theorem dX7_addParticipant_0 : decode cX7_addParticipant 0 = .ok (.iload_n 1, 1) := by decide +kernel
theorem dX7_addParticipant_1 : decode cX7_addParticipant 1 = .ok (.iconst 0, 1) := by decide +kernel
theorem dX7_addParticipant_2 : decode cX7_addParticipant 2 = .ok (.ldc 30, 2) := by decide +kernel
theorem dX7_addParticipant_4 : decode cX7_addParticipant 4 = .ok (.invokestatic 31, 3) := by decide +kernel
theorem dX7_addParticipant_7 : decode cX7_addParticipant 7 = .ok (.ifCond .ne 5, 3) := by decide +kernel
theorem dX7_addParticipant_10 : decode cX7_addParticipant 10 = .ok (.iconst (-1), 1) := by decide +kernel
theorem dX7_addParticipant_11 : decode cX7_addParticipant 11 = .ok (.ireturn, 1) := by decide +kernel
theorem dX7_addParticipant_12 : decode cX7_addParticipant 12 = .ok (.aload_n 0, 1) := by decide +kernel
theorem dX7_addParticipant_13 : decode cX7_addParticipant 13 = .ok (.getfield 12, 3) := by decide +kernel
theorem dX7_addParticipant_16 : decode cX7_addParticipant 16 = .ok (.getfield 35, 3) := by decide +kernel
theorem dX7_addParticipant_19 : decode cX7_addParticipant 19 = .ok (.ifCond .eq 6, 3) := by decide +kernel
theorem dX7_addParticipant_22 : decode cX7_addParticipant 22 = .ok (.bipush (-2), 2) := by decide +kernel
theorem dX7_addParticipant_24 : decode cX7_addParticipant 24 = .ok (.ireturn, 1) := by decide +kernel
theorem dX7_addParticipant_25 : decode cX7_addParticipant 25 = .ok (.aload_n 0, 1) := by decide +kernel
theorem dX7_addParticipant_26 : decode cX7_addParticipant 26 = .ok (.getfield 12, 3) := by decide +kernel
theorem dX7_addParticipant_29 : decode cX7_addParticipant 29 = .ok (.getfield 39, 3) := by decide +kernel
theorem dX7_addParticipant_32 : decode cX7_addParticipant 32 = .ok (.bipush 8, 2) := by decide +kernel
theorem dX7_addParticipant_34 : decode cX7_addParticipant 34 = .ok (.if_icmp .lt 6, 3) := by decide +kernel
theorem dX7_addParticipant_37 : decode cX7_addParticipant 37 = .ok (.bipush (-3), 2) := by decide +kernel
theorem dX7_addParticipant_39 : decode cX7_addParticipant 39 = .ok (.ireturn, 1) := by decide +kernel
theorem dX7_addParticipant_40 : decode cX7_addParticipant 40 = .ok (.aload_n 0, 1) := by decide +kernel
theorem dX7_addParticipant_41 : decode cX7_addParticipant 41 = .ok (.getfield 19, 3) := by decide +kernel
theorem dX7_addParticipant_44 : decode cX7_addParticipant 44 = .ok (.aload_n 0, 1) := by decide +kernel
theorem dX7_addParticipant_45 : decode cX7_addParticipant 45 = .ok (.getfield 12, 3) := by decide +kernel
theorem dX7_addParticipant_48 : decode cX7_addParticipant 48 = .ok (.invokevirtual 42, 3) := by decide +kernel
theorem dX7_addParticipant_51 : decode cX7_addParticipant 51 = .ok (.aload_n 0, 1) := by decide +kernel
theorem dX7_addParticipant_52 : decode cX7_addParticipant 52 = .ok (.getfield 12, 3) := by decide +kernel
theorem dX7_addParticipant_55 : decode cX7_addParticipant 55 = .ok (.iload_n 1, 1) := by decide +kernel
theorem dX7_addParticipant_56 : decode cX7_addParticipant 56 = .ok (.invokevirtual 46, 3) := by decide +kernel
theorem dX7_addParticipant_59 : decode cX7_addParticipant 59 = .ok (.ireturn, 1) := by decide +kernel
theorem dX7_behave_0 : decode cX7_behave 0 = .ok (.aload_n 0, 1) := by decide +kernel
theorem dX7_behave_1 : decode cX7_behave 1 = .ok (.getfield 12, 3) := by decide +kernel
theorem dX7_behave_4 : decode cX7_behave 4 = .ok (.iload_n 1, 1) := by decide +kernel
theorem dX7_behave_5 : decode cX7_behave 5 = .ok (.invokevirtual 50, 3) := by decide +kernel
theorem dX7_behave_8 : decode cX7_behave 8 = .ok (.ifCond .eq 12, 3) := by decide +kernel
theorem dX7_behave_11 : decode cX7_behave 11 = .ok (.iload_n 2, 1) := by decide +kernel
theorem dX7_behave_12 : decode cX7_behave 12 = .ok (.iconst 0, 1) := by decide +kernel
theorem dX7_behave_13 : decode cX7_behave 13 = .ok (.iconst 3, 1) := by decide +kernel
theorem dX7_behave_14 : decode cX7_behave 14 = .ok (.invokestatic 31, 3) := by decide +kernel
theorem dX7_behave_17 : decode cX7_behave 17 = .ok (.ifCond .ne 5, 3) := by decide +kernel
theorem dX7_behave_20 : decode cX7_behave 20 = .ok (.iconst (-1), 1) := by decide +kernel
theorem dX7_behave_21 : decode cX7_behave 21 = .ok (.ireturn, 1) := by decide +kernel
theorem dX7_behave_22 : decode cX7_behave 22 = .ok (.aload_n 0, 1) := by decide +kernel
theorem dX7_behave_23 : decode cX7_behave 23 = .ok (.getfield 19, 3) := by decide +kernel
theorem dX7_behave_26 : decode cX7_behave 26 = .ok (.aload_n 0, 1) := by decide +kernel
theorem dX7_behave_27 : decode cX7_behave 27 = .ok (.getfield 12, 3) := by decide +kernel
theorem dX7_behave_30 : decode cX7_behave 30 = .ok (.invokevirtual 42, 3) := by decide +kernel
theorem dX7_behave_33 : decode cX7_behave 33 = .ok (.aload_n 0, 1) := by decide +kernel
theorem dX7_behave_34 : decode cX7_behave 34 = .ok (.getfield 12, 3) := by decide +kernel
theorem dX7_behave_37 : decode cX7_behave 37 = .ok (.getfield 54, 3) := by decide +kernel
theorem dX7_behave_40 : decode cX7_behave 40 = .ok (.iload_n 1, 1) := by decide +kernel
theorem dX7_behave_41 : decode cX7_behave 41 = .ok (.aaload, 1) := by decide +kernel
theorem dX7_behave_42 : decode cX7_behave 42 = .ok (.getfield 58, 3) := by decide +kernel
theorem dX7_behave_45 : decode cX7_behave 45 = .ok (.istore_n 3, 1) := by decide +kernel
theorem dX7_behave_46 : decode cX7_behave 46 = .ok (.aload_n 0, 1) := by decide +kernel
theorem dX7_behave_47 : decode cX7_behave 47 = .ok (.getfield 12, 3) := by decide +kernel
theorem dX7_behave_50 : decode cX7_behave 50 = .ok (.getfield 54, 3) := by decide +kernel
theorem dX7_behave_53 : decode cX7_behave 53 = .ok (.iload_n 1, 1) := by decide +kernel
theorem dX7_behave_54 : decode cX7_behave 54 = .ok (.aaload, 1) := by decide +kernel
theorem dX7_behave_55 : decode cX7_behave 55 = .ok (.iload_n 2, 1) := by decide +kernel
theorem dX7_behave_56 : decode cX7_behave 56 = .ok (.putfield 58, 3) := by decide +kernel
theorem dX7_behave_59 : decode cX7_behave 59 = .ok (.iload_n 3, 1) := by decide +kernel
theorem dX7_behave_60 : decode cX7_behave 60 = .ok (.ireturn, 1) := by decide +kernel
theorem dX7_setMethod_0 : decode cX7_setMethod 0 = .ok (.aload_n 0, 1) := by decide +kernel
theorem dX7_setMethod_1 : decode cX7_setMethod 1 = .ok (.iload_n 1, 1) := by decide +kernel
theorem dX7_setMethod_2 : decode cX7_setMethod 2 = .ok (.iconst 0, 1) := by decide +kernel
theorem dX7_setMethod_3 : decode cX7_setMethod 3 = .ok (.iconst 2, 1) := by decide +kernel
theorem dX7_setMethod_4 : decode cX7_setMethod 4 = .ok (.invokevirtual 63, 3) := by decide +kernel
theorem dX7_setMethod_7 : decode cX7_setMethod 7 = .ok (.istore_n 2, 1) := by decide +kernel
theorem dX7_setMethod_8 : decode cX7_setMethod 8 = .ok (.iload_n 2, 1) := by decide +kernel
theorem dX7_setMethod_9 : decode cX7_setMethod 9 = .ok (.ifCond .ge 5, 3) := by decide +kernel
theorem dX7_setMethod_12 : decode cX7_setMethod 12 = .ok (.iload_n 2, 1) := by decide +kernel
theorem dX7_setMethod_13 : decode cX7_setMethod 13 = .ok (.ireturn, 1) := by decide +kernel
theorem dX7_setMethod_14 : decode cX7_setMethod 14 = .ok (.aload_n 0, 1) := by decide +kernel
theorem dX7_setMethod_15 : decode cX7_setMethod 15 = .ok (.getfield 19, 3) := by decide +kernel
theorem dX7_setMethod_18 : decode cX7_setMethod 18 = .ok (.aload_n 0, 1) := by decide +kernel
theorem dX7_setMethod_19 : decode cX7_setMethod 19 = .ok (.getfield 12, 3) := by decide +kernel
theorem dX7_setMethod_22 : decode cX7_setMethod 22 = .ok (.invokevirtual 42, 3) := by decide +kernel
theorem dX7_setMethod_25 : decode cX7_setMethod 25 = .ok (.aload_n 0, 1) := by decide +kernel
theorem dX7_setMethod_26 : decode cX7_setMethod 26 = .ok (.getfield 12, 3) := by decide +kernel
theorem dX7_setMethod_29 : decode cX7_setMethod 29 = .ok (.getfield 67, 3) := by decide +kernel
theorem dX7_setMethod_32 : decode cX7_setMethod 32 = .ok (.istore_n 3, 1) := by decide +kernel
theorem dX7_setMethod_33 : decode cX7_setMethod 33 = .ok (.aload_n 0, 1) := by decide +kernel
theorem dX7_setMethod_34 : decode cX7_setMethod 34 = .ok (.getfield 12, 3) := by decide +kernel
theorem dX7_setMethod_37 : decode cX7_setMethod 37 = .ok (.iload_n 1, 1) := by decide +kernel
theorem dX7_setMethod_38 : decode cX7_setMethod 38 = .ok (.putfield 67, 3) := by decide +kernel
theorem dX7_setMethod_41 : decode cX7_setMethod 41 = .ok (.iload_n 3, 1) := by decide +kernel
theorem dX7_setMethod_42 : decode cX7_setMethod 42 = .ok (.ireturn, 1) := by decide +kernel
theorem dX7_setThreshold_0 : decode cX7_setThreshold 0 = .ok (.aload_n 0, 1) := by decide +kernel
theorem dX7_setThreshold_1 : decode cX7_setThreshold 1 = .ok (.iload_n 1, 1) := by decide +kernel
theorem dX7_setThreshold_2 : decode cX7_setThreshold 2 = .ok (.iconst 1, 1) := by decide +kernel
theorem dX7_setThreshold_3 : decode cX7_setThreshold 3 = .ok (.bipush 8, 2) := by decide +kernel
theorem dX7_setThreshold_5 : decode cX7_setThreshold 5 = .ok (.invokevirtual 63, 3) := by decide +kernel
theorem dX7_setThreshold_8 : decode cX7_setThreshold 8 = .ok (.istore_n 2, 1) := by decide +kernel
theorem dX7_setThreshold_9 : decode cX7_setThreshold 9 = .ok (.iload_n 2, 1) := by decide +kernel
theorem dX7_setThreshold_10 : decode cX7_setThreshold 10 = .ok (.ifCond .ge 5, 3) := by decide +kernel
theorem dX7_setThreshold_13 : decode cX7_setThreshold 13 = .ok (.iload_n 2, 1) := by decide +kernel
theorem dX7_setThreshold_14 : decode cX7_setThreshold 14 = .ok (.ireturn, 1) := by decide +kernel
theorem dX7_setThreshold_15 : decode cX7_setThreshold 15 = .ok (.aload_n 0, 1) := by decide +kernel
theorem dX7_setThreshold_16 : decode cX7_setThreshold 16 = .ok (.getfield 19, 3) := by decide +kernel
theorem dX7_setThreshold_19 : decode cX7_setThreshold 19 = .ok (.aload_n 0, 1) := by decide +kernel
theorem dX7_setThreshold_20 : decode cX7_setThreshold 20 = .ok (.getfield 12, 3) := by decide +kernel
theorem dX7_setThreshold_23 : decode cX7_setThreshold 23 = .ok (.invokevirtual 42, 3) := by decide +kernel
theorem dX7_setThreshold_26 : decode cX7_setThreshold 26 = .ok (.aload_n 0, 1) := by decide +kernel
theorem dX7_setThreshold_27 : decode cX7_setThreshold 27 = .ok (.getfield 12, 3) := by decide +kernel
theorem dX7_setThreshold_30 : decode cX7_setThreshold 30 = .ok (.getfield 70, 3) := by decide +kernel
theorem dX7_setThreshold_33 : decode cX7_setThreshold 33 = .ok (.istore_n 3, 1) := by decide +kernel
theorem dX7_setThreshold_34 : decode cX7_setThreshold 34 = .ok (.aload_n 0, 1) := by decide +kernel
theorem dX7_setThreshold_35 : decode cX7_setThreshold 35 = .ok (.getfield 12, 3) := by decide +kernel
theorem dX7_setThreshold_38 : decode cX7_setThreshold 38 = .ok (.iload_n 1, 1) := by decide +kernel
theorem dX7_setThreshold_39 : decode cX7_setThreshold 39 = .ok (.putfield 70, 3) := by decide +kernel
theorem dX7_setThreshold_42 : decode cX7_setThreshold 42 = .ok (.iload_n 3, 1) := by decide +kernel
theorem dX7_setThreshold_43 : decode cX7_setThreshold 43 = .ok (.ireturn, 1) := by decide +kernel
theorem dX7_setFine_0 : decode cX7_setFine 0 = .ok (.aload_n 0, 1) := by decide +kernel
theorem dX7_setFine_1 : decode cX7_setFine 1 = .ok (.iload_n 1, 1) := by decide +kernel
theorem dX7_setFine_2 : decode cX7_setFine 2 = .ok (.iconst 0, 1) := by decide +kernel
theorem dX7_setFine_3 : decode cX7_setFine 3 = .ok (.sipush 1000, 3) := by decide +kernel
theorem dX7_setFine_6 : decode cX7_setFine 6 = .ok (.invokevirtual 63, 3) := by decide +kernel
theorem dX7_setFine_9 : decode cX7_setFine 9 = .ok (.istore_n 2, 1) := by decide +kernel
theorem dX7_setFine_10 : decode cX7_setFine 10 = .ok (.iload_n 2, 1) := by decide +kernel
theorem dX7_setFine_11 : decode cX7_setFine 11 = .ok (.ifCond .ge 5, 3) := by decide +kernel
theorem dX7_setFine_14 : decode cX7_setFine 14 = .ok (.iload_n 2, 1) := by decide +kernel
theorem dX7_setFine_15 : decode cX7_setFine 15 = .ok (.ireturn, 1) := by decide +kernel
theorem dX7_setFine_16 : decode cX7_setFine 16 = .ok (.aload_n 0, 1) := by decide +kernel
theorem dX7_setFine_17 : decode cX7_setFine 17 = .ok (.getfield 19, 3) := by decide +kernel
theorem dX7_setFine_20 : decode cX7_setFine 20 = .ok (.aload_n 0, 1) := by decide +kernel
theorem dX7_setFine_21 : decode cX7_setFine 21 = .ok (.getfield 12, 3) := by decide +kernel
theorem dX7_setFine_24 : decode cX7_setFine 24 = .ok (.invokevirtual 42, 3) := by decide +kernel
theorem dX7_setFine_27 : decode cX7_setFine 27 = .ok (.aload_n 0, 1) := by decide +kernel
theorem dX7_setFine_28 : decode cX7_setFine 28 = .ok (.getfield 12, 3) := by decide +kernel
theorem dX7_setFine_31 : decode cX7_setFine 31 = .ok (.getfield 73, 3) := by decide +kernel
theorem dX7_setFine_34 : decode cX7_setFine 34 = .ok (.istore_n 3, 1) := by decide +kernel
theorem dX7_setFine_35 : decode cX7_setFine 35 = .ok (.aload_n 0, 1) := by decide +kernel
theorem dX7_setFine_36 : decode cX7_setFine 36 = .ok (.getfield 12, 3) := by decide +kernel
theorem dX7_setFine_39 : decode cX7_setFine 39 = .ok (.iload_n 1, 1) := by decide +kernel
theorem dX7_setFine_40 : decode cX7_setFine 40 = .ok (.putfield 73, 3) := by decide +kernel
theorem dX7_setFine_43 : decode cX7_setFine 43 = .ok (.iload_n 3, 1) := by decide +kernel
theorem dX7_setFine_44 : decode cX7_setFine 44 = .ok (.ireturn, 1) := by decide +kernel
theorem dX7_setDelay_0 : decode cX7_setDelay 0 = .ok (.aload_n 0, 1) := by decide +kernel
theorem dX7_setDelay_1 : decode cX7_setDelay 1 = .ok (.iload_n 1, 1) := by decide +kernel
theorem dX7_setDelay_2 : decode cX7_setDelay 2 = .ok (.iconst 1, 1) := by decide +kernel
theorem dX7_setDelay_3 : decode cX7_setDelay 3 = .ok (.sipush 5000, 3) := by decide +kernel
theorem dX7_setDelay_6 : decode cX7_setDelay 6 = .ok (.invokevirtual 63, 3) := by decide +kernel
theorem dX7_setDelay_9 : decode cX7_setDelay 9 = .ok (.istore_n 2, 1) := by decide +kernel
theorem dX7_setDelay_10 : decode cX7_setDelay 10 = .ok (.iload_n 2, 1) := by decide +kernel
theorem dX7_setDelay_11 : decode cX7_setDelay 11 = .ok (.ifCond .ge 5, 3) := by decide +kernel
theorem dX7_setDelay_14 : decode cX7_setDelay 14 = .ok (.iload_n 2, 1) := by decide +kernel
theorem dX7_setDelay_15 : decode cX7_setDelay 15 = .ok (.ireturn, 1) := by decide +kernel
theorem dX7_setDelay_16 : decode cX7_setDelay 16 = .ok (.aload_n 0, 1) := by decide +kernel
theorem dX7_setDelay_17 : decode cX7_setDelay 17 = .ok (.getfield 19, 3) := by decide +kernel
theorem dX7_setDelay_20 : decode cX7_setDelay 20 = .ok (.aload_n 0, 1) := by decide +kernel
theorem dX7_setDelay_21 : decode cX7_setDelay 21 = .ok (.getfield 12, 3) := by decide +kernel
theorem dX7_setDelay_24 : decode cX7_setDelay 24 = .ok (.invokevirtual 42, 3) := by decide +kernel
theorem dX7_setDelay_27 : decode cX7_setDelay 27 = .ok (.aload_n 0, 1) := by decide +kernel
theorem dX7_setDelay_28 : decode cX7_setDelay 28 = .ok (.getfield 12, 3) := by decide +kernel
theorem dX7_setDelay_31 : decode cX7_setDelay 31 = .ok (.getfield 76, 3) := by decide +kernel
theorem dX7_setDelay_34 : decode cX7_setDelay 34 = .ok (.istore_n 3, 1) := by decide +kernel
theorem dX7_setDelay_35 : decode cX7_setDelay 35 = .ok (.aload_n 0, 1) := by decide +kernel
theorem dX7_setDelay_36 : decode cX7_setDelay 36 = .ok (.getfield 12, 3) := by decide +kernel
theorem dX7_setDelay_39 : decode cX7_setDelay 39 = .ok (.iload_n 1, 1) := by decide +kernel
theorem dX7_setDelay_40 : decode cX7_setDelay 40 = .ok (.putfield 76, 3) := by decide +kernel
theorem dX7_setDelay_43 : decode cX7_setDelay 43 = .ok (.iload_n 3, 1) := by decide +kernel
theorem dX7_setDelay_44 : decode cX7_setDelay 44 = .ok (.ireturn, 1) := by decide +kernel
theorem dX7_settingError_0 : decode cX7_settingError 0 = .ok (.iload_n 1, 1) := by decide +kernel
theorem dX7_settingError_1 : decode cX7_settingError 1 = .ok (.iload_n 2, 1) := by decide +kernel
theorem dX7_settingError_2 : decode cX7_settingError 2 = .ok (.iload_n 3, 1) := by decide +kernel
theorem dX7_settingError_3 : decode cX7_settingError 3 = .ok (.invokestatic 31, 3) := by decide +kernel
theorem dX7_settingError_6 : decode cX7_settingError 6 = .ok (.ifCond .ne 5, 3) := by decide +kernel
theorem dX7_settingError_9 : decode cX7_settingError 9 = .ok (.iconst (-1), 1) := by decide +kernel
theorem dX7_settingError_10 : decode cX7_settingError 10 = .ok (.ireturn, 1) := by decide +kernel
theorem dX7_settingError_11 : decode cX7_settingError 11 = .ok (.aload_n 0, 1) := by decide +kernel
theorem dX7_settingError_12 : decode cX7_settingError 12 = .ok (.getfield 12, 3) := by decide +kernel
theorem dX7_settingError_15 : decode cX7_settingError 15 = .ok (.getfield 35, 3) := by decide +kernel
theorem dX7_settingError_18 : decode cX7_settingError 18 = .ok (.ifCond .ne 7, 3) := by decide +kernel
theorem dX7_settingError_21 : decode cX7_settingError 21 = .ok (.iconst 0, 1) := by decide +kernel
theorem dX7_settingError_22 : decode cX7_settingError 22 = .ok (.goto 5, 3) := by decide +kernel
theorem dX7_settingError_25 : decode cX7_settingError 25 = .ok (.bipush (-2), 2) := by decide +kernel
theorem dX7_settingError_27 : decode cX7_settingError 27 = .ok (.ireturn, 1) := by decide +kernel
theorem dX7_begin_0 : decode cX7_begin 0 = .ok (.aload_n 0, 1) := by decide +kernel
theorem dX7_begin_1 : decode cX7_begin 1 = .ok (.getfield 12, 3) := by decide +kernel
theorem dX7_begin_4 : decode cX7_begin 4 = .ok (.invokevirtual 79, 3) := by decide +kernel
theorem dX7_begin_7 : decode cX7_begin 7 = .ok (.ifCond .ne 6, 3) := by decide +kernel
theorem dX7_begin_10 : decode cX7_begin 10 = .ok (.bipush (-2), 2) := by decide +kernel
theorem dX7_begin_12 : decode cX7_begin 12 = .ok (.ireturn, 1) := by decide +kernel
theorem dX7_begin_13 : decode cX7_begin 13 = .ok (.aload_n 0, 1) := by decide +kernel
theorem dX7_begin_14 : decode cX7_begin 14 = .ok (.getfield 19, 3) := by decide +kernel
theorem dX7_begin_17 : decode cX7_begin 17 = .ok (.aload_n 0, 1) := by decide +kernel
theorem dX7_begin_18 : decode cX7_begin 18 = .ok (.getfield 12, 3) := by decide +kernel
theorem dX7_begin_21 : decode cX7_begin 21 = .ok (.invokevirtual 42, 3) := by decide +kernel
theorem dX7_begin_24 : decode cX7_begin 24 = .ok (.aload_n 0, 1) := by decide +kernel
theorem dX7_begin_25 : decode cX7_begin 25 = .ok (.getfield 12, 3) := by decide +kernel
theorem dX7_begin_28 : decode cX7_begin 28 = .ok (.invokevirtual 83, 3) := by decide +kernel
theorem dX7_begin_31 : decode cX7_begin 31 = .ok (.aload_n 0, 1) := by decide +kernel
theorem dX7_begin_32 : decode cX7_begin 32 = .ok (.getfield 12, 3) := by decide +kernel
theorem dX7_begin_35 : decode cX7_begin 35 = .ok (.getfield 86, 3) := by decide +kernel
theorem dX7_begin_38 : decode cX7_begin 38 = .ok (.getfield 90, 3) := by decide +kernel
theorem dX7_begin_41 : decode cX7_begin 41 = .ok (.ireturn, 1) := by decide +kernel
theorem dX7_commit_0 : decode cX7_commit 0 = .ok (.aload_n 0, 1) := by decide +kernel
theorem dX7_commit_1 : decode cX7_commit 1 = .ok (.getfield 12, 3) := by decide +kernel
theorem dX7_commit_4 : decode cX7_commit 4 = .ok (.iload_n 1, 1) := by decide +kernel
theorem dX7_commit_5 : decode cX7_commit 5 = .ok (.invokevirtual 50, 3) := by decide +kernel
theorem dX7_commit_8 : decode cX7_commit 8 = .ok (.ifCond .eq 14, 3) := by decide +kernel
theorem dX7_commit_11 : decode cX7_commit 11 = .ok (.iload_n 2, 1) := by decide +kernel
theorem dX7_commit_12 : decode cX7_commit 12 = .ok (.iconst 0, 1) := by decide +kernel
theorem dX7_commit_13 : decode cX7_commit 13 = .ok (.sipush 1018, 3) := by decide +kernel
theorem dX7_commit_16 : decode cX7_commit 16 = .ok (.invokestatic 31, 3) := by decide +kernel
theorem dX7_commit_19 : decode cX7_commit 19 = .ok (.ifCond .ne 5, 3) := by decide +kernel
theorem dX7_commit_22 : decode cX7_commit 22 = .ok (.iconst (-1), 1) := by decide +kernel
theorem dX7_commit_23 : decode cX7_commit 23 = .ok (.ireturn, 1) := by decide +kernel
theorem dX7_commit_24 : decode cX7_commit 24 = .ok (.aload_n 0, 1) := by decide +kernel
theorem dX7_commit_25 : decode cX7_commit 25 = .ok (.getfield 12, 3) := by decide +kernel
theorem dX7_commit_28 : decode cX7_commit 28 = .ok (.getfield 35, 3) := by decide +kernel
theorem dX7_commit_31 : decode cX7_commit 31 = .ok (.iconst 1, 1) := by decide +kernel
theorem dX7_commit_32 : decode cX7_commit 32 = .ok (.if_icmp .ne 31, 3) := by decide +kernel
theorem dX7_commit_35 : decode cX7_commit 35 = .ok (.aload_n 0, 1) := by decide +kernel
theorem dX7_commit_36 : decode cX7_commit 36 = .ok (.getfield 12, 3) := by decide +kernel
theorem dX7_commit_39 : decode cX7_commit 39 = .ok (.getfield 95, 3) := by decide +kernel
theorem dX7_commit_42 : decode cX7_commit 42 = .ok (.iload_n 1, 1) := by decide +kernel
theorem dX7_commit_43 : decode cX7_commit 43 = .ok (.invokestatic 98, 3) := by decide +kernel
theorem dX7_commit_46 : decode cX7_commit 46 = .ok (.ifCond .eq 17, 3) := by decide +kernel
theorem dX7_commit_49 : decode cX7_commit 49 = .ok (.aload_n 0, 1) := by decide +kernel
theorem dX7_commit_50 : decode cX7_commit 50 = .ok (.getfield 12, 3) := by decide +kernel
theorem dX7_commit_53 : decode cX7_commit 53 = .ok (.getfield 102, 3) := by decide +kernel
theorem dX7_commit_56 : decode cX7_commit 56 = .ok (.iload_n 1, 1) := by decide +kernel
theorem dX7_commit_57 : decode cX7_commit 57 = .ok (.invokestatic 98, 3) := by decide +kernel
theorem dX7_commit_60 : decode cX7_commit 60 = .ok (.ifCond .eq 6, 3) := by decide +kernel
theorem dX7_commit_63 : decode cX7_commit 63 = .ok (.bipush (-2), 2) := by decide +kernel
theorem dX7_commit_65 : decode cX7_commit 65 = .ok (.ireturn, 1) := by decide +kernel
theorem dX7_commit_66 : decode cX7_commit 66 = .ok (.aload_n 0, 1) := by decide +kernel
theorem dX7_commit_67 : decode cX7_commit 67 = .ok (.getfield 12, 3) := by decide +kernel
theorem dX7_commit_70 : decode cX7_commit 70 = .ok (.iload_n 2, 1) := by decide +kernel
theorem dX7_commit_71 : decode cX7_commit 71 = .ok (.iload_n 3, 1) := by decide +kernel
theorem dX7_commit_72 : decode cX7_commit 72 = .ok (.invokevirtual 105, 3) := by decide +kernel
theorem dX7_commit_75 : decode cX7_commit 75 = .ok (.istore 4, 2) := by decide +kernel
theorem dX7_commit_77 : decode cX7_commit 77 = .ok (.aload_n 0, 1) := by decide +kernel
theorem dX7_commit_78 : decode cX7_commit 78 = .ok (.getfield 12, 3) := by decide +kernel
theorem dX7_commit_81 : decode cX7_commit 81 = .ok (.iload 4, 2) := by decide +kernel
theorem dX7_commit_83 : decode cX7_commit 83 = .ok (.invokevirtual 109, 3) := by decide +kernel
theorem dX7_commit_86 : decode cX7_commit 86 = .ok (.ifCond .eq 6, 3) := by decide +kernel
theorem dX7_commit_89 : decode cX7_commit 89 = .ok (.bipush (-4), 2) := by decide +kernel
theorem dX7_commit_91 : decode cX7_commit 91 = .ok (.ireturn, 1) := by decide +kernel
theorem dX7_commit_92 : decode cX7_commit 92 = .ok (.aload_n 0, 1) := by decide +kernel
theorem dX7_commit_93 : decode cX7_commit 93 = .ok (.getfield 19, 3) := by decide +kernel
theorem dX7_commit_96 : decode cX7_commit 96 = .ok (.aload_n 0, 1) := by decide +kernel
theorem dX7_commit_97 : decode cX7_commit 97 = .ok (.getfield 12, 3) := by decide +kernel
theorem dX7_commit_100 : decode cX7_commit 100 = .ok (.invokevirtual 42, 3) := by decide +kernel
theorem dX7_commit_103 : decode cX7_commit 103 = .ok (.aload_n 0, 1) := by decide +kernel
theorem dX7_commit_104 : decode cX7_commit 104 = .ok (.getfield 12, 3) := by decide +kernel
theorem dX7_commit_107 : decode cX7_commit 107 = .ok (.iload_n 1, 1) := by decide +kernel
theorem dX7_commit_108 : decode cX7_commit 108 = .ok (.iload_n 2, 1) := by decide +kernel
theorem dX7_commit_109 : decode cX7_commit 109 = .ok (.iload_n 3, 1) := by decide +kernel
theorem dX7_commit_110 : decode cX7_commit 110 = .ok (.invokevirtual 112, 3) := by decide +kernel
theorem dX7_commit_113 : decode cX7_commit 113 = .ok (.iload 4, 2) := by decide +kernel
theorem dX7_commit_115 : decode cX7_commit 115 = .ok (.ldc 116, 2) := by decide +kernel
theorem dX7_commit_117 : decode cX7_commit 117 = .ok (.iand, 1) := by decide +kernel
theorem dX7_commit_118 : decode cX7_commit 118 = .ok (.ireturn, 1) := by decide +kernel
theorem dX7_spoil_0 : decode cX7_spoil 0 = .ok (.aload_n 0, 1) := by decide +kernel
theorem dX7_spoil_1 : decode cX7_spoil 1 = .ok (.getfield 12, 3) := by decide +kernel
theorem dX7_spoil_4 : decode cX7_spoil 4 = .ok (.iload_n 1, 1) := by decide +kernel
theorem dX7_spoil_5 : decode cX7_spoil 5 = .ok (.invokevirtual 50, 3) := by decide +kernel
theorem dX7_spoil_8 : decode cX7_spoil 8 = .ok (.ifCond .eq 25, 3) := by decide +kernel
theorem dX7_spoil_11 : decode cX7_spoil 11 = .ok (.aload_n 0, 1) := by decide +kernel
theorem dX7_spoil_12 : decode cX7_spoil 12 = .ok (.getfield 12, 3) := by decide +kernel
theorem dX7_spoil_15 : decode cX7_spoil 15 = .ok (.iload_n 2, 1) := by decide +kernel
theorem dX7_spoil_16 : decode cX7_spoil 16 = .ok (.invokevirtual 50, 3) := by decide +kernel
theorem dX7_spoil_19 : decode cX7_spoil 19 = .ok (.ifCond .eq 14, 3) := by decide +kernel
theorem dX7_spoil_22 : decode cX7_spoil 22 = .ok (.iload_n 3, 1) := by decide +kernel
theorem dX7_spoil_23 : decode cX7_spoil 23 = .ok (.iconst 1, 1) := by decide +kernel
theorem dX7_spoil_24 : decode cX7_spoil 24 = .ok (.sipush 1018, 3) := by decide +kernel
theorem dX7_spoil_27 : decode cX7_spoil 27 = .ok (.invokestatic 31, 3) := by decide +kernel
theorem dX7_spoil_30 : decode cX7_spoil 30 = .ok (.ifCond .ne 5, 3) := by decide +kernel
theorem dX7_spoil_33 : decode cX7_spoil 33 = .ok (.iconst (-1), 1) := by decide +kernel
theorem dX7_spoil_34 : decode cX7_spoil 34 = .ok (.ireturn, 1) := by decide +kernel
theorem dX7_spoil_35 : decode cX7_spoil 35 = .ok (.aload_n 0, 1) := by decide +kernel
theorem dX7_spoil_36 : decode cX7_spoil 36 = .ok (.getfield 12, 3) := by decide +kernel
theorem dX7_spoil_39 : decode cX7_spoil 39 = .ok (.iload_n 1, 1) := by decide +kernel
theorem dX7_spoil_40 : decode cX7_spoil 40 = .ok (.iload_n 2, 1) := by decide +kernel
theorem dX7_spoil_41 : decode cX7_spoil 41 = .ok (.invokevirtual 117, 3) := by decide +kernel
theorem dX7_spoil_44 : decode cX7_spoil 44 = .ok (.ifCond .ne 6, 3) := by decide +kernel
theorem dX7_spoil_47 : decode cX7_spoil 47 = .ok (.bipush (-9), 2) := by decide +kernel
theorem dX7_spoil_49 : decode cX7_spoil 49 = .ok (.ireturn, 1) := by decide +kernel
theorem dX7_spoil_50 : decode cX7_spoil 50 = .ok (.aload_n 0, 1) := by decide +kernel
theorem dX7_spoil_51 : decode cX7_spoil 51 = .ok (.getfield 19, 3) := by decide +kernel
theorem dX7_spoil_54 : decode cX7_spoil 54 = .ok (.aload_n 0, 1) := by decide +kernel
theorem dX7_spoil_55 : decode cX7_spoil 55 = .ok (.getfield 12, 3) := by decide +kernel
theorem dX7_spoil_58 : decode cX7_spoil 58 = .ok (.invokevirtual 42, 3) := by decide +kernel
theorem dX7_spoil_61 : decode cX7_spoil 61 = .ok (.aload_n 0, 1) := by decide +kernel
theorem dX7_spoil_62 : decode cX7_spoil 62 = .ok (.getfield 12, 3) := by decide +kernel
theorem dX7_spoil_65 : decode cX7_spoil 65 = .ok (.getfield 54, 3) := by decide +kernel
theorem dX7_spoil_68 : decode cX7_spoil 68 = .ok (.iload_n 1, 1) := by decide +kernel
theorem dX7_spoil_69 : decode cX7_spoil 69 = .ok (.aaload, 1) := by decide +kernel
theorem dX7_spoil_70 : decode cX7_spoil 70 = .ok (.iload_n 2, 1) := by decide +kernel
theorem dX7_spoil_71 : decode cX7_spoil 71 = .ok (.iload_n 3, 1) := by decide +kernel
theorem dX7_spoil_72 : decode cX7_spoil 72 = .ok (.aload_n 0, 1) := by decide +kernel
theorem dX7_spoil_73 : decode cX7_spoil 73 = .ok (.getfield 12, 3) := by decide +kernel
theorem dX7_spoil_76 : decode cX7_spoil 76 = .ok (.getfield 70, 3) := by decide +kernel
theorem dX7_spoil_79 : decode cX7_spoil 79 = .ok (.invokevirtual 120, 3) := by decide +kernel
theorem dX7_spoil_82 : decode cX7_spoil 82 = .ok (.aload_n 0, 1) := by decide +kernel
theorem dX7_spoil_83 : decode cX7_spoil 83 = .ok (.getfield 12, 3) := by decide +kernel
theorem dX7_spoil_86 : decode cX7_spoil 86 = .ok (.getfield 54, 3) := by decide +kernel
theorem dX7_spoil_89 : decode cX7_spoil 89 = .ok (.iload_n 1, 1) := by decide +kernel
theorem dX7_spoil_90 : decode cX7_spoil 90 = .ok (.aaload, 1) := by decide +kernel
theorem dX7_spoil_91 : decode cX7_spoil 91 = .ok (.getfield 123, 3) := by decide +kernel
theorem dX7_spoil_94 : decode cX7_spoil 94 = .ok (.iload_n 2, 1) := by decide +kernel
theorem dX7_spoil_95 : decode cX7_spoil 95 = .ok (.iaload, 1) := by decide +kernel
theorem dX7_spoil_96 : decode cX7_spoil 96 = .ok (.ireturn, 1) := by decide +kernel
theorem dX7_complain_0 : decode cX7_complain 0 = .ok (.aload_n 0, 1) := by decide +kernel
theorem dX7_complain_1 : decode cX7_complain 1 = .ok (.getfield 12, 3) := by decide +kernel
theorem dX7_complain_4 : decode cX7_complain 4 = .ok (.iload_n 1, 1) := by decide +kernel
theorem dX7_complain_5 : decode cX7_complain 5 = .ok (.invokevirtual 50, 3) := by decide +kernel
theorem dX7_complain_8 : decode cX7_complain 8 = .ok (.ifCond .eq 19, 3) := by decide +kernel
theorem dX7_complain_11 : decode cX7_complain 11 = .ok (.aload_n 0, 1) := by decide +kernel
theorem dX7_complain_12 : decode cX7_complain 12 = .ok (.getfield 12, 3) := by decide +kernel
theorem dX7_complain_15 : decode cX7_complain 15 = .ok (.iload_n 2, 1) := by decide +kernel
theorem dX7_complain_16 : decode cX7_complain 16 = .ok (.invokevirtual 50, 3) := by decide +kernel
theorem dX7_complain_19 : decode cX7_complain 19 = .ok (.ifCond .eq 8, 3) := by decide +kernel
theorem dX7_complain_22 : decode cX7_complain 22 = .ok (.iload_n 1, 1) := by decide +kernel
theorem dX7_complain_23 : decode cX7_complain 23 = .ok (.iload_n 2, 1) := by decide +kernel
theorem dX7_complain_24 : decode cX7_complain 24 = .ok (.if_icmp .ne 5, 3) := by decide +kernel
theorem dX7_complain_27 : decode cX7_complain 27 = .ok (.iconst (-1), 1) := by decide +kernel
theorem dX7_complain_28 : decode cX7_complain 28 = .ok (.ireturn, 1) := by decide +kernel
theorem dX7_complain_29 : decode cX7_complain 29 = .ok (.aload_n 0, 1) := by decide +kernel
theorem dX7_complain_30 : decode cX7_complain 30 = .ok (.getfield 12, 3) := by decide +kernel
theorem dX7_complain_33 : decode cX7_complain 33 = .ok (.getfield 35, 3) := by decide +kernel
theorem dX7_complain_36 : decode cX7_complain 36 = .ok (.iconst 1, 1) := by decide +kernel
theorem dX7_complain_37 : decode cX7_complain 37 = .ok (.if_icmp .eq 6, 3) := by decide +kernel
theorem dX7_complain_40 : decode cX7_complain 40 = .ok (.bipush (-2), 2) := by decide +kernel
theorem dX7_complain_42 : decode cX7_complain 42 = .ok (.ireturn, 1) := by decide +kernel
theorem dX7_complain_43 : decode cX7_complain 43 = .ok (.aload_n 0, 1) := by decide +kernel
theorem dX7_complain_44 : decode cX7_complain 44 = .ok (.getfield 12, 3) := by decide +kernel
theorem dX7_complain_47 : decode cX7_complain 47 = .ok (.iload_n 2, 1) := by decide +kernel
theorem dX7_complain_48 : decode cX7_complain 48 = .ok (.iload_n 1, 1) := by decide +kernel
theorem dX7_complain_49 : decode cX7_complain 49 = .ok (.invokevirtual 117, 3) := by decide +kernel
theorem dX7_complain_52 : decode cX7_complain 52 = .ok (.ifCond .ne 6, 3) := by decide +kernel
theorem dX7_complain_55 : decode cX7_complain 55 = .ok (.bipush (-9), 2) := by decide +kernel
theorem dX7_complain_57 : decode cX7_complain 57 = .ok (.ireturn, 1) := by decide +kernel
theorem dX7_complain_58 : decode cX7_complain 58 = .ok (.aload_n 0, 1) := by decide +kernel
theorem dX7_complain_59 : decode cX7_complain 59 = .ok (.getfield 19, 3) := by decide +kernel
theorem dX7_complain_62 : decode cX7_complain 62 = .ok (.aload_n 0, 1) := by decide +kernel
theorem dX7_complain_63 : decode cX7_complain 63 = .ok (.getfield 12, 3) := by decide +kernel
theorem dX7_complain_66 : decode cX7_complain 66 = .ok (.invokevirtual 42, 3) := by decide +kernel
theorem dX7_complain_69 : decode cX7_complain 69 = .ok (.aload_n 0, 1) := by decide +kernel
theorem dX7_complain_70 : decode cX7_complain 70 = .ok (.getfield 12, 3) := by decide +kernel
theorem dX7_complain_73 : decode cX7_complain 73 = .ok (.getfield 54, 3) := by decide +kernel
theorem dX7_complain_76 : decode cX7_complain 76 = .ok (.iload_n 2, 1) := by decide +kernel
theorem dX7_complain_77 : decode cX7_complain 77 = .ok (.aaload, 1) := by decide +kernel
theorem dX7_complain_78 : decode cX7_complain 78 = .ok (.getfield 127, 3) := by decide +kernel
theorem dX7_complain_81 : decode cX7_complain 81 = .ok (.iload_n 1, 1) := by decide +kernel
theorem dX7_complain_82 : decode cX7_complain 82 = .ok (.invokestatic 98, 3) := by decide +kernel
theorem dX7_complain_85 : decode cX7_complain 85 = .ok (.ifCond .eq 13, 3) := by decide +kernel
theorem dX7_complain_88 : decode cX7_complain 88 = .ok (.aload_n 0, 1) := by decide +kernel
theorem dX7_complain_89 : decode cX7_complain 89 = .ok (.getfield 12, 3) := by decide +kernel
theorem dX7_complain_92 : decode cX7_complain 92 = .ok (.iload_n 1, 1) := by decide +kernel
theorem dX7_complain_93 : decode cX7_complain 93 = .ok (.invokevirtual 130, 3) := by decide +kernel
theorem dX7_complain_96 : decode cX7_complain 96 = .ok (.iconst 0, 1) := by decide +kernel
theorem dX7_complain_97 : decode cX7_complain 97 = .ok (.ireturn, 1) := by decide +kernel
theorem dX7_complain_98 : decode cX7_complain 98 = .ok (.aload_n 0, 1) := by decide +kernel
theorem dX7_complain_99 : decode cX7_complain 99 = .ok (.getfield 12, 3) := by decide +kernel
theorem dX7_complain_102 : decode cX7_complain 102 = .ok (.iload_n 2, 1) := by decide +kernel
theorem dX7_complain_103 : decode cX7_complain 103 = .ok (.invokevirtual 134, 3) := by decide +kernel
theorem dX7_complain_106 : decode cX7_complain 106 = .ok (.iconst 1, 1) := by decide +kernel
theorem dX7_complain_107 : decode cX7_complain 107 = .ok (.ireturn, 1) := by decide +kernel
theorem dX7_beginOpening_0 : decode cX7_beginOpening 0 = .ok (.aload_n 0, 1) := by decide +kernel
theorem dX7_beginOpening_1 : decode cX7_beginOpening 1 = .ok (.getfield 12, 3) := by decide +kernel
theorem dX7_beginOpening_4 : decode cX7_beginOpening 4 = .ok (.getfield 35, 3) := by decide +kernel
theorem dX7_beginOpening_7 : decode cX7_beginOpening 7 = .ok (.iconst 1, 1) := by decide +kernel
theorem dX7_beginOpening_8 : decode cX7_beginOpening 8 = .ok (.if_icmp .eq 6, 3) := by decide +kernel
theorem dX7_beginOpening_11 : decode cX7_beginOpening 11 = .ok (.bipush (-2), 2) := by decide +kernel
theorem dX7_beginOpening_13 : decode cX7_beginOpening 13 = .ok (.ireturn, 1) := by decide +kernel
theorem dX7_beginOpening_14 : decode cX7_beginOpening 14 = .ok (.aload_n 0, 1) := by decide +kernel
theorem dX7_beginOpening_15 : decode cX7_beginOpening 15 = .ok (.getfield 19, 3) := by decide +kernel
theorem dX7_beginOpening_18 : decode cX7_beginOpening 18 = .ok (.aload_n 0, 1) := by decide +kernel
theorem dX7_beginOpening_19 : decode cX7_beginOpening 19 = .ok (.getfield 12, 3) := by decide +kernel
theorem dX7_beginOpening_22 : decode cX7_beginOpening 22 = .ok (.invokevirtual 42, 3) := by decide +kernel
theorem dX7_beginOpening_25 : decode cX7_beginOpening 25 = .ok (.aload_n 0, 1) := by decide +kernel
theorem dX7_beginOpening_26 : decode cX7_beginOpening 26 = .ok (.getfield 12, 3) := by decide +kernel
theorem dX7_beginOpening_29 : decode cX7_beginOpening 29 = .ok (.invokevirtual 137, 3) := by decide +kernel
theorem dX7_beginOpening_32 : decode cX7_beginOpening 32 = .ok (.ireturn, 1) := by decide +kernel
theorem dX7_open_0 : decode cX7_open 0 = .ok (.aload_n 0, 1) := by decide +kernel
theorem dX7_open_1 : decode cX7_open 1 = .ok (.getfield 12, 3) := by decide +kernel
theorem dX7_open_4 : decode cX7_open 4 = .ok (.iload_n 1, 1) := by decide +kernel
theorem dX7_open_5 : decode cX7_open 5 = .ok (.invokevirtual 50, 3) := by decide +kernel
theorem dX7_open_8 : decode cX7_open 8 = .ok (.ifCond .ne 5, 3) := by decide +kernel
theorem dX7_open_11 : decode cX7_open 11 = .ok (.iconst (-1), 1) := by decide +kernel
theorem dX7_open_12 : decode cX7_open 12 = .ok (.ireturn, 1) := by decide +kernel
theorem dX7_open_13 : decode cX7_open 13 = .ok (.aload_n 0, 1) := by decide +kernel
theorem dX7_open_14 : decode cX7_open 14 = .ok (.getfield 12, 3) := by decide +kernel
theorem dX7_open_17 : decode cX7_open 17 = .ok (.getfield 35, 3) := by decide +kernel
theorem dX7_open_20 : decode cX7_open 20 = .ok (.iconst 2, 1) := by decide +kernel
theorem dX7_open_21 : decode cX7_open 21 = .ok (.if_icmp .ne 31, 3) := by decide +kernel
theorem dX7_open_24 : decode cX7_open 24 = .ok (.aload_n 0, 1) := by decide +kernel
theorem dX7_open_25 : decode cX7_open 25 = .ok (.getfield 12, 3) := by decide +kernel
theorem dX7_open_28 : decode cX7_open 28 = .ok (.getfield 95, 3) := by decide +kernel
theorem dX7_open_31 : decode cX7_open 31 = .ok (.iload_n 1, 1) := by decide +kernel
theorem dX7_open_32 : decode cX7_open 32 = .ok (.invokestatic 98, 3) := by decide +kernel
theorem dX7_open_35 : decode cX7_open 35 = .ok (.ifCond .eq 17, 3) := by decide +kernel
theorem dX7_open_38 : decode cX7_open 38 = .ok (.aload_n 0, 1) := by decide +kernel
theorem dX7_open_39 : decode cX7_open 39 = .ok (.getfield 12, 3) := by decide +kernel
theorem dX7_open_42 : decode cX7_open 42 = .ok (.getfield 141, 3) := by decide +kernel
theorem dX7_open_45 : decode cX7_open 45 = .ok (.iload_n 1, 1) := by decide +kernel
theorem dX7_open_46 : decode cX7_open 46 = .ok (.invokestatic 98, 3) := by decide +kernel
theorem dX7_open_49 : decode cX7_open 49 = .ok (.ifCond .eq 6, 3) := by decide +kernel
theorem dX7_open_52 : decode cX7_open 52 = .ok (.bipush (-2), 2) := by decide +kernel
theorem dX7_open_54 : decode cX7_open 54 = .ok (.ireturn, 1) := by decide +kernel
theorem dX7_open_55 : decode cX7_open 55 = .ok (.aload_n 0, 1) := by decide +kernel
theorem dX7_open_56 : decode cX7_open 56 = .ok (.getfield 19, 3) := by decide +kernel
theorem dX7_open_59 : decode cX7_open 59 = .ok (.aload_n 0, 1) := by decide +kernel
theorem dX7_open_60 : decode cX7_open 60 = .ok (.getfield 12, 3) := by decide +kernel
theorem dX7_open_63 : decode cX7_open 63 = .ok (.invokevirtual 42, 3) := by decide +kernel
theorem dX7_open_66 : decode cX7_open 66 = .ok (.aload_n 0, 1) := by decide +kernel
theorem dX7_open_67 : decode cX7_open 67 = .ok (.getfield 12, 3) := by decide +kernel
theorem dX7_open_70 : decode cX7_open 70 = .ok (.getfield 144, 3) := by decide +kernel
theorem dX7_open_73 : decode cX7_open 73 = .ok (.iload_n 1, 1) := by decide +kernel
theorem dX7_open_74 : decode cX7_open 74 = .ok (.iaload, 1) := by decide +kernel
theorem dX7_open_75 : decode cX7_open 75 = .ok (.iload_n 2, 1) := by decide +kernel
theorem dX7_open_76 : decode cX7_open 76 = .ok (.if_icmp .ne 19, 3) := by decide +kernel
theorem dX7_open_79 : decode cX7_open 79 = .ok (.aload_n 0, 1) := by decide +kernel
theorem dX7_open_80 : decode cX7_open 80 = .ok (.getfield 12, 3) := by decide +kernel
theorem dX7_open_83 : decode cX7_open 83 = .ok (.getfield 54, 3) := by decide +kernel
theorem dX7_open_86 : decode cX7_open 86 = .ok (.iload_n 1, 1) := by decide +kernel
theorem dX7_open_87 : decode cX7_open 87 = .ok (.aaload, 1) := by decide +kernel
theorem dX7_open_88 : decode cX7_open 88 = .ok (.getfield 147, 3) := by decide +kernel
theorem dX7_open_91 : decode cX7_open 91 = .ok (.iload_n 3, 1) := by decide +kernel
theorem dX7_open_92 : decode cX7_open 92 = .ok (.if_icmp .eq 5, 3) := by decide +kernel
theorem dX7_open_95 : decode cX7_open 95 = .ok (.iconst 0, 1) := by decide +kernel
theorem dX7_open_96 : decode cX7_open 96 = .ok (.ireturn, 1) := by decide +kernel
theorem dX7_open_97 : decode cX7_open 97 = .ok (.aload_n 0, 1) := by decide +kernel
theorem dX7_open_98 : decode cX7_open 98 = .ok (.getfield 12, 3) := by decide +kernel
theorem dX7_open_101 : decode cX7_open 101 = .ok (.dup, 1) := by decide +kernel
theorem dX7_open_102 : decode cX7_open 102 = .ok (.getfield 141, 3) := by decide +kernel
theorem dX7_open_105 : decode cX7_open 105 = .ok (.iconst 1, 1) := by decide +kernel
theorem dX7_open_106 : decode cX7_open 106 = .ok (.iload_n 1, 1) := by decide +kernel
theorem dX7_open_107 : decode cX7_open 107 = .ok (.ishl, 1) := by decide +kernel
theorem dX7_open_108 : decode cX7_open 108 = .ok (.ior, 1) := by decide +kernel
theorem dX7_open_109 : decode cX7_open 109 = .ok (.putfield 141, 3) := by decide +kernel
theorem dX7_open_112 : decode cX7_open 112 = .ok (.iconst 1, 1) := by decide +kernel
theorem dX7_open_113 : decode cX7_open 113 = .ok (.ireturn, 1) := by decide +kernel
theorem dX7_close_0 : decode cX7_close 0 = .ok (.aload_n 0, 1) := by decide +kernel
theorem dX7_close_1 : decode cX7_close 1 = .ok (.getfield 12, 3) := by decide +kernel
theorem dX7_close_4 : decode cX7_close 4 = .ok (.getfield 35, 3) := by decide +kernel
theorem dX7_close_7 : decode cX7_close 7 = .ok (.iconst 2, 1) := by decide +kernel
theorem dX7_close_8 : decode cX7_close 8 = .ok (.if_icmp .eq 6, 3) := by decide +kernel
theorem dX7_close_11 : decode cX7_close 11 = .ok (.bipush (-2), 2) := by decide +kernel
theorem dX7_close_13 : decode cX7_close 13 = .ok (.ireturn, 1) := by decide +kernel
theorem dX7_close_14 : decode cX7_close 14 = .ok (.aload_n 0, 1) := by decide +kernel
theorem dX7_close_15 : decode cX7_close 15 = .ok (.getfield 19, 3) := by decide +kernel
theorem dX7_close_18 : decode cX7_close 18 = .ok (.aload_n 0, 1) := by decide +kernel
theorem dX7_close_19 : decode cX7_close 19 = .ok (.getfield 12, 3) := by decide +kernel
theorem dX7_close_22 : decode cX7_close 22 = .ok (.invokevirtual 42, 3) := by decide +kernel
theorem dX7_close_25 : decode cX7_close 25 = .ok (.aload_n 0, 1) := by decide +kernel
theorem dX7_close_26 : decode cX7_close 26 = .ok (.getfield 12, 3) := by decide +kernel
theorem dX7_close_29 : decode cX7_close 29 = .ok (.invokevirtual 150, 3) := by decide +kernel
theorem dX7_close_32 : decode cX7_close 32 = .ok (.ireturn, 1) := by decide +kernel
theorem dX7_play_0 : decode cX7_play 0 = .ok (.aload_n 0, 1) := by decide +kernel
theorem dX7_play_1 : decode cX7_play 1 = .ok (.getfield 12, 3) := by decide +kernel
theorem dX7_play_4 : decode cX7_play 4 = .ok (.invokevirtual 79, 3) := by decide +kernel
theorem dX7_play_7 : decode cX7_play 7 = .ok (.ifCond .ne 6, 3) := by decide +kernel
theorem dX7_play_10 : decode cX7_play 10 = .ok (.bipush (-2), 2) := by decide +kernel
theorem dX7_play_12 : decode cX7_play 12 = .ok (.ireturn, 1) := by decide +kernel
theorem dX7_play_13 : decode cX7_play 13 = .ok (.aload_n 0, 1) := by decide +kernel
theorem dX7_play_14 : decode cX7_play 14 = .ok (.getfield 19, 3) := by decide +kernel
theorem dX7_play_17 : decode cX7_play 17 = .ok (.aload_n 0, 1) := by decide +kernel
theorem dX7_play_18 : decode cX7_play 18 = .ok (.getfield 12, 3) := by decide +kernel
theorem dX7_play_21 : decode cX7_play 21 = .ok (.invokevirtual 42, 3) := by decide +kernel
theorem dX7_play_24 : decode cX7_play 24 = .ok (.aload_n 0, 1) := by decide +kernel
theorem dX7_play_25 : decode cX7_play 25 = .ok (.getfield 12, 3) := by decide +kernel
theorem dX7_play_28 : decode cX7_play 28 = .ok (.iload_n 1, 1) := by decide +kernel
theorem dX7_play_29 : decode cX7_play 29 = .ok (.invokestatic 153, 3) := by decide +kernel
theorem dX7_play_32 : decode cX7_play 32 = .ok (.ireturn, 1) := by decide +kernel
theorem dX7_phase_0 : decode cX7_phase 0 = .ok (.aload_n 0, 1) := by decide +kernel
theorem dX7_phase_1 : decode cX7_phase 1 = .ok (.getfield 12, 3) := by decide +kernel
theorem dX7_phase_4 : decode cX7_phase 4 = .ok (.getfield 35, 3) := by decide +kernel
theorem dX7_phase_7 : decode cX7_phase 7 = .ok (.ireturn, 1) := by decide +kernel
theorem dX7_set_0 : decode cX7_set 0 = .ok (.iload_n 1, 1) := by decide +kernel
theorem dX7_set_1 : decode cX7_set 1 = .ok (.iconst 0, 1) := by decide +kernel
theorem dX7_set_2 : decode cX7_set 2 = .ok (.iconst 3, 1) := by decide +kernel
theorem dX7_set_3 : decode cX7_set 3 = .ok (.invokestatic 31, 3) := by decide +kernel
theorem dX7_set_6 : decode cX7_set 6 = .ok (.ifCond .ne 5, 3) := by decide +kernel
theorem dX7_set_9 : decode cX7_set 9 = .ok (.iconst (-1), 1) := by decide +kernel
theorem dX7_set_10 : decode cX7_set 10 = .ok (.ireturn, 1) := by decide +kernel
theorem dX7_set_11 : decode cX7_set 11 = .ok (.aload_n 0, 1) := by decide +kernel
theorem dX7_set_12 : decode cX7_set 12 = .ok (.getfield 12, 3) := by decide +kernel
theorem dX7_set_15 : decode cX7_set 15 = .ok (.getfield 35, 3) := by decide +kernel
theorem dX7_set_18 : decode cX7_set 18 = .ok (.ifCond .ne 6, 3) := by decide +kernel
theorem dX7_set_21 : decode cX7_set 21 = .ok (.bipush (-2), 2) := by decide +kernel
theorem dX7_set_23 : decode cX7_set 23 = .ok (.ireturn, 1) := by decide +kernel
theorem dX7_set_24 : decode cX7_set 24 = .ok (.iload_n 1, 1) := by decide +kernel
theorem dX7_set_25 : decode cX7_set 25 = .ok (.tableswitch 51 0 2 #[27, 35, 43], 27) := by decide +kernel
theorem dX7_set_52 : decode cX7_set 52 = .ok (.aload_n 0, 1) := by decide +kernel
theorem dX7_set_53 : decode cX7_set 53 = .ok (.getfield 12, 3) := by decide +kernel
theorem dX7_set_56 : decode cX7_set 56 = .ok (.getfield 95, 3) := by decide +kernel
theorem dX7_set_59 : decode cX7_set 59 = .ok (.ireturn, 1) := by decide +kernel
theorem dX7_set_60 : decode cX7_set 60 = .ok (.aload_n 0, 1) := by decide +kernel
theorem dX7_set_61 : decode cX7_set 61 = .ok (.getfield 12, 3) := by decide +kernel
theorem dX7_set_64 : decode cX7_set 64 = .ok (.getfield 102, 3) := by decide +kernel
theorem dX7_set_67 : decode cX7_set 67 = .ok (.ireturn, 1) := by decide +kernel
theorem dX7_set_68 : decode cX7_set 68 = .ok (.aload_n 0, 1) := by decide +kernel
theorem dX7_set_69 : decode cX7_set 69 = .ok (.getfield 12, 3) := by decide +kernel
theorem dX7_set_72 : decode cX7_set 72 = .ok (.getfield 141, 3) := by decide +kernel
theorem dX7_set_75 : decode cX7_set 75 = .ok (.ireturn, 1) := by decide +kernel
theorem dX7_set_76 : decode cX7_set 76 = .ok (.aload_n 0, 1) := by decide +kernel
theorem dX7_set_77 : decode cX7_set 77 = .ok (.getfield 12, 3) := by decide +kernel
theorem dX7_set_80 : decode cX7_set 80 = .ok (.getfield 159, 3) := by decide +kernel
theorem dX7_set_83 : decode cX7_set 83 = .ok (.ireturn, 1) := by decide +kernel
theorem dX7_digest_0 : decode cX7_digest 0 = .ok (.aload_n 0, 1) := by decide +kernel
theorem dX7_digest_1 : decode cX7_digest 1 = .ok (.getfield 12, 3) := by decide +kernel
theorem dX7_digest_4 : decode cX7_digest 4 = .ok (.iload_n 1, 1) := by decide +kernel
theorem dX7_digest_5 : decode cX7_digest 5 = .ok (.invokevirtual 50, 3) := by decide +kernel
theorem dX7_digest_8 : decode cX7_digest 8 = .ok (.ifCond .ne 5, 3) := by decide +kernel
theorem dX7_digest_11 : decode cX7_digest 11 = .ok (.iconst (-1), 1) := by decide +kernel
theorem dX7_digest_12 : decode cX7_digest 12 = .ok (.ireturn, 1) := by decide +kernel
theorem dX7_digest_13 : decode cX7_digest 13 = .ok (.aload_n 0, 1) := by decide +kernel
theorem dX7_digest_14 : decode cX7_digest 14 = .ok (.getfield 12, 3) := by decide +kernel
theorem dX7_digest_17 : decode cX7_digest 17 = .ok (.iload_n 1, 1) := by decide +kernel
theorem dX7_digest_18 : decode cX7_digest 18 = .ok (.invokevirtual 162, 3) := by decide +kernel
theorem dX7_digest_21 : decode cX7_digest 21 = .ok (.ifCond .ne 6, 3) := by decide +kernel
theorem dX7_digest_24 : decode cX7_digest 24 = .ok (.bipush (-9), 2) := by decide +kernel
theorem dX7_digest_26 : decode cX7_digest 26 = .ok (.ireturn, 1) := by decide +kernel
theorem dX7_digest_27 : decode cX7_digest 27 = .ok (.aload_n 0, 1) := by decide +kernel
theorem dX7_digest_28 : decode cX7_digest 28 = .ok (.getfield 12, 3) := by decide +kernel
theorem dX7_digest_31 : decode cX7_digest 31 = .ok (.getfield 54, 3) := by decide +kernel
theorem dX7_digest_34 : decode cX7_digest 34 = .ok (.iload_n 1, 1) := by decide +kernel
theorem dX7_digest_35 : decode cX7_digest 35 = .ok (.aaload, 1) := by decide +kernel
theorem dX7_digest_36 : decode cX7_digest 36 = .ok (.getfield 165, 3) := by decide +kernel
theorem dX7_digest_39 : decode cX7_digest 39 = .ok (.ldc 116, 2) := by decide +kernel
theorem dX7_digest_41 : decode cX7_digest 41 = .ok (.iand, 1) := by decide +kernel
theorem dX7_digest_42 : decode cX7_digest 42 = .ok (.ireturn, 1) := by decide +kernel
theorem dX7_share_0 : decode cX7_share 0 = .ok (.aload_n 0, 1) := by decide +kernel
theorem dX7_share_1 : decode cX7_share 1 = .ok (.getfield 12, 3) := by decide +kernel
theorem dX7_share_4 : decode cX7_share 4 = .ok (.iload_n 1, 1) := by decide +kernel
theorem dX7_share_5 : decode cX7_share 5 = .ok (.invokevirtual 50, 3) := by decide +kernel
theorem dX7_share_8 : decode cX7_share 8 = .ok (.ifCond .eq 14, 3) := by decide +kernel
theorem dX7_share_11 : decode cX7_share 11 = .ok (.aload_n 0, 1) := by decide +kernel
theorem dX7_share_12 : decode cX7_share 12 = .ok (.getfield 12, 3) := by decide +kernel
theorem dX7_share_15 : decode cX7_share 15 = .ok (.iload_n 2, 1) := by decide +kernel
theorem dX7_share_16 : decode cX7_share 16 = .ok (.invokevirtual 50, 3) := by decide +kernel
theorem dX7_share_19 : decode cX7_share 19 = .ok (.ifCond .ne 5, 3) := by decide +kernel
theorem dX7_share_22 : decode cX7_share 22 = .ok (.iconst (-1), 1) := by decide +kernel
theorem dX7_share_23 : decode cX7_share 23 = .ok (.ireturn, 1) := by decide +kernel
theorem dX7_share_24 : decode cX7_share 24 = .ok (.aload_n 0, 1) := by decide +kernel
theorem dX7_share_25 : decode cX7_share 25 = .ok (.getfield 12, 3) := by decide +kernel
theorem dX7_share_28 : decode cX7_share 28 = .ok (.iload_n 1, 1) := by decide +kernel
theorem dX7_share_29 : decode cX7_share 29 = .ok (.iload_n 2, 1) := by decide +kernel
theorem dX7_share_30 : decode cX7_share 30 = .ok (.invokevirtual 117, 3) := by decide +kernel
theorem dX7_share_33 : decode cX7_share 33 = .ok (.ifCond .ne 6, 3) := by decide +kernel
theorem dX7_share_36 : decode cX7_share 36 = .ok (.bipush (-9), 2) := by decide +kernel
theorem dX7_share_38 : decode cX7_share 38 = .ok (.ireturn, 1) := by decide +kernel
theorem dX7_share_39 : decode cX7_share 39 = .ok (.aload_n 0, 1) := by decide +kernel
theorem dX7_share_40 : decode cX7_share 40 = .ok (.getfield 12, 3) := by decide +kernel
theorem dX7_share_43 : decode cX7_share 43 = .ok (.getfield 54, 3) := by decide +kernel
theorem dX7_share_46 : decode cX7_share 46 = .ok (.iload_n 1, 1) := by decide +kernel
theorem dX7_share_47 : decode cX7_share 47 = .ok (.aaload, 1) := by decide +kernel
theorem dX7_share_48 : decode cX7_share 48 = .ok (.getfield 123, 3) := by decide +kernel
theorem dX7_share_51 : decode cX7_share 51 = .ok (.iload_n 2, 1) := by decide +kernel
theorem dX7_share_52 : decode cX7_share 52 = .ok (.iaload, 1) := by decide +kernel
theorem dX7_share_53 : decode cX7_share 53 = .ok (.ireturn, 1) := by decide +kernel
theorem dX7_isRight_0 : decode cX7_isRight 0 = .ok (.aload_n 0, 1) := by decide +kernel
theorem dX7_isRight_1 : decode cX7_isRight 1 = .ok (.getfield 12, 3) := by decide +kernel
theorem dX7_isRight_4 : decode cX7_isRight 4 = .ok (.iload_n 1, 1) := by decide +kernel
theorem dX7_isRight_5 : decode cX7_isRight 5 = .ok (.invokevirtual 50, 3) := by decide +kernel
theorem dX7_isRight_8 : decode cX7_isRight 8 = .ok (.ifCond .eq 14, 3) := by decide +kernel
theorem dX7_isRight_11 : decode cX7_isRight 11 = .ok (.aload_n 0, 1) := by decide +kernel
theorem dX7_isRight_12 : decode cX7_isRight 12 = .ok (.getfield 12, 3) := by decide +kernel
theorem dX7_isRight_15 : decode cX7_isRight 15 = .ok (.iload_n 2, 1) := by decide +kernel
theorem dX7_isRight_16 : decode cX7_isRight 16 = .ok (.invokevirtual 50, 3) := by decide +kernel
theorem dX7_isRight_19 : decode cX7_isRight 19 = .ok (.ifCond .ne 5, 3) := by decide +kernel
theorem dX7_isRight_22 : decode cX7_isRight 22 = .ok (.iconst (-1), 1) := by decide +kernel
theorem dX7_isRight_23 : decode cX7_isRight 23 = .ok (.ireturn, 1) := by decide +kernel
theorem dX7_isRight_24 : decode cX7_isRight 24 = .ok (.aload_n 0, 1) := by decide +kernel
theorem dX7_isRight_25 : decode cX7_isRight 25 = .ok (.getfield 12, 3) := by decide +kernel
theorem dX7_isRight_28 : decode cX7_isRight 28 = .ok (.iload_n 1, 1) := by decide +kernel
theorem dX7_isRight_29 : decode cX7_isRight 29 = .ok (.iload_n 2, 1) := by decide +kernel
theorem dX7_isRight_30 : decode cX7_isRight 30 = .ok (.invokevirtual 117, 3) := by decide +kernel
theorem dX7_isRight_33 : decode cX7_isRight 33 = .ok (.ifCond .ne 6, 3) := by decide +kernel
theorem dX7_isRight_36 : decode cX7_isRight 36 = .ok (.bipush (-9), 2) := by decide +kernel
theorem dX7_isRight_38 : decode cX7_isRight 38 = .ok (.ireturn, 1) := by decide +kernel
theorem dX7_isRight_39 : decode cX7_isRight 39 = .ok (.aload_n 0, 1) := by decide +kernel
theorem dX7_isRight_40 : decode cX7_isRight 40 = .ok (.getfield 12, 3) := by decide +kernel
theorem dX7_isRight_43 : decode cX7_isRight 43 = .ok (.getfield 54, 3) := by decide +kernel
theorem dX7_isRight_46 : decode cX7_isRight 46 = .ok (.iload_n 1, 1) := by decide +kernel
theorem dX7_isRight_47 : decode cX7_isRight 47 = .ok (.aaload, 1) := by decide +kernel
theorem dX7_isRight_48 : decode cX7_isRight 48 = .ok (.getfield 127, 3) := by decide +kernel
theorem dX7_isRight_51 : decode cX7_isRight 51 = .ok (.iload_n 2, 1) := by decide +kernel
theorem dX7_isRight_52 : decode cX7_isRight 52 = .ok (.invokestatic 98, 3) := by decide +kernel
theorem dX7_isRight_55 : decode cX7_isRight 55 = .ok (.ifCond .eq 7, 3) := by decide +kernel
theorem dX7_isRight_58 : decode cX7_isRight 58 = .ok (.iconst 1, 1) := by decide +kernel
theorem dX7_isRight_59 : decode cX7_isRight 59 = .ok (.goto 4, 3) := by decide +kernel
theorem dX7_isRight_62 : decode cX7_isRight 62 = .ok (.iconst 0, 1) := by decide +kernel
theorem dX7_isRight_63 : decode cX7_isRight 63 = .ok (.ireturn, 1) := by decide +kernel
theorem dX7_recover_0 : decode cX7_recover 0 = .ok (.aload_n 0, 1) := by decide +kernel
theorem dX7_recover_1 : decode cX7_recover 1 = .ok (.getfield 12, 3) := by decide +kernel
theorem dX7_recover_4 : decode cX7_recover 4 = .ok (.iload_n 1, 1) := by decide +kernel
theorem dX7_recover_5 : decode cX7_recover 5 = .ok (.invokevirtual 50, 3) := by decide +kernel
theorem dX7_recover_8 : decode cX7_recover 8 = .ok (.ifCond .eq 14, 3) := by decide +kernel
theorem dX7_recover_11 : decode cX7_recover 11 = .ok (.iload_n 2, 1) := by decide +kernel
theorem dX7_recover_12 : decode cX7_recover 12 = .ok (.iconst 0, 1) := by decide +kernel
theorem dX7_recover_13 : decode cX7_recover 13 = .ok (.sipush 255, 3) := by decide +kernel
theorem dX7_recover_16 : decode cX7_recover 16 = .ok (.invokestatic 31, 3) := by decide +kernel
theorem dX7_recover_19 : decode cX7_recover 19 = .ok (.ifCond .ne 5, 3) := by decide +kernel
theorem dX7_recover_22 : decode cX7_recover 22 = .ok (.iconst (-1), 1) := by decide +kernel
theorem dX7_recover_23 : decode cX7_recover 23 = .ok (.ireturn, 1) := by decide +kernel
theorem dX7_recover_24 : decode cX7_recover 24 = .ok (.iload_n 2, 1) := by decide +kernel
theorem dX7_recover_25 : decode cX7_recover 25 = .ok (.aload_n 0, 1) := by decide +kernel
theorem dX7_recover_26 : decode cX7_recover 26 = .ok (.getfield 12, 3) := by decide +kernel
theorem dX7_recover_29 : decode cX7_recover 29 = .ok (.getfield 95, 3) := by decide +kernel
theorem dX7_recover_32 : decode cX7_recover 32 = .ok (.iand, 1) := by decide +kernel
theorem dX7_recover_33 : decode cX7_recover 33 = .ok (.istore_n 3, 1) := by decide +kernel
theorem dX7_recover_34 : decode cX7_recover 34 = .ok (.aload_n 0, 1) := by decide +kernel
theorem dX7_recover_35 : decode cX7_recover 35 = .ok (.getfield 12, 3) := by decide +kernel
theorem dX7_recover_38 : decode cX7_recover 38 = .ok (.iload_n 1, 1) := by decide +kernel
theorem dX7_recover_39 : decode cX7_recover 39 = .ok (.invokevirtual 168, 3) := by decide +kernel
theorem dX7_recover_42 : decode cX7_recover 42 = .ok (.ifCond .eq 17, 3) := by decide +kernel
theorem dX7_recover_45 : decode cX7_recover 45 = .ok (.iload_n 3, 1) := by decide +kernel
theorem dX7_recover_46 : decode cX7_recover 46 = .ok (.invokestatic 174, 3) := by decide +kernel
theorem dX7_recover_49 : decode cX7_recover 49 = .ok (.aload_n 0, 1) := by decide +kernel
theorem dX7_recover_50 : decode cX7_recover 50 = .ok (.getfield 12, 3) := by decide +kernel
theorem dX7_recover_53 : decode cX7_recover 53 = .ok (.getfield 70, 3) := by decide +kernel
theorem dX7_recover_56 : decode cX7_recover 56 = .ok (.if_icmp .ge 6, 3) := by decide +kernel
theorem dX7_recover_59 : decode cX7_recover 59 = .ok (.bipush (-9), 2) := by decide +kernel
theorem dX7_recover_61 : decode cX7_recover 61 = .ok (.ireturn, 1) := by decide +kernel
theorem dX7_recover_62 : decode cX7_recover 62 = .ok (.aload_n 0, 1) := by decide +kernel
theorem dX7_recover_63 : decode cX7_recover 63 = .ok (.getfield 12, 3) := by decide +kernel
theorem dX7_recover_66 : decode cX7_recover 66 = .ok (.getfield 54, 3) := by decide +kernel
theorem dX7_recover_69 : decode cX7_recover 69 = .ok (.iload_n 1, 1) := by decide +kernel
theorem dX7_recover_70 : decode cX7_recover 70 = .ok (.aaload, 1) := by decide +kernel
theorem dX7_recover_71 : decode cX7_recover 71 = .ok (.iload_n 3, 1) := by decide +kernel
theorem dX7_recover_72 : decode cX7_recover 72 = .ok (.aload_n 0, 1) := by decide +kernel
theorem dX7_recover_73 : decode cX7_recover 73 = .ok (.getfield 12, 3) := by decide +kernel
theorem dX7_recover_76 : decode cX7_recover 76 = .ok (.getfield 70, 3) := by decide +kernel
theorem dX7_recover_79 : decode cX7_recover 79 = .ok (.invokestatic 179, 3) := by decide +kernel
theorem dX7_recover_82 : decode cX7_recover 82 = .ok (.invokevirtual 182, 3) := by decide +kernel
theorem dX7_recover_85 : decode cX7_recover 85 = .ok (.ireturn, 1) := by decide +kernel
theorem dX7_results_0 : decode cX7_results 0 = .ok (.iload_n 1, 1) := by decide +kernel
theorem dX7_results_1 : decode cX7_results 1 = .ok (.iconst 0, 1) := by decide +kernel
theorem dX7_results_2 : decode cX7_results 2 = .ok (.sipush 255, 3) := by decide +kernel
theorem dX7_results_5 : decode cX7_results 5 = .ok (.invokestatic 31, 3) := by decide +kernel
theorem dX7_results_8 : decode cX7_results 8 = .ok (.ifCond .ne 5, 3) := by decide +kernel
theorem dX7_results_11 : decode cX7_results 11 = .ok (.iconst (-1), 1) := by decide +kernel
theorem dX7_results_12 : decode cX7_results 12 = .ok (.ireturn, 1) := by decide +kernel
theorem dX7_results_13 : decode cX7_results 13 = .ok (.aload_n 0, 1) := by decide +kernel
theorem dX7_results_14 : decode cX7_results 14 = .ok (.getfield 12, 3) := by decide +kernel
theorem dX7_results_17 : decode cX7_results 17 = .ok (.iload_n 1, 1) := by decide +kernel
theorem dX7_results_18 : decode cX7_results 18 = .ok (.invokevirtual 191, 3) := by decide +kernel
theorem dX7_results_21 : decode cX7_results 21 = .ok (.ifCond .ne 6, 3) := by decide +kernel
theorem dX7_results_24 : decode cX7_results 24 = .ok (.bipush (-2), 2) := by decide +kernel
theorem dX7_results_26 : decode cX7_results 26 = .ok (.ireturn, 1) := by decide +kernel
theorem dX7_results_27 : decode cX7_results 27 = .ok (.aload_n 0, 1) := by decide +kernel
theorem dX7_results_28 : decode cX7_results 28 = .ok (.getfield 26, 3) := by decide +kernel
theorem dX7_results_31 : decode cX7_results 31 = .ok (.aload_n 0, 1) := by decide +kernel
theorem dX7_results_32 : decode cX7_results 32 = .ok (.getfield 12, 3) := by decide +kernel
theorem dX7_results_35 : decode cX7_results 35 = .ok (.iload_n 1, 1) := by decide +kernel
theorem dX7_results_36 : decode cX7_results 36 = .ok (.invokevirtual 194, 3) := by decide +kernel
theorem dX7_results_39 : decode cX7_results 39 = .ok (.aload_n 0, 1) := by decide +kernel
theorem dX7_results_40 : decode cX7_results 40 = .ok (.getfield 26, 3) := by decide +kernel
theorem dX7_results_43 : decode cX7_results 43 = .ok (.aload_n 0, 1) := by decide +kernel
theorem dX7_results_44 : decode cX7_results 44 = .ok (.getfield 12, 3) := by decide +kernel
theorem dX7_results_47 : decode cX7_results 47 = .ok (.invokevirtual 198, 3) := by decide +kernel
theorem dX7_results_50 : decode cX7_results 50 = .ok (.ireturn, 1) := by decide +kernel
theorem dX7_canForce_0 : decode cX7_canForce 0 = .ok (.iload_n 1, 1) := by decide +kernel
theorem dX7_canForce_1 : decode cX7_canForce 1 = .ok (.iconst 0, 1) := by decide +kernel
theorem dX7_canForce_2 : decode cX7_canForce 2 = .ok (.sipush 255, 3) := by decide +kernel
theorem dX7_canForce_5 : decode cX7_canForce 5 = .ok (.invokestatic 31, 3) := by decide +kernel
theorem dX7_canForce_8 : decode cX7_canForce 8 = .ok (.ifCond .eq 12, 3) := by decide +kernel
theorem dX7_canForce_11 : decode cX7_canForce 11 = .ok (.iload_n 2, 1) := by decide +kernel
theorem dX7_canForce_12 : decode cX7_canForce 12 = .ok (.iconst 0, 1) := by decide +kernel
theorem dX7_canForce_13 : decode cX7_canForce 13 = .ok (.iconst 1, 1) := by decide +kernel
theorem dX7_canForce_14 : decode cX7_canForce 14 = .ok (.invokestatic 31, 3) := by decide +kernel
theorem dX7_canForce_17 : decode cX7_canForce 17 = .ok (.ifCond .ne 5, 3) := by decide +kernel
theorem dX7_canForce_20 : decode cX7_canForce 20 = .ok (.iconst (-1), 1) := by decide +kernel
theorem dX7_canForce_21 : decode cX7_canForce 21 = .ok (.ireturn, 1) := by decide +kernel
theorem dX7_canForce_22 : decode cX7_canForce 22 = .ok (.aload_n 0, 1) := by decide +kernel
theorem dX7_canForce_23 : decode cX7_canForce 23 = .ok (.getfield 12, 3) := by decide +kernel
theorem dX7_canForce_26 : decode cX7_canForce 26 = .ok (.iload_n 1, 1) := by decide +kernel
theorem dX7_canForce_27 : decode cX7_canForce 27 = .ok (.invokevirtual 191, 3) := by decide +kernel
theorem dX7_canForce_30 : decode cX7_canForce 30 = .ok (.ifCond .ne 6, 3) := by decide +kernel
theorem dX7_canForce_33 : decode cX7_canForce 33 = .ok (.bipush (-2), 2) := by decide +kernel
theorem dX7_canForce_35 : decode cX7_canForce 35 = .ok (.ireturn, 1) := by decide +kernel
theorem dX7_canForce_36 : decode cX7_canForce 36 = .ok (.aload_n 0, 1) := by decide +kernel
theorem dX7_canForce_37 : decode cX7_canForce 37 = .ok (.getfield 26, 3) := by decide +kernel
theorem dX7_canForce_40 : decode cX7_canForce 40 = .ok (.aload_n 0, 1) := by decide +kernel
theorem dX7_canForce_41 : decode cX7_canForce 41 = .ok (.getfield 12, 3) := by decide +kernel
theorem dX7_canForce_44 : decode cX7_canForce 44 = .ok (.iload_n 1, 1) := by decide +kernel
theorem dX7_canForce_45 : decode cX7_canForce 45 = .ok (.invokevirtual 194, 3) := by decide +kernel
theorem dX7_canForce_48 : decode cX7_canForce 48 = .ok (.aload_n 0, 1) := by decide +kernel
theorem dX7_canForce_49 : decode cX7_canForce 49 = .ok (.getfield 26, 3) := by decide +kernel
theorem dX7_canForce_52 : decode cX7_canForce 52 = .ok (.aload_n 0, 1) := by decide +kernel
theorem dX7_canForce_53 : decode cX7_canForce 53 = .ok (.getfield 12, 3) := by decide +kernel
theorem dX7_canForce_56 : decode cX7_canForce 56 = .ok (.aload_n 0, 1) := by decide +kernel
theorem dX7_canForce_57 : decode cX7_canForce 57 = .ok (.getfield 12, 3) := by decide +kernel
theorem dX7_canForce_60 : decode cX7_canForce 60 = .ok (.getfield 144, 3) := by decide +kernel
theorem dX7_canForce_63 : decode cX7_canForce 63 = .ok (.iload_n 2, 1) := by decide +kernel
theorem dX7_canForce_64 : decode cX7_canForce 64 = .ok (.invokevirtual 202, 3) := by decide +kernel
theorem dX7_canForce_67 : decode cX7_canForce 67 = .ok (.ifCond .eq 7, 3) := by decide +kernel
theorem dX7_canForce_70 : decode cX7_canForce 70 = .ok (.iconst 1, 1) := by decide +kernel
theorem dX7_canForce_71 : decode cX7_canForce 71 = .ok (.goto 4, 3) := by decide +kernel
theorem dX7_canForce_74 : decode cX7_canForce 74 = .ok (.iconst 0, 1) := by decide +kernel
theorem dX7_canForce_75 : decode cX7_canForce 75 = .ok (.ireturn, 1) := by decide +kernel
theorem dX7_bias_0 : decode cX7_bias 0 = .ok (.iload_n 1, 1) := by decide +kernel
theorem dX7_bias_1 : decode cX7_bias 1 = .ok (.iconst 0, 1) := by decide +kernel
theorem dX7_bias_2 : decode cX7_bias 2 = .ok (.sipush 255, 3) := by decide +kernel
theorem dX7_bias_5 : decode cX7_bias 5 = .ok (.invokestatic 31, 3) := by decide +kernel
theorem dX7_bias_8 : decode cX7_bias 8 = .ok (.ifCond .eq 12, 3) := by decide +kernel
theorem dX7_bias_11 : decode cX7_bias 11 = .ok (.iload_n 2, 1) := by decide +kernel
theorem dX7_bias_12 : decode cX7_bias 12 = .ok (.iconst 1, 1) := by decide +kernel
theorem dX7_bias_13 : decode cX7_bias 13 = .ok (.iconst 4, 1) := by decide +kernel
theorem dX7_bias_14 : decode cX7_bias 14 = .ok (.invokestatic 31, 3) := by decide +kernel
theorem dX7_bias_17 : decode cX7_bias 17 = .ok (.ifCond .ne 5, 3) := by decide +kernel
theorem dX7_bias_20 : decode cX7_bias 20 = .ok (.iconst (-1), 1) := by decide +kernel
theorem dX7_bias_21 : decode cX7_bias 21 = .ok (.ireturn, 1) := by decide +kernel
theorem dX7_bias_22 : decode cX7_bias 22 = .ok (.aload_n 0, 1) := by decide +kernel
theorem dX7_bias_23 : decode cX7_bias 23 = .ok (.getfield 12, 3) := by decide +kernel
theorem dX7_bias_26 : decode cX7_bias 26 = .ok (.iload_n 1, 1) := by decide +kernel
theorem dX7_bias_27 : decode cX7_bias 27 = .ok (.invokevirtual 191, 3) := by decide +kernel
theorem dX7_bias_30 : decode cX7_bias 30 = .ok (.ifCond .ne 6, 3) := by decide +kernel
theorem dX7_bias_33 : decode cX7_bias 33 = .ok (.bipush (-2), 2) := by decide +kernel
theorem dX7_bias_35 : decode cX7_bias 35 = .ok (.ireturn, 1) := by decide +kernel
theorem dX7_bias_36 : decode cX7_bias 36 = .ok (.aload_n 0, 1) := by decide +kernel
theorem dX7_bias_37 : decode cX7_bias 37 = .ok (.getfield 12, 3) := by decide +kernel
theorem dX7_bias_40 : decode cX7_bias 40 = .ok (.getfield 95, 3) := by decide +kernel
theorem dX7_bias_43 : decode cX7_bias 43 = .ok (.iload_n 1, 1) := by decide +kernel
theorem dX7_bias_44 : decode cX7_bias 44 = .ok (.iconst (-1), 1) := by decide +kernel
theorem dX7_bias_45 : decode cX7_bias 45 = .ok (.ixor, 1) := by decide +kernel
theorem dX7_bias_46 : decode cX7_bias 46 = .ok (.iand, 1) := by decide +kernel
theorem dX7_bias_47 : decode cX7_bias 47 = .ok (.istore_n 3, 1) := by decide +kernel
theorem dX7_bias_48 : decode cX7_bias 48 = .ok (.iload_n 2, 1) := by decide +kernel
theorem dX7_bias_49 : decode cX7_bias 49 = .ok (.iload_n 3, 1) := by decide +kernel
theorem dX7_bias_50 : decode cX7_bias 50 = .ok (.invokestatic 174, 3) := by decide +kernel
theorem dX7_bias_53 : decode cX7_bias 53 = .ok (.imul, 1) := by decide +kernel
theorem dX7_bias_54 : decode cX7_bias 54 = .ok (.bipush 12, 2) := by decide +kernel
theorem dX7_bias_56 : decode cX7_bias 56 = .ok (.if_icmp .le 6, 3) := by decide +kernel
theorem dX7_bias_59 : decode cX7_bias 59 = .ok (.bipush (-3), 2) := by decide +kernel
theorem dX7_bias_61 : decode cX7_bias 61 = .ok (.ireturn, 1) := by decide +kernel
theorem dX7_bias_62 : decode cX7_bias 62 = .ok (.aload_n 0, 1) := by decide +kernel
theorem dX7_bias_63 : decode cX7_bias 63 = .ok (.getfield 26, 3) := by decide +kernel
theorem dX7_bias_66 : decode cX7_bias 66 = .ok (.aload_n 0, 1) := by decide +kernel
theorem dX7_bias_67 : decode cX7_bias 67 = .ok (.getfield 12, 3) := by decide +kernel
theorem dX7_bias_70 : decode cX7_bias 70 = .ok (.iload_n 1, 1) := by decide +kernel
theorem dX7_bias_71 : decode cX7_bias 71 = .ok (.invokevirtual 194, 3) := by decide +kernel
theorem dX7_bias_74 : decode cX7_bias 74 = .ok (.aload_n 0, 1) := by decide +kernel
theorem dX7_bias_75 : decode cX7_bias 75 = .ok (.getfield 26, 3) := by decide +kernel
theorem dX7_bias_78 : decode cX7_bias 78 = .ok (.aload_n 0, 1) := by decide +kernel
theorem dX7_bias_79 : decode cX7_bias 79 = .ok (.getfield 12, 3) := by decide +kernel
theorem dX7_bias_82 : decode cX7_bias 82 = .ok (.iload_n 3, 1) := by decide +kernel
theorem dX7_bias_83 : decode cX7_bias 83 = .ok (.iload_n 2, 1) := by decide +kernel
theorem dX7_bias_84 : decode cX7_bias 84 = .ok (.invokevirtual 206, 3) := by decide +kernel
theorem dX7_bias_87 : decode cX7_bias 87 = .ok (.ireturn, 1) := by decide +kernel
theorem dX7_account_0 : decode cX7_account 0 = .ok (.aload_n 0, 1) := by decide +kernel
theorem dX7_account_1 : decode cX7_account 1 = .ok (.getfield 12, 3) := by decide +kernel
theorem dX7_account_4 : decode cX7_account 4 = .ok (.iload_n 1, 1) := by decide +kernel
theorem dX7_account_5 : decode cX7_account 5 = .ok (.invokevirtual 50, 3) := by decide +kernel
theorem dX7_account_8 : decode cX7_account 8 = .ok (.ifCond .eq 12, 3) := by decide +kernel
theorem dX7_account_11 : decode cX7_account 11 = .ok (.iload_n 2, 1) := by decide +kernel
theorem dX7_account_12 : decode cX7_account 12 = .ok (.iconst 0, 1) := by decide +kernel
theorem dX7_account_13 : decode cX7_account 13 = .ok (.iconst 4, 1) := by decide +kernel
theorem dX7_account_14 : decode cX7_account 14 = .ok (.invokestatic 31, 3) := by decide +kernel
theorem dX7_account_17 : decode cX7_account 17 = .ok (.ifCond .ne 5, 3) := by decide +kernel
theorem dX7_account_20 : decode cX7_account 20 = .ok (.iconst (-1), 1) := by decide +kernel
theorem dX7_account_21 : decode cX7_account 21 = .ok (.ireturn, 1) := by decide +kernel
theorem dX7_account_22 : decode cX7_account 22 = .ok (.aload_n 0, 1) := by decide +kernel
theorem dX7_account_23 : decode cX7_account 23 = .ok (.getfield 12, 3) := by decide +kernel
theorem dX7_account_26 : decode cX7_account 26 = .ok (.getfield 54, 3) := by decide +kernel
theorem dX7_account_29 : decode cX7_account 29 = .ok (.iload_n 1, 1) := by decide +kernel
theorem dX7_account_30 : decode cX7_account 30 = .ok (.aaload, 1) := by decide +kernel
theorem dX7_account_31 : decode cX7_account 31 = .ok (.astore_n 3, 1) := by decide +kernel
theorem dX7_account_32 : decode cX7_account 32 = .ok (.iload_n 2, 1) := by decide +kernel
theorem dX7_account_33 : decode cX7_account 33 = .ok (.tableswitch 51 0 3 #[31, 36, 41, 46], 31) := by decide +kernel
theorem dX7_account_64 : decode cX7_account 64 = .ok (.aload_n 3, 1) := by decide +kernel
theorem dX7_account_65 : decode cX7_account 65 = .ok (.getfield 234, 3) := by decide +kernel
theorem dX7_account_68 : decode cX7_account 68 = .ok (.ireturn, 1) := by decide +kernel
theorem dX7_account_69 : decode cX7_account 69 = .ok (.aload_n 3, 1) := by decide +kernel
theorem dX7_account_70 : decode cX7_account 70 = .ok (.getfield 237, 3) := by decide +kernel
theorem dX7_account_73 : decode cX7_account 73 = .ok (.ireturn, 1) := by decide +kernel
theorem dX7_account_74 : decode cX7_account 74 = .ok (.aload_n 3, 1) := by decide +kernel
theorem dX7_account_75 : decode cX7_account 75 = .ok (.getfield 240, 3) := by decide +kernel
theorem dX7_account_78 : decode cX7_account 78 = .ok (.ireturn, 1) := by decide +kernel
theorem dX7_account_79 : decode cX7_account 79 = .ok (.aload_n 3, 1) := by decide +kernel
theorem dX7_account_80 : decode cX7_account 80 = .ok (.getfield 243, 3) := by decide +kernel
theorem dX7_account_83 : decode cX7_account 83 = .ok (.ireturn, 1) := by decide +kernel
theorem dX7_account_84 : decode cX7_account 84 = .ok (.aload_n 3, 1) := by decide +kernel
theorem dX7_account_85 : decode cX7_account 85 = .ok (.getfield 58, 3) := by decide +kernel
theorem dX7_account_88 : decode cX7_account 88 = .ok (.ireturn, 1) := by decide +kernel
theorem dX7_pot_0 : decode cX7_pot 0 = .ok (.aload_n 0, 1) := by decide +kernel
theorem dX7_pot_1 : decode cX7_pot 1 = .ok (.getfield 12, 3) := by decide +kernel
theorem dX7_pot_4 : decode cX7_pot 4 = .ok (.getfield 246, 3) := by decide +kernel
theorem dX7_pot_7 : decode cX7_pot 7 = .ok (.ireturn, 1) := by decide +kernel
theorem dX7_rounds_0 : decode cX7_rounds 0 = .ok (.aload_n 0, 1) := by decide +kernel
theorem dX7_rounds_1 : decode cX7_rounds 1 = .ok (.getfield 12, 3) := by decide +kernel
theorem dX7_rounds_4 : decode cX7_rounds 4 = .ok (.getfield 86, 3) := by decide +kernel
theorem dX7_rounds_7 : decode cX7_rounds 7 = .ok (.getfield 90, 3) := by decide +kernel
theorem dX7_rounds_10 : decode cX7_rounds 10 = .ok (.ireturn, 1) := by decide +kernel
theorem dX7_past_0 : decode cX7_past 0 = .ok (.iload_n 1, 1) := by decide +kernel
theorem dX7_past_1 : decode cX7_past 1 = .ok (.ifCond .lt 12, 3) := by decide +kernel
theorem dX7_past_4 : decode cX7_past 4 = .ok (.iload_n 2, 1) := by decide +kernel
theorem dX7_past_5 : decode cX7_past 5 = .ok (.iconst 0, 1) := by decide +kernel
theorem dX7_past_6 : decode cX7_past 6 = .ok (.iconst 4, 1) := by decide +kernel
theorem dX7_past_7 : decode cX7_past 7 = .ok (.invokestatic 31, 3) := by decide +kernel
theorem dX7_past_10 : decode cX7_past 10 = .ok (.ifCond .ne 5, 3) := by decide +kernel
theorem dX7_past_13 : decode cX7_past 13 = .ok (.iconst (-1), 1) := by decide +kernel
theorem dX7_past_14 : decode cX7_past 14 = .ok (.ireturn, 1) := by decide +kernel
theorem dX7_past_15 : decode cX7_past 15 = .ok (.aload_n 0, 1) := by decide +kernel
theorem dX7_past_16 : decode cX7_past 16 = .ok (.getfield 12, 3) := by decide +kernel
theorem dX7_past_19 : decode cX7_past 19 = .ok (.getfield 86, 3) := by decide +kernel
theorem dX7_past_22 : decode cX7_past 22 = .ok (.iload_n 1, 1) := by decide +kernel
theorem dX7_past_23 : decode cX7_past 23 = .ok (.invokevirtual 249, 3) := by decide +kernel
theorem dX7_past_26 : decode cX7_past 26 = .ok (.ifCond .ne 6, 3) := by decide +kernel
theorem dX7_past_29 : decode cX7_past 29 = .ok (.bipush (-9), 2) := by decide +kernel
theorem dX7_past_31 : decode cX7_past 31 = .ok (.ireturn, 1) := by decide +kernel
theorem dX7_past_32 : decode cX7_past 32 = .ok (.aload_n 0, 1) := by decide +kernel
theorem dX7_past_33 : decode cX7_past 33 = .ok (.getfield 12, 3) := by decide +kernel
theorem dX7_past_36 : decode cX7_past 36 = .ok (.getfield 86, 3) := by decide +kernel
theorem dX7_past_39 : decode cX7_past 39 = .ok (.iload_n 1, 1) := by decide +kernel
theorem dX7_past_40 : decode cX7_past 40 = .ok (.iload_n 2, 1) := by decide +kernel
theorem dX7_past_41 : decode cX7_past 41 = .ok (.invokevirtual 252, 3) := by decide +kernel
theorem dX7_past_44 : decode cX7_past 44 = .ok (.ireturn, 1) := by decide +kernel
theorem dX7_output_0 : decode cX7_output 0 = .ok (.aload_n 0, 1) := by decide +kernel
theorem dX7_output_1 : decode cX7_output 1 = .ok (.getfield 12, 3) := by decide +kernel
theorem dX7_output_4 : decode cX7_output 4 = .ok (.getfield 86, 3) := by decide +kernel
theorem dX7_output_7 : decode cX7_output 7 = .ok (.iload_n 1, 1) := by decide +kernel
theorem dX7_output_8 : decode cX7_output 8 = .ok (.invokevirtual 249, 3) := by decide +kernel
theorem dX7_output_11 : decode cX7_output 11 = .ok (.ifCond .ne 5, 3) := by decide +kernel
theorem dX7_output_14 : decode cX7_output 14 = .ok (.iconst 0, 1) := by decide +kernel
theorem dX7_output_15 : decode cX7_output 15 = .ok (.ireturn, 1) := by decide +kernel
theorem dX7_output_16 : decode cX7_output 16 = .ok (.aload_n 0, 1) := by decide +kernel
theorem dX7_output_17 : decode cX7_output 17 = .ok (.getfield 12, 3) := by decide +kernel
theorem dX7_output_20 : decode cX7_output 20 = .ok (.getfield 86, 3) := by decide +kernel
theorem dX7_output_23 : decode cX7_output 23 = .ok (.iload_n 1, 1) := by decide +kernel
theorem dX7_output_24 : decode cX7_output 24 = .ok (.iconst 5, 1) := by decide +kernel
theorem dX7_output_25 : decode cX7_output 25 = .ok (.invokevirtual 252, 3) := by decide +kernel
theorem dX7_output_28 : decode cX7_output 28 = .ok (.ireturn, 1) := by decide +kernel
theorem dX7_coins_0 : decode cX7_coins 0 = .ok (.iload_n 1, 1) := by decide +kernel
theorem dX7_coins_1 : decode cX7_coins 1 = .ok (.iconst 0, 1) := by decide +kernel
theorem dX7_coins_2 : decode cX7_coins 2 = .ok (.iconst 1, 1) := by decide +kernel
theorem dX7_coins_3 : decode cX7_coins 3 = .ok (.invokestatic 31, 3) := by decide +kernel
theorem dX7_coins_6 : decode cX7_coins 6 = .ok (.ifCond .ne 5, 3) := by decide +kernel
theorem dX7_coins_9 : decode cX7_coins 9 = .ok (.iconst (-1), 1) := by decide +kernel
theorem dX7_coins_10 : decode cX7_coins 10 = .ok (.ireturn, 1) := by decide +kernel
theorem dX7_coins_11 : decode cX7_coins 11 = .ok (.iload_n 1, 1) := by decide +kernel
theorem dX7_coins_12 : decode cX7_coins 12 = .ok (.iconst 1, 1) := by decide +kernel
theorem dX7_coins_13 : decode cX7_coins 13 = .ok (.if_icmp .ne 16, 3) := by decide +kernel
theorem dX7_coins_16 : decode cX7_coins 16 = .ok (.aload_n 0, 1) := by decide +kernel
theorem dX7_coins_17 : decode cX7_coins 17 = .ok (.getfield 12, 3) := by decide +kernel
theorem dX7_coins_20 : decode cX7_coins 20 = .ok (.getfield 86, 3) := by decide +kernel
theorem dX7_coins_23 : decode cX7_coins 23 = .ok (.getfield 255, 3) := by decide +kernel
theorem dX7_coins_26 : decode cX7_coins 26 = .ok (.goto 13, 3) := by decide +kernel
theorem dX7_coins_29 : decode cX7_coins 29 = .ok (.aload_n 0, 1) := by decide +kernel
theorem dX7_coins_30 : decode cX7_coins 30 = .ok (.getfield 12, 3) := by decide +kernel
theorem dX7_coins_33 : decode cX7_coins 33 = .ok (.getfield 86, 3) := by decide +kernel
theorem dX7_coins_36 : decode cX7_coins 36 = .ok (.getfield 258, 3) := by decide +kernel
theorem dX7_coins_39 : decode cX7_coins 39 = .ok (.ireturn, 1) := by decide +kernel
theorem dX7_longestRun_0 : decode cX7_longestRun 0 = .ok (.aload_n 0, 1) := by decide +kernel
theorem dX7_longestRun_1 : decode cX7_longestRun 1 = .ok (.getfield 12, 3) := by decide +kernel
theorem dX7_longestRun_4 : decode cX7_longestRun 4 = .ok (.getfield 86, 3) := by decide +kernel
theorem dX7_longestRun_7 : decode cX7_longestRun 7 = .ok (.getfield 261, 3) := by decide +kernel
theorem dX7_longestRun_10 : decode cX7_longestRun 10 = .ok (.ireturn, 1) := by decide +kernel
theorem dX7_undo_0 : decode cX7_undo 0 = .ok (.aload_n 0, 1) := by decide +kernel
theorem dX7_undo_1 : decode cX7_undo 1 = .ok (.getfield 19, 3) := by decide +kernel
theorem dX7_undo_4 : decode cX7_undo 4 = .ok (.getfield 264, 3) := by decide +kernel
theorem dX7_undo_7 : decode cX7_undo 7 = .ok (.ifCond .ne 6, 3) := by decide +kernel
theorem dX7_undo_10 : decode cX7_undo 10 = .ok (.bipush (-2), 2) := by decide +kernel
theorem dX7_undo_12 : decode cX7_undo 12 = .ok (.ireturn, 1) := by decide +kernel
theorem dX7_undo_13 : decode cX7_undo 13 = .ok (.aload_n 0, 1) := by decide +kernel
theorem dX7_undo_14 : decode cX7_undo 14 = .ok (.getfield 19, 3) := by decide +kernel
theorem dX7_undo_17 : decode cX7_undo 17 = .ok (.aload_n 0, 1) := by decide +kernel
theorem dX7_undo_18 : decode cX7_undo 18 = .ok (.getfield 12, 3) := by decide +kernel
theorem dX7_undo_21 : decode cX7_undo 21 = .ok (.invokevirtual 267, 3) := by decide +kernel
theorem dX7_undo_24 : decode cX7_undo 24 = .ok (.aload_n 0, 1) := by decide +kernel
theorem dX7_undo_25 : decode cX7_undo 25 = .ok (.getfield 19, 3) := by decide +kernel
theorem dX7_undo_28 : decode cX7_undo 28 = .ok (.getfield 264, 3) := by decide +kernel
theorem dX7_undo_31 : decode cX7_undo 31 = .ok (.ireturn, 1) := by decide +kernel
theorem dX7_fingerprint_0 : decode cX7_fingerprint 0 = .ok (.ldc2_w 270, 3) := by decide +kernel
theorem dX7_fingerprint_3 : decode cX7_fingerprint 3 = .ok (.lstore_n 1, 1) := by decide +kernel
theorem dX7_fingerprint_4 : decode cX7_fingerprint 4 = .ok (.ldc2_w 272, 3) := by decide +kernel
theorem dX7_fingerprint_7 : decode cX7_fingerprint 7 = .ok (.lload_n 1, 1) := by decide +kernel
theorem dX7_fingerprint_8 : decode cX7_fingerprint 8 = .ok (.lmul, 1) := by decide +kernel
theorem dX7_fingerprint_9 : decode cX7_fingerprint 9 = .ok (.aload_n 0, 1) := by decide +kernel
theorem dX7_fingerprint_10 : decode cX7_fingerprint 10 = .ok (.invokevirtual 274, 3) := by decide +kernel
theorem dX7_fingerprint_13 : decode cX7_fingerprint 13 = .ok (.i2l, 1) := by decide +kernel
theorem dX7_fingerprint_14 : decode cX7_fingerprint 14 = .ok (.ladd, 1) := by decide +kernel
theorem dX7_fingerprint_15 : decode cX7_fingerprint 15 = .ok (.lstore_n 1, 1) := by decide +kernel
theorem dX7_fingerprint_16 : decode cX7_fingerprint 16 = .ok (.ldc2_w 272, 3) := by decide +kernel
theorem dX7_fingerprint_19 : decode cX7_fingerprint 19 = .ok (.lload_n 1, 1) := by decide +kernel
theorem dX7_fingerprint_20 : decode cX7_fingerprint 20 = .ok (.lmul, 1) := by decide +kernel
theorem dX7_fingerprint_21 : decode cX7_fingerprint 21 = .ok (.aload_n 0, 1) := by decide +kernel
theorem dX7_fingerprint_22 : decode cX7_fingerprint 22 = .ok (.invokevirtual 276, 3) := by decide +kernel
theorem dX7_fingerprint_25 : decode cX7_fingerprint 25 = .ok (.i2l, 1) := by decide +kernel
theorem dX7_fingerprint_26 : decode cX7_fingerprint 26 = .ok (.ladd, 1) := by decide +kernel
theorem dX7_fingerprint_27 : decode cX7_fingerprint 27 = .ok (.lstore_n 1, 1) := by decide +kernel
theorem dX7_fingerprint_28 : decode cX7_fingerprint 28 = .ok (.ldc2_w 272, 3) := by decide +kernel
theorem dX7_fingerprint_31 : decode cX7_fingerprint 31 = .ok (.lload_n 1, 1) := by decide +kernel
theorem dX7_fingerprint_32 : decode cX7_fingerprint 32 = .ok (.lmul, 1) := by decide +kernel
theorem dX7_fingerprint_33 : decode cX7_fingerprint 33 = .ok (.aload_n 0, 1) := by decide +kernel
theorem dX7_fingerprint_34 : decode cX7_fingerprint 34 = .ok (.invokevirtual 279, 3) := by decide +kernel
theorem dX7_fingerprint_37 : decode cX7_fingerprint 37 = .ok (.i2l, 1) := by decide +kernel
theorem dX7_fingerprint_38 : decode cX7_fingerprint 38 = .ok (.ladd, 1) := by decide +kernel
theorem dX7_fingerprint_39 : decode cX7_fingerprint 39 = .ok (.lstore_n 1, 1) := by decide +kernel
theorem dX7_fingerprint_40 : decode cX7_fingerprint 40 = .ok (.ldc2_w 272, 3) := by decide +kernel
theorem dX7_fingerprint_43 : decode cX7_fingerprint 43 = .ok (.lload_n 1, 1) := by decide +kernel
theorem dX7_fingerprint_44 : decode cX7_fingerprint 44 = .ok (.lmul, 1) := by decide +kernel
theorem dX7_fingerprint_45 : decode cX7_fingerprint 45 = .ok (.aload_n 0, 1) := by decide +kernel
theorem dX7_fingerprint_46 : decode cX7_fingerprint 46 = .ok (.getfield 12, 3) := by decide +kernel
theorem dX7_fingerprint_49 : decode cX7_fingerprint 49 = .ok (.getfield 86, 3) := by decide +kernel
theorem dX7_fingerprint_52 : decode cX7_fingerprint 52 = .ok (.getfield 281, 3) := by decide +kernel
theorem dX7_fingerprint_55 : decode cX7_fingerprint 55 = .ok (.i2l, 1) := by decide +kernel
theorem dX7_fingerprint_56 : decode cX7_fingerprint 56 = .ok (.ladd, 1) := by decide +kernel
theorem dX7_fingerprint_57 : decode cX7_fingerprint 57 = .ok (.lstore_n 1, 1) := by decide +kernel
theorem dX7_fingerprint_58 : decode cX7_fingerprint 58 = .ok (.iconst 0, 1) := by decide +kernel
theorem dX7_fingerprint_59 : decode cX7_fingerprint 59 = .ok (.istore_n 3, 1) := by decide +kernel
theorem dX7_fingerprint_60 : decode cX7_fingerprint 60 = .ok (.iload_n 3, 1) := by decide +kernel
theorem dX7_fingerprint_61 : decode cX7_fingerprint 61 = .ok (.aload_n 0, 1) := by decide +kernel
theorem dX7_fingerprint_62 : decode cX7_fingerprint 62 = .ok (.getfield 12, 3) := by decide +kernel
theorem dX7_fingerprint_65 : decode cX7_fingerprint 65 = .ok (.getfield 39, 3) := by decide +kernel
theorem dX7_fingerprint_68 : decode cX7_fingerprint 68 = .ok (.if_icmp .ge 39, 3) := by decide +kernel
theorem dX7_fingerprint_71 : decode cX7_fingerprint 71 = .ok (.iconst 0, 1) := by decide +kernel
theorem dX7_fingerprint_72 : decode cX7_fingerprint 72 = .ok (.istore 4, 2) := by decide +kernel
theorem dX7_fingerprint_74 : decode cX7_fingerprint 74 = .ok (.iload 4, 2) := by decide +kernel
theorem dX7_fingerprint_76 : decode cX7_fingerprint 76 = .ok (.iconst 4, 1) := by decide +kernel
theorem dX7_fingerprint_77 : decode cX7_fingerprint 77 = .ok (.if_icmp .gt 24, 3) := by decide +kernel
theorem dX7_fingerprint_80 : decode cX7_fingerprint 80 = .ok (.ldc2_w 272, 3) := by decide +kernel
theorem dX7_fingerprint_83 : decode cX7_fingerprint 83 = .ok (.lload_n 1, 1) := by decide +kernel
theorem dX7_fingerprint_84 : decode cX7_fingerprint 84 = .ok (.lmul, 1) := by decide +kernel
theorem dX7_fingerprint_85 : decode cX7_fingerprint 85 = .ok (.aload_n 0, 1) := by decide +kernel
theorem dX7_fingerprint_86 : decode cX7_fingerprint 86 = .ok (.iload_n 3, 1) := by decide +kernel
theorem dX7_fingerprint_87 : decode cX7_fingerprint 87 = .ok (.iload 4, 2) := by decide +kernel
theorem dX7_fingerprint_89 : decode cX7_fingerprint 89 = .ok (.invokevirtual 284, 3) := by decide +kernel
theorem dX7_fingerprint_92 : decode cX7_fingerprint 92 = .ok (.i2l, 1) := by decide +kernel
theorem dX7_fingerprint_93 : decode cX7_fingerprint 93 = .ok (.ladd, 1) := by decide +kernel
theorem dX7_fingerprint_94 : decode cX7_fingerprint 94 = .ok (.lstore_n 1, 1) := by decide +kernel
theorem dX7_fingerprint_95 : decode cX7_fingerprint 95 = .ok (.iinc 4 1, 3) := by decide +kernel
theorem dX7_fingerprint_98 : decode cX7_fingerprint 98 = .ok (.goto (-24), 3) := by decide +kernel
theorem dX7_fingerprint_101 : decode cX7_fingerprint 101 = .ok (.iinc 3 1, 3) := by decide +kernel
theorem dX7_fingerprint_104 : decode cX7_fingerprint 104 = .ok (.goto (-44), 3) := by decide +kernel
theorem dX7_fingerprint_107 : decode cX7_fingerprint 107 = .ok (.aload_n 0, 1) := by decide +kernel
theorem dX7_fingerprint_108 : decode cX7_fingerprint 108 = .ok (.getfield 12, 3) := by decide +kernel
theorem dX7_fingerprint_111 : decode cX7_fingerprint 111 = .ok (.getfield 35, 3) := by decide +kernel
theorem dX7_fingerprint_114 : decode cX7_fingerprint 114 = .ok (.ifCond .ne 5, 3) := by decide +kernel
theorem dX7_fingerprint_117 : decode cX7_fingerprint 117 = .ok (.lload_n 1, 1) := by decide +kernel
theorem dX7_fingerprint_118 : decode cX7_fingerprint 118 = .ok (.lreturn, 1) := by decide +kernel
theorem dX7_fingerprint_119 : decode cX7_fingerprint 119 = .ok (.iconst 0, 1) := by decide +kernel
theorem dX7_fingerprint_120 : decode cX7_fingerprint 120 = .ok (.istore_n 3, 1) := by decide +kernel
theorem dX7_fingerprint_121 : decode cX7_fingerprint 121 = .ok (.iload_n 3, 1) := by decide +kernel
theorem dX7_fingerprint_122 : decode cX7_fingerprint 122 = .ok (.iconst 3, 1) := by decide +kernel
theorem dX7_fingerprint_123 : decode cX7_fingerprint 123 = .ok (.if_icmp .gt 22, 3) := by decide +kernel
theorem dX7_fingerprint_126 : decode cX7_fingerprint 126 = .ok (.ldc2_w 272, 3) := by decide +kernel
theorem dX7_fingerprint_129 : decode cX7_fingerprint 129 = .ok (.lload_n 1, 1) := by decide +kernel
theorem dX7_fingerprint_130 : decode cX7_fingerprint 130 = .ok (.lmul, 1) := by decide +kernel
theorem dX7_fingerprint_131 : decode cX7_fingerprint 131 = .ok (.aload_n 0, 1) := by decide +kernel
theorem dX7_fingerprint_132 : decode cX7_fingerprint 132 = .ok (.iload_n 3, 1) := by decide +kernel
theorem dX7_fingerprint_133 : decode cX7_fingerprint 133 = .ok (.invokevirtual 287, 3) := by decide +kernel
theorem dX7_fingerprint_136 : decode cX7_fingerprint 136 = .ok (.i2l, 1) := by decide +kernel
theorem dX7_fingerprint_137 : decode cX7_fingerprint 137 = .ok (.ladd, 1) := by decide +kernel
theorem dX7_fingerprint_138 : decode cX7_fingerprint 138 = .ok (.lstore_n 1, 1) := by decide +kernel
theorem dX7_fingerprint_139 : decode cX7_fingerprint 139 = .ok (.iinc 3 1, 3) := by decide +kernel
theorem dX7_fingerprint_142 : decode cX7_fingerprint 142 = .ok (.goto (-21), 3) := by decide +kernel
theorem dX7_fingerprint_145 : decode cX7_fingerprint 145 = .ok (.iconst 0, 1) := by decide +kernel
theorem dX7_fingerprint_146 : decode cX7_fingerprint 146 = .ok (.istore_n 3, 1) := by decide +kernel
theorem dX7_fingerprint_147 : decode cX7_fingerprint 147 = .ok (.iload_n 3, 1) := by decide +kernel
theorem dX7_fingerprint_148 : decode cX7_fingerprint 148 = .ok (.aload_n 0, 1) := by decide +kernel
theorem dX7_fingerprint_149 : decode cX7_fingerprint 149 = .ok (.getfield 12, 3) := by decide +kernel
theorem dX7_fingerprint_152 : decode cX7_fingerprint 152 = .ok (.getfield 39, 3) := by decide +kernel
theorem dX7_fingerprint_155 : decode cX7_fingerprint 155 = .ok (.if_icmp .ge 22, 3) := by decide +kernel
theorem dX7_fingerprint_158 : decode cX7_fingerprint 158 = .ok (.ldc2_w 272, 3) := by decide +kernel
theorem dX7_fingerprint_161 : decode cX7_fingerprint 161 = .ok (.lload_n 1, 1) := by decide +kernel
theorem dX7_fingerprint_162 : decode cX7_fingerprint 162 = .ok (.lmul, 1) := by decide +kernel
theorem dX7_fingerprint_163 : decode cX7_fingerprint 163 = .ok (.aload_n 0, 1) := by decide +kernel
theorem dX7_fingerprint_164 : decode cX7_fingerprint 164 = .ok (.iload_n 3, 1) := by decide +kernel
theorem dX7_fingerprint_165 : decode cX7_fingerprint 165 = .ok (.invokevirtual 290, 3) := by decide +kernel
theorem dX7_fingerprint_168 : decode cX7_fingerprint 168 = .ok (.i2l, 1) := by decide +kernel
theorem dX7_fingerprint_169 : decode cX7_fingerprint 169 = .ok (.ladd, 1) := by decide +kernel
theorem dX7_fingerprint_170 : decode cX7_fingerprint 170 = .ok (.lstore_n 1, 1) := by decide +kernel
theorem dX7_fingerprint_171 : decode cX7_fingerprint 171 = .ok (.iinc 3 1, 3) := by decide +kernel
theorem dX7_fingerprint_174 : decode cX7_fingerprint 174 = .ok (.goto (-27), 3) := by decide +kernel
theorem dX7_fingerprint_177 : decode cX7_fingerprint 177 = .ok (.lload_n 1, 1) := by decide +kernel
theorem dX7_fingerprint_178 : decode cX7_fingerprint 178 = .ok (.lreturn, 1) := by decide +kernel
theorem dX7_isWithin_0 : decode cX7_isWithin 0 = .ok (.iload_n 0, 1) := by decide +kernel
theorem dX7_isWithin_1 : decode cX7_isWithin 1 = .ok (.iload_n 1, 1) := by decide +kernel
theorem dX7_isWithin_2 : decode cX7_isWithin 2 = .ok (.if_icmp .lt 12, 3) := by decide +kernel
theorem dX7_isWithin_5 : decode cX7_isWithin 5 = .ok (.iload_n 0, 1) := by decide +kernel
theorem dX7_isWithin_6 : decode cX7_isWithin 6 = .ok (.iload_n 2, 1) := by decide +kernel
theorem dX7_isWithin_7 : decode cX7_isWithin 7 = .ok (.if_icmp .gt 7, 3) := by decide +kernel
theorem dX7_isWithin_10 : decode cX7_isWithin 10 = .ok (.iconst 1, 1) := by decide +kernel
theorem dX7_isWithin_11 : decode cX7_isWithin 11 = .ok (.goto 4, 3) := by decide +kernel
theorem dX7_isWithin_14 : decode cX7_isWithin 14 = .ok (.iconst 0, 1) := by decide +kernel
theorem dX7_isWithin_15 : decode cX7_isWithin 15 = .ok (.ireturn, 1) := by decide +kernel
theorem dX7_has_0 : decode cX7_has 0 = .ok (.iload_n 0, 1) := by decide +kernel
theorem dX7_has_1 : decode cX7_has 1 = .ok (.iload_n 1, 1) := by decide +kernel
theorem dX7_has_2 : decode cX7_has 2 = .ok (.iushr, 1) := by decide +kernel
theorem dX7_has_3 : decode cX7_has 3 = .ok (.iconst 1, 1) := by decide +kernel
theorem dX7_has_4 : decode cX7_has 4 = .ok (.iand, 1) := by decide +kernel
theorem dX7_has_5 : decode cX7_has 5 = .ok (.iconst 1, 1) := by decide +kernel
theorem dX7_has_6 : decode cX7_has 6 = .ok (.if_icmp .ne 7, 3) := by decide +kernel
theorem dX7_has_9 : decode cX7_has 9 = .ok (.iconst 1, 1) := by decide +kernel
theorem dX7_has_10 : decode cX7_has 10 = .ok (.goto 4, 3) := by decide +kernel
theorem dX7_has_13 : decode cX7_has 13 = .ok (.iconst 0, 1) := by decide +kernel
theorem dX7_has_14 : decode cX7_has 14 = .ok (.ireturn, 1) := by decide +kernel
theorem dX7_smallest_0 : decode cX7_smallest 0 = .ok (.iconst 0, 1) := by decide +kernel
theorem dX7_smallest_1 : decode cX7_smallest 1 = .ok (.istore_n 2, 1) := by decide +kernel
theorem dX7_smallest_2 : decode cX7_smallest 2 = .ok (.iconst 0, 1) := by decide +kernel
theorem dX7_smallest_3 : decode cX7_smallest 3 = .ok (.istore_n 3, 1) := by decide +kernel
theorem dX7_smallest_4 : decode cX7_smallest 4 = .ok (.iload_n 3, 1) := by decide +kernel
theorem dX7_smallest_5 : decode cX7_smallest 5 = .ok (.bipush 8, 2) := by decide +kernel
theorem dX7_smallest_7 : decode cX7_smallest 7 = .ok (.if_icmp .ge 31, 3) := by decide +kernel
theorem dX7_smallest_10 : decode cX7_smallest 10 = .ok (.iload_n 0, 1) := by decide +kernel
theorem dX7_smallest_11 : decode cX7_smallest 11 = .ok (.iload_n 3, 1) := by decide +kernel
theorem dX7_smallest_12 : decode cX7_smallest 12 = .ok (.invokestatic 98, 3) := by decide +kernel
theorem dX7_smallest_15 : decode cX7_smallest 15 = .ok (.ifCond .eq 17, 3) := by decide +kernel
theorem dX7_smallest_18 : decode cX7_smallest 18 = .ok (.iload_n 2, 1) := by decide +kernel
theorem dX7_smallest_19 : decode cX7_smallest 19 = .ok (.invokestatic 174, 3) := by decide +kernel
theorem dX7_smallest_22 : decode cX7_smallest 22 = .ok (.iload_n 1, 1) := by decide +kernel
theorem dX7_smallest_23 : decode cX7_smallest 23 = .ok (.if_icmp .ge 9, 3) := by decide +kernel
theorem dX7_smallest_26 : decode cX7_smallest 26 = .ok (.iload_n 2, 1) := by decide +kernel
theorem dX7_smallest_27 : decode cX7_smallest 27 = .ok (.iconst 1, 1) := by decide +kernel
theorem dX7_smallest_28 : decode cX7_smallest 28 = .ok (.iload_n 3, 1) := by decide +kernel
theorem dX7_smallest_29 : decode cX7_smallest 29 = .ok (.ishl, 1) := by decide +kernel
theorem dX7_smallest_30 : decode cX7_smallest 30 = .ok (.ior, 1) := by decide +kernel
theorem dX7_smallest_31 : decode cX7_smallest 31 = .ok (.istore_n 2, 1) := by decide +kernel
theorem dX7_smallest_32 : decode cX7_smallest 32 = .ok (.iinc 3 1, 3) := by decide +kernel
theorem dX7_smallest_35 : decode cX7_smallest 35 = .ok (.goto (-31), 3) := by decide +kernel
theorem dX7_smallest_38 : decode cX7_smallest 38 = .ok (.iload_n 2, 1) := by decide +kernel
theorem dX7_smallest_39 : decode cX7_smallest 39 = .ok (.ireturn, 1) := by decide +kernel
theorem dX7_mix_0 : decode cX7_mix 0 = .ok (.iload_n 0, 1) := by decide +kernel
theorem dX7_mix_1 : decode cX7_mix 1 = .ok (.iload_n 1, 1) := by decide +kernel
theorem dX7_mix_2 : decode cX7_mix 2 = .ok (.ixor, 1) := by decide +kernel
theorem dX7_mix_3 : decode cX7_mix 3 = .ok (.ldc_w 292, 3) := by decide +kernel
theorem dX7_mix_6 : decode cX7_mix 6 = .ok (.imul, 1) := by decide +kernel
theorem dX7_mix_7 : decode cX7_mix 7 = .ok (.istore_n 2, 1) := by decide +kernel
theorem dX7_mix_8 : decode cX7_mix 8 = .ok (.iload_n 2, 1) := by decide +kernel
theorem dX7_mix_9 : decode cX7_mix 9 = .ok (.iload_n 2, 1) := by decide +kernel
theorem dX7_mix_10 : decode cX7_mix 10 = .ok (.bipush 15, 2) := by decide +kernel
theorem dX7_mix_12 : decode cX7_mix 12 = .ok (.iushr, 1) := by decide +kernel
theorem dX7_mix_13 : decode cX7_mix 13 = .ok (.ixor, 1) := by decide +kernel
theorem dX7_mix_14 : decode cX7_mix 14 = .ok (.ireturn, 1) := by decide +kernel
theorem dX7_stepped_0 : decode cX7_stepped 0 = .ok (.ldc_w 293, 3) := by decide +kernel
theorem dX7_stepped_3 : decode cX7_stepped 3 = .ok (.iload_n 0, 1) := by decide +kernel
theorem dX7_stepped_4 : decode cX7_stepped 4 = .ok (.imul, 1) := by decide +kernel
theorem dX7_stepped_5 : decode cX7_stepped 5 = .ok (.sipush 12345, 3) := by decide +kernel
theorem dX7_stepped_8 : decode cX7_stepped 8 = .ok (.iadd, 1) := by decide +kernel
theorem dX7_stepped_9 : decode cX7_stepped 9 = .ok (.ireturn, 1) := by decide +kernel
theorem dX7_drawn_0 : decode cX7_drawn 0 = .ok (.iload_n 0, 1) := by decide +kernel
theorem dX7_drawn_1 : decode cX7_drawn 1 = .ok (.bipush 16, 2) := by decide +kernel
theorem dX7_drawn_3 : decode cX7_drawn 3 = .ok (.iushr, 1) := by decide +kernel
theorem dX7_drawn_4 : decode cX7_drawn 4 = .ok (.ireturn, 1) := by decide +kernel
theorem dX7_product_0 : decode cX7_product 0 = .ok (.iload_n 2, 1) := by decide +kernel
theorem dX7_product_1 : decode cX7_product 1 = .ok (.iconst 1, 1) := by decide +kernel
theorem dX7_product_2 : decode cX7_product 2 = .ok (.if_icmp .ge 5, 3) := by decide +kernel
theorem dX7_product_5 : decode cX7_product 5 = .ok (.iconst 0, 1) := by decide +kernel
theorem dX7_product_6 : decode cX7_product 6 = .ok (.ireturn, 1) := by decide +kernel
theorem dX7_product_7 : decode cX7_product 7 = .ok (.iload_n 0, 1) := by decide +kernel
theorem dX7_product_8 : decode cX7_product 8 = .ok (.i2l, 1) := by decide +kernel
theorem dX7_product_9 : decode cX7_product 9 = .ok (.iload_n 1, 1) := by decide +kernel
theorem dX7_product_10 : decode cX7_product 10 = .ok (.i2l, 1) := by decide +kernel
theorem dX7_product_11 : decode cX7_product 11 = .ok (.lmul, 1) := by decide +kernel
theorem dX7_product_12 : decode cX7_product 12 = .ok (.iload_n 2, 1) := by decide +kernel
theorem dX7_product_13 : decode cX7_product 13 = .ok (.i2l, 1) := by decide +kernel
theorem dX7_product_14 : decode cX7_product 14 = .ok (.lrem, 1) := by decide +kernel
theorem dX7_product_15 : decode cX7_product 15 = .ok (.l2i, 1) := by decide +kernel
theorem dX7_product_16 : decode cX7_product 16 = .ok (.ireturn, 1) := by decide +kernel
theorem dX7_power_0 : decode cX7_power 0 = .ok (.iconst 1, 1) := by decide +kernel
theorem dX7_power_1 : decode cX7_power 1 = .ok (.istore_n 3, 1) := by decide +kernel
theorem dX7_power_2 : decode cX7_power 2 = .ok (.bipush 30, 2) := by decide +kernel
theorem dX7_power_4 : decode cX7_power 4 = .ok (.istore 4, 2) := by decide +kernel
theorem dX7_power_6 : decode cX7_power 6 = .ok (.iload 4, 2) := by decide +kernel
theorem dX7_power_8 : decode cX7_power 8 = .ok (.ifCond .lt 32, 3) := by decide +kernel
theorem dX7_power_11 : decode cX7_power 11 = .ok (.iload_n 3, 1) := by decide +kernel
theorem dX7_power_12 : decode cX7_power 12 = .ok (.iload_n 3, 1) := by decide +kernel
theorem dX7_power_13 : decode cX7_power 13 = .ok (.iload_n 2, 1) := by decide +kernel
theorem dX7_power_14 : decode cX7_power 14 = .ok (.invokestatic 294, 3) := by decide +kernel
theorem dX7_power_17 : decode cX7_power 17 = .ok (.istore_n 3, 1) := by decide +kernel
theorem dX7_power_18 : decode cX7_power 18 = .ok (.iload_n 1, 1) := by decide +kernel
theorem dX7_power_19 : decode cX7_power 19 = .ok (.iload 4, 2) := by decide +kernel
theorem dX7_power_21 : decode cX7_power 21 = .ok (.invokestatic 98, 3) := by decide +kernel
theorem dX7_power_24 : decode cX7_power 24 = .ok (.ifCond .eq 10, 3) := by decide +kernel
theorem dX7_power_27 : decode cX7_power 27 = .ok (.iload_n 3, 1) := by decide +kernel
theorem dX7_power_28 : decode cX7_power 28 = .ok (.iload_n 0, 1) := by decide +kernel
theorem dX7_power_29 : decode cX7_power 29 = .ok (.iload_n 2, 1) := by decide +kernel
theorem dX7_power_30 : decode cX7_power 30 = .ok (.invokestatic 294, 3) := by decide +kernel
theorem dX7_power_33 : decode cX7_power 33 = .ok (.istore_n 3, 1) := by decide +kernel
theorem dX7_power_34 : decode cX7_power 34 = .ok (.iinc 4 (-1), 3) := by decide +kernel
theorem dX7_power_37 : decode cX7_power 37 = .ok (.goto (-31), 3) := by decide +kernel
theorem dX7_power_40 : decode cX7_power 40 = .ok (.iload_n 3, 1) := by decide +kernel
theorem dX7_power_41 : decode cX7_power 41 = .ok (.ireturn, 1) := by decide +kernel
theorem dJ6_bitCount_0f7a4_0 : decode cJ6_bitCount_0f7a4 0 = .ok (.iload_n 0, 1) := by decide +kernel
theorem dJ6_bitCount_0f7a4_1 : decode cJ6_bitCount_0f7a4 1 = .ok (.iload_n 0, 1) := by decide +kernel
theorem dJ6_bitCount_0f7a4_2 : decode cJ6_bitCount_0f7a4 2 = .ok (.iconst 1, 1) := by decide +kernel
theorem dJ6_bitCount_0f7a4_3 : decode cJ6_bitCount_0f7a4 3 = .ok (.iushr, 1) := by decide +kernel
theorem dJ6_bitCount_0f7a4_4 : decode cJ6_bitCount_0f7a4 4 = .ok (.ldc_w 265, 3) := by decide +kernel
theorem dJ6_bitCount_0f7a4_7 : decode cJ6_bitCount_0f7a4 7 = .ok (.iand, 1) := by decide +kernel
theorem dJ6_bitCount_0f7a4_8 : decode cJ6_bitCount_0f7a4 8 = .ok (.isub, 1) := by decide +kernel
theorem dJ6_bitCount_0f7a4_9 : decode cJ6_bitCount_0f7a4 9 = .ok (.istore_n 0, 1) := by decide +kernel
theorem dJ6_bitCount_0f7a4_10 : decode cJ6_bitCount_0f7a4 10 = .ok (.iload_n 0, 1) := by decide +kernel
theorem dJ6_bitCount_0f7a4_11 : decode cJ6_bitCount_0f7a4 11 = .ok (.ldc_w 266, 3) := by decide +kernel
theorem dJ6_bitCount_0f7a4_14 : decode cJ6_bitCount_0f7a4 14 = .ok (.iand, 1) := by decide +kernel
theorem dJ6_bitCount_0f7a4_15 : decode cJ6_bitCount_0f7a4 15 = .ok (.iload_n 0, 1) := by decide +kernel
theorem dJ6_bitCount_0f7a4_16 : decode cJ6_bitCount_0f7a4 16 = .ok (.iconst 2, 1) := by decide +kernel
theorem dJ6_bitCount_0f7a4_17 : decode cJ6_bitCount_0f7a4 17 = .ok (.iushr, 1) := by decide +kernel
theorem dJ6_bitCount_0f7a4_18 : decode cJ6_bitCount_0f7a4 18 = .ok (.ldc_w 266, 3) := by decide +kernel
theorem dJ6_bitCount_0f7a4_21 : decode cJ6_bitCount_0f7a4 21 = .ok (.iand, 1) := by decide +kernel
theorem dJ6_bitCount_0f7a4_22 : decode cJ6_bitCount_0f7a4 22 = .ok (.iadd, 1) := by decide +kernel
theorem dJ6_bitCount_0f7a4_23 : decode cJ6_bitCount_0f7a4 23 = .ok (.istore_n 0, 1) := by decide +kernel
theorem dJ6_bitCount_0f7a4_24 : decode cJ6_bitCount_0f7a4 24 = .ok (.iload_n 0, 1) := by decide +kernel
theorem dJ6_bitCount_0f7a4_25 : decode cJ6_bitCount_0f7a4 25 = .ok (.iload_n 0, 1) := by decide +kernel
theorem dJ6_bitCount_0f7a4_26 : decode cJ6_bitCount_0f7a4 26 = .ok (.iconst 4, 1) := by decide +kernel
theorem dJ6_bitCount_0f7a4_27 : decode cJ6_bitCount_0f7a4 27 = .ok (.iushr, 1) := by decide +kernel
theorem dJ6_bitCount_0f7a4_28 : decode cJ6_bitCount_0f7a4 28 = .ok (.iadd, 1) := by decide +kernel
theorem dJ6_bitCount_0f7a4_29 : decode cJ6_bitCount_0f7a4 29 = .ok (.ldc_w 267, 3) := by decide +kernel
theorem dJ6_bitCount_0f7a4_32 : decode cJ6_bitCount_0f7a4 32 = .ok (.iand, 1) := by decide +kernel
theorem dJ6_bitCount_0f7a4_33 : decode cJ6_bitCount_0f7a4 33 = .ok (.istore_n 0, 1) := by decide +kernel
theorem dJ6_bitCount_0f7a4_34 : decode cJ6_bitCount_0f7a4 34 = .ok (.iload_n 0, 1) := by decide +kernel
theorem dJ6_bitCount_0f7a4_35 : decode cJ6_bitCount_0f7a4 35 = .ok (.iload_n 0, 1) := by decide +kernel
theorem dJ6_bitCount_0f7a4_36 : decode cJ6_bitCount_0f7a4 36 = .ok (.bipush 8, 2) := by decide +kernel
theorem dJ6_bitCount_0f7a4_38 : decode cJ6_bitCount_0f7a4 38 = .ok (.iushr, 1) := by decide +kernel
theorem dJ6_bitCount_0f7a4_39 : decode cJ6_bitCount_0f7a4 39 = .ok (.iadd, 1) := by decide +kernel
theorem dJ6_bitCount_0f7a4_40 : decode cJ6_bitCount_0f7a4 40 = .ok (.istore_n 0, 1) := by decide +kernel
theorem dJ6_bitCount_0f7a4_41 : decode cJ6_bitCount_0f7a4 41 = .ok (.iload_n 0, 1) := by decide +kernel
theorem dJ6_bitCount_0f7a4_42 : decode cJ6_bitCount_0f7a4 42 = .ok (.iload_n 0, 1) := by decide +kernel
theorem dJ6_bitCount_0f7a4_43 : decode cJ6_bitCount_0f7a4 43 = .ok (.bipush 16, 2) := by decide +kernel
theorem dJ6_bitCount_0f7a4_45 : decode cJ6_bitCount_0f7a4 45 = .ok (.iushr, 1) := by decide +kernel
theorem dJ6_bitCount_0f7a4_46 : decode cJ6_bitCount_0f7a4 46 = .ok (.iadd, 1) := by decide +kernel
theorem dJ6_bitCount_0f7a4_47 : decode cJ6_bitCount_0f7a4 47 = .ok (.istore_n 0, 1) := by decide +kernel
theorem dJ6_bitCount_0f7a4_48 : decode cJ6_bitCount_0f7a4 48 = .ok (.iload_n 0, 1) := by decide +kernel
theorem dJ6_bitCount_0f7a4_49 : decode cJ6_bitCount_0f7a4 49 = .ok (.bipush 63, 2) := by decide +kernel
theorem dJ6_bitCount_0f7a4_51 : decode cJ6_bitCount_0f7a4 51 = .ok (.iand, 1) := by decide +kernel
theorem dJ6_bitCount_0f7a4_52 : decode cJ6_bitCount_0f7a4 52 = .ok (.ireturn, 1) := by decide +kernel
theorem dJ9_max_7cf53_0 : decode cJ9_max_7cf53 0 = .ok (.iload_n 0, 1) := by decide +kernel
theorem dJ9_max_7cf53_1 : decode cJ9_max_7cf53 1 = .ok (.iload_n 1, 1) := by decide +kernel
theorem dJ9_max_7cf53_2 : decode cJ9_max_7cf53 2 = .ok (.if_icmp .lt 7, 3) := by decide +kernel
theorem dJ9_max_7cf53_5 : decode cJ9_max_7cf53 5 = .ok (.iload_n 0, 1) := by decide +kernel
theorem dJ9_max_7cf53_6 : decode cJ9_max_7cf53 6 = .ok (.goto 4, 3) := by decide +kernel
theorem dJ9_max_7cf53_9 : decode cJ9_max_7cf53 9 = .ok (.iload_n 1, 1) := by decide +kernel
theorem dJ9_max_7cf53_10 : decode cJ9_max_7cf53 10 = .ok (.ireturn, 1) := by decide +kernel
theorem dJ9_min_7cf53_0 : decode cJ9_min_7cf53 0 = .ok (.iload_n 0, 1) := by decide +kernel
theorem dJ9_min_7cf53_1 : decode cJ9_min_7cf53 1 = .ok (.iload_n 1, 1) := by decide +kernel
theorem dJ9_min_7cf53_2 : decode cJ9_min_7cf53 2 = .ok (.if_icmp .gt 7, 3) := by decide +kernel
theorem dJ9_min_7cf53_5 : decode cJ9_min_7cf53 5 = .ok (.iload_n 0, 1) := by decide +kernel
theorem dJ9_min_7cf53_6 : decode cJ9_min_7cf53 6 = .ok (.goto 4, 3) := by decide +kernel
theorem dJ9_min_7cf53_9 : decode cJ9_min_7cf53 9 = .ok (.iload_n 1, 1) := by decide +kernel
theorem dJ9_min_7cf53_10 : decode cJ9_min_7cf53 10 = .ok (.ireturn, 1) := by decide +kernel
theorem dL_up_0 : decode cL_up 0 = .ok (.iload_n 0, 1) := by decide +kernel
theorem dL_up_1 : decode cL_up 1 = .ok (.ldc 8, 2) := by decide +kernel
theorem dL_up_3 : decode cL_up 3 = .ok (.iand, 1) := by decide +kernel
theorem dL_up_4 : decode cL_up 4 = .ok (.iload_n 1, 1) := by decide +kernel
theorem dL_up_5 : decode cL_up 5 = .ok (.irem, 1) := by decide +kernel
theorem dL_up_6 : decode cL_up 6 = .ok (.ireturn, 1) := by decide +kernel
theorem dL_sum_0 : decode cL_sum 0 = .ok (.aload_n 0, 1) := by decide +kernel
theorem dL_sum_1 : decode cL_sum 1 = .ok (.invokevirtual 9, 3) := by decide +kernel
theorem dL_sum_4 : decode cL_sum 4 = .ok (.i2l, 1) := by decide +kernel
theorem dL_sum_5 : decode cL_sum 5 = .ok (.lstore_n 2, 1) := by decide +kernel
theorem dL_sum_6 : decode cL_sum 6 = .ok (.iconst 0, 1) := by decide +kernel
theorem dL_sum_7 : decode cL_sum 7 = .ok (.istore 4, 2) := by decide +kernel
theorem dL_sum_9 : decode cL_sum 9 = .ok (.iload 4, 2) := by decide +kernel
theorem dL_sum_11 : decode cL_sum 11 = .ok (.iload_n 1, 1) := by decide +kernel
theorem dL_sum_12 : decode cL_sum 12 = .ok (.if_icmp .ge 20, 3) := by decide +kernel
theorem dL_sum_15 : decode cL_sum 15 = .ok (.lload_n 2, 1) := by decide +kernel
theorem dL_sum_16 : decode cL_sum 16 = .ok (.aload_n 0, 1) := by decide +kernel
theorem dL_sum_17 : decode cL_sum 17 = .ok (.iload 4, 2) := by decide +kernel
theorem dL_sum_19 : decode cL_sum 19 = .ok (.iconst 0, 1) := by decide +kernel
theorem dL_sum_20 : decode cL_sum 20 = .ok (.invokevirtual 15, 3) := by decide +kernel
theorem dL_sum_23 : decode cL_sum 23 = .ok (.i2l, 1) := by decide +kernel
theorem dL_sum_24 : decode cL_sum 24 = .ok (.ladd, 1) := by decide +kernel
theorem dL_sum_25 : decode cL_sum 25 = .ok (.lstore_n 2, 1) := by decide +kernel
theorem dL_sum_26 : decode cL_sum 26 = .ok (.iinc 4 1, 3) := by decide +kernel
theorem dL_sum_29 : decode cL_sum 29 = .ok (.goto (-20), 3) := by decide +kernel
theorem dL_sum_32 : decode cL_sum 32 = .ok (.lload_n 2, 1) := by decide +kernel
theorem dL_sum_33 : decode cL_sum 33 = .ok (.lreturn, 1) := by decide +kernel
theorem dL_fails_0 : decode cL_fails 0 = .ok (.aload_n 0, 1) := by decide +kernel
theorem dL_fails_1 : decode cL_fails 1 = .ok (.invokevirtual 19, 3) := by decide +kernel
theorem dL_fails_4 : decode cL_fails 4 = .ok (.lstore_n 2, 1) := by decide +kernel
theorem dL_fails_5 : decode cL_fails 5 = .ok (.aload_n 0, 1) := by decide +kernel
theorem dL_fails_6 : decode cL_fails 6 = .ok (.iconst (-1), 1) := by decide +kernel
theorem dL_fails_7 : decode cL_fails 7 = .ok (.invokevirtual 23, 3) := by decide +kernel
theorem dL_fails_10 : decode cL_fails 10 = .ok (.iconst (-1), 1) := by decide +kernel
theorem dL_fails_11 : decode cL_fails 11 = .ok (.if_icmp .ne 65, 3) := by decide +kernel
theorem dL_fails_14 : decode cL_fails 14 = .ok (.aload_n 0, 1) := by decide +kernel
theorem dL_fails_15 : decode cL_fails 15 = .ok (.iload_n 1, 1) := by decide +kernel
theorem dL_fails_16 : decode cL_fails 16 = .ok (.iconst 0, 1) := by decide +kernel
theorem dL_fails_17 : decode cL_fails 17 = .ok (.invokevirtual 27, 3) := by decide +kernel
theorem dL_fails_20 : decode cL_fails 20 = .ok (.iconst (-1), 1) := by decide +kernel
theorem dL_fails_21 : decode cL_fails 21 = .ok (.if_icmp .ne 55, 3) := by decide +kernel
theorem dL_fails_24 : decode cL_fails 24 = .ok (.aload_n 0, 1) := by decide +kernel
theorem dL_fails_25 : decode cL_fails 25 = .ok (.iconst 0, 1) := by decide +kernel
theorem dL_fails_26 : decode cL_fails 26 = .ok (.iconst 4, 1) := by decide +kernel
theorem dL_fails_27 : decode cL_fails 27 = .ok (.invokevirtual 27, 3) := by decide +kernel
theorem dL_fails_30 : decode cL_fails 30 = .ok (.iconst (-1), 1) := by decide +kernel
theorem dL_fails_31 : decode cL_fails 31 = .ok (.if_icmp .ne 45, 3) := by decide +kernel
theorem dL_fails_34 : decode cL_fails 34 = .ok (.aload_n 0, 1) := by decide +kernel
theorem dL_fails_35 : decode cL_fails 35 = .ok (.iconst 3, 1) := by decide +kernel
theorem dL_fails_36 : decode cL_fails 36 = .ok (.invokevirtual 30, 3) := by decide +kernel
theorem dL_fails_39 : decode cL_fails 39 = .ok (.iconst (-1), 1) := by decide +kernel
theorem dL_fails_40 : decode cL_fails 40 = .ok (.if_icmp .ne 36, 3) := by decide +kernel
theorem dL_fails_43 : decode cL_fails 43 = .ok (.aload_n 0, 1) := by decide +kernel
theorem dL_fails_44 : decode cL_fails 44 = .ok (.iconst 0, 1) := by decide +kernel
theorem dL_fails_45 : decode cL_fails 45 = .ok (.invokevirtual 33, 3) := by decide +kernel
theorem dL_fails_48 : decode cL_fails 48 = .ok (.iconst (-1), 1) := by decide +kernel
theorem dL_fails_49 : decode cL_fails 49 = .ok (.if_icmp .ne 27, 3) := by decide +kernel
theorem dL_fails_52 : decode cL_fails 52 = .ok (.aload_n 0, 1) := by decide +kernel
theorem dL_fails_53 : decode cL_fails 53 = .ok (.sipush 1001, 3) := by decide +kernel
theorem dL_fails_56 : decode cL_fails 56 = .ok (.invokevirtual 36, 3) := by decide +kernel
theorem dL_fails_59 : decode cL_fails 59 = .ok (.iconst (-1), 1) := by decide +kernel
theorem dL_fails_60 : decode cL_fails 60 = .ok (.if_icmp .ne 16, 3) := by decide +kernel
theorem dL_fails_63 : decode cL_fails 63 = .ok (.aload_n 0, 1) := by decide +kernel
theorem dL_fails_64 : decode cL_fails 64 = .ok (.iconst 0, 1) := by decide +kernel
theorem dL_fails_65 : decode cL_fails 65 = .ok (.invokevirtual 39, 3) := by decide +kernel
theorem dL_fails_68 : decode cL_fails 68 = .ok (.iconst (-1), 1) := by decide +kernel
theorem dL_fails_69 : decode cL_fails 69 = .ok (.if_icmp .ne 7, 3) := by decide +kernel
theorem dL_fails_72 : decode cL_fails 72 = .ok (.iconst 1, 1) := by decide +kernel
theorem dL_fails_73 : decode cL_fails 73 = .ok (.goto 4, 3) := by decide +kernel
theorem dL_fails_76 : decode cL_fails 76 = .ok (.iconst 0, 1) := by decide +kernel
theorem dL_fails_77 : decode cL_fails 77 = .ok (.istore 4, 2) := by decide +kernel
theorem dL_fails_79 : decode cL_fails 79 = .ok (.iload 4, 2) := by decide +kernel
theorem dL_fails_81 : decode cL_fails 81 = .ok (.ifCond .eq 103, 3) := by decide +kernel
theorem dL_fails_84 : decode cL_fails 84 = .ok (.aload_n 0, 1) := by decide +kernel
theorem dL_fails_85 : decode cL_fails 85 = .ok (.iload_n 1, 1) := by decide +kernel
theorem dL_fails_86 : decode cL_fails 86 = .ok (.iconst 0, 1) := by decide +kernel
theorem dL_fails_87 : decode cL_fails 87 = .ok (.iconst 0, 1) := by decide +kernel
theorem dL_fails_88 : decode cL_fails 88 = .ok (.invokevirtual 42, 3) := by decide +kernel
theorem dL_fails_91 : decode cL_fails 91 = .ok (.iconst (-1), 1) := by decide +kernel
theorem dL_fails_92 : decode cL_fails 92 = .ok (.if_icmp .ne 92, 3) := by decide +kernel
theorem dL_fails_95 : decode cL_fails 95 = .ok (.aload_n 0, 1) := by decide +kernel
theorem dL_fails_96 : decode cL_fails 96 = .ok (.iconst 0, 1) := by decide +kernel
theorem dL_fails_97 : decode cL_fails 97 = .ok (.sipush 1019, 3) := by decide +kernel
theorem dL_fails_100 : decode cL_fails 100 = .ok (.iconst 0, 1) := by decide +kernel
theorem dL_fails_101 : decode cL_fails 101 = .ok (.invokevirtual 42, 3) := by decide +kernel
theorem dL_fails_104 : decode cL_fails 104 = .ok (.iconst (-1), 1) := by decide +kernel
theorem dL_fails_105 : decode cL_fails 105 = .ok (.if_icmp .ne 79, 3) := by decide +kernel
theorem dL_fails_108 : decode cL_fails 108 = .ok (.aload_n 0, 1) := by decide +kernel
theorem dL_fails_109 : decode cL_fails 109 = .ok (.iconst 0, 1) := by decide +kernel
theorem dL_fails_110 : decode cL_fails 110 = .ok (.iconst 1, 1) := by decide +kernel
theorem dL_fails_111 : decode cL_fails 111 = .ok (.iconst 0, 1) := by decide +kernel
theorem dL_fails_112 : decode cL_fails 112 = .ok (.invokevirtual 46, 3) := by decide +kernel
theorem dL_fails_115 : decode cL_fails 115 = .ok (.iconst (-1), 1) := by decide +kernel
theorem dL_fails_116 : decode cL_fails 116 = .ok (.if_icmp .ne 68, 3) := by decide +kernel
theorem dL_fails_119 : decode cL_fails 119 = .ok (.aload_n 0, 1) := by decide +kernel
theorem dL_fails_120 : decode cL_fails 120 = .ok (.iconst 1, 1) := by decide +kernel
theorem dL_fails_121 : decode cL_fails 121 = .ok (.iconst 1, 1) := by decide +kernel
theorem dL_fails_122 : decode cL_fails 122 = .ok (.invokevirtual 49, 3) := by decide +kernel
theorem dL_fails_125 : decode cL_fails 125 = .ok (.iconst (-1), 1) := by decide +kernel
theorem dL_fails_126 : decode cL_fails 126 = .ok (.if_icmp .ne 58, 3) := by decide +kernel
theorem dL_fails_129 : decode cL_fails 129 = .ok (.aload_n 0, 1) := by decide +kernel
theorem dL_fails_130 : decode cL_fails 130 = .ok (.iconst (-1), 1) := by decide +kernel
theorem dL_fails_131 : decode cL_fails 131 = .ok (.iconst 0, 1) := by decide +kernel
theorem dL_fails_132 : decode cL_fails 132 = .ok (.iconst 0, 1) := by decide +kernel
theorem dL_fails_133 : decode cL_fails 133 = .ok (.invokevirtual 52, 3) := by decide +kernel
theorem dL_fails_136 : decode cL_fails 136 = .ok (.iconst (-1), 1) := by decide +kernel
theorem dL_fails_137 : decode cL_fails 137 = .ok (.if_icmp .ne 47, 3) := by decide +kernel
theorem dL_fails_140 : decode cL_fails 140 = .ok (.aload_n 0, 1) := by decide +kernel
theorem dL_fails_141 : decode cL_fails 141 = .ok (.iconst 4, 1) := by decide +kernel
theorem dL_fails_142 : decode cL_fails 142 = .ok (.invokevirtual 55, 3) := by decide +kernel
theorem dL_fails_145 : decode cL_fails 145 = .ok (.iconst (-1), 1) := by decide +kernel
theorem dL_fails_146 : decode cL_fails 146 = .ok (.if_icmp .ne 38, 3) := by decide +kernel
theorem dL_fails_149 : decode cL_fails 149 = .ok (.aload_n 0, 1) := by decide +kernel
theorem dL_fails_150 : decode cL_fails 150 = .ok (.sipush 256, 3) := by decide +kernel
theorem dL_fails_153 : decode cL_fails 153 = .ok (.invokevirtual 58, 3) := by decide +kernel
theorem dL_fails_156 : decode cL_fails 156 = .ok (.iconst (-1), 1) := by decide +kernel
theorem dL_fails_157 : decode cL_fails 157 = .ok (.if_icmp .ne 27, 3) := by decide +kernel
theorem dL_fails_160 : decode cL_fails 160 = .ok (.aload_n 0, 1) := by decide +kernel
theorem dL_fails_161 : decode cL_fails 161 = .ok (.iconst 0, 1) := by decide +kernel
theorem dL_fails_162 : decode cL_fails 162 = .ok (.iconst 5, 1) := by decide +kernel
theorem dL_fails_163 : decode cL_fails 163 = .ok (.invokevirtual 61, 3) := by decide +kernel
theorem dL_fails_166 : decode cL_fails 166 = .ok (.iconst (-1), 1) := by decide +kernel
theorem dL_fails_167 : decode cL_fails 167 = .ok (.if_icmp .ne 17, 3) := by decide +kernel
theorem dL_fails_170 : decode cL_fails 170 = .ok (.aload_n 0, 1) := by decide +kernel
theorem dL_fails_171 : decode cL_fails 171 = .ok (.iconst 0, 1) := by decide +kernel
theorem dL_fails_172 : decode cL_fails 172 = .ok (.iconst 2, 1) := by decide +kernel
theorem dL_fails_173 : decode cL_fails 173 = .ok (.invokevirtual 64, 3) := by decide +kernel
theorem dL_fails_176 : decode cL_fails 176 = .ok (.iconst (-1), 1) := by decide +kernel
theorem dL_fails_177 : decode cL_fails 177 = .ok (.if_icmp .ne 7, 3) := by decide +kernel
theorem dL_fails_180 : decode cL_fails 180 = .ok (.iconst 1, 1) := by decide +kernel
theorem dL_fails_181 : decode cL_fails 181 = .ok (.goto 4, 3) := by decide +kernel
theorem dL_fails_184 : decode cL_fails 184 = .ok (.iconst 0, 1) := by decide +kernel
theorem dL_fails_185 : decode cL_fails 185 = .ok (.istore 4, 2) := by decide +kernel
theorem dL_fails_187 : decode cL_fails 187 = .ok (.iload 4, 2) := by decide +kernel
theorem dL_fails_189 : decode cL_fails 189 = .ok (.ifCond .eq 94, 3) := by decide +kernel
theorem dL_fails_192 : decode cL_fails 192 = .ok (.aload_n 0, 1) := by decide +kernel
theorem dL_fails_193 : decode cL_fails 193 = .ok (.invokevirtual 67, 3) := by decide +kernel
theorem dL_fails_196 : decode cL_fails 196 = .ok (.ifCond .ne 44, 3) := by decide +kernel
theorem dL_fails_199 : decode cL_fails 199 = .ok (.aload_n 0, 1) := by decide +kernel
theorem dL_fails_200 : decode cL_fails 200 = .ok (.invokevirtual 70, 3) := by decide +kernel
theorem dL_fails_203 : decode cL_fails 203 = .ok (.bipush (-2), 2) := by decide +kernel
theorem dL_fails_205 : decode cL_fails 205 = .ok (.if_icmp .ne 78, 3) := by decide +kernel
theorem dL_fails_208 : decode cL_fails 208 = .ok (.aload_n 0, 1) := by decide +kernel
theorem dL_fails_209 : decode cL_fails 209 = .ok (.invokevirtual 73, 3) := by decide +kernel
theorem dL_fails_212 : decode cL_fails 212 = .ok (.bipush (-2), 2) := by decide +kernel
theorem dL_fails_214 : decode cL_fails 214 = .ok (.if_icmp .ne 69, 3) := by decide +kernel
theorem dL_fails_217 : decode cL_fails 217 = .ok (.aload_n 0, 1) := by decide +kernel
theorem dL_fails_218 : decode cL_fails 218 = .ok (.iconst 0, 1) := by decide +kernel
theorem dL_fails_219 : decode cL_fails 219 = .ok (.invokevirtual 55, 3) := by decide +kernel
theorem dL_fails_222 : decode cL_fails 222 = .ok (.bipush (-2), 2) := by decide +kernel
theorem dL_fails_224 : decode cL_fails 224 = .ok (.if_icmp .ne 59, 3) := by decide +kernel
theorem dL_fails_227 : decode cL_fails 227 = .ok (.aload_n 0, 1) := by decide +kernel
theorem dL_fails_228 : decode cL_fails 228 = .ok (.iconst 0, 1) := by decide +kernel
theorem dL_fails_229 : decode cL_fails 229 = .ok (.invokevirtual 76, 3) := by decide +kernel
theorem dL_fails_232 : decode cL_fails 232 = .ok (.bipush (-9), 2) := by decide +kernel
theorem dL_fails_234 : decode cL_fails 234 = .ok (.if_icmp .ne 49, 3) := by decide +kernel
theorem dL_fails_237 : decode cL_fails 237 = .ok (.goto 42, 3) := by decide +kernel
theorem dL_fails_240 : decode cL_fails 240 = .ok (.aload_n 0, 1) := by decide +kernel
theorem dL_fails_241 : decode cL_fails 241 = .ok (.invokevirtual 79, 3) := by decide +kernel
theorem dL_fails_244 : decode cL_fails 244 = .ok (.bipush (-2), 2) := by decide +kernel
theorem dL_fails_246 : decode cL_fails 246 = .ok (.if_icmp .ne 37, 3) := by decide +kernel
theorem dL_fails_249 : decode cL_fails 249 = .ok (.aload_n 0, 1) := by decide +kernel
theorem dL_fails_250 : decode cL_fails 250 = .ok (.iconst 1, 1) := by decide +kernel
theorem dL_fails_251 : decode cL_fails 251 = .ok (.invokevirtual 82, 3) := by decide +kernel
theorem dL_fails_254 : decode cL_fails 254 = .ok (.bipush (-2), 2) := by decide +kernel
theorem dL_fails_256 : decode cL_fails 256 = .ok (.if_icmp .ne 27, 3) := by decide +kernel
theorem dL_fails_259 : decode cL_fails 259 = .ok (.aload_n 0, 1) := by decide +kernel
theorem dL_fails_260 : decode cL_fails 260 = .ok (.iconst 0, 1) := by decide +kernel
theorem dL_fails_261 : decode cL_fails 261 = .ok (.invokevirtual 30, 3) := by decide +kernel
theorem dL_fails_264 : decode cL_fails 264 = .ok (.bipush (-2), 2) := by decide +kernel
theorem dL_fails_266 : decode cL_fails 266 = .ok (.if_icmp .ne 17, 3) := by decide +kernel
theorem dL_fails_269 : decode cL_fails 269 = .ok (.aload_n 0, 1) := by decide +kernel
theorem dL_fails_270 : decode cL_fails 270 = .ok (.iconst 5, 1) := by decide +kernel
theorem dL_fails_271 : decode cL_fails 271 = .ok (.invokevirtual 23, 3) := by decide +kernel
theorem dL_fails_274 : decode cL_fails 274 = .ok (.bipush (-2), 2) := by decide +kernel
theorem dL_fails_276 : decode cL_fails 276 = .ok (.if_icmp .ne 7, 3) := by decide +kernel
theorem dL_fails_279 : decode cL_fails 279 = .ok (.iconst 1, 1) := by decide +kernel
theorem dL_fails_280 : decode cL_fails 280 = .ok (.goto 4, 3) := by decide +kernel
theorem dL_fails_283 : decode cL_fails 283 = .ok (.iconst 0, 1) := by decide +kernel
theorem dL_fails_284 : decode cL_fails 284 = .ok (.istore 4, 2) := by decide +kernel
theorem dL_fails_286 : decode cL_fails 286 = .ok (.iload 4, 2) := by decide +kernel
theorem dL_fails_288 : decode cL_fails 288 = .ok (.ifCond .eq 16, 3) := by decide +kernel
theorem dL_fails_291 : decode cL_fails 291 = .ok (.aload_n 0, 1) := by decide +kernel
theorem dL_fails_292 : decode cL_fails 292 = .ok (.invokevirtual 19, 3) := by decide +kernel
theorem dL_fails_295 : decode cL_fails 295 = .ok (.lload_n 2, 1) := by decide +kernel
theorem dL_fails_296 : decode cL_fails 296 = .ok (.lcmp, 1) := by decide +kernel
theorem dL_fails_297 : decode cL_fails 297 = .ok (.ifCond .ne 7, 3) := by decide +kernel
theorem dL_fails_300 : decode cL_fails 300 = .ok (.iconst 1, 1) := by decide +kernel
theorem dL_fails_301 : decode cL_fails 301 = .ok (.goto 4, 3) := by decide +kernel
theorem dL_fails_304 : decode cL_fails 304 = .ok (.iconst 0, 1) := by decide +kernel
theorem dL_fails_305 : decode cL_fails 305 = .ok (.ireturn, 1) := by decide +kernel
theorem dL_sets_0 : decode cL_sets 0 = .ok (.aload_n 0, 1) := by decide +kernel
theorem dL_sets_1 : decode cL_sets 1 = .ok (.invokevirtual 67, 3) := by decide +kernel
theorem dL_sets_4 : decode cL_sets 4 = .ok (.ifCond .ne 5, 3) := by decide +kernel
theorem dL_sets_7 : decode cL_sets 7 = .ok (.iconst 1, 1) := by decide +kernel
theorem dL_sets_8 : decode cL_sets 8 = .ok (.ireturn, 1) := by decide +kernel
theorem dL_sets_9 : decode cL_sets 9 = .ok (.aload_n 0, 1) := by decide +kernel
theorem dL_sets_10 : decode cL_sets 10 = .ok (.iconst 0, 1) := by decide +kernel
theorem dL_sets_11 : decode cL_sets 11 = .ok (.invokevirtual 55, 3) := by decide +kernel
theorem dL_sets_14 : decode cL_sets 14 = .ok (.istore_n 2, 1) := by decide +kernel
theorem dL_sets_15 : decode cL_sets 15 = .ok (.aload_n 0, 1) := by decide +kernel
theorem dL_sets_16 : decode cL_sets 16 = .ok (.iconst 1, 1) := by decide +kernel
theorem dL_sets_17 : decode cL_sets 17 = .ok (.invokevirtual 55, 3) := by decide +kernel
theorem dL_sets_20 : decode cL_sets 20 = .ok (.istore_n 3, 1) := by decide +kernel
theorem dL_sets_21 : decode cL_sets 21 = .ok (.aload_n 0, 1) := by decide +kernel
theorem dL_sets_22 : decode cL_sets 22 = .ok (.iconst 2, 1) := by decide +kernel
theorem dL_sets_23 : decode cL_sets 23 = .ok (.invokevirtual 55, 3) := by decide +kernel
theorem dL_sets_26 : decode cL_sets 26 = .ok (.istore 4, 2) := by decide +kernel
theorem dL_sets_28 : decode cL_sets 28 = .ok (.aload_n 0, 1) := by decide +kernel
theorem dL_sets_29 : decode cL_sets 29 = .ok (.iconst 3, 1) := by decide +kernel
theorem dL_sets_30 : decode cL_sets 30 = .ok (.invokevirtual 55, 3) := by decide +kernel
theorem dL_sets_33 : decode cL_sets 33 = .ok (.istore 5, 2) := by decide +kernel
theorem dL_sets_35 : decode cL_sets 35 = .ok (.iload_n 2, 1) := by decide +kernel
theorem dL_sets_36 : decode cL_sets 36 = .ok (.iload_n 1, 1) := by decide +kernel
theorem dL_sets_37 : decode cL_sets 37 = .ok (.ishr, 1) := by decide +kernel
theorem dL_sets_38 : decode cL_sets 38 = .ok (.ifCond .ne 31, 3) := by decide +kernel
theorem dL_sets_41 : decode cL_sets 41 = .ok (.iload_n 3, 1) := by decide +kernel
theorem dL_sets_42 : decode cL_sets 42 = .ok (.iload_n 2, 1) := by decide +kernel
theorem dL_sets_43 : decode cL_sets 43 = .ok (.iconst (-1), 1) := by decide +kernel
theorem dL_sets_44 : decode cL_sets 44 = .ok (.ixor, 1) := by decide +kernel
theorem dL_sets_45 : decode cL_sets 45 = .ok (.iand, 1) := by decide +kernel
theorem dL_sets_46 : decode cL_sets 46 = .ok (.ifCond .ne 23, 3) := by decide +kernel
theorem dL_sets_49 : decode cL_sets 49 = .ok (.iload 4, 2) := by decide +kernel
theorem dL_sets_51 : decode cL_sets 51 = .ok (.iload_n 3, 1) := by decide +kernel
theorem dL_sets_52 : decode cL_sets 52 = .ok (.iconst (-1), 1) := by decide +kernel
theorem dL_sets_53 : decode cL_sets 53 = .ok (.ixor, 1) := by decide +kernel
theorem dL_sets_54 : decode cL_sets 54 = .ok (.iand, 1) := by decide +kernel
theorem dL_sets_55 : decode cL_sets 55 = .ok (.ifCond .ne 14, 3) := by decide +kernel
theorem dL_sets_58 : decode cL_sets 58 = .ok (.iload 5, 2) := by decide +kernel
theorem dL_sets_60 : decode cL_sets 60 = .ok (.iload_n 2, 1) := by decide +kernel
theorem dL_sets_61 : decode cL_sets 61 = .ok (.iand, 1) := by decide +kernel
theorem dL_sets_62 : decode cL_sets 62 = .ok (.ifCond .ne 7, 3) := by decide +kernel
theorem dL_sets_65 : decode cL_sets 65 = .ok (.iconst 1, 1) := by decide +kernel
theorem dL_sets_66 : decode cL_sets 66 = .ok (.goto 4, 3) := by decide +kernel
theorem dL_sets_69 : decode cL_sets 69 = .ok (.iconst 0, 1) := by decide +kernel
theorem dL_sets_70 : decode cL_sets 70 = .ok (.istore 6, 2) := by decide +kernel
theorem dL_sets_72 : decode cL_sets 72 = .ok (.iconst 0, 1) := by decide +kernel
theorem dL_sets_73 : decode cL_sets 73 = .ok (.istore 7, 2) := by decide +kernel
theorem dL_sets_75 : decode cL_sets 75 = .ok (.iload 7, 2) := by decide +kernel
theorem dL_sets_77 : decode cL_sets 77 = .ok (.iload_n 1, 1) := by decide +kernel
theorem dL_sets_78 : decode cL_sets 78 = .ok (.if_icmp .ge 53, 3) := by decide +kernel
theorem dL_sets_81 : decode cL_sets 81 = .ok (.iload 6, 2) := by decide +kernel
theorem dL_sets_83 : decode cL_sets 83 = .ok (.ifCond .eq 39, 3) := by decide +kernel
theorem dL_sets_86 : decode cL_sets 86 = .ok (.aload_n 0, 1) := by decide +kernel
theorem dL_sets_87 : decode cL_sets 87 = .ok (.iload 7, 2) := by decide +kernel
theorem dL_sets_89 : decode cL_sets 89 = .ok (.invokevirtual 76, 3) := by decide +kernel
theorem dL_sets_92 : decode cL_sets 92 = .ok (.ifCond .lt 7, 3) := by decide +kernel
theorem dL_sets_95 : decode cL_sets 95 = .ok (.iconst 1, 1) := by decide +kernel
theorem dL_sets_96 : decode cL_sets 96 = .ok (.goto 4, 3) := by decide +kernel
theorem dL_sets_99 : decode cL_sets 99 = .ok (.iconst 0, 1) := by decide +kernel
theorem dL_sets_100 : decode cL_sets 100 = .ok (.iload_n 3, 1) := by decide +kernel
theorem dL_sets_101 : decode cL_sets 101 = .ok (.iload 7, 2) := by decide +kernel
theorem dL_sets_103 : decode cL_sets 103 = .ok (.ishr, 1) := by decide +kernel
theorem dL_sets_104 : decode cL_sets 104 = .ok (.iconst 1, 1) := by decide +kernel
theorem dL_sets_105 : decode cL_sets 105 = .ok (.iand, 1) := by decide +kernel
theorem dL_sets_106 : decode cL_sets 106 = .ok (.iconst 1, 1) := by decide +kernel
theorem dL_sets_107 : decode cL_sets 107 = .ok (.if_icmp .ne 7, 3) := by decide +kernel
theorem dL_sets_110 : decode cL_sets 110 = .ok (.iconst 1, 1) := by decide +kernel
theorem dL_sets_111 : decode cL_sets 111 = .ok (.goto 4, 3) := by decide +kernel
theorem dL_sets_114 : decode cL_sets 114 = .ok (.iconst 0, 1) := by decide +kernel
theorem dL_sets_115 : decode cL_sets 115 = .ok (.if_icmp .ne 7, 3) := by decide +kernel
theorem dL_sets_118 : decode cL_sets 118 = .ok (.iconst 1, 1) := by decide +kernel
theorem dL_sets_119 : decode cL_sets 119 = .ok (.goto 4, 3) := by decide +kernel
theorem dL_sets_122 : decode cL_sets 122 = .ok (.iconst 0, 1) := by decide +kernel
theorem dL_sets_123 : decode cL_sets 123 = .ok (.istore 6, 2) := by decide +kernel
theorem dL_sets_125 : decode cL_sets 125 = .ok (.iinc 7 1, 3) := by decide +kernel
theorem dL_sets_128 : decode cL_sets 128 = .ok (.goto (-53), 3) := by decide +kernel
theorem dL_sets_131 : decode cL_sets 131 = .ok (.iload 6, 2) := by decide +kernel
theorem dL_sets_133 : decode cL_sets 133 = .ok (.ifCond .eq 28, 3) := by decide +kernel
theorem dL_sets_136 : decode cL_sets 136 = .ok (.aload_n 0, 1) := by decide +kernel
theorem dL_sets_137 : decode cL_sets 137 = .ok (.invokevirtual 67, 3) := by decide +kernel
theorem dL_sets_140 : decode cL_sets 140 = .ok (.iconst 1, 1) := by decide +kernel
theorem dL_sets_141 : decode cL_sets 141 = .ok (.if_icmp .ne 11, 3) := by decide +kernel
theorem dL_sets_144 : decode cL_sets 144 = .ok (.iload 4, 2) := by decide +kernel
theorem dL_sets_146 : decode cL_sets 146 = .ok (.ifCond .ne 15, 3) := by decide +kernel
theorem dL_sets_149 : decode cL_sets 149 = .ok (.goto 8, 3) := by decide +kernel
theorem dL_sets_152 : decode cL_sets 152 = .ok (.iload_n 3, 1) := by decide +kernel
theorem dL_sets_153 : decode cL_sets 153 = .ok (.iload_n 2, 1) := by decide +kernel
theorem dL_sets_154 : decode cL_sets 154 = .ok (.if_icmp .ne 7, 3) := by decide +kernel
theorem dL_sets_157 : decode cL_sets 157 = .ok (.iconst 1, 1) := by decide +kernel
theorem dL_sets_158 : decode cL_sets 158 = .ok (.goto 4, 3) := by decide +kernel
theorem dL_sets_161 : decode cL_sets 161 = .ok (.iconst 0, 1) := by decide +kernel
theorem dL_sets_162 : decode cL_sets 162 = .ok (.ireturn, 1) := by decide +kernel
theorem dL_accounts_0 : decode cL_accounts 0 = .ok (.aload_n 0, 1) := by decide +kernel
theorem dL_accounts_1 : decode cL_accounts 1 = .ok (.invokevirtual 85, 3) := by decide +kernel
theorem dL_accounts_4 : decode cL_accounts 4 = .ok (.istore 4, 2) := by decide +kernel
theorem dL_accounts_6 : decode cL_accounts 6 = .ok (.iconst 0, 1) := by decide +kernel
theorem dL_accounts_7 : decode cL_accounts 7 = .ok (.istore 5, 2) := by decide +kernel
theorem dL_accounts_9 : decode cL_accounts 9 = .ok (.iload 5, 2) := by decide +kernel
theorem dL_accounts_11 : decode cL_accounts 11 = .ok (.iload_n 1, 1) := by decide +kernel
theorem dL_accounts_12 : decode cL_accounts 12 = .ok (.if_icmp .ge 61, 3) := by decide +kernel
theorem dL_accounts_15 : decode cL_accounts 15 = .ok (.aload_n 0, 1) := by decide +kernel
theorem dL_accounts_16 : decode cL_accounts 16 = .ok (.iload 5, 2) := by decide +kernel
theorem dL_accounts_18 : decode cL_accounts 18 = .ok (.iconst 4, 1) := by decide +kernel
theorem dL_accounts_19 : decode cL_accounts 19 = .ok (.invokevirtual 15, 3) := by decide +kernel
theorem dL_accounts_22 : decode cL_accounts 22 = .ok (.istore 6, 2) := by decide +kernel
theorem dL_accounts_24 : decode cL_accounts 24 = .ok (.aload_n 0, 1) := by decide +kernel
theorem dL_accounts_25 : decode cL_accounts 25 = .ok (.iload 5, 2) := by decide +kernel
theorem dL_accounts_27 : decode cL_accounts 27 = .ok (.iconst 0, 1) := by decide +kernel
theorem dL_accounts_28 : decode cL_accounts 28 = .ok (.invokevirtual 15, 3) := by decide +kernel
theorem dL_accounts_31 : decode cL_accounts 31 = .ok (.ifCond .lt 34, 3) := by decide +kernel
theorem dL_accounts_34 : decode cL_accounts 34 = .ok (.aload_n 0, 1) := by decide +kernel
theorem dL_accounts_35 : decode cL_accounts 35 = .ok (.iload 5, 2) := by decide +kernel
theorem dL_accounts_37 : decode cL_accounts 37 = .ok (.iconst 1, 1) := by decide +kernel
theorem dL_accounts_38 : decode cL_accounts 38 = .ok (.invokevirtual 15, 3) := by decide +kernel
theorem dL_accounts_41 : decode cL_accounts 41 = .ok (.aload_n 0, 1) := by decide +kernel
theorem dL_accounts_42 : decode cL_accounts 42 = .ok (.iload 5, 2) := by decide +kernel
theorem dL_accounts_44 : decode cL_accounts 44 = .ok (.iconst 2, 1) := by decide +kernel
theorem dL_accounts_45 : decode cL_accounts 45 = .ok (.invokevirtual 15, 3) := by decide +kernel
theorem dL_accounts_48 : decode cL_accounts 48 = .ok (.iadd, 1) := by decide +kernel
theorem dL_accounts_49 : decode cL_accounts 49 = .ok (.iload 4, 2) := by decide +kernel
theorem dL_accounts_51 : decode cL_accounts 51 = .ok (.if_icmp .gt 14, 3) := by decide +kernel
theorem dL_accounts_54 : decode cL_accounts 54 = .ok (.iload 6, 2) := by decide +kernel
theorem dL_accounts_56 : decode cL_accounts 56 = .ok (.ifCond .lt 9, 3) := by decide +kernel
theorem dL_accounts_59 : decode cL_accounts 59 = .ok (.iload 6, 2) := by decide +kernel
theorem dL_accounts_61 : decode cL_accounts 61 = .ok (.iconst 3, 1) := by decide +kernel
theorem dL_accounts_62 : decode cL_accounts 62 = .ok (.if_icmp .le 5, 3) := by decide +kernel
theorem dL_accounts_65 : decode cL_accounts 65 = .ok (.iconst 0, 1) := by decide +kernel
theorem dL_accounts_66 : decode cL_accounts 66 = .ok (.ireturn, 1) := by decide +kernel
theorem dL_accounts_67 : decode cL_accounts 67 = .ok (.iinc 5 1, 3) := by decide +kernel
theorem dL_accounts_70 : decode cL_accounts 70 = .ok (.goto (-61), 3) := by decide +kernel
theorem dL_accounts_73 : decode cL_accounts 73 = .ok (.aload_n 0, 1) := by decide +kernel
theorem dL_accounts_74 : decode cL_accounts 74 = .ok (.iload_n 1, 1) := by decide +kernel
theorem dL_accounts_75 : decode cL_accounts 75 = .ok (.invokestatic 88, 3) := by decide +kernel
theorem dL_accounts_78 : decode cL_accounts 78 = .ok (.lload_n 2, 1) := by decide +kernel
theorem dL_accounts_79 : decode cL_accounts 79 = .ok (.lcmp, 1) := by decide +kernel
theorem dL_accounts_80 : decode cL_accounts 80 = .ok (.ifCond .ne 73, 3) := by decide +kernel
theorem dL_accounts_83 : decode cL_accounts 83 = .ok (.aload_n 0, 1) := by decide +kernel
theorem dL_accounts_84 : decode cL_accounts 84 = .ok (.invokevirtual 9, 3) := by decide +kernel
theorem dL_accounts_87 : decode cL_accounts 87 = .ok (.ifCond .lt 66, 3) := by decide +kernel
theorem dL_accounts_90 : decode cL_accounts 90 = .ok (.aload_n 0, 1) := by decide +kernel
theorem dL_accounts_91 : decode cL_accounts 91 = .ok (.iconst 0, 1) := by decide +kernel
theorem dL_accounts_92 : decode cL_accounts 92 = .ok (.invokevirtual 94, 3) := by decide +kernel
theorem dL_accounts_95 : decode cL_accounts 95 = .ok (.aload_n 0, 1) := by decide +kernel
theorem dL_accounts_96 : decode cL_accounts 96 = .ok (.iconst 1, 1) := by decide +kernel
theorem dL_accounts_97 : decode cL_accounts 97 = .ok (.invokevirtual 94, 3) := by decide +kernel
theorem dL_accounts_100 : decode cL_accounts 100 = .ok (.iadd, 1) := by decide +kernel
theorem dL_accounts_101 : decode cL_accounts 101 = .ok (.iload 4, 2) := by decide +kernel
theorem dL_accounts_103 : decode cL_accounts 103 = .ok (.if_icmp .gt 50, 3) := by decide +kernel
theorem dL_accounts_106 : decode cL_accounts 106 = .ok (.aload_n 0, 1) := by decide +kernel
theorem dL_accounts_107 : decode cL_accounts 107 = .ok (.invokevirtual 97, 3) := by decide +kernel
theorem dL_accounts_110 : decode cL_accounts 110 = .ok (.iload 4, 2) := by decide +kernel
theorem dL_accounts_112 : decode cL_accounts 112 = .ok (.if_icmp .gt 41, 3) := by decide +kernel
theorem dL_accounts_115 : decode cL_accounts 115 = .ok (.aload_n 0, 1) := by decide +kernel
theorem dL_accounts_116 : decode cL_accounts 116 = .ok (.invokevirtual 97, 3) := by decide +kernel
theorem dL_accounts_119 : decode cL_accounts 119 = .ok (.ifCond .le 7, 3) := by decide +kernel
theorem dL_accounts_122 : decode cL_accounts 122 = .ok (.iconst 1, 1) := by decide +kernel
theorem dL_accounts_123 : decode cL_accounts 123 = .ok (.goto 4, 3) := by decide +kernel
theorem dL_accounts_126 : decode cL_accounts 126 = .ok (.iconst 0, 1) := by decide +kernel
theorem dL_accounts_127 : decode cL_accounts 127 = .ok (.aload_n 0, 1) := by decide +kernel
theorem dL_accounts_128 : decode cL_accounts 128 = .ok (.iconst 0, 1) := by decide +kernel
theorem dL_accounts_129 : decode cL_accounts 129 = .ok (.invokevirtual 94, 3) := by decide +kernel
theorem dL_accounts_132 : decode cL_accounts 132 = .ok (.aload_n 0, 1) := by decide +kernel
theorem dL_accounts_133 : decode cL_accounts 133 = .ok (.iconst 1, 1) := by decide +kernel
theorem dL_accounts_134 : decode cL_accounts 134 = .ok (.invokevirtual 94, 3) := by decide +kernel
theorem dL_accounts_137 : decode cL_accounts 137 = .ok (.iadd, 1) := by decide +kernel
theorem dL_accounts_138 : decode cL_accounts 138 = .ok (.ifCond .le 7, 3) := by decide +kernel
theorem dL_accounts_141 : decode cL_accounts 141 = .ok (.iconst 1, 1) := by decide +kernel
theorem dL_accounts_142 : decode cL_accounts 142 = .ok (.goto 4, 3) := by decide +kernel
theorem dL_accounts_145 : decode cL_accounts 145 = .ok (.iconst 0, 1) := by decide +kernel
theorem dL_accounts_146 : decode cL_accounts 146 = .ok (.if_icmp .ne 7, 3) := by decide +kernel
theorem dL_accounts_149 : decode cL_accounts 149 = .ok (.iconst 1, 1) := by decide +kernel
theorem dL_accounts_150 : decode cL_accounts 150 = .ok (.goto 4, 3) := by decide +kernel
theorem dL_accounts_153 : decode cL_accounts 153 = .ok (.iconst 0, 1) := by decide +kernel
theorem dL_accounts_154 : decode cL_accounts 154 = .ok (.ireturn, 1) := by decide +kernel
theorem dL_coalitions_0 : decode cL_coalitions 0 = .ok (.aload_n 0, 1) := by decide +kernel
theorem dL_coalitions_1 : decode cL_coalitions 1 = .ok (.invokevirtual 67, 3) := by decide +kernel
theorem dL_coalitions_4 : decode cL_coalitions 4 = .ok (.iconst 2, 1) := by decide +kernel
theorem dL_coalitions_5 : decode cL_coalitions 5 = .ok (.if_icmp .eq 41, 3) := by decide +kernel
theorem dL_coalitions_8 : decode cL_coalitions 8 = .ok (.aload_n 0, 1) := by decide +kernel
theorem dL_coalitions_9 : decode cL_coalitions 9 = .ok (.iconst 0, 1) := by decide +kernel
theorem dL_coalitions_10 : decode cL_coalitions 10 = .ok (.invokevirtual 58, 3) := by decide +kernel
theorem dL_coalitions_13 : decode cL_coalitions 13 = .ok (.bipush (-2), 2) := by decide +kernel
theorem dL_coalitions_15 : decode cL_coalitions 15 = .ok (.if_icmp .ne 29, 3) := by decide +kernel
theorem dL_coalitions_18 : decode cL_coalitions 18 = .ok (.aload_n 0, 1) := by decide +kernel
theorem dL_coalitions_19 : decode cL_coalitions 19 = .ok (.iconst 0, 1) := by decide +kernel
theorem dL_coalitions_20 : decode cL_coalitions 20 = .ok (.iconst 0, 1) := by decide +kernel
theorem dL_coalitions_21 : decode cL_coalitions 21 = .ok (.invokevirtual 64, 3) := by decide +kernel
theorem dL_coalitions_24 : decode cL_coalitions 24 = .ok (.bipush (-2), 2) := by decide +kernel
theorem dL_coalitions_26 : decode cL_coalitions 26 = .ok (.if_icmp .ne 18, 3) := by decide +kernel
theorem dL_coalitions_29 : decode cL_coalitions 29 = .ok (.aload_n 0, 1) := by decide +kernel
theorem dL_coalitions_30 : decode cL_coalitions 30 = .ok (.iconst 0, 1) := by decide +kernel
theorem dL_coalitions_31 : decode cL_coalitions 31 = .ok (.iconst 1, 1) := by decide +kernel
theorem dL_coalitions_32 : decode cL_coalitions 32 = .ok (.invokevirtual 61, 3) := by decide +kernel
theorem dL_coalitions_35 : decode cL_coalitions 35 = .ok (.bipush (-2), 2) := by decide +kernel
theorem dL_coalitions_37 : decode cL_coalitions 37 = .ok (.if_icmp .ne 7, 3) := by decide +kernel
theorem dL_coalitions_40 : decode cL_coalitions 40 = .ok (.iconst 1, 1) := by decide +kernel
theorem dL_coalitions_41 : decode cL_coalitions 41 = .ok (.goto 4, 3) := by decide +kernel
theorem dL_coalitions_44 : decode cL_coalitions 44 = .ok (.iconst 0, 1) := by decide +kernel
theorem dL_coalitions_45 : decode cL_coalitions 45 = .ok (.ireturn, 1) := by decide +kernel
theorem dL_coalitions_46 : decode cL_coalitions 46 = .ok (.aload_n 0, 1) := by decide +kernel
theorem dL_coalitions_47 : decode cL_coalitions 47 = .ok (.iconst 0, 1) := by decide +kernel
theorem dL_coalitions_48 : decode cL_coalitions 48 = .ok (.invokevirtual 55, 3) := by decide +kernel
theorem dL_coalitions_51 : decode cL_coalitions 51 = .ok (.aload_n 0, 1) := by decide +kernel
theorem dL_coalitions_52 : decode cL_coalitions 52 = .ok (.iconst 2, 1) := by decide +kernel
theorem dL_coalitions_53 : decode cL_coalitions 53 = .ok (.invokevirtual 55, 3) := by decide +kernel
theorem dL_coalitions_56 : decode cL_coalitions 56 = .ok (.iconst (-1), 1) := by decide +kernel
theorem dL_coalitions_57 : decode cL_coalitions 57 = .ok (.ixor, 1) := by decide +kernel
theorem dL_coalitions_58 : decode cL_coalitions 58 = .ok (.iand, 1) := by decide +kernel
theorem dL_coalitions_59 : decode cL_coalitions 59 = .ok (.istore_n 2, 1) := by decide +kernel
theorem dL_coalitions_60 : decode cL_coalitions 60 = .ok (.iload_n 2, 1) := by decide +kernel
theorem dL_coalitions_61 : decode cL_coalitions 61 = .ok (.iload_n 1, 1) := by decide +kernel
theorem dL_coalitions_62 : decode cL_coalitions 62 = .ok (.iand, 1) := by decide +kernel
theorem dL_coalitions_63 : decode cL_coalitions 63 = .ok (.istore_n 3, 1) := by decide +kernel
theorem dL_coalitions_64 : decode cL_coalitions 64 = .ok (.aload_n 0, 1) := by decide +kernel
theorem dL_coalitions_65 : decode cL_coalitions 65 = .ok (.iload_n 3, 1) := by decide +kernel
theorem dL_coalitions_66 : decode cL_coalitions 66 = .ok (.invokevirtual 58, 3) := by decide +kernel
theorem dL_coalitions_69 : decode cL_coalitions 69 = .ok (.istore 4, 2) := by decide +kernel
theorem dL_coalitions_71 : decode cL_coalitions 71 = .ok (.aload_n 0, 1) := by decide +kernel
theorem dL_coalitions_72 : decode cL_coalitions 72 = .ok (.iload_n 3, 1) := by decide +kernel
theorem dL_coalitions_73 : decode cL_coalitions 73 = .ok (.iconst 0, 1) := by decide +kernel
theorem dL_coalitions_74 : decode cL_coalitions 74 = .ok (.invokevirtual 64, 3) := by decide +kernel
theorem dL_coalitions_77 : decode cL_coalitions 77 = .ok (.istore 5, 2) := by decide +kernel
theorem dL_coalitions_79 : decode cL_coalitions 79 = .ok (.aload_n 0, 1) := by decide +kernel
theorem dL_coalitions_80 : decode cL_coalitions 80 = .ok (.iload_n 3, 1) := by decide +kernel
theorem dL_coalitions_81 : decode cL_coalitions 81 = .ok (.iconst 1, 1) := by decide +kernel
theorem dL_coalitions_82 : decode cL_coalitions 82 = .ok (.invokevirtual 64, 3) := by decide +kernel
theorem dL_coalitions_85 : decode cL_coalitions 85 = .ok (.istore 6, 2) := by decide +kernel
theorem dL_coalitions_87 : decode cL_coalitions 87 = .ok (.iconst 1, 1) := by decide +kernel
theorem dL_coalitions_88 : decode cL_coalitions 88 = .ok (.istore 7, 2) := by decide +kernel
theorem dL_coalitions_90 : decode cL_coalitions 90 = .ok (.iconst 0, 1) := by decide +kernel
theorem dL_coalitions_91 : decode cL_coalitions 91 = .ok (.istore 8, 2) := by decide +kernel
theorem dL_coalitions_93 : decode cL_coalitions 93 = .ok (.iconst 0, 1) := by decide +kernel
theorem dL_coalitions_94 : decode cL_coalitions 94 = .ok (.istore 9, 2) := by decide +kernel
theorem dL_coalitions_96 : decode cL_coalitions 96 = .ok (.iload 9, 2) := by decide +kernel
theorem dL_coalitions_98 : decode cL_coalitions 98 = .ok (.bipush 8, 2) := by decide +kernel
theorem dL_coalitions_100 : decode cL_coalitions 100 = .ok (.if_icmp .ge 49, 3) := by decide +kernel
theorem dL_coalitions_103 : decode cL_coalitions 103 = .ok (.iload_n 3, 1) := by decide +kernel
theorem dL_coalitions_104 : decode cL_coalitions 104 = .ok (.iload 9, 2) := by decide +kernel
theorem dL_coalitions_106 : decode cL_coalitions 106 = .ok (.ishr, 1) := by decide +kernel
theorem dL_coalitions_107 : decode cL_coalitions 107 = .ok (.iconst 1, 1) := by decide +kernel
theorem dL_coalitions_108 : decode cL_coalitions 108 = .ok (.iand, 1) := by decide +kernel
theorem dL_coalitions_109 : decode cL_coalitions 109 = .ok (.iconst 1, 1) := by decide +kernel
theorem dL_coalitions_110 : decode cL_coalitions 110 = .ok (.if_icmp .ne 10, 3) := by decide +kernel
theorem dL_coalitions_113 : decode cL_coalitions 113 = .ok (.iconst 2, 1) := by decide +kernel
theorem dL_coalitions_114 : decode cL_coalitions 114 = .ok (.iload 7, 2) := by decide +kernel
theorem dL_coalitions_116 : decode cL_coalitions 116 = .ok (.imul, 1) := by decide +kernel
theorem dL_coalitions_117 : decode cL_coalitions 117 = .ok (.goto 5, 3) := by decide +kernel
theorem dL_coalitions_120 : decode cL_coalitions 120 = .ok (.iload 7, 2) := by decide +kernel
theorem dL_coalitions_122 : decode cL_coalitions 122 = .ok (.istore 7, 2) := by decide +kernel
theorem dL_coalitions_124 : decode cL_coalitions 124 = .ok (.iload 8, 2) := by decide +kernel
theorem dL_coalitions_126 : decode cL_coalitions 126 = .ok (.aload_n 0, 1) := by decide +kernel
theorem dL_coalitions_127 : decode cL_coalitions 127 = .ok (.iconst 0, 1) := by decide +kernel
theorem dL_coalitions_128 : decode cL_coalitions 128 = .ok (.invokevirtual 55, 3) := by decide +kernel
theorem dL_coalitions_131 : decode cL_coalitions 131 = .ok (.iload_n 3, 1) := by decide +kernel
theorem dL_coalitions_132 : decode cL_coalitions 132 = .ok (.iconst (-1), 1) := by decide +kernel
theorem dL_coalitions_133 : decode cL_coalitions 133 = .ok (.ixor, 1) := by decide +kernel
theorem dL_coalitions_134 : decode cL_coalitions 134 = .ok (.iand, 1) := by decide +kernel
theorem dL_coalitions_135 : decode cL_coalitions 135 = .ok (.iload 9, 2) := by decide +kernel
theorem dL_coalitions_137 : decode cL_coalitions 137 = .ok (.ishr, 1) := by decide +kernel
theorem dL_coalitions_138 : decode cL_coalitions 138 = .ok (.iconst 1, 1) := by decide +kernel
theorem dL_coalitions_139 : decode cL_coalitions 139 = .ok (.iand, 1) := by decide +kernel
theorem dL_coalitions_140 : decode cL_coalitions 140 = .ok (.iadd, 1) := by decide +kernel
theorem dL_coalitions_141 : decode cL_coalitions 141 = .ok (.istore 8, 2) := by decide +kernel
theorem dL_coalitions_143 : decode cL_coalitions 143 = .ok (.iinc 9 1, 3) := by decide +kernel
theorem dL_coalitions_146 : decode cL_coalitions 146 = .ok (.goto (-50), 3) := by decide +kernel
theorem dL_coalitions_149 : decode cL_coalitions 149 = .ok (.iload 4, 2) := by decide +kernel
theorem dL_coalitions_151 : decode cL_coalitions 151 = .ok (.iconst 1, 1) := by decide +kernel
theorem dL_coalitions_152 : decode cL_coalitions 152 = .ok (.if_icmp .lt 44, 3) := by decide +kernel
theorem dL_coalitions_155 : decode cL_coalitions 155 = .ok (.iload 4, 2) := by decide +kernel
theorem dL_coalitions_157 : decode cL_coalitions 157 = .ok (.iload 7, 2) := by decide +kernel
theorem dL_coalitions_159 : decode cL_coalitions 159 = .ok (.if_icmp .gt 37, 3) := by decide +kernel
theorem dL_coalitions_162 : decode cL_coalitions 162 = .ok (.iload 5, 2) := by decide +kernel
theorem dL_coalitions_164 : decode cL_coalitions 164 = .ok (.iload 6, 2) := by decide +kernel
theorem dL_coalitions_166 : decode cL_coalitions 166 = .ok (.iadd, 1) := by decide +kernel
theorem dL_coalitions_167 : decode cL_coalitions 167 = .ok (.iload 4, 2) := by decide +kernel
theorem dL_coalitions_169 : decode cL_coalitions 169 = .ok (.if_icmp .gt 27, 3) := by decide +kernel
theorem dL_coalitions_172 : decode cL_coalitions 172 = .ok (.iload 5, 2) := by decide +kernel
theorem dL_coalitions_174 : decode cL_coalitions 174 = .ok (.ifCond .lt 22, 3) := by decide +kernel
theorem dL_coalitions_177 : decode cL_coalitions 177 = .ok (.iload 6, 2) := by decide +kernel
theorem dL_coalitions_179 : decode cL_coalitions 179 = .ok (.ifCond .lt 17, 3) := by decide +kernel
theorem dL_coalitions_182 : decode cL_coalitions 182 = .ok (.iload 5, 2) := by decide +kernel
theorem dL_coalitions_184 : decode cL_coalitions 184 = .ok (.iload 6, 2) := by decide +kernel
theorem dL_coalitions_186 : decode cL_coalitions 186 = .ok (.iadd, 1) := by decide +kernel
theorem dL_coalitions_187 : decode cL_coalitions 187 = .ok (.ifCond .ne 11, 3) := by decide +kernel
theorem dL_coalitions_190 : decode cL_coalitions 190 = .ok (.iload 4, 2) := by decide +kernel
theorem dL_coalitions_192 : decode cL_coalitions 192 = .ok (.iconst 1, 1) := by decide +kernel
theorem dL_coalitions_193 : decode cL_coalitions 193 = .ok (.if_icmp .eq 5, 3) := by decide +kernel
theorem dL_coalitions_196 : decode cL_coalitions 196 = .ok (.iconst 0, 1) := by decide +kernel
theorem dL_coalitions_197 : decode cL_coalitions 197 = .ok (.ireturn, 1) := by decide +kernel
theorem dL_coalitions_198 : decode cL_coalitions 198 = .ok (.aload_n 0, 1) := by decide +kernel
theorem dL_coalitions_199 : decode cL_coalitions 199 = .ok (.iload_n 3, 1) := by decide +kernel
theorem dL_coalitions_200 : decode cL_coalitions 200 = .ok (.iconst 1, 1) := by decide +kernel
theorem dL_coalitions_201 : decode cL_coalitions 201 = .ok (.invokevirtual 61, 3) := by decide +kernel
theorem dL_coalitions_204 : decode cL_coalitions 204 = .ok (.istore 9, 2) := by decide +kernel
theorem dL_coalitions_206 : decode cL_coalitions 206 = .ok (.iload 8, 2) := by decide +kernel
theorem dL_coalitions_208 : decode cL_coalitions 208 = .ok (.bipush 12, 2) := by decide +kernel
theorem dL_coalitions_210 : decode cL_coalitions 210 = .ok (.if_icmp .le 18, 3) := by decide +kernel
theorem dL_coalitions_213 : decode cL_coalitions 213 = .ok (.iload 9, 2) := by decide +kernel
theorem dL_coalitions_215 : decode cL_coalitions 215 = .ok (.bipush (-3), 2) := by decide +kernel
theorem dL_coalitions_217 : decode cL_coalitions 217 = .ok (.if_icmp .ne 7, 3) := by decide +kernel
theorem dL_coalitions_220 : decode cL_coalitions 220 = .ok (.iconst 1, 1) := by decide +kernel
theorem dL_coalitions_221 : decode cL_coalitions 221 = .ok (.goto 26, 3) := by decide +kernel
theorem dL_coalitions_224 : decode cL_coalitions 224 = .ok (.iconst 0, 1) := by decide +kernel
theorem dL_coalitions_225 : decode cL_coalitions 225 = .ok (.goto 22, 3) := by decide +kernel
theorem dL_coalitions_228 : decode cL_coalitions 228 = .ok (.iload 9, 2) := by decide +kernel
theorem dL_coalitions_230 : decode cL_coalitions 230 = .ok (.ifCond .lt 16, 3) := by decide +kernel
theorem dL_coalitions_233 : decode cL_coalitions 233 = .ok (.iload 9, 2) := by decide +kernel
theorem dL_coalitions_235 : decode cL_coalitions 235 = .ok (.iconst 1, 1) := by decide +kernel
theorem dL_coalitions_236 : decode cL_coalitions 236 = .ok (.iload 8, 2) := by decide +kernel
theorem dL_coalitions_238 : decode cL_coalitions 238 = .ok (.ishl, 1) := by decide +kernel
theorem dL_coalitions_239 : decode cL_coalitions 239 = .ok (.if_icmp .gt 7, 3) := by decide +kernel
theorem dL_coalitions_242 : decode cL_coalitions 242 = .ok (.iconst 1, 1) := by decide +kernel
theorem dL_coalitions_243 : decode cL_coalitions 243 = .ok (.goto 4, 3) := by decide +kernel
theorem dL_coalitions_246 : decode cL_coalitions 246 = .ok (.iconst 0, 1) := by decide +kernel
theorem dL_coalitions_247 : decode cL_coalitions 247 = .ok (.ireturn, 1) := by decide +kernel
theorem dL_plays_0 : decode cL_plays 0 = .ok (.aload_n 0, 1) := by decide +kernel
theorem dL_plays_1 : decode cL_plays 1 = .ok (.invokevirtual 19, 3) := by decide +kernel
theorem dL_plays_4 : decode cL_plays 4 = .ok (.lstore_n 2, 1) := by decide +kernel
theorem dL_plays_5 : decode cL_plays 5 = .ok (.aload_n 0, 1) := by decide +kernel
theorem dL_plays_6 : decode cL_plays 6 = .ok (.invokevirtual 85, 3) := by decide +kernel
theorem dL_plays_9 : decode cL_plays 9 = .ok (.istore 4, 2) := by decide +kernel
theorem dL_plays_11 : decode cL_plays 11 = .ok (.aload_n 0, 1) := by decide +kernel
theorem dL_plays_12 : decode cL_plays 12 = .ok (.iload_n 1, 1) := by decide +kernel
theorem dL_plays_13 : decode cL_plays 13 = .ok (.invokevirtual 82, 3) := by decide +kernel
theorem dL_plays_16 : decode cL_plays 16 = .ok (.istore 5, 2) := by decide +kernel
theorem dL_plays_18 : decode cL_plays 18 = .ok (.iload 5, 2) := by decide +kernel
theorem dL_plays_20 : decode cL_plays 20 = .ok (.bipush (-2), 2) := by decide +kernel
theorem dL_plays_22 : decode cL_plays 22 = .ok (.if_icmp .ne 18, 3) := by decide +kernel
theorem dL_plays_25 : decode cL_plays 25 = .ok (.aload_n 0, 1) := by decide +kernel
theorem dL_plays_26 : decode cL_plays 26 = .ok (.invokevirtual 19, 3) := by decide +kernel
theorem dL_plays_29 : decode cL_plays 29 = .ok (.lload_n 2, 1) := by decide +kernel
theorem dL_plays_30 : decode cL_plays 30 = .ok (.lcmp, 1) := by decide +kernel
theorem dL_plays_31 : decode cL_plays 31 = .ok (.ifCond .ne 7, 3) := by decide +kernel
theorem dL_plays_34 : decode cL_plays 34 = .ok (.iconst 1, 1) := by decide +kernel
theorem dL_plays_35 : decode cL_plays 35 = .ok (.goto 4, 3) := by decide +kernel
theorem dL_plays_38 : decode cL_plays 38 = .ok (.iconst 0, 1) := by decide +kernel
theorem dL_plays_39 : decode cL_plays 39 = .ok (.ireturn, 1) := by decide +kernel
theorem dL_plays_40 : decode cL_plays 40 = .ok (.aload_n 0, 1) := by decide +kernel
theorem dL_plays_41 : decode cL_plays 41 = .ok (.invokevirtual 19, 3) := by decide +kernel
theorem dL_plays_44 : decode cL_plays 44 = .ok (.lstore 6, 2) := by decide +kernel
theorem dL_plays_46 : decode cL_plays 46 = .ok (.aload_n 0, 1) := by decide +kernel
theorem dL_plays_47 : decode cL_plays 47 = .ok (.invokevirtual 67, 3) := by decide +kernel
theorem dL_plays_50 : decode cL_plays 50 = .ok (.ifCond .ne 44, 3) := by decide +kernel
theorem dL_plays_53 : decode cL_plays 53 = .ok (.aload_n 0, 1) := by decide +kernel
theorem dL_plays_54 : decode cL_plays 54 = .ok (.invokevirtual 85, 3) := by decide +kernel
theorem dL_plays_57 : decode cL_plays 57 = .ok (.iload 4, 2) := by decide +kernel
theorem dL_plays_59 : decode cL_plays 59 = .ok (.iconst 1, 1) := by decide +kernel
theorem dL_plays_60 : decode cL_plays 60 = .ok (.iadd, 1) := by decide +kernel
theorem dL_plays_61 : decode cL_plays 61 = .ok (.if_icmp .ne 33, 3) := by decide +kernel
theorem dL_plays_64 : decode cL_plays 64 = .ok (.aload_n 0, 1) := by decide +kernel
theorem dL_plays_65 : decode cL_plays 65 = .ok (.iload 4, 2) := by decide +kernel
theorem dL_plays_67 : decode cL_plays 67 = .ok (.iconst 0, 1) := by decide +kernel
theorem dL_plays_68 : decode cL_plays 68 = .ok (.invokevirtual 100, 3) := by decide +kernel
theorem dL_plays_71 : decode cL_plays 71 = .ok (.iload 5, 2) := by decide +kernel
theorem dL_plays_73 : decode cL_plays 73 = .ok (.if_icmp .ne 21, 3) := by decide +kernel
theorem dL_plays_76 : decode cL_plays 76 = .ok (.iload 5, 2) := by decide +kernel
theorem dL_plays_78 : decode cL_plays 78 = .ok (.ifCond .lt 18, 3) := by decide +kernel
theorem dL_plays_81 : decode cL_plays 81 = .ok (.aload_n 0, 1) := by decide +kernel
theorem dL_plays_82 : decode cL_plays 82 = .ok (.iload 4, 2) := by decide +kernel
theorem dL_plays_84 : decode cL_plays 84 = .ok (.invokevirtual 103, 3) := by decide +kernel
theorem dL_plays_87 : decode cL_plays 87 = .ok (.iconst 1, 1) := by decide +kernel
theorem dL_plays_88 : decode cL_plays 88 = .ok (.iand, 1) := by decide +kernel
theorem dL_plays_89 : decode cL_plays 89 = .ok (.iload 5, 2) := by decide +kernel
theorem dL_plays_91 : decode cL_plays 91 = .ok (.if_icmp .eq 5, 3) := by decide +kernel
theorem dL_plays_94 : decode cL_plays 94 = .ok (.iconst 0, 1) := by decide +kernel
theorem dL_plays_95 : decode cL_plays 95 = .ok (.ireturn, 1) := by decide +kernel
theorem dL_plays_96 : decode cL_plays 96 = .ok (.aload_n 0, 1) := by decide +kernel
theorem dL_plays_97 : decode cL_plays 97 = .ok (.invokevirtual 106, 3) := by decide +kernel
theorem dL_plays_100 : decode cL_plays 100 = .ok (.ifCond .lt 36, 3) := by decide +kernel
theorem dL_plays_103 : decode cL_plays 103 = .ok (.aload_n 0, 1) := by decide +kernel
theorem dL_plays_104 : decode cL_plays 104 = .ok (.invokevirtual 19, 3) := by decide +kernel
theorem dL_plays_107 : decode cL_plays 107 = .ok (.lload_n 2, 1) := by decide +kernel
theorem dL_plays_108 : decode cL_plays 108 = .ok (.lcmp, 1) := by decide +kernel
theorem dL_plays_109 : decode cL_plays 109 = .ok (.ifCond .ne 27, 3) := by decide +kernel
theorem dL_plays_112 : decode cL_plays 112 = .ok (.aload_n 0, 1) := by decide +kernel
theorem dL_plays_113 : decode cL_plays 113 = .ok (.iload_n 1, 1) := by decide +kernel
theorem dL_plays_114 : decode cL_plays 114 = .ok (.invokevirtual 82, 3) := by decide +kernel
theorem dL_plays_117 : decode cL_plays 117 = .ok (.iload 5, 2) := by decide +kernel
theorem dL_plays_119 : decode cL_plays 119 = .ok (.if_icmp .ne 17, 3) := by decide +kernel
theorem dL_plays_122 : decode cL_plays 122 = .ok (.aload_n 0, 1) := by decide +kernel
theorem dL_plays_123 : decode cL_plays 123 = .ok (.invokevirtual 19, 3) := by decide +kernel
theorem dL_plays_126 : decode cL_plays 126 = .ok (.lload 6, 2) := by decide +kernel
theorem dL_plays_128 : decode cL_plays 128 = .ok (.lcmp, 1) := by decide +kernel
theorem dL_plays_129 : decode cL_plays 129 = .ok (.ifCond .ne 7, 3) := by decide +kernel
theorem dL_plays_132 : decode cL_plays 132 = .ok (.iconst 1, 1) := by decide +kernel
theorem dL_plays_133 : decode cL_plays 133 = .ok (.goto 4, 3) := by decide +kernel
theorem dL_plays_136 : decode cL_plays 136 = .ok (.iconst 0, 1) := by decide +kernel
theorem dL_plays_137 : decode cL_plays 137 = .ok (.ireturn, 1) := by decide +kernel
theorem dL_commits_0 : decode cL_commits 0 = .ok (.iload_n 2, 1) := by decide +kernel
theorem dL_commits_1 : decode cL_commits 1 = .ok (.iconst 4, 1) := by decide +kernel
theorem dL_commits_2 : decode cL_commits 2 = .ok (.ishr, 1) := by decide +kernel
theorem dL_commits_3 : decode cL_commits 3 = .ok (.sipush 1019, 3) := by decide +kernel
theorem dL_commits_6 : decode cL_commits 6 = .ok (.invokestatic 109, 3) := by decide +kernel
theorem dL_commits_9 : decode cL_commits 9 = .ok (.istore_n 3, 1) := by decide +kernel
theorem dL_commits_10 : decode cL_commits 10 = .ok (.aload_n 0, 1) := by decide +kernel
theorem dL_commits_11 : decode cL_commits 11 = .ok (.iload_n 1, 1) := by decide +kernel
theorem dL_commits_12 : decode cL_commits 12 = .ok (.iload_n 3, 1) := by decide +kernel
theorem dL_commits_13 : decode cL_commits 13 = .ok (.iload_n 2, 1) := by decide +kernel
theorem dL_commits_14 : decode cL_commits 14 = .ok (.invokevirtual 42, 3) := by decide +kernel
theorem dL_commits_17 : decode cL_commits 17 = .ok (.istore 4, 2) := by decide +kernel
theorem dL_commits_19 : decode cL_commits 19 = .ok (.iload 4, 2) := by decide +kernel
theorem dL_commits_21 : decode cL_commits 21 = .ok (.bipush (-2), 2) := by decide +kernel
theorem dL_commits_23 : decode cL_commits 23 = .ok (.if_icmp .eq 10, 3) := by decide +kernel
theorem dL_commits_26 : decode cL_commits 26 = .ok (.iload 4, 2) := by decide +kernel
theorem dL_commits_28 : decode cL_commits 28 = .ok (.bipush (-4), 2) := by decide +kernel
theorem dL_commits_30 : decode cL_commits 30 = .ok (.if_icmp .ne 5, 3) := by decide +kernel
theorem dL_commits_33 : decode cL_commits 33 = .ok (.iconst 1, 1) := by decide +kernel
theorem dL_commits_34 : decode cL_commits 34 = .ok (.ireturn, 1) := by decide +kernel
theorem dL_commits_35 : decode cL_commits 35 = .ok (.iload 4, 2) := by decide +kernel
theorem dL_commits_37 : decode cL_commits 37 = .ok (.ifCond .lt 29, 3) := by decide +kernel
theorem dL_commits_40 : decode cL_commits 40 = .ok (.aload_n 0, 1) := by decide +kernel
theorem dL_commits_41 : decode cL_commits 41 = .ok (.iload_n 1, 1) := by decide +kernel
theorem dL_commits_42 : decode cL_commits 42 = .ok (.invokevirtual 76, 3) := by decide +kernel
theorem dL_commits_45 : decode cL_commits 45 = .ok (.iload 4, 2) := by decide +kernel
theorem dL_commits_47 : decode cL_commits 47 = .ok (.if_icmp .ne 19, 3) := by decide +kernel
theorem dL_commits_50 : decode cL_commits 50 = .ok (.aload_n 0, 1) := by decide +kernel
theorem dL_commits_51 : decode cL_commits 51 = .ok (.iload_n 1, 1) := by decide +kernel
theorem dL_commits_52 : decode cL_commits 52 = .ok (.iload_n 3, 1) := by decide +kernel
theorem dL_commits_53 : decode cL_commits 53 = .ok (.iload_n 2, 1) := by decide +kernel
theorem dL_commits_54 : decode cL_commits 54 = .ok (.invokevirtual 42, 3) := by decide +kernel
theorem dL_commits_57 : decode cL_commits 57 = .ok (.bipush (-2), 2) := by decide +kernel
theorem dL_commits_59 : decode cL_commits 59 = .ok (.if_icmp .ne 7, 3) := by decide +kernel
theorem dL_commits_62 : decode cL_commits 62 = .ok (.iconst 1, 1) := by decide +kernel
theorem dL_commits_63 : decode cL_commits 63 = .ok (.goto 4, 3) := by decide +kernel
theorem dL_commits_66 : decode cL_commits 66 = .ok (.iconst 0, 1) := by decide +kernel
theorem dL_commits_67 : decode cL_commits 67 = .ok (.istore 5, 2) := by decide +kernel
theorem dL_commits_69 : decode cL_commits 69 = .ok (.iload 5, 2) := by decide +kernel
theorem dL_commits_71 : decode cL_commits 71 = .ok (.ifCond .eq 40, 3) := by decide +kernel
theorem dL_commits_74 : decode cL_commits 74 = .ok (.aload_n 0, 1) := by decide +kernel
theorem dL_commits_75 : decode cL_commits 75 = .ok (.iload_n 1, 1) := by decide +kernel
theorem dL_commits_76 : decode cL_commits 76 = .ok (.iload_n 1, 1) := by decide +kernel
theorem dL_commits_77 : decode cL_commits 77 = .ok (.invokevirtual 112, 3) := by decide +kernel
theorem dL_commits_80 : decode cL_commits 80 = .ok (.ifCond .lt 27, 3) := by decide +kernel
theorem dL_commits_83 : decode cL_commits 83 = .ok (.aload_n 0, 1) := by decide +kernel
theorem dL_commits_84 : decode cL_commits 84 = .ok (.iload_n 1, 1) := by decide +kernel
theorem dL_commits_85 : decode cL_commits 85 = .ok (.iload_n 1, 1) := by decide +kernel
theorem dL_commits_86 : decode cL_commits 86 = .ok (.invokevirtual 115, 3) := by decide +kernel
theorem dL_commits_89 : decode cL_commits 89 = .ok (.iconst 1, 1) := by decide +kernel
theorem dL_commits_90 : decode cL_commits 90 = .ok (.if_icmp .ne 21, 3) := by decide +kernel
theorem dL_commits_93 : decode cL_commits 93 = .ok (.aload_n 0, 1) := by decide +kernel
theorem dL_commits_94 : decode cL_commits 94 = .ok (.iload_n 1, 1) := by decide +kernel
theorem dL_commits_95 : decode cL_commits 95 = .ok (.aload_n 0, 1) := by decide +kernel
theorem dL_commits_96 : decode cL_commits 96 = .ok (.iconst 0, 1) := by decide +kernel
theorem dL_commits_97 : decode cL_commits 97 = .ok (.invokevirtual 55, 3) := by decide +kernel
theorem dL_commits_100 : decode cL_commits 100 = .ok (.invokevirtual 118, 3) := by decide +kernel
theorem dL_commits_103 : decode cL_commits 103 = .ok (.iload_n 3, 1) := by decide +kernel
theorem dL_commits_104 : decode cL_commits 104 = .ok (.if_icmp .ne 7, 3) := by decide +kernel
theorem dL_commits_107 : decode cL_commits 107 = .ok (.iconst 1, 1) := by decide +kernel
theorem dL_commits_108 : decode cL_commits 108 = .ok (.goto 4, 3) := by decide +kernel
theorem dL_commits_111 : decode cL_commits 111 = .ok (.iconst 0, 1) := by decide +kernel
theorem dL_commits_112 : decode cL_commits 112 = .ok (.ireturn, 1) := by decide +kernel
theorem dL_steps_0 : decode cL_steps 0 = .ok (.iload_n 3, 1) := by decide +kernel
theorem dL_steps_1 : decode cL_steps 1 = .ok (.bipush 12, 2) := by decide +kernel
theorem dL_steps_3 : decode cL_steps 3 = .ok (.invokestatic 109, 3) := by decide +kernel
theorem dL_steps_6 : decode cL_steps 6 = .ok (.tableswitch 251 0 9 #[54, 69, 84, 99, 105, 127, 153, 174, 182, 189], 54) := by decide +kernel
theorem dL_steps_60 : decode cL_steps 60 = .ok (.aload_n 0, 1) := by decide +kernel
theorem dL_steps_61 : decode cL_steps 61 = .ok (.invokevirtual 79, 3) := by decide +kernel
theorem dL_steps_64 : decode cL_steps 64 = .ok (.bipush (-2), 2) := by decide +kernel
theorem dL_steps_66 : decode cL_steps 66 = .ok (.if_icmp .lt 7, 3) := by decide +kernel
theorem dL_steps_69 : decode cL_steps 69 = .ok (.iconst 1, 1) := by decide +kernel
theorem dL_steps_70 : decode cL_steps 70 = .ok (.goto 4, 3) := by decide +kernel
theorem dL_steps_73 : decode cL_steps 73 = .ok (.iconst 0, 1) := by decide +kernel
theorem dL_steps_74 : decode cL_steps 74 = .ok (.ireturn, 1) := by decide +kernel
theorem dL_steps_75 : decode cL_steps 75 = .ok (.aload_n 0, 1) := by decide +kernel
theorem dL_steps_76 : decode cL_steps 76 = .ok (.invokevirtual 73, 3) := by decide +kernel
theorem dL_steps_79 : decode cL_steps 79 = .ok (.bipush (-5), 2) := by decide +kernel
theorem dL_steps_81 : decode cL_steps 81 = .ok (.if_icmp .lt 7, 3) := by decide +kernel
theorem dL_steps_84 : decode cL_steps 84 = .ok (.iconst 1, 1) := by decide +kernel
theorem dL_steps_85 : decode cL_steps 85 = .ok (.goto 4, 3) := by decide +kernel
theorem dL_steps_88 : decode cL_steps 88 = .ok (.iconst 0, 1) := by decide +kernel
theorem dL_steps_89 : decode cL_steps 89 = .ok (.ireturn, 1) := by decide +kernel
theorem dL_steps_90 : decode cL_steps 90 = .ok (.aload_n 0, 1) := by decide +kernel
theorem dL_steps_91 : decode cL_steps 91 = .ok (.invokevirtual 70, 3) := by decide +kernel
theorem dL_steps_94 : decode cL_steps 94 = .ok (.bipush (-5), 2) := by decide +kernel
theorem dL_steps_96 : decode cL_steps 96 = .ok (.if_icmp .lt 7, 3) := by decide +kernel
theorem dL_steps_99 : decode cL_steps 99 = .ok (.iconst 1, 1) := by decide +kernel
theorem dL_steps_100 : decode cL_steps 100 = .ok (.goto 4, 3) := by decide +kernel
theorem dL_steps_103 : decode cL_steps 103 = .ok (.iconst 0, 1) := by decide +kernel
theorem dL_steps_104 : decode cL_steps 104 = .ok (.ireturn, 1) := by decide +kernel
theorem dL_steps_105 : decode cL_steps 105 = .ok (.aload_n 0, 1) := by decide +kernel
theorem dL_steps_106 : decode cL_steps 106 = .ok (.iload_n 3, 1) := by decide +kernel
theorem dL_steps_107 : decode cL_steps 107 = .ok (.invokestatic 121, 3) := by decide +kernel
theorem dL_steps_110 : decode cL_steps 110 = .ok (.ireturn, 1) := by decide +kernel
theorem dL_steps_111 : decode cL_steps 111 = .ok (.iload_n 1, 1) := by decide +kernel
theorem dL_steps_112 : decode cL_steps 112 = .ok (.iload_n 2, 1) := by decide +kernel
theorem dL_steps_113 : decode cL_steps 113 = .ok (.if_icmp .eq 14, 3) := by decide +kernel
theorem dL_steps_116 : decode cL_steps 116 = .ok (.aload_n 0, 1) := by decide +kernel
theorem dL_steps_117 : decode cL_steps 117 = .ok (.iload_n 2, 1) := by decide +kernel
theorem dL_steps_118 : decode cL_steps 118 = .ok (.iload_n 1, 1) := by decide +kernel
theorem dL_steps_119 : decode cL_steps 119 = .ok (.invokevirtual 49, 3) := by decide +kernel
theorem dL_steps_122 : decode cL_steps 122 = .ok (.bipush (-9), 2) := by decide +kernel
theorem dL_steps_124 : decode cL_steps 124 = .ok (.if_icmp .lt 7, 3) := by decide +kernel
theorem dL_steps_127 : decode cL_steps 127 = .ok (.iconst 1, 1) := by decide +kernel
theorem dL_steps_128 : decode cL_steps 128 = .ok (.goto 4, 3) := by decide +kernel
theorem dL_steps_131 : decode cL_steps 131 = .ok (.iconst 0, 1) := by decide +kernel
theorem dL_steps_132 : decode cL_steps 132 = .ok (.ireturn, 1) := by decide +kernel
theorem dL_steps_133 : decode cL_steps 133 = .ok (.aload_n 0, 1) := by decide +kernel
theorem dL_steps_134 : decode cL_steps 134 = .ok (.iload_n 1, 1) := by decide +kernel
theorem dL_steps_135 : decode cL_steps 135 = .ok (.iload_n 3, 1) := by decide +kernel
theorem dL_steps_136 : decode cL_steps 136 = .ok (.iconst 4, 1) := by decide +kernel
theorem dL_steps_137 : decode cL_steps 137 = .ok (.ishr, 1) := by decide +kernel
theorem dL_steps_138 : decode cL_steps 138 = .ok (.sipush 1019, 3) := by decide +kernel
theorem dL_steps_141 : decode cL_steps 141 = .ok (.invokestatic 109, 3) := by decide +kernel
theorem dL_steps_144 : decode cL_steps 144 = .ok (.iload_n 3, 1) := by decide +kernel
theorem dL_steps_145 : decode cL_steps 145 = .ok (.invokevirtual 52, 3) := by decide +kernel
theorem dL_steps_148 : decode cL_steps 148 = .ok (.bipush (-2), 2) := by decide +kernel
theorem dL_steps_150 : decode cL_steps 150 = .ok (.if_icmp .lt 7, 3) := by decide +kernel
theorem dL_steps_153 : decode cL_steps 153 = .ok (.iconst 1, 1) := by decide +kernel
theorem dL_steps_154 : decode cL_steps 154 = .ok (.goto 4, 3) := by decide +kernel
theorem dL_steps_157 : decode cL_steps 157 = .ok (.iconst 0, 1) := by decide +kernel
theorem dL_steps_158 : decode cL_steps 158 = .ok (.ireturn, 1) := by decide +kernel
theorem dL_steps_159 : decode cL_steps 159 = .ok (.aload_n 0, 1) := by decide +kernel
theorem dL_steps_160 : decode cL_steps 160 = .ok (.iload_n 1, 1) := by decide +kernel
theorem dL_steps_161 : decode cL_steps 161 = .ok (.iload_n 3, 1) := by decide +kernel
theorem dL_steps_162 : decode cL_steps 162 = .ok (.iconst 4, 1) := by decide +kernel
theorem dL_steps_163 : decode cL_steps 163 = .ok (.ishr, 1) := by decide +kernel
theorem dL_steps_164 : decode cL_steps 164 = .ok (.iconst 4, 1) := by decide +kernel
theorem dL_steps_165 : decode cL_steps 165 = .ok (.invokestatic 109, 3) := by decide +kernel
theorem dL_steps_168 : decode cL_steps 168 = .ok (.invokevirtual 27, 3) := by decide +kernel
theorem dL_steps_171 : decode cL_steps 171 = .ok (.ifCond .lt 7, 3) := by decide +kernel
theorem dL_steps_174 : decode cL_steps 174 = .ok (.iconst 1, 1) := by decide +kernel
theorem dL_steps_175 : decode cL_steps 175 = .ok (.goto 4, 3) := by decide +kernel
theorem dL_steps_178 : decode cL_steps 178 = .ok (.iconst 0, 1) := by decide +kernel
theorem dL_steps_179 : decode cL_steps 179 = .ok (.ireturn, 1) := by decide +kernel
theorem dL_steps_180 : decode cL_steps 180 = .ok (.aload_n 0, 1) := by decide +kernel
theorem dL_steps_181 : decode cL_steps 181 = .ok (.iload_n 3, 1) := by decide +kernel
theorem dL_steps_182 : decode cL_steps 182 = .ok (.iconst 5, 1) := by decide +kernel
theorem dL_steps_183 : decode cL_steps 183 = .ok (.ishr, 1) := by decide +kernel
theorem dL_steps_184 : decode cL_steps 184 = .ok (.invokestatic 125, 3) := by decide +kernel
theorem dL_steps_187 : decode cL_steps 187 = .ok (.ireturn, 1) := by decide +kernel
theorem dL_steps_188 : decode cL_steps 188 = .ok (.aload_n 0, 1) := by decide +kernel
theorem dL_steps_189 : decode cL_steps 189 = .ok (.iload 4, 2) := by decide +kernel
theorem dL_steps_191 : decode cL_steps 191 = .ok (.invokestatic 128, 3) := by decide +kernel
theorem dL_steps_194 : decode cL_steps 194 = .ok (.ireturn, 1) := by decide +kernel
theorem dL_steps_195 : decode cL_steps 195 = .ok (.aload_n 0, 1) := by decide +kernel
theorem dL_steps_196 : decode cL_steps 196 = .ok (.iload_n 3, 1) := by decide +kernel
theorem dL_steps_197 : decode cL_steps 197 = .ok (.iconst 4, 1) := by decide +kernel
theorem dL_steps_198 : decode cL_steps 198 = .ok (.ishr, 1) := by decide +kernel
theorem dL_steps_199 : decode cL_steps 199 = .ok (.iconst 3, 1) := by decide +kernel
theorem dL_steps_200 : decode cL_steps 200 = .ok (.invokestatic 109, 3) := by decide +kernel
theorem dL_steps_203 : decode cL_steps 203 = .ok (.invokevirtual 30, 3) := by decide +kernel
theorem dL_steps_206 : decode cL_steps 206 = .ok (.bipush (-2), 2) := by decide +kernel
theorem dL_steps_208 : decode cL_steps 208 = .ok (.if_icmp .lt 47, 3) := by decide +kernel
theorem dL_steps_211 : decode cL_steps 211 = .ok (.aload_n 0, 1) := by decide +kernel
theorem dL_steps_212 : decode cL_steps 212 = .ok (.iconst 1, 1) := by decide +kernel
theorem dL_steps_213 : decode cL_steps 213 = .ok (.iload_n 3, 1) := by decide +kernel
theorem dL_steps_214 : decode cL_steps 214 = .ok (.bipush 6, 2) := by decide +kernel
theorem dL_steps_216 : decode cL_steps 216 = .ok (.ishr, 1) := by decide +kernel
theorem dL_steps_217 : decode cL_steps 217 = .ok (.bipush 8, 2) := by decide +kernel
theorem dL_steps_219 : decode cL_steps 219 = .ok (.invokestatic 109, 3) := by decide +kernel
theorem dL_steps_222 : decode cL_steps 222 = .ok (.iadd, 1) := by decide +kernel
theorem dL_steps_223 : decode cL_steps 223 = .ok (.invokevirtual 33, 3) := by decide +kernel
theorem dL_steps_226 : decode cL_steps 226 = .ok (.bipush (-2), 2) := by decide +kernel
theorem dL_steps_228 : decode cL_steps 228 = .ok (.if_icmp .lt 27, 3) := by decide +kernel
theorem dL_steps_231 : decode cL_steps 231 = .ok (.aload_n 0, 1) := by decide +kernel
theorem dL_steps_232 : decode cL_steps 232 = .ok (.iconst 1, 1) := by decide +kernel
theorem dL_steps_233 : decode cL_steps 233 = .ok (.iload_n 3, 1) := by decide +kernel
theorem dL_steps_234 : decode cL_steps 234 = .ok (.bipush 9, 2) := by decide +kernel
theorem dL_steps_236 : decode cL_steps 236 = .ok (.ishr, 1) := by decide +kernel
theorem dL_steps_237 : decode cL_steps 237 = .ok (.bipush 60, 2) := by decide +kernel
theorem dL_steps_239 : decode cL_steps 239 = .ok (.invokestatic 109, 3) := by decide +kernel
theorem dL_steps_242 : decode cL_steps 242 = .ok (.iadd, 1) := by decide +kernel
theorem dL_steps_243 : decode cL_steps 243 = .ok (.invokevirtual 39, 3) := by decide +kernel
theorem dL_steps_246 : decode cL_steps 246 = .ok (.bipush (-2), 2) := by decide +kernel
theorem dL_steps_248 : decode cL_steps 248 = .ok (.if_icmp .lt 7, 3) := by decide +kernel
theorem dL_steps_251 : decode cL_steps 251 = .ok (.iconst 1, 1) := by decide +kernel
theorem dL_steps_252 : decode cL_steps 252 = .ok (.goto 4, 3) := by decide +kernel
theorem dL_steps_255 : decode cL_steps 255 = .ok (.iconst 0, 1) := by decide +kernel
theorem dL_steps_256 : decode cL_steps 256 = .ok (.ireturn, 1) := by decide +kernel
theorem dL_steps_257 : decode cL_steps 257 = .ok (.aload_n 0, 1) := by decide +kernel
theorem dL_steps_258 : decode cL_steps 258 = .ok (.iload_n 1, 1) := by decide +kernel
theorem dL_steps_259 : decode cL_steps 259 = .ok (.iload_n 3, 1) := by decide +kernel
theorem dL_steps_260 : decode cL_steps 260 = .ok (.invokestatic 131, 3) := by decide +kernel
theorem dL_steps_263 : decode cL_steps 263 = .ok (.ireturn, 1) := by decide +kernel
