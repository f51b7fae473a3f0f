theorem dX0_init_0 : decode cX0_init 0 = .ok (.aload_n 0, 1) := by decide +kernel
theorem dX0_init_1 : decode cX0_init 1 = .ok (.invokespecial 3, 3) := by decide +kernel
theorem dX0_init_4 : decode cX0_init 4 = .ok (.aload_n 0, 1) := by decide +kernel
theorem dX0_init_5 : decode cX0_init 5 = .ok (.bipush 96, 2) := by decide +kernel
theorem dX0_init_7 : decode cX0_init 7 = .ok (.newarray .int, 2) := by decide +kernel
theorem dX0_init_9 : decode cX0_init 9 = .ok (.putfield 11, 3) := by decide +kernel
theorem dX0_init_12 : decode cX0_init 12 = .ok (.return_, 1) := by decide +kernel
theorem dX0_copy_0 : decode cX0_copy 0 = .ok (.aload_n 0, 1) := by decide +kernel
theorem dX0_copy_1 : decode cX0_copy 1 = .ok (.aload_n 1, 1) := by decide +kernel
theorem dX0_copy_2 : decode cX0_copy 2 = .ok (.getfield 15, 3) := by decide +kernel
theorem dX0_copy_5 : decode cX0_copy 5 = .ok (.putfield 15, 3) := by decide +kernel
theorem dX0_copy_8 : decode cX0_copy 8 = .ok (.aload_n 0, 1) := by decide +kernel
theorem dX0_copy_9 : decode cX0_copy 9 = .ok (.aload_n 1, 1) := by decide +kernel
theorem dX0_copy_10 : decode cX0_copy 10 = .ok (.getfield 19, 3) := by decide +kernel
theorem dX0_copy_13 : decode cX0_copy 13 = .ok (.putfield 19, 3) := by decide +kernel
theorem dX0_copy_16 : decode cX0_copy 16 = .ok (.aload_n 0, 1) := by decide +kernel
theorem dX0_copy_17 : decode cX0_copy 17 = .ok (.aload_n 1, 1) := by decide +kernel
theorem dX0_copy_18 : decode cX0_copy 18 = .ok (.getfield 22, 3) := by decide +kernel
theorem dX0_copy_21 : decode cX0_copy 21 = .ok (.putfield 22, 3) := by decide +kernel
theorem dX0_copy_24 : decode cX0_copy 24 = .ok (.aload_n 0, 1) := by decide +kernel
theorem dX0_copy_25 : decode cX0_copy 25 = .ok (.aload_n 1, 1) := by decide +kernel
theorem dX0_copy_26 : decode cX0_copy 26 = .ok (.getfield 25, 3) := by decide +kernel
theorem dX0_copy_29 : decode cX0_copy 29 = .ok (.putfield 25, 3) := by decide +kernel
theorem dX0_copy_32 : decode cX0_copy 32 = .ok (.aload_n 0, 1) := by decide +kernel
theorem dX0_copy_33 : decode cX0_copy 33 = .ok (.aload_n 1, 1) := by decide +kernel
theorem dX0_copy_34 : decode cX0_copy 34 = .ok (.getfield 28, 3) := by decide +kernel
theorem dX0_copy_37 : decode cX0_copy 37 = .ok (.putfield 28, 3) := by decide +kernel
theorem dX0_copy_40 : decode cX0_copy 40 = .ok (.aload_n 0, 1) := by decide +kernel
theorem dX0_copy_41 : decode cX0_copy 41 = .ok (.aload_n 1, 1) := by decide +kernel
theorem dX0_copy_42 : decode cX0_copy 42 = .ok (.getfield 31, 3) := by decide +kernel
theorem dX0_copy_45 : decode cX0_copy 45 = .ok (.putfield 31, 3) := by decide +kernel
theorem dX0_copy_48 : decode cX0_copy 48 = .ok (.aload_n 0, 1) := by decide +kernel
theorem dX0_copy_49 : decode cX0_copy 49 = .ok (.aload_n 1, 1) := by decide +kernel
theorem dX0_copy_50 : decode cX0_copy 50 = .ok (.getfield 34, 3) := by decide +kernel
theorem dX0_copy_53 : decode cX0_copy 53 = .ok (.putfield 34, 3) := by decide +kernel
theorem dX0_copy_56 : decode cX0_copy 56 = .ok (.aload_n 1, 1) := by decide +kernel
theorem dX0_copy_57 : decode cX0_copy 57 = .ok (.getfield 11, 3) := by decide +kernel
theorem dX0_copy_60 : decode cX0_copy 60 = .ok (.iconst 0, 1) := by decide +kernel
theorem dX0_copy_61 : decode cX0_copy 61 = .ok (.aload_n 0, 1) := by decide +kernel
theorem dX0_copy_62 : decode cX0_copy 62 = .ok (.getfield 11, 3) := by decide +kernel
theorem dX0_copy_65 : decode cX0_copy 65 = .ok (.iconst 0, 1) := by decide +kernel
theorem dX0_copy_66 : decode cX0_copy 66 = .ok (.bipush 96, 2) := by decide +kernel
theorem dX0_copy_68 : decode cX0_copy 68 = .ok (.invokestatic 37, 3) := by decide +kernel
theorem dX0_copy_71 : decode cX0_copy 71 = .ok (.return_, 1) := by decide +kernel
theorem dX0_keeps_0 : decode cX0_keeps 0 = .ok (.iload_n 1, 1) := by decide +kernel
theorem dX0_keeps_1 : decode cX0_keeps 1 = .ok (.ifCond .lt 26, 3) := by decide +kernel
theorem dX0_keeps_4 : decode cX0_keeps 4 = .ok (.iload_n 1, 1) := by decide +kernel
theorem dX0_keeps_5 : decode cX0_keeps 5 = .ok (.aload_n 0, 1) := by decide +kernel
theorem dX0_keeps_6 : decode cX0_keeps 6 = .ok (.getfield 15, 3) := by decide +kernel
theorem dX0_keeps_9 : decode cX0_keeps 9 = .ok (.if_icmp .ge 18, 3) := by decide +kernel
theorem dX0_keeps_12 : decode cX0_keeps 12 = .ok (.iload_n 1, 1) := by decide +kernel
theorem dX0_keeps_13 : decode cX0_keeps 13 = .ok (.aload_n 0, 1) := by decide +kernel
theorem dX0_keeps_14 : decode cX0_keeps 14 = .ok (.getfield 15, 3) := by decide +kernel
theorem dX0_keeps_17 : decode cX0_keeps 17 = .ok (.bipush 16, 2) := by decide +kernel
theorem dX0_keeps_19 : decode cX0_keeps 19 = .ok (.isub, 1) := by decide +kernel
theorem dX0_keeps_20 : decode cX0_keeps 20 = .ok (.if_icmp .lt 7, 3) := by decide +kernel
theorem dX0_keeps_23 : decode cX0_keeps 23 = .ok (.iconst 1, 1) := by decide +kernel
theorem dX0_keeps_24 : decode cX0_keeps 24 = .ok (.goto 4, 3) := by decide +kernel
theorem dX0_keeps_27 : decode cX0_keeps 27 = .ok (.iconst 0, 1) := by decide +kernel
theorem dX0_keeps_28 : decode cX0_keeps 28 = .ok (.ireturn, 1) := by decide +kernel
theorem dX0_entry_0 : decode cX0_entry 0 = .ok (.aload_n 0, 1) := by decide +kernel
theorem dX0_entry_1 : decode cX0_entry 1 = .ok (.getfield 11, 3) := by decide +kernel
theorem dX0_entry_4 : decode cX0_entry 4 = .ok (.iload_n 1, 1) := by decide +kernel
theorem dX0_entry_5 : decode cX0_entry 5 = .ok (.bipush 16, 2) := by decide +kernel
theorem dX0_entry_7 : decode cX0_entry 7 = .ok (.irem, 1) := by decide +kernel
theorem dX0_entry_8 : decode cX0_entry 8 = .ok (.bipush 6, 2) := by decide +kernel
theorem dX0_entry_10 : decode cX0_entry 10 = .ok (.imul, 1) := by decide +kernel
theorem dX0_entry_11 : decode cX0_entry 11 = .ok (.iload_n 2, 1) := by decide +kernel
theorem dX0_entry_12 : decode cX0_entry 12 = .ok (.iadd, 1) := by decide +kernel
theorem dX0_entry_13 : decode cX0_entry 13 = .ok (.iaload, 1) := by decide +kernel
theorem dX0_entry_14 : decode cX0_entry 14 = .ok (.ireturn, 1) := by decide +kernel
theorem dX0_addFailure_0 : decode cX0_addFailure 0 = .ok (.aload_n 0, 1) := by decide +kernel
theorem dX0_addFailure_1 : decode cX0_addFailure 1 = .ok (.bipush (-5), 2) := by decide +kernel
theorem dX0_addFailure_3 : decode cX0_addFailure 3 = .ok (.iload_n 1, 1) := by decide +kernel
theorem dX0_addFailure_4 : decode cX0_addFailure 4 = .ok (.iload_n 2, 1) := by decide +kernel
theorem dX0_addFailure_5 : decode cX0_addFailure 5 = .ok (.iconst 0, 1) := by decide +kernel
theorem dX0_addFailure_6 : decode cX0_addFailure 6 = .ok (.iload_n 3, 1) := by decide +kernel
theorem dX0_addFailure_7 : decode cX0_addFailure 7 = .ok (.iconst 0, 1) := by decide +kernel
theorem dX0_addFailure_8 : decode cX0_addFailure 8 = .ok (.invokevirtual 43, 3) := by decide +kernel
theorem dX0_addFailure_11 : decode cX0_addFailure 11 = .ok (.aload_n 0, 1) := by decide +kernel
theorem dX0_addFailure_12 : decode cX0_addFailure 12 = .ok (.iconst 0, 1) := by decide +kernel
theorem dX0_addFailure_13 : decode cX0_addFailure 13 = .ok (.putfield 31, 3) := by decide +kernel
theorem dX0_addFailure_16 : decode cX0_addFailure 16 = .ok (.return_, 1) := by decide +kernel
theorem dX0_addOutput_0 : decode cX0_addOutput 0 = .ok (.iload_n 1, 1) := by decide +kernel
theorem dX0_addOutput_1 : decode cX0_addOutput 1 = .ok (.iconst 1, 1) := by decide +kernel
theorem dX0_addOutput_2 : decode cX0_addOutput 2 = .ok (.iand, 1) := by decide +kernel
theorem dX0_addOutput_3 : decode cX0_addOutput 3 = .ok (.istore 5, 2) := by decide +kernel
theorem dX0_addOutput_5 : decode cX0_addOutput 5 = .ok (.iload_n 2, 1) := by decide +kernel
theorem dX0_addOutput_6 : decode cX0_addOutput 6 = .ok (.invokestatic 47, 3) := by decide +kernel
theorem dX0_addOutput_9 : decode cX0_addOutput 9 = .ok (.iload_n 3, 1) := by decide +kernel
theorem dX0_addOutput_10 : decode cX0_addOutput 10 = .ok (.isub, 1) := by decide +kernel
theorem dX0_addOutput_11 : decode cX0_addOutput 11 = .ok (.istore 6, 2) := by decide +kernel
theorem dX0_addOutput_13 : decode cX0_addOutput 13 = .ok (.aload_n 0, 1) := by decide +kernel
theorem dX0_addOutput_14 : decode cX0_addOutput 14 = .ok (.iload 5, 2) := by decide +kernel
theorem dX0_addOutput_16 : decode cX0_addOutput 16 = .ok (.iload_n 2, 1) := by decide +kernel
theorem dX0_addOutput_17 : decode cX0_addOutput 17 = .ok (.iload_n 3, 1) := by decide +kernel
theorem dX0_addOutput_18 : decode cX0_addOutput 18 = .ok (.iload 6, 2) := by decide +kernel
theorem dX0_addOutput_20 : decode cX0_addOutput 20 = .ok (.iload 4, 2) := by decide +kernel
theorem dX0_addOutput_22 : decode cX0_addOutput 22 = .ok (.iload_n 1, 1) := by decide +kernel
theorem dX0_addOutput_23 : decode cX0_addOutput 23 = .ok (.invokevirtual 43, 3) := by decide +kernel
theorem dX0_addOutput_26 : decode cX0_addOutput 26 = .ok (.aload_n 0, 1) := by decide +kernel
theorem dX0_addOutput_27 : decode cX0_addOutput 27 = .ok (.iload_n 1, 1) := by decide +kernel
theorem dX0_addOutput_28 : decode cX0_addOutput 28 = .ok (.putfield 19, 3) := by decide +kernel
theorem dX0_addOutput_31 : decode cX0_addOutput 31 = .ok (.iload 5, 2) := by decide +kernel
theorem dX0_addOutput_33 : decode cX0_addOutput 33 = .ok (.iconst 1, 1) := by decide +kernel
theorem dX0_addOutput_34 : decode cX0_addOutput 34 = .ok (.if_icmp .ne 16, 3) := by decide +kernel
theorem dX0_addOutput_37 : decode cX0_addOutput 37 = .ok (.aload_n 0, 1) := by decide +kernel
theorem dX0_addOutput_38 : decode cX0_addOutput 38 = .ok (.dup, 1) := by decide +kernel
theorem dX0_addOutput_39 : decode cX0_addOutput 39 = .ok (.getfield 25, 3) := by decide +kernel
theorem dX0_addOutput_42 : decode cX0_addOutput 42 = .ok (.iconst 1, 1) := by decide +kernel
theorem dX0_addOutput_43 : decode cX0_addOutput 43 = .ok (.iadd, 1) := by decide +kernel
theorem dX0_addOutput_44 : decode cX0_addOutput 44 = .ok (.putfield 25, 3) := by decide +kernel
theorem dX0_addOutput_47 : decode cX0_addOutput 47 = .ok (.goto 13, 3) := by decide +kernel
theorem dX0_addOutput_50 : decode cX0_addOutput 50 = .ok (.aload_n 0, 1) := by decide +kernel
theorem dX0_addOutput_51 : decode cX0_addOutput 51 = .ok (.dup, 1) := by decide +kernel
theorem dX0_addOutput_52 : decode cX0_addOutput 52 = .ok (.getfield 22, 3) := by decide +kernel
theorem dX0_addOutput_55 : decode cX0_addOutput 55 = .ok (.iconst 1, 1) := by decide +kernel
theorem dX0_addOutput_56 : decode cX0_addOutput 56 = .ok (.iadd, 1) := by decide +kernel
theorem dX0_addOutput_57 : decode cX0_addOutput 57 = .ok (.putfield 22, 3) := by decide +kernel
theorem dX0_addOutput_60 : decode cX0_addOutput 60 = .ok (.aload_n 0, 1) := by decide +kernel
theorem dX0_addOutput_61 : decode cX0_addOutput 61 = .ok (.aload_n 0, 1) := by decide +kernel
theorem dX0_addOutput_62 : decode cX0_addOutput 62 = .ok (.getfield 34, 3) := by decide +kernel
theorem dX0_addOutput_65 : decode cX0_addOutput 65 = .ok (.iload 5, 2) := by decide +kernel
theorem dX0_addOutput_67 : decode cX0_addOutput 67 = .ok (.if_icmp .ne 12, 3) := by decide +kernel
theorem dX0_addOutput_70 : decode cX0_addOutput 70 = .ok (.aload_n 0, 1) := by decide +kernel
theorem dX0_addOutput_71 : decode cX0_addOutput 71 = .ok (.getfield 31, 3) := by decide +kernel
theorem dX0_addOutput_74 : decode cX0_addOutput 74 = .ok (.iconst 1, 1) := by decide +kernel
theorem dX0_addOutput_75 : decode cX0_addOutput 75 = .ok (.iadd, 1) := by decide +kernel
theorem dX0_addOutput_76 : decode cX0_addOutput 76 = .ok (.goto 4, 3) := by decide +kernel
theorem dX0_addOutput_79 : decode cX0_addOutput 79 = .ok (.iconst 1, 1) := by decide +kernel
theorem dX0_addOutput_80 : decode cX0_addOutput 80 = .ok (.putfield 31, 3) := by decide +kernel
theorem dX0_addOutput_83 : decode cX0_addOutput 83 = .ok (.aload_n 0, 1) := by decide +kernel
theorem dX0_addOutput_84 : decode cX0_addOutput 84 = .ok (.iload 5, 2) := by decide +kernel
theorem dX0_addOutput_86 : decode cX0_addOutput 86 = .ok (.putfield 34, 3) := by decide +kernel
theorem dX0_addOutput_89 : decode cX0_addOutput 89 = .ok (.aload_n 0, 1) := by decide +kernel
theorem dX0_addOutput_90 : decode cX0_addOutput 90 = .ok (.aload_n 0, 1) := by decide +kernel
theorem dX0_addOutput_91 : decode cX0_addOutput 91 = .ok (.getfield 28, 3) := by decide +kernel
theorem dX0_addOutput_94 : decode cX0_addOutput 94 = .ok (.aload_n 0, 1) := by decide +kernel
theorem dX0_addOutput_95 : decode cX0_addOutput 95 = .ok (.getfield 31, 3) := by decide +kernel
theorem dX0_addOutput_98 : decode cX0_addOutput 98 = .ok (.invokestatic 53, 3) := by decide +kernel
theorem dX0_addOutput_101 : decode cX0_addOutput 101 = .ok (.putfield 28, 3) := by decide +kernel
theorem dX0_addOutput_104 : decode cX0_addOutput 104 = .ok (.return_, 1) := by decide +kernel
theorem dX0_put_0 : decode cX0_put 0 = .ok (.aload_n 0, 1) := by decide +kernel
theorem dX0_put_1 : decode cX0_put 1 = .ok (.getfield 15, 3) := by decide +kernel
theorem dX0_put_4 : decode cX0_put 4 = .ok (.bipush 16, 2) := by decide +kernel
theorem dX0_put_6 : decode cX0_put 6 = .ok (.irem, 1) := by decide +kernel
theorem dX0_put_7 : decode cX0_put 7 = .ok (.bipush 6, 2) := by decide +kernel
theorem dX0_put_9 : decode cX0_put 9 = .ok (.imul, 1) := by decide +kernel
theorem dX0_put_10 : decode cX0_put 10 = .ok (.istore 7, 2) := by decide +kernel
theorem dX0_put_12 : decode cX0_put 12 = .ok (.aload_n 0, 1) := by decide +kernel
theorem dX0_put_13 : decode cX0_put 13 = .ok (.getfield 11, 3) := by decide +kernel
theorem dX0_put_16 : decode cX0_put 16 = .ok (.iload 7, 2) := by decide +kernel
theorem dX0_put_18 : decode cX0_put 18 = .ok (.iload_n 1, 1) := by decide +kernel
theorem dX0_put_19 : decode cX0_put 19 = .ok (.iastore, 1) := by decide +kernel
theorem dX0_put_20 : decode cX0_put 20 = .ok (.aload_n 0, 1) := by decide +kernel
theorem dX0_put_21 : decode cX0_put 21 = .ok (.getfield 11, 3) := by decide +kernel
theorem dX0_put_24 : decode cX0_put 24 = .ok (.iload 7, 2) := by decide +kernel
theorem dX0_put_26 : decode cX0_put 26 = .ok (.iconst 1, 1) := by decide +kernel
theorem dX0_put_27 : decode cX0_put 27 = .ok (.iadd, 1) := by decide +kernel
theorem dX0_put_28 : decode cX0_put 28 = .ok (.iload_n 2, 1) := by decide +kernel
theorem dX0_put_29 : decode cX0_put 29 = .ok (.iastore, 1) := by decide +kernel
theorem dX0_put_30 : decode cX0_put 30 = .ok (.aload_n 0, 1) := by decide +kernel
theorem dX0_put_31 : decode cX0_put 31 = .ok (.getfield 11, 3) := by decide +kernel
theorem dX0_put_34 : decode cX0_put 34 = .ok (.iload 7, 2) := by decide +kernel
theorem dX0_put_36 : decode cX0_put 36 = .ok (.iconst 2, 1) := by decide +kernel
theorem dX0_put_37 : decode cX0_put 37 = .ok (.iadd, 1) := by decide +kernel
theorem dX0_put_38 : decode cX0_put 38 = .ok (.iload_n 3, 1) := by decide +kernel
theorem dX0_put_39 : decode cX0_put 39 = .ok (.iastore, 1) := by decide +kernel
theorem dX0_put_40 : decode cX0_put 40 = .ok (.aload_n 0, 1) := by decide +kernel
theorem dX0_put_41 : decode cX0_put 41 = .ok (.getfield 11, 3) := by decide +kernel
theorem dX0_put_44 : decode cX0_put 44 = .ok (.iload 7, 2) := by decide +kernel
theorem dX0_put_46 : decode cX0_put 46 = .ok (.iconst 3, 1) := by decide +kernel
theorem dX0_put_47 : decode cX0_put 47 = .ok (.iadd, 1) := by decide +kernel
theorem dX0_put_48 : decode cX0_put 48 = .ok (.iload 4, 2) := by decide +kernel
theorem dX0_put_50 : decode cX0_put 50 = .ok (.iastore, 1) := by decide +kernel
theorem dX0_put_51 : decode cX0_put 51 = .ok (.aload_n 0, 1) := by decide +kernel
theorem dX0_put_52 : decode cX0_put 52 = .ok (.getfield 11, 3) := by decide +kernel
theorem dX0_put_55 : decode cX0_put 55 = .ok (.iload 7, 2) := by decide +kernel
theorem dX0_put_57 : decode cX0_put 57 = .ok (.iconst 4, 1) := by decide +kernel
theorem dX0_put_58 : decode cX0_put 58 = .ok (.iadd, 1) := by decide +kernel
theorem dX0_put_59 : decode cX0_put 59 = .ok (.iload 5, 2) := by decide +kernel
theorem dX0_put_61 : decode cX0_put 61 = .ok (.iastore, 1) := by decide +kernel
theorem dX0_put_62 : decode cX0_put 62 = .ok (.aload_n 0, 1) := by decide +kernel
theorem dX0_put_63 : decode cX0_put 63 = .ok (.getfield 11, 3) := by decide +kernel
theorem dX0_put_66 : decode cX0_put 66 = .ok (.iload 7, 2) := by decide +kernel
theorem dX0_put_68 : decode cX0_put 68 = .ok (.iconst 5, 1) := by decide +kernel
theorem dX0_put_69 : decode cX0_put 69 = .ok (.iadd, 1) := by decide +kernel
theorem dX0_put_70 : decode cX0_put 70 = .ok (.iload 6, 2) := by decide +kernel
theorem dX0_put_72 : decode cX0_put 72 = .ok (.iastore, 1) := by decide +kernel
theorem dX0_put_73 : decode cX0_put 73 = .ok (.aload_n 0, 1) := by decide +kernel
theorem dX0_put_74 : decode cX0_put 74 = .ok (.dup, 1) := by decide +kernel
theorem dX0_put_75 : decode cX0_put 75 = .ok (.getfield 15, 3) := by decide +kernel
theorem dX0_put_78 : decode cX0_put 78 = .ok (.iconst 1, 1) := by decide +kernel
theorem dX0_put_79 : decode cX0_put 79 = .ok (.iadd, 1) := by decide +kernel
theorem dX0_put_80 : decode cX0_put 80 = .ok (.putfield 15, 3) := by decide +kernel
theorem dX0_put_83 : decode cX0_put 83 = .ok (.return_, 1) := by decide +kernel
theorem dX1_init_0 : decode cX1_init 0 = .ok (.aload_n 0, 1) := by decide +kernel
theorem dX1_init_1 : decode cX1_init 1 = .ok (.invokespecial 3, 3) := by decide +kernel
theorem dX1_init_4 : decode cX1_init 4 = .ok (.aload_n 0, 1) := by decide +kernel
theorem dX1_init_5 : decode cX1_init 5 = .ok (.sipush 256, 3) := by decide +kernel
theorem dX1_init_8 : decode cX1_init 8 = .ok (.newarray .int, 2) := by decide +kernel
theorem dX1_init_10 : decode cX1_init 10 = .ok (.putfield 9, 3) := by decide +kernel
theorem dX1_init_13 : decode cX1_init 13 = .ok (.aload_n 0, 1) := by decide +kernel
theorem dX1_init_14 : decode cX1_init 14 = .ok (.sipush 256, 3) := by decide +kernel
theorem dX1_init_17 : decode cX1_init 17 = .ok (.newarray .int, 2) := by decide +kernel
theorem dX1_init_19 : decode cX1_init 19 = .ok (.putfield 15, 3) := by decide +kernel
theorem dX1_init_22 : decode cX1_init 22 = .ok (.aload_n 0, 1) := by decide +kernel
theorem dX1_init_23 : decode cX1_init 23 = .ok (.bipush 8, 2) := by decide +kernel
theorem dX1_init_25 : decode cX1_init 25 = .ok (.newarray .int, 2) := by decide +kernel
theorem dX1_init_27 : decode cX1_init 27 = .ok (.putfield 18, 3) := by decide +kernel
theorem dX1_init_30 : decode cX1_init 30 = .ok (.return_, 1) := by decide +kernel
theorem dX1_gather_0 : decode cX1_gather 0 = .ok (.aload_n 0, 1) := by decide +kernel
theorem dX1_gather_1 : decode cX1_gather 1 = .ok (.iconst 0, 1) := by decide +kernel
theorem dX1_gather_2 : decode cX1_gather 2 = .ok (.putfield 21, 3) := by decide +kernel
theorem dX1_gather_5 : decode cX1_gather 5 = .ok (.aload_n 0, 1) := by decide +kernel
theorem dX1_gather_6 : decode cX1_gather 6 = .ok (.iconst 0, 1) := by decide +kernel
theorem dX1_gather_7 : decode cX1_gather 7 = .ok (.putfield 25, 3) := by decide +kernel
theorem dX1_gather_10 : decode cX1_gather 10 = .ok (.aload_n 1, 1) := by decide +kernel
theorem dX1_gather_11 : decode cX1_gather 11 = .ok (.getfield 29, 3) := by decide +kernel
theorem dX1_gather_14 : decode cX1_gather 14 = .ok (.iload_n 2, 1) := by decide +kernel
theorem dX1_gather_15 : decode cX1_gather 15 = .ok (.iconst (-1), 1) := by decide +kernel
theorem dX1_gather_16 : decode cX1_gather 16 = .ok (.ixor, 1) := by decide +kernel
theorem dX1_gather_17 : decode cX1_gather 17 = .ok (.iand, 1) := by decide +kernel
theorem dX1_gather_18 : decode cX1_gather 18 = .ok (.istore_n 3, 1) := by decide +kernel
theorem dX1_gather_19 : decode cX1_gather 19 = .ok (.iconst 0, 1) := by decide +kernel
theorem dX1_gather_20 : decode cX1_gather 20 = .ok (.istore 4, 2) := by decide +kernel
theorem dX1_gather_22 : decode cX1_gather 22 = .ok (.iload 4, 2) := by decide +kernel
theorem dX1_gather_24 : decode cX1_gather 24 = .ok (.sipush 256, 3) := by decide +kernel
theorem dX1_gather_27 : decode cX1_gather 27 = .ok (.if_icmp .ge 30, 3) := by decide +kernel
theorem dX1_gather_30 : decode cX1_gather 30 = .ok (.iload 4, 2) := by decide +kernel
theorem dX1_gather_32 : decode cX1_gather 32 = .ok (.iload_n 2, 1) := by decide +kernel
theorem dX1_gather_33 : decode cX1_gather 33 = .ok (.iconst (-1), 1) := by decide +kernel
theorem dX1_gather_34 : decode cX1_gather 34 = .ok (.ixor, 1) := by decide +kernel
theorem dX1_gather_35 : decode cX1_gather 35 = .ok (.iand, 1) := by decide +kernel
theorem dX1_gather_36 : decode cX1_gather 36 = .ok (.ifCond .ne 15, 3) := by decide +kernel
theorem dX1_gather_39 : decode cX1_gather 39 = .ok (.aload_n 0, 1) := by decide +kernel
theorem dX1_gather_40 : decode cX1_gather 40 = .ok (.aload_n 1, 1) := by decide +kernel
theorem dX1_gather_41 : decode cX1_gather 41 = .ok (.iload_n 3, 1) := by decide +kernel
theorem dX1_gather_42 : decode cX1_gather 42 = .ok (.iload 4, 2) := by decide +kernel
theorem dX1_gather_44 : decode cX1_gather 44 = .ok (.ior, 1) := by decide +kernel
theorem dX1_gather_45 : decode cX1_gather 45 = .ok (.invokevirtual 34, 3) := by decide +kernel
theorem dX1_gather_48 : decode cX1_gather 48 = .ok (.invokevirtual 38, 3) := by decide +kernel
theorem dX1_gather_51 : decode cX1_gather 51 = .ok (.iinc 4 1, 3) := by decide +kernel
theorem dX1_gather_54 : decode cX1_gather 54 = .ok (.goto (-32), 3) := by decide +kernel
theorem dX1_gather_57 : decode cX1_gather 57 = .ok (.return_, 1) := by decide +kernel
theorem dX1_add_0 : decode cX1_add 0 = .ok (.iload_n 1, 1) := by decide +kernel
theorem dX1_add_1 : decode cX1_add 1 = .ok (.iconst (-1), 1) := by decide +kernel
theorem dX1_add_2 : decode cX1_add 2 = .ok (.if_icmp .ne 9, 3) := by decide +kernel
theorem dX1_add_5 : decode cX1_add 5 = .ok (.aload_n 0, 1) := by decide +kernel
theorem dX1_add_6 : decode cX1_add 6 = .ok (.iconst 1, 1) := by decide +kernel
theorem dX1_add_7 : decode cX1_add 7 = .ok (.putfield 25, 3) := by decide +kernel
theorem dX1_add_10 : decode cX1_add 10 = .ok (.return_, 1) := by decide +kernel
theorem dX1_add_11 : decode cX1_add 11 = .ok (.aload_n 0, 1) := by decide +kernel
theorem dX1_add_12 : decode cX1_add 12 = .ok (.getfield 21, 3) := by decide +kernel
theorem dX1_add_15 : decode cX1_add 15 = .ok (.ifCond .le 34, 3) := by decide +kernel
theorem dX1_add_18 : decode cX1_add 18 = .ok (.aload_n 0, 1) := by decide +kernel
theorem dX1_add_19 : decode cX1_add 19 = .ok (.getfield 21, 3) := by decide +kernel
theorem dX1_add_22 : decode cX1_add 22 = .ok (.aload_n 0, 1) := by decide +kernel
theorem dX1_add_23 : decode cX1_add 23 = .ok (.getfield 9, 3) := by decide +kernel
theorem dX1_add_26 : decode cX1_add 26 = .ok (.arraylength, 1) := by decide +kernel
theorem dX1_add_27 : decode cX1_add 27 = .ok (.if_icmp .gt 22, 3) := by decide +kernel
theorem dX1_add_30 : decode cX1_add 30 = .ok (.aload_n 0, 1) := by decide +kernel
theorem dX1_add_31 : decode cX1_add 31 = .ok (.getfield 9, 3) := by decide +kernel
theorem dX1_add_34 : decode cX1_add 34 = .ok (.aload_n 0, 1) := by decide +kernel
theorem dX1_add_35 : decode cX1_add 35 = .ok (.getfield 21, 3) := by decide +kernel
theorem dX1_add_38 : decode cX1_add 38 = .ok (.iconst 1, 1) := by decide +kernel
theorem dX1_add_39 : decode cX1_add 39 = .ok (.isub, 1) := by decide +kernel
theorem dX1_add_40 : decode cX1_add 40 = .ok (.iaload, 1) := by decide +kernel
theorem dX1_add_41 : decode cX1_add 41 = .ok (.iload_n 1, 1) := by decide +kernel
theorem dX1_add_42 : decode cX1_add 42 = .ok (.if_icmp .ne 7, 3) := by decide +kernel
theorem dX1_add_45 : decode cX1_add 45 = .ok (.iconst 1, 1) := by decide +kernel
theorem dX1_add_46 : decode cX1_add 46 = .ok (.goto 4, 3) := by decide +kernel
theorem dX1_add_49 : decode cX1_add 49 = .ok (.iconst 0, 1) := by decide +kernel
theorem dX1_add_50 : decode cX1_add 50 = .ok (.istore_n 2, 1) := by decide +kernel
theorem dX1_add_51 : decode cX1_add 51 = .ok (.iload_n 2, 1) := by decide +kernel
theorem dX1_add_52 : decode cX1_add 52 = .ok (.ifCond .ne 35, 3) := by decide +kernel
theorem dX1_add_55 : decode cX1_add 55 = .ok (.aload_n 0, 1) := by decide +kernel
theorem dX1_add_56 : decode cX1_add 56 = .ok (.getfield 21, 3) := by decide +kernel
theorem dX1_add_59 : decode cX1_add 59 = .ok (.aload_n 0, 1) := by decide +kernel
theorem dX1_add_60 : decode cX1_add 60 = .ok (.getfield 9, 3) := by decide +kernel
theorem dX1_add_63 : decode cX1_add 63 = .ok (.arraylength, 1) := by decide +kernel
theorem dX1_add_64 : decode cX1_add 64 = .ok (.if_icmp .ge 23, 3) := by decide +kernel
theorem dX1_add_67 : decode cX1_add 67 = .ok (.aload_n 0, 1) := by decide +kernel
theorem dX1_add_68 : decode cX1_add 68 = .ok (.getfield 9, 3) := by decide +kernel
theorem dX1_add_71 : decode cX1_add 71 = .ok (.aload_n 0, 1) := by decide +kernel
theorem dX1_add_72 : decode cX1_add 72 = .ok (.getfield 21, 3) := by decide +kernel
theorem dX1_add_75 : decode cX1_add 75 = .ok (.iload_n 1, 1) := by decide +kernel
theorem dX1_add_76 : decode cX1_add 76 = .ok (.iastore, 1) := by decide +kernel
theorem dX1_add_77 : decode cX1_add 77 = .ok (.aload_n 0, 1) := by decide +kernel
theorem dX1_add_78 : decode cX1_add 78 = .ok (.dup, 1) := by decide +kernel
theorem dX1_add_79 : decode cX1_add 79 = .ok (.getfield 21, 3) := by decide +kernel
theorem dX1_add_82 : decode cX1_add 82 = .ok (.iconst 1, 1) := by decide +kernel
theorem dX1_add_83 : decode cX1_add 83 = .ok (.iadd, 1) := by decide +kernel
theorem dX1_add_84 : decode cX1_add 84 = .ok (.putfield 21, 3) := by decide +kernel
theorem dX1_add_87 : decode cX1_add 87 = .ok (.return_, 1) := by decide +kernel
theorem dX1_countResults_0 : decode cX1_countResults 0 = .ok (.aload_n 0, 1) := by decide +kernel
theorem dX1_countResults_1 : decode cX1_countResults 1 = .ok (.getfield 25, 3) := by decide +kernel
theorem dX1_countResults_4 : decode cX1_countResults 4 = .ok (.ifCond .eq 7, 3) := by decide +kernel
theorem dX1_countResults_7 : decode cX1_countResults 7 = .ok (.iconst 1, 1) := by decide +kernel
theorem dX1_countResults_8 : decode cX1_countResults 8 = .ok (.goto 4, 3) := by decide +kernel
theorem dX1_countResults_11 : decode cX1_countResults 11 = .ok (.iconst 0, 1) := by decide +kernel
theorem dX1_countResults_12 : decode cX1_countResults 12 = .ok (.istore_n 2, 1) := by decide +kernel
theorem dX1_countResults_13 : decode cX1_countResults 13 = .ok (.iconst 0, 1) := by decide +kernel
theorem dX1_countResults_14 : decode cX1_countResults 14 = .ok (.istore_n 3, 1) := by decide +kernel
theorem dX1_countResults_15 : decode cX1_countResults 15 = .ok (.iload_n 3, 1) := by decide +kernel
theorem dX1_countResults_16 : decode cX1_countResults 16 = .ok (.aload_n 0, 1) := by decide +kernel
theorem dX1_countResults_17 : decode cX1_countResults 17 = .ok (.getfield 21, 3) := by decide +kernel
theorem dX1_countResults_20 : decode cX1_countResults 20 = .ok (.if_icmp .ge 49, 3) := by decide +kernel
theorem dX1_countResults_23 : decode cX1_countResults 23 = .ok (.iload_n 3, 1) := by decide +kernel
theorem dX1_countResults_24 : decode cX1_countResults 24 = .ok (.aload_n 0, 1) := by decide +kernel
theorem dX1_countResults_25 : decode cX1_countResults 25 = .ok (.getfield 15, 3) := by decide +kernel
theorem dX1_countResults_28 : decode cX1_countResults 28 = .ok (.arraylength, 1) := by decide +kernel
theorem dX1_countResults_29 : decode cX1_countResults 29 = .ok (.if_icmp .ge 40, 3) := by decide +kernel
theorem dX1_countResults_32 : decode cX1_countResults 32 = .ok (.aload_n 0, 1) := by decide +kernel
theorem dX1_countResults_33 : decode cX1_countResults 33 = .ok (.getfield 15, 3) := by decide +kernel
theorem dX1_countResults_36 : decode cX1_countResults 36 = .ok (.iload_n 3, 1) := by decide +kernel
theorem dX1_countResults_37 : decode cX1_countResults 37 = .ok (.aload_n 1, 1) := by decide +kernel
theorem dX1_countResults_38 : decode cX1_countResults 38 = .ok (.aload_n 1, 1) := by decide +kernel
theorem dX1_countResults_39 : decode cX1_countResults 39 = .ok (.getfield 42, 3) := by decide +kernel
theorem dX1_countResults_42 : decode cX1_countResults 42 = .ok (.aload_n 0, 1) := by decide +kernel
theorem dX1_countResults_43 : decode cX1_countResults 43 = .ok (.getfield 9, 3) := by decide +kernel
theorem dX1_countResults_46 : decode cX1_countResults 46 = .ok (.iload_n 3, 1) := by decide +kernel
theorem dX1_countResults_47 : decode cX1_countResults 47 = .ok (.iaload, 1) := by decide +kernel
theorem dX1_countResults_48 : decode cX1_countResults 48 = .ok (.invokevirtual 43, 3) := by decide +kernel
theorem dX1_countResults_51 : decode cX1_countResults 51 = .ok (.iastore, 1) := by decide +kernel
theorem dX1_countResults_52 : decode cX1_countResults 52 = .ok (.aload_n 0, 1) := by decide +kernel
theorem dX1_countResults_53 : decode cX1_countResults 53 = .ok (.iload_n 3, 1) := by decide +kernel
theorem dX1_countResults_54 : decode cX1_countResults 54 = .ok (.invokevirtual 47, 3) := by decide +kernel
theorem dX1_countResults_57 : decode cX1_countResults 57 = .ok (.ifCond .eq 6, 3) := by decide +kernel
theorem dX1_countResults_60 : decode cX1_countResults 60 = .ok (.iinc 2 1, 3) := by decide +kernel
theorem dX1_countResults_63 : decode cX1_countResults 63 = .ok (.iinc 3 1, 3) := by decide +kernel
theorem dX1_countResults_66 : decode cX1_countResults 66 = .ok (.goto (-51), 3) := by decide +kernel
theorem dX1_countResults_69 : decode cX1_countResults 69 = .ok (.iload_n 2, 1) := by decide +kernel
theorem dX1_countResults_70 : decode cX1_countResults 70 = .ok (.ireturn, 1) := by decide +kernel
theorem dX1_isNew_0 : decode cX1_isNew 0 = .ok (.iconst 0, 1) := by decide +kernel
theorem dX1_isNew_1 : decode cX1_isNew 1 = .ok (.istore_n 2, 1) := by decide +kernel
theorem dX1_isNew_2 : decode cX1_isNew 2 = .ok (.iload_n 2, 1) := by decide +kernel
theorem dX1_isNew_3 : decode cX1_isNew 3 = .ok (.iload_n 1, 1) := by decide +kernel
theorem dX1_isNew_4 : decode cX1_isNew 4 = .ok (.if_icmp .ge 26, 3) := by decide +kernel
theorem dX1_isNew_7 : decode cX1_isNew 7 = .ok (.aload_n 0, 1) := by decide +kernel
theorem dX1_isNew_8 : decode cX1_isNew 8 = .ok (.getfield 15, 3) := by decide +kernel
theorem dX1_isNew_11 : decode cX1_isNew 11 = .ok (.iload_n 2, 1) := by decide +kernel
theorem dX1_isNew_12 : decode cX1_isNew 12 = .ok (.iaload, 1) := by decide +kernel
theorem dX1_isNew_13 : decode cX1_isNew 13 = .ok (.aload_n 0, 1) := by decide +kernel
theorem dX1_isNew_14 : decode cX1_isNew 14 = .ok (.getfield 15, 3) := by decide +kernel
theorem dX1_isNew_17 : decode cX1_isNew 17 = .ok (.iload_n 1, 1) := by decide +kernel
theorem dX1_isNew_18 : decode cX1_isNew 18 = .ok (.iaload, 1) := by decide +kernel
theorem dX1_isNew_19 : decode cX1_isNew 19 = .ok (.if_icmp .ne 5, 3) := by decide +kernel
theorem dX1_isNew_22 : decode cX1_isNew 22 = .ok (.iconst 0, 1) := by decide +kernel
theorem dX1_isNew_23 : decode cX1_isNew 23 = .ok (.ireturn, 1) := by decide +kernel
theorem dX1_isNew_24 : decode cX1_isNew 24 = .ok (.iinc 2 1, 3) := by decide +kernel
theorem dX1_isNew_27 : decode cX1_isNew 27 = .ok (.goto (-25), 3) := by decide +kernel
theorem dX1_isNew_30 : decode cX1_isNew 30 = .ok (.iconst 1, 1) := by decide +kernel
theorem dX1_isNew_31 : decode cX1_isNew 31 = .ok (.ireturn, 1) := by decide +kernel
theorem dX1_reaches_0 : decode cX1_reaches 0 = .ok (.iconst 0, 1) := by decide +kernel
theorem dX1_reaches_1 : decode cX1_reaches 1 = .ok (.istore 4, 2) := by decide +kernel
theorem dX1_reaches_3 : decode cX1_reaches 3 = .ok (.iload 4, 2) := by decide +kernel
theorem dX1_reaches_5 : decode cX1_reaches 5 = .ok (.aload_n 0, 1) := by decide +kernel
theorem dX1_reaches_6 : decode cX1_reaches 6 = .ok (.getfield 21, 3) := by decide +kernel
theorem dX1_reaches_9 : decode cX1_reaches 9 = .ok (.if_icmp .ge 39, 3) := by decide +kernel
theorem dX1_reaches_12 : decode cX1_reaches 12 = .ok (.iload 4, 2) := by decide +kernel
theorem dX1_reaches_14 : decode cX1_reaches 14 = .ok (.aload_n 0, 1) := by decide +kernel
theorem dX1_reaches_15 : decode cX1_reaches 15 = .ok (.getfield 9, 3) := by decide +kernel
theorem dX1_reaches_18 : decode cX1_reaches 18 = .ok (.arraylength, 1) := by decide +kernel
theorem dX1_reaches_19 : decode cX1_reaches 19 = .ok (.if_icmp .ge 29, 3) := by decide +kernel
theorem dX1_reaches_22 : decode cX1_reaches 22 = .ok (.aload_n 1, 1) := by decide +kernel
theorem dX1_reaches_23 : decode cX1_reaches 23 = .ok (.aload_n 2, 1) := by decide +kernel
theorem dX1_reaches_24 : decode cX1_reaches 24 = .ok (.aload_n 0, 1) := by decide +kernel
theorem dX1_reaches_25 : decode cX1_reaches 25 = .ok (.getfield 9, 3) := by decide +kernel
theorem dX1_reaches_28 : decode cX1_reaches 28 = .ok (.iload 4, 2) := by decide +kernel
theorem dX1_reaches_30 : decode cX1_reaches 30 = .ok (.iaload, 1) := by decide +kernel
theorem dX1_reaches_31 : decode cX1_reaches 31 = .ok (.invokevirtual 43, 3) := by decide +kernel
theorem dX1_reaches_34 : decode cX1_reaches 34 = .ok (.iconst 1, 1) := by decide +kernel
theorem dX1_reaches_35 : decode cX1_reaches 35 = .ok (.iand, 1) := by decide +kernel
theorem dX1_reaches_36 : decode cX1_reaches 36 = .ok (.iload_n 3, 1) := by decide +kernel
theorem dX1_reaches_37 : decode cX1_reaches 37 = .ok (.if_icmp .ne 5, 3) := by decide +kernel
theorem dX1_reaches_40 : decode cX1_reaches 40 = .ok (.iconst 1, 1) := by decide +kernel
theorem dX1_reaches_41 : decode cX1_reaches 41 = .ok (.ireturn, 1) := by decide +kernel
theorem dX1_reaches_42 : decode cX1_reaches 42 = .ok (.iinc 4 1, 3) := by decide +kernel
theorem dX1_reaches_45 : decode cX1_reaches 45 = .ok (.goto (-42), 3) := by decide +kernel
theorem dX1_reaches_48 : decode cX1_reaches 48 = .ok (.iconst 0, 1) := by decide +kernel
theorem dX1_reaches_49 : decode cX1_reaches 49 = .ok (.ireturn, 1) := by decide +kernel
theorem dX1_countForced_0 : decode cX1_countForced 0 = .ok (.aload_n 1, 1) := by decide +kernel
theorem dX1_countForced_1 : decode cX1_countForced 1 = .ok (.getfield 42, 3) := by decide +kernel
theorem dX1_countForced_4 : decode cX1_countForced 4 = .ok (.iconst 0, 1) := by decide +kernel
theorem dX1_countForced_5 : decode cX1_countForced 5 = .ok (.aload_n 0, 1) := by decide +kernel
theorem dX1_countForced_6 : decode cX1_countForced 6 = .ok (.getfield 18, 3) := by decide +kernel
theorem dX1_countForced_9 : decode cX1_countForced 9 = .ok (.iconst 0, 1) := by decide +kernel
theorem dX1_countForced_10 : decode cX1_countForced 10 = .ok (.bipush 8, 2) := by decide +kernel
theorem dX1_countForced_12 : decode cX1_countForced 12 = .ok (.invokestatic 51, 3) := by decide +kernel
theorem dX1_countForced_15 : decode cX1_countForced 15 = .ok (.iconst 1, 1) := by decide +kernel
theorem dX1_countForced_16 : decode cX1_countForced 16 = .ok (.iload_n 3, 1) := by decide +kernel
theorem dX1_countForced_17 : decode cX1_countForced 17 = .ok (.iload_n 2, 1) := by decide +kernel
theorem dX1_countForced_18 : decode cX1_countForced 18 = .ok (.invokestatic 57, 3) := by decide +kernel
theorem dX1_countForced_21 : decode cX1_countForced 21 = .ok (.imul, 1) := by decide +kernel
theorem dX1_countForced_22 : decode cX1_countForced 22 = .ok (.ishl, 1) := by decide +kernel
theorem dX1_countForced_23 : decode cX1_countForced 23 = .ok (.istore 4, 2) := by decide +kernel
theorem dX1_countForced_25 : decode cX1_countForced 25 = .ok (.iconst 0, 1) := by decide +kernel
theorem dX1_countForced_26 : decode cX1_countForced 26 = .ok (.istore 5, 2) := by decide +kernel
theorem dX1_countForced_28 : decode cX1_countForced 28 = .ok (.iconst 0, 1) := by decide +kernel
theorem dX1_countForced_29 : decode cX1_countForced 29 = .ok (.istore 6, 2) := by decide +kernel
theorem dX1_countForced_31 : decode cX1_countForced 31 = .ok (.iload 6, 2) := by decide +kernel
theorem dX1_countForced_33 : decode cX1_countForced 33 = .ok (.iload 4, 2) := by decide +kernel
theorem dX1_countForced_35 : decode cX1_countForced 35 = .ok (.if_icmp .ge 33, 3) := by decide +kernel
theorem dX1_countForced_38 : decode cX1_countForced 38 = .ok (.aload_n 0, 1) := by decide +kernel
theorem dX1_countForced_39 : decode cX1_countForced 39 = .ok (.iload 6, 2) := by decide +kernel
theorem dX1_countForced_41 : decode cX1_countForced 41 = .ok (.iload_n 2, 1) := by decide +kernel
theorem dX1_countForced_42 : decode cX1_countForced 42 = .ok (.iload_n 3, 1) := by decide +kernel
theorem dX1_countForced_43 : decode cX1_countForced 43 = .ok (.invokevirtual 62, 3) := by decide +kernel
theorem dX1_countForced_46 : decode cX1_countForced 46 = .ok (.aload_n 0, 1) := by decide +kernel
theorem dX1_countForced_47 : decode cX1_countForced 47 = .ok (.aload_n 1, 1) := by decide +kernel
theorem dX1_countForced_48 : decode cX1_countForced 48 = .ok (.aload_n 0, 1) := by decide +kernel
theorem dX1_countForced_49 : decode cX1_countForced 49 = .ok (.getfield 18, 3) := by decide +kernel
theorem dX1_countForced_52 : decode cX1_countForced 52 = .ok (.iconst 1, 1) := by decide +kernel
theorem dX1_countForced_53 : decode cX1_countForced 53 = .ok (.invokevirtual 66, 3) := by decide +kernel
theorem dX1_countForced_56 : decode cX1_countForced 56 = .ok (.ifCond .eq 6, 3) := by decide +kernel
theorem dX1_countForced_59 : decode cX1_countForced 59 = .ok (.iinc 5 1, 3) := by decide +kernel
theorem dX1_countForced_62 : decode cX1_countForced 62 = .ok (.iinc 6 1, 3) := by decide +kernel
theorem dX1_countForced_65 : decode cX1_countForced 65 = .ok (.goto (-34), 3) := by decide +kernel
theorem dX1_countForced_68 : decode cX1_countForced 68 = .ok (.iload 5, 2) := by decide +kernel
theorem dX1_countForced_70 : decode cX1_countForced 70 = .ok (.ireturn, 1) := by decide +kernel
theorem dX1_spread_0 : decode cX1_spread 0 = .ok (.iload_n 1, 1) := by decide +kernel
theorem dX1_spread_1 : decode cX1_spread 1 = .ok (.istore 4, 2) := by decide +kernel
theorem dX1_spread_3 : decode cX1_spread 3 = .ok (.iconst 0, 1) := by decide +kernel
theorem dX1_spread_4 : decode cX1_spread 4 = .ok (.istore 5, 2) := by decide +kernel
theorem dX1_spread_6 : decode cX1_spread 6 = .ok (.iload 5, 2) := by decide +kernel
theorem dX1_spread_8 : decode cX1_spread 8 = .ok (.bipush 8, 2) := by decide +kernel
theorem dX1_spread_10 : decode cX1_spread 10 = .ok (.if_icmp .ge 39, 3) := by decide +kernel
theorem dX1_spread_13 : decode cX1_spread 13 = .ok (.iload_n 2, 1) := by decide +kernel
theorem dX1_spread_14 : decode cX1_spread 14 = .ok (.iload 5, 2) := by decide +kernel
theorem dX1_spread_16 : decode cX1_spread 16 = .ok (.invokestatic 70, 3) := by decide +kernel
theorem dX1_spread_19 : decode cX1_spread 19 = .ok (.ifCond .eq 24, 3) := by decide +kernel
theorem dX1_spread_22 : decode cX1_spread 22 = .ok (.aload_n 0, 1) := by decide +kernel
theorem dX1_spread_23 : decode cX1_spread 23 = .ok (.getfield 18, 3) := by decide +kernel
theorem dX1_spread_26 : decode cX1_spread 26 = .ok (.iload 5, 2) := by decide +kernel
theorem dX1_spread_28 : decode cX1_spread 28 = .ok (.iload 4, 2) := by decide +kernel
theorem dX1_spread_30 : decode cX1_spread 30 = .ok (.iconst 1, 1) := by decide +kernel
theorem dX1_spread_31 : decode cX1_spread 31 = .ok (.iload_n 3, 1) := by decide +kernel
theorem dX1_spread_32 : decode cX1_spread 32 = .ok (.ishl, 1) := by decide +kernel
theorem dX1_spread_33 : decode cX1_spread 33 = .ok (.iconst 1, 1) := by decide +kernel
theorem dX1_spread_34 : decode cX1_spread 34 = .ok (.isub, 1) := by decide +kernel
theorem dX1_spread_35 : decode cX1_spread 35 = .ok (.iand, 1) := by decide +kernel
theorem dX1_spread_36 : decode cX1_spread 36 = .ok (.iastore, 1) := by decide +kernel
theorem dX1_spread_37 : decode cX1_spread 37 = .ok (.iload 4, 2) := by decide +kernel
theorem dX1_spread_39 : decode cX1_spread 39 = .ok (.iload_n 3, 1) := by decide +kernel
theorem dX1_spread_40 : decode cX1_spread 40 = .ok (.iushr, 1) := by decide +kernel
theorem dX1_spread_41 : decode cX1_spread 41 = .ok (.istore 4, 2) := by decide +kernel
theorem dX1_spread_43 : decode cX1_spread 43 = .ok (.iinc 5 1, 3) := by decide +kernel
theorem dX1_spread_46 : decode cX1_spread 46 = .ok (.goto (-40), 3) := by decide +kernel
theorem dX1_spread_49 : decode cX1_spread 49 = .ok (.return_, 1) := by decide +kernel
theorem dX2_playRound_0 : decode cX2_playRound 0 = .ok (.aload_n 0, 1) := by decide +kernel
theorem dX2_playRound_1 : decode cX2_playRound 1 = .ok (.invokevirtual 9, 3) := by decide +kernel
theorem dX2_playRound_4 : decode cX2_playRound 4 = .ok (.aload_n 0, 1) := by decide +kernel
theorem dX2_playRound_5 : decode cX2_playRound 5 = .ok (.iload_n 1, 1) := by decide +kernel
theorem dX2_playRound_6 : decode cX2_playRound 6 = .ok (.invokestatic 14, 3) := by decide +kernel
theorem dX2_playRound_9 : decode cX2_playRound 9 = .ok (.aload_n 0, 1) := by decide +kernel
theorem dX2_playRound_10 : decode cX2_playRound 10 = .ok (.getfield 20, 3) := by decide +kernel
theorem dX2_playRound_13 : decode cX2_playRound 13 = .ok (.iconst 1, 1) := by decide +kernel
theorem dX2_playRound_14 : decode cX2_playRound 14 = .ok (.if_icmp .ne 11, 3) := by decide +kernel
theorem dX2_playRound_17 : decode cX2_playRound 17 = .ok (.aload_n 0, 1) := by decide +kernel
theorem dX2_playRound_18 : decode cX2_playRound 18 = .ok (.invokestatic 24, 3) := by decide +kernel
theorem dX2_playRound_21 : decode cX2_playRound 21 = .ok (.aload_n 0, 1) := by decide +kernel
theorem dX2_playRound_22 : decode cX2_playRound 22 = .ok (.invokestatic 28, 3) := by decide +kernel
theorem dX2_playRound_25 : decode cX2_playRound 25 = .ok (.aload_n 0, 1) := by decide +kernel
theorem dX2_playRound_26 : decode cX2_playRound 26 = .ok (.invokevirtual 31, 3) := by decide +kernel
theorem dX2_playRound_29 : decode cX2_playRound 29 = .ok (.bipush (-5), 2) := by decide +kernel
theorem dX2_playRound_31 : decode cX2_playRound 31 = .ok (.if_icmp .ne 6, 3) := by decide +kernel
theorem dX2_playRound_34 : decode cX2_playRound 34 = .ok (.bipush (-5), 2) := by decide +kernel
theorem dX2_playRound_36 : decode cX2_playRound 36 = .ok (.ireturn, 1) := by decide +kernel
theorem dX2_playRound_37 : decode cX2_playRound 37 = .ok (.aload_n 0, 1) := by decide +kernel
theorem dX2_playRound_38 : decode cX2_playRound 38 = .ok (.invokestatic 35, 3) := by decide +kernel
theorem dX2_playRound_41 : decode cX2_playRound 41 = .ok (.aload_n 0, 1) := by decide +kernel
theorem dX2_playRound_42 : decode cX2_playRound 42 = .ok (.invokestatic 38, 3) := by decide +kernel
theorem dX2_playRound_45 : decode cX2_playRound 45 = .ok (.aload_n 0, 1) := by decide +kernel
theorem dX2_playRound_46 : decode cX2_playRound 46 = .ok (.invokevirtual 41, 3) := by decide +kernel
theorem dX2_playRound_49 : decode cX2_playRound 49 = .ok (.ireturn, 1) := by decide +kernel
theorem dX2_commitAll_0 : decode cX2_commitAll 0 = .ok (.iload_n 1, 1) := by decide +kernel
theorem dX2_commitAll_1 : decode cX2_commitAll 1 = .ok (.istore_n 2, 1) := by decide +kernel
theorem dX2_commitAll_2 : decode cX2_commitAll 2 = .ok (.iconst 0, 1) := by decide +kernel
theorem dX2_commitAll_3 : decode cX2_commitAll 3 = .ok (.istore_n 3, 1) := by decide +kernel
theorem dX2_commitAll_4 : decode cX2_commitAll 4 = .ok (.iload_n 3, 1) := by decide +kernel
theorem dX2_commitAll_5 : decode cX2_commitAll 5 = .ok (.bipush 8, 2) := by decide +kernel
theorem dX2_commitAll_7 : decode cX2_commitAll 7 = .ok (.if_icmp .ge 70, 3) := by decide +kernel
theorem dX2_commitAll_10 : decode cX2_commitAll 10 = .ok (.aload_n 0, 1) := by decide +kernel
theorem dX2_commitAll_11 : decode cX2_commitAll 11 = .ok (.getfield 44, 3) := by decide +kernel
theorem dX2_commitAll_14 : decode cX2_commitAll 14 = .ok (.iload_n 3, 1) := by decide +kernel
theorem dX2_commitAll_15 : decode cX2_commitAll 15 = .ok (.invokestatic 47, 3) := by decide +kernel
theorem dX2_commitAll_18 : decode cX2_commitAll 18 = .ok (.ifCond .eq 53, 3) := by decide +kernel
theorem dX2_commitAll_21 : decode cX2_commitAll 21 = .ok (.iload_n 2, 1) := by decide +kernel
theorem dX2_commitAll_22 : decode cX2_commitAll 22 = .ok (.invokestatic 51, 3) := by decide +kernel
theorem dX2_commitAll_25 : decode cX2_commitAll 25 = .ok (.istore_n 2, 1) := by decide +kernel
theorem dX2_commitAll_26 : decode cX2_commitAll 26 = .ok (.iload_n 2, 1) := by decide +kernel
theorem dX2_commitAll_27 : decode cX2_commitAll 27 = .ok (.invokestatic 55, 3) := by decide +kernel
theorem dX2_commitAll_30 : decode cX2_commitAll 30 = .ok (.sipush 1019, 3) := by decide +kernel
theorem dX2_commitAll_33 : decode cX2_commitAll 33 = .ok (.irem, 1) := by decide +kernel
theorem dX2_commitAll_34 : decode cX2_commitAll 34 = .ok (.istore 4, 2) := by decide +kernel
theorem dX2_commitAll_36 : decode cX2_commitAll 36 = .ok (.iload_n 2, 1) := by decide +kernel
theorem dX2_commitAll_37 : decode cX2_commitAll 37 = .ok (.invokestatic 51, 3) := by decide +kernel
theorem dX2_commitAll_40 : decode cX2_commitAll 40 = .ok (.istore_n 2, 1) := by decide +kernel
theorem dX2_commitAll_41 : decode cX2_commitAll 41 = .ok (.iload_n 2, 1) := by decide +kernel
theorem dX2_commitAll_42 : decode cX2_commitAll 42 = .ok (.invokestatic 55, 3) := by decide +kernel
theorem dX2_commitAll_45 : decode cX2_commitAll 45 = .ok (.istore 5, 2) := by decide +kernel
theorem dX2_commitAll_47 : decode cX2_commitAll 47 = .ok (.aload_n 0, 1) := by decide +kernel
theorem dX2_commitAll_48 : decode cX2_commitAll 48 = .ok (.aload_n 0, 1) := by decide +kernel
theorem dX2_commitAll_49 : decode cX2_commitAll 49 = .ok (.iload 4, 2) := by decide +kernel
theorem dX2_commitAll_51 : decode cX2_commitAll 51 = .ok (.iload 5, 2) := by decide +kernel
theorem dX2_commitAll_53 : decode cX2_commitAll 53 = .ok (.invokevirtual 58, 3) := by decide +kernel
theorem dX2_commitAll_56 : decode cX2_commitAll 56 = .ok (.invokevirtual 62, 3) := by decide +kernel
theorem dX2_commitAll_59 : decode cX2_commitAll 59 = .ok (.ifCond .ne 12, 3) := by decide +kernel
theorem dX2_commitAll_62 : decode cX2_commitAll 62 = .ok (.aload_n 0, 1) := by decide +kernel
theorem dX2_commitAll_63 : decode cX2_commitAll 63 = .ok (.iload_n 3, 1) := by decide +kernel
theorem dX2_commitAll_64 : decode cX2_commitAll 64 = .ok (.iload 4, 2) := by decide +kernel
theorem dX2_commitAll_66 : decode cX2_commitAll 66 = .ok (.iload 5, 2) := by decide +kernel
theorem dX2_commitAll_68 : decode cX2_commitAll 68 = .ok (.invokevirtual 66, 3) := by decide +kernel
theorem dX2_commitAll_71 : decode cX2_commitAll 71 = .ok (.iinc 3 1, 3) := by decide +kernel
theorem dX2_commitAll_74 : decode cX2_commitAll 74 = .ok (.goto (-70), 3) := by decide +kernel
theorem dX2_commitAll_77 : decode cX2_commitAll 77 = .ok (.return_, 1) := by decide +kernel
theorem dX2_cheat_0 : decode cX2_cheat 0 = .ok (.iconst 0, 1) := by decide +kernel
theorem dX2_cheat_1 : decode cX2_cheat 1 = .ok (.istore_n 1, 1) := by decide +kernel
theorem dX2_cheat_2 : decode cX2_cheat 2 = .ok (.iload_n 1, 1) := by decide +kernel
theorem dX2_cheat_3 : decode cX2_cheat 3 = .ok (.bipush 8, 2) := by decide +kernel
theorem dX2_cheat_5 : decode cX2_cheat 5 = .ok (.if_icmp .ge 52, 3) := by decide +kernel
theorem dX2_cheat_8 : decode cX2_cheat 8 = .ok (.aload_n 0, 1) := by decide +kernel
theorem dX2_cheat_9 : decode cX2_cheat 9 = .ok (.getfield 70, 3) := by decide +kernel
theorem dX2_cheat_12 : decode cX2_cheat 12 = .ok (.iload_n 1, 1) := by decide +kernel
theorem dX2_cheat_13 : decode cX2_cheat 13 = .ok (.invokestatic 47, 3) := by decide +kernel
theorem dX2_cheat_16 : decode cX2_cheat 16 = .ok (.ifCond .eq 35, 3) := by decide +kernel
theorem dX2_cheat_19 : decode cX2_cheat 19 = .ok (.aload_n 0, 1) := by decide +kernel
theorem dX2_cheat_20 : decode cX2_cheat 20 = .ok (.getfield 73, 3) := by decide +kernel
theorem dX2_cheat_23 : decode cX2_cheat 23 = .ok (.iload_n 1, 1) := by decide +kernel
theorem dX2_cheat_24 : decode cX2_cheat 24 = .ok (.aaload, 1) := by decide +kernel
theorem dX2_cheat_25 : decode cX2_cheat 25 = .ok (.getfield 77, 3) := by decide +kernel
theorem dX2_cheat_28 : decode cX2_cheat 28 = .ok (.iconst 3, 1) := by decide +kernel
theorem dX2_cheat_29 : decode cX2_cheat 29 = .ok (.if_icmp .ne 22, 3) := by decide +kernel
theorem dX2_cheat_32 : decode cX2_cheat 32 = .ok (.aload_n 0, 1) := by decide +kernel
theorem dX2_cheat_33 : decode cX2_cheat 33 = .ok (.getfield 73, 3) := by decide +kernel
theorem dX2_cheat_36 : decode cX2_cheat 36 = .ok (.iload_n 1, 1) := by decide +kernel
theorem dX2_cheat_37 : decode cX2_cheat 37 = .ok (.aaload, 1) := by decide +kernel
theorem dX2_cheat_38 : decode cX2_cheat 38 = .ok (.aload_n 0, 1) := by decide +kernel
theorem dX2_cheat_39 : decode cX2_cheat 39 = .ok (.iload_n 1, 1) := by decide +kernel
theorem dX2_cheat_40 : decode cX2_cheat 40 = .ok (.invokestatic 82, 3) := by decide +kernel
theorem dX2_cheat_43 : decode cX2_cheat 43 = .ok (.iconst 1, 1) := by decide +kernel
theorem dX2_cheat_44 : decode cX2_cheat 44 = .ok (.aload_n 0, 1) := by decide +kernel
theorem dX2_cheat_45 : decode cX2_cheat 45 = .ok (.getfield 86, 3) := by decide +kernel
theorem dX2_cheat_48 : decode cX2_cheat 48 = .ok (.invokevirtual 89, 3) := by decide +kernel
theorem dX2_cheat_51 : decode cX2_cheat 51 = .ok (.iinc 1 1, 3) := by decide +kernel
theorem dX2_cheat_54 : decode cX2_cheat 54 = .ok (.goto (-52), 3) := by decide +kernel
theorem dX2_cheat_57 : decode cX2_cheat 57 = .ok (.return_, 1) := by decide +kernel
theorem dX2_memberAfter_0 : decode cX2_memberAfter 0 = .ok (.iconst 1, 1) := by decide +kernel
theorem dX2_memberAfter_1 : decode cX2_memberAfter 1 = .ok (.istore_n 2, 1) := by decide +kernel
theorem dX2_memberAfter_2 : decode cX2_memberAfter 2 = .ok (.iload_n 2, 1) := by decide +kernel
theorem dX2_memberAfter_3 : decode cX2_memberAfter 3 = .ok (.bipush 8, 2) := by decide +kernel
theorem dX2_memberAfter_5 : decode cX2_memberAfter 5 = .ok (.if_icmp .ge 29, 3) := by decide +kernel
theorem dX2_memberAfter_8 : decode cX2_memberAfter 8 = .ok (.iload_n 1, 1) := by decide +kernel
theorem dX2_memberAfter_9 : decode cX2_memberAfter 9 = .ok (.iload_n 2, 1) := by decide +kernel
theorem dX2_memberAfter_10 : decode cX2_memberAfter 10 = .ok (.iadd, 1) := by decide +kernel
theorem dX2_memberAfter_11 : decode cX2_memberAfter 11 = .ok (.bipush 8, 2) := by decide +kernel
theorem dX2_memberAfter_13 : decode cX2_memberAfter 13 = .ok (.irem, 1) := by decide +kernel
theorem dX2_memberAfter_14 : decode cX2_memberAfter 14 = .ok (.istore_n 3, 1) := by decide +kernel
theorem dX2_memberAfter_15 : decode cX2_memberAfter 15 = .ok (.aload_n 0, 1) := by decide +kernel
theorem dX2_memberAfter_16 : decode cX2_memberAfter 16 = .ok (.getfield 44, 3) := by decide +kernel
theorem dX2_memberAfter_19 : decode cX2_memberAfter 19 = .ok (.iload_n 3, 1) := by decide +kernel
theorem dX2_memberAfter_20 : decode cX2_memberAfter 20 = .ok (.invokestatic 47, 3) := by decide +kernel
theorem dX2_memberAfter_23 : decode cX2_memberAfter 23 = .ok (.ifCond .eq 5, 3) := by decide +kernel
theorem dX2_memberAfter_26 : decode cX2_memberAfter 26 = .ok (.iload_n 3, 1) := by decide +kernel
theorem dX2_memberAfter_27 : decode cX2_memberAfter 27 = .ok (.ireturn, 1) := by decide +kernel
theorem dX2_memberAfter_28 : decode cX2_memberAfter 28 = .ok (.iinc 2 1, 3) := by decide +kernel
theorem dX2_memberAfter_31 : decode cX2_memberAfter 31 = .ok (.goto (-29), 3) := by decide +kernel
theorem dX2_memberAfter_34 : decode cX2_memberAfter 34 = .ok (.iload_n 1, 1) := by decide +kernel
theorem dX2_memberAfter_35 : decode cX2_memberAfter 35 = .ok (.ireturn, 1) := by decide +kernel
theorem dX2_complainAll_0 : decode cX2_complainAll 0 = .ok (.iconst 0, 1) := by decide +kernel
theorem dX2_complainAll_1 : decode cX2_complainAll 1 = .ok (.istore_n 1, 1) := by decide +kernel
theorem dX2_complainAll_2 : decode cX2_complainAll 2 = .ok (.iload_n 1, 1) := by decide +kernel
theorem dX2_complainAll_3 : decode cX2_complainAll 3 = .ok (.bipush 8, 2) := by decide +kernel
theorem dX2_complainAll_5 : decode cX2_complainAll 5 = .ok (.if_icmp .ge 71, 3) := by decide +kernel
theorem dX2_complainAll_8 : decode cX2_complainAll 8 = .ok (.iconst 0, 1) := by decide +kernel
theorem dX2_complainAll_9 : decode cX2_complainAll 9 = .ok (.istore_n 2, 1) := by decide +kernel
theorem dX2_complainAll_10 : decode cX2_complainAll 10 = .ok (.iload_n 2, 1) := by decide +kernel
theorem dX2_complainAll_11 : decode cX2_complainAll 11 = .ok (.bipush 8, 2) := by decide +kernel
theorem dX2_complainAll_13 : decode cX2_complainAll 13 = .ok (.if_icmp .ge 57, 3) := by decide +kernel
theorem dX2_complainAll_16 : decode cX2_complainAll 16 = .ok (.iload_n 1, 1) := by decide +kernel
theorem dX2_complainAll_17 : decode cX2_complainAll 17 = .ok (.iload_n 2, 1) := by decide +kernel
theorem dX2_complainAll_18 : decode cX2_complainAll 18 = .ok (.if_icmp .eq 46, 3) := by decide +kernel
theorem dX2_complainAll_21 : decode cX2_complainAll 21 = .ok (.aload_n 0, 1) := by decide +kernel
theorem dX2_complainAll_22 : decode cX2_complainAll 22 = .ok (.getfield 44, 3) := by decide +kernel
theorem dX2_complainAll_25 : decode cX2_complainAll 25 = .ok (.iload_n 1, 1) := by decide +kernel
theorem dX2_complainAll_26 : decode cX2_complainAll 26 = .ok (.invokestatic 47, 3) := by decide +kernel
theorem dX2_complainAll_29 : decode cX2_complainAll 29 = .ok (.ifCond .eq 35, 3) := by decide +kernel
theorem dX2_complainAll_32 : decode cX2_complainAll 32 = .ok (.aload_n 0, 1) := by decide +kernel
theorem dX2_complainAll_33 : decode cX2_complainAll 33 = .ok (.getfield 70, 3) := by decide +kernel
theorem dX2_complainAll_36 : decode cX2_complainAll 36 = .ok (.iload_n 2, 1) := by decide +kernel
theorem dX2_complainAll_37 : decode cX2_complainAll 37 = .ok (.invokestatic 47, 3) := by decide +kernel
theorem dX2_complainAll_40 : decode cX2_complainAll 40 = .ok (.ifCond .eq 24, 3) := by decide +kernel
theorem dX2_complainAll_43 : decode cX2_complainAll 43 = .ok (.aload_n 0, 1) := by decide +kernel
theorem dX2_complainAll_44 : decode cX2_complainAll 44 = .ok (.getfield 73, 3) := by decide +kernel
theorem dX2_complainAll_47 : decode cX2_complainAll 47 = .ok (.iload_n 2, 1) := by decide +kernel
theorem dX2_complainAll_48 : decode cX2_complainAll 48 = .ok (.aaload, 1) := by decide +kernel
theorem dX2_complainAll_49 : decode cX2_complainAll 49 = .ok (.getfield 92, 3) := by decide +kernel
theorem dX2_complainAll_52 : decode cX2_complainAll 52 = .ok (.iload_n 1, 1) := by decide +kernel
theorem dX2_complainAll_53 : decode cX2_complainAll 53 = .ok (.invokestatic 47, 3) := by decide +kernel
theorem dX2_complainAll_56 : decode cX2_complainAll 56 = .ok (.ifCond .ne 8, 3) := by decide +kernel
theorem dX2_complainAll_59 : decode cX2_complainAll 59 = .ok (.aload_n 0, 1) := by decide +kernel
theorem dX2_complainAll_60 : decode cX2_complainAll 60 = .ok (.iload_n 2, 1) := by decide +kernel
theorem dX2_complainAll_61 : decode cX2_complainAll 61 = .ok (.invokevirtual 95, 3) := by decide +kernel
theorem dX2_complainAll_64 : decode cX2_complainAll 64 = .ok (.iinc 2 1, 3) := by decide +kernel
theorem dX2_complainAll_67 : decode cX2_complainAll 67 = .ok (.goto (-57), 3) := by decide +kernel
theorem dX2_complainAll_70 : decode cX2_complainAll 70 = .ok (.iinc 1 1, 3) := by decide +kernel
theorem dX2_complainAll_73 : decode cX2_complainAll 73 = .ok (.goto (-71), 3) := by decide +kernel
theorem dX2_complainAll_76 : decode cX2_complainAll 76 = .ok (.return_, 1) := by decide +kernel
theorem dX2_openHonest_0 : decode cX2_openHonest 0 = .ok (.iconst 0, 1) := by decide +kernel
theorem dX2_openHonest_1 : decode cX2_openHonest 1 = .ok (.istore_n 1, 1) := by decide +kernel
theorem dX2_openHonest_2 : decode cX2_openHonest 2 = .ok (.iload_n 1, 1) := by decide +kernel
theorem dX2_openHonest_3 : decode cX2_openHonest 3 = .ok (.bipush 8, 2) := by decide +kernel
theorem dX2_openHonest_5 : decode cX2_openHonest 5 = .ok (.if_icmp .ge 51, 3) := by decide +kernel
theorem dX2_openHonest_8 : decode cX2_openHonest 8 = .ok (.aload_n 0, 1) := by decide +kernel
theorem dX2_openHonest_9 : decode cX2_openHonest 9 = .ok (.getfield 73, 3) := by decide +kernel
theorem dX2_openHonest_12 : decode cX2_openHonest 12 = .ok (.iload_n 1, 1) := by decide +kernel
theorem dX2_openHonest_13 : decode cX2_openHonest 13 = .ok (.aaload, 1) := by decide +kernel
theorem dX2_openHonest_14 : decode cX2_openHonest 14 = .ok (.getfield 77, 3) := by decide +kernel
theorem dX2_openHonest_17 : decode cX2_openHonest 17 = .ok (.istore_n 2, 1) := by decide +kernel
theorem dX2_openHonest_18 : decode cX2_openHonest 18 = .ok (.aload_n 0, 1) := by decide +kernel
theorem dX2_openHonest_19 : decode cX2_openHonest 19 = .ok (.getfield 44, 3) := by decide +kernel
theorem dX2_openHonest_22 : decode cX2_openHonest 22 = .ok (.iload_n 1, 1) := by decide +kernel
theorem dX2_openHonest_23 : decode cX2_openHonest 23 = .ok (.invokestatic 47, 3) := by decide +kernel
theorem dX2_openHonest_26 : decode cX2_openHonest 26 = .ok (.ifCond .eq 24, 3) := by decide +kernel
theorem dX2_openHonest_29 : decode cX2_openHonest 29 = .ok (.iload_n 2, 1) := by decide +kernel
theorem dX2_openHonest_30 : decode cX2_openHonest 30 = .ok (.ifCond .eq 8, 3) := by decide +kernel
theorem dX2_openHonest_33 : decode cX2_openHonest 33 = .ok (.iload_n 2, 1) := by decide +kernel
theorem dX2_openHonest_34 : decode cX2_openHonest 34 = .ok (.iconst 3, 1) := by decide +kernel
theorem dX2_openHonest_35 : decode cX2_openHonest 35 = .ok (.if_icmp .ne 15, 3) := by decide +kernel
theorem dX2_openHonest_38 : decode cX2_openHonest 38 = .ok (.aload_n 0, 1) := by decide +kernel
theorem dX2_openHonest_39 : decode cX2_openHonest 39 = .ok (.dup, 1) := by decide +kernel
theorem dX2_openHonest_40 : decode cX2_openHonest 40 = .ok (.getfield 99, 3) := by decide +kernel
theorem dX2_openHonest_43 : decode cX2_openHonest 43 = .ok (.iconst 1, 1) := by decide +kernel
theorem dX2_openHonest_44 : decode cX2_openHonest 44 = .ok (.iload_n 1, 1) := by decide +kernel
theorem dX2_openHonest_45 : decode cX2_openHonest 45 = .ok (.ishl, 1) := by decide +kernel
theorem dX2_openHonest_46 : decode cX2_openHonest 46 = .ok (.ior, 1) := by decide +kernel
theorem dX2_openHonest_47 : decode cX2_openHonest 47 = .ok (.putfield 99, 3) := by decide +kernel
theorem dX2_openHonest_50 : decode cX2_openHonest 50 = .ok (.iinc 1 1, 3) := by decide +kernel
theorem dX2_openHonest_53 : decode cX2_openHonest 53 = .ok (.goto (-51), 3) := by decide +kernel
theorem dX2_openHonest_56 : decode cX2_openHonest 56 = .ok (.return_, 1) := by decide +kernel
theorem dX2_openSelfish_0 : decode cX2_openSelfish 0 = .ok (.iconst 0, 1) := by decide +kernel
theorem dX2_openSelfish_1 : decode cX2_openSelfish 1 = .ok (.istore_n 1, 1) := by decide +kernel
theorem dX2_openSelfish_2 : decode cX2_openSelfish 2 = .ok (.iload_n 1, 1) := by decide +kernel
theorem dX2_openSelfish_3 : decode cX2_openSelfish 3 = .ok (.bipush 8, 2) := by decide +kernel
theorem dX2_openSelfish_5 : decode cX2_openSelfish 5 = .ok (.if_icmp .ge 66, 3) := by decide +kernel
theorem dX2_openSelfish_8 : decode cX2_openSelfish 8 = .ok (.aload_n 0, 1) := by decide +kernel
theorem dX2_openSelfish_9 : decode cX2_openSelfish 9 = .ok (.getfield 44, 3) := by decide +kernel
theorem dX2_openSelfish_12 : decode cX2_openSelfish 12 = .ok (.iload_n 1, 1) := by decide +kernel
theorem dX2_openSelfish_13 : decode cX2_openSelfish 13 = .ok (.invokestatic 47, 3) := by decide +kernel
theorem dX2_openSelfish_16 : decode cX2_openSelfish 16 = .ok (.ifCond .eq 49, 3) := by decide +kernel
theorem dX2_openSelfish_19 : decode cX2_openSelfish 19 = .ok (.aload_n 0, 1) := by decide +kernel
theorem dX2_openSelfish_20 : decode cX2_openSelfish 20 = .ok (.getfield 73, 3) := by decide +kernel
theorem dX2_openSelfish_23 : decode cX2_openSelfish 23 = .ok (.iload_n 1, 1) := by decide +kernel
theorem dX2_openSelfish_24 : decode cX2_openSelfish 24 = .ok (.aaload, 1) := by decide +kernel
theorem dX2_openSelfish_25 : decode cX2_openSelfish 25 = .ok (.getfield 77, 3) := by decide +kernel
theorem dX2_openSelfish_28 : decode cX2_openSelfish 28 = .ok (.iconst 2, 1) := by decide +kernel
theorem dX2_openSelfish_29 : decode cX2_openSelfish 29 = .ok (.if_icmp .ne 36, 3) := by decide +kernel
theorem dX2_openSelfish_32 : decode cX2_openSelfish 32 = .ok (.aload_n 0, 1) := by decide +kernel
theorem dX2_openSelfish_33 : decode cX2_openSelfish 33 = .ok (.getfield 99, 3) := by decide +kernel
theorem dX2_openSelfish_36 : decode cX2_openSelfish 36 = .ok (.iconst 1, 1) := by decide +kernel
theorem dX2_openSelfish_37 : decode cX2_openSelfish 37 = .ok (.iload_n 1, 1) := by decide +kernel
theorem dX2_openSelfish_38 : decode cX2_openSelfish 38 = .ok (.ishl, 1) := by decide +kernel
theorem dX2_openSelfish_39 : decode cX2_openSelfish 39 = .ok (.ior, 1) := by decide +kernel
theorem dX2_openSelfish_40 : decode cX2_openSelfish 40 = .ok (.istore_n 2, 1) := by decide +kernel
theorem dX2_openSelfish_41 : decode cX2_openSelfish 41 = .ok (.aload_n 0, 1) := by decide +kernel
theorem dX2_openSelfish_42 : decode cX2_openSelfish 42 = .ok (.aload_n 0, 1) := by decide +kernel
theorem dX2_openSelfish_43 : decode cX2_openSelfish 43 = .ok (.getfield 99, 3) := by decide +kernel
theorem dX2_openSelfish_46 : decode cX2_openSelfish 46 = .ok (.invokestatic 102, 3) := by decide +kernel
theorem dX2_openSelfish_49 : decode cX2_openSelfish 49 = .ok (.ifCond .eq 11, 3) := by decide +kernel
theorem dX2_openSelfish_52 : decode cX2_openSelfish 52 = .ok (.aload_n 0, 1) := by decide +kernel
theorem dX2_openSelfish_53 : decode cX2_openSelfish 53 = .ok (.iload_n 2, 1) := by decide +kernel
theorem dX2_openSelfish_54 : decode cX2_openSelfish 54 = .ok (.invokestatic 102, 3) := by decide +kernel
theorem dX2_openSelfish_57 : decode cX2_openSelfish 57 = .ok (.ifCond .eq 8, 3) := by decide +kernel
theorem dX2_openSelfish_60 : decode cX2_openSelfish 60 = .ok (.aload_n 0, 1) := by decide +kernel
theorem dX2_openSelfish_61 : decode cX2_openSelfish 61 = .ok (.iload_n 2, 1) := by decide +kernel
theorem dX2_openSelfish_62 : decode cX2_openSelfish 62 = .ok (.putfield 99, 3) := by decide +kernel
theorem dX2_openSelfish_65 : decode cX2_openSelfish 65 = .ok (.iinc 1 1, 3) := by decide +kernel
theorem dX2_openSelfish_68 : decode cX2_openSelfish 68 = .ok (.goto (-66), 3) := by decide +kernel
theorem dX2_openSelfish_71 : decode cX2_openSelfish 71 = .ok (.return_, 1) := by decide +kernel
theorem dX2_givesOne_0 : decode cX2_givesOne 0 = .ok (.aload_n 0, 1) := by decide +kernel
theorem dX2_givesOne_1 : decode cX2_givesOne 1 = .ok (.iload_n 1, 1) := by decide +kernel
theorem dX2_givesOne_2 : decode cX2_givesOne 2 = .ok (.invokevirtual 106, 3) := by decide +kernel
theorem dX2_givesOne_5 : decode cX2_givesOne 5 = .ok (.istore_n 2, 1) := by decide +kernel
theorem dX2_givesOne_6 : decode cX2_givesOne 6 = .ok (.iload_n 2, 1) := by decide +kernel
theorem dX2_givesOne_7 : decode cX2_givesOne 7 = .ok (.iconst (-1), 1) := by decide +kernel
theorem dX2_givesOne_8 : decode cX2_givesOne 8 = .ok (.if_icmp .eq 22, 3) := by decide +kernel
theorem dX2_givesOne_11 : decode cX2_givesOne 11 = .ok (.aload_n 0, 1) := by decide +kernel
theorem dX2_givesOne_12 : decode cX2_givesOne 12 = .ok (.aload_n 0, 1) := by decide +kernel
theorem dX2_givesOne_13 : decode cX2_givesOne 13 = .ok (.getfield 109, 3) := by decide +kernel
theorem dX2_givesOne_16 : decode cX2_givesOne 16 = .ok (.iload_n 2, 1) := by decide +kernel
theorem dX2_givesOne_17 : decode cX2_givesOne 17 = .ok (.invokevirtual 113, 3) := by decide +kernel
theorem dX2_givesOne_20 : decode cX2_givesOne 20 = .ok (.iconst 1, 1) := by decide +kernel
theorem dX2_givesOne_21 : decode cX2_givesOne 21 = .ok (.iand, 1) := by decide +kernel
theorem dX2_givesOne_22 : decode cX2_givesOne 22 = .ok (.iconst 1, 1) := by decide +kernel
theorem dX2_givesOne_23 : decode cX2_givesOne 23 = .ok (.if_icmp .ne 7, 3) := by decide +kernel
theorem dX2_givesOne_26 : decode cX2_givesOne 26 = .ok (.iconst 1, 1) := by decide +kernel
theorem dX2_givesOne_27 : decode cX2_givesOne 27 = .ok (.goto 4, 3) := by decide +kernel
theorem dX2_givesOne_30 : decode cX2_givesOne 30 = .ok (.iconst 0, 1) := by decide +kernel
theorem dX2_givesOne_31 : decode cX2_givesOne 31 = .ok (.ireturn, 1) := by decide +kernel
theorem dX3_init_0 : decode cX3_init 0 = .ok (.aload_n 0, 1) := by decide +kernel
theorem dX3_init_1 : decode cX3_init 1 = .ok (.invokespecial 1, 3) := by decide +kernel
theorem dX3_init_4 : decode cX3_init 4 = .ok (.aload_n 0, 1) := by decide +kernel
theorem dX3_init_5 : decode cX3_init 5 = .ok (.iconst 4, 1) := by decide +kernel
theorem dX3_init_6 : decode cX3_init 6 = .ok (.anewarray 9, 3) := by decide +kernel
theorem dX3_init_9 : decode cX3_init 9 = .ok (.putfield 11, 3) := by decide +kernel
theorem dX3_init_12 : decode cX3_init 12 = .ok (.iconst 0, 1) := by decide +kernel
theorem dX3_init_13 : decode cX3_init 13 = .ok (.istore_n 1, 1) := by decide +kernel
theorem dX3_init_14 : decode cX3_init 14 = .ok (.iload_n 1, 1) := by decide +kernel
theorem dX3_init_15 : decode cX3_init 15 = .ok (.iconst 4, 1) := by decide +kernel
theorem dX3_init_16 : decode cX3_init 16 = .ok (.if_icmp .ge 22, 3) := by decide +kernel
theorem dX3_init_19 : decode cX3_init 19 = .ok (.aload_n 0, 1) := by decide +kernel
theorem dX3_init_20 : decode cX3_init 20 = .ok (.getfield 11, 3) := by decide +kernel
theorem dX3_init_23 : decode cX3_init 23 = .ok (.iload_n 1, 1) := by decide +kernel
theorem dX3_init_24 : decode cX3_init 24 = .ok (.new 9, 3) := by decide +kernel
theorem dX3_init_27 : decode cX3_init 27 = .ok (.dup, 1) := by decide +kernel
theorem dX3_init_28 : decode cX3_init 28 = .ok (.invokespecial 15, 3) := by decide +kernel
theorem dX3_init_31 : decode cX3_init 31 = .ok (.aastore, 1) := by decide +kernel
theorem dX3_init_32 : decode cX3_init 32 = .ok (.iinc 1 1, 3) := by decide +kernel
theorem dX3_init_35 : decode cX3_init 35 = .ok (.goto (-21), 3) := by decide +kernel
theorem dX3_init_38 : decode cX3_init 38 = .ok (.return_, 1) := by decide +kernel
theorem dX3_remember_0 : decode cX3_remember 0 = .ok (.aload_n 0, 1) := by decide +kernel
theorem dX3_remember_1 : decode cX3_remember 1 = .ok (.getfield 16, 3) := by decide +kernel
theorem dX3_remember_4 : decode cX3_remember 4 = .ok (.iconst 4, 1) := by decide +kernel
theorem dX3_remember_5 : decode cX3_remember 5 = .ok (.if_icmp .lt 7, 3) := by decide +kernel
theorem dX3_remember_8 : decode cX3_remember 8 = .ok (.aload_n 0, 1) := by decide +kernel
theorem dX3_remember_9 : decode cX3_remember 9 = .ok (.invokevirtual 20, 3) := by decide +kernel
theorem dX3_remember_12 : decode cX3_remember 12 = .ok (.aload_n 0, 1) := by decide +kernel
theorem dX3_remember_13 : decode cX3_remember 13 = .ok (.getfield 11, 3) := by decide +kernel
theorem dX3_remember_16 : decode cX3_remember 16 = .ok (.aload_n 0, 1) := by decide +kernel
theorem dX3_remember_17 : decode cX3_remember 17 = .ok (.getfield 16, 3) := by decide +kernel
theorem dX3_remember_20 : decode cX3_remember 20 = .ok (.aaload, 1) := by decide +kernel
theorem dX3_remember_21 : decode cX3_remember 21 = .ok (.aload_n 1, 1) := by decide +kernel
theorem dX3_remember_22 : decode cX3_remember 22 = .ok (.invokevirtual 23, 3) := by decide +kernel
theorem dX3_remember_25 : decode cX3_remember 25 = .ok (.aload_n 0, 1) := by decide +kernel
theorem dX3_remember_26 : decode cX3_remember 26 = .ok (.dup, 1) := by decide +kernel
theorem dX3_remember_27 : decode cX3_remember 27 = .ok (.getfield 16, 3) := by decide +kernel
theorem dX3_remember_30 : decode cX3_remember 30 = .ok (.iconst 1, 1) := by decide +kernel
theorem dX3_remember_31 : decode cX3_remember 31 = .ok (.iadd, 1) := by decide +kernel
theorem dX3_remember_32 : decode cX3_remember 32 = .ok (.putfield 16, 3) := by decide +kernel
theorem dX3_remember_35 : decode cX3_remember 35 = .ok (.return_, 1) := by decide +kernel
theorem dX3_dropOldest_0 : decode cX3_dropOldest 0 = .ok (.aload_n 0, 1) := by decide +kernel
theorem dX3_dropOldest_1 : decode cX3_dropOldest 1 = .ok (.getfield 11, 3) := by decide +kernel
theorem dX3_dropOldest_4 : decode cX3_dropOldest 4 = .ok (.iconst 0, 1) := by decide +kernel
theorem dX3_dropOldest_5 : decode cX3_dropOldest 5 = .ok (.aaload, 1) := by decide +kernel
theorem dX3_dropOldest_6 : decode cX3_dropOldest 6 = .ok (.astore_n 1, 1) := by decide +kernel
theorem dX3_dropOldest_7 : decode cX3_dropOldest 7 = .ok (.iconst 1, 1) := by decide +kernel
theorem dX3_dropOldest_8 : decode cX3_dropOldest 8 = .ok (.istore_n 2, 1) := by decide +kernel
theorem dX3_dropOldest_9 : decode cX3_dropOldest 9 = .ok (.iload_n 2, 1) := by decide +kernel
theorem dX3_dropOldest_10 : decode cX3_dropOldest 10 = .ok (.iconst 4, 1) := by decide +kernel
theorem dX3_dropOldest_11 : decode cX3_dropOldest 11 = .ok (.if_icmp .ge 23, 3) := by decide +kernel
theorem dX3_dropOldest_14 : decode cX3_dropOldest 14 = .ok (.aload_n 0, 1) := by decide +kernel
theorem dX3_dropOldest_15 : decode cX3_dropOldest 15 = .ok (.getfield 11, 3) := by decide +kernel
theorem dX3_dropOldest_18 : decode cX3_dropOldest 18 = .ok (.iload_n 2, 1) := by decide +kernel
theorem dX3_dropOldest_19 : decode cX3_dropOldest 19 = .ok (.iconst 1, 1) := by decide +kernel
theorem dX3_dropOldest_20 : decode cX3_dropOldest 20 = .ok (.isub, 1) := by decide +kernel
theorem dX3_dropOldest_21 : decode cX3_dropOldest 21 = .ok (.aload_n 0, 1) := by decide +kernel
theorem dX3_dropOldest_22 : decode cX3_dropOldest 22 = .ok (.getfield 11, 3) := by decide +kernel
theorem dX3_dropOldest_25 : decode cX3_dropOldest 25 = .ok (.iload_n 2, 1) := by decide +kernel
theorem dX3_dropOldest_26 : decode cX3_dropOldest 26 = .ok (.aaload, 1) := by decide +kernel
theorem dX3_dropOldest_27 : decode cX3_dropOldest 27 = .ok (.aastore, 1) := by decide +kernel
theorem dX3_dropOldest_28 : decode cX3_dropOldest 28 = .ok (.iinc 2 1, 3) := by decide +kernel
theorem dX3_dropOldest_31 : decode cX3_dropOldest 31 = .ok (.goto (-22), 3) := by decide +kernel
theorem dX3_dropOldest_34 : decode cX3_dropOldest 34 = .ok (.aload_n 0, 1) := by decide +kernel
theorem dX3_dropOldest_35 : decode cX3_dropOldest 35 = .ok (.getfield 11, 3) := by decide +kernel
theorem dX3_dropOldest_38 : decode cX3_dropOldest 38 = .ok (.iconst 3, 1) := by decide +kernel
theorem dX3_dropOldest_39 : decode cX3_dropOldest 39 = .ok (.aload_n 1, 1) := by decide +kernel
theorem dX3_dropOldest_40 : decode cX3_dropOldest 40 = .ok (.aastore, 1) := by decide +kernel
theorem dX3_dropOldest_41 : decode cX3_dropOldest 41 = .ok (.aload_n 0, 1) := by decide +kernel
theorem dX3_dropOldest_42 : decode cX3_dropOldest 42 = .ok (.iconst 3, 1) := by decide +kernel
theorem dX3_dropOldest_43 : decode cX3_dropOldest 43 = .ok (.putfield 16, 3) := by decide +kernel
theorem dX3_dropOldest_46 : decode cX3_dropOldest 46 = .ok (.return_, 1) := by decide +kernel
theorem dX3_restore_0 : decode cX3_restore 0 = .ok (.aload_n 0, 1) := by decide +kernel
theorem dX3_restore_1 : decode cX3_restore 1 = .ok (.getfield 16, 3) := by decide +kernel
theorem dX3_restore_4 : decode cX3_restore 4 = .ok (.iconst 1, 1) := by decide +kernel
theorem dX3_restore_5 : decode cX3_restore 5 = .ok (.if_icmp .lt 11, 3) := by decide +kernel
theorem dX3_restore_8 : decode cX3_restore 8 = .ok (.aload_n 0, 1) := by decide +kernel
theorem dX3_restore_9 : decode cX3_restore 9 = .ok (.getfield 16, 3) := by decide +kernel
theorem dX3_restore_12 : decode cX3_restore 12 = .ok (.iconst 4, 1) := by decide +kernel
theorem dX3_restore_13 : decode cX3_restore 13 = .ok (.if_icmp .le 4, 3) := by decide +kernel
theorem dX3_restore_16 : decode cX3_restore 16 = .ok (.return_, 1) := by decide +kernel
theorem dX3_restore_17 : decode cX3_restore 17 = .ok (.aload_n 0, 1) := by decide +kernel
theorem dX3_restore_18 : decode cX3_restore 18 = .ok (.dup, 1) := by decide +kernel
theorem dX3_restore_19 : decode cX3_restore 19 = .ok (.getfield 16, 3) := by decide +kernel
theorem dX3_restore_22 : decode cX3_restore 22 = .ok (.iconst 1, 1) := by decide +kernel
theorem dX3_restore_23 : decode cX3_restore 23 = .ok (.isub, 1) := by decide +kernel
theorem dX3_restore_24 : decode cX3_restore 24 = .ok (.putfield 16, 3) := by decide +kernel
theorem dX3_restore_27 : decode cX3_restore 27 = .ok (.aload_n 1, 1) := by decide +kernel
theorem dX3_restore_28 : decode cX3_restore 28 = .ok (.aload_n 0, 1) := by decide +kernel
theorem dX3_restore_29 : decode cX3_restore 29 = .ok (.getfield 11, 3) := by decide +kernel
theorem dX3_restore_32 : decode cX3_restore 32 = .ok (.aload_n 0, 1) := by decide +kernel
theorem dX3_restore_33 : decode cX3_restore 33 = .ok (.getfield 16, 3) := by decide +kernel
theorem dX3_restore_36 : decode cX3_restore 36 = .ok (.aaload, 1) := by decide +kernel
theorem dX3_restore_37 : decode cX3_restore 37 = .ok (.invokevirtual 23, 3) := by decide +kernel
theorem dX3_restore_40 : decode cX3_restore 40 = .ok (.return_, 1) := by decide +kernel
theorem dX4_init_0 : decode cX4_init 0 = .ok (.aload_n 0, 1) := by decide +kernel
theorem dX4_init_1 : decode cX4_init 1 = .ok (.invokespecial 3, 3) := by decide +kernel
theorem dX4_init_4 : decode cX4_init 4 = .ok (.aload_n 0, 1) := by decide +kernel
theorem dX4_init_5 : decode cX4_init 5 = .ok (.bipush 8, 2) := by decide +kernel
theorem dX4_init_7 : decode cX4_init 7 = .ok (.anewarray 9, 3) := by decide +kernel
theorem dX4_init_10 : decode cX4_init 10 = .ok (.putfield 11, 3) := by decide +kernel
theorem dX4_init_13 : decode cX4_init 13 = .ok (.aload_n 0, 1) := by decide +kernel
theorem dX4_init_14 : decode cX4_init 14 = .ok (.bipush 8, 2) := by decide +kernel
theorem dX4_init_16 : decode cX4_init 16 = .ok (.newarray .int, 2) := by decide +kernel
theorem dX4_init_18 : decode cX4_init 18 = .ok (.putfield 17, 3) := by decide +kernel
theorem dX4_init_21 : decode cX4_init 21 = .ok (.aload_n 0, 1) := by decide +kernel
theorem dX4_init_22 : decode cX4_init 22 = .ok (.new 21, 3) := by decide +kernel
theorem dX4_init_25 : decode cX4_init 25 = .ok (.dup, 1) := by decide +kernel
theorem dX4_init_26 : decode cX4_init 26 = .ok (.invokespecial 23, 3) := by decide +kernel
theorem dX4_init_29 : decode cX4_init 29 = .ok (.putfield 24, 3) := by decide +kernel
theorem dX4_init_32 : decode cX4_init 32 = .ok (.aload_n 0, 1) := by decide +kernel
theorem dX4_init_33 : decode cX4_init 33 = .ok (.iconst 0, 1) := by decide +kernel
theorem dX4_init_34 : decode cX4_init 34 = .ok (.putfield 28, 3) := by decide +kernel
theorem dX4_init_37 : decode cX4_init 37 = .ok (.aload_n 0, 1) := by decide +kernel
theorem dX4_init_38 : decode cX4_init 38 = .ok (.iconst 2, 1) := by decide +kernel
theorem dX4_init_39 : decode cX4_init 39 = .ok (.putfield 32, 3) := by decide +kernel
theorem dX4_init_42 : decode cX4_init 42 = .ok (.aload_n 0, 1) := by decide +kernel
theorem dX4_init_43 : decode cX4_init 43 = .ok (.bipush 10, 2) := by decide +kernel
theorem dX4_init_45 : decode cX4_init 45 = .ok (.putfield 35, 3) := by decide +kernel
theorem dX4_init_48 : decode cX4_init 48 = .ok (.aload_n 0, 1) := by decide +kernel
theorem dX4_init_49 : decode cX4_init 49 = .ok (.bipush 100, 2) := by decide +kernel
theorem dX4_init_51 : decode cX4_init 51 = .ok (.putfield 38, 3) := by decide +kernel
theorem dX4_init_54 : decode cX4_init 54 = .ok (.aload_n 0, 1) := by decide +kernel
theorem dX4_init_55 : decode cX4_init 55 = .ok (.iconst 0, 1) := by decide +kernel
theorem dX4_init_56 : decode cX4_init 56 = .ok (.putfield 41, 3) := by decide +kernel
theorem dX4_init_59 : decode cX4_init 59 = .ok (.iconst 0, 1) := by decide +kernel
theorem dX4_init_60 : decode cX4_init 60 = .ok (.istore_n 1, 1) := by decide +kernel
theorem dX4_init_61 : decode cX4_init 61 = .ok (.iload_n 1, 1) := by decide +kernel
theorem dX4_init_62 : decode cX4_init 62 = .ok (.bipush 8, 2) := by decide +kernel
theorem dX4_init_64 : decode cX4_init 64 = .ok (.if_icmp .ge 22, 3) := by decide +kernel
theorem dX4_init_67 : decode cX4_init 67 = .ok (.aload_n 0, 1) := by decide +kernel
theorem dX4_init_68 : decode cX4_init 68 = .ok (.getfield 11, 3) := by decide +kernel
theorem dX4_init_71 : decode cX4_init 71 = .ok (.iload_n 1, 1) := by decide +kernel
theorem dX4_init_72 : decode cX4_init 72 = .ok (.new 9, 3) := by decide +kernel
theorem dX4_init_75 : decode cX4_init 75 = .ok (.dup, 1) := by decide +kernel
theorem dX4_init_76 : decode cX4_init 76 = .ok (.invokespecial 44, 3) := by decide +kernel
theorem dX4_init_79 : decode cX4_init 79 = .ok (.aastore, 1) := by decide +kernel
theorem dX4_init_80 : decode cX4_init 80 = .ok (.iinc 1 1, 3) := by decide +kernel
theorem dX4_init_83 : decode cX4_init 83 = .ok (.goto (-22), 3) := by decide +kernel
theorem dX4_init_86 : decode cX4_init 86 = .ok (.return_, 1) := by decide +kernel
theorem dX4_copy_0 : decode cX4_copy 0 = .ok (.iconst 0, 1) := by decide +kernel
theorem dX4_copy_1 : decode cX4_copy 1 = .ok (.istore_n 2, 1) := by decide +kernel
theorem dX4_copy_2 : decode cX4_copy 2 = .ok (.iload_n 2, 1) := by decide +kernel
theorem dX4_copy_3 : decode cX4_copy 3 = .ok (.bipush 8, 2) := by decide +kernel
theorem dX4_copy_5 : decode cX4_copy 5 = .ok (.if_icmp .ge 24, 3) := by decide +kernel
theorem dX4_copy_8 : decode cX4_copy 8 = .ok (.aload_n 0, 1) := by decide +kernel
theorem dX4_copy_9 : decode cX4_copy 9 = .ok (.getfield 11, 3) := by decide +kernel
theorem dX4_copy_12 : decode cX4_copy 12 = .ok (.iload_n 2, 1) := by decide +kernel
theorem dX4_copy_13 : decode cX4_copy 13 = .ok (.aaload, 1) := by decide +kernel
theorem dX4_copy_14 : decode cX4_copy 14 = .ok (.aload_n 1, 1) := by decide +kernel
theorem dX4_copy_15 : decode cX4_copy 15 = .ok (.getfield 11, 3) := by decide +kernel
theorem dX4_copy_18 : decode cX4_copy 18 = .ok (.iload_n 2, 1) := by decide +kernel
theorem dX4_copy_19 : decode cX4_copy 19 = .ok (.aaload, 1) := by decide +kernel
theorem dX4_copy_20 : decode cX4_copy 20 = .ok (.invokevirtual 45, 3) := by decide +kernel
theorem dX4_copy_23 : decode cX4_copy 23 = .ok (.iinc 2 1, 3) := by decide +kernel
theorem dX4_copy_26 : decode cX4_copy 26 = .ok (.goto (-24), 3) := by decide +kernel
theorem dX4_copy_29 : decode cX4_copy 29 = .ok (.aload_n 1, 1) := by decide +kernel
theorem dX4_copy_30 : decode cX4_copy 30 = .ok (.getfield 17, 3) := by decide +kernel
theorem dX4_copy_33 : decode cX4_copy 33 = .ok (.iconst 0, 1) := by decide +kernel
theorem dX4_copy_34 : decode cX4_copy 34 = .ok (.aload_n 0, 1) := by decide +kernel
theorem dX4_copy_35 : decode cX4_copy 35 = .ok (.getfield 17, 3) := by decide +kernel
theorem dX4_copy_38 : decode cX4_copy 38 = .ok (.iconst 0, 1) := by decide +kernel
theorem dX4_copy_39 : decode cX4_copy 39 = .ok (.bipush 8, 2) := by decide +kernel
theorem dX4_copy_41 : decode cX4_copy 41 = .ok (.invokestatic 49, 3) := by decide +kernel
theorem dX4_copy_44 : decode cX4_copy 44 = .ok (.aload_n 0, 1) := by decide +kernel
theorem dX4_copy_45 : decode cX4_copy 45 = .ok (.getfield 24, 3) := by decide +kernel
theorem dX4_copy_48 : decode cX4_copy 48 = .ok (.aload_n 1, 1) := by decide +kernel
theorem dX4_copy_49 : decode cX4_copy 49 = .ok (.getfield 24, 3) := by decide +kernel
theorem dX4_copy_52 : decode cX4_copy 52 = .ok (.invokevirtual 55, 3) := by decide +kernel
theorem dX4_copy_55 : decode cX4_copy 55 = .ok (.aload_n 0, 1) := by decide +kernel
theorem dX4_copy_56 : decode cX4_copy 56 = .ok (.aload_n 1, 1) := by decide +kernel
theorem dX4_copy_57 : decode cX4_copy 57 = .ok (.getfield 58, 3) := by decide +kernel
theorem dX4_copy_60 : decode cX4_copy 60 = .ok (.putfield 58, 3) := by decide +kernel
theorem dX4_copy_63 : decode cX4_copy 63 = .ok (.aload_n 0, 1) := by decide +kernel
theorem dX4_copy_64 : decode cX4_copy 64 = .ok (.aload_n 1, 1) := by decide +kernel
theorem dX4_copy_65 : decode cX4_copy 65 = .ok (.getfield 61, 3) := by decide +kernel
theorem dX4_copy_68 : decode cX4_copy 68 = .ok (.putfield 61, 3) := by decide +kernel
theorem dX4_copy_71 : decode cX4_copy 71 = .ok (.aload_n 0, 1) := by decide +kernel
theorem dX4_copy_72 : decode cX4_copy 72 = .ok (.aload_n 1, 1) := by decide +kernel
theorem dX4_copy_73 : decode cX4_copy 73 = .ok (.getfield 28, 3) := by decide +kernel
theorem dX4_copy_76 : decode cX4_copy 76 = .ok (.putfield 28, 3) := by decide +kernel
theorem dX4_copy_79 : decode cX4_copy 79 = .ok (.aload_n 0, 1) := by decide +kernel
theorem dX4_copy_80 : decode cX4_copy 80 = .ok (.aload_n 1, 1) := by decide +kernel
theorem dX4_copy_81 : decode cX4_copy 81 = .ok (.getfield 32, 3) := by decide +kernel
theorem dX4_copy_84 : decode cX4_copy 84 = .ok (.putfield 32, 3) := by decide +kernel
theorem dX4_copy_87 : decode cX4_copy 87 = .ok (.aload_n 0, 1) := by decide +kernel
theorem dX4_copy_88 : decode cX4_copy 88 = .ok (.aload_n 1, 1) := by decide +kernel
theorem dX4_copy_89 : decode cX4_copy 89 = .ok (.getfield 35, 3) := by decide +kernel
theorem dX4_copy_92 : decode cX4_copy 92 = .ok (.putfield 35, 3) := by decide +kernel
theorem dX4_copy_95 : decode cX4_copy 95 = .ok (.aload_n 0, 1) := by decide +kernel
theorem dX4_copy_96 : decode cX4_copy 96 = .ok (.aload_n 1, 1) := by decide +kernel
theorem dX4_copy_97 : decode cX4_copy 97 = .ok (.getfield 38, 3) := by decide +kernel
theorem dX4_copy_100 : decode cX4_copy 100 = .ok (.putfield 38, 3) := by decide +kernel
theorem dX4_copy_103 : decode cX4_copy 103 = .ok (.aload_n 0, 1) := by decide +kernel
theorem dX4_copy_104 : decode cX4_copy 104 = .ok (.aload_n 1, 1) := by decide +kernel
theorem dX4_copy_105 : decode cX4_copy 105 = .ok (.getfield 41, 3) := by decide +kernel
theorem dX4_copy_108 : decode cX4_copy 108 = .ok (.putfield 41, 3) := by decide +kernel
theorem dX4_copy_111 : decode cX4_copy 111 = .ok (.aload_n 0, 1) := by decide +kernel
theorem dX4_copy_112 : decode cX4_copy 112 = .ok (.aload_n 1, 1) := by decide +kernel
theorem dX4_copy_113 : decode cX4_copy 113 = .ok (.getfield 64, 3) := by decide +kernel
theorem dX4_copy_116 : decode cX4_copy 116 = .ok (.putfield 64, 3) := by decide +kernel
theorem dX4_copy_119 : decode cX4_copy 119 = .ok (.aload_n 0, 1) := by decide +kernel
theorem dX4_copy_120 : decode cX4_copy 120 = .ok (.aload_n 1, 1) := by decide +kernel
theorem dX4_copy_121 : decode cX4_copy 121 = .ok (.getfield 67, 3) := by decide +kernel
theorem dX4_copy_124 : decode cX4_copy 124 = .ok (.putfield 67, 3) := by decide +kernel
theorem dX4_copy_127 : decode cX4_copy 127 = .ok (.aload_n 0, 1) := by decide +kernel
theorem dX4_copy_128 : decode cX4_copy 128 = .ok (.aload_n 1, 1) := by decide +kernel
theorem dX4_copy_129 : decode cX4_copy 129 = .ok (.getfield 70, 3) := by decide +kernel
theorem dX4_copy_132 : decode cX4_copy 132 = .ok (.putfield 70, 3) := by decide +kernel
theorem dX4_copy_135 : decode cX4_copy 135 = .ok (.aload_n 0, 1) := by decide +kernel
theorem dX4_copy_136 : decode cX4_copy 136 = .ok (.aload_n 1, 1) := by decide +kernel
theorem dX4_copy_137 : decode cX4_copy 137 = .ok (.getfield 73, 3) := by decide +kernel
theorem dX4_copy_140 : decode cX4_copy 140 = .ok (.putfield 73, 3) := by decide +kernel
theorem dX4_copy_143 : decode cX4_copy 143 = .ok (.return_, 1) := by decide +kernel
theorem dX4_isParticipant_0 : decode cX4_isParticipant 0 = .ok (.iload_n 1, 1) := by decide +kernel
theorem dX4_isParticipant_1 : decode cX4_isParticipant 1 = .ok (.ifCond .lt 21, 3) := by decide +kernel
theorem dX4_isParticipant_4 : decode cX4_isParticipant 4 = .ok (.iload_n 1, 1) := by decide +kernel
theorem dX4_isParticipant_5 : decode cX4_isParticipant 5 = .ok (.aload_n 0, 1) := by decide +kernel
theorem dX4_isParticipant_6 : decode cX4_isParticipant 6 = .ok (.getfield 58, 3) := by decide +kernel
theorem dX4_isParticipant_9 : decode cX4_isParticipant 9 = .ok (.if_icmp .ge 13, 3) := by decide +kernel
theorem dX4_isParticipant_12 : decode cX4_isParticipant 12 = .ok (.iload_n 1, 1) := by decide +kernel
theorem dX4_isParticipant_13 : decode cX4_isParticipant 13 = .ok (.bipush 8, 2) := by decide +kernel
theorem dX4_isParticipant_15 : decode cX4_isParticipant 15 = .ok (.if_icmp .ge 7, 3) := by decide +kernel
theorem dX4_isParticipant_18 : decode cX4_isParticipant 18 = .ok (.iconst 1, 1) := by decide +kernel
theorem dX4_isParticipant_19 : decode cX4_isParticipant 19 = .ok (.goto 4, 3) := by decide +kernel
theorem dX4_isParticipant_22 : decode cX4_isParticipant 22 = .ok (.iconst 0, 1) := by decide +kernel
theorem dX4_isParticipant_23 : decode cX4_isParticipant 23 = .ok (.ireturn, 1) := by decide +kernel
theorem dX4_isCommitted_0 : decode cX4_isCommitted 0 = .ok (.aload_n 0, 1) := by decide +kernel
theorem dX4_isCommitted_1 : decode cX4_isCommitted 1 = .ok (.getfield 41, 3) := by decide +kernel
theorem dX4_isCommitted_4 : decode cX4_isCommitted 4 = .ok (.ifCond .eq 18, 3) := by decide +kernel
theorem dX4_isCommitted_7 : decode cX4_isCommitted 7 = .ok (.aload_n 0, 1) := by decide +kernel
theorem dX4_isCommitted_8 : decode cX4_isCommitted 8 = .ok (.getfield 67, 3) := by decide +kernel
theorem dX4_isCommitted_11 : decode cX4_isCommitted 11 = .ok (.iload_n 1, 1) := by decide +kernel
theorem dX4_isCommitted_12 : decode cX4_isCommitted 12 = .ok (.invokestatic 76, 3) := by decide +kernel
theorem dX4_isCommitted_15 : decode cX4_isCommitted 15 = .ok (.ifCond .eq 7, 3) := by decide +kernel
theorem dX4_isCommitted_18 : decode cX4_isCommitted 18 = .ok (.iconst 1, 1) := by decide +kernel
theorem dX4_isCommitted_19 : decode cX4_isCommitted 19 = .ok (.goto 4, 3) := by decide +kernel
theorem dX4_isCommitted_22 : decode cX4_isCommitted 22 = .ok (.iconst 0, 1) := by decide +kernel
theorem dX4_isCommitted_23 : decode cX4_isCommitted 23 = .ok (.ireturn, 1) := by decide +kernel
theorem dX4_hasDealt_0 : decode cX4_hasDealt 0 = .ok (.aload_n 0, 1) := by decide +kernel
theorem dX4_hasDealt_1 : decode cX4_hasDealt 1 = .ok (.getfield 28, 3) := by decide +kernel
theorem dX4_hasDealt_4 : decode cX4_hasDealt 4 = .ok (.iconst 1, 1) := by decide +kernel
theorem dX4_hasDealt_5 : decode cX4_hasDealt 5 = .ok (.if_icmp .ne 15, 3) := by decide +kernel
theorem dX4_hasDealt_8 : decode cX4_hasDealt 8 = .ok (.aload_n 0, 1) := by decide +kernel
theorem dX4_hasDealt_9 : decode cX4_hasDealt 9 = .ok (.iload_n 1, 1) := by decide +kernel
theorem dX4_hasDealt_10 : decode cX4_hasDealt 10 = .ok (.invokevirtual 80, 3) := by decide +kernel
theorem dX4_hasDealt_13 : decode cX4_hasDealt 13 = .ok (.ifCond .eq 7, 3) := by decide +kernel
theorem dX4_hasDealt_16 : decode cX4_hasDealt 16 = .ok (.iconst 1, 1) := by decide +kernel
theorem dX4_hasDealt_17 : decode cX4_hasDealt 17 = .ok (.goto 4, 3) := by decide +kernel
theorem dX4_hasDealt_20 : decode cX4_hasDealt 20 = .ok (.iconst 0, 1) := by decide +kernel
theorem dX4_hasDealt_21 : decode cX4_hasDealt 21 = .ok (.ireturn, 1) := by decide +kernel
theorem dX4_hasShare_0 : decode cX4_hasShare 0 = .ok (.aload_n 0, 1) := by decide +kernel
theorem dX4_hasShare_1 : decode cX4_hasShare 1 = .ok (.iload_n 1, 1) := by decide +kernel
theorem dX4_hasShare_2 : decode cX4_hasShare 2 = .ok (.invokevirtual 84, 3) := by decide +kernel
theorem dX4_hasShare_5 : decode cX4_hasShare 5 = .ok (.ifCond .eq 18, 3) := by decide +kernel
theorem dX4_hasShare_8 : decode cX4_hasShare 8 = .ok (.aload_n 0, 1) := by decide +kernel
theorem dX4_hasShare_9 : decode cX4_hasShare 9 = .ok (.getfield 64, 3) := by decide +kernel
theorem dX4_hasShare_12 : decode cX4_hasShare 12 = .ok (.iload_n 2, 1) := by decide +kernel
theorem dX4_hasShare_13 : decode cX4_hasShare 13 = .ok (.invokestatic 76, 3) := by decide +kernel
theorem dX4_hasShare_16 : decode cX4_hasShare 16 = .ok (.ifCond .eq 7, 3) := by decide +kernel
theorem dX4_hasShare_19 : decode cX4_hasShare 19 = .ok (.iconst 1, 1) := by decide +kernel
theorem dX4_hasShare_20 : decode cX4_hasShare 20 = .ok (.goto 4, 3) := by decide +kernel
theorem dX4_hasShare_23 : decode cX4_hasShare 23 = .ok (.iconst 0, 1) := by decide +kernel
theorem dX4_hasShare_24 : decode cX4_hasShare 24 = .ok (.ireturn, 1) := by decide +kernel
theorem dX4_canConspire_0 : decode cX4_canConspire 0 = .ok (.aload_n 0, 1) := by decide +kernel
theorem dX4_canConspire_1 : decode cX4_canConspire 1 = .ok (.getfield 41, 3) := by decide +kernel
theorem dX4_canConspire_4 : decode cX4_canConspire 4 = .ok (.iconst 2, 1) := by decide +kernel
theorem dX4_canConspire_5 : decode cX4_canConspire 5 = .ok (.if_icmp .ne 25, 3) := by decide +kernel
theorem dX4_canConspire_8 : decode cX4_canConspire 8 = .ok (.iload_n 1, 1) := by decide +kernel
theorem dX4_canConspire_9 : decode cX4_canConspire 9 = .ok (.aload_n 0, 1) := by decide +kernel
theorem dX4_canConspire_10 : decode cX4_canConspire 10 = .ok (.getfield 64, 3) := by decide +kernel
theorem dX4_canConspire_13 : decode cX4_canConspire 13 = .ok (.aload_n 0, 1) := by decide +kernel
theorem dX4_canConspire_14 : decode cX4_canConspire 14 = .ok (.getfield 70, 3) := by decide +kernel
theorem dX4_canConspire_17 : decode cX4_canConspire 17 = .ok (.iconst (-1), 1) := by decide +kernel
theorem dX4_canConspire_18 : decode cX4_canConspire 18 = .ok (.ixor, 1) := by decide +kernel
theorem dX4_canConspire_19 : decode cX4_canConspire 19 = .ok (.iand, 1) := by decide +kernel
theorem dX4_canConspire_20 : decode cX4_canConspire 20 = .ok (.iconst (-1), 1) := by decide +kernel
theorem dX4_canConspire_21 : decode cX4_canConspire 21 = .ok (.ixor, 1) := by decide +kernel
theorem dX4_canConspire_22 : decode cX4_canConspire 22 = .ok (.iand, 1) := by decide +kernel
theorem dX4_canConspire_23 : decode cX4_canConspire 23 = .ok (.ifCond .ne 7, 3) := by decide +kernel
theorem dX4_canConspire_26 : decode cX4_canConspire 26 = .ok (.iconst 1, 1) := by decide +kernel
theorem dX4_canConspire_27 : decode cX4_canConspire 27 = .ok (.goto 4, 3) := by decide +kernel
theorem dX4_canConspire_30 : decode cX4_canConspire 30 = .ok (.iconst 0, 1) := by decide +kernel
theorem dX4_canConspire_31 : decode cX4_canConspire 31 = .ok (.ireturn, 1) := by decide +kernel
theorem dX4_admit_0 : decode cX4_admit 0 = .ok (.aload_n 0, 1) := by decide +kernel
theorem dX4_admit_1 : decode cX4_admit 1 = .ok (.getfield 58, 3) := by decide +kernel
theorem dX4_admit_4 : decode cX4_admit 4 = .ok (.bipush 8, 2) := by decide +kernel
theorem dX4_admit_6 : decode cX4_admit 6 = .ok (.if_icmp .lt 6, 3) := by decide +kernel
theorem dX4_admit_9 : decode cX4_admit 9 = .ok (.bipush (-3), 2) := by decide +kernel
theorem dX4_admit_11 : decode cX4_admit 11 = .ok (.ireturn, 1) := by decide +kernel
theorem dX4_admit_12 : decode cX4_admit 12 = .ok (.aload_n 0, 1) := by decide +kernel
theorem dX4_admit_13 : decode cX4_admit 13 = .ok (.getfield 11, 3) := by decide +kernel
theorem dX4_admit_16 : decode cX4_admit 16 = .ok (.aload_n 0, 1) := by decide +kernel
theorem dX4_admit_17 : decode cX4_admit 17 = .ok (.getfield 58, 3) := by decide +kernel
theorem dX4_admit_20 : decode cX4_admit 20 = .ok (.aaload, 1) := by decide +kernel
theorem dX4_admit_21 : decode cX4_admit 21 = .ok (.iload_n 1, 1) := by decide +kernel
theorem dX4_admit_22 : decode cX4_admit 22 = .ok (.putfield 87, 3) := by decide +kernel
theorem dX4_admit_25 : decode cX4_admit 25 = .ok (.aload_n 0, 1) := by decide +kernel
theorem dX4_admit_26 : decode cX4_admit 26 = .ok (.dup, 1) := by decide +kernel
theorem dX4_admit_27 : decode cX4_admit 27 = .ok (.getfield 58, 3) := by decide +kernel
theorem dX4_admit_30 : decode cX4_admit 30 = .ok (.iconst 1, 1) := by decide +kernel
theorem dX4_admit_31 : decode cX4_admit 31 = .ok (.iadd, 1) := by decide +kernel
theorem dX4_admit_32 : decode cX4_admit 32 = .ok (.putfield 58, 3) := by decide +kernel
theorem dX4_admit_35 : decode cX4_admit 35 = .ok (.aload_n 0, 1) := by decide +kernel
theorem dX4_admit_36 : decode cX4_admit 36 = .ok (.getfield 58, 3) := by decide +kernel
theorem dX4_admit_39 : decode cX4_admit 39 = .ok (.iconst 1, 1) := by decide +kernel
theorem dX4_admit_40 : decode cX4_admit 40 = .ok (.isub, 1) := by decide +kernel
theorem dX4_admit_41 : decode cX4_admit 41 = .ok (.ireturn, 1) := by decide +kernel
theorem dX4_canStart_0 : decode cX4_canStart 0 = .ok (.aload_n 0, 1) := by decide +kernel
theorem dX4_canStart_1 : decode cX4_canStart 1 = .ok (.invokevirtual 90, 3) := by decide +kernel
theorem dX4_canStart_4 : decode cX4_canStart 4 = .ok (.invokestatic 94, 3) := by decide +kernel
theorem dX4_canStart_7 : decode cX4_canStart 7 = .ok (.istore_n 1, 1) := by decide +kernel
theorem dX4_canStart_8 : decode cX4_canStart 8 = .ok (.aload_n 0, 1) := by decide +kernel
theorem dX4_canStart_9 : decode cX4_canStart 9 = .ok (.getfield 41, 3) := by decide +kernel
theorem dX4_canStart_12 : decode cX4_canStart 12 = .ok (.ifCond .ne 28, 3) := by decide +kernel
theorem dX4_canStart_15 : decode cX4_canStart 15 = .ok (.iload_n 1, 1) := by decide +kernel
theorem dX4_canStart_16 : decode cX4_canStart 16 = .ok (.iconst 2, 1) := by decide +kernel
theorem dX4_canStart_17 : decode cX4_canStart 17 = .ok (.if_icmp .lt 23, 3) := by decide +kernel
theorem dX4_canStart_20 : decode cX4_canStart 20 = .ok (.aload_n 0, 1) := by decide +kernel
theorem dX4_canStart_21 : decode cX4_canStart 21 = .ok (.getfield 28, 3) := by decide +kernel
theorem dX4_canStart_24 : decode cX4_canStart 24 = .ok (.iconst 1, 1) := by decide +kernel
theorem dX4_canStart_25 : decode cX4_canStart 25 = .ok (.if_icmp .ne 11, 3) := by decide +kernel
theorem dX4_canStart_28 : decode cX4_canStart 28 = .ok (.iload_n 1, 1) := by decide +kernel
theorem dX4_canStart_29 : decode cX4_canStart 29 = .ok (.aload_n 0, 1) := by decide +kernel
theorem dX4_canStart_30 : decode cX4_canStart 30 = .ok (.getfield 32, 3) := by decide +kernel
theorem dX4_canStart_33 : decode cX4_canStart 33 = .ok (.if_icmp .lt 7, 3) := by decide +kernel
theorem dX4_canStart_36 : decode cX4_canStart 36 = .ok (.iconst 1, 1) := by decide +kernel
theorem dX4_canStart_37 : decode cX4_canStart 37 = .ok (.goto 4, 3) := by decide +kernel
theorem dX4_canStart_40 : decode cX4_canStart 40 = .ok (.iconst 0, 1) := by decide +kernel
theorem dX4_canStart_41 : decode cX4_canStart 41 = .ok (.ireturn, 1) := by decide +kernel
theorem dX4_ableToPay_0 : decode cX4_ableToPay 0 = .ok (.iconst 0, 1) := by decide +kernel
theorem dX4_ableToPay_1 : decode cX4_ableToPay 1 = .ok (.istore_n 1, 1) := by decide +kernel
theorem dX4_ableToPay_2 : decode cX4_ableToPay 2 = .ok (.iconst 0, 1) := by decide +kernel
theorem dX4_ableToPay_3 : decode cX4_ableToPay 3 = .ok (.istore_n 2, 1) := by decide +kernel
theorem dX4_ableToPay_4 : decode cX4_ableToPay 4 = .ok (.iload_n 2, 1) := by decide +kernel
theorem dX4_ableToPay_5 : decode cX4_ableToPay 5 = .ok (.bipush 8, 2) := by decide +kernel
theorem dX4_ableToPay_7 : decode cX4_ableToPay 7 = .ok (.if_icmp .ge 39, 3) := by decide +kernel
theorem dX4_ableToPay_10 : decode cX4_ableToPay 10 = .ok (.iload_n 2, 1) := by decide +kernel
theorem dX4_ableToPay_11 : decode cX4_ableToPay 11 = .ok (.aload_n 0, 1) := by decide +kernel
theorem dX4_ableToPay_12 : decode cX4_ableToPay 12 = .ok (.getfield 58, 3) := by decide +kernel
theorem dX4_ableToPay_15 : decode cX4_ableToPay 15 = .ok (.if_icmp .ge 25, 3) := by decide +kernel
theorem dX4_ableToPay_18 : decode cX4_ableToPay 18 = .ok (.aload_n 0, 1) := by decide +kernel
theorem dX4_ableToPay_19 : decode cX4_ableToPay 19 = .ok (.getfield 11, 3) := by decide +kernel
theorem dX4_ableToPay_22 : decode cX4_ableToPay 22 = .ok (.iload_n 2, 1) := by decide +kernel
theorem dX4_ableToPay_23 : decode cX4_ableToPay 23 = .ok (.aaload, 1) := by decide +kernel
theorem dX4_ableToPay_24 : decode cX4_ableToPay 24 = .ok (.getfield 87, 3) := by decide +kernel
theorem dX4_ableToPay_27 : decode cX4_ableToPay 27 = .ok (.aload_n 0, 1) := by decide +kernel
theorem dX4_ableToPay_28 : decode cX4_ableToPay 28 = .ok (.getfield 35, 3) := by decide +kernel
theorem dX4_ableToPay_31 : decode cX4_ableToPay 31 = .ok (.if_icmp .lt 9, 3) := by decide +kernel
theorem dX4_ableToPay_34 : decode cX4_ableToPay 34 = .ok (.iload_n 1, 1) := by decide +kernel
theorem dX4_ableToPay_35 : decode cX4_ableToPay 35 = .ok (.iconst 1, 1) := by decide +kernel
theorem dX4_ableToPay_36 : decode cX4_ableToPay 36 = .ok (.iload_n 2, 1) := by decide +kernel
theorem dX4_ableToPay_37 : decode cX4_ableToPay 37 = .ok (.ishl, 1) := by decide +kernel
theorem dX4_ableToPay_38 : decode cX4_ableToPay 38 = .ok (.ior, 1) := by decide +kernel
theorem dX4_ableToPay_39 : decode cX4_ableToPay 39 = .ok (.istore_n 1, 1) := by decide +kernel
theorem dX4_ableToPay_40 : decode cX4_ableToPay 40 = .ok (.iinc 2 1, 3) := by decide +kernel
theorem dX4_ableToPay_43 : decode cX4_ableToPay 43 = .ok (.goto (-39), 3) := by decide +kernel
theorem dX4_ableToPay_46 : decode cX4_ableToPay 46 = .ok (.iload_n 1, 1) := by decide +kernel
theorem dX4_ableToPay_47 : decode cX4_ableToPay 47 = .ok (.ireturn, 1) := by decide +kernel
theorem dX4_start_0 : decode cX4_start 0 = .ok (.aload_n 0, 1) := by decide +kernel
theorem dX4_start_1 : decode cX4_start 1 = .ok (.iconst 1, 1) := by decide +kernel
theorem dX4_start_2 : decode cX4_start 2 = .ok (.putfield 41, 3) := by decide +kernel
theorem dX4_start_5 : decode cX4_start 5 = .ok (.aload_n 0, 1) := by decide +kernel
theorem dX4_start_6 : decode cX4_start 6 = .ok (.aload_n 0, 1) := by decide +kernel
theorem dX4_start_7 : decode cX4_start 7 = .ok (.invokevirtual 90, 3) := by decide +kernel
theorem dX4_start_10 : decode cX4_start 10 = .ok (.putfield 64, 3) := by decide +kernel
theorem dX4_start_13 : decode cX4_start 13 = .ok (.aload_n 0, 1) := by decide +kernel
theorem dX4_start_14 : decode cX4_start 14 = .ok (.iconst 0, 1) := by decide +kernel
theorem dX4_start_15 : decode cX4_start 15 = .ok (.putfield 67, 3) := by decide +kernel
theorem dX4_start_18 : decode cX4_start 18 = .ok (.aload_n 0, 1) := by decide +kernel
theorem dX4_start_19 : decode cX4_start 19 = .ok (.iconst 0, 1) := by decide +kernel
theorem dX4_start_20 : decode cX4_start 20 = .ok (.putfield 70, 3) := by decide +kernel
theorem dX4_start_23 : decode cX4_start 23 = .ok (.aload_n 0, 1) := by decide +kernel
theorem dX4_start_24 : decode cX4_start 24 = .ok (.iconst 0, 1) := by decide +kernel
theorem dX4_start_25 : decode cX4_start 25 = .ok (.putfield 73, 3) := by decide +kernel
theorem dX4_start_28 : decode cX4_start 28 = .ok (.return_, 1) := by decide +kernel
theorem dX4_digestOf_0 : decode cX4_digestOf 0 = .ok (.bipush 17, 2) := by decide +kernel
theorem dX4_digestOf_2 : decode cX4_digestOf 2 = .ok (.aload_n 0, 1) := by decide +kernel
theorem dX4_digestOf_3 : decode cX4_digestOf 3 = .ok (.getfield 24, 3) := by decide +kernel
theorem dX4_digestOf_6 : decode cX4_digestOf 6 = .ok (.getfield 100, 3) := by decide +kernel
theorem dX4_digestOf_9 : decode cX4_digestOf 9 = .ok (.invokestatic 103, 3) := by decide +kernel
theorem dX4_digestOf_12 : decode cX4_digestOf 12 = .ok (.iload_n 1, 1) := by decide +kernel
theorem dX4_digestOf_13 : decode cX4_digestOf 13 = .ok (.invokestatic 103, 3) := by decide +kernel
theorem dX4_digestOf_16 : decode cX4_digestOf 16 = .ok (.iload_n 2, 1) := by decide +kernel
theorem dX4_digestOf_17 : decode cX4_digestOf 17 = .ok (.invokestatic 103, 3) := by decide +kernel
theorem dX4_digestOf_20 : decode cX4_digestOf 20 = .ok (.ireturn, 1) := by decide +kernel
theorem dX4_isTaken_0 : decode cX4_isTaken 0 = .ok (.iconst 0, 1) := by decide +kernel
theorem dX4_isTaken_1 : decode cX4_isTaken 1 = .ok (.istore_n 2, 1) := by decide +kernel
theorem dX4_isTaken_2 : decode cX4_isTaken 2 = .ok (.iload_n 2, 1) := by decide +kernel
theorem dX4_isTaken_3 : decode cX4_isTaken 3 = .ok (.bipush 8, 2) := by decide +kernel
theorem dX4_isTaken_5 : decode cX4_isTaken 5 = .ok (.if_icmp .ge 35, 3) := by decide +kernel
theorem dX4_isTaken_8 : decode cX4_isTaken 8 = .ok (.aload_n 0, 1) := by decide +kernel
theorem dX4_isTaken_9 : decode cX4_isTaken 9 = .ok (.getfield 67, 3) := by decide +kernel
theorem dX4_isTaken_12 : decode cX4_isTaken 12 = .ok (.iload_n 2, 1) := by decide +kernel
theorem dX4_isTaken_13 : decode cX4_isTaken 13 = .ok (.invokestatic 76, 3) := by decide +kernel
theorem dX4_isTaken_16 : decode cX4_isTaken 16 = .ok (.ifCond .eq 18, 3) := by decide +kernel
theorem dX4_isTaken_19 : decode cX4_isTaken 19 = .ok (.aload_n 0, 1) := by decide +kernel
theorem dX4_isTaken_20 : decode cX4_isTaken 20 = .ok (.getfield 11, 3) := by decide +kernel
theorem dX4_isTaken_23 : decode cX4_isTaken 23 = .ok (.iload_n 2, 1) := by decide +kernel
theorem dX4_isTaken_24 : decode cX4_isTaken 24 = .ok (.aaload, 1) := by decide +kernel
theorem dX4_isTaken_25 : decode cX4_isTaken 25 = .ok (.getfield 107, 3) := by decide +kernel
theorem dX4_isTaken_28 : decode cX4_isTaken 28 = .ok (.iload_n 1, 1) := by decide +kernel
theorem dX4_isTaken_29 : decode cX4_isTaken 29 = .ok (.if_icmp .ne 5, 3) := by decide +kernel
theorem dX4_isTaken_32 : decode cX4_isTaken 32 = .ok (.iconst 1, 1) := by decide +kernel
theorem dX4_isTaken_33 : decode cX4_isTaken 33 = .ok (.ireturn, 1) := by decide +kernel
theorem dX4_isTaken_34 : decode cX4_isTaken 34 = .ok (.iinc 2 1, 3) := by decide +kernel
theorem dX4_isTaken_37 : decode cX4_isTaken 37 = .ok (.goto (-35), 3) := by decide +kernel
theorem dX4_isTaken_40 : decode cX4_isTaken 40 = .ok (.iconst 0, 1) := by decide +kernel
theorem dX4_isTaken_41 : decode cX4_isTaken 41 = .ok (.ireturn, 1) := by decide +kernel
theorem dX4_accept_0 : decode cX4_accept 0 = .ok (.aload_n 0, 1) := by decide +kernel
theorem dX4_accept_1 : decode cX4_accept 1 = .ok (.getfield 11, 3) := by decide +kernel
theorem dX4_accept_4 : decode cX4_accept 4 = .ok (.iload_n 1, 1) := by decide +kernel
theorem dX4_accept_5 : decode cX4_accept 5 = .ok (.aaload, 1) := by decide +kernel
theorem dX4_accept_6 : decode cX4_accept 6 = .ok (.astore 4, 2) := by decide +kernel
theorem dX4_accept_8 : decode cX4_accept 8 = .ok (.aload_n 0, 1) := by decide +kernel
theorem dX4_accept_9 : decode cX4_accept 9 = .ok (.getfield 17, 3) := by decide +kernel
theorem dX4_accept_12 : decode cX4_accept 12 = .ok (.iload_n 1, 1) := by decide +kernel
theorem dX4_accept_13 : decode cX4_accept 13 = .ok (.iload_n 2, 1) := by decide +kernel
theorem dX4_accept_14 : decode cX4_accept 14 = .ok (.iastore, 1) := by decide +kernel
theorem dX4_accept_15 : decode cX4_accept 15 = .ok (.aload 4, 2) := by decide +kernel
theorem dX4_accept_17 : decode cX4_accept 17 = .ok (.iload_n 3, 1) := by decide +kernel
theorem dX4_accept_18 : decode cX4_accept 18 = .ok (.putfield 110, 3) := by decide +kernel
theorem dX4_accept_21 : decode cX4_accept 21 = .ok (.aload 4, 2) := by decide +kernel
theorem dX4_accept_23 : decode cX4_accept 23 = .ok (.aload_n 0, 1) := by decide +kernel
theorem dX4_accept_24 : decode cX4_accept 24 = .ok (.iload_n 2, 1) := by decide +kernel
theorem dX4_accept_25 : decode cX4_accept 25 = .ok (.iload_n 3, 1) := by decide +kernel
theorem dX4_accept_26 : decode cX4_accept 26 = .ok (.invokevirtual 113, 3) := by decide +kernel
theorem dX4_accept_29 : decode cX4_accept 29 = .ok (.putfield 107, 3) := by decide +kernel
theorem dX4_accept_32 : decode cX4_accept 32 = .ok (.aload_n 0, 1) := by decide +kernel
theorem dX4_accept_33 : decode cX4_accept 33 = .ok (.dup, 1) := by decide +kernel
theorem dX4_accept_34 : decode cX4_accept 34 = .ok (.getfield 67, 3) := by decide +kernel
theorem dX4_accept_37 : decode cX4_accept 37 = .ok (.iconst 1, 1) := by decide +kernel
theorem dX4_accept_38 : decode cX4_accept 38 = .ok (.iload_n 1, 1) := by decide +kernel
theorem dX4_accept_39 : decode cX4_accept 39 = .ok (.ishl, 1) := by decide +kernel
theorem dX4_accept_40 : decode cX4_accept 40 = .ok (.ior, 1) := by decide +kernel
theorem dX4_accept_41 : decode cX4_accept 41 = .ok (.putfield 67, 3) := by decide +kernel
theorem dX4_accept_44 : decode cX4_accept 44 = .ok (.aload_n 0, 1) := by decide +kernel
theorem dX4_accept_45 : decode cX4_accept 45 = .ok (.getfield 28, 3) := by decide +kernel
theorem dX4_accept_48 : decode cX4_accept 48 = .ok (.iconst 1, 1) := by decide +kernel
theorem dX4_accept_49 : decode cX4_accept 49 = .ok (.if_icmp .ne 13, 3) := by decide +kernel
theorem dX4_accept_52 : decode cX4_accept 52 = .ok (.aload 4, 2) := by decide +kernel
theorem dX4_accept_54 : decode cX4_accept 54 = .ok (.iload_n 2, 1) := by decide +kernel
theorem dX4_accept_55 : decode cX4_accept 55 = .ok (.aload_n 0, 1) := by decide +kernel
theorem dX4_accept_56 : decode cX4_accept 56 = .ok (.getfield 32, 3) := by decide +kernel
theorem dX4_accept_59 : decode cX4_accept 59 = .ok (.invokevirtual 116, 3) := by decide +kernel
theorem dX4_accept_62 : decode cX4_accept 62 = .ok (.aload_n 0, 1) := by decide +kernel
theorem dX4_accept_63 : decode cX4_accept 63 = .ok (.getfield 28, 3) := by decide +kernel
theorem dX4_accept_66 : decode cX4_accept 66 = .ok (.iconst 2, 1) := by decide +kernel
theorem dX4_accept_67 : decode cX4_accept 67 = .ok (.if_icmp .ne 13, 3) := by decide +kernel
theorem dX4_accept_70 : decode cX4_accept 70 = .ok (.aload 4, 2) := by decide +kernel
theorem dX4_accept_72 : decode cX4_accept 72 = .ok (.iload_n 2, 1) := by decide +kernel
theorem dX4_accept_73 : decode cX4_accept 73 = .ok (.aload_n 0, 1) := by decide +kernel
theorem dX4_accept_74 : decode cX4_accept 74 = .ok (.getfield 38, 3) := by decide +kernel
theorem dX4_accept_77 : decode cX4_accept 77 = .ok (.invokevirtual 120, 3) := by decide +kernel
theorem dX4_accept_80 : decode cX4_accept 80 = .ok (.return_, 1) := by decide +kernel
theorem dX4_payFine_0 : decode cX4_payFine 0 = .ok (.aload_n 0, 1) := by decide +kernel
theorem dX4_payFine_1 : decode cX4_payFine 1 = .ok (.getfield 35, 3) := by decide +kernel
theorem dX4_payFine_4 : decode cX4_payFine 4 = .ok (.aload_n 0, 1) := by decide +kernel
theorem dX4_payFine_5 : decode cX4_payFine 5 = .ok (.getfield 11, 3) := by decide +kernel
theorem dX4_payFine_8 : decode cX4_payFine 8 = .ok (.iload_n 1, 1) := by decide +kernel
theorem dX4_payFine_9 : decode cX4_payFine 9 = .ok (.aaload, 1) := by decide +kernel
theorem dX4_payFine_10 : decode cX4_payFine 10 = .ok (.getfield 87, 3) := by decide +kernel
theorem dX4_payFine_13 : decode cX4_payFine 13 = .ok (.invokestatic 123, 3) := by decide +kernel
theorem dX4_payFine_16 : decode cX4_payFine 16 = .ok (.istore_n 2, 1) := by decide +kernel
theorem dX4_payFine_17 : decode cX4_payFine 17 = .ok (.aload_n 0, 1) := by decide +kernel
theorem dX4_payFine_18 : decode cX4_payFine 18 = .ok (.getfield 11, 3) := by decide +kernel
theorem dX4_payFine_21 : decode cX4_payFine 21 = .ok (.iload_n 1, 1) := by decide +kernel
theorem dX4_payFine_22 : decode cX4_payFine 22 = .ok (.aaload, 1) := by decide +kernel
theorem dX4_payFine_23 : decode cX4_payFine 23 = .ok (.dup, 1) := by decide +kernel
theorem dX4_payFine_24 : decode cX4_payFine 24 = .ok (.getfield 87, 3) := by decide +kernel
theorem dX4_payFine_27 : decode cX4_payFine 27 = .ok (.iload_n 2, 1) := by decide +kernel
theorem dX4_payFine_28 : decode cX4_payFine 28 = .ok (.isub, 1) := by decide +kernel
theorem dX4_payFine_29 : decode cX4_payFine 29 = .ok (.putfield 87, 3) := by decide +kernel
theorem dX4_payFine_32 : decode cX4_payFine 32 = .ok (.aload_n 0, 1) := by decide +kernel
theorem dX4_payFine_33 : decode cX4_payFine 33 = .ok (.dup, 1) := by decide +kernel
theorem dX4_payFine_34 : decode cX4_payFine 34 = .ok (.getfield 61, 3) := by decide +kernel
theorem dX4_payFine_37 : decode cX4_payFine 37 = .ok (.iload_n 2, 1) := by decide +kernel
theorem dX4_payFine_38 : decode cX4_payFine 38 = .ok (.iadd, 1) := by decide +kernel
theorem dX4_payFine_39 : decode cX4_payFine 39 = .ok (.putfield 61, 3) := by decide +kernel
theorem dX4_payFine_42 : decode cX4_payFine 42 = .ok (.return_, 1) := by decide +kernel
theorem dX4_expel_0 : decode cX4_expel 0 = .ok (.aload_n 0, 1) := by decide +kernel
theorem dX4_expel_1 : decode cX4_expel 1 = .ok (.iload_n 1, 1) := by decide +kernel
theorem dX4_expel_2 : decode cX4_expel 2 = .ok (.invokevirtual 128, 3) := by decide +kernel
theorem dX4_expel_5 : decode cX4_expel 5 = .ok (.aload_n 0, 1) := by decide +kernel
theorem dX4_expel_6 : decode cX4_expel 6 = .ok (.getfield 11, 3) := by decide +kernel
theorem dX4_expel_9 : decode cX4_expel 9 = .ok (.iload_n 1, 1) := by decide +kernel
theorem dX4_expel_10 : decode cX4_expel 10 = .ok (.aaload, 1) := by decide +kernel
theorem dX4_expel_11 : decode cX4_expel 11 = .ok (.dup, 1) := by decide +kernel
theorem dX4_expel_12 : decode cX4_expel 12 = .ok (.getfield 132, 3) := by decide +kernel
theorem dX4_expel_15 : decode cX4_expel 15 = .ok (.iconst 1, 1) := by decide +kernel
theorem dX4_expel_16 : decode cX4_expel 16 = .ok (.iadd, 1) := by decide +kernel
theorem dX4_expel_17 : decode cX4_expel 17 = .ok (.putfield 132, 3) := by decide +kernel
theorem dX4_expel_20 : decode cX4_expel 20 = .ok (.aload_n 0, 1) := by decide +kernel
theorem dX4_expel_21 : decode cX4_expel 21 = .ok (.dup, 1) := by decide +kernel
theorem dX4_expel_22 : decode cX4_expel 22 = .ok (.getfield 73, 3) := by decide +kernel
theorem dX4_expel_25 : decode cX4_expel 25 = .ok (.iconst 1, 1) := by decide +kernel
theorem dX4_expel_26 : decode cX4_expel 26 = .ok (.iload_n 1, 1) := by decide +kernel
theorem dX4_expel_27 : decode cX4_expel 27 = .ok (.ishl, 1) := by decide +kernel
theorem dX4_expel_28 : decode cX4_expel 28 = .ok (.ior, 1) := by decide +kernel
theorem dX4_expel_29 : decode cX4_expel 29 = .ok (.putfield 73, 3) := by decide +kernel
theorem dX4_expel_32 : decode cX4_expel 32 = .ok (.aload_n 0, 1) := by decide +kernel
theorem dX4_expel_33 : decode cX4_expel 33 = .ok (.dup, 1) := by decide +kernel
theorem dX4_expel_34 : decode cX4_expel 34 = .ok (.getfield 64, 3) := by decide +kernel
theorem dX4_expel_37 : decode cX4_expel 37 = .ok (.iconst 1, 1) := by decide +kernel
theorem dX4_expel_38 : decode cX4_expel 38 = .ok (.iload_n 1, 1) := by decide +kernel
theorem dX4_expel_39 : decode cX4_expel 39 = .ok (.ishl, 1) := by decide +kernel
theorem dX4_expel_40 : decode cX4_expel 40 = .ok (.iconst (-1), 1) := by decide +kernel
theorem dX4_expel_41 : decode cX4_expel 41 = .ok (.ixor, 1) := by decide +kernel
theorem dX4_expel_42 : decode cX4_expel 42 = .ok (.iand, 1) := by decide +kernel
theorem dX4_expel_43 : decode cX4_expel 43 = .ok (.putfield 64, 3) := by decide +kernel
theorem dX4_expel_46 : decode cX4_expel 46 = .ok (.aload_n 0, 1) := by decide +kernel
theorem dX4_expel_47 : decode cX4_expel 47 = .ok (.dup, 1) := by decide +kernel
theorem dX4_expel_48 : decode cX4_expel 48 = .ok (.getfield 67, 3) := by decide +kernel
theorem dX4_expel_51 : decode cX4_expel 51 = .ok (.iconst 1, 1) := by decide +kernel
theorem dX4_expel_52 : decode cX4_expel 52 = .ok (.iload_n 1, 1) := by decide +kernel
theorem dX4_expel_53 : decode cX4_expel 53 = .ok (.ishl, 1) := by decide +kernel
theorem dX4_expel_54 : decode cX4_expel 54 = .ok (.iconst (-1), 1) := by decide +kernel
theorem dX4_expel_55 : decode cX4_expel 55 = .ok (.ixor, 1) := by decide +kernel
theorem dX4_expel_56 : decode cX4_expel 56 = .ok (.iand, 1) := by decide +kernel
theorem dX4_expel_57 : decode cX4_expel 57 = .ok (.putfield 67, 3) := by decide +kernel
theorem dX4_expel_60 : decode cX4_expel 60 = .ok (.return_, 1) := by decide +kernel
theorem dX4_startOpening_0 : decode cX4_startOpening 0 = .ok (.aload_n 0, 1) := by decide +kernel
theorem dX4_startOpening_1 : decode cX4_startOpening 1 = .ok (.aload_n 0, 1) := by decide +kernel
theorem dX4_startOpening_2 : decode cX4_startOpening 2 = .ok (.getfield 67, 3) := by decide +kernel
theorem dX4_startOpening_5 : decode cX4_startOpening 5 = .ok (.putfield 64, 3) := by decide +kernel
theorem dX4_startOpening_8 : decode cX4_startOpening 8 = .ok (.aload_n 0, 1) := by decide +kernel
theorem dX4_startOpening_9 : decode cX4_startOpening 9 = .ok (.getfield 64, 3) := by decide +kernel
theorem dX4_startOpening_12 : decode cX4_startOpening 12 = .ok (.invokestatic 94, 3) := by decide +kernel
theorem dX4_startOpening_15 : decode cX4_startOpening 15 = .ok (.istore_n 1, 1) := by decide +kernel
theorem dX4_startOpening_16 : decode cX4_startOpening 16 = .ok (.iload_n 1, 1) := by decide +kernel
theorem dX4_startOpening_17 : decode cX4_startOpening 17 = .ok (.iconst 2, 1) := by decide +kernel
theorem dX4_startOpening_18 : decode cX4_startOpening 18 = .ok (.if_icmp .ge 27, 3) := by decide +kernel
theorem dX4_startOpening_21 : decode cX4_startOpening 21 = .ok (.aload_n 0, 1) := by decide +kernel
theorem dX4_startOpening_22 : decode cX4_startOpening 22 = .ok (.getfield 24, 3) := by decide +kernel
theorem dX4_startOpening_25 : decode cX4_startOpening 25 = .ok (.aload_n 0, 1) := by decide +kernel
theorem dX4_startOpening_26 : decode cX4_startOpening 26 = .ok (.getfield 64, 3) := by decide +kernel
theorem dX4_startOpening_29 : decode cX4_startOpening 29 = .ok (.iconst 0, 1) := by decide +kernel
theorem dX4_startOpening_30 : decode cX4_startOpening 30 = .ok (.aload_n 0, 1) := by decide +kernel
theorem dX4_startOpening_31 : decode cX4_startOpening 31 = .ok (.getfield 28, 3) := by decide +kernel
theorem dX4_startOpening_34 : decode cX4_startOpening 34 = .ok (.invokevirtual 135, 3) := by decide +kernel
theorem dX4_startOpening_37 : decode cX4_startOpening 37 = .ok (.aload_n 0, 1) := by decide +kernel
theorem dX4_startOpening_38 : decode cX4_startOpening 38 = .ok (.iconst 0, 1) := by decide +kernel
theorem dX4_startOpening_39 : decode cX4_startOpening 39 = .ok (.putfield 41, 3) := by decide +kernel
theorem dX4_startOpening_42 : decode cX4_startOpening 42 = .ok (.bipush (-5), 2) := by decide +kernel
theorem dX4_startOpening_44 : decode cX4_startOpening 44 = .ok (.ireturn, 1) := by decide +kernel
theorem dX4_startOpening_45 : decode cX4_startOpening 45 = .ok (.aload_n 0, 1) := by decide +kernel
theorem dX4_startOpening_46 : decode cX4_startOpening 46 = .ok (.iconst 2, 1) := by decide +kernel
theorem dX4_startOpening_47 : decode cX4_startOpening 47 = .ok (.putfield 41, 3) := by decide +kernel
theorem dX4_startOpening_50 : decode cX4_startOpening 50 = .ok (.iload_n 1, 1) := by decide +kernel
theorem dX4_startOpening_51 : decode cX4_startOpening 51 = .ok (.ireturn, 1) := by decide +kernel
theorem dX4_finish_0 : decode cX4_finish 0 = .ok (.aload_n 0, 1) := by decide +kernel
theorem dX4_finish_1 : decode cX4_finish 1 = .ok (.aload_n 0, 1) := by decide +kernel
theorem dX4_finish_2 : decode cX4_finish 2 = .ok (.getfield 70, 3) := by decide +kernel
theorem dX4_finish_5 : decode cX4_finish 5 = .ok (.invokevirtual 139, 3) := by decide +kernel
theorem dX4_finish_8 : decode cX4_finish 8 = .ok (.istore_n 1, 1) := by decide +kernel
theorem dX4_finish_9 : decode cX4_finish 9 = .ok (.aload_n 0, 1) := by decide +kernel
theorem dX4_finish_10 : decode cX4_finish 10 = .ok (.invokevirtual 142, 3) := by decide +kernel
theorem dX4_finish_13 : decode cX4_finish 13 = .ok (.aload_n 0, 1) := by decide +kernel
theorem dX4_finish_14 : decode cX4_finish 14 = .ok (.iconst 0, 1) := by decide +kernel
theorem dX4_finish_15 : decode cX4_finish 15 = .ok (.putfield 41, 3) := by decide +kernel
theorem dX4_finish_18 : decode cX4_finish 18 = .ok (.aload_n 0, 1) := by decide +kernel
theorem dX4_finish_19 : decode cX4_finish 19 = .ok (.getfield 70, 3) := by decide +kernel
theorem dX4_finish_22 : decode cX4_finish 22 = .ok (.invokestatic 94, 3) := by decide +kernel
theorem dX4_finish_25 : decode cX4_finish 25 = .ok (.istore_n 2, 1) := by decide +kernel
theorem dX4_finish_26 : decode cX4_finish 26 = .ok (.iload_n 1, 1) := by decide +kernel
theorem dX4_finish_27 : decode cX4_finish 27 = .ok (.iconst (-1), 1) := by decide +kernel
theorem dX4_finish_28 : decode cX4_finish 28 = .ok (.if_icmp .ne 22, 3) := by decide +kernel
theorem dX4_finish_31 : decode cX4_finish 31 = .ok (.aload_n 0, 1) := by decide +kernel
theorem dX4_finish_32 : decode cX4_finish 32 = .ok (.getfield 24, 3) := by decide +kernel
theorem dX4_finish_35 : decode cX4_finish 35 = .ok (.aload_n 0, 1) := by decide +kernel
theorem dX4_finish_36 : decode cX4_finish 36 = .ok (.getfield 64, 3) := by decide +kernel
theorem dX4_finish_39 : decode cX4_finish 39 = .ok (.iload_n 2, 1) := by decide +kernel
theorem dX4_finish_40 : decode cX4_finish 40 = .ok (.aload_n 0, 1) := by decide +kernel
theorem dX4_finish_41 : decode cX4_finish 41 = .ok (.getfield 28, 3) := by decide +kernel
theorem dX4_finish_44 : decode cX4_finish 44 = .ok (.invokevirtual 135, 3) := by decide +kernel
theorem dX4_finish_47 : decode cX4_finish 47 = .ok (.bipush (-5), 2) := by decide +kernel
theorem dX4_finish_49 : decode cX4_finish 49 = .ok (.ireturn, 1) := by decide +kernel
theorem dX4_finish_50 : decode cX4_finish 50 = .ok (.aload_n 0, 1) := by decide +kernel
theorem dX4_finish_51 : decode cX4_finish 51 = .ok (.aload_n 0, 1) := by decide +kernel
theorem dX4_finish_52 : decode cX4_finish 52 = .ok (.getfield 17, 3) := by decide +kernel
theorem dX4_finish_55 : decode cX4_finish 55 = .ok (.iload_n 1, 1) := by decide +kernel
theorem dX4_finish_56 : decode cX4_finish 56 = .ok (.invokevirtual 145, 3) := by decide +kernel
theorem dX4_finish_59 : decode cX4_finish 59 = .ok (.istore_n 3, 1) := by decide +kernel
theorem dX4_finish_60 : decode cX4_finish 60 = .ok (.aload_n 0, 1) := by decide +kernel
theorem dX4_finish_61 : decode cX4_finish 61 = .ok (.getfield 24, 3) := by decide +kernel
theorem dX4_finish_64 : decode cX4_finish 64 = .ok (.iload_n 3, 1) := by decide +kernel
theorem dX4_finish_65 : decode cX4_finish 65 = .ok (.aload_n 0, 1) := by decide +kernel
theorem dX4_finish_66 : decode cX4_finish 66 = .ok (.getfield 64, 3) := by decide +kernel
theorem dX4_finish_69 : decode cX4_finish 69 = .ok (.iload_n 2, 1) := by decide +kernel
theorem dX4_finish_70 : decode cX4_finish 70 = .ok (.aload_n 0, 1) := by decide +kernel
theorem dX4_finish_71 : decode cX4_finish 71 = .ok (.getfield 28, 3) := by decide +kernel
theorem dX4_finish_74 : decode cX4_finish 74 = .ok (.invokevirtual 149, 3) := by decide +kernel
theorem dX4_finish_77 : decode cX4_finish 77 = .ok (.aload_n 0, 1) := by decide +kernel
theorem dX4_finish_78 : decode cX4_finish 78 = .ok (.iload_n 2, 1) := by decide +kernel
theorem dX4_finish_79 : decode cX4_finish 79 = .ok (.invokevirtual 153, 3) := by decide +kernel
theorem dX4_finish_82 : decode cX4_finish 82 = .ok (.iload_n 3, 1) := by decide +kernel
theorem dX4_finish_83 : decode cX4_finish 83 = .ok (.iconst 1, 1) := by decide +kernel
theorem dX4_finish_84 : decode cX4_finish 84 = .ok (.iand, 1) := by decide +kernel
theorem dX4_finish_85 : decode cX4_finish 85 = .ok (.ireturn, 1) := by decide +kernel
theorem dX4_chargeOrCredit_0 : decode cX4_chargeOrCredit 0 = .ok (.iconst 0, 1) := by decide +kernel
theorem dX4_chargeOrCredit_1 : decode cX4_chargeOrCredit 1 = .ok (.istore_n 1, 1) := by decide +kernel
theorem dX4_chargeOrCredit_2 : decode cX4_chargeOrCredit 2 = .ok (.iload_n 1, 1) := by decide +kernel
theorem dX4_chargeOrCredit_3 : decode cX4_chargeOrCredit 3 = .ok (.bipush 8, 2) := by decide +kernel
theorem dX4_chargeOrCredit_5 : decode cX4_chargeOrCredit 5 = .ok (.if_icmp .ge 69, 3) := by decide +kernel
theorem dX4_chargeOrCredit_8 : decode cX4_chargeOrCredit 8 = .ok (.aload_n 0, 1) := by decide +kernel
theorem dX4_chargeOrCredit_9 : decode cX4_chargeOrCredit 9 = .ok (.getfield 70, 3) := by decide +kernel
theorem dX4_chargeOrCredit_12 : decode cX4_chargeOrCredit 12 = .ok (.iload_n 1, 1) := by decide +kernel
theorem dX4_chargeOrCredit_13 : decode cX4_chargeOrCredit 13 = .ok (.invokestatic 76, 3) := by decide +kernel
theorem dX4_chargeOrCredit_16 : decode cX4_chargeOrCredit 16 = .ok (.ifCond .eq 21, 3) := by decide +kernel
theorem dX4_chargeOrCredit_19 : decode cX4_chargeOrCredit 19 = .ok (.aload_n 0, 1) := by decide +kernel
theorem dX4_chargeOrCredit_20 : decode cX4_chargeOrCredit 20 = .ok (.getfield 11, 3) := by decide +kernel
theorem dX4_chargeOrCredit_23 : decode cX4_chargeOrCredit 23 = .ok (.iload_n 1, 1) := by decide +kernel
theorem dX4_chargeOrCredit_24 : decode cX4_chargeOrCredit 24 = .ok (.aaload, 1) := by decide +kernel
theorem dX4_chargeOrCredit_25 : decode cX4_chargeOrCredit 25 = .ok (.dup, 1) := by decide +kernel
theorem dX4_chargeOrCredit_26 : decode cX4_chargeOrCredit 26 = .ok (.getfield 156, 3) := by decide +kernel
theorem dX4_chargeOrCredit_29 : decode cX4_chargeOrCredit 29 = .ok (.iconst 1, 1) := by decide +kernel
theorem dX4_chargeOrCredit_30 : decode cX4_chargeOrCredit 30 = .ok (.iadd, 1) := by decide +kernel
theorem dX4_chargeOrCredit_31 : decode cX4_chargeOrCredit 31 = .ok (.putfield 156, 3) := by decide +kernel
theorem dX4_chargeOrCredit_34 : decode cX4_chargeOrCredit 34 = .ok (.goto 34, 3) := by decide +kernel
theorem dX4_chargeOrCredit_37 : decode cX4_chargeOrCredit 37 = .ok (.aload_n 0, 1) := by decide +kernel
theorem dX4_chargeOrCredit_38 : decode cX4_chargeOrCredit 38 = .ok (.getfield 64, 3) := by decide +kernel
theorem dX4_chargeOrCredit_41 : decode cX4_chargeOrCredit 41 = .ok (.iload_n 1, 1) := by decide +kernel
theorem dX4_chargeOrCredit_42 : decode cX4_chargeOrCredit 42 = .ok (.invokestatic 76, 3) := by decide +kernel
theorem dX4_chargeOrCredit_45 : decode cX4_chargeOrCredit 45 = .ok (.ifCond .eq 23, 3) := by decide +kernel
theorem dX4_chargeOrCredit_48 : decode cX4_chargeOrCredit 48 = .ok (.aload_n 0, 1) := by decide +kernel
theorem dX4_chargeOrCredit_49 : decode cX4_chargeOrCredit 49 = .ok (.getfield 11, 3) := by decide +kernel
theorem dX4_chargeOrCredit_52 : decode cX4_chargeOrCredit 52 = .ok (.iload_n 1, 1) := by decide +kernel
theorem dX4_chargeOrCredit_53 : decode cX4_chargeOrCredit 53 = .ok (.aaload, 1) := by decide +kernel
theorem dX4_chargeOrCredit_54 : decode cX4_chargeOrCredit 54 = .ok (.dup, 1) := by decide +kernel
theorem dX4_chargeOrCredit_55 : decode cX4_chargeOrCredit 55 = .ok (.getfield 159, 3) := by decide +kernel
theorem dX4_chargeOrCredit_58 : decode cX4_chargeOrCredit 58 = .ok (.iconst 1, 1) := by decide +kernel
theorem dX4_chargeOrCredit_59 : decode cX4_chargeOrCredit 59 = .ok (.iadd, 1) := by decide +kernel
theorem dX4_chargeOrCredit_60 : decode cX4_chargeOrCredit 60 = .ok (.putfield 159, 3) := by decide +kernel
theorem dX4_chargeOrCredit_63 : decode cX4_chargeOrCredit 63 = .ok (.aload_n 0, 1) := by decide +kernel
theorem dX4_chargeOrCredit_64 : decode cX4_chargeOrCredit 64 = .ok (.iload_n 1, 1) := by decide +kernel
theorem dX4_chargeOrCredit_65 : decode cX4_chargeOrCredit 65 = .ok (.invokevirtual 128, 3) := by decide +kernel
theorem dX4_chargeOrCredit_68 : decode cX4_chargeOrCredit 68 = .ok (.iinc 1 1, 3) := by decide +kernel
theorem dX4_chargeOrCredit_71 : decode cX4_chargeOrCredit 71 = .ok (.goto (-69), 3) := by decide +kernel
theorem dX4_chargeOrCredit_74 : decode cX4_chargeOrCredit 74 = .ok (.return_, 1) := by decide +kernel
theorem dX4_sharePot_0 : decode cX4_sharePot 0 = .ok (.iload_n 1, 1) := by decide +kernel
theorem dX4_sharePot_1 : decode cX4_sharePot 1 = .ok (.ifCond .ne 4, 3) := by decide +kernel
theorem dX4_sharePot_4 : decode cX4_sharePot 4 = .ok (.return_, 1) := by decide +kernel
theorem dX4_sharePot_5 : decode cX4_sharePot 5 = .ok (.aload_n 0, 1) := by decide +kernel
theorem dX4_sharePot_6 : decode cX4_sharePot 6 = .ok (.getfield 61, 3) := by decide +kernel
theorem dX4_sharePot_9 : decode cX4_sharePot 9 = .ok (.iload_n 1, 1) := by decide +kernel
theorem dX4_sharePot_10 : decode cX4_sharePot 10 = .ok (.idiv, 1) := by decide +kernel
theorem dX4_sharePot_11 : decode cX4_sharePot 11 = .ok (.istore_n 2, 1) := by decide +kernel
theorem dX4_sharePot_12 : decode cX4_sharePot 12 = .ok (.iconst 0, 1) := by decide +kernel
theorem dX4_sharePot_13 : decode cX4_sharePot 13 = .ok (.istore_n 3, 1) := by decide +kernel
theorem dX4_sharePot_14 : decode cX4_sharePot 14 = .ok (.iload_n 3, 1) := by decide +kernel
theorem dX4_sharePot_15 : decode cX4_sharePot 15 = .ok (.bipush 8, 2) := by decide +kernel
theorem dX4_sharePot_17 : decode cX4_sharePot 17 = .ok (.if_icmp .ge 45, 3) := by decide +kernel
theorem dX4_sharePot_20 : decode cX4_sharePot 20 = .ok (.aload_n 0, 1) := by decide +kernel
theorem dX4_sharePot_21 : decode cX4_sharePot 21 = .ok (.getfield 70, 3) := by decide +kernel
theorem dX4_sharePot_24 : decode cX4_sharePot 24 = .ok (.iload_n 3, 1) := by decide +kernel
theorem dX4_sharePot_25 : decode cX4_sharePot 25 = .ok (.invokestatic 76, 3) := by decide +kernel
theorem dX4_sharePot_28 : decode cX4_sharePot 28 = .ok (.ifCond .eq 28, 3) := by decide +kernel
theorem dX4_sharePot_31 : decode cX4_sharePot 31 = .ok (.aload_n 0, 1) := by decide +kernel
theorem dX4_sharePot_32 : decode cX4_sharePot 32 = .ok (.getfield 11, 3) := by decide +kernel
theorem dX4_sharePot_35 : decode cX4_sharePot 35 = .ok (.iload_n 3, 1) := by decide +kernel
theorem dX4_sharePot_36 : decode cX4_sharePot 36 = .ok (.aaload, 1) := by decide +kernel
theorem dX4_sharePot_37 : decode cX4_sharePot 37 = .ok (.dup, 1) := by decide +kernel
theorem dX4_sharePot_38 : decode cX4_sharePot 38 = .ok (.getfield 87, 3) := by decide +kernel
theorem dX4_sharePot_41 : decode cX4_sharePot 41 = .ok (.iload_n 2, 1) := by decide +kernel
theorem dX4_sharePot_42 : decode cX4_sharePot 42 = .ok (.iadd, 1) := by decide +kernel
theorem dX4_sharePot_43 : decode cX4_sharePot 43 = .ok (.putfield 87, 3) := by decide +kernel
theorem dX4_sharePot_46 : decode cX4_sharePot 46 = .ok (.aload_n 0, 1) := by decide +kernel
theorem dX4_sharePot_47 : decode cX4_sharePot 47 = .ok (.dup, 1) := by decide +kernel
theorem dX4_sharePot_48 : decode cX4_sharePot 48 = .ok (.getfield 61, 3) := by decide +kernel
theorem dX4_sharePot_51 : decode cX4_sharePot 51 = .ok (.iload_n 2, 1) := by decide +kernel
theorem dX4_sharePot_52 : decode cX4_sharePot 52 = .ok (.isub, 1) := by decide +kernel
theorem dX4_sharePot_53 : decode cX4_sharePot 53 = .ok (.putfield 61, 3) := by decide +kernel
theorem dX4_sharePot_56 : decode cX4_sharePot 56 = .ok (.iinc 3 1, 3) := by decide +kernel
theorem dX4_sharePot_59 : decode cX4_sharePot 59 = .ok (.goto (-45), 3) := by decide +kernel
theorem dX4_sharePot_62 : decode cX4_sharePot 62 = .ok (.return_, 1) := by decide +kernel
theorem dX4_countedIf_0 : decode cX4_countedIf 0 = .ok (.aload_n 0, 1) := by decide +kernel
theorem dX4_countedIf_1 : decode cX4_countedIf 1 = .ok (.getfield 28, 3) := by decide +kernel
theorem dX4_countedIf_4 : decode cX4_countedIf 4 = .ok (.ifCond .ne 5, 3) := by decide +kernel
theorem dX4_countedIf_7 : decode cX4_countedIf 7 = .ok (.iload_n 1, 1) := by decide +kernel
theorem dX4_countedIf_8 : decode cX4_countedIf 8 = .ok (.ireturn, 1) := by decide +kernel
theorem dX4_countedIf_9 : decode cX4_countedIf 9 = .ok (.aload_n 0, 1) := by decide +kernel
theorem dX4_countedIf_10 : decode cX4_countedIf 10 = .ok (.getfield 28, 3) := by decide +kernel
theorem dX4_countedIf_13 : decode cX4_countedIf 13 = .ok (.iconst 1, 1) := by decide +kernel
theorem dX4_countedIf_14 : decode cX4_countedIf 14 = .ok (.if_icmp .ne 13, 3) := by decide +kernel
theorem dX4_countedIf_17 : decode cX4_countedIf 17 = .ok (.aload_n 0, 1) := by decide +kernel
theorem dX4_countedIf_18 : decode cX4_countedIf 18 = .ok (.iload_n 1, 1) := by decide +kernel
theorem dX4_countedIf_19 : decode cX4_countedIf 19 = .ok (.invokevirtual 162, 3) := by decide +kernel
theorem dX4_countedIf_22 : decode cX4_countedIf 22 = .ok (.ifCond .ne 5, 3) := by decide +kernel
theorem dX4_countedIf_25 : decode cX4_countedIf 25 = .ok (.iconst (-1), 1) := by decide +kernel
theorem dX4_countedIf_26 : decode cX4_countedIf 26 = .ok (.ireturn, 1) := by decide +kernel
theorem dX4_countedIf_27 : decode cX4_countedIf 27 = .ok (.aload_n 0, 1) := by decide +kernel
theorem dX4_countedIf_28 : decode cX4_countedIf 28 = .ok (.getfield 64, 3) := by decide +kernel
theorem dX4_countedIf_31 : decode cX4_countedIf 31 = .ok (.ireturn, 1) := by decide +kernel
theorem dX4_canRecoverAll_0 : decode cX4_canRecoverAll 0 = .ok (.iconst 0, 1) := by decide +kernel
theorem dX4_canRecoverAll_1 : decode cX4_canRecoverAll 1 = .ok (.istore_n 2, 1) := by decide +kernel
theorem dX4_canRecoverAll_2 : decode cX4_canRecoverAll 2 = .ok (.iload_n 2, 1) := by decide +kernel
theorem dX4_canRecoverAll_3 : decode cX4_canRecoverAll 3 = .ok (.bipush 8, 2) := by decide +kernel
theorem dX4_canRecoverAll_5 : decode cX4_canRecoverAll 5 = .ok (.if_icmp .ge 47, 3) := by decide +kernel
theorem dX4_canRecoverAll_8 : decode cX4_canRecoverAll 8 = .ok (.aload_n 0, 1) := by decide +kernel
theorem dX4_canRecoverAll_9 : decode cX4_canRecoverAll 9 = .ok (.getfield 64, 3) := by decide +kernel
theorem dX4_canRecoverAll_12 : decode cX4_canRecoverAll 12 = .ok (.iload_n 1, 1) := by decide +kernel
theorem dX4_canRecoverAll_13 : decode cX4_canRecoverAll 13 = .ok (.iconst (-1), 1) := by decide +kernel
theorem dX4_canRecoverAll_14 : decode cX4_canRecoverAll 14 = .ok (.ixor, 1) := by decide +kernel
theorem dX4_canRecoverAll_15 : decode cX4_canRecoverAll 15 = .ok (.iand, 1) := by decide +kernel
theorem dX4_canRecoverAll_16 : decode cX4_canRecoverAll 16 = .ok (.iload_n 2, 1) := by decide +kernel
theorem dX4_canRecoverAll_17 : decode cX4_canRecoverAll 17 = .ok (.invokestatic 76, 3) := by decide +kernel
theorem dX4_canRecoverAll_20 : decode cX4_canRecoverAll 20 = .ok (.ifCond .eq 26, 3) := by decide +kernel
theorem dX4_canRecoverAll_23 : decode cX4_canRecoverAll 23 = .ok (.iload_n 1, 1) := by decide +kernel
theorem dX4_canRecoverAll_24 : decode cX4_canRecoverAll 24 = .ok (.aload_n 0, 1) := by decide +kernel
theorem dX4_canRecoverAll_25 : decode cX4_canRecoverAll 25 = .ok (.getfield 11, 3) := by decide +kernel
theorem dX4_canRecoverAll_28 : decode cX4_canRecoverAll 28 = .ok (.iload_n 2, 1) := by decide +kernel
theorem dX4_canRecoverAll_29 : decode cX4_canRecoverAll 29 = .ok (.aaload, 1) := by decide +kernel
theorem dX4_canRecoverAll_30 : decode cX4_canRecoverAll 30 = .ok (.getfield 165, 3) := by decide +kernel
theorem dX4_canRecoverAll_33 : decode cX4_canRecoverAll 33 = .ok (.iand, 1) := by decide +kernel
theorem dX4_canRecoverAll_34 : decode cX4_canRecoverAll 34 = .ok (.invokestatic 94, 3) := by decide +kernel
theorem dX4_canRecoverAll_37 : decode cX4_canRecoverAll 37 = .ok (.aload_n 0, 1) := by decide +kernel
theorem dX4_canRecoverAll_38 : decode cX4_canRecoverAll 38 = .ok (.getfield 32, 3) := by decide +kernel
theorem dX4_canRecoverAll_41 : decode cX4_canRecoverAll 41 = .ok (.if_icmp .ge 5, 3) := by decide +kernel
theorem dX4_canRecoverAll_44 : decode cX4_canRecoverAll 44 = .ok (.iconst 0, 1) := by decide +kernel
theorem dX4_canRecoverAll_45 : decode cX4_canRecoverAll 45 = .ok (.ireturn, 1) := by decide +kernel
theorem dX4_canRecoverAll_46 : decode cX4_canRecoverAll 46 = .ok (.iinc 2 1, 3) := by decide +kernel
theorem dX4_canRecoverAll_49 : decode cX4_canRecoverAll 49 = .ok (.goto (-47), 3) := by decide +kernel
theorem dX4_canRecoverAll_52 : decode cX4_canRecoverAll 52 = .ok (.iconst 1, 1) := by decide +kernel
theorem dX4_canRecoverAll_53 : decode cX4_canRecoverAll 53 = .ok (.ireturn, 1) := by decide +kernel
theorem dX4_mixed_0 : decode cX4_mixed 0 = .ok (.aload_n 0, 1) := by decide +kernel
theorem dX4_mixed_1 : decode cX4_mixed 1 = .ok (.getfield 24, 3) := by decide +kernel
theorem dX4_mixed_4 : decode cX4_mixed 4 = .ok (.getfield 168, 3) := by decide +kernel
theorem dX4_mixed_7 : decode cX4_mixed 7 = .ok (.istore_n 3, 1) := by decide +kernel
theorem dX4_mixed_8 : decode cX4_mixed 8 = .ok (.iconst 0, 1) := by decide +kernel
theorem dX4_mixed_9 : decode cX4_mixed 9 = .ok (.istore 4, 2) := by decide +kernel
theorem dX4_mixed_11 : decode cX4_mixed 11 = .ok (.iload 4, 2) := by decide +kernel
theorem dX4_mixed_13 : decode cX4_mixed 13 = .ok (.bipush 8, 2) := by decide +kernel
theorem dX4_mixed_15 : decode cX4_mixed 15 = .ok (.if_icmp .ge 50, 3) := by decide +kernel
theorem dX4_mixed_18 : decode cX4_mixed 18 = .ok (.iload 4, 2) := by decide +kernel
theorem dX4_mixed_20 : decode cX4_mixed 20 = .ok (.aload_n 1, 1) := by decide +kernel
theorem dX4_mixed_21 : decode cX4_mixed 21 = .ok (.arraylength, 1) := by decide +kernel
theorem dX4_mixed_22 : decode cX4_mixed 22 = .ok (.if_icmp .ge 43, 3) := by decide +kernel
theorem dX4_mixed_25 : decode cX4_mixed 25 = .ok (.aload_n 0, 1) := by decide +kernel
theorem dX4_mixed_26 : decode cX4_mixed 26 = .ok (.getfield 64, 3) := by decide +kernel
theorem dX4_mixed_29 : decode cX4_mixed 29 = .ok (.iload 4, 2) := by decide +kernel
theorem dX4_mixed_31 : decode cX4_mixed 31 = .ok (.invokestatic 76, 3) := by decide +kernel
theorem dX4_mixed_34 : decode cX4_mixed 34 = .ok (.ifCond .eq 25, 3) := by decide +kernel
theorem dX4_mixed_37 : decode cX4_mixed 37 = .ok (.iload_n 3, 1) := by decide +kernel
theorem dX4_mixed_38 : decode cX4_mixed 38 = .ok (.iload_n 2, 1) := by decide +kernel
theorem dX4_mixed_39 : decode cX4_mixed 39 = .ok (.iload 4, 2) := by decide +kernel
theorem dX4_mixed_41 : decode cX4_mixed 41 = .ok (.invokestatic 76, 3) := by decide +kernel
theorem dX4_mixed_44 : decode cX4_mixed 44 = .ok (.ifCond .eq 10, 3) := by decide +kernel
theorem dX4_mixed_47 : decode cX4_mixed 47 = .ok (.aload_n 1, 1) := by decide +kernel
theorem dX4_mixed_48 : decode cX4_mixed 48 = .ok (.iload 4, 2) := by decide +kernel
theorem dX4_mixed_50 : decode cX4_mixed 50 = .ok (.iaload, 1) := by decide +kernel
theorem dX4_mixed_51 : decode cX4_mixed 51 = .ok (.goto 4, 3) := by decide +kernel
theorem dX4_mixed_54 : decode cX4_mixed 54 = .ok (.iconst 0, 1) := by decide +kernel
theorem dX4_mixed_55 : decode cX4_mixed 55 = .ok (.invokestatic 103, 3) := by decide +kernel
theorem dX4_mixed_58 : decode cX4_mixed 58 = .ok (.istore_n 3, 1) := by decide +kernel
theorem dX4_mixed_59 : decode cX4_mixed 59 = .ok (.iinc 4 1, 3) := by decide +kernel
theorem dX4_mixed_62 : decode cX4_mixed 62 = .ok (.goto (-51), 3) := by decide +kernel
theorem dX4_mixed_65 : decode cX4_mixed 65 = .ok (.iload_n 3, 1) := by decide +kernel
theorem dX4_mixed_66 : decode cX4_mixed 66 = .ok (.ireturn, 1) := by decide +kernel
theorem dX5_init_0 : decode cX5_init 0 = .ok (.aload_n 0, 1) := by decide +kernel
theorem dX5_init_1 : decode cX5_init 1 = .ok (.invokespecial 3, 3) := by decide +kernel
theorem dX5_init_4 : decode cX5_init 4 = .ok (.aload_n 0, 1) := by decide +kernel
theorem dX5_init_5 : decode cX5_init 5 = .ok (.bipush 8, 2) := by decide +kernel
theorem dX5_init_7 : decode cX5_init 7 = .ok (.newarray .int, 2) := by decide +kernel
theorem dX5_init_9 : decode cX5_init 9 = .ok (.putfield 9, 3) := by decide +kernel
theorem dX5_init_12 : decode cX5_init 12 = .ok (.aload_n 0, 1) := by decide +kernel
theorem dX5_init_13 : decode cX5_init 13 = .ok (.bipush 8, 2) := by decide +kernel
theorem dX5_init_15 : decode cX5_init 15 = .ok (.newarray .int, 2) := by decide +kernel
theorem dX5_init_17 : decode cX5_init 17 = .ok (.putfield 15, 3) := by decide +kernel
theorem dX5_init_20 : decode cX5_init 20 = .ok (.return_, 1) := by decide +kernel
theorem dX5_copy_0 : decode cX5_copy 0 = .ok (.aload_n 0, 1) := by decide +kernel
theorem dX5_copy_1 : decode cX5_copy 1 = .ok (.aload_n 1, 1) := by decide +kernel
theorem dX5_copy_2 : decode cX5_copy 2 = .ok (.getfield 18, 3) := by decide +kernel
theorem dX5_copy_5 : decode cX5_copy 5 = .ok (.putfield 18, 3) := by decide +kernel
theorem dX5_copy_8 : decode cX5_copy 8 = .ok (.aload_n 0, 1) := by decide +kernel
theorem dX5_copy_9 : decode cX5_copy 9 = .ok (.aload_n 1, 1) := by decide +kernel
theorem dX5_copy_10 : decode cX5_copy 10 = .ok (.getfield 22, 3) := by decide +kernel
theorem dX5_copy_13 : decode cX5_copy 13 = .ok (.putfield 22, 3) := by decide +kernel
theorem dX5_copy_16 : decode cX5_copy 16 = .ok (.aload_n 0, 1) := by decide +kernel
theorem dX5_copy_17 : decode cX5_copy 17 = .ok (.aload_n 1, 1) := by decide +kernel
theorem dX5_copy_18 : decode cX5_copy 18 = .ok (.getfield 25, 3) := by decide +kernel
theorem dX5_copy_21 : decode cX5_copy 21 = .ok (.putfield 25, 3) := by decide +kernel
theorem dX5_copy_24 : decode cX5_copy 24 = .ok (.aload_n 0, 1) := by decide +kernel
theorem dX5_copy_25 : decode cX5_copy 25 = .ok (.aload_n 1, 1) := by decide +kernel
theorem dX5_copy_26 : decode cX5_copy 26 = .ok (.getfield 28, 3) := by decide +kernel
theorem dX5_copy_29 : decode cX5_copy 29 = .ok (.putfield 28, 3) := by decide +kernel
theorem dX5_copy_32 : decode cX5_copy 32 = .ok (.aload_n 0, 1) := by decide +kernel
theorem dX5_copy_33 : decode cX5_copy 33 = .ok (.aload_n 1, 1) := by decide +kernel
theorem dX5_copy_34 : decode cX5_copy 34 = .ok (.getfield 31, 3) := by decide +kernel
theorem dX5_copy_37 : decode cX5_copy 37 = .ok (.putfield 31, 3) := by decide +kernel
theorem dX5_copy_40 : decode cX5_copy 40 = .ok (.aload_n 0, 1) := by decide +kernel
theorem dX5_copy_41 : decode cX5_copy 41 = .ok (.aload_n 1, 1) := by decide +kernel
theorem dX5_copy_42 : decode cX5_copy 42 = .ok (.getfield 34, 3) := by decide +kernel
theorem dX5_copy_45 : decode cX5_copy 45 = .ok (.putfield 34, 3) := by decide +kernel
theorem dX5_copy_48 : decode cX5_copy 48 = .ok (.aload_n 0, 1) := by decide +kernel
theorem dX5_copy_49 : decode cX5_copy 49 = .ok (.aload_n 1, 1) := by decide +kernel
theorem dX5_copy_50 : decode cX5_copy 50 = .ok (.getfield 37, 3) := by decide +kernel
theorem dX5_copy_53 : decode cX5_copy 53 = .ok (.putfield 37, 3) := by decide +kernel
theorem dX5_copy_56 : decode cX5_copy 56 = .ok (.aload_n 0, 1) := by decide +kernel
theorem dX5_copy_57 : decode cX5_copy 57 = .ok (.aload_n 1, 1) := by decide +kernel
theorem dX5_copy_58 : decode cX5_copy 58 = .ok (.getfield 40, 3) := by decide +kernel
theorem dX5_copy_61 : decode cX5_copy 61 = .ok (.putfield 40, 3) := by decide +kernel
theorem dX5_copy_64 : decode cX5_copy 64 = .ok (.aload_n 0, 1) := by decide +kernel
theorem dX5_copy_65 : decode cX5_copy 65 = .ok (.aload_n 1, 1) := by decide +kernel
theorem dX5_copy_66 : decode cX5_copy 66 = .ok (.getfield 43, 3) := by decide +kernel
theorem dX5_copy_69 : decode cX5_copy 69 = .ok (.putfield 43, 3) := by decide +kernel
theorem dX5_copy_72 : decode cX5_copy 72 = .ok (.aload_n 0, 1) := by decide +kernel
theorem dX5_copy_73 : decode cX5_copy 73 = .ok (.aload_n 1, 1) := by decide +kernel
theorem dX5_copy_74 : decode cX5_copy 74 = .ok (.getfield 46, 3) := by decide +kernel
theorem dX5_copy_77 : decode cX5_copy 77 = .ok (.putfield 46, 3) := by decide +kernel
theorem dX5_copy_80 : decode cX5_copy 80 = .ok (.aload_n 1, 1) := by decide +kernel
theorem dX5_copy_81 : decode cX5_copy 81 = .ok (.getfield 9, 3) := by decide +kernel
theorem dX5_copy_84 : decode cX5_copy 84 = .ok (.iconst 0, 1) := by decide +kernel
theorem dX5_copy_85 : decode cX5_copy 85 = .ok (.aload_n 0, 1) := by decide +kernel
theorem dX5_copy_86 : decode cX5_copy 86 = .ok (.getfield 9, 3) := by decide +kernel
theorem dX5_copy_89 : decode cX5_copy 89 = .ok (.iconst 0, 1) := by decide +kernel
theorem dX5_copy_90 : decode cX5_copy 90 = .ok (.bipush 8, 2) := by decide +kernel
theorem dX5_copy_92 : decode cX5_copy 92 = .ok (.invokestatic 49, 3) := by decide +kernel
theorem dX5_copy_95 : decode cX5_copy 95 = .ok (.aload_n 1, 1) := by decide +kernel
theorem dX5_copy_96 : decode cX5_copy 96 = .ok (.getfield 15, 3) := by decide +kernel
theorem dX5_copy_99 : decode cX5_copy 99 = .ok (.iconst 0, 1) := by decide +kernel
theorem dX5_copy_100 : decode cX5_copy 100 = .ok (.aload_n 0, 1) := by decide +kernel
theorem dX5_copy_101 : decode cX5_copy 101 = .ok (.getfield 15, 3) := by decide +kernel
theorem dX5_copy_104 : decode cX5_copy 104 = .ok (.iconst 0, 1) := by decide +kernel
theorem dX5_copy_105 : decode cX5_copy 105 = .ok (.bipush 8, 2) := by decide +kernel
theorem dX5_copy_107 : decode cX5_copy 107 = .ok (.invokestatic 49, 3) := by decide +kernel
theorem dX5_copy_110 : decode cX5_copy 110 = .ok (.return_, 1) := by decide +kernel
theorem dX5_deal_0 : decode cX5_deal 0 = .ok (.iconst 0, 1) := by decide +kernel
theorem dX5_deal_1 : decode cX5_deal 1 = .ok (.istore_n 3, 1) := by decide +kernel
theorem dX5_deal_2 : decode cX5_deal 2 = .ok (.iload_n 3, 1) := by decide +kernel
theorem dX5_deal_3 : decode cX5_deal 3 = .ok (.bipush 8, 2) := by decide +kernel
theorem dX5_deal_5 : decode cX5_deal 5 = .ok (.if_icmp .ge 16, 3) := by decide +kernel
theorem dX5_deal_8 : decode cX5_deal 8 = .ok (.aload_n 0, 1) := by decide +kernel
theorem dX5_deal_9 : decode cX5_deal 9 = .ok (.getfield 9, 3) := by decide +kernel
theorem dX5_deal_12 : decode cX5_deal 12 = .ok (.iload_n 3, 1) := by decide +kernel
theorem dX5_deal_13 : decode cX5_deal 13 = .ok (.iconst 0, 1) := by decide +kernel
theorem dX5_deal_14 : decode cX5_deal 14 = .ok (.iastore, 1) := by decide +kernel
theorem dX5_deal_15 : decode cX5_deal 15 = .ok (.iinc 3 1, 3) := by decide +kernel
theorem dX5_deal_18 : decode cX5_deal 18 = .ok (.goto (-16), 3) := by decide +kernel
theorem dX5_deal_21 : decode cX5_deal 21 = .ok (.aload_n 0, 1) := by decide +kernel
theorem dX5_deal_22 : decode cX5_deal 22 = .ok (.getfield 34, 3) := by decide +kernel
theorem dX5_deal_25 : decode cX5_deal 25 = .ok (.istore_n 3, 1) := by decide +kernel
theorem dX5_deal_26 : decode cX5_deal 26 = .ok (.iload_n 1, 1) := by decide +kernel
theorem dX5_deal_27 : decode cX5_deal 27 = .ok (.istore 4, 2) := by decide +kernel
theorem dX5_deal_29 : decode cX5_deal 29 = .ok (.iconst 0, 1) := by decide +kernel
theorem dX5_deal_30 : decode cX5_deal 30 = .ok (.istore 5, 2) := by decide +kernel
theorem dX5_deal_32 : decode cX5_deal 32 = .ok (.iload 5, 2) := by decide +kernel
theorem dX5_deal_34 : decode cX5_deal 34 = .ok (.iload_n 2, 1) := by decide +kernel
theorem dX5_deal_35 : decode cX5_deal 35 = .ok (.if_icmp .ge 97, 3) := by decide +kernel
theorem dX5_deal_38 : decode cX5_deal 38 = .ok (.iload 5, 2) := by decide +kernel
theorem dX5_deal_40 : decode cX5_deal 40 = .ok (.bipush 8, 2) := by decide +kernel
theorem dX5_deal_42 : decode cX5_deal 42 = .ok (.if_icmp .ge 90, 3) := by decide +kernel
theorem dX5_deal_45 : decode cX5_deal 45 = .ok (.aload_n 0, 1) := by decide +kernel
theorem dX5_deal_46 : decode cX5_deal 46 = .ok (.getfield 15, 3) := by decide +kernel
theorem dX5_deal_49 : decode cX5_deal 49 = .ok (.iload 5, 2) := by decide +kernel
theorem dX5_deal_51 : decode cX5_deal 51 = .ok (.iconst 4, 1) := by decide +kernel
theorem dX5_deal_52 : decode cX5_deal 52 = .ok (.iload 4, 2) := by decide +kernel
theorem dX5_deal_54 : decode cX5_deal 54 = .ok (.sipush 2039, 3) := by decide +kernel
theorem dX5_deal_57 : decode cX5_deal 57 = .ok (.invokestatic 55, 3) := by decide +kernel
theorem dX5_deal_60 : decode cX5_deal 60 = .ok (.iastore, 1) := by decide +kernel
theorem dX5_deal_61 : decode cX5_deal 61 = .ok (.iconst 0, 1) := by decide +kernel
theorem dX5_deal_62 : decode cX5_deal 62 = .ok (.istore 6, 2) := by decide +kernel
theorem dX5_deal_64 : decode cX5_deal 64 = .ok (.iload 6, 2) := by decide +kernel
theorem dX5_deal_66 : decode cX5_deal 66 = .ok (.bipush 8, 2) := by decide +kernel
theorem dX5_deal_68 : decode cX5_deal 68 = .ok (.if_icmp .ge 43, 3) := by decide +kernel
theorem dX5_deal_71 : decode cX5_deal 71 = .ok (.aload_n 0, 1) := by decide +kernel
theorem dX5_deal_72 : decode cX5_deal 72 = .ok (.getfield 9, 3) := by decide +kernel
theorem dX5_deal_75 : decode cX5_deal 75 = .ok (.iload 6, 2) := by decide +kernel
theorem dX5_deal_77 : decode cX5_deal 77 = .ok (.aload_n 0, 1) := by decide +kernel
theorem dX5_deal_78 : decode cX5_deal 78 = .ok (.getfield 9, 3) := by decide +kernel
theorem dX5_deal_81 : decode cX5_deal 81 = .ok (.iload 6, 2) := by decide +kernel
theorem dX5_deal_83 : decode cX5_deal 83 = .ok (.iaload, 1) := by decide +kernel
theorem dX5_deal_84 : decode cX5_deal 84 = .ok (.iload 4, 2) := by decide +kernel
theorem dX5_deal_86 : decode cX5_deal 86 = .ok (.iload 6, 2) := by decide +kernel
theorem dX5_deal_88 : decode cX5_deal 88 = .ok (.iconst 1, 1) := by decide +kernel
theorem dX5_deal_89 : decode cX5_deal 89 = .ok (.iadd, 1) := by decide +kernel
theorem dX5_deal_90 : decode cX5_deal 90 = .ok (.iload 5, 2) := by decide +kernel
theorem dX5_deal_92 : decode cX5_deal 92 = .ok (.sipush 1019, 3) := by decide +kernel
theorem dX5_deal_95 : decode cX5_deal 95 = .ok (.invokestatic 55, 3) := by decide +kernel
theorem dX5_deal_98 : decode cX5_deal 98 = .ok (.imul, 1) := by decide +kernel
theorem dX5_deal_99 : decode cX5_deal 99 = .ok (.iadd, 1) := by decide +kernel
theorem dX5_deal_100 : decode cX5_deal 100 = .ok (.sipush 1019, 3) := by decide +kernel
theorem dX5_deal_103 : decode cX5_deal 103 = .ok (.irem, 1) := by decide +kernel
theorem dX5_deal_104 : decode cX5_deal 104 = .ok (.iastore, 1) := by decide +kernel
theorem dX5_deal_105 : decode cX5_deal 105 = .ok (.iinc 6 1, 3) := by decide +kernel
theorem dX5_deal_108 : decode cX5_deal 108 = .ok (.goto (-44), 3) := by decide +kernel
theorem dX5_deal_111 : decode cX5_deal 111 = .ok (.iload_n 3, 1) := by decide +kernel
theorem dX5_deal_112 : decode cX5_deal 112 = .ok (.invokestatic 59, 3) := by decide +kernel
theorem dX5_deal_115 : decode cX5_deal 115 = .ok (.istore_n 3, 1) := by decide +kernel
theorem dX5_deal_116 : decode cX5_deal 116 = .ok (.iload_n 3, 1) := by decide +kernel
theorem dX5_deal_117 : decode cX5_deal 117 = .ok (.invokestatic 63, 3) := by decide +kernel
theorem dX5_deal_120 : decode cX5_deal 120 = .ok (.sipush 1019, 3) := by decide +kernel
theorem dX5_deal_123 : decode cX5_deal 123 = .ok (.irem, 1) := by decide +kernel
theorem dX5_deal_124 : decode cX5_deal 124 = .ok (.istore 4, 2) := by decide +kernel
theorem dX5_deal_126 : decode cX5_deal 126 = .ok (.iinc 5 1, 3) := by decide +kernel
theorem dX5_deal_129 : decode cX5_deal 129 = .ok (.goto (-97), 3) := by decide +kernel
theorem dX5_deal_132 : decode cX5_deal 132 = .ok (.aload_n 0, 1) := by decide +kernel
theorem dX5_deal_133 : decode cX5_deal 133 = .ok (.sipush 255, 3) := by decide +kernel
theorem dX5_deal_136 : decode cX5_deal 136 = .ok (.putfield 46, 3) := by decide +kernel
theorem dX5_deal_139 : decode cX5_deal 139 = .ok (.return_, 1) := by decide +kernel
theorem dX5_putLock_0 : decode cX5_putLock 0 = .ok (.aload_n 0, 1) := by decide +kernel
theorem dX5_putLock_1 : decode cX5_putLock 1 = .ok (.iconst 2, 1) := by decide +kernel
theorem dX5_putLock_2 : decode cX5_putLock 2 = .ok (.aload_n 0, 1) := by decide +kernel
theorem dX5_putLock_3 : decode cX5_putLock 3 = .ok (.getfield 34, 3) := by decide +kernel
theorem dX5_putLock_6 : decode cX5_putLock 6 = .ok (.invokestatic 59, 3) := by decide +kernel
theorem dX5_putLock_9 : decode cX5_putLock 9 = .ok (.invokestatic 63, 3) := by decide +kernel
theorem dX5_putLock_12 : decode cX5_putLock 12 = .ok (.sipush 1000, 3) := by decide +kernel
theorem dX5_putLock_15 : decode cX5_putLock 15 = .ok (.irem, 1) := by decide +kernel
theorem dX5_putLock_16 : decode cX5_putLock 16 = .ok (.iadd, 1) := by decide +kernel
theorem dX5_putLock_17 : decode cX5_putLock 17 = .ok (.putfield 40, 3) := by decide +kernel
theorem dX5_putLock_20 : decode cX5_putLock 20 = .ok (.aload_n 0, 1) := by decide +kernel
theorem dX5_putLock_21 : decode cX5_putLock 21 = .ok (.iload_n 1, 1) := by decide +kernel
theorem dX5_putLock_22 : decode cX5_putLock 22 = .ok (.aload_n 0, 1) := by decide +kernel
theorem dX5_putLock_23 : decode cX5_putLock 23 = .ok (.getfield 40, 3) := by decide +kernel
theorem dX5_putLock_26 : decode cX5_putLock 26 = .ok (.iload_n 2, 1) := by decide +kernel
theorem dX5_putLock_27 : decode cX5_putLock 27 = .ok (.invokestatic 66, 3) := by decide +kernel
theorem dX5_putLock_30 : decode cX5_putLock 30 = .ok (.iadd, 1) := by decide +kernel
theorem dX5_putLock_31 : decode cX5_putLock 31 = .ok (.sipush 1019, 3) := by decide +kernel
theorem dX5_putLock_34 : decode cX5_putLock 34 = .ok (.irem, 1) := by decide +kernel
theorem dX5_putLock_35 : decode cX5_putLock 35 = .ok (.putfield 43, 3) := by decide +kernel
theorem dX5_putLock_38 : decode cX5_putLock 38 = .ok (.return_, 1) := by decide +kernel
theorem dX5_changeShare_0 : decode cX5_changeShare 0 = .ok (.aload_n 0, 1) := by decide +kernel
theorem dX5_changeShare_1 : decode cX5_changeShare 1 = .ok (.getfield 9, 3) := by decide +kernel
theorem dX5_changeShare_4 : decode cX5_changeShare 4 = .ok (.iload_n 1, 1) := by decide +kernel
theorem dX5_changeShare_5 : decode cX5_changeShare 5 = .ok (.aload_n 0, 1) := by decide +kernel
theorem dX5_changeShare_6 : decode cX5_changeShare 6 = .ok (.getfield 9, 3) := by decide +kernel
theorem dX5_changeShare_9 : decode cX5_changeShare 9 = .ok (.iload_n 1, 1) := by decide +kernel
theorem dX5_changeShare_10 : decode cX5_changeShare 10 = .ok (.iaload, 1) := by decide +kernel
theorem dX5_changeShare_11 : decode cX5_changeShare 11 = .ok (.iload_n 2, 1) := by decide +kernel
theorem dX5_changeShare_12 : decode cX5_changeShare 12 = .ok (.iadd, 1) := by decide +kernel
theorem dX5_changeShare_13 : decode cX5_changeShare 13 = .ok (.sipush 1019, 3) := by decide +kernel
theorem dX5_changeShare_16 : decode cX5_changeShare 16 = .ok (.irem, 1) := by decide +kernel
theorem dX5_changeShare_17 : decode cX5_changeShare 17 = .ok (.iastore, 1) := by decide +kernel
theorem dX5_changeShare_18 : decode cX5_changeShare 18 = .ok (.aload_n 0, 1) := by decide +kernel
theorem dX5_changeShare_19 : decode cX5_changeShare 19 = .ok (.dup, 1) := by decide +kernel
theorem dX5_changeShare_20 : decode cX5_changeShare 20 = .ok (.getfield 46, 3) := by decide +kernel
theorem dX5_changeShare_23 : decode cX5_changeShare 23 = .ok (.iconst 1, 1) := by decide +kernel
theorem dX5_changeShare_24 : decode cX5_changeShare 24 = .ok (.iload_n 1, 1) := by decide +kernel
theorem dX5_changeShare_25 : decode cX5_changeShare 25 = .ok (.ishl, 1) := by decide +kernel
theorem dX5_changeShare_26 : decode cX5_changeShare 26 = .ok (.iconst (-1), 1) := by decide +kernel
theorem dX5_changeShare_27 : decode cX5_changeShare 27 = .ok (.ixor, 1) := by decide +kernel
theorem dX5_changeShare_28 : decode cX5_changeShare 28 = .ok (.iand, 1) := by decide +kernel
theorem dX5_changeShare_29 : decode cX5_changeShare 29 = .ok (.putfield 46, 3) := by decide +kernel
theorem dX5_changeShare_32 : decode cX5_changeShare 32 = .ok (.iconst 4, 1) := by decide +kernel
theorem dX5_changeShare_33 : decode cX5_changeShare 33 = .ok (.aload_n 0, 1) := by decide +kernel
theorem dX5_changeShare_34 : decode cX5_changeShare 34 = .ok (.getfield 9, 3) := by decide +kernel
theorem dX5_changeShare_37 : decode cX5_changeShare 37 = .ok (.iload_n 1, 1) := by decide +kernel
theorem dX5_changeShare_38 : decode cX5_changeShare 38 = .ok (.iaload, 1) := by decide +kernel
theorem dX5_changeShare_39 : decode cX5_changeShare 39 = .ok (.sipush 2039, 3) := by decide +kernel
theorem dX5_changeShare_42 : decode cX5_changeShare 42 = .ok (.invokestatic 55, 3) := by decide +kernel
theorem dX5_changeShare_45 : decode cX5_changeShare 45 = .ok (.aload_n 0, 1) := by decide +kernel
theorem dX5_changeShare_46 : decode cX5_changeShare 46 = .ok (.iload_n 1, 1) := by decide +kernel
theorem dX5_changeShare_47 : decode cX5_changeShare 47 = .ok (.iload_n 3, 1) := by decide +kernel
theorem dX5_changeShare_48 : decode cX5_changeShare 48 = .ok (.invokevirtual 72, 3) := by decide +kernel
theorem dX5_changeShare_51 : decode cX5_changeShare 51 = .ok (.if_icmp .ne 15, 3) := by decide +kernel
theorem dX5_changeShare_54 : decode cX5_changeShare 54 = .ok (.aload_n 0, 1) := by decide +kernel
theorem dX5_changeShare_55 : decode cX5_changeShare 55 = .ok (.dup, 1) := by decide +kernel
theorem dX5_changeShare_56 : decode cX5_changeShare 56 = .ok (.getfield 46, 3) := by decide +kernel
theorem dX5_changeShare_59 : decode cX5_changeShare 59 = .ok (.iconst 1, 1) := by decide +kernel
theorem dX5_changeShare_60 : decode cX5_changeShare 60 = .ok (.iload_n 1, 1) := by decide +kernel
theorem dX5_changeShare_61 : decode cX5_changeShare 61 = .ok (.ishl, 1) := by decide +kernel
theorem dX5_changeShare_62 : decode cX5_changeShare 62 = .ok (.ior, 1) := by decide +kernel
theorem dX5_changeShare_63 : decode cX5_changeShare 63 = .ok (.putfield 46, 3) := by decide +kernel
theorem dX5_changeShare_66 : decode cX5_changeShare 66 = .ok (.return_, 1) := by decide +kernel
theorem dX5_provenPower_0 : decode cX5_provenPower 0 = .ok (.iconst 1, 1) := by decide +kernel
theorem dX5_provenPower_1 : decode cX5_provenPower 1 = .ok (.istore_n 3, 1) := by decide +kernel
theorem dX5_provenPower_2 : decode cX5_provenPower 2 = .ok (.bipush 7, 2) := by decide +kernel
theorem dX5_provenPower_4 : decode cX5_provenPower 4 = .ok (.istore 4, 2) := by decide +kernel
theorem dX5_provenPower_6 : decode cX5_provenPower 6 = .ok (.iload 4, 2) := by decide +kernel
theorem dX5_provenPower_8 : decode cX5_provenPower 8 = .ok (.ifCond .lt 39, 3) := by decide +kernel
theorem dX5_provenPower_11 : decode cX5_provenPower 11 = .ok (.iload 4, 2) := by decide +kernel
theorem dX5_provenPower_13 : decode cX5_provenPower 13 = .ok (.iload_n 2, 1) := by decide +kernel
theorem dX5_provenPower_14 : decode cX5_provenPower 14 = .ok (.if_icmp .ge 27, 3) := by decide +kernel
theorem dX5_provenPower_17 : decode cX5_provenPower 17 = .ok (.iload_n 3, 1) := by decide +kernel
theorem dX5_provenPower_18 : decode cX5_provenPower 18 = .ok (.iload_n 1, 1) := by decide +kernel
theorem dX5_provenPower_19 : decode cX5_provenPower 19 = .ok (.iconst 1, 1) := by decide +kernel
theorem dX5_provenPower_20 : decode cX5_provenPower 20 = .ok (.iadd, 1) := by decide +kernel
theorem dX5_provenPower_21 : decode cX5_provenPower 21 = .ok (.sipush 2039, 3) := by decide +kernel
theorem dX5_provenPower_24 : decode cX5_provenPower 24 = .ok (.invokestatic 55, 3) := by decide +kernel
theorem dX5_provenPower_27 : decode cX5_provenPower 27 = .ok (.aload_n 0, 1) := by decide +kernel
theorem dX5_provenPower_28 : decode cX5_provenPower 28 = .ok (.getfield 15, 3) := by decide +kernel
theorem dX5_provenPower_31 : decode cX5_provenPower 31 = .ok (.iload 4, 2) := by decide +kernel
theorem dX5_provenPower_33 : decode cX5_provenPower 33 = .ok (.iaload, 1) := by decide +kernel
theorem dX5_provenPower_34 : decode cX5_provenPower 34 = .ok (.sipush 2039, 3) := by decide +kernel
theorem dX5_provenPower_37 : decode cX5_provenPower 37 = .ok (.invokestatic 75, 3) := by decide +kernel
theorem dX5_provenPower_40 : decode cX5_provenPower 40 = .ok (.istore_n 3, 1) := by decide +kernel
theorem dX5_provenPower_41 : decode cX5_provenPower 41 = .ok (.iinc 4 (-1), 3) := by decide +kernel
theorem dX5_provenPower_44 : decode cX5_provenPower 44 = .ok (.goto (-38), 3) := by decide +kernel
theorem dX5_provenPower_47 : decode cX5_provenPower 47 = .ok (.iload_n 3, 1) := by decide +kernel
theorem dX5_provenPower_48 : decode cX5_provenPower 48 = .ok (.ireturn, 1) := by decide +kernel
theorem dX5_valueAtZero_0 : decode cX5_valueAtZero 0 = .ok (.iconst 0, 1) := by decide +kernel
theorem dX5_valueAtZero_1 : decode cX5_valueAtZero 1 = .ok (.istore_n 2, 1) := by decide +kernel
theorem dX5_valueAtZero_2 : decode cX5_valueAtZero 2 = .ok (.iconst 0, 1) := by decide +kernel
theorem dX5_valueAtZero_3 : decode cX5_valueAtZero 3 = .ok (.istore_n 3, 1) := by decide +kernel
theorem dX5_valueAtZero_4 : decode cX5_valueAtZero 4 = .ok (.iload_n 3, 1) := by decide +kernel
theorem dX5_valueAtZero_5 : decode cX5_valueAtZero 5 = .ok (.bipush 8, 2) := by decide +kernel
theorem dX5_valueAtZero_7 : decode cX5_valueAtZero 7 = .ok (.if_icmp .ge 41, 3) := by decide +kernel
theorem dX5_valueAtZero_10 : decode cX5_valueAtZero 10 = .ok (.iload_n 1, 1) := by decide +kernel
theorem dX5_valueAtZero_11 : decode cX5_valueAtZero 11 = .ok (.iload_n 3, 1) := by decide +kernel
theorem dX5_valueAtZero_12 : decode cX5_valueAtZero 12 = .ok (.invokestatic 78, 3) := by decide +kernel
theorem dX5_valueAtZero_15 : decode cX5_valueAtZero 15 = .ok (.ifCond .eq 27, 3) := by decide +kernel
theorem dX5_valueAtZero_18 : decode cX5_valueAtZero 18 = .ok (.iload_n 2, 1) := by decide +kernel
theorem dX5_valueAtZero_19 : decode cX5_valueAtZero 19 = .ok (.aload_n 0, 1) := by decide +kernel
theorem dX5_valueAtZero_20 : decode cX5_valueAtZero 20 = .ok (.getfield 9, 3) := by decide +kernel
theorem dX5_valueAtZero_23 : decode cX5_valueAtZero 23 = .ok (.iload_n 3, 1) := by decide +kernel
theorem dX5_valueAtZero_24 : decode cX5_valueAtZero 24 = .ok (.iaload, 1) := by decide +kernel
theorem dX5_valueAtZero_25 : decode cX5_valueAtZero 25 = .ok (.iload_n 3, 1) := by decide +kernel
theorem dX5_valueAtZero_26 : decode cX5_valueAtZero 26 = .ok (.iload_n 1, 1) := by decide +kernel
theorem dX5_valueAtZero_27 : decode cX5_valueAtZero 27 = .ok (.invokestatic 82, 3) := by decide +kernel
theorem dX5_valueAtZero_30 : decode cX5_valueAtZero 30 = .ok (.sipush 1019, 3) := by decide +kernel
theorem dX5_valueAtZero_33 : decode cX5_valueAtZero 33 = .ok (.invokestatic 75, 3) := by decide +kernel
theorem dX5_valueAtZero_36 : decode cX5_valueAtZero 36 = .ok (.iadd, 1) := by decide +kernel
theorem dX5_valueAtZero_37 : decode cX5_valueAtZero 37 = .ok (.sipush 1019, 3) := by decide +kernel
theorem dX5_valueAtZero_40 : decode cX5_valueAtZero 40 = .ok (.irem, 1) := by decide +kernel
theorem dX5_valueAtZero_41 : decode cX5_valueAtZero 41 = .ok (.istore_n 2, 1) := by decide +kernel
theorem dX5_valueAtZero_42 : decode cX5_valueAtZero 42 = .ok (.iinc 3 1, 3) := by decide +kernel
theorem dX5_valueAtZero_45 : decode cX5_valueAtZero 45 = .ok (.goto (-41), 3) := by decide +kernel
theorem dX5_valueAtZero_48 : decode cX5_valueAtZero 48 = .ok (.iload_n 2, 1) := by decide +kernel
theorem dX5_valueAtZero_49 : decode cX5_valueAtZero 49 = .ok (.ireturn, 1) := by decide +kernel
theorem dX5_weight_0 : decode cX5_weight 0 = .ok (.iconst 1, 1) := by decide +kernel
theorem dX5_weight_1 : decode cX5_weight 1 = .ok (.istore_n 2, 1) := by decide +kernel
theorem dX5_weight_2 : decode cX5_weight 2 = .ok (.iconst 1, 1) := by decide +kernel
theorem dX5_weight_3 : decode cX5_weight 3 = .ok (.istore_n 3, 1) := by decide +kernel
theorem dX5_weight_4 : decode cX5_weight 4 = .ok (.iconst 0, 1) := by decide +kernel
theorem dX5_weight_5 : decode cX5_weight 5 = .ok (.istore 4, 2) := by decide +kernel
theorem dX5_weight_7 : decode cX5_weight 7 = .ok (.iload 4, 2) := by decide +kernel
theorem dX5_weight_9 : decode cX5_weight 9 = .ok (.bipush 8, 2) := by decide +kernel
theorem dX5_weight_11 : decode cX5_weight 11 = .ok (.if_icmp .ge 56, 3) := by decide +kernel
theorem dX5_weight_14 : decode cX5_weight 14 = .ok (.iload 4, 2) := by decide +kernel
theorem dX5_weight_16 : decode cX5_weight 16 = .ok (.iload_n 0, 1) := by decide +kernel
theorem dX5_weight_17 : decode cX5_weight 17 = .ok (.if_icmp .eq 44, 3) := by decide +kernel
theorem dX5_weight_20 : decode cX5_weight 20 = .ok (.iload_n 1, 1) := by decide +kernel
theorem dX5_weight_21 : decode cX5_weight 21 = .ok (.iload 4, 2) := by decide +kernel
theorem dX5_weight_23 : decode cX5_weight 23 = .ok (.invokestatic 78, 3) := by decide +kernel
theorem dX5_weight_26 : decode cX5_weight 26 = .ok (.ifCond .eq 35, 3) := by decide +kernel
theorem dX5_weight_29 : decode cX5_weight 29 = .ok (.iload_n 2, 1) := by decide +kernel
theorem dX5_weight_30 : decode cX5_weight 30 = .ok (.iload 4, 2) := by decide +kernel
theorem dX5_weight_32 : decode cX5_weight 32 = .ok (.iconst 1, 1) := by decide +kernel
theorem dX5_weight_33 : decode cX5_weight 33 = .ok (.iadd, 1) := by decide +kernel
theorem dX5_weight_34 : decode cX5_weight 34 = .ok (.sipush 1019, 3) := by decide +kernel
theorem dX5_weight_37 : decode cX5_weight 37 = .ok (.invokestatic 75, 3) := by decide +kernel
theorem dX5_weight_40 : decode cX5_weight 40 = .ok (.istore_n 2, 1) := by decide +kernel
theorem dX5_weight_41 : decode cX5_weight 41 = .ok (.iload_n 3, 1) := by decide +kernel
theorem dX5_weight_42 : decode cX5_weight 42 = .ok (.iload 4, 2) := by decide +kernel
theorem dX5_weight_44 : decode cX5_weight 44 = .ok (.iload_n 0, 1) := by decide +kernel
theorem dX5_weight_45 : decode cX5_weight 45 = .ok (.isub, 1) := by decide +kernel
theorem dX5_weight_46 : decode cX5_weight 46 = .ok (.sipush 1019, 3) := by decide +kernel
theorem dX5_weight_49 : decode cX5_weight 49 = .ok (.iadd, 1) := by decide +kernel
theorem dX5_weight_50 : decode cX5_weight 50 = .ok (.sipush 1019, 3) := by decide +kernel
theorem dX5_weight_53 : decode cX5_weight 53 = .ok (.irem, 1) := by decide +kernel
theorem dX5_weight_54 : decode cX5_weight 54 = .ok (.sipush 1019, 3) := by decide +kernel
theorem dX5_weight_57 : decode cX5_weight 57 = .ok (.invokestatic 75, 3) := by decide +kernel
theorem dX5_weight_60 : decode cX5_weight 60 = .ok (.istore_n 3, 1) := by decide +kernel
theorem dX5_weight_61 : decode cX5_weight 61 = .ok (.iinc 4 1, 3) := by decide +kernel
theorem dX5_weight_64 : decode cX5_weight 64 = .ok (.goto (-57), 3) := by decide +kernel
theorem dX5_weight_67 : decode cX5_weight 67 = .ok (.iload_n 2, 1) := by decide +kernel
theorem dX5_weight_68 : decode cX5_weight 68 = .ok (.iload_n 3, 1) := by decide +kernel
theorem dX5_weight_69 : decode cX5_weight 69 = .ok (.sipush 1017, 3) := by decide +kernel
theorem dX5_weight_72 : decode cX5_weight 72 = .ok (.sipush 1019, 3) := by decide +kernel
theorem dX5_weight_75 : decode cX5_weight 75 = .ok (.invokestatic 55, 3) := by decide +kernel
theorem dX5_weight_78 : decode cX5_weight 78 = .ok (.sipush 1019, 3) := by decide +kernel
theorem dX5_weight_81 : decode cX5_weight 81 = .ok (.invokestatic 75, 3) := by decide +kernel
theorem dX5_weight_84 : decode cX5_weight 84 = .ok (.ireturn, 1) := by decide +kernel
theorem dX6_value_0 : decode cX6_value 0 = .ok (.iload_n 0, 1) := by decide +kernel
theorem dX6_value_1 : decode cX6_value 1 = .ok (.ldc 9, 2) := by decide +kernel
theorem dX6_value_3 : decode cX6_value 3 = .ok (.irem, 1) := by decide +kernel
theorem dX6_value_4 : decode cX6_value 4 = .ok (.istore_n 2, 1) := by decide +kernel
theorem dX6_value_5 : decode cX6_value 5 = .ok (.iconst 0, 1) := by decide +kernel
theorem dX6_value_6 : decode cX6_value 6 = .ok (.istore_n 3, 1) := by decide +kernel
theorem dX6_value_7 : decode cX6_value 7 = .ok (.iload_n 3, 1) := by decide +kernel
theorem dX6_value_8 : decode cX6_value 8 = .ok (.iload_n 1, 1) := by decide +kernel
theorem dX6_value_9 : decode cX6_value 9 = .ok (.if_icmp .ge 17, 3) := by decide +kernel
theorem dX6_value_12 : decode cX6_value 12 = .ok (.iload_n 2, 1) := by decide +kernel
theorem dX6_value_13 : decode cX6_value 13 = .ok (.iload_n 2, 1) := by decide +kernel
theorem dX6_value_14 : decode cX6_value 14 = .ok (.ldc 9, 2) := by decide +kernel
theorem dX6_value_16 : decode cX6_value 16 = .ok (.invokestatic 10, 3) := by decide +kernel
theorem dX6_value_19 : decode cX6_value 19 = .ok (.istore_n 2, 1) := by decide +kernel
theorem dX6_value_20 : decode cX6_value 20 = .ok (.iinc 3 1, 3) := by decide +kernel
theorem dX6_value_23 : decode cX6_value 23 = .ok (.goto (-16), 3) := by decide +kernel
theorem dX6_value_26 : decode cX6_value 26 = .ok (.iload_n 2, 1) := by decide +kernel
theorem dX6_value_27 : decode cX6_value 27 = .ok (.ireturn, 1) := by decide +kernel
theorem dX6_valueByFactors_0 : decode cX6_valueByFactors 0 = .ok (.iconst 2, 1) := by decide +kernel
theorem dX6_valueByFactors_1 : decode cX6_valueByFactors 1 = .ok (.iload_n 1, 1) := by decide +kernel
theorem dX6_valueByFactors_2 : decode cX6_valueByFactors 2 = .ok (.ldc 14, 2) := by decide +kernel
theorem dX6_valueByFactors_4 : decode cX6_valueByFactors 4 = .ok (.invokestatic 15, 3) := by decide +kernel
theorem dX6_valueByFactors_7 : decode cX6_valueByFactors 7 = .ok (.istore_n 2, 1) := by decide +kernel
theorem dX6_valueByFactors_8 : decode cX6_valueByFactors 8 = .ok (.iload_n 0, 1) := by decide +kernel
theorem dX6_valueByFactors_9 : decode cX6_valueByFactors 9 = .ok (.iload_n 2, 1) := by decide +kernel
theorem dX6_valueByFactors_10 : decode cX6_valueByFactors 10 = .ok (.ldc 9, 2) := by decide +kernel
theorem dX6_valueByFactors_12 : decode cX6_valueByFactors 12 = .ok (.invokestatic 15, 3) := by decide +kernel
theorem dX6_valueByFactors_15 : decode cX6_valueByFactors 15 = .ok (.ireturn, 1) := by decide +kernel
theorem dX6_challenge_0 : decode cX6_challenge 0 = .ok (.sipush 257, 3) := by decide +kernel
theorem dX6_challenge_3 : decode cX6_challenge 3 = .ok (.bipush 19, 2) := by decide +kernel
theorem dX6_challenge_5 : decode cX6_challenge 5 = .ok (.iload_n 0, 1) := by decide +kernel
theorem dX6_challenge_6 : decode cX6_challenge 6 = .ok (.invokestatic 18, 3) := by decide +kernel
theorem dX6_challenge_9 : decode cX6_challenge 9 = .ok (.iload_n 1, 1) := by decide +kernel
theorem dX6_challenge_10 : decode cX6_challenge 10 = .ok (.invokestatic 18, 3) := by decide +kernel
theorem dX6_challenge_13 : decode cX6_challenge 13 = .ok (.bipush 22, 2) := by decide +kernel
theorem dX6_challenge_15 : decode cX6_challenge 15 = .ok (.iushr, 1) := by decide +kernel
theorem dX6_challenge_16 : decode cX6_challenge 16 = .ok (.iadd, 1) := by decide +kernel
theorem dX6_challenge_17 : decode cX6_challenge 17 = .ok (.invokestatic 22, 3) := by decide +kernel
theorem dX6_challenge_20 : decode cX6_challenge 20 = .ok (.ireturn, 1) := by decide +kernel
theorem dX6_evidence_0 : decode cX6_evidence 0 = .ok (.iconst 1, 1) := by decide +kernel
theorem dX6_evidence_1 : decode cX6_evidence 1 = .ok (.istore_n 3, 1) := by decide +kernel
theorem dX6_evidence_2 : decode cX6_evidence 2 = .ok (.iconst 1, 1) := by decide +kernel
theorem dX6_evidence_3 : decode cX6_evidence 3 = .ok (.istore 4, 2) := by decide +kernel
theorem dX6_evidence_5 : decode cX6_evidence 5 = .ok (.iconst 0, 1) := by decide +kernel
theorem dX6_evidence_6 : decode cX6_evidence 6 = .ok (.istore 5, 2) := by decide +kernel
theorem dX6_evidence_8 : decode cX6_evidence 8 = .ok (.iload 5, 2) := by decide +kernel
theorem dX6_evidence_10 : decode cX6_evidence 10 = .ok (.iload_n 1, 1) := by decide +kernel
theorem dX6_evidence_11 : decode cX6_evidence 11 = .ok (.if_icmp .ge 43, 3) := by decide +kernel
theorem dX6_evidence_14 : decode cX6_evidence 14 = .ok (.iload_n 3, 1) := by decide +kernel
theorem dX6_evidence_15 : decode cX6_evidence 15 = .ok (.iload_n 3, 1) := by decide +kernel
theorem dX6_evidence_16 : decode cX6_evidence 16 = .ok (.ldc 9, 2) := by decide +kernel
theorem dX6_evidence_18 : decode cX6_evidence 18 = .ok (.invokestatic 10, 3) := by decide +kernel
theorem dX6_evidence_21 : decode cX6_evidence 21 = .ok (.istore_n 3, 1) := by decide +kernel
theorem dX6_evidence_22 : decode cX6_evidence 22 = .ok (.iconst 2, 1) := by decide +kernel
theorem dX6_evidence_23 : decode cX6_evidence 23 = .ok (.iload 4, 2) := by decide +kernel
theorem dX6_evidence_25 : decode cX6_evidence 25 = .ok (.imul, 1) := by decide +kernel
theorem dX6_evidence_26 : decode cX6_evidence 26 = .ok (.istore 4, 2) := by decide +kernel
theorem dX6_evidence_28 : decode cX6_evidence 28 = .ok (.iload 4, 2) := by decide +kernel
theorem dX6_evidence_30 : decode cX6_evidence 30 = .ok (.iload_n 2, 1) := by decide +kernel
theorem dX6_evidence_31 : decode cX6_evidence 31 = .ok (.if_icmp .lt 17, 3) := by decide +kernel
theorem dX6_evidence_34 : decode cX6_evidence 34 = .ok (.iload 4, 2) := by decide +kernel
theorem dX6_evidence_36 : decode cX6_evidence 36 = .ok (.iload_n 2, 1) := by decide +kernel
theorem dX6_evidence_37 : decode cX6_evidence 37 = .ok (.isub, 1) := by decide +kernel
theorem dX6_evidence_38 : decode cX6_evidence 38 = .ok (.istore 4, 2) := by decide +kernel
theorem dX6_evidence_40 : decode cX6_evidence 40 = .ok (.iload_n 3, 1) := by decide +kernel
theorem dX6_evidence_41 : decode cX6_evidence 41 = .ok (.iload_n 0, 1) := by decide +kernel
theorem dX6_evidence_42 : decode cX6_evidence 42 = .ok (.ldc 9, 2) := by decide +kernel
theorem dX6_evidence_44 : decode cX6_evidence 44 = .ok (.invokestatic 10, 3) := by decide +kernel
theorem dX6_evidence_47 : decode cX6_evidence 47 = .ok (.istore_n 3, 1) := by decide +kernel
theorem dX6_evidence_48 : decode cX6_evidence 48 = .ok (.iinc 5 1, 3) := by decide +kernel
theorem dX6_evidence_51 : decode cX6_evidence 51 = .ok (.goto (-43), 3) := by decide +kernel
theorem dX6_evidence_54 : decode cX6_evidence 54 = .ok (.iload_n 3, 1) := by decide +kernel
theorem dX6_evidence_55 : decode cX6_evidence 55 = .ok (.ireturn, 1) := by decide +kernel
theorem dX6_isProven_0 : decode cX6_isProven 0 = .ok (.iload_n 0, 1) := by decide +kernel
theorem dX6_isProven_1 : decode cX6_isProven 1 = .ok (.iload_n 2, 1) := by decide +kernel
theorem dX6_isProven_2 : decode cX6_isProven 2 = .ok (.invokestatic 28, 3) := by decide +kernel
theorem dX6_isProven_5 : decode cX6_isProven 5 = .ok (.istore 4, 2) := by decide +kernel
theorem dX6_isProven_7 : decode cX6_isProven 7 = .ok (.iconst 2, 1) := by decide +kernel
theorem dX6_isProven_8 : decode cX6_isProven 8 = .ok (.iload_n 1, 1) := by decide +kernel
theorem dX6_isProven_9 : decode cX6_isProven 9 = .ok (.iload 4, 2) := by decide +kernel
theorem dX6_isProven_11 : decode cX6_isProven 11 = .ok (.invokestatic 15, 3) := by decide +kernel
theorem dX6_isProven_14 : decode cX6_isProven 14 = .ok (.istore 5, 2) := by decide +kernel
theorem dX6_isProven_16 : decode cX6_isProven 16 = .ok (.iload_n 3, 1) := by decide +kernel
theorem dX6_isProven_17 : decode cX6_isProven 17 = .ok (.iload 4, 2) := by decide +kernel
theorem dX6_isProven_19 : decode cX6_isProven 19 = .ok (.ldc 9, 2) := by decide +kernel
theorem dX6_isProven_21 : decode cX6_isProven 21 = .ok (.invokestatic 15, 3) := by decide +kernel
theorem dX6_isProven_24 : decode cX6_isProven 24 = .ok (.iload_n 0, 1) := by decide +kernel
theorem dX6_isProven_25 : decode cX6_isProven 25 = .ok (.iload 5, 2) := by decide +kernel
theorem dX6_isProven_27 : decode cX6_isProven 27 = .ok (.ldc 9, 2) := by decide +kernel
theorem dX6_isProven_29 : decode cX6_isProven 29 = .ok (.invokestatic 15, 3) := by decide +kernel
theorem dX6_isProven_32 : decode cX6_isProven 32 = .ok (.ldc 9, 2) := by decide +kernel
theorem dX6_isProven_34 : decode cX6_isProven 34 = .ok (.invokestatic 10, 3) := by decide +kernel
theorem dX6_isProven_37 : decode cX6_isProven 37 = .ok (.iload_n 2, 1) := by decide +kernel
theorem dX6_isProven_38 : decode cX6_isProven 38 = .ok (.if_icmp .ne 7, 3) := by decide +kernel
theorem dX6_isProven_41 : decode cX6_isProven 41 = .ok (.iconst 1, 1) := by decide +kernel
theorem dX6_isProven_42 : decode cX6_isProven 42 = .ok (.goto 4, 3) := by decide +kernel
theorem dX6_isProven_45 : decode cX6_isProven 45 = .ok (.iconst 0, 1) := by decide +kernel
theorem dX6_isProven_46 : decode cX6_isProven 46 = .ok (.ireturn, 1) := by decide +kernel
theorem dX6_leastPrime_0 : decode cX6_leastPrime 0 = .ok (.iload_n 0, 1) := by decide +kernel
theorem dX6_leastPrime_1 : decode cX6_leastPrime 1 = .ok (.istore_n 1, 1) := by decide +kernel
theorem dX6_leastPrime_2 : decode cX6_leastPrime 2 = .ok (.iload_n 1, 1) := by decide +kernel
theorem dX6_leastPrime_3 : decode cX6_leastPrime 3 = .ok (.iconst 2, 1) := by decide +kernel
theorem dX6_leastPrime_4 : decode cX6_leastPrime 4 = .ok (.iload_n 0, 1) := by decide +kernel
theorem dX6_leastPrime_5 : decode cX6_leastPrime 5 = .ok (.imul, 1) := by decide +kernel
theorem dX6_leastPrime_6 : decode cX6_leastPrime 6 = .ok (.if_icmp .ge 18, 3) := by decide +kernel
theorem dX6_leastPrime_9 : decode cX6_leastPrime 9 = .ok (.iload_n 1, 1) := by decide +kernel
theorem dX6_leastPrime_10 : decode cX6_leastPrime 10 = .ok (.invokestatic 31, 3) := by decide +kernel
theorem dX6_leastPrime_13 : decode cX6_leastPrime 13 = .ok (.ifCond .eq 5, 3) := by decide +kernel
theorem dX6_leastPrime_16 : decode cX6_leastPrime 16 = .ok (.iload_n 1, 1) := by decide +kernel
theorem dX6_leastPrime_17 : decode cX6_leastPrime 17 = .ok (.ireturn, 1) := by decide +kernel
theorem dX6_leastPrime_18 : decode cX6_leastPrime 18 = .ok (.iinc 1 1, 3) := by decide +kernel
theorem dX6_leastPrime_21 : decode cX6_leastPrime 21 = .ok (.goto (-19), 3) := by decide +kernel
theorem dX6_leastPrime_24 : decode cX6_leastPrime 24 = .ok (.iload_n 0, 1) := by decide +kernel
theorem dX6_leastPrime_25 : decode cX6_leastPrime 25 = .ok (.ireturn, 1) := by decide +kernel
theorem dX6_isPrime_0 : decode cX6_isPrime 0 = .ok (.iconst 2, 1) := by decide +kernel
theorem dX6_isPrime_1 : decode cX6_isPrime 1 = .ok (.istore_n 1, 1) := by decide +kernel
theorem dX6_isPrime_2 : decode cX6_isPrime 2 = .ok (.iload_n 1, 1) := by decide +kernel
theorem dX6_isPrime_3 : decode cX6_isPrime 3 = .ok (.iload_n 1, 1) := by decide +kernel
theorem dX6_isPrime_4 : decode cX6_isPrime 4 = .ok (.imul, 1) := by decide +kernel
theorem dX6_isPrime_5 : decode cX6_isPrime 5 = .ok (.iload_n 0, 1) := by decide +kernel
theorem dX6_isPrime_6 : decode cX6_isPrime 6 = .ok (.if_icmp .gt 17, 3) := by decide +kernel
theorem dX6_isPrime_9 : decode cX6_isPrime 9 = .ok (.iload_n 0, 1) := by decide +kernel
theorem dX6_isPrime_10 : decode cX6_isPrime 10 = .ok (.iload_n 1, 1) := by decide +kernel
theorem dX6_isPrime_11 : decode cX6_isPrime 11 = .ok (.irem, 1) := by decide +kernel
theorem dX6_isPrime_12 : decode cX6_isPrime 12 = .ok (.ifCond .ne 5, 3) := by decide +kernel
theorem dX6_isPrime_15 : decode cX6_isPrime 15 = .ok (.iconst 0, 1) := by decide +kernel
theorem dX6_isPrime_16 : decode cX6_isPrime 16 = .ok (.ireturn, 1) := by decide +kernel
theorem dX6_isPrime_17 : decode cX6_isPrime 17 = .ok (.iinc 1 1, 3) := by decide +kernel
theorem dX6_isPrime_20 : decode cX6_isPrime 20 = .ok (.goto (-18), 3) := by decide +kernel
theorem dX6_isPrime_23 : decode cX6_isPrime 23 = .ok (.iload_n 0, 1) := by decide +kernel
theorem dX6_isPrime_24 : decode cX6_isPrime 24 = .ok (.iconst 2, 1) := by decide +kernel
theorem dX6_isPrime_25 : decode cX6_isPrime 25 = .ok (.if_icmp .lt 7, 3) := by decide +kernel
theorem dX6_isPrime_28 : decode cX6_isPrime 28 = .ok (.iconst 1, 1) := by decide +kernel
theorem dX6_isPrime_29 : decode cX6_isPrime 29 = .ok (.goto 4, 3) := by decide +kernel
theorem dX6_isPrime_32 : decode cX6_isPrime 32 = .ok (.iconst 0, 1) := by decide +kernel
theorem dX6_isPrime_33 : decode cX6_isPrime 33 = .ok (.ireturn, 1) := by decide +kernel
theorem dX7_init_0 : decode cX7_init 0 = .ok (.aload_n 0, 1) := by decide +kernel
theorem dX7_init_1 : decode cX7_init 1 = .ok (.invokespecial 3, 3) := by decide +kernel
theorem dX7_init_4 : decode cX7_init 4 = .ok (.aload_n 0, 1) := by decide +kernel
theorem dX7_init_5 : decode cX7_init 5 = .ok (.new 9, 3) := by decide +kernel
theorem dX7_init_8 : decode cX7_init 8 = .ok (.dup, 1) := by decide +kernel
theorem dX7_init_9 : decode cX7_init 9 = .ok (.invokespecial 11, 3) := by decide +kernel
theorem dX7_init_12 : decode cX7_init 12 = .ok (.putfield 12, 3) := by decide +kernel
theorem dX7_init_15 : decode cX7_init 15 = .ok (.aload_n 0, 1) := by decide +kernel
theorem dX7_init_16 : decode cX7_init 16 = .ok (.new 16, 3) := by decide +kernel
theorem dX7_init_19 : decode cX7_init 19 = .ok (.dup, 1) := by decide +kernel
theorem dX7_init_20 : decode cX7_init 20 = .ok (.invokespecial 18, 3) := by decide +kernel
theorem dX7_init_23 : decode cX7_init 23 = .ok (.putfield 19, 3) := by decide +kernel
theorem dX7_init_26 : decode cX7_init 26 = .ok (.aload_n 0, 1) := by decide +kernel
theorem dX7_init_27 : decode cX7_init 27 = .ok (.new 23, 3) := by decide +kernel
theorem dX7_init_30 : decode cX7_init 30 = .ok (.dup, 1) := by decide +kernel
theorem dX7_init_31 : decode cX7_init 31 = .ok (.invokespecial 25, 3) := by decide +kernel
theorem dX7_init_34 : decode cX7_init 34 = .ok (.putfield 26, 3) := by decide +kernel
theorem dX7_init_37 : decode cX7_init 37 = .ok (.return_, 1) := by decide +kernel
theorem dX7_addParticipant_0 : decode cX7_addParticipant 0 = .ok (.iload_n 1, 1) := by decide +kernel
theorem dX7_addParticipant_1 : decode cX7_addParticipant 1 = .ok (.iconst 0, 1) := by decide +kernel
theorem dX7_addParticipant_2 : decode cX7_addParticipant 2 = .ok (.ldc 30, 2) := by decide +kernel
theorem dX7_addParticipant_4 : decode cX7_addParticipant 4 = .ok (.invokestatic 31, 3) := by decide +kernel
theorem dX7_addParticipant_7 : decode cX7_addParticipant 7 = .ok (.ifCond .ne 5, 3) := by decide +kernel
theorem dX7_addParticipant_10 : decode cX7_addParticipant 10 = .ok (.iconst (-1), 1) := by decide +kernel
theorem dX7_addParticipant_11 : decode cX7_addParticipant 11 = .ok (.ireturn, 1) := by decide +kernel
theorem dX7_addParticipant_12 : decode cX7_addParticipant 12 = .ok (.aload_n 0, 1) := by decide +kernel
theorem dX7_addParticipant_13 : decode cX7_addParticipant 13 = .ok (.getfield 12, 3) := by decide +kernel
theorem dX7_addParticipant_16 : decode cX7_addParticipant 16 = .ok (.getfield 35, 3) := by decide +kernel
theorem dX7_addParticipant_19 : decode cX7_addParticipant 19 = .ok (.ifCond .eq 6, 3) := by decide +kernel
theorem dX7_addParticipant_22 : decode cX7_addParticipant 22 = .ok (.bipush (-2), 2) := by decide +kernel
theorem dX7_addParticipant_24 : decode cX7_addParticipant 24 = .ok (.ireturn, 1) := by decide +kernel
theorem dX7_addParticipant_25 : decode cX7_addParticipant 25 = .ok (.aload_n 0, 1) := by decide +kernel
theorem dX7_addParticipant_26 : decode cX7_addParticipant 26 = .ok (.getfield 12, 3) := by decide +kernel
theorem dX7_addParticipant_29 : decode cX7_addParticipant 29 = .ok (.getfield 39, 3) := by decide +kernel
theorem dX7_addParticipant_32 : decode cX7_addParticipant 32 = .ok (.bipush 8, 2) := by decide +kernel
theorem dX7_addParticipant_34 : decode cX7_addParticipant 34 = .ok (.if_icmp .lt 6, 3) := by decide +kernel
theorem dX7_addParticipant_37 : decode cX7_addParticipant 37 = .ok (.bipush (-3), 2) := by decide +kernel
theorem dX7_addParticipant_39 : decode cX7_addParticipant 39 = .ok (.ireturn, 1) := by decide +kernel
theorem dX7_addParticipant_40 : decode cX7_addParticipant 40 = .ok (.aload_n 0, 1) := by decide +kernel
theorem dX7_addParticipant_41 : decode cX7_addParticipant 41 = .ok (.getfield 19, 3) := by decide +kernel
theorem dX7_addParticipant_44 : decode cX7_addParticipant 44 = .ok (.aload_n 0, 1) := by decide +kernel
theorem dX7_addParticipant_45 : decode cX7_addParticipant 45 = .ok (.getfield 12, 3) := by decide +kernel
theorem dX7_addParticipant_48 : decode cX7_addParticipant 48 = .ok (.invokevirtual 42, 3) := by decide +kernel
theorem dX7_addParticipant_51 : decode cX7_addParticipant 51 = .ok (.aload_n 0, 1) := by decide +kernel
theorem dX7_addParticipant_52 : decode cX7_addParticipant 52 = .ok (.getfield 12, 3) := by decide +kernel
theorem dX7_addParticipant_55 : decode cX7_addParticipant 55 = .ok (.iload_n 1, 1) := by decide +kernel
theorem dX7_addParticipant_56 : decode cX7_addParticipant 56 = .ok (.invokevirtual 46, 3) := by decide +kernel
theorem dX7_addParticipant_59 : decode cX7_addParticipant 59 = .ok (.ireturn, 1) := by decide +kernel
theorem dX7_behave_0 : decode cX7_behave 0 = .ok (.aload_n 0, 1) := by decide +kernel
theorem dX7_behave_1 : decode cX7_behave 1 = .ok (.getfield 12, 3) := by decide +kernel
theorem dX7_behave_4 : decode cX7_behave 4 = .ok (.iload_n 1, 1) := by decide +kernel
theorem dX7_behave_5 : decode cX7_behave 5 = .ok (.invokevirtual 50, 3) := by decide +kernel
theorem dX7_behave_8 : decode cX7_behave 8 = .ok (.ifCond .eq 12, 3) := by decide +kernel
theorem dX7_behave_11 : decode cX7_behave 11 = .ok (.iload_n 2, 1) := by decide +kernel
theorem dX7_behave_12 : decode cX7_behave 12 = .ok (.iconst 0, 1) := by decide +kernel
theorem dX7_behave_13 : decode cX7_behave 13 = .ok (.iconst 3, 1) := by decide +kernel
theorem dX7_behave_14 : decode cX7_behave 14 = .ok (.invokestatic 31, 3) := by decide +kernel
theorem dX7_behave_17 : decode cX7_behave 17 = .ok (.ifCond .ne 5, 3) := by decide +kernel
theorem dX7_behave_20 : decode cX7_behave 20 = .ok (.iconst (-1), 1) := by decide +kernel
theorem dX7_behave_21 : decode cX7_behave 21 = .ok (.ireturn, 1) := by decide +kernel
theorem dX7_behave_22 : decode cX7_behave 22 = .ok (.aload_n 0, 1) := by decide +kernel
theorem dX7_behave_23 : decode cX7_behave 23 = .ok (.getfield 19, 3) := by decide +kernel
theorem dX7_behave_26 : decode cX7_behave 26 = .ok (.aload_n 0, 1) := by decide +kernel
theorem dX7_behave_27 : decode cX7_behave 27 = .ok (.getfield 12, 3) := by decide +kernel
theorem dX7_behave_30 : decode cX7_behave 30 = .ok (.invokevirtual 42, 3) := by decide +kernel
theorem dX7_behave_33 : decode cX7_behave 33 = .ok (.aload_n 0, 1) := by decide +kernel
theorem dX7_behave_34 : decode cX7_behave 34 = .ok (.getfield 12, 3) := by decide +kernel
theorem dX7_behave_37 : decode cX7_behave 37 = .ok (.getfield 54, 3) := by decide +kernel
theorem dX7_behave_40 : decode cX7_behave 40 = .ok (.iload_n 1, 1) := by decide +kernel
theorem dX7_behave_41 : decode cX7_behave 41 = .ok (.aaload, 1) := by decide +kernel
theorem dX7_behave_42 : decode cX7_behave 42 = .ok (.getfield 58, 3) := by decide +kernel
theorem dX7_behave_45 : decode cX7_behave 45 = .ok (.istore_n 3, 1) := by decide +kernel
theorem dX7_behave_46 : decode cX7_behave 46 = .ok (.aload_n 0, 1) := by decide +kernel
theorem dX7_behave_47 : decode cX7_behave 47 = .ok (.getfield 12, 3) := by decide +kernel
theorem dX7_behave_50 : decode cX7_behave 50 = .ok (.getfield 54, 3) := by decide +kernel
theorem dX7_behave_53 : decode cX7_behave 53 = .ok (.iload_n 1, 1) := by decide +kernel
theorem dX7_behave_54 : decode cX7_behave 54 = .ok (.aaload, 1) := by decide +kernel
theorem dX7_behave_55 : decode cX7_behave 55 = .ok (.iload_n 2, 1) := by decide +kernel
theorem dX7_behave_56 : decode cX7_behave 56 = .ok (.putfield 58, 3) := by decide +kernel
theorem dX7_behave_59 : decode cX7_behave 59 = .ok (.iload_n 3, 1) := by decide +kernel
theorem dX7_behave_60 : decode cX7_behave 60 = .ok (.ireturn, 1) := by decide +kernel
theorem dX7_setMethod_0 : decode cX7_setMethod 0 = .ok (.aload_n 0, 1) := by decide +kernel
theorem dX7_setMethod_1 : decode cX7_setMethod 1 = .ok (.iload_n 1, 1) := by decide +kernel
theorem dX7_setMethod_2 : decode cX7_setMethod 2 = .ok (.iconst 0, 1) := by decide +kernel
theorem dX7_setMethod_3 : decode cX7_setMethod 3 = .ok (.iconst 2, 1) := by decide +kernel
theorem dX7_setMethod_4 : decode cX7_setMethod 4 = .ok (.invokevirtual 63, 3) := by decide +kernel
theorem dX7_setMethod_7 : decode cX7_setMethod 7 = .ok (.istore_n 2, 1) := by decide +kernel
theorem dX7_setMethod_8 : decode cX7_setMethod 8 = .ok (.iload_n 2, 1) := by decide +kernel
theorem dX7_setMethod_9 : decode cX7_setMethod 9 = .ok (.ifCond .ge 5, 3) := by decide +kernel
theorem dX7_setMethod_12 : decode cX7_setMethod 12 = .ok (.iload_n 2, 1) := by decide +kernel
theorem dX7_setMethod_13 : decode cX7_setMethod 13 = .ok (.ireturn, 1) := by decide +kernel
theorem dX7_setMethod_14 : decode cX7_setMethod 14 = .ok (.aload_n 0, 1) := by decide +kernel
theorem dX7_setMethod_15 : decode cX7_setMethod 15 = .ok (.getfield 19, 3) := by decide +kernel
theorem dX7_setMethod_18 : decode cX7_setMethod 18 = .ok (.aload_n 0, 1) := by decide +kernel
theorem dX7_setMethod_19 : decode cX7_setMethod 19 = .ok (.getfield 12, 3) := by decide +kernel
theorem dX7_setMethod_22 : decode cX7_setMethod 22 = .ok (.invokevirtual 42, 3) := by decide +kernel
theorem dX7_setMethod_25 : decode cX7_setMethod 25 = .ok (.aload_n 0, 1) := by decide +kernel
theorem dX7_setMethod_26 : decode cX7_setMethod 26 = .ok (.getfield 12, 3) := by decide +kernel
theorem dX7_setMethod_29 : decode cX7_setMethod 29 = .ok (.getfield 67, 3) := by decide +kernel
theorem dX7_setMethod_32 : decode cX7_setMethod 32 = .ok (.istore_n 3, 1) := by decide +kernel
theorem dX7_setMethod_33 : decode cX7_setMethod 33 = .ok (.aload_n 0, 1) := by decide +kernel
theorem dX7_setMethod_34 : decode cX7_setMethod 34 = .ok (.getfield 12, 3) := by decide +kernel
theorem dX7_setMethod_37 : decode cX7_setMethod 37 = .ok (.iload_n 1, 1) := by decide +kernel
theorem dX7_setMethod_38 : decode cX7_setMethod 38 = .ok (.putfield 67, 3) := by decide +kernel
theorem dX7_setMethod_41 : decode cX7_setMethod 41 = .ok (.iload_n 3, 1) := by decide +kernel
theorem dX7_setMethod_42 : decode cX7_setMethod 42 = .ok (.ireturn, 1) := by decide +kernel
theorem dX7_setThreshold_0 : decode cX7_setThreshold 0 = .ok (.aload_n 0, 1) := by decide +kernel
theorem dX7_setThreshold_1 : decode cX7_setThreshold 1 = .ok (.iload_n 1, 1) := by decide +kernel
theorem dX7_setThreshold_2 : decode cX7_setThreshold 2 = .ok (.iconst 1, 1) := by decide +kernel
theorem dX7_setThreshold_3 : decode cX7_setThreshold 3 = .ok (.bipush 8, 2) := by decide +kernel
theorem dX7_setThreshold_5 : decode cX7_setThreshold 5 = .ok (.invokevirtual 63, 3) := by decide +kernel
theorem dX7_setThreshold_8 : decode cX7_setThreshold 8 = .ok (.istore_n 2, 1) := by decide +kernel
theorem dX7_setThreshold_9 : decode cX7_setThreshold 9 = .ok (.iload_n 2, 1) := by decide +kernel
theorem dX7_setThreshold_10 : decode cX7_setThreshold 10 = .ok (.ifCond .ge 5, 3) := by decide +kernel
theorem dX7_setThreshold_13 : decode cX7_setThreshold 13 = .ok (.iload_n 2, 1) := by decide +kernel
theorem dX7_setThreshold_14 : decode cX7_setThreshold 14 = .ok (.ireturn, 1) := by decide +kernel
theorem dX7_setThreshold_15 : decode cX7_setThreshold 15 = .ok (.aload_n 0, 1) := by decide +kernel
theorem dX7_setThreshold_16 : decode cX7_setThreshold 16 = .ok (.getfield 19, 3) := by decide +kernel
theorem dX7_setThreshold_19 : decode cX7_setThreshold 19 = .ok (.aload_n 0, 1) := by decide +kernel
theorem dX7_setThreshold_20 : decode cX7_setThreshold 20 = .ok (.getfield 12, 3) := by decide +kernel
theorem dX7_setThreshold_23 : decode cX7_setThreshold 23 = .ok (.invokevirtual 42, 3) := by decide +kernel
theorem dX7_setThreshold_26 : decode cX7_setThreshold 26 = .ok (.aload_n 0, 1) := by decide +kernel
theorem dX7_setThreshold_27 : decode cX7_setThreshold 27 = .ok (.getfield 12, 3) := by decide +kernel
theorem dX7_setThreshold_30 : decode cX7_setThreshold 30 = .ok (.getfield 70, 3) := by decide +kernel
theorem dX7_setThreshold_33 : decode cX7_setThreshold 33 = .ok (.istore_n 3, 1) := by decide +kernel
theorem dX7_setThreshold_34 : decode cX7_setThreshold 34 = .ok (.aload_n 0, 1) := by decide +kernel
theorem dX7_setThreshold_35 : decode cX7_setThreshold 35 = .ok (.getfield 12, 3) := by decide +kernel
theorem dX7_setThreshold_38 : decode cX7_setThreshold 38 = .ok (.iload_n 1, 1) := by decide +kernel
theorem dX7_setThreshold_39 : decode cX7_setThreshold 39 = .ok (.putfield 70, 3) := by decide +kernel
theorem dX7_setThreshold_42 : decode cX7_setThreshold 42 = .ok (.iload_n 3, 1) := by decide +kernel
theorem dX7_setThreshold_43 : decode cX7_setThreshold 43 = .ok (.ireturn, 1) := by decide +kernel
theorem dX7_setFine_0 : decode cX7_setFine 0 = .ok (.aload_n 0, 1) := by decide +kernel
theorem dX7_setFine_1 : decode cX7_setFine 1 = .ok (.iload_n 1, 1) := by decide +kernel
theorem dX7_setFine_2 : decode cX7_setFine 2 = .ok (.iconst 0, 1) := by decide +kernel
theorem dX7_setFine_3 : decode cX7_setFine 3 = .ok (.sipush 1000, 3) := by decide +kernel
theorem dX7_setFine_6 : decode cX7_setFine 6 = .ok (.invokevirtual 63, 3) := by decide +kernel
theorem dX7_setFine_9 : decode cX7_setFine 9 = .ok (.istore_n 2, 1) := by decide +kernel
theorem dX7_setFine_10 : decode cX7_setFine 10 = .ok (.iload_n 2, 1) := by decide +kernel
theorem dX7_setFine_11 : decode cX7_setFine 11 = .ok (.ifCond .ge 5, 3) := by decide +kernel
theorem dX7_setFine_14 : decode cX7_setFine 14 = .ok (.iload_n 2, 1) := by decide +kernel
theorem dX7_setFine_15 : decode cX7_setFine 15 = .ok (.ireturn, 1) := by decide +kernel
theorem dX7_setFine_16 : decode cX7_setFine 16 = .ok (.aload_n 0, 1) := by decide +kernel
theorem dX7_setFine_17 : decode cX7_setFine 17 = .ok (.getfield 19, 3) := by decide +kernel
theorem dX7_setFine_20 : decode cX7_setFine 20 = .ok (.aload_n 0, 1) := by decide +kernel
theorem dX7_setFine_21 : decode cX7_setFine 21 = .ok (.getfield 12, 3) := by decide +kernel
theorem dX7_setFine_24 : decode cX7_setFine 24 = .ok (.invokevirtual 42, 3) := by decide +kernel
theorem dX7_setFine_27 : decode cX7_setFine 27 = .ok (.aload_n 0, 1) := by decide +kernel
theorem dX7_setFine_28 : decode cX7_setFine 28 = .ok (.getfield 12, 3) := by decide +kernel
theorem dX7_setFine_31 : decode cX7_setFine 31 = .ok (.getfield 73, 3) := by decide +kernel
theorem dX7_setFine_34 : decode cX7_setFine 34 = .ok (.istore_n 3, 1) := by decide +kernel
theorem dX7_setFine_35 : decode cX7_setFine 35 = .ok (.aload_n 0, 1) := by decide +kernel
theorem dX7_setFine_36 : decode cX7_setFine 36 = .ok (.getfield 12, 3) := by decide +kernel
theorem dX7_setFine_39 : decode cX7_setFine 39 = .ok (.iload_n 1, 1) := by decide +kernel
theorem dX7_setFine_40 : decode cX7_setFine 40 = .ok (.putfield 73, 3) := by decide +kernel
theorem dX7_setFine_43 : decode cX7_setFine 43 = .ok (.iload_n 3, 1) := by decide +kernel
theorem dX7_setFine_44 : decode cX7_setFine 44 = .ok (.ireturn, 1) := by decide +kernel
theorem dX7_setDelay_0 : decode cX7_setDelay 0 = .ok (.aload_n 0, 1) := by decide +kernel
theorem dX7_setDelay_1 : decode cX7_setDelay 1 = .ok (.iload_n 1, 1) := by decide +kernel
theorem dX7_setDelay_2 : decode cX7_setDelay 2 = .ok (.iconst 1, 1) := by decide +kernel
theorem dX7_setDelay_3 : decode cX7_setDelay 3 = .ok (.sipush 5000, 3) := by decide +kernel
theorem dX7_setDelay_6 : decode cX7_setDelay 6 = .ok (.invokevirtual 63, 3) := by decide +kernel
theorem dX7_setDelay_9 : decode cX7_setDelay 9 = .ok (.istore_n 2, 1) := by decide +kernel
theorem dX7_setDelay_10 : decode cX7_setDelay 10 = .ok (.iload_n 2, 1) := by decide +kernel
theorem dX7_setDelay_11 : decode cX7_setDelay 11 = .ok (.ifCond .ge 5, 3) := by decide +kernel
theorem dX7_setDelay_14 : decode cX7_setDelay 14 = .ok (.iload_n 2, 1) := by decide +kernel
theorem dX7_setDelay_15 : decode cX7_setDelay 15 = .ok (.ireturn, 1) := by decide +kernel
theorem dX7_setDelay_16 : decode cX7_setDelay 16 = .ok (.aload_n 0, 1) := by decide +kernel
theorem dX7_setDelay_17 : decode cX7_setDelay 17 = .ok (.getfield 19, 3) := by decide +kernel
theorem dX7_setDelay_20 : decode cX7_setDelay 20 = .ok (.aload_n 0, 1) := by decide +kernel
theorem dX7_setDelay_21 : decode cX7_setDelay 21 = .ok (.getfield 12, 3) := by decide +kernel
theorem dX7_setDelay_24 : decode cX7_setDelay 24 = .ok (.invokevirtual 42, 3) := by decide +kernel
theorem dX7_setDelay_27 : decode cX7_setDelay 27 = .ok (.aload_n 0, 1) := by decide +kernel
theorem dX7_setDelay_28 : decode cX7_setDelay 28 = .ok (.getfield 12, 3) := by decide +kernel
theorem dX7_setDelay_31 : decode cX7_setDelay 31 = .ok (.getfield 76, 3) := by decide +kernel
theorem dX7_setDelay_34 : decode cX7_setDelay 34 = .ok (.istore_n 3, 1) := by decide +kernel
theorem dX7_setDelay_35 : decode cX7_setDelay 35 = .ok (.aload_n 0, 1) := by decide +kernel
theorem dX7_setDelay_36 : decode cX7_setDelay 36 = .ok (.getfield 12, 3) := by decide +kernel
theorem dX7_setDelay_39 : decode cX7_setDelay 39 = .ok (.iload_n 1, 1) := by decide +kernel
theorem dX7_setDelay_40 : decode cX7_setDelay 40 = .ok (.putfield 76, 3) := by decide +kernel
theorem dX7_setDelay_43 : decode cX7_setDelay 43 = .ok (.iload_n 3, 1) := by decide +kernel
theorem dX7_setDelay_44 : decode cX7_setDelay 44 = .ok (.ireturn, 1) := by decide +kernel
theorem dX7_settingError_0 : decode cX7_settingError 0 = .ok (.iload_n 1, 1) := by decide +kernel
theorem dX7_settingError_1 : decode cX7_settingError 1 = .ok (.iload_n 2, 1) := by decide +kernel
theorem dX7_settingError_2 : decode cX7_settingError 2 = .ok (.iload_n 3, 1) := by decide +kernel
theorem dX7_settingError_3 : decode cX7_settingError 3 = .ok (.invokestatic 31, 3) := by decide +kernel
theorem dX7_settingError_6 : decode cX7_settingError 6 = .ok (.ifCond .ne 5, 3) := by decide +kernel
theorem dX7_settingError_9 : decode cX7_settingError 9 = .ok (.iconst (-1), 1) := by decide +kernel
theorem dX7_settingError_10 : decode cX7_settingError 10 = .ok (.ireturn, 1) := by decide +kernel
theorem dX7_settingError_11 : decode cX7_settingError 11 = .ok (.aload_n 0, 1) := by decide +kernel
theorem dX7_settingError_12 : decode cX7_settingError 12 = .ok (.getfield 12, 3) := by decide +kernel
theorem dX7_settingError_15 : decode cX7_settingError 15 = .ok (.getfield 35, 3) := by decide +kernel
theorem dX7_settingError_18 : decode cX7_settingError 18 = .ok (.ifCond .ne 7, 3) := by decide +kernel
theorem dX7_settingError_21 : decode cX7_settingError 21 = .ok (.iconst 0, 1) := by decide +kernel
theorem dX7_settingError_22 : decode cX7_settingError 22 = .ok (.goto 5, 3) := by decide +kernel
theorem dX7_settingError_25 : decode cX7_settingError 25 = .ok (.bipush (-2), 2) := by decide +kernel
theorem dX7_settingError_27 : decode cX7_settingError 27 = .ok (.ireturn, 1) := by decide +kernel
theorem dX7_begin_0 : decode cX7_begin 0 = .ok (.aload_n 0, 1) := by decide +kernel
theorem dX7_begin_1 : decode cX7_begin 1 = .ok (.getfield 12, 3) := by decide +kernel
theorem dX7_begin_4 : decode cX7_begin 4 = .ok (.invokevirtual 79, 3) := by decide +kernel
theorem dX7_begin_7 : decode cX7_begin 7 = .ok (.ifCond .ne 6, 3) := by decide +kernel
theorem dX7_begin_10 : decode cX7_begin 10 = .ok (.bipush (-2), 2) := by decide +kernel
theorem dX7_begin_12 : decode cX7_begin 12 = .ok (.ireturn, 1) := by decide +kernel
theorem dX7_begin_13 : decode cX7_begin 13 = .ok (.aload_n 0, 1) := by decide +kernel
theorem dX7_begin_14 : decode cX7_begin 14 = .ok (.getfield 19, 3) := by decide +kernel
theorem dX7_begin_17 : decode cX7_begin 17 = .ok (.aload_n 0, 1) := by decide +kernel
theorem dX7_begin_18 : decode cX7_begin 18 = .ok (.getfield 12, 3) := by decide +kernel
theorem dX7_begin_21 : decode cX7_begin 21 = .ok (.invokevirtual 42, 3) := by decide +kernel
theorem dX7_begin_24 : decode cX7_begin 24 = .ok (.aload_n 0, 1) := by decide +kernel
theorem dX7_begin_25 : decode cX7_begin 25 = .ok (.getfield 12, 3) := by decide +kernel
theorem dX7_begin_28 : decode cX7_begin 28 = .ok (.invokevirtual 83, 3) := by decide +kernel
theorem dX7_begin_31 : decode cX7_begin 31 = .ok (.aload_n 0, 1) := by decide +kernel
theorem dX7_begin_32 : decode cX7_begin 32 = .ok (.getfield 12, 3) := by decide +kernel
theorem dX7_begin_35 : decode cX7_begin 35 = .ok (.getfield 86, 3) := by decide +kernel
theorem dX7_begin_38 : decode cX7_begin 38 = .ok (.getfield 90, 3) := by decide +kernel
theorem dX7_begin_41 : decode cX7_begin 41 = .ok (.ireturn, 1) := by decide +kernel
theorem dX7_commit_0 : decode cX7_commit 0 = .ok (.aload_n 0, 1) := by decide +kernel
theorem dX7_commit_1 : decode cX7_commit 1 = .ok (.getfield 12, 3) := by decide +kernel
theorem dX7_commit_4 : decode cX7_commit 4 = .ok (.iload_n 1, 1) := by decide +kernel
theorem dX7_commit_5 : decode cX7_commit 5 = .ok (.invokevirtual 50, 3) := by decide +kernel
theorem dX7_commit_8 : decode cX7_commit 8 = .ok (.ifCond .eq 14, 3) := by decide +kernel
theorem dX7_commit_11 : decode cX7_commit 11 = .ok (.iload_n 2, 1) := by decide +kernel
theorem dX7_commit_12 : decode cX7_commit 12 = .ok (.iconst 0, 1) := by decide +kernel
theorem dX7_commit_13 : decode cX7_commit 13 = .ok (.sipush 1018, 3) := by decide +kernel
theorem dX7_commit_16 : decode cX7_commit 16 = .ok (.invokestatic 31, 3) := by decide +kernel
theorem dX7_commit_19 : decode cX7_commit 19 = .ok (.ifCond .ne 5, 3) := by decide +kernel
theorem dX7_commit_22 : decode cX7_commit 22 = .ok (.iconst (-1), 1) := by decide +kernel
theorem dX7_commit_23 : decode cX7_commit 23 = .ok (.ireturn, 1) := by decide +kernel
theorem dX7_commit_24 : decode cX7_commit 24 = .ok (.aload_n 0, 1) := by decide +kernel
theorem dX7_commit_25 : decode cX7_commit 25 = .ok (.getfield 12, 3) := by decide +kernel
theorem dX7_commit_28 : decode cX7_commit 28 = .ok (.getfield 35, 3) := by decide +kernel
theorem dX7_commit_31 : decode cX7_commit 31 = .ok (.iconst 1, 1) := by decide +kernel
theorem dX7_commit_32 : decode cX7_commit 32 = .ok (.if_icmp .ne 31, 3) := by decide +kernel
theorem dX7_commit_35 : decode cX7_commit 35 = .ok (.aload_n 0, 1) := by decide +kernel
theorem dX7_commit_36 : decode cX7_commit 36 = .ok (.getfield 12, 3) := by decide +kernel
theorem dX7_commit_39 : decode cX7_commit 39 = .ok (.getfield 95, 3) := by decide +kernel
theorem dX7_commit_42 : decode cX7_commit 42 = .ok (.iload_n 1, 1) := by decide +kernel
theorem dX7_commit_43 : decode cX7_commit 43 = .ok (.invokestatic 98, 3) := by decide +kernel
theorem dX7_commit_46 : decode cX7_commit 46 = .ok (.ifCond .eq 17, 3) := by decide +kernel
theorem dX7_commit_49 : decode cX7_commit 49 = .ok (.aload_n 0, 1) := by decide +kernel
theorem dX7_commit_50 : decode cX7_commit 50 = .ok (.getfield 12, 3) := by decide +kernel
theorem dX7_commit_53 : decode cX7_commit 53 = .ok (.getfield 102, 3) := by decide +kernel
theorem dX7_commit_56 : decode cX7_commit 56 = .ok (.iload_n 1, 1) := by decide +kernel
theorem dX7_commit_57 : decode cX7_commit 57 = .ok (.invokestatic 98, 3) := by decide +kernel
theorem dX7_commit_60 : decode cX7_commit 60 = .ok (.ifCond .eq 6, 3) := by decide +kernel
theorem dX7_commit_63 : decode cX7_commit 63 = .ok (.bipush (-2), 2) := by decide +kernel
theorem dX7_commit_65 : decode cX7_commit 65 = .ok (.ireturn, 1) := by decide +kernel
theorem dX7_commit_66 : decode cX7_commit 66 = .ok (.aload_n 0, 1) := by decide +kernel
theorem dX7_commit_67 : decode cX7_commit 67 = .ok (.getfield 12, 3) := by decide +kernel
theorem dX7_commit_70 : decode cX7_commit 70 = .ok (.iload_n 2, 1) := by decide +kernel
theorem dX7_commit_71 : decode cX7_commit 71 = .ok (.iload_n 3, 1) := by decide +kernel
theorem dX7_commit_72 : decode cX7_commit 72 = .ok (.invokevirtual 105, 3) := by decide +kernel
theorem dX7_commit_75 : decode cX7_commit 75 = .ok (.istore 4, 2) := by decide +kernel
theorem dX7_commit_77 : decode cX7_commit 77 = .ok (.aload_n 0, 1) := by decide +kernel
theorem dX7_commit_78 : decode cX7_commit 78 = .ok (.getfield 12, 3) := by decide +kernel
theorem dX7_commit_81 : decode cX7_commit 81 = .ok (.iload 4, 2) := by decide +kernel
theorem dX7_commit_83 : decode cX7_commit 83 = .ok (.invokevirtual 109, 3) := by decide +kernel
theorem dX7_commit_86 : decode cX7_commit 86 = .ok (.ifCond .eq 6, 3) := by decide +kernel
theorem dX7_commit_89 : decode cX7_commit 89 = .ok (.bipush (-4), 2) := by decide +kernel
theorem dX7_commit_91 : decode cX7_commit 91 = .ok (.ireturn, 1) := by decide +kernel
theorem dX7_commit_92 : decode cX7_commit 92 = .ok (.aload_n 0, 1) := by decide +kernel
theorem dX7_commit_93 : decode cX7_commit 93 = .ok (.getfield 19, 3) := by decide +kernel
theorem dX7_commit_96 : decode cX7_commit 96 = .ok (.aload_n 0, 1) := by decide +kernel
theorem dX7_commit_97 : decode cX7_commit 97 = .ok (.getfield 12, 3) := by decide +kernel
theorem dX7_commit_100 : decode cX7_commit 100 = .ok (.invokevirtual 42, 3) := by decide +kernel
theorem dX7_commit_103 : decode cX7_commit 103 = .ok (.aload_n 0, 1) := by decide +kernel
theorem dX7_commit_104 : decode cX7_commit 104 = .ok (.getfield 12, 3) := by decide +kernel
theorem dX7_commit_107 : decode cX7_commit 107 = .ok (.iload_n 1, 1) := by decide +kernel
theorem dX7_commit_108 : decode cX7_commit 108 = .ok (.iload_n 2, 1) := by decide +kernel
theorem dX7_commit_109 : decode cX7_commit 109 = .ok (.iload_n 3, 1) := by decide +kernel
theorem dX7_commit_110 : decode cX7_commit 110 = .ok (.invokevirtual 112, 3) := by decide +kernel
theorem dX7_commit_113 : decode cX7_commit 113 = .ok (.iload 4, 2) := by decide +kernel
theorem dX7_commit_115 : decode cX7_commit 115 = .ok (.ldc 116, 2) := by decide +kernel
theorem dX7_commit_117 : decode cX7_commit 117 = .ok (.iand, 1) := by decide +kernel
theorem dX7_commit_118 : decode cX7_commit 118 = .ok (.ireturn, 1) := by decide +kernel
theorem dX7_spoil_0 : decode cX7_spoil 0 = .ok (.aload_n 0, 1) := by decide +kernel
theorem dX7_spoil_1 : decode cX7_spoil 1 = .ok (.getfield 12, 3) := by decide +kernel
theorem dX7_spoil_4 : decode cX7_spoil 4 = .ok (.iload_n 1, 1) := by decide +kernel
theorem dX7_spoil_5 : decode cX7_spoil 5 = .ok (.invokevirtual 50, 3) := by decide +kernel
theorem dX7_spoil_8 : decode cX7_spoil 8 = .ok (.ifCond .eq 25, 3) := by decide +kernel
theorem dX7_spoil_11 : decode cX7_spoil 11 = .ok (.aload_n 0, 1) := by decide +kernel
theorem dX7_spoil_12 : decode cX7_spoil 12 = .ok (.getfield 12, 3) := by decide +kernel
theorem dX7_spoil_15 : decode cX7_spoil 15 = .ok (.iload_n 2, 1) := by decide +kernel
theorem dX7_spoil_16 : decode cX7_spoil 16 = .ok (.invokevirtual 50, 3) := by decide +kernel
theorem dX7_spoil_19 : decode cX7_spoil 19 = .ok (.ifCond .eq 14, 3) := by decide +kernel
theorem dX7_spoil_22 : decode cX7_spoil 22 = .ok (.iload_n 3, 1) := by decide +kernel
theorem dX7_spoil_23 : decode cX7_spoil 23 = .ok (.iconst 1, 1) := by decide +kernel
theorem dX7_spoil_24 : decode cX7_spoil 24 = .ok (.sipush 1018, 3) := by decide +kernel
theorem dX7_spoil_27 : decode cX7_spoil 27 = .ok (.invokestatic 31, 3) := by decide +kernel
theorem dX7_spoil_30 : decode cX7_spoil 30 = .ok (.ifCond .ne 5, 3) := by decide +kernel
theorem dX7_spoil_33 : decode cX7_spoil 33 = .ok (.iconst (-1), 1) := by decide +kernel
theorem dX7_spoil_34 : decode cX7_spoil 34 = .ok (.ireturn, 1) := by decide +kernel
theorem dX7_spoil_35 : decode cX7_spoil 35 = .ok (.aload_n 0, 1) := by decide +kernel
theorem dX7_spoil_36 : decode cX7_spoil 36 = .ok (.getfield 12, 3) := by decide +kernel
theorem dX7_spoil_39 : decode cX7_spoil 39 = .ok (.iload_n 1, 1) := by decide +kernel
theorem dX7_spoil_40 : decode cX7_spoil 40 = .ok (.iload_n 2, 1) := by decide +kernel
theorem dX7_spoil_41 : decode cX7_spoil 41 = .ok (.invokevirtual 117, 3) := by decide +kernel
theorem dX7_spoil_44 : decode cX7_spoil 44 = .ok (.ifCond .ne 6, 3) := by decide +kernel
theorem dX7_spoil_47 : decode cX7_spoil 47 = .ok (.bipush (-9), 2) := by decide +kernel
theorem dX7_spoil_49 : decode cX7_spoil 49 = .ok (.ireturn, 1) := by decide +kernel
theorem dX7_spoil_50 : decode cX7_spoil 50 = .ok (.aload_n 0, 1) := by decide +kernel
theorem dX7_spoil_51 : decode cX7_spoil 51 = .ok (.getfield 19, 3) := by decide +kernel
theorem dX7_spoil_54 : decode cX7_spoil 54 = .ok (.aload_n 0, 1) := by decide +kernel
theorem dX7_spoil_55 : decode cX7_spoil 55 = .ok (.getfield 12, 3) := by decide +kernel
theorem dX7_spoil_58 : decode cX7_spoil 58 = .ok (.invokevirtual 42, 3) := by decide +kernel
theorem dX7_spoil_61 : decode cX7_spoil 61 = .ok (.aload_n 0, 1) := by decide +kernel
theorem dX7_spoil_62 : decode cX7_spoil 62 = .ok (.getfield 12, 3) := by decide +kernel
theorem dX7_spoil_65 : decode cX7_spoil 65 = .ok (.getfield 54, 3) := by decide +kernel
theorem dX7_spoil_68 : decode cX7_spoil 68 = .ok (.iload_n 1, 1) := by decide +kernel
theorem dX7_spoil_69 : decode cX7_spoil 69 = .ok (.aaload, 1) := by decide +kernel
theorem dX7_spoil_70 : decode cX7_spoil 70 = .ok (.iload_n 2, 1) := by decide +kernel
theorem dX7_spoil_71 : decode cX7_spoil 71 = .ok (.iload_n 3, 1) := by decide +kernel
theorem dX7_spoil_72 : decode cX7_spoil 72 = .ok (.aload_n 0, 1) := by decide +kernel
theorem dX7_spoil_73 : decode cX7_spoil 73 = .ok (.getfield 12, 3) := by decide +kernel
theorem dX7_spoil_76 : decode cX7_spoil 76 = .ok (.getfield 70, 3) := by decide +kernel
theorem dX7_spoil_79 : decode cX7_spoil 79 = .ok (.invokevirtual 120, 3) := by decide +kernel
theorem dX7_spoil_82 : decode cX7_spoil 82 = .ok (.aload_n 0, 1) := by decide +kernel
theorem dX7_spoil_83 : decode cX7_spoil 83 = .ok (.getfield 12, 3) := by decide +kernel
theorem dX7_spoil_86 : decode cX7_spoil 86 = .ok (.getfield 54, 3) := by decide +kernel
theorem dX7_spoil_89 : decode cX7_spoil 89 = .ok (.iload_n 1, 1) := by decide +kernel
theorem dX7_spoil_90 : decode cX7_spoil 90 = .ok (.aaload, 1) := by decide +kernel
theorem dX7_spoil_91 : decode cX7_spoil 91 = .ok (.getfield 123, 3) := by decide +kernel
theorem dX7_spoil_94 : decode cX7_spoil 94 = .ok (.iload_n 2, 1) := by decide +kernel
theorem dX7_spoil_95 : decode cX7_spoil 95 = .ok (.iaload, 1) := by decide +kernel
theorem dX7_spoil_96 : decode cX7_spoil 96 = .ok (.ireturn, 1) := by decide +kernel
theorem dX7_complain_0 : decode cX7_complain 0 = .ok (.aload_n 0, 1) := by decide +kernel
theorem dX7_complain_1 : decode cX7_complain 1 = .ok (.getfield 12, 3) := by decide +kernel
theorem dX7_complain_4 : decode cX7_complain 4 = .ok (.iload_n 1, 1) := by decide +kernel
theorem dX7_complain_5 : decode cX7_complain 5 = .ok (.invokevirtual 50, 3) := by decide +kernel
theorem dX7_complain_8 : decode cX7_complain 8 = .ok (.ifCond .eq 19, 3) := by decide +kernel
theorem dX7_complain_11 : decode cX7_complain 11 = .ok (.aload_n 0, 1) := by decide +kernel
theorem dX7_complain_12 : decode cX7_complain 12 = .ok (.getfield 12, 3) := by decide +kernel
theorem dX7_complain_15 : decode cX7_complain 15 = .ok (.iload_n 2, 1) := by decide +kernel
theorem dX7_complain_16 : decode cX7_complain 16 = .ok (.invokevirtual 50, 3) := by decide +kernel
theorem dX7_complain_19 : decode cX7_complain 19 = .ok (.ifCond .eq 8, 3) := by decide +kernel
theorem dX7_complain_22 : decode cX7_complain 22 = .ok (.iload_n 1, 1) := by decide +kernel
theorem dX7_complain_23 : decode cX7_complain 23 = .ok (.iload_n 2, 1) := by decide +kernel
theorem dX7_complain_24 : decode cX7_complain 24 = .ok (.if_icmp .ne 5, 3) := by decide +kernel
theorem dX7_complain_27 : decode cX7_complain 27 = .ok (.iconst (-1), 1) := by decide +kernel
theorem dX7_complain_28 : decode cX7_complain 28 = .ok (.ireturn, 1) := by decide +kernel
theorem dX7_complain_29 : decode cX7_complain 29 = .ok (.aload_n 0, 1) := by decide +kernel
theorem dX7_complain_30 : decode cX7_complain 30 = .ok (.getfield 12, 3) := by decide +kernel
theorem dX7_complain_33 : decode cX7_complain 33 = .ok (.getfield 35, 3) := by decide +kernel
theorem dX7_complain_36 : decode cX7_complain 36 = .ok (.iconst 1, 1) := by decide +kernel
theorem dX7_complain_37 : decode cX7_complain 37 = .ok (.if_icmp .eq 6, 3) := by decide +kernel
theorem dX7_complain_40 : decode cX7_complain 40 = .ok (.bipush (-2), 2) := by decide +kernel
theorem dX7_complain_42 : decode cX7_complain 42 = .ok (.ireturn, 1) := by decide +kernel
theorem dX7_complain_43 : decode cX7_complain 43 = .ok (.aload_n 0, 1) := by decide +kernel
theorem dX7_complain_44 : decode cX7_complain 44 = .ok (.getfield 12, 3) := by decide +kernel
theorem dX7_complain_47 : decode cX7_complain 47 = .ok (.iload_n 2, 1) := by decide +kernel
theorem dX7_complain_48 : decode cX7_complain 48 = .ok (.iload_n 1, 1) := by decide +kernel
theorem dX7_complain_49 : decode cX7_complain 49 = .ok (.invokevirtual 117, 3) := by decide +kernel
theorem dX7_complain_52 : decode cX7_complain 52 = .ok (.ifCond .ne 6, 3) := by decide +kernel
theorem dX7_complain_55 : decode cX7_complain 55 = .ok (.bipush (-9), 2) := by decide +kernel
theorem dX7_complain_57 : decode cX7_complain 57 = .ok (.ireturn, 1) := by decide +kernel
theorem dX7_complain_58 : decode cX7_complain 58 = .ok (.aload_n 0, 1) := by decide +kernel
theorem dX7_complain_59 : decode cX7_complain 59 = .ok (.getfield 19, 3) := by decide +kernel
theorem dX7_complain_62 : decode cX7_complain 62 = .ok (.aload_n 0, 1) := by decide +kernel
theorem dX7_complain_63 : decode cX7_complain 63 = .ok (.getfield 12, 3) := by decide +kernel
theorem dX7_complain_66 : decode cX7_complain 66 = .ok (.invokevirtual 42, 3) := by decide +kernel
theorem dX7_complain_69 : decode cX7_complain 69 = .ok (.aload_n 0, 1) := by decide +kernel
theorem dX7_complain_70 : decode cX7_complain 70 = .ok (.getfield 12, 3) := by decide +kernel
theorem dX7_complain_73 : decode cX7_complain 73 = .ok (.getfield 54, 3) := by decide +kernel
theorem dX7_complain_76 : decode cX7_complain 76 = .ok (.iload_n 2, 1) := by decide +kernel
theorem dX7_complain_77 : decode cX7_complain 77 = .ok (.aaload, 1) := by decide +kernel
theorem dX7_complain_78 : decode cX7_complain 78 = .ok (.getfield 127, 3) := by decide +kernel
theorem dX7_complain_81 : decode cX7_complain 81 = .ok (.iload_n 1, 1) := by decide +kernel
theorem dX7_complain_82 : decode cX7_complain 82 = .ok (.invokestatic 98, 3) := by decide +kernel
theorem dX7_complain_85 : decode cX7_complain 85 = .ok (.ifCond .eq 13, 3) := by decide +kernel
theorem dX7_complain_88 : decode cX7_complain 88 = .ok (.aload_n 0, 1) := by decide +kernel
theorem dX7_complain_89 : decode cX7_complain 89 = .ok (.getfield 12, 3) := by decide +kernel
theorem dX7_complain_92 : decode cX7_complain 92 = .ok (.iload_n 1, 1) := by decide +kernel
theorem dX7_complain_93 : decode cX7_complain 93 = .ok (.invokevirtual 130, 3) := by decide +kernel
theorem dX7_complain_96 : decode cX7_complain 96 = .ok (.iconst 0, 1) := by decide +kernel
theorem dX7_complain_97 : decode cX7_complain 97 = .ok (.ireturn, 1) := by decide +kernel
theorem dX7_complain_98 : decode cX7_complain 98 = .ok (.aload_n 0, 1) := by decide +kernel
theorem dX7_complain_99 : decode cX7_complain 99 = .ok (.getfield 12, 3) := by decide +kernel
theorem dX7_complain_102 : decode cX7_complain 102 = .ok (.iload_n 2, 1) := by decide +kernel
theorem dX7_complain_103 : decode cX7_complain 103 = .ok (.invokevirtual 134, 3) := by decide +kernel
theorem dX7_complain_106 : decode cX7_complain 106 = .ok (.iconst 1, 1) := by decide +kernel
theorem dX7_complain_107 : decode cX7_complain 107 = .ok (.ireturn, 1) := by decide +kernel
theorem dX7_beginOpening_0 : decode cX7_beginOpening 0 = .ok (.aload_n 0, 1) := by decide +kernel
theorem dX7_beginOpening_1 : decode cX7_beginOpening 1 = .ok (.getfield 12, 3) := by decide +kernel
theorem dX7_beginOpening_4 : decode cX7_beginOpening 4 = .ok (.getfield 35, 3) := by decide +kernel
theorem dX7_beginOpening_7 : decode cX7_beginOpening 7 = .ok (.iconst 1, 1) := by decide +kernel
theorem dX7_beginOpening_8 : decode cX7_beginOpening 8 = .ok (.if_icmp .eq 6, 3) := by decide +kernel
theorem dX7_beginOpening_11 : decode cX7_beginOpening 11 = .ok (.bipush (-2), 2) := by decide +kernel
theorem dX7_beginOpening_13 : decode cX7_beginOpening 13 = .ok (.ireturn, 1) := by decide +kernel
theorem dX7_beginOpening_14 : decode cX7_beginOpening 14 = .ok (.aload_n 0, 1) := by decide +kernel
theorem dX7_beginOpening_15 : decode cX7_beginOpening 15 = .ok (.getfield 19, 3) := by decide +kernel
theorem dX7_beginOpening_18 : decode cX7_beginOpening 18 = .ok (.aload_n 0, 1) := by decide +kernel
theorem dX7_beginOpening_19 : decode cX7_beginOpening 19 = .ok (.getfield 12, 3) := by decide +kernel
theorem dX7_beginOpening_22 : decode cX7_beginOpening 22 = .ok (.invokevirtual 42, 3) := by decide +kernel
theorem dX7_beginOpening_25 : decode cX7_beginOpening 25 = .ok (.aload_n 0, 1) := by decide +kernel
theorem dX7_beginOpening_26 : decode cX7_beginOpening 26 = .ok (.getfield 12, 3) := by decide +kernel
theorem dX7_beginOpening_29 : decode cX7_beginOpening 29 = .ok (.invokevirtual 137, 3) := by decide +kernel
theorem dX7_beginOpening_32 : decode cX7_beginOpening 32 = .ok (.ireturn, 1) := by decide +kernel
theorem dX7_open_0 : decode cX7_open 0 = .ok (.aload_n 0, 1) := by decide +kernel
theorem dX7_open_1 : decode cX7_open 1 = .ok (.getfield 12, 3) := by decide +kernel
theorem dX7_open_4 : decode cX7_open 4 = .ok (.iload_n 1, 1) := by decide +kernel
theorem dX7_open_5 : decode cX7_open 5 = .ok (.invokevirtual 50, 3) := by decide +kernel
theorem dX7_open_8 : decode cX7_open 8 = .ok (.ifCond .ne 5, 3) := by decide +kernel
theorem dX7_open_11 : decode cX7_open 11 = .ok (.iconst (-1), 1) := by decide +kernel
theorem dX7_open_12 : decode cX7_open 12 = .ok (.ireturn, 1) := by decide +kernel
theorem dX7_open_13 : decode cX7_open 13 = .ok (.aload_n 0, 1) := by decide +kernel
theorem dX7_open_14 : decode cX7_open 14 = .ok (.getfield 12, 3) := by decide +kernel
theorem dX7_open_17 : decode cX7_open 17 = .ok (.getfield 35, 3) := by decide +kernel
theorem dX7_open_20 : decode cX7_open 20 = .ok (.iconst 2, 1) := by decide +kernel
theorem dX7_open_21 : decode cX7_open 21 = .ok (.if_icmp .ne 31, 3) := by decide +kernel
theorem dX7_open_24 : decode cX7_open 24 = .ok (.aload_n 0, 1) := by decide +kernel
theorem dX7_open_25 : decode cX7_open 25 = .ok (.getfield 12, 3) := by decide +kernel
theorem dX7_open_28 : decode cX7_open 28 = .ok (.getfield 95, 3) := by decide +kernel
theorem dX7_open_31 : decode cX7_open 31 = .ok (.iload_n 1, 1) := by decide +kernel
theorem dX7_open_32 : decode cX7_open 32 = .ok (.invokestatic 98, 3) := by decide +kernel
theorem dX7_open_35 : decode cX7_open 35 = .ok (.ifCond .eq 17, 3) := by decide +kernel
theorem dX7_open_38 : decode cX7_open 38 = .ok (.aload_n 0, 1) := by decide +kernel
theorem dX7_open_39 : decode cX7_open 39 = .ok (.getfield 12, 3) := by decide +kernel
theorem dX7_open_42 : decode cX7_open 42 = .ok (.getfield 141, 3) := by decide +kernel
theorem dX7_open_45 : decode cX7_open 45 = .ok (.iload_n 1, 1) := by decide +kernel
theorem dX7_open_46 : decode cX7_open 46 = .ok (.invokestatic 98, 3) := by decide +kernel
theorem dX7_open_49 : decode cX7_open 49 = .ok (.ifCond .eq 6, 3) := by decide +kernel
theorem dX7_open_52 : decode cX7_open 52 = .ok (.bipush (-2), 2) := by decide +kernel
theorem dX7_open_54 : decode cX7_open 54 = .ok (.ireturn, 1) := by decide +kernel
theorem dX7_open_55 : decode cX7_open 55 = .ok (.aload_n 0, 1) := by decide +kernel
theorem dX7_open_56 : decode cX7_open 56 = .ok (.getfield 19, 3) := by decide +kernel
theorem dX7_open_59 : decode cX7_open 59 = .ok (.aload_n 0, 1) := by decide +kernel
theorem dX7_open_60 : decode cX7_open 60 = .ok (.getfield 12, 3) := by decide +kernel
theorem dX7_open_63 : decode cX7_open 63 = .ok (.invokevirtual 42, 3) := by decide +kernel
theorem dX7_open_66 : decode cX7_open 66 = .ok (.aload_n 0, 1) := by decide +kernel
theorem dX7_open_67 : decode cX7_open 67 = .ok (.getfield 12, 3) := by decide +kernel
theorem dX7_open_70 : decode cX7_open 70 = .ok (.getfield 144, 3) := by decide +kernel
theorem dX7_open_73 : decode cX7_open 73 = .ok (.iload_n 1, 1) := by decide +kernel
theorem dX7_open_74 : decode cX7_open 74 = .ok (.iaload, 1) := by decide +kernel
theorem dX7_open_75 : decode cX7_open 75 = .ok (.iload_n 2, 1) := by decide +kernel
theorem dX7_open_76 : decode cX7_open 76 = .ok (.if_icmp .ne 19, 3) := by decide +kernel
theorem dX7_open_79 : decode cX7_open 79 = .ok (.aload_n 0, 1) := by decide +kernel
theorem dX7_open_80 : decode cX7_open 80 = .ok (.getfield 12, 3) := by decide +kernel
theorem dX7_open_83 : decode cX7_open 83 = .ok (.getfield 54, 3) := by decide +kernel
theorem dX7_open_86 : decode cX7_open 86 = .ok (.iload_n 1, 1) := by decide +kernel
theorem dX7_open_87 : decode cX7_open 87 = .ok (.aaload, 1) := by decide +kernel
theorem dX7_open_88 : decode cX7_open 88 = .ok (.getfield 147, 3) := by decide +kernel
theorem dX7_open_91 : decode cX7_open 91 = .ok (.iload_n 3, 1) := by decide +kernel
theorem dX7_open_92 : decode cX7_open 92 = .ok (.if_icmp .eq 5, 3) := by decide +kernel
theorem dX7_open_95 : decode cX7_open 95 = .ok (.iconst 0, 1) := by decide +kernel
theorem dX7_open_96 : decode cX7_open 96 = .ok (.ireturn, 1) := by decide +kernel
theorem dX7_open_97 : decode cX7_open 97 = .ok (.aload_n 0, 1) := by decide +kernel
theorem dX7_open_98 : decode cX7_open 98 = .ok (.getfield 12, 3) := by decide +kernel
theorem dX7_open_101 : decode cX7_open 101 = .ok (.dup, 1) := by decide +kernel
theorem dX7_open_102 : decode cX7_open 102 = .ok (.getfield 141, 3) := by decide +kernel
theorem dX7_open_105 : decode cX7_open 105 = .ok (.iconst 1, 1) := by decide +kernel
theorem dX7_open_106 : decode cX7_open 106 = .ok (.iload_n 1, 1) := by decide +kernel
theorem dX7_open_107 : decode cX7_open 107 = .ok (.ishl, 1) := by decide +kernel
theorem dX7_open_108 : decode cX7_open 108 = .ok (.ior, 1) := by decide +kernel
theorem dX7_open_109 : decode cX7_open 109 = .ok (.putfield 141, 3) := by decide +kernel
theorem dX7_open_112 : decode cX7_open 112 = .ok (.iconst 1, 1) := by decide +kernel
theorem dX7_open_113 : decode cX7_open 113 = .ok (.ireturn, 1) := by decide +kernel
theorem dX7_close_0 : decode cX7_close 0 = .ok (.aload_n 0, 1) := by decide +kernel
theorem dX7_close_1 : decode cX7_close 1 = .ok (.getfield 12, 3) := by decide +kernel
theorem dX7_close_4 : decode cX7_close 4 = .ok (.getfield 35, 3) := by decide +kernel
theorem dX7_close_7 : decode cX7_close 7 = .ok (.iconst 2, 1) := by decide +kernel
theorem dX7_close_8 : decode cX7_close 8 = .ok (.if_icmp .eq 6, 3) := by decide +kernel
theorem dX7_close_11 : decode cX7_close 11 = .ok (.bipush (-2), 2) := by decide +kernel
theorem dX7_close_13 : decode cX7_close 13 = .ok (.ireturn, 1) := by decide +kernel
theorem dX7_close_14 : decode cX7_close 14 = .ok (.aload_n 0, 1) := by decide +kernel
theorem dX7_close_15 : decode cX7_close 15 = .ok (.getfield 19, 3) := by decide +kernel
theorem dX7_close_18 : decode cX7_close 18 = .ok (.aload_n 0, 1) := by decide +kernel
theorem dX7_close_19 : decode cX7_close 19 = .ok (.getfield 12, 3) := by decide +kernel
theorem dX7_close_22 : decode cX7_close 22 = .ok (.invokevirtual 42, 3) := by decide +kernel
theorem dX7_close_25 : decode cX7_close 25 = .ok (.aload_n 0, 1) := by decide +kernel
theorem dX7_close_26 : decode cX7_close 26 = .ok (.getfield 12, 3) := by decide +kernel
theorem dX7_close_29 : decode cX7_close 29 = .ok (.invokevirtual 150, 3) := by decide +kernel
theorem dX7_close_32 : decode cX7_close 32 = .ok (.ireturn, 1) := by decide +kernel
theorem dX7_play_0 : decode cX7_play 0 = .ok (.aload_n 0, 1) := by decide +kernel
theorem dX7_play_1 : decode cX7_play 1 = .ok (.getfield 12, 3) := by decide +kernel
theorem dX7_play_4 : decode cX7_play 4 = .ok (.invokevirtual 79, 3) := by decide +kernel
theorem dX7_play_7 : decode cX7_play 7 = .ok (.ifCond .ne 6, 3) := by decide +kernel
theorem dX7_play_10 : decode cX7_play 10 = .ok (.bipush (-2), 2) := by decide +kernel
theorem dX7_play_12 : decode cX7_play 12 = .ok (.ireturn, 1) := by decide +kernel
theorem dX7_play_13 : decode cX7_play 13 = .ok (.aload_n 0, 1) := by decide +kernel
theorem dX7_play_14 : decode cX7_play 14 = .ok (.getfield 19, 3) := by decide +kernel
theorem dX7_play_17 : decode cX7_play 17 = .ok (.aload_n 0, 1) := by decide +kernel
theorem dX7_play_18 : decode cX7_play 18 = .ok (.getfield 12, 3) := by decide +kernel
theorem dX7_play_21 : decode cX7_play 21 = .ok (.invokevirtual 42, 3) := by decide +kernel
theorem dX7_play_24 : decode cX7_play 24 = .ok (.aload_n 0, 1) := by decide +kernel
theorem dX7_play_25 : decode cX7_play 25 = .ok (.getfield 12, 3) := by decide +kernel
theorem dX7_play_28 : decode cX7_play 28 = .ok (.iload_n 1, 1) := by decide +kernel
theorem dX7_play_29 : decode cX7_play 29 = .ok (.invokestatic 153, 3) := by decide +kernel
theorem dX7_play_32 : decode cX7_play 32 = .ok (.ireturn, 1) := by decide +kernel
theorem dX7_phase_0 : decode cX7_phase 0 = .ok (.aload_n 0, 1) := by decide +kernel
theorem dX7_phase_1 : decode cX7_phase 1 = .ok (.getfield 12, 3) := by decide +kernel
theorem dX7_phase_4 : decode cX7_phase 4 = .ok (.getfield 35, 3) := by decide +kernel
theorem dX7_phase_7 : decode cX7_phase 7 = .ok (.ireturn, 1) := by decide +kernel
theorem dX7_set_0 : decode cX7_set 0 = .ok (.iload_n 1, 1) := by decide +kernel
theorem dX7_set_1 : decode cX7_set 1 = .ok (.iconst 0, 1) := by decide +kernel
theorem dX7_set_2 : decode cX7_set 2 = .ok (.iconst 3, 1) := by decide +kernel
theorem dX7_set_3 : decode cX7_set 3 = .ok (.invokestatic 31, 3) := by decide +kernel
theorem dX7_set_6 : decode cX7_set 6 = .ok (.ifCond .ne 5, 3) := by decide +kernel
theorem dX7_set_9 : decode cX7_set 9 = .ok (.iconst (-1), 1) := by decide +kernel
theorem dX7_set_10 : decode cX7_set 10 = .ok (.ireturn, 1) := by decide +kernel
theorem dX7_set_11 : decode cX7_set 11 = .ok (.aload_n 0, 1) := by decide +kernel
theorem dX7_set_12 : decode cX7_set 12 = .ok (.getfield 12, 3) := by decide +kernel
theorem dX7_set_15 : decode cX7_set 15 = .ok (.getfield 35, 3) := by decide +kernel
theorem dX7_set_18 : decode cX7_set 18 = .ok (.ifCond .ne 6, 3) := by decide +kernel
theorem dX7_set_21 : decode cX7_set 21 = .ok (.bipush (-2), 2) := by decide +kernel
theorem dX7_set_23 : decode cX7_set 23 = .ok (.ireturn, 1) := by decide +kernel
theorem dX7_set_24 : decode cX7_set 24 = .ok (.iload_n 1, 1) := by decide +kernel
theorem dX7_set_25 : decode cX7_set 25 = .ok (.tableswitch 51 0 2 #[27, 35, 43], 27) := by decide +kernel
theorem dX7_set_52 : decode cX7_set 52 = .ok (.aload_n 0, 1) := by decide +kernel
theorem dX7_set_53 : decode cX7_set 53 = .ok (.getfield 12, 3) := by decide +kernel
theorem dX7_set_56 : decode cX7_set 56 = .ok (.getfield 95, 3) := by decide +kernel
theorem dX7_set_59 : decode cX7_set 59 = .ok (.ireturn, 1) := by decide +kernel
theorem dX7_set_60 : decode cX7_set 60 = .ok (.aload_n 0, 1) := by decide +kernel
theorem dX7_set_61 : decode cX7_set 61 = .ok (.getfield 12, 3) := by decide +kernel
theorem dX7_set_64 : decode cX7_set 64 = .ok (.getfield 102, 3) := by decide +kernel
theorem dX7_set_67 : decode cX7_set 67 = .ok (.ireturn, 1) := by decide +kernel
theorem dX7_set_68 : decode cX7_set 68 = .ok (.aload_n 0, 1) := by decide +kernel
theorem dX7_set_69 : decode cX7_set 69 = .ok (.getfield 12, 3) := by decide +kernel
theorem dX7_set_72 : decode cX7_set 72 = .ok (.getfield 141, 3) := by decide +kernel
theorem dX7_set_75 : decode cX7_set 75 = .ok (.ireturn, 1) := by decide +kernel
theorem dX7_set_76 : decode cX7_set 76 = .ok (.aload_n 0, 1) := by decide +kernel
theorem dX7_set_77 : decode cX7_set 77 = .ok (.getfield 12, 3) := by decide +kernel
theorem dX7_set_80 : decode cX7_set 80 = .ok (.getfield 159, 3) := by decide +kernel
theorem dX7_set_83 : decode cX7_set 83 = .ok (.ireturn, 1) := by decide +kernel
theorem dX7_digest_0 : decode cX7_digest 0 = .ok (.aload_n 0, 1) := by decide +kernel
theorem dX7_digest_1 : decode cX7_digest 1 = .ok (.getfield 12, 3) := by decide +kernel
theorem dX7_digest_4 : decode cX7_digest 4 = .ok (.iload_n 1, 1) := by decide +kernel
theorem dX7_digest_5 : decode cX7_digest 5 = .ok (.invokevirtual 50, 3) := by decide +kernel
theorem dX7_digest_8 : decode cX7_digest 8 = .ok (.ifCond .ne 5, 3) := by decide +kernel
theorem dX7_digest_11 : decode cX7_digest 11 = .ok (.iconst (-1), 1) := by decide +kernel
theorem dX7_digest_12 : decode cX7_digest 12 = .ok (.ireturn, 1) := by decide +kernel
theorem dX7_digest_13 : decode cX7_digest 13 = .ok (.aload_n 0, 1) := by decide +kernel
theorem dX7_digest_14 : decode cX7_digest 14 = .ok (.getfield 12, 3) := by decide +kernel
theorem dX7_digest_17 : decode cX7_digest 17 = .ok (.iload_n 1, 1) := by decide +kernel
theorem dX7_digest_18 : decode cX7_digest 18 = .ok (.invokevirtual 162, 3) := by decide +kernel
theorem dX7_digest_21 : decode cX7_digest 21 = .ok (.ifCond .ne 6, 3) := by decide +kernel
theorem dX7_digest_24 : decode cX7_digest 24 = .ok (.bipush (-9), 2) := by decide +kernel
theorem dX7_digest_26 : decode cX7_digest 26 = .ok (.ireturn, 1) := by decide +kernel
theorem dX7_digest_27 : decode cX7_digest 27 = .ok (.aload_n 0, 1) := by decide +kernel
theorem dX7_digest_28 : decode cX7_digest 28 = .ok (.getfield 12, 3) := by decide +kernel
theorem dX7_digest_31 : decode cX7_digest 31 = .ok (.getfield 54, 3) := by decide +kernel
theorem dX7_digest_34 : decode cX7_digest 34 = .ok (.iload_n 1, 1) := by decide +kernel
theorem dX7_digest_35 : decode cX7_digest 35 = .ok (.aaload, 1) := by decide +kernel
theorem dX7_digest_36 : decode cX7_digest 36 = .ok (.getfield 165, 3) := by decide +kernel
theorem dX7_digest_39 : decode cX7_digest 39 = .ok (.ldc 116, 2) := by decide +kernel
theorem dX7_digest_41 : decode cX7_digest 41 = .ok (.iand, 1) := by decide +kernel
theorem dX7_digest_42 : decode cX7_digest 42 = .ok (.ireturn, 1) := by decide +kernel
theorem dX7_share_0 : decode cX7_share 0 = .ok (.aload_n 0, 1) := by decide +kernel
theorem dX7_share_1 : decode cX7_share 1 = .ok (.getfield 12, 3) := by decide +kernel
theorem dX7_share_4 : decode cX7_share 4 = .ok (.iload_n 1, 1) := by decide +kernel
theorem dX7_share_5 : decode cX7_share 5 = .ok (.invokevirtual 50, 3) := by decide +kernel
theorem dX7_share_8 : decode cX7_share 8 = .ok (.ifCond .eq 14, 3) := by decide +kernel
theorem dX7_share_11 : decode cX7_share 11 = .ok (.aload_n 0, 1) := by decide +kernel
theorem dX7_share_12 : decode cX7_share 12 = .ok (.getfield 12, 3) := by decide +kernel
theorem dX7_share_15 : decode cX7_share 15 = .ok (.iload_n 2, 1) := by decide +kernel
theorem dX7_share_16 : decode cX7_share 16 = .ok (.invokevirtual 50, 3) := by decide +kernel
theorem dX7_share_19 : decode cX7_share 19 = .ok (.ifCond .ne 5, 3) := by decide +kernel
theorem dX7_share_22 : decode cX7_share 22 = .ok (.iconst (-1), 1) := by decide +kernel
theorem dX7_share_23 : decode cX7_share 23 = .ok (.ireturn, 1) := by decide +kernel
theorem dX7_share_24 : decode cX7_share 24 = .ok (.aload_n 0, 1) := by decide +kernel
theorem dX7_share_25 : decode cX7_share 25 = .ok (.getfield 12, 3) := by decide +kernel
theorem dX7_share_28 : decode cX7_share 28 = .ok (.iload_n 1, 1) := by decide +kernel
theorem dX7_share_29 : decode cX7_share 29 = .ok (.iload_n 2, 1) := by decide +kernel
theorem dX7_share_30 : decode cX7_share 30 = .ok (.invokevirtual 117, 3) := by decide +kernel
theorem dX7_share_33 : decode cX7_share 33 = .ok (.ifCond .ne 6, 3) := by decide +kernel
theorem dX7_share_36 : decode cX7_share 36 = .ok (.bipush (-9), 2) := by decide +kernel
theorem dX7_share_38 : decode cX7_share 38 = .ok (.ireturn, 1) := by decide +kernel
theorem dX7_share_39 : decode cX7_share 39 = .ok (.aload_n 0, 1) := by decide +kernel
theorem dX7_share_40 : decode cX7_share 40 = .ok (.getfield 12, 3) := by decide +kernel
theorem dX7_share_43 : decode cX7_share 43 = .ok (.getfield 54, 3) := by decide +kernel
theorem dX7_share_46 : decode cX7_share 46 = .ok (.iload_n 1, 1) := by decide +kernel
theorem dX7_share_47 : decode cX7_share 47 = .ok (.aaload, 1) := by decide +kernel
theorem dX7_share_48 : decode cX7_share 48 = .ok (.getfield 123, 3) := by decide +kernel
theorem dX7_share_51 : decode cX7_share 51 = .ok (.iload_n 2, 1) := by decide +kernel
theorem dX7_share_52 : decode cX7_share 52 = .ok (.iaload, 1) := by decide +kernel
theorem dX7_share_53 : decode cX7_share 53 = .ok (.ireturn, 1) := by decide +kernel
theorem dX7_isRight_0 : decode cX7_isRight 0 = .ok (.aload_n 0, 1) := by decide +kernel
theorem dX7_isRight_1 : decode cX7_isRight 1 = .ok (.getfield 12, 3) := by decide +kernel
theorem dX7_isRight_4 : decode cX7_isRight 4 = .ok (.iload_n 1, 1) := by decide +kernel
theorem dX7_isRight_5 : decode cX7_isRight 5 = .ok (.invokevirtual 50, 3) := by decide +kernel
theorem dX7_isRight_8 : decode cX7_isRight 8 = .ok (.ifCond .eq 14, 3) := by decide +kernel
theorem dX7_isRight_11 : decode cX7_isRight 11 = .ok (.aload_n 0, 1) := by decide +kernel
theorem dX7_isRight_12 : decode cX7_isRight 12 = .ok (.getfield 12, 3) := by decide +kernel
theorem dX7_isRight_15 : decode cX7_isRight 15 = .ok (.iload_n 2, 1) := by decide +kernel
theorem dX7_isRight_16 : decode cX7_isRight 16 = .ok (.invokevirtual 50, 3) := by decide +kernel
theorem dX7_isRight_19 : decode cX7_isRight 19 = .ok (.ifCond .ne 5, 3) := by decide +kernel
theorem dX7_isRight_22 : decode cX7_isRight 22 = .ok (.iconst (-1), 1) := by decide +kernel
theorem dX7_isRight_23 : decode cX7_isRight 23 = .ok (.ireturn, 1) := by decide +kernel
theorem dX7_isRight_24 : decode cX7_isRight 24 = .ok (.aload_n 0, 1) := by decide +kernel
theorem dX7_isRight_25 : decode cX7_isRight 25 = .ok (.getfield 12, 3) := by decide +kernel
theorem dX7_isRight_28 : decode cX7_isRight 28 = .ok (.iload_n 1, 1) := by decide +kernel
theorem dX7_isRight_29 : decode cX7_isRight 29 = .ok (.iload_n 2, 1) := by decide +kernel
theorem dX7_isRight_30 : decode cX7_isRight 30 = .ok (.invokevirtual 117, 3) := by decide +kernel
theorem dX7_isRight_33 : decode cX7_isRight 33 = .ok (.ifCond .ne 6, 3) := by decide +kernel
theorem dX7_isRight_36 : decode cX7_isRight 36 = .ok (.bipush (-9), 2) := by decide +kernel
theorem dX7_isRight_38 : decode cX7_isRight 38 = .ok (.ireturn, 1) := by decide +kernel
theorem dX7_isRight_39 : decode cX7_isRight 39 = .ok (.aload_n 0, 1) := by decide +kernel
theorem dX7_isRight_40 : decode cX7_isRight 40 = .ok (.getfield 12, 3) := by decide +kernel
theorem dX7_isRight_43 : decode cX7_isRight 43 = .ok (.getfield 54, 3) := by decide +kernel
theorem dX7_isRight_46 : decode cX7_isRight 46 = .ok (.iload_n 1, 1) := by decide +kernel
theorem dX7_isRight_47 : decode cX7_isRight 47 = .ok (.aaload, 1) := by decide +kernel
theorem dX7_isRight_48 : decode cX7_isRight 48 = .ok (.getfield 127, 3) := by decide +kernel
theorem dX7_isRight_51 : decode cX7_isRight 51 = .ok (.iload_n 2, 1) := by decide +kernel
theorem dX7_isRight_52 : decode cX7_isRight 52 = .ok (.invokestatic 98, 3) := by decide +kernel
theorem dX7_isRight_55 : decode cX7_isRight 55 = .ok (.ifCond .eq 7, 3) := by decide +kernel
theorem dX7_isRight_58 : decode cX7_isRight 58 = .ok (.iconst 1, 1) := by decide +kernel
theorem dX7_isRight_59 : decode cX7_isRight 59 = .ok (.goto 4, 3) := by decide +kernel
theorem dX7_isRight_62 : decode cX7_isRight 62 = .ok (.iconst 0, 1) := by decide +kernel
theorem dX7_isRight_63 : decode cX7_isRight 63 = .ok (.ireturn, 1) := by decide +kernel
theorem dX7_check_0 : decode cX7_check 0 = .ok (.aload_n 0, 1) := by decide +kernel
theorem dX7_check_1 : decode cX7_check 1 = .ok (.getfield 12, 3) := by decide +kernel
theorem dX7_check_4 : decode cX7_check 4 = .ok (.iload_n 1, 1) := by decide +kernel
theorem dX7_check_5 : decode cX7_check 5 = .ok (.invokevirtual 50, 3) := by decide +kernel
theorem dX7_check_8 : decode cX7_check 8 = .ok (.ifCond .eq 7, 3) := by decide +kernel
theorem dX7_check_11 : decode cX7_check 11 = .ok (.iload_n 2, 1) := by decide +kernel
theorem dX7_check_12 : decode cX7_check 12 = .ok (.ifCond .ge 5, 3) := by decide +kernel
theorem dX7_check_15 : decode cX7_check 15 = .ok (.iconst (-1), 1) := by decide +kernel
theorem dX7_check_16 : decode cX7_check 16 = .ok (.ireturn, 1) := by decide +kernel
theorem dX7_check_17 : decode cX7_check 17 = .ok (.aload_n 0, 1) := by decide +kernel
theorem dX7_check_18 : decode cX7_check 18 = .ok (.getfield 12, 3) := by decide +kernel
theorem dX7_check_21 : decode cX7_check 21 = .ok (.iload_n 1, 1) := by decide +kernel
theorem dX7_check_22 : decode cX7_check 22 = .ok (.invokevirtual 168, 3) := by decide +kernel
theorem dX7_check_25 : decode cX7_check 25 = .ok (.ifCond .eq 20, 3) := by decide +kernel
theorem dX7_check_28 : decode cX7_check 28 = .ok (.iload_n 2, 1) := by decide +kernel
theorem dX7_check_29 : decode cX7_check 29 = .ok (.aload_n 0, 1) := by decide +kernel
theorem dX7_check_30 : decode cX7_check 30 = .ok (.getfield 12, 3) := by decide +kernel
theorem dX7_check_33 : decode cX7_check 33 = .ok (.getfield 70, 3) := by decide +kernel
theorem dX7_check_36 : decode cX7_check 36 = .ok (.if_icmp .ge 9, 3) := by decide +kernel
theorem dX7_check_39 : decode cX7_check 39 = .ok (.iload_n 2, 1) := by decide +kernel
theorem dX7_check_40 : decode cX7_check 40 = .ok (.bipush 8, 2) := by decide +kernel
theorem dX7_check_42 : decode cX7_check 42 = .ok (.if_icmp .lt 6, 3) := by decide +kernel
theorem dX7_check_45 : decode cX7_check 45 = .ok (.bipush (-9), 2) := by decide +kernel
theorem dX7_check_47 : decode cX7_check 47 = .ok (.ireturn, 1) := by decide +kernel
theorem dX7_check_48 : decode cX7_check 48 = .ok (.aload_n 0, 1) := by decide +kernel
theorem dX7_check_49 : decode cX7_check 49 = .ok (.getfield 12, 3) := by decide +kernel
theorem dX7_check_52 : decode cX7_check 52 = .ok (.getfield 54, 3) := by decide +kernel
theorem dX7_check_55 : decode cX7_check 55 = .ok (.iload_n 1, 1) := by decide +kernel
theorem dX7_check_56 : decode cX7_check 56 = .ok (.aaload, 1) := by decide +kernel
theorem dX7_check_57 : decode cX7_check 57 = .ok (.getfield 171, 3) := by decide +kernel
theorem dX7_check_60 : decode cX7_check 60 = .ok (.iload_n 2, 1) := by decide +kernel
theorem dX7_check_61 : decode cX7_check 61 = .ok (.iaload, 1) := by decide +kernel
theorem dX7_check_62 : decode cX7_check 62 = .ok (.ireturn, 1) := by decide +kernel
theorem dX7_recover_0 : decode cX7_recover 0 = .ok (.aload_n 0, 1) := by decide +kernel
theorem dX7_recover_1 : decode cX7_recover 1 = .ok (.getfield 12, 3) := by decide +kernel
theorem dX7_recover_4 : decode cX7_recover 4 = .ok (.iload_n 1, 1) := by decide +kernel
theorem dX7_recover_5 : decode cX7_recover 5 = .ok (.invokevirtual 50, 3) := by decide +kernel
theorem dX7_recover_8 : decode cX7_recover 8 = .ok (.ifCond .eq 14, 3) := by decide +kernel
theorem dX7_recover_11 : decode cX7_recover 11 = .ok (.iload_n 2, 1) := by decide +kernel
theorem dX7_recover_12 : decode cX7_recover 12 = .ok (.iconst 0, 1) := by decide +kernel
theorem dX7_recover_13 : decode cX7_recover 13 = .ok (.sipush 255, 3) := by decide +kernel
theorem dX7_recover_16 : decode cX7_recover 16 = .ok (.invokestatic 31, 3) := by decide +kernel
theorem dX7_recover_19 : decode cX7_recover 19 = .ok (.ifCond .ne 5, 3) := by decide +kernel
theorem dX7_recover_22 : decode cX7_recover 22 = .ok (.iconst (-1), 1) := by decide +kernel
theorem dX7_recover_23 : decode cX7_recover 23 = .ok (.ireturn, 1) := by decide +kernel
theorem dX7_recover_24 : decode cX7_recover 24 = .ok (.iload_n 2, 1) := by decide +kernel
theorem dX7_recover_25 : decode cX7_recover 25 = .ok (.aload_n 0, 1) := by decide +kernel
theorem dX7_recover_26 : decode cX7_recover 26 = .ok (.getfield 12, 3) := by decide +kernel
theorem dX7_recover_29 : decode cX7_recover 29 = .ok (.getfield 95, 3) := by decide +kernel
theorem dX7_recover_32 : decode cX7_recover 32 = .ok (.iand, 1) := by decide +kernel
theorem dX7_recover_33 : decode cX7_recover 33 = .ok (.istore_n 3, 1) := by decide +kernel
theorem dX7_recover_34 : decode cX7_recover 34 = .ok (.aload_n 0, 1) := by decide +kernel
theorem dX7_recover_35 : decode cX7_recover 35 = .ok (.getfield 12, 3) := by decide +kernel
theorem dX7_recover_38 : decode cX7_recover 38 = .ok (.iload_n 1, 1) := by decide +kernel
theorem dX7_recover_39 : decode cX7_recover 39 = .ok (.invokevirtual 168, 3) := by decide +kernel
theorem dX7_recover_42 : decode cX7_recover 42 = .ok (.ifCond .eq 17, 3) := by decide +kernel
theorem dX7_recover_45 : decode cX7_recover 45 = .ok (.iload_n 3, 1) := by decide +kernel
theorem dX7_recover_46 : decode cX7_recover 46 = .ok (.invokestatic 174, 3) := by decide +kernel
theorem dX7_recover_49 : decode cX7_recover 49 = .ok (.aload_n 0, 1) := by decide +kernel
theorem dX7_recover_50 : decode cX7_recover 50 = .ok (.getfield 12, 3) := by decide +kernel
theorem dX7_recover_53 : decode cX7_recover 53 = .ok (.getfield 70, 3) := by decide +kernel
theorem dX7_recover_56 : decode cX7_recover 56 = .ok (.if_icmp .ge 6, 3) := by decide +kernel
theorem dX7_recover_59 : decode cX7_recover 59 = .ok (.bipush (-9), 2) := by decide +kernel
theorem dX7_recover_61 : decode cX7_recover 61 = .ok (.ireturn, 1) := by decide +kernel
theorem dX7_recover_62 : decode cX7_recover 62 = .ok (.aload_n 0, 1) := by decide +kernel
theorem dX7_recover_63 : decode cX7_recover 63 = .ok (.getfield 12, 3) := by decide +kernel
theorem dX7_recover_66 : decode cX7_recover 66 = .ok (.getfield 54, 3) := by decide +kernel
theorem dX7_recover_69 : decode cX7_recover 69 = .ok (.iload_n 1, 1) := by decide +kernel
theorem dX7_recover_70 : decode cX7_recover 70 = .ok (.aaload, 1) := by decide +kernel
theorem dX7_recover_71 : decode cX7_recover 71 = .ok (.iload_n 3, 1) := by decide +kernel
theorem dX7_recover_72 : decode cX7_recover 72 = .ok (.aload_n 0, 1) := by decide +kernel
theorem dX7_recover_73 : decode cX7_recover 73 = .ok (.getfield 12, 3) := by decide +kernel
theorem dX7_recover_76 : decode cX7_recover 76 = .ok (.getfield 70, 3) := by decide +kernel
theorem dX7_recover_79 : decode cX7_recover 79 = .ok (.invokestatic 179, 3) := by decide +kernel
theorem dX7_recover_82 : decode cX7_recover 82 = .ok (.invokevirtual 182, 3) := by decide +kernel
theorem dX7_recover_85 : decode cX7_recover 85 = .ok (.ireturn, 1) := by decide +kernel
theorem dX7_lock_0 : decode cX7_lock 0 = .ok (.aload_n 0, 1) := by decide +kernel
theorem dX7_lock_1 : decode cX7_lock 1 = .ok (.getfield 12, 3) := by decide +kernel
theorem dX7_lock_4 : decode cX7_lock 4 = .ok (.iload_n 1, 1) := by decide +kernel
theorem dX7_lock_5 : decode cX7_lock 5 = .ok (.invokevirtual 50, 3) := by decide +kernel
theorem dX7_lock_8 : decode cX7_lock 8 = .ok (.ifCond .eq 12, 3) := by decide +kernel
theorem dX7_lock_11 : decode cX7_lock 11 = .ok (.iload_n 2, 1) := by decide +kernel
theorem dX7_lock_12 : decode cX7_lock 12 = .ok (.iconst 0, 1) := by decide +kernel
theorem dX7_lock_13 : decode cX7_lock 13 = .ok (.iconst 1, 1) := by decide +kernel
theorem dX7_lock_14 : decode cX7_lock 14 = .ok (.invokestatic 31, 3) := by decide +kernel
theorem dX7_lock_17 : decode cX7_lock 17 = .ok (.ifCond .ne 5, 3) := by decide +kernel
theorem dX7_lock_20 : decode cX7_lock 20 = .ok (.iconst (-1), 1) := by decide +kernel
theorem dX7_lock_21 : decode cX7_lock 21 = .ok (.ireturn, 1) := by decide +kernel
theorem dX7_lock_22 : decode cX7_lock 22 = .ok (.aload_n 0, 1) := by decide +kernel
theorem dX7_lock_23 : decode cX7_lock 23 = .ok (.getfield 12, 3) := by decide +kernel
theorem dX7_lock_26 : decode cX7_lock 26 = .ok (.getfield 67, 3) := by decide +kernel
theorem dX7_lock_29 : decode cX7_lock 29 = .ok (.iconst 2, 1) := by decide +kernel
theorem dX7_lock_30 : decode cX7_lock 30 = .ok (.if_icmp .ne 14, 3) := by decide +kernel
theorem dX7_lock_33 : decode cX7_lock 33 = .ok (.aload_n 0, 1) := by decide +kernel
theorem dX7_lock_34 : decode cX7_lock 34 = .ok (.getfield 12, 3) := by decide +kernel
theorem dX7_lock_37 : decode cX7_lock 37 = .ok (.iload_n 1, 1) := by decide +kernel
theorem dX7_lock_38 : decode cX7_lock 38 = .ok (.invokevirtual 162, 3) := by decide +kernel
theorem dX7_lock_41 : decode cX7_lock 41 = .ok (.ifCond .ne 6, 3) := by decide +kernel
theorem dX7_lock_44 : decode cX7_lock 44 = .ok (.bipush (-9), 2) := by decide +kernel
theorem dX7_lock_46 : decode cX7_lock 46 = .ok (.ireturn, 1) := by decide +kernel
theorem dX7_lock_47 : decode cX7_lock 47 = .ok (.iload_n 2, 1) := by decide +kernel
theorem dX7_lock_48 : decode cX7_lock 48 = .ok (.ifCond .ne 18, 3) := by decide +kernel
theorem dX7_lock_51 : decode cX7_lock 51 = .ok (.aload_n 0, 1) := by decide +kernel
theorem dX7_lock_52 : decode cX7_lock 52 = .ok (.getfield 12, 3) := by decide +kernel
theorem dX7_lock_55 : decode cX7_lock 55 = .ok (.getfield 54, 3) := by decide +kernel
theorem dX7_lock_58 : decode cX7_lock 58 = .ok (.iload_n 1, 1) := by decide +kernel
theorem dX7_lock_59 : decode cX7_lock 59 = .ok (.aaload, 1) := by decide +kernel
theorem dX7_lock_60 : decode cX7_lock 60 = .ok (.getfield 185, 3) := by decide +kernel
theorem dX7_lock_63 : decode cX7_lock 63 = .ok (.goto 15, 3) := by decide +kernel
theorem dX7_lock_66 : decode cX7_lock 66 = .ok (.aload_n 0, 1) := by decide +kernel
theorem dX7_lock_67 : decode cX7_lock 67 = .ok (.getfield 12, 3) := by decide +kernel
theorem dX7_lock_70 : decode cX7_lock 70 = .ok (.getfield 54, 3) := by decide +kernel
theorem dX7_lock_73 : decode cX7_lock 73 = .ok (.iload_n 1, 1) := by decide +kernel
theorem dX7_lock_74 : decode cX7_lock 74 = .ok (.aaload, 1) := by decide +kernel
theorem dX7_lock_75 : decode cX7_lock 75 = .ok (.getfield 188, 3) := by decide +kernel
theorem dX7_lock_78 : decode cX7_lock 78 = .ok (.ireturn, 1) := by decide +kernel
theorem dX7_results_0 : decode cX7_results 0 = .ok (.iload_n 1, 1) := by decide +kernel
theorem dX7_results_1 : decode cX7_results 1 = .ok (.iconst 0, 1) := by decide +kernel
theorem dX7_results_2 : decode cX7_results 2 = .ok (.sipush 255, 3) := by decide +kernel
theorem dX7_results_5 : decode cX7_results 5 = .ok (.invokestatic 31, 3) := by decide +kernel
theorem dX7_results_8 : decode cX7_results 8 = .ok (.ifCond .ne 5, 3) := by decide +kernel
theorem dX7_results_11 : decode cX7_results 11 = .ok (.iconst (-1), 1) := by decide +kernel
theorem dX7_results_12 : decode cX7_results 12 = .ok (.ireturn, 1) := by decide +kernel
theorem dX7_results_13 : decode cX7_results 13 = .ok (.aload_n 0, 1) := by decide +kernel
theorem dX7_results_14 : decode cX7_results 14 = .ok (.getfield 12, 3) := by decide +kernel
theorem dX7_results_17 : decode cX7_results 17 = .ok (.iload_n 1, 1) := by decide +kernel
theorem dX7_results_18 : decode cX7_results 18 = .ok (.invokevirtual 191, 3) := by decide +kernel
theorem dX7_results_21 : decode cX7_results 21 = .ok (.ifCond .ne 6, 3) := by decide +kernel
theorem dX7_results_24 : decode cX7_results 24 = .ok (.bipush (-2), 2) := by decide +kernel
theorem dX7_results_26 : decode cX7_results 26 = .ok (.ireturn, 1) := by decide +kernel
theorem dX7_results_27 : decode cX7_results 27 = .ok (.aload_n 0, 1) := by decide +kernel
theorem dX7_results_28 : decode cX7_results 28 = .ok (.getfield 26, 3) := by decide +kernel
theorem dX7_results_31 : decode cX7_results 31 = .ok (.aload_n 0, 1) := by decide +kernel
theorem dX7_results_32 : decode cX7_results 32 = .ok (.getfield 12, 3) := by decide +kernel
theorem dX7_results_35 : decode cX7_results 35 = .ok (.iload_n 1, 1) := by decide +kernel
theorem dX7_results_36 : decode cX7_results 36 = .ok (.invokevirtual 194, 3) := by decide +kernel
theorem dX7_results_39 : decode cX7_results 39 = .ok (.aload_n 0, 1) := by decide +kernel
theorem dX7_results_40 : decode cX7_results 40 = .ok (.getfield 26, 3) := by decide +kernel
theorem dX7_results_43 : decode cX7_results 43 = .ok (.aload_n 0, 1) := by decide +kernel
theorem dX7_results_44 : decode cX7_results 44 = .ok (.getfield 12, 3) := by decide +kernel
theorem dX7_results_47 : decode cX7_results 47 = .ok (.invokevirtual 198, 3) := by decide +kernel
theorem dX7_results_50 : decode cX7_results 50 = .ok (.ireturn, 1) := by decide +kernel
theorem dX7_canForce_0 : decode cX7_canForce 0 = .ok (.iload_n 1, 1) := by decide +kernel
theorem dX7_canForce_1 : decode cX7_canForce 1 = .ok (.iconst 0, 1) := by decide +kernel
theorem dX7_canForce_2 : decode cX7_canForce 2 = .ok (.sipush 255, 3) := by decide +kernel
theorem dX7_canForce_5 : decode cX7_canForce 5 = .ok (.invokestatic 31, 3) := by decide +kernel
theorem dX7_canForce_8 : decode cX7_canForce 8 = .ok (.ifCond .eq 12, 3) := by decide +kernel
theorem dX7_canForce_11 : decode cX7_canForce 11 = .ok (.iload_n 2, 1) := by decide +kernel
theorem dX7_canForce_12 : decode cX7_canForce 12 = .ok (.iconst 0, 1) := by decide +kernel
theorem dX7_canForce_13 : decode cX7_canForce 13 = .ok (.iconst 1, 1) := by decide +kernel
theorem dX7_canForce_14 : decode cX7_canForce 14 = .ok (.invokestatic 31, 3) := by decide +kernel
theorem dX7_canForce_17 : decode cX7_canForce 17 = .ok (.ifCond .ne 5, 3) := by decide +kernel
theorem dX7_canForce_20 : decode cX7_canForce 20 = .ok (.iconst (-1), 1) := by decide +kernel
theorem dX7_canForce_21 : decode cX7_canForce 21 = .ok (.ireturn, 1) := by decide +kernel
theorem dX7_canForce_22 : decode cX7_canForce 22 = .ok (.aload_n 0, 1) := by decide +kernel
theorem dX7_canForce_23 : decode cX7_canForce 23 = .ok (.getfield 12, 3) := by decide +kernel
theorem dX7_canForce_26 : decode cX7_canForce 26 = .ok (.iload_n 1, 1) := by decide +kernel
theorem dX7_canForce_27 : decode cX7_canForce 27 = .ok (.invokevirtual 191, 3) := by decide +kernel
theorem dX7_canForce_30 : decode cX7_canForce 30 = .ok (.ifCond .ne 6, 3) := by decide +kernel
theorem dX7_canForce_33 : decode cX7_canForce 33 = .ok (.bipush (-2), 2) := by decide +kernel
theorem dX7_canForce_35 : decode cX7_canForce 35 = .ok (.ireturn, 1) := by decide +kernel
theorem dX7_canForce_36 : decode cX7_canForce 36 = .ok (.aload_n 0, 1) := by decide +kernel
theorem dX7_canForce_37 : decode cX7_canForce 37 = .ok (.getfield 26, 3) := by decide +kernel
theorem dX7_canForce_40 : decode cX7_canForce 40 = .ok (.aload_n 0, 1) := by decide +kernel
theorem dX7_canForce_41 : decode cX7_canForce 41 = .ok (.getfield 12, 3) := by decide +kernel
theorem dX7_canForce_44 : decode cX7_canForce 44 = .ok (.iload_n 1, 1) := by decide +kernel
theorem dX7_canForce_45 : decode cX7_canForce 45 = .ok (.invokevirtual 194, 3) := by decide +kernel
theorem dX7_canForce_48 : decode cX7_canForce 48 = .ok (.aload_n 0, 1) := by decide +kernel
theorem dX7_canForce_49 : decode cX7_canForce 49 = .ok (.getfield 26, 3) := by decide +kernel
theorem dX7_canForce_52 : decode cX7_canForce 52 = .ok (.aload_n 0, 1) := by decide +kernel
theorem dX7_canForce_53 : decode cX7_canForce 53 = .ok (.getfield 12, 3) := by decide +kernel
theorem dX7_canForce_56 : decode cX7_canForce 56 = .ok (.aload_n 0, 1) := by decide +kernel
theorem dX7_canForce_57 : decode cX7_canForce 57 = .ok (.getfield 12, 3) := by decide +kernel
theorem dX7_canForce_60 : decode cX7_canForce 60 = .ok (.getfield 144, 3) := by decide +kernel
theorem dX7_canForce_63 : decode cX7_canForce 63 = .ok (.iload_n 2, 1) := by decide +kernel
theorem dX7_canForce_64 : decode cX7_canForce 64 = .ok (.invokevirtual 202, 3) := by decide +kernel
theorem dX7_canForce_67 : decode cX7_canForce 67 = .ok (.ifCond .eq 7, 3) := by decide +kernel
theorem dX7_canForce_70 : decode cX7_canForce 70 = .ok (.iconst 1, 1) := by decide +kernel
theorem dX7_canForce_71 : decode cX7_canForce 71 = .ok (.goto 4, 3) := by decide +kernel
theorem dX7_canForce_74 : decode cX7_canForce 74 = .ok (.iconst 0, 1) := by decide +kernel
theorem dX7_canForce_75 : decode cX7_canForce 75 = .ok (.ireturn, 1) := by decide +kernel
theorem dX7_bias_0 : decode cX7_bias 0 = .ok (.iload_n 1, 1) := by decide +kernel
theorem dX7_bias_1 : decode cX7_bias 1 = .ok (.iconst 0, 1) := by decide +kernel
theorem dX7_bias_2 : decode cX7_bias 2 = .ok (.sipush 255, 3) := by decide +kernel
theorem dX7_bias_5 : decode cX7_bias 5 = .ok (.invokestatic 31, 3) := by decide +kernel
theorem dX7_bias_8 : decode cX7_bias 8 = .ok (.ifCond .eq 12, 3) := by decide +kernel
theorem dX7_bias_11 : decode cX7_bias 11 = .ok (.iload_n 2, 1) := by decide +kernel
theorem dX7_bias_12 : decode cX7_bias 12 = .ok (.iconst 1, 1) := by decide +kernel
theorem dX7_bias_13 : decode cX7_bias 13 = .ok (.iconst 4, 1) := by decide +kernel
theorem dX7_bias_14 : decode cX7_bias 14 = .ok (.invokestatic 31, 3) := by decide +kernel
theorem dX7_bias_17 : decode cX7_bias 17 = .ok (.ifCond .ne 5, 3) := by decide +kernel
theorem dX7_bias_20 : decode cX7_bias 20 = .ok (.iconst (-1), 1) := by decide +kernel
theorem dX7_bias_21 : decode cX7_bias 21 = .ok (.ireturn, 1) := by decide +kernel
theorem dX7_bias_22 : decode cX7_bias 22 = .ok (.aload_n 0, 1) := by decide +kernel
theorem dX7_bias_23 : decode cX7_bias 23 = .ok (.getfield 12, 3) := by decide +kernel
theorem dX7_bias_26 : decode cX7_bias 26 = .ok (.iload_n 1, 1) := by decide +kernel
theorem dX7_bias_27 : decode cX7_bias 27 = .ok (.invokevirtual 191, 3) := by decide +kernel
theorem dX7_bias_30 : decode cX7_bias 30 = .ok (.ifCond .ne 6, 3) := by decide +kernel
theorem dX7_bias_33 : decode cX7_bias 33 = .ok (.bipush (-2), 2) := by decide +kernel
theorem dX7_bias_35 : decode cX7_bias 35 = .ok (.ireturn, 1) := by decide +kernel
theorem dX7_bias_36 : decode cX7_bias 36 = .ok (.aload_n 0, 1) := by decide +kernel
theorem dX7_bias_37 : decode cX7_bias 37 = .ok (.getfield 12, 3) := by decide +kernel
theorem dX7_bias_40 : decode cX7_bias 40 = .ok (.getfield 95, 3) := by decide +kernel
theorem dX7_bias_43 : decode cX7_bias 43 = .ok (.iload_n 1, 1) := by decide +kernel
theorem dX7_bias_44 : decode cX7_bias 44 = .ok (.iconst (-1), 1) := by decide +kernel
theorem dX7_bias_45 : decode cX7_bias 45 = .ok (.ixor, 1) := by decide +kernel
theorem dX7_bias_46 : decode cX7_bias 46 = .ok (.iand, 1) := by decide +kernel
theorem dX7_bias_47 : decode cX7_bias 47 = .ok (.istore_n 3, 1) := by decide +kernel
theorem dX7_bias_48 : decode cX7_bias 48 = .ok (.iload_n 2, 1) := by decide +kernel
theorem dX7_bias_49 : decode cX7_bias 49 = .ok (.iload_n 3, 1) := by decide +kernel
theorem dX7_bias_50 : decode cX7_bias 50 = .ok (.invokestatic 174, 3) := by decide +kernel
theorem dX7_bias_53 : decode cX7_bias 53 = .ok (.imul, 1) := by decide +kernel
theorem dX7_bias_54 : decode cX7_bias 54 = .ok (.bipush 12, 2) := by decide +kernel
theorem dX7_bias_56 : decode cX7_bias 56 = .ok (.if_icmp .le 6, 3) := by decide +kernel
theorem dX7_bias_59 : decode cX7_bias 59 = .ok (.bipush (-3), 2) := by decide +kernel
theorem dX7_bias_61 : decode cX7_bias 61 = .ok (.ireturn, 1) := by decide +kernel
theorem dX7_bias_62 : decode cX7_bias 62 = .ok (.aload_n 0, 1) := by decide +kernel
theorem dX7_bias_63 : decode cX7_bias 63 = .ok (.getfield 26, 3) := by decide +kernel
theorem dX7_bias_66 : decode cX7_bias 66 = .ok (.aload_n 0, 1) := by decide +kernel
theorem dX7_bias_67 : decode cX7_bias 67 = .ok (.getfield 12, 3) := by decide +kernel
theorem dX7_bias_70 : decode cX7_bias 70 = .ok (.iload_n 1, 1) := by decide +kernel
theorem dX7_bias_71 : decode cX7_bias 71 = .ok (.invokevirtual 194, 3) := by decide +kernel
theorem dX7_bias_74 : decode cX7_bias 74 = .ok (.aload_n 0, 1) := by decide +kernel
theorem dX7_bias_75 : decode cX7_bias 75 = .ok (.getfield 26, 3) := by decide +kernel
theorem dX7_bias_78 : decode cX7_bias 78 = .ok (.aload_n 0, 1) := by decide +kernel
theorem dX7_bias_79 : decode cX7_bias 79 = .ok (.getfield 12, 3) := by decide +kernel
theorem dX7_bias_82 : decode cX7_bias 82 = .ok (.iload_n 3, 1) := by decide +kernel
theorem dX7_bias_83 : decode cX7_bias 83 = .ok (.iload_n 2, 1) := by decide +kernel
theorem dX7_bias_84 : decode cX7_bias 84 = .ok (.invokevirtual 206, 3) := by decide +kernel
theorem dX7_bias_87 : decode cX7_bias 87 = .ok (.ireturn, 1) := by decide +kernel
theorem dX7_slow_0 : decode cX7_slow 0 = .ok (.iload_n 1, 1) := by decide +kernel
theorem dX7_slow_1 : decode cX7_slow 1 = .ok (.iload_n 2, 1) := by decide +kernel
theorem dX7_slow_2 : decode cX7_slow 2 = .ok (.invokestatic 210, 3) := by decide +kernel
theorem dX7_slow_5 : decode cX7_slow 5 = .ok (.ifCond .ne 5, 3) := by decide +kernel
theorem dX7_slow_8 : decode cX7_slow 8 = .ok (.iconst (-1), 1) := by decide +kernel
theorem dX7_slow_9 : decode cX7_slow 9 = .ok (.ireturn, 1) := by decide +kernel
theorem dX7_slow_10 : decode cX7_slow 10 = .ok (.iload_n 1, 1) := by decide +kernel
theorem dX7_slow_11 : decode cX7_slow 11 = .ok (.iload_n 2, 1) := by decide +kernel
theorem dX7_slow_12 : decode cX7_slow 12 = .ok (.invokestatic 213, 3) := by decide +kernel
theorem dX7_slow_15 : decode cX7_slow 15 = .ok (.ireturn, 1) := by decide +kernel
theorem dX7_quick_0 : decode cX7_quick 0 = .ok (.iload_n 1, 1) := by decide +kernel
theorem dX7_quick_1 : decode cX7_quick 1 = .ok (.iconst 2, 1) := by decide +kernel
theorem dX7_quick_2 : decode cX7_quick 2 = .ok (.sipush 7906, 3) := by decide +kernel
theorem dX7_quick_5 : decode cX7_quick 5 = .ok (.invokestatic 31, 3) := by decide +kernel
theorem dX7_quick_8 : decode cX7_quick 8 = .ok (.ifCond .eq 13, 3) := by decide +kernel
theorem dX7_quick_11 : decode cX7_quick 11 = .ok (.iload_n 2, 1) := by decide +kernel
theorem dX7_quick_12 : decode cX7_quick 12 = .ok (.iconst 0, 1) := by decide +kernel
theorem dX7_quick_13 : decode cX7_quick 13 = .ok (.ldc 218, 2) := by decide +kernel
theorem dX7_quick_15 : decode cX7_quick 15 = .ok (.invokestatic 31, 3) := by decide +kernel
theorem dX7_quick_18 : decode cX7_quick 18 = .ok (.ifCond .ne 5, 3) := by decide +kernel
theorem dX7_quick_21 : decode cX7_quick 21 = .ok (.iconst (-1), 1) := by decide +kernel
theorem dX7_quick_22 : decode cX7_quick 22 = .ok (.ireturn, 1) := by decide +kernel
theorem dX7_quick_23 : decode cX7_quick 23 = .ok (.iload_n 1, 1) := by decide +kernel
theorem dX7_quick_24 : decode cX7_quick 24 = .ok (.iload_n 2, 1) := by decide +kernel
theorem dX7_quick_25 : decode cX7_quick 25 = .ok (.invokestatic 219, 3) := by decide +kernel
theorem dX7_quick_28 : decode cX7_quick 28 = .ok (.ireturn, 1) := by decide +kernel
theorem dX7_prime_0 : decode cX7_prime 0 = .ok (.iload_n 1, 1) := by decide +kernel
theorem dX7_prime_1 : decode cX7_prime 1 = .ok (.iload_n 2, 1) := by decide +kernel
theorem dX7_prime_2 : decode cX7_prime 2 = .ok (.invokestatic 210, 3) := by decide +kernel
theorem dX7_prime_5 : decode cX7_prime 5 = .ok (.ifCond .ne 5, 3) := by decide +kernel
theorem dX7_prime_8 : decode cX7_prime 8 = .ok (.iconst (-1), 1) := by decide +kernel
theorem dX7_prime_9 : decode cX7_prime 9 = .ok (.ireturn, 1) := by decide +kernel
theorem dX7_prime_10 : decode cX7_prime 10 = .ok (.iload_n 1, 1) := by decide +kernel
theorem dX7_prime_11 : decode cX7_prime 11 = .ok (.iload_n 1, 1) := by decide +kernel
theorem dX7_prime_12 : decode cX7_prime 12 = .ok (.iload_n 2, 1) := by decide +kernel
theorem dX7_prime_13 : decode cX7_prime 13 = .ok (.invokestatic 213, 3) := by decide +kernel
theorem dX7_prime_16 : decode cX7_prime 16 = .ok (.invokestatic 222, 3) := by decide +kernel
theorem dX7_prime_19 : decode cX7_prime 19 = .ok (.ireturn, 1) := by decide +kernel
theorem dX7_proof_0 : decode cX7_proof 0 = .ok (.iload_n 1, 1) := by decide +kernel
theorem dX7_proof_1 : decode cX7_proof 1 = .ok (.iload_n 2, 1) := by decide +kernel
theorem dX7_proof_2 : decode cX7_proof 2 = .ok (.invokestatic 210, 3) := by decide +kernel
theorem dX7_proof_5 : decode cX7_proof 5 = .ok (.ifCond .ne 5, 3) := by decide +kernel
theorem dX7_proof_8 : decode cX7_proof 8 = .ok (.iconst (-1), 1) := by decide +kernel
theorem dX7_proof_9 : decode cX7_proof 9 = .ok (.ireturn, 1) := by decide +kernel
theorem dX7_proof_10 : decode cX7_proof 10 = .ok (.iload_n 1, 1) := by decide +kernel
theorem dX7_proof_11 : decode cX7_proof 11 = .ok (.iload_n 2, 1) := by decide +kernel
theorem dX7_proof_12 : decode cX7_proof 12 = .ok (.iload_n 1, 1) := by decide +kernel
theorem dX7_proof_13 : decode cX7_proof 13 = .ok (.iload_n 1, 1) := by decide +kernel
theorem dX7_proof_14 : decode cX7_proof 14 = .ok (.iload_n 2, 1) := by decide +kernel
theorem dX7_proof_15 : decode cX7_proof 15 = .ok (.invokestatic 213, 3) := by decide +kernel
theorem dX7_proof_18 : decode cX7_proof 18 = .ok (.invokestatic 222, 3) := by decide +kernel
theorem dX7_proof_21 : decode cX7_proof 21 = .ok (.invokestatic 225, 3) := by decide +kernel
theorem dX7_proof_24 : decode cX7_proof 24 = .ok (.ireturn, 1) := by decide +kernel
theorem dX7_accepts_0 : decode cX7_accepts 0 = .ok (.iload_n 1, 1) := by decide +kernel
theorem dX7_accepts_1 : decode cX7_accepts 1 = .ok (.iconst 2, 1) := by decide +kernel
theorem dX7_accepts_2 : decode cX7_accepts 2 = .ok (.ldc 228, 2) := by decide +kernel
theorem dX7_accepts_4 : decode cX7_accepts 4 = .ok (.invokestatic 31, 3) := by decide +kernel
theorem dX7_accepts_7 : decode cX7_accepts 7 = .ok (.ifCond .eq 34, 3) := by decide +kernel
theorem dX7_accepts_10 : decode cX7_accepts 10 = .ok (.iload_n 2, 1) := by decide +kernel
theorem dX7_accepts_11 : decode cX7_accepts 11 = .ok (.iconst 0, 1) := by decide +kernel
theorem dX7_accepts_12 : decode cX7_accepts 12 = .ok (.ldc 218, 2) := by decide +kernel
theorem dX7_accepts_14 : decode cX7_accepts 14 = .ok (.invokestatic 31, 3) := by decide +kernel
theorem dX7_accepts_17 : decode cX7_accepts 17 = .ok (.ifCond .eq 24, 3) := by decide +kernel
theorem dX7_accepts_20 : decode cX7_accepts 20 = .ok (.iload_n 3, 1) := by decide +kernel
theorem dX7_accepts_21 : decode cX7_accepts 21 = .ok (.iconst 0, 1) := by decide +kernel
theorem dX7_accepts_22 : decode cX7_accepts 22 = .ok (.ldc 229, 2) := by decide +kernel
theorem dX7_accepts_24 : decode cX7_accepts 24 = .ok (.invokestatic 31, 3) := by decide +kernel
theorem dX7_accepts_27 : decode cX7_accepts 27 = .ok (.ifCond .eq 14, 3) := by decide +kernel
theorem dX7_accepts_30 : decode cX7_accepts 30 = .ok (.iload 4, 2) := by decide +kernel
theorem dX7_accepts_32 : decode cX7_accepts 32 = .ok (.iconst 0, 1) := by decide +kernel
theorem dX7_accepts_33 : decode cX7_accepts 33 = .ok (.ldc 229, 2) := by decide +kernel
theorem dX7_accepts_35 : decode cX7_accepts 35 = .ok (.invokestatic 31, 3) := by decide +kernel
theorem dX7_accepts_38 : decode cX7_accepts 38 = .ok (.ifCond .ne 5, 3) := by decide +kernel
theorem dX7_accepts_41 : decode cX7_accepts 41 = .ok (.iconst (-1), 1) := by decide +kernel
theorem dX7_accepts_42 : decode cX7_accepts 42 = .ok (.ireturn, 1) := by decide +kernel
theorem dX7_accepts_43 : decode cX7_accepts 43 = .ok (.iload_n 1, 1) := by decide +kernel
theorem dX7_accepts_44 : decode cX7_accepts 44 = .ok (.iload_n 2, 1) := by decide +kernel
theorem dX7_accepts_45 : decode cX7_accepts 45 = .ok (.iload_n 3, 1) := by decide +kernel
theorem dX7_accepts_46 : decode cX7_accepts 46 = .ok (.iload 4, 2) := by decide +kernel
theorem dX7_accepts_48 : decode cX7_accepts 48 = .ok (.invokestatic 230, 3) := by decide +kernel
theorem dX7_accepts_51 : decode cX7_accepts 51 = .ok (.ifCond .eq 7, 3) := by decide +kernel
theorem dX7_accepts_54 : decode cX7_accepts 54 = .ok (.iconst 1, 1) := by decide +kernel
theorem dX7_accepts_55 : decode cX7_accepts 55 = .ok (.goto 4, 3) := by decide +kernel
theorem dX7_accepts_58 : decode cX7_accepts 58 = .ok (.iconst 0, 1) := by decide +kernel
theorem dX7_accepts_59 : decode cX7_accepts 59 = .ok (.ireturn, 1) := by decide +kernel
theorem dX7_account_0 : decode cX7_account 0 = .ok (.aload_n 0, 1) := by decide +kernel
theorem dX7_account_1 : decode cX7_account 1 = .ok (.getfield 12, 3) := by decide +kernel
theorem dX7_account_4 : decode cX7_account 4 = .ok (.iload_n 1, 1) := by decide +kernel
theorem dX7_account_5 : decode cX7_account 5 = .ok (.invokevirtual 50, 3) := by decide +kernel
theorem dX7_account_8 : decode cX7_account 8 = .ok (.ifCond .eq 12, 3) := by decide +kernel
theorem dX7_account_11 : decode cX7_account 11 = .ok (.iload_n 2, 1) := by decide +kernel
theorem dX7_account_12 : decode cX7_account 12 = .ok (.iconst 0, 1) := by decide +kernel
theorem dX7_account_13 : decode cX7_account 13 = .ok (.iconst 4, 1) := by decide +kernel
theorem dX7_account_14 : decode cX7_account 14 = .ok (.invokestatic 31, 3) := by decide +kernel
theorem dX7_account_17 : decode cX7_account 17 = .ok (.ifCond .ne 5, 3) := by decide +kernel
theorem dX7_account_20 : decode cX7_account 20 = .ok (.iconst (-1), 1) := by decide +kernel
theorem dX7_account_21 : decode cX7_account 21 = .ok (.ireturn, 1) := by decide +kernel
theorem dX7_account_22 : decode cX7_account 22 = .ok (.aload_n 0, 1) := by decide +kernel
theorem dX7_account_23 : decode cX7_account 23 = .ok (.getfield 12, 3) := by decide +kernel
theorem dX7_account_26 : decode cX7_account 26 = .ok (.getfield 54, 3) := by decide +kernel
theorem dX7_account_29 : decode cX7_account 29 = .ok (.iload_n 1, 1) := by decide +kernel
theorem dX7_account_30 : decode cX7_account 30 = .ok (.aaload, 1) := by decide +kernel
theorem dX7_account_31 : decode cX7_account 31 = .ok (.astore_n 3, 1) := by decide +kernel
theorem dX7_account_32 : decode cX7_account 32 = .ok (.iload_n 2, 1) := by decide +kernel
theorem dX7_account_33 : decode cX7_account 33 = .ok (.tableswitch 51 0 3 #[31, 36, 41, 46], 31) := by decide +kernel
theorem dX7_account_64 : decode cX7_account 64 = .ok (.aload_n 3, 1) := by decide +kernel
theorem dX7_account_65 : decode cX7_account 65 = .ok (.getfield 234, 3) := by decide +kernel
theorem dX7_account_68 : decode cX7_account 68 = .ok (.ireturn, 1) := by decide +kernel
theorem dX7_account_69 : decode cX7_account 69 = .ok (.aload_n 3, 1) := by decide +kernel
theorem dX7_account_70 : decode cX7_account 70 = .ok (.getfield 237, 3) := by decide +kernel
theorem dX7_account_73 : decode cX7_account 73 = .ok (.ireturn, 1) := by decide +kernel
theorem dX7_account_74 : decode cX7_account 74 = .ok (.aload_n 3, 1) := by decide +kernel
theorem dX7_account_75 : decode cX7_account 75 = .ok (.getfield 240, 3) := by decide +kernel
theorem dX7_account_78 : decode cX7_account 78 = .ok (.ireturn, 1) := by decide +kernel
theorem dX7_account_79 : decode cX7_account 79 = .ok (.aload_n 3, 1) := by decide +kernel
theorem dX7_account_80 : decode cX7_account 80 = .ok (.getfield 243, 3) := by decide +kernel
theorem dX7_account_83 : decode cX7_account 83 = .ok (.ireturn, 1) := by decide +kernel
theorem dX7_account_84 : decode cX7_account 84 = .ok (.aload_n 3, 1) := by decide +kernel
theorem dX7_account_85 : decode cX7_account 85 = .ok (.getfield 58, 3) := by decide +kernel
theorem dX7_account_88 : decode cX7_account 88 = .ok (.ireturn, 1) := by decide +kernel
theorem dX7_pot_0 : decode cX7_pot 0 = .ok (.aload_n 0, 1) := by decide +kernel
theorem dX7_pot_1 : decode cX7_pot 1 = .ok (.getfield 12, 3) := by decide +kernel
theorem dX7_pot_4 : decode cX7_pot 4 = .ok (.getfield 246, 3) := by decide +kernel
theorem dX7_pot_7 : decode cX7_pot 7 = .ok (.ireturn, 1) := by decide +kernel
theorem dX7_rounds_0 : decode cX7_rounds 0 = .ok (.aload_n 0, 1) := by decide +kernel
theorem dX7_rounds_1 : decode cX7_rounds 1 = .ok (.getfield 12, 3) := by decide +kernel
theorem dX7_rounds_4 : decode cX7_rounds 4 = .ok (.getfield 86, 3) := by decide +kernel
theorem dX7_rounds_7 : decode cX7_rounds 7 = .ok (.getfield 90, 3) := by decide +kernel
theorem dX7_rounds_10 : decode cX7_rounds 10 = .ok (.ireturn, 1) := by decide +kernel
theorem dX7_past_0 : decode cX7_past 0 = .ok (.iload_n 1, 1) := by decide +kernel
theorem dX7_past_1 : decode cX7_past 1 = .ok (.ifCond .lt 12, 3) := by decide +kernel
theorem dX7_past_4 : decode cX7_past 4 = .ok (.iload_n 2, 1) := by decide +kernel
theorem dX7_past_5 : decode cX7_past 5 = .ok (.iconst 0, 1) := by decide +kernel
theorem dX7_past_6 : decode cX7_past 6 = .ok (.iconst 4, 1) := by decide +kernel
theorem dX7_past_7 : decode cX7_past 7 = .ok (.invokestatic 31, 3) := by decide +kernel
theorem dX7_past_10 : decode cX7_past 10 = .ok (.ifCond .ne 5, 3) := by decide +kernel
theorem dX7_past_13 : decode cX7_past 13 = .ok (.iconst (-1), 1) := by decide +kernel
theorem dX7_past_14 : decode cX7_past 14 = .ok (.ireturn, 1) := by decide +kernel
theorem dX7_past_15 : decode cX7_past 15 = .ok (.aload_n 0, 1) := by decide +kernel
theorem dX7_past_16 : decode cX7_past 16 = .ok (.getfield 12, 3) := by decide +kernel
theorem dX7_past_19 : decode cX7_past 19 = .ok (.getfield 86, 3) := by decide +kernel
theorem dX7_past_22 : decode cX7_past 22 = .ok (.iload_n 1, 1) := by decide +kernel
theorem dX7_past_23 : decode cX7_past 23 = .ok (.invokevirtual 249, 3) := by decide +kernel
theorem dX7_past_26 : decode cX7_past 26 = .ok (.ifCond .ne 6, 3) := by decide +kernel
theorem dX7_past_29 : decode cX7_past 29 = .ok (.bipush (-9), 2) := by decide +kernel
theorem dX7_past_31 : decode cX7_past 31 = .ok (.ireturn, 1) := by decide +kernel
theorem dX7_past_32 : decode cX7_past 32 = .ok (.aload_n 0, 1) := by decide +kernel
theorem dX7_past_33 : decode cX7_past 33 = .ok (.getfield 12, 3) := by decide +kernel
theorem dX7_past_36 : decode cX7_past 36 = .ok (.getfield 86, 3) := by decide +kernel
theorem dX7_past_39 : decode cX7_past 39 = .ok (.iload_n 1, 1) := by decide +kernel
theorem dX7_past_40 : decode cX7_past 40 = .ok (.iload_n 2, 1) := by decide +kernel
theorem dX7_past_41 : decode cX7_past 41 = .ok (.invokevirtual 252, 3) := by decide +kernel
theorem dX7_past_44 : decode cX7_past 44 = .ok (.ireturn, 1) := by decide +kernel
theorem dX7_output_0 : decode cX7_output 0 = .ok (.aload_n 0, 1) := by decide +kernel
theorem dX7_output_1 : decode cX7_output 1 = .ok (.getfield 12, 3) := by decide +kernel
theorem dX7_output_4 : decode cX7_output 4 = .ok (.getfield 86, 3) := by decide +kernel
theorem dX7_output_7 : decode cX7_output 7 = .ok (.iload_n 1, 1) := by decide +kernel
theorem dX7_output_8 : decode cX7_output 8 = .ok (.invokevirtual 249, 3) := by decide +kernel
theorem dX7_output_11 : decode cX7_output 11 = .ok (.ifCond .ne 5, 3) := by decide +kernel
theorem dX7_output_14 : decode cX7_output 14 = .ok (.iconst 0, 1) := by decide +kernel
theorem dX7_output_15 : decode cX7_output 15 = .ok (.ireturn, 1) := by decide +kernel
theorem dX7_output_16 : decode cX7_output 16 = .ok (.aload_n 0, 1) := by decide +kernel
theorem dX7_output_17 : decode cX7_output 17 = .ok (.getfield 12, 3) := by decide +kernel
theorem dX7_output_20 : decode cX7_output 20 = .ok (.getfield 86, 3) := by decide +kernel
theorem dX7_output_23 : decode cX7_output 23 = .ok (.iload_n 1, 1) := by decide +kernel
theorem dX7_output_24 : decode cX7_output 24 = .ok (.iconst 5, 1) := by decide +kernel
theorem dX7_output_25 : decode cX7_output 25 = .ok (.invokevirtual 252, 3) := by decide +kernel
theorem dX7_output_28 : decode cX7_output 28 = .ok (.ireturn, 1) := by decide +kernel
theorem dX7_coins_0 : decode cX7_coins 0 = .ok (.iload_n 1, 1) := by decide +kernel
theorem dX7_coins_1 : decode cX7_coins 1 = .ok (.iconst 0, 1) := by decide +kernel
theorem dX7_coins_2 : decode cX7_coins 2 = .ok (.iconst 1, 1) := by decide +kernel
theorem dX7_coins_3 : decode cX7_coins 3 = .ok (.invokestatic 31, 3) := by decide +kernel
theorem dX7_coins_6 : decode cX7_coins 6 = .ok (.ifCond .ne 5, 3) := by decide +kernel
theorem dX7_coins_9 : decode cX7_coins 9 = .ok (.iconst (-1), 1) := by decide +kernel
theorem dX7_coins_10 : decode cX7_coins 10 = .ok (.ireturn, 1) := by decide +kernel
theorem dX7_coins_11 : decode cX7_coins 11 = .ok (.iload_n 1, 1) := by decide +kernel
theorem dX7_coins_12 : decode cX7_coins 12 = .ok (.iconst 1, 1) := by decide +kernel
theorem dX7_coins_13 : decode cX7_coins 13 = .ok (.if_icmp .ne 16, 3) := by decide +kernel
theorem dX7_coins_16 : decode cX7_coins 16 = .ok (.aload_n 0, 1) := by decide +kernel
theorem dX7_coins_17 : decode cX7_coins 17 = .ok (.getfield 12, 3) := by decide +kernel
theorem dX7_coins_20 : decode cX7_coins 20 = .ok (.getfield 86, 3) := by decide +kernel
theorem dX7_coins_23 : decode cX7_coins 23 = .ok (.getfield 255, 3) := by decide +kernel
theorem dX7_coins_26 : decode cX7_coins 26 = .ok (.goto 13, 3) := by decide +kernel
theorem dX7_coins_29 : decode cX7_coins 29 = .ok (.aload_n 0, 1) := by decide +kernel
theorem dX7_coins_30 : decode cX7_coins 30 = .ok (.getfield 12, 3) := by decide +kernel
theorem dX7_coins_33 : decode cX7_coins 33 = .ok (.getfield 86, 3) := by decide +kernel
theorem dX7_coins_36 : decode cX7_coins 36 = .ok (.getfield 258, 3) := by decide +kernel
theorem dX7_coins_39 : decode cX7_coins 39 = .ok (.ireturn, 1) := by decide +kernel
theorem dX7_longestRun_0 : decode cX7_longestRun 0 = .ok (.aload_n 0, 1) := by decide +kernel
theorem dX7_longestRun_1 : decode cX7_longestRun 1 = .ok (.getfield 12, 3) := by decide +kernel
theorem dX7_longestRun_4 : decode cX7_longestRun 4 = .ok (.getfield 86, 3) := by decide +kernel
theorem dX7_longestRun_7 : decode cX7_longestRun 7 = .ok (.getfield 261, 3) := by decide +kernel
theorem dX7_longestRun_10 : decode cX7_longestRun 10 = .ok (.ireturn, 1) := by decide +kernel
theorem dX7_undo_0 : decode cX7_undo 0 = .ok (.aload_n 0, 1) := by decide +kernel
theorem dX7_undo_1 : decode cX7_undo 1 = .ok (.getfield 19, 3) := by decide +kernel
theorem dX7_undo_4 : decode cX7_undo 4 = .ok (.getfield 264, 3) := by decide +kernel
theorem dX7_undo_7 : decode cX7_undo 7 = .ok (.ifCond .ne 6, 3) := by decide +kernel
theorem dX7_undo_10 : decode cX7_undo 10 = .ok (.bipush (-2), 2) := by decide +kernel
theorem dX7_undo_12 : decode cX7_undo 12 = .ok (.ireturn, 1) := by decide +kernel
theorem dX7_undo_13 : decode cX7_undo 13 = .ok (.aload_n 0, 1) := by decide +kernel
theorem dX7_undo_14 : decode cX7_undo 14 = .ok (.getfield 19, 3) := by decide +kernel
theorem dX7_undo_17 : decode cX7_undo 17 = .ok (.aload_n 0, 1) := by decide +kernel
theorem dX7_undo_18 : decode cX7_undo 18 = .ok (.getfield 12, 3) := by decide +kernel
theorem dX7_undo_21 : decode cX7_undo 21 = .ok (.invokevirtual 267, 3) := by decide +kernel
theorem dX7_undo_24 : decode cX7_undo 24 = .ok (.aload_n 0, 1) := by decide +kernel
theorem dX7_undo_25 : decode cX7_undo 25 = .ok (.getfield 19, 3) := by decide +kernel
theorem dX7_undo_28 : decode cX7_undo 28 = .ok (.getfield 264, 3) := by decide +kernel
theorem dX7_undo_31 : decode cX7_undo 31 = .ok (.ireturn, 1) := by decide +kernel
theorem dX7_fingerprint_0 : decode cX7_fingerprint 0 = .ok (.ldc2_w 270, 3) := by decide +kernel
theorem dX7_fingerprint_3 : decode cX7_fingerprint 3 = .ok (.lstore_n 1, 1) := by decide +kernel
theorem dX7_fingerprint_4 : decode cX7_fingerprint 4 = .ok (.ldc2_w 272, 3) := by decide +kernel
theorem dX7_fingerprint_7 : decode cX7_fingerprint 7 = .ok (.lload_n 1, 1) := by decide +kernel
theorem dX7_fingerprint_8 : decode cX7_fingerprint 8 = .ok (.lmul, 1) := by decide +kernel
theorem dX7_fingerprint_9 : decode cX7_fingerprint 9 = .ok (.aload_n 0, 1) := by decide +kernel
theorem dX7_fingerprint_10 : decode cX7_fingerprint 10 = .ok (.invokevirtual 274, 3) := by decide +kernel
theorem dX7_fingerprint_13 : decode cX7_fingerprint 13 = .ok (.i2l, 1) := by decide +kernel
theorem dX7_fingerprint_14 : decode cX7_fingerprint 14 = .ok (.ladd, 1) := by decide +kernel
theorem dX7_fingerprint_15 : decode cX7_fingerprint 15 = .ok (.lstore_n 1, 1) := by decide +kernel
theorem dX7_fingerprint_16 : decode cX7_fingerprint 16 = .ok (.ldc2_w 272, 3) := by decide +kernel
theorem dX7_fingerprint_19 : decode cX7_fingerprint 19 = .ok (.lload_n 1, 1) := by decide +kernel
theorem dX7_fingerprint_20 : decode cX7_fingerprint 20 = .ok (.lmul, 1) := by decide +kernel
theorem dX7_fingerprint_21 : decode cX7_fingerprint 21 = .ok (.aload_n 0, 1) := by decide +kernel
theorem dX7_fingerprint_22 : decode cX7_fingerprint 22 = .ok (.invokevirtual 276, 3) := by decide +kernel
theorem dX7_fingerprint_25 : decode cX7_fingerprint 25 = .ok (.i2l, 1) := by decide +kernel
theorem dX7_fingerprint_26 : decode cX7_fingerprint 26 = .ok (.ladd, 1) := by decide +kernel
theorem dX7_fingerprint_27 : decode cX7_fingerprint 27 = .ok (.lstore_n 1, 1) := by decide +kernel
theorem dX7_fingerprint_28 : decode cX7_fingerprint 28 = .ok (.ldc2_w 272, 3) := by decide +kernel
theorem dX7_fingerprint_31 : decode cX7_fingerprint 31 = .ok (.lload_n 1, 1) := by decide +kernel
theorem dX7_fingerprint_32 : decode cX7_fingerprint 32 = .ok (.lmul, 1) := by decide +kernel
theorem dX7_fingerprint_33 : decode cX7_fingerprint 33 = .ok (.aload_n 0, 1) := by decide +kernel
theorem dX7_fingerprint_34 : decode cX7_fingerprint 34 = .ok (.invokevirtual 279, 3) := by decide +kernel
theorem dX7_fingerprint_37 : decode cX7_fingerprint 37 = .ok (.i2l, 1) := by decide +kernel
theorem dX7_fingerprint_38 : decode cX7_fingerprint 38 = .ok (.ladd, 1) := by decide +kernel
theorem dX7_fingerprint_39 : decode cX7_fingerprint 39 = .ok (.lstore_n 1, 1) := by decide +kernel
theorem dX7_fingerprint_40 : decode cX7_fingerprint 40 = .ok (.ldc2_w 272, 3) := by decide +kernel
theorem dX7_fingerprint_43 : decode cX7_fingerprint 43 = .ok (.lload_n 1, 1) := by decide +kernel
theorem dX7_fingerprint_44 : decode cX7_fingerprint 44 = .ok (.lmul, 1) := by decide +kernel
theorem dX7_fingerprint_45 : decode cX7_fingerprint 45 = .ok (.aload_n 0, 1) := by decide +kernel
theorem dX7_fingerprint_46 : decode cX7_fingerprint 46 = .ok (.getfield 12, 3) := by decide +kernel
theorem dX7_fingerprint_49 : decode cX7_fingerprint 49 = .ok (.getfield 86, 3) := by decide +kernel
theorem dX7_fingerprint_52 : decode cX7_fingerprint 52 = .ok (.getfield 281, 3) := by decide +kernel
theorem dX7_fingerprint_55 : decode cX7_fingerprint 55 = .ok (.i2l, 1) := by decide +kernel
theorem dX7_fingerprint_56 : decode cX7_fingerprint 56 = .ok (.ladd, 1) := by decide +kernel
theorem dX7_fingerprint_57 : decode cX7_fingerprint 57 = .ok (.lstore_n 1, 1) := by decide +kernel
theorem dX7_fingerprint_58 : decode cX7_fingerprint 58 = .ok (.iconst 0, 1) := by decide +kernel
theorem dX7_fingerprint_59 : decode cX7_fingerprint 59 = .ok (.istore_n 3, 1) := by decide +kernel
theorem dX7_fingerprint_60 : decode cX7_fingerprint 60 = .ok (.iload_n 3, 1) := by decide +kernel
theorem dX7_fingerprint_61 : decode cX7_fingerprint 61 = .ok (.aload_n 0, 1) := by decide +kernel
theorem dX7_fingerprint_62 : decode cX7_fingerprint 62 = .ok (.getfield 12, 3) := by decide +kernel
theorem dX7_fingerprint_65 : decode cX7_fingerprint 65 = .ok (.getfield 39, 3) := by decide +kernel
theorem dX7_fingerprint_68 : decode cX7_fingerprint 68 = .ok (.if_icmp .ge 39, 3) := by decide +kernel
theorem dX7_fingerprint_71 : decode cX7_fingerprint 71 = .ok (.iconst 0, 1) := by decide +kernel
theorem dX7_fingerprint_72 : decode cX7_fingerprint 72 = .ok (.istore 4, 2) := by decide +kernel
theorem dX7_fingerprint_74 : decode cX7_fingerprint 74 = .ok (.iload 4, 2) := by decide +kernel
theorem dX7_fingerprint_76 : decode cX7_fingerprint 76 = .ok (.iconst 4, 1) := by decide +kernel
theorem dX7_fingerprint_77 : decode cX7_fingerprint 77 = .ok (.if_icmp .gt 24, 3) := by decide +kernel
theorem dX7_fingerprint_80 : decode cX7_fingerprint 80 = .ok (.ldc2_w 272, 3) := by decide +kernel
theorem dX7_fingerprint_83 : decode cX7_fingerprint 83 = .ok (.lload_n 1, 1) := by decide +kernel
theorem dX7_fingerprint_84 : decode cX7_fingerprint 84 = .ok (.lmul, 1) := by decide +kernel
theorem dX7_fingerprint_85 : decode cX7_fingerprint 85 = .ok (.aload_n 0, 1) := by decide +kernel
theorem dX7_fingerprint_86 : decode cX7_fingerprint 86 = .ok (.iload_n 3, 1) := by decide +kernel
theorem dX7_fingerprint_87 : decode cX7_fingerprint 87 = .ok (.iload 4, 2) := by decide +kernel
theorem dX7_fingerprint_89 : decode cX7_fingerprint 89 = .ok (.invokevirtual 284, 3) := by decide +kernel
theorem dX7_fingerprint_92 : decode cX7_fingerprint 92 = .ok (.i2l, 1) := by decide +kernel
theorem dX7_fingerprint_93 : decode cX7_fingerprint 93 = .ok (.ladd, 1) := by decide +kernel
theorem dX7_fingerprint_94 : decode cX7_fingerprint 94 = .ok (.lstore_n 1, 1) := by decide +kernel
theorem dX7_fingerprint_95 : decode cX7_fingerprint 95 = .ok (.iinc 4 1, 3) := by decide +kernel
theorem dX7_fingerprint_98 : decode cX7_fingerprint 98 = .ok (.goto (-24), 3) := by decide +kernel
theorem dX7_fingerprint_101 : decode cX7_fingerprint 101 = .ok (.iinc 3 1, 3) := by decide +kernel
theorem dX7_fingerprint_104 : decode cX7_fingerprint 104 = .ok (.goto (-44), 3) := by decide +kernel
theorem dX7_fingerprint_107 : decode cX7_fingerprint 107 = .ok (.aload_n 0, 1) := by decide +kernel
theorem dX7_fingerprint_108 : decode cX7_fingerprint 108 = .ok (.getfield 12, 3) := by decide +kernel
theorem dX7_fingerprint_111 : decode cX7_fingerprint 111 = .ok (.getfield 35, 3) := by decide +kernel
theorem dX7_fingerprint_114 : decode cX7_fingerprint 114 = .ok (.ifCond .ne 5, 3) := by decide +kernel
theorem dX7_fingerprint_117 : decode cX7_fingerprint 117 = .ok (.lload_n 1, 1) := by decide +kernel
theorem dX7_fingerprint_118 : decode cX7_fingerprint 118 = .ok (.lreturn, 1) := by decide +kernel
theorem dX7_fingerprint_119 : decode cX7_fingerprint 119 = .ok (.iconst 0, 1) := by decide +kernel
theorem dX7_fingerprint_120 : decode cX7_fingerprint 120 = .ok (.istore_n 3, 1) := by decide +kernel
theorem dX7_fingerprint_121 : decode cX7_fingerprint 121 = .ok (.iload_n 3, 1) := by decide +kernel
theorem dX7_fingerprint_122 : decode cX7_fingerprint 122 = .ok (.iconst 3, 1) := by decide +kernel
theorem dX7_fingerprint_123 : decode cX7_fingerprint 123 = .ok (.if_icmp .gt 22, 3) := by decide +kernel
theorem dX7_fingerprint_126 : decode cX7_fingerprint 126 = .ok (.ldc2_w 272, 3) := by decide +kernel
theorem dX7_fingerprint_129 : decode cX7_fingerprint 129 = .ok (.lload_n 1, 1) := by decide +kernel
theorem dX7_fingerprint_130 : decode cX7_fingerprint 130 = .ok (.lmul, 1) := by decide +kernel
theorem dX7_fingerprint_131 : decode cX7_fingerprint 131 = .ok (.aload_n 0, 1) := by decide +kernel
theorem dX7_fingerprint_132 : decode cX7_fingerprint 132 = .ok (.iload_n 3, 1) := by decide +kernel
theorem dX7_fingerprint_133 : decode cX7_fingerprint 133 = .ok (.invokevirtual 287, 3) := by decide +kernel
theorem dX7_fingerprint_136 : decode cX7_fingerprint 136 = .ok (.i2l, 1) := by decide +kernel
theorem dX7_fingerprint_137 : decode cX7_fingerprint 137 = .ok (.ladd, 1) := by decide +kernel
theorem dX7_fingerprint_138 : decode cX7_fingerprint 138 = .ok (.lstore_n 1, 1) := by decide +kernel
theorem dX7_fingerprint_139 : decode cX7_fingerprint 139 = .ok (.iinc 3 1, 3) := by decide +kernel
theorem dX7_fingerprint_142 : decode cX7_fingerprint 142 = .ok (.goto (-21), 3) := by decide +kernel
theorem dX7_fingerprint_145 : decode cX7_fingerprint 145 = .ok (.iconst 0, 1) := by decide +kernel
theorem dX7_fingerprint_146 : decode cX7_fingerprint 146 = .ok (.istore_n 3, 1) := by decide +kernel
theorem dX7_fingerprint_147 : decode cX7_fingerprint 147 = .ok (.iload_n 3, 1) := by decide +kernel
theorem dX7_fingerprint_148 : decode cX7_fingerprint 148 = .ok (.aload_n 0, 1) := by decide +kernel
theorem dX7_fingerprint_149 : decode cX7_fingerprint 149 = .ok (.getfield 12, 3) := by decide +kernel
theorem dX7_fingerprint_152 : decode cX7_fingerprint 152 = .ok (.getfield 39, 3) := by decide +kernel
theorem dX7_fingerprint_155 : decode cX7_fingerprint 155 = .ok (.if_icmp .ge 22, 3) := by decide +kernel
theorem dX7_fingerprint_158 : decode cX7_fingerprint 158 = .ok (.ldc2_w 272, 3) := by decide +kernel
theorem dX7_fingerprint_161 : decode cX7_fingerprint 161 = .ok (.lload_n 1, 1) := by decide +kernel
theorem dX7_fingerprint_162 : decode cX7_fingerprint 162 = .ok (.lmul, 1) := by decide +kernel
theorem dX7_fingerprint_163 : decode cX7_fingerprint 163 = .ok (.aload_n 0, 1) := by decide +kernel
theorem dX7_fingerprint_164 : decode cX7_fingerprint 164 = .ok (.iload_n 3, 1) := by decide +kernel
theorem dX7_fingerprint_165 : decode cX7_fingerprint 165 = .ok (.invokevirtual 290, 3) := by decide +kernel
theorem dX7_fingerprint_168 : decode cX7_fingerprint 168 = .ok (.i2l, 1) := by decide +kernel
theorem dX7_fingerprint_169 : decode cX7_fingerprint 169 = .ok (.ladd, 1) := by decide +kernel
theorem dX7_fingerprint_170 : decode cX7_fingerprint 170 = .ok (.lstore_n 1, 1) := by decide +kernel
theorem dX7_fingerprint_171 : decode cX7_fingerprint 171 = .ok (.iinc 3 1, 3) := by decide +kernel
theorem dX7_fingerprint_174 : decode cX7_fingerprint 174 = .ok (.goto (-27), 3) := by decide +kernel
theorem dX7_fingerprint_177 : decode cX7_fingerprint 177 = .ok (.lload_n 1, 1) := by decide +kernel
theorem dX7_fingerprint_178 : decode cX7_fingerprint 178 = .ok (.lreturn, 1) := by decide +kernel
theorem dX7_isWithin_0 : decode cX7_isWithin 0 = .ok (.iload_n 0, 1) := by decide +kernel
theorem dX7_isWithin_1 : decode cX7_isWithin 1 = .ok (.iload_n 1, 1) := by decide +kernel
theorem dX7_isWithin_2 : decode cX7_isWithin 2 = .ok (.if_icmp .lt 12, 3) := by decide +kernel
theorem dX7_isWithin_5 : decode cX7_isWithin 5 = .ok (.iload_n 0, 1) := by decide +kernel
theorem dX7_isWithin_6 : decode cX7_isWithin 6 = .ok (.iload_n 2, 1) := by decide +kernel
theorem dX7_isWithin_7 : decode cX7_isWithin 7 = .ok (.if_icmp .gt 7, 3) := by decide +kernel
theorem dX7_isWithin_10 : decode cX7_isWithin 10 = .ok (.iconst 1, 1) := by decide +kernel
theorem dX7_isWithin_11 : decode cX7_isWithin 11 = .ok (.goto 4, 3) := by decide +kernel
theorem dX7_isWithin_14 : decode cX7_isWithin 14 = .ok (.iconst 0, 1) := by decide +kernel
theorem dX7_isWithin_15 : decode cX7_isWithin 15 = .ok (.ireturn, 1) := by decide +kernel
theorem dX7_isSlowTask_0 : decode cX7_isSlowTask 0 = .ok (.iload_n 0, 1) := by decide +kernel
theorem dX7_isSlowTask_1 : decode cX7_isSlowTask 1 = .ok (.iconst 2, 1) := by decide +kernel
theorem dX7_isSlowTask_2 : decode cX7_isSlowTask 2 = .ok (.ldc 228, 2) := by decide +kernel
theorem dX7_isSlowTask_4 : decode cX7_isSlowTask 4 = .ok (.invokestatic 31, 3) := by decide +kernel
theorem dX7_isSlowTask_7 : decode cX7_isSlowTask 7 = .ok (.ifCond .eq 18, 3) := by decide +kernel
theorem dX7_isSlowTask_10 : decode cX7_isSlowTask 10 = .ok (.iload_n 1, 1) := by decide +kernel
theorem dX7_isSlowTask_11 : decode cX7_isSlowTask 11 = .ok (.iconst 0, 1) := by decide +kernel
theorem dX7_isSlowTask_12 : decode cX7_isSlowTask 12 = .ok (.sipush 5000, 3) := by decide +kernel
theorem dX7_isSlowTask_15 : decode cX7_isSlowTask 15 = .ok (.invokestatic 31, 3) := by decide +kernel
theorem dX7_isSlowTask_18 : decode cX7_isSlowTask 18 = .ok (.ifCond .eq 7, 3) := by decide +kernel
theorem dX7_isSlowTask_21 : decode cX7_isSlowTask 21 = .ok (.iconst 1, 1) := by decide +kernel
theorem dX7_isSlowTask_22 : decode cX7_isSlowTask 22 = .ok (.goto 4, 3) := by decide +kernel
theorem dX7_isSlowTask_25 : decode cX7_isSlowTask 25 = .ok (.iconst 0, 1) := by decide +kernel
theorem dX7_isSlowTask_26 : decode cX7_isSlowTask 26 = .ok (.ireturn, 1) := by decide +kernel
theorem dX7_has_0 : decode cX7_has 0 = .ok (.iload_n 0, 1) := by decide +kernel
theorem dX7_has_1 : decode cX7_has 1 = .ok (.iload_n 1, 1) := by decide +kernel
theorem dX7_has_2 : decode cX7_has 2 = .ok (.iushr, 1) := by decide +kernel
theorem dX7_has_3 : decode cX7_has 3 = .ok (.iconst 1, 1) := by decide +kernel
theorem dX7_has_4 : decode cX7_has 4 = .ok (.iand, 1) := by decide +kernel
theorem dX7_has_5 : decode cX7_has 5 = .ok (.iconst 1, 1) := by decide +kernel
theorem dX7_has_6 : decode cX7_has 6 = .ok (.if_icmp .ne 7, 3) := by decide +kernel
theorem dX7_has_9 : decode cX7_has 9 = .ok (.iconst 1, 1) := by decide +kernel
theorem dX7_has_10 : decode cX7_has 10 = .ok (.goto 4, 3) := by decide +kernel
theorem dX7_has_13 : decode cX7_has 13 = .ok (.iconst 0, 1) := by decide +kernel
theorem dX7_has_14 : decode cX7_has 14 = .ok (.ireturn, 1) := by decide +kernel
theorem dX7_smallest_0 : decode cX7_smallest 0 = .ok (.iconst 0, 1) := by decide +kernel
theorem dX7_smallest_1 : decode cX7_smallest 1 = .ok (.istore_n 2, 1) := by decide +kernel
theorem dX7_smallest_2 : decode cX7_smallest 2 = .ok (.iconst 0, 1) := by decide +kernel
theorem dX7_smallest_3 : decode cX7_smallest 3 = .ok (.istore_n 3, 1) := by decide +kernel
theorem dX7_smallest_4 : decode cX7_smallest 4 = .ok (.iload_n 3, 1) := by decide +kernel
theorem dX7_smallest_5 : decode cX7_smallest 5 = .ok (.bipush 8, 2) := by decide +kernel
theorem dX7_smallest_7 : decode cX7_smallest 7 = .ok (.if_icmp .ge 31, 3) := by decide +kernel
theorem dX7_smallest_10 : decode cX7_smallest 10 = .ok (.iload_n 0, 1) := by decide +kernel
theorem dX7_smallest_11 : decode cX7_smallest 11 = .ok (.iload_n 3, 1) := by decide +kernel
theorem dX7_smallest_12 : decode cX7_smallest 12 = .ok (.invokestatic 98, 3) := by decide +kernel
theorem dX7_smallest_15 : decode cX7_smallest 15 = .ok (.ifCond .eq 17, 3) := by decide +kernel
theorem dX7_smallest_18 : decode cX7_smallest 18 = .ok (.iload_n 2, 1) := by decide +kernel
theorem dX7_smallest_19 : decode cX7_smallest 19 = .ok (.invokestatic 174, 3) := by decide +kernel
theorem dX7_smallest_22 : decode cX7_smallest 22 = .ok (.iload_n 1, 1) := by decide +kernel
theorem dX7_smallest_23 : decode cX7_smallest 23 = .ok (.if_icmp .ge 9, 3) := by decide +kernel
theorem dX7_smallest_26 : decode cX7_smallest 26 = .ok (.iload_n 2, 1) := by decide +kernel
theorem dX7_smallest_27 : decode cX7_smallest 27 = .ok (.iconst 1, 1) := by decide +kernel
theorem dX7_smallest_28 : decode cX7_smallest 28 = .ok (.iload_n 3, 1) := by decide +kernel
theorem dX7_smallest_29 : decode cX7_smallest 29 = .ok (.ishl, 1) := by decide +kernel
theorem dX7_smallest_30 : decode cX7_smallest 30 = .ok (.ior, 1) := by decide +kernel
theorem dX7_smallest_31 : decode cX7_smallest 31 = .ok (.istore_n 2, 1) := by decide +kernel
theorem dX7_smallest_32 : decode cX7_smallest 32 = .ok (.iinc 3 1, 3) := by decide +kernel
theorem dX7_smallest_35 : decode cX7_smallest 35 = .ok (.goto (-31), 3) := by decide +kernel
theorem dX7_smallest_38 : decode cX7_smallest 38 = .ok (.iload_n 2, 1) := by decide +kernel
theorem dX7_smallest_39 : decode cX7_smallest 39 = .ok (.ireturn, 1) := by decide +kernel
theorem dX7_mix_0 : decode cX7_mix 0 = .ok (.iload_n 0, 1) := by decide +kernel
theorem dX7_mix_1 : decode cX7_mix 1 = .ok (.iload_n 1, 1) := by decide +kernel
theorem dX7_mix_2 : decode cX7_mix 2 = .ok (.ixor, 1) := by decide +kernel
theorem dX7_mix_3 : decode cX7_mix 3 = .ok (.ldc_w 292, 3) := by decide +kernel
theorem dX7_mix_6 : decode cX7_mix 6 = .ok (.imul, 1) := by decide +kernel
theorem dX7_mix_7 : decode cX7_mix 7 = .ok (.istore_n 2, 1) := by decide +kernel
theorem dX7_mix_8 : decode cX7_mix 8 = .ok (.iload_n 2, 1) := by decide +kernel
theorem dX7_mix_9 : decode cX7_mix 9 = .ok (.iload_n 2, 1) := by decide +kernel
theorem dX7_mix_10 : decode cX7_mix 10 = .ok (.bipush 15, 2) := by decide +kernel
theorem dX7_mix_12 : decode cX7_mix 12 = .ok (.iushr, 1) := by decide +kernel
theorem dX7_mix_13 : decode cX7_mix 13 = .ok (.ixor, 1) := by decide +kernel
theorem dX7_mix_14 : decode cX7_mix 14 = .ok (.ireturn, 1) := by decide +kernel
theorem dX7_stepped_0 : decode cX7_stepped 0 = .ok (.ldc_w 293, 3) := by decide +kernel
theorem dX7_stepped_3 : decode cX7_stepped 3 = .ok (.iload_n 0, 1) := by decide +kernel
theorem dX7_stepped_4 : decode cX7_stepped 4 = .ok (.imul, 1) := by decide +kernel
theorem dX7_stepped_5 : decode cX7_stepped 5 = .ok (.sipush 12345, 3) := by decide +kernel
theorem dX7_stepped_8 : decode cX7_stepped 8 = .ok (.iadd, 1) := by decide +kernel
theorem dX7_stepped_9 : decode cX7_stepped 9 = .ok (.ireturn, 1) := by decide +kernel
theorem dX7_drawn_0 : decode cX7_drawn 0 = .ok (.iload_n 0, 1) := by decide +kernel
theorem dX7_drawn_1 : decode cX7_drawn 1 = .ok (.bipush 16, 2) := by decide +kernel
theorem dX7_drawn_3 : decode cX7_drawn 3 = .ok (.iushr, 1) := by decide +kernel
theorem dX7_drawn_4 : decode cX7_drawn 4 = .ok (.ireturn, 1) := by decide +kernel
theorem dX7_product_0 : decode cX7_product 0 = .ok (.iload_n 2, 1) := by decide +kernel
theorem dX7_product_1 : decode cX7_product 1 = .ok (.iconst 1, 1) := by decide +kernel
theorem dX7_product_2 : decode cX7_product 2 = .ok (.if_icmp .ge 5, 3) := by decide +kernel
theorem dX7_product_5 : decode cX7_product 5 = .ok (.iconst 0, 1) := by decide +kernel
theorem dX7_product_6 : decode cX7_product 6 = .ok (.ireturn, 1) := by decide +kernel
theorem dX7_product_7 : decode cX7_product 7 = .ok (.iload_n 0, 1) := by decide +kernel
theorem dX7_product_8 : decode cX7_product 8 = .ok (.i2l, 1) := by decide +kernel
theorem dX7_product_9 : decode cX7_product 9 = .ok (.iload_n 1, 1) := by decide +kernel
theorem dX7_product_10 : decode cX7_product 10 = .ok (.i2l, 1) := by decide +kernel
theorem dX7_product_11 : decode cX7_product 11 = .ok (.lmul, 1) := by decide +kernel
theorem dX7_product_12 : decode cX7_product 12 = .ok (.iload_n 2, 1) := by decide +kernel
theorem dX7_product_13 : decode cX7_product 13 = .ok (.i2l, 1) := by decide +kernel
theorem dX7_product_14 : decode cX7_product 14 = .ok (.lrem, 1) := by decide +kernel
theorem dX7_product_15 : decode cX7_product 15 = .ok (.l2i, 1) := by decide +kernel
theorem dX7_product_16 : decode cX7_product 16 = .ok (.ireturn, 1) := by decide +kernel
theorem dX7_power_0 : decode cX7_power 0 = .ok (.iconst 1, 1) := by decide +kernel
theorem dX7_power_1 : decode cX7_power 1 = .ok (.istore_n 3, 1) := by decide +kernel
theorem dX7_power_2 : decode cX7_power 2 = .ok (.bipush 30, 2) := by decide +kernel
theorem dX7_power_4 : decode cX7_power 4 = .ok (.istore 4, 2) := by decide +kernel
theorem dX7_power_6 : decode cX7_power 6 = .ok (.iload 4, 2) := by decide +kernel
theorem dX7_power_8 : decode cX7_power 8 = .ok (.ifCond .lt 32, 3) := by decide +kernel
theorem dX7_power_11 : decode cX7_power 11 = .ok (.iload_n 3, 1) := by decide +kernel
theorem dX7_power_12 : decode cX7_power 12 = .ok (.iload_n 3, 1) := by decide +kernel
theorem dX7_power_13 : decode cX7_power 13 = .ok (.iload_n 2, 1) := by decide +kernel
theorem dX7_power_14 : decode cX7_power 14 = .ok (.invokestatic 294, 3) := by decide +kernel
theorem dX7_power_17 : decode cX7_power 17 = .ok (.istore_n 3, 1) := by decide +kernel
theorem dX7_power_18 : decode cX7_power 18 = .ok (.iload_n 1, 1) := by decide +kernel
theorem dX7_power_19 : decode cX7_power 19 = .ok (.iload 4, 2) := by decide +kernel
theorem dX7_power_21 : decode cX7_power 21 = .ok (.invokestatic 98, 3) := by decide +kernel
theorem dX7_power_24 : decode cX7_power 24 = .ok (.ifCond .eq 10, 3) := by decide +kernel
theorem dX7_power_27 : decode cX7_power 27 = .ok (.iload_n 3, 1) := by decide +kernel
theorem dX7_power_28 : decode cX7_power 28 = .ok (.iload_n 0, 1) := by decide +kernel
theorem dX7_power_29 : decode cX7_power 29 = .ok (.iload_n 2, 1) := by decide +kernel
theorem dX7_power_30 : decode cX7_power 30 = .ok (.invokestatic 294, 3) := by decide +kernel
theorem dX7_power_33 : decode cX7_power 33 = .ok (.istore_n 3, 1) := by decide +kernel
theorem dX7_power_34 : decode cX7_power 34 = .ok (.iinc 4 (-1), 3) := by decide +kernel
theorem dX7_power_37 : decode cX7_power 37 = .ok (.goto (-31), 3) := by decide +kernel
theorem dX7_power_40 : decode cX7_power 40 = .ok (.iload_n 3, 1) := by decide +kernel
theorem dX7_power_41 : decode cX7_power 41 = .ok (.ireturn, 1) := by decide +kernel
theorem dX8_init_0 : decode cX8_init 0 = .ok (.aload_n 0, 1) := by decide +kernel
theorem dX8_init_1 : decode cX8_init 1 = .ok (.invokespecial 1, 3) := by decide +kernel
theorem dX8_init_4 : decode cX8_init 4 = .ok (.aload_n 0, 1) := by decide +kernel
theorem dX8_init_5 : decode cX8_init 5 = .ok (.sipush 420, 3) := by decide +kernel
theorem dX8_init_8 : decode cX8_init 8 = .ok (.newarray .int, 2) := by decide +kernel
theorem dX8_init_10 : decode cX8_init 10 = .ok (.putfield 7, 3) := by decide +kernel
theorem dX8_init_13 : decode cX8_init 13 = .ok (.aload_n 0, 1) := by decide +kernel
theorem dX8_init_14 : decode cX8_init 14 = .ok (.sipush 1680, 3) := by decide +kernel
theorem dX8_init_17 : decode cX8_init 17 = .ok (.newarray .int, 2) := by decide +kernel
theorem dX8_init_19 : decode cX8_init 19 = .ok (.putfield 13, 3) := by decide +kernel
theorem dX8_init_22 : decode cX8_init 22 = .ok (.aload_n 0, 1) := by decide +kernel
theorem dX8_init_23 : decode cX8_init 23 = .ok (.bipush 8, 2) := by decide +kernel
theorem dX8_init_25 : decode cX8_init 25 = .ok (.newarray .int, 2) := by decide +kernel
theorem dX8_init_27 : decode cX8_init 27 = .ok (.putfield 16, 3) := by decide +kernel
theorem dX8_init_30 : decode cX8_init 30 = .ok (.aload_n 0, 1) := by decide +kernel
theorem dX8_init_31 : decode cX8_init 31 = .ok (.sipush 256, 3) := by decide +kernel
theorem dX8_init_34 : decode cX8_init 34 = .ok (.newarray .int, 2) := by decide +kernel
theorem dX8_init_36 : decode cX8_init 36 = .ok (.putfield 19, 3) := by decide +kernel
theorem dX8_init_39 : decode cX8_init 39 = .ok (.aload_n 0, 1) := by decide +kernel
theorem dX8_init_40 : decode cX8_init 40 = .ok (.getfield 7, 3) := by decide +kernel
theorem dX8_init_43 : decode cX8_init 43 = .ok (.bipush 6, 2) := by decide +kernel
theorem dX8_init_45 : decode cX8_init 45 = .ok (.iconst 2, 1) := by decide +kernel
theorem dX8_init_46 : decode cX8_init 46 = .ok (.iastore, 1) := by decide +kernel
theorem dX8_init_47 : decode cX8_init 47 = .ok (.aload_n 0, 1) := by decide +kernel
theorem dX8_init_48 : decode cX8_init 48 = .ok (.getfield 7, 3) := by decide +kernel
theorem dX8_init_51 : decode cX8_init 51 = .ok (.bipush 7, 2) := by decide +kernel
theorem dX8_init_53 : decode cX8_init 53 = .ok (.bipush 10, 2) := by decide +kernel
theorem dX8_init_55 : decode cX8_init 55 = .ok (.iastore, 1) := by decide +kernel
theorem dX8_init_56 : decode cX8_init 56 = .ok (.aload_n 0, 1) := by decide +kernel
theorem dX8_init_57 : decode cX8_init 57 = .ok (.getfield 7, 3) := by decide +kernel
theorem dX8_init_60 : decode cX8_init 60 = .ok (.bipush 8, 2) := by decide +kernel
theorem dX8_init_62 : decode cX8_init 62 = .ok (.bipush 100, 2) := by decide +kernel
theorem dX8_init_64 : decode cX8_init 64 = .ok (.iastore, 1) := by decide +kernel
theorem dX8_init_65 : decode cX8_init 65 = .ok (.aload_n 0, 1) := by decide +kernel
theorem dX8_init_66 : decode cX8_init 66 = .ok (.getfield 7, 3) := by decide +kernel
theorem dX8_init_69 : decode cX8_init 69 = .ok (.bipush 12, 2) := by decide +kernel
theorem dX8_init_71 : decode cX8_init 71 = .ok (.iconst (-1), 1) := by decide +kernel
theorem dX8_init_72 : decode cX8_init 72 = .ok (.iastore, 1) := by decide +kernel
theorem dX8_init_73 : decode cX8_init 73 = .ok (.return_, 1) := by decide +kernel
theorem dX8_in_0 : decode cX8_in 0 = .ok (.iload_n 0, 1) := by decide +kernel
theorem dX8_in_1 : decode cX8_in 1 = .ok (.iload_n 1, 1) := by decide +kernel
theorem dX8_in_2 : decode cX8_in 2 = .ok (.if_icmp .lt 12, 3) := by decide +kernel
theorem dX8_in_5 : decode cX8_in 5 = .ok (.iload_n 0, 1) := by decide +kernel
theorem dX8_in_6 : decode cX8_in 6 = .ok (.iload_n 2, 1) := by decide +kernel
theorem dX8_in_7 : decode cX8_in 7 = .ok (.if_icmp .gt 7, 3) := by decide +kernel
theorem dX8_in_10 : decode cX8_in 10 = .ok (.iconst 1, 1) := by decide +kernel
theorem dX8_in_11 : decode cX8_in 11 = .ok (.goto 4, 3) := by decide +kernel
theorem dX8_in_14 : decode cX8_in 14 = .ok (.iconst 0, 1) := by decide +kernel
theorem dX8_in_15 : decode cX8_in 15 = .ok (.ireturn, 1) := by decide +kernel
theorem dX8_act_0 : decode cX8_act 0 = .ok (.aload_n 0, 1) := by decide +kernel
theorem dX8_act_1 : decode cX8_act 1 = .ok (.getfield 22, 3) := by decide +kernel
theorem dX8_act_4 : decode cX8_act 4 = .ok (.iconst 4, 1) := by decide +kernel
theorem dX8_act_5 : decode cX8_act 5 = .ok (.if_icmp .ne 44, 3) := by decide +kernel
theorem dX8_act_8 : decode cX8_act 8 = .ok (.iconst 0, 1) := by decide +kernel
theorem dX8_act_9 : decode cX8_act 9 = .ok (.istore_n 1, 1) := by decide +kernel
theorem dX8_act_10 : decode cX8_act 10 = .ok (.iload_n 1, 1) := by decide +kernel
theorem dX8_act_11 : decode cX8_act 11 = .ok (.sipush 1260, 3) := by decide +kernel
theorem dX8_act_14 : decode cX8_act 14 = .ok (.if_icmp .ge 25, 3) := by decide +kernel
theorem dX8_act_17 : decode cX8_act 17 = .ok (.aload_n 0, 1) := by decide +kernel
theorem dX8_act_18 : decode cX8_act 18 = .ok (.getfield 13, 3) := by decide +kernel
theorem dX8_act_21 : decode cX8_act 21 = .ok (.iload_n 1, 1) := by decide +kernel
theorem dX8_act_22 : decode cX8_act 22 = .ok (.aload_n 0, 1) := by decide +kernel
theorem dX8_act_23 : decode cX8_act 23 = .ok (.getfield 13, 3) := by decide +kernel
theorem dX8_act_26 : decode cX8_act 26 = .ok (.iload_n 1, 1) := by decide +kernel
theorem dX8_act_27 : decode cX8_act 27 = .ok (.sipush 420, 3) := by decide +kernel
theorem dX8_act_30 : decode cX8_act 30 = .ok (.iadd, 1) := by decide +kernel
theorem dX8_act_31 : decode cX8_act 31 = .ok (.iaload, 1) := by decide +kernel
theorem dX8_act_32 : decode cX8_act 32 = .ok (.iastore, 1) := by decide +kernel
theorem dX8_act_33 : decode cX8_act 33 = .ok (.iinc 1 1, 3) := by decide +kernel
theorem dX8_act_36 : decode cX8_act 36 = .ok (.goto (-26), 3) := by decide +kernel
theorem dX8_act_39 : decode cX8_act 39 = .ok (.aload_n 0, 1) := by decide +kernel
theorem dX8_act_40 : decode cX8_act 40 = .ok (.dup, 1) := by decide +kernel
theorem dX8_act_41 : decode cX8_act 41 = .ok (.getfield 22, 3) := by decide +kernel
theorem dX8_act_44 : decode cX8_act 44 = .ok (.iconst 1, 1) := by decide +kernel
theorem dX8_act_45 : decode cX8_act 45 = .ok (.isub, 1) := by decide +kernel
theorem dX8_act_46 : decode cX8_act 46 = .ok (.putfield 22, 3) := by decide +kernel
theorem dX8_act_49 : decode cX8_act 49 = .ok (.iconst 0, 1) := by decide +kernel
theorem dX8_act_50 : decode cX8_act 50 = .ok (.istore_n 1, 1) := by decide +kernel
theorem dX8_act_51 : decode cX8_act 51 = .ok (.iload_n 1, 1) := by decide +kernel
theorem dX8_act_52 : decode cX8_act 52 = .ok (.sipush 420, 3) := by decide +kernel
theorem dX8_act_55 : decode cX8_act 55 = .ok (.if_icmp .ge 30, 3) := by decide +kernel
theorem dX8_act_58 : decode cX8_act 58 = .ok (.aload_n 0, 1) := by decide +kernel
theorem dX8_act_59 : decode cX8_act 59 = .ok (.getfield 13, 3) := by decide +kernel
theorem dX8_act_62 : decode cX8_act 62 = .ok (.sipush 420, 3) := by decide +kernel
theorem dX8_act_65 : decode cX8_act 65 = .ok (.aload_n 0, 1) := by decide +kernel
theorem dX8_act_66 : decode cX8_act 66 = .ok (.getfield 22, 3) := by decide +kernel
theorem dX8_act_69 : decode cX8_act 69 = .ok (.imul, 1) := by decide +kernel
theorem dX8_act_70 : decode cX8_act 70 = .ok (.iload_n 1, 1) := by decide +kernel
theorem dX8_act_71 : decode cX8_act 71 = .ok (.iadd, 1) := by decide +kernel
theorem dX8_act_72 : decode cX8_act 72 = .ok (.aload_n 0, 1) := by decide +kernel
theorem dX8_act_73 : decode cX8_act 73 = .ok (.getfield 7, 3) := by decide +kernel
theorem dX8_act_76 : decode cX8_act 76 = .ok (.iload_n 1, 1) := by decide +kernel
theorem dX8_act_77 : decode cX8_act 77 = .ok (.iaload, 1) := by decide +kernel
theorem dX8_act_78 : decode cX8_act 78 = .ok (.iastore, 1) := by decide +kernel
theorem dX8_act_79 : decode cX8_act 79 = .ok (.iinc 1 1, 3) := by decide +kernel
theorem dX8_act_82 : decode cX8_act 82 = .ok (.goto (-31), 3) := by decide +kernel
theorem dX8_act_85 : decode cX8_act 85 = .ok (.aload_n 0, 1) := by decide +kernel
theorem dX8_act_86 : decode cX8_act 86 = .ok (.dup, 1) := by decide +kernel
theorem dX8_act_87 : decode cX8_act 87 = .ok (.getfield 22, 3) := by decide +kernel
theorem dX8_act_90 : decode cX8_act 90 = .ok (.iconst 1, 1) := by decide +kernel
theorem dX8_act_91 : decode cX8_act 91 = .ok (.iadd, 1) := by decide +kernel
theorem dX8_act_92 : decode cX8_act 92 = .ok (.putfield 22, 3) := by decide +kernel
theorem dX8_act_95 : decode cX8_act 95 = .ok (.return_, 1) := by decide +kernel
theorem dX8_mix_0 : decode cX8_mix 0 = .ok (.iload_n 0, 1) := by decide +kernel
theorem dX8_mix_1 : decode cX8_mix 1 = .ok (.iload_n 1, 1) := by decide +kernel
theorem dX8_mix_2 : decode cX8_mix 2 = .ok (.ixor, 1) := by decide +kernel
theorem dX8_mix_3 : decode cX8_mix 3 = .ok (.ldc 26, 2) := by decide +kernel
theorem dX8_mix_5 : decode cX8_mix 5 = .ok (.imul, 1) := by decide +kernel
theorem dX8_mix_6 : decode cX8_mix 6 = .ok (.istore_n 2, 1) := by decide +kernel
theorem dX8_mix_7 : decode cX8_mix 7 = .ok (.iload_n 2, 1) := by decide +kernel
theorem dX8_mix_8 : decode cX8_mix 8 = .ok (.iload_n 2, 1) := by decide +kernel
theorem dX8_mix_9 : decode cX8_mix 9 = .ok (.bipush 15, 2) := by decide +kernel
theorem dX8_mix_11 : decode cX8_mix 11 = .ok (.iushr, 1) := by decide +kernel
theorem dX8_mix_12 : decode cX8_mix 12 = .ok (.ixor, 1) := by decide +kernel
theorem dX8_mix_13 : decode cX8_mix 13 = .ok (.ireturn, 1) := by decide +kernel
theorem dX8_draw_0 : decode cX8_draw 0 = .ok (.aload_n 0, 1) := by decide +kernel
theorem dX8_draw_1 : decode cX8_draw 1 = .ok (.ldc 27, 2) := by decide +kernel
theorem dX8_draw_3 : decode cX8_draw 3 = .ok (.aload_n 0, 1) := by decide +kernel
theorem dX8_draw_4 : decode cX8_draw 4 = .ok (.getfield 28, 3) := by decide +kernel
theorem dX8_draw_7 : decode cX8_draw 7 = .ok (.imul, 1) := by decide +kernel
theorem dX8_draw_8 : decode cX8_draw 8 = .ok (.sipush 12345, 3) := by decide +kernel
theorem dX8_draw_11 : decode cX8_draw 11 = .ok (.iadd, 1) := by decide +kernel
theorem dX8_draw_12 : decode cX8_draw 12 = .ok (.putfield 28, 3) := by decide +kernel
theorem dX8_draw_15 : decode cX8_draw 15 = .ok (.aload_n 0, 1) := by decide +kernel
theorem dX8_draw_16 : decode cX8_draw 16 = .ok (.getfield 28, 3) := by decide +kernel
theorem dX8_draw_19 : decode cX8_draw 19 = .ok (.bipush 16, 2) := by decide +kernel
theorem dX8_draw_21 : decode cX8_draw 21 = .ok (.iushr, 1) := by decide +kernel
theorem dX8_draw_22 : decode cX8_draw 22 = .ok (.ireturn, 1) := by decide +kernel
theorem dX8_person_0 : decode cX8_person 0 = .ok (.bipush 20, 2) := by decide +kernel
theorem dX8_person_2 : decode cX8_person 2 = .ok (.bipush 40, 2) := by decide +kernel
theorem dX8_person_4 : decode cX8_person 4 = .ok (.iload_n 0, 1) := by decide +kernel
theorem dX8_person_5 : decode cX8_person 5 = .ok (.imul, 1) := by decide +kernel
theorem dX8_person_6 : decode cX8_person 6 = .ok (.iadd, 1) := by decide +kernel
theorem dX8_person_7 : decode cX8_person 7 = .ok (.ireturn, 1) := by decide +kernel
theorem dX8_isPerson_0 : decode cX8_isPerson 0 = .ok (.iload_n 1, 1) := by decide +kernel
theorem dX8_isPerson_1 : decode cX8_isPerson 1 = .ok (.iconst 0, 1) := by decide +kernel
theorem dX8_isPerson_2 : decode cX8_isPerson 2 = .ok (.aload_n 0, 1) := by decide +kernel
theorem dX8_isPerson_3 : decode cX8_isPerson 3 = .ok (.getfield 7, 3) := by decide +kernel
theorem dX8_isPerson_6 : decode cX8_isPerson 6 = .ok (.iconst 4, 1) := by decide +kernel
theorem dX8_isPerson_7 : decode cX8_isPerson 7 = .ok (.iaload, 1) := by decide +kernel
theorem dX8_isPerson_8 : decode cX8_isPerson 8 = .ok (.iconst 1, 1) := by decide +kernel
theorem dX8_isPerson_9 : decode cX8_isPerson 9 = .ok (.isub, 1) := by decide +kernel
theorem dX8_isPerson_10 : decode cX8_isPerson 10 = .ok (.invokestatic 31, 3) := by decide +kernel
theorem dX8_isPerson_13 : decode cX8_isPerson 13 = .ok (.ireturn, 1) := by decide +kernel
theorem dX8_has_0 : decode cX8_has 0 = .ok (.aload_n 0, 1) := by decide +kernel
theorem dX8_has_1 : decode cX8_has 1 = .ok (.getfield 7, 3) := by decide +kernel
theorem dX8_has_4 : decode cX8_has 4 = .ok (.iload_n 1, 1) := by decide +kernel
theorem dX8_has_5 : decode cX8_has 5 = .ok (.invokestatic 35, 3) := by decide +kernel
theorem dX8_has_8 : decode cX8_has 8 = .ok (.iload_n 2, 1) := by decide +kernel
theorem dX8_has_9 : decode cX8_has 9 = .ok (.iadd, 1) := by decide +kernel
theorem dX8_has_10 : decode cX8_has 10 = .ok (.iaload, 1) := by decide +kernel
theorem dX8_has_11 : decode cX8_has 11 = .ok (.iconst 1, 1) := by decide +kernel
theorem dX8_has_12 : decode cX8_has 12 = .ok (.if_icmp .ne 7, 3) := by decide +kernel
theorem dX8_has_15 : decode cX8_has 15 = .ok (.iconst 1, 1) := by decide +kernel
theorem dX8_has_16 : decode cX8_has 16 = .ok (.goto 4, 3) := by decide +kernel
theorem dX8_has_19 : decode cX8_has 19 = .ok (.iconst 0, 1) := by decide +kernel
theorem dX8_has_20 : decode cX8_has 20 = .ok (.ireturn, 1) := by decide +kernel
theorem dX8_isMember_0 : decode cX8_isMember 0 = .ok (.aload_n 0, 1) := by decide +kernel
theorem dX8_isMember_1 : decode cX8_isMember 1 = .ok (.iload_n 1, 1) := by decide +kernel
theorem dX8_isMember_2 : decode cX8_isMember 2 = .ok (.invokevirtual 39, 3) := by decide +kernel
theorem dX8_isMember_5 : decode cX8_isMember 5 = .ok (.ifCond .eq 16, 3) := by decide +kernel
theorem dX8_isMember_8 : decode cX8_isMember 8 = .ok (.aload_n 0, 1) := by decide +kernel
theorem dX8_isMember_9 : decode cX8_isMember 9 = .ok (.iload_n 1, 1) := by decide +kernel
theorem dX8_isMember_10 : decode cX8_isMember 10 = .ok (.iconst 5, 1) := by decide +kernel
theorem dX8_isMember_11 : decode cX8_isMember 11 = .ok (.invokevirtual 43, 3) := by decide +kernel
theorem dX8_isMember_14 : decode cX8_isMember 14 = .ok (.ifCond .eq 7, 3) := by decide +kernel
theorem dX8_isMember_17 : decode cX8_isMember 17 = .ok (.iconst 1, 1) := by decide +kernel
theorem dX8_isMember_18 : decode cX8_isMember 18 = .ok (.goto 4, 3) := by decide +kernel
theorem dX8_isMember_21 : decode cX8_isMember 21 = .ok (.iconst 0, 1) := by decide +kernel
theorem dX8_isMember_22 : decode cX8_isMember 22 = .ok (.ireturn, 1) := by decide +kernel
theorem dX8_setOf_0 : decode cX8_setOf 0 = .ok (.iconst 0, 1) := by decide +kernel
theorem dX8_setOf_1 : decode cX8_setOf 1 = .ok (.istore_n 2, 1) := by decide +kernel
theorem dX8_setOf_2 : decode cX8_setOf 2 = .ok (.iconst 0, 1) := by decide +kernel
theorem dX8_setOf_3 : decode cX8_setOf 3 = .ok (.istore_n 3, 1) := by decide +kernel
theorem dX8_setOf_4 : decode cX8_setOf 4 = .ok (.iload_n 3, 1) := by decide +kernel
theorem dX8_setOf_5 : decode cX8_setOf 5 = .ok (.aload_n 0, 1) := by decide +kernel
theorem dX8_setOf_6 : decode cX8_setOf 6 = .ok (.getfield 7, 3) := by decide +kernel
theorem dX8_setOf_9 : decode cX8_setOf 9 = .ok (.iconst 4, 1) := by decide +kernel
theorem dX8_setOf_10 : decode cX8_setOf 10 = .ok (.iaload, 1) := by decide +kernel
theorem dX8_setOf_11 : decode cX8_setOf 11 = .ok (.if_icmp .ge 28, 3) := by decide +kernel
theorem dX8_setOf_14 : decode cX8_setOf 14 = .ok (.iload_n 2, 1) := by decide +kernel
theorem dX8_setOf_15 : decode cX8_setOf 15 = .ok (.aload_n 0, 1) := by decide +kernel
theorem dX8_setOf_16 : decode cX8_setOf 16 = .ok (.iload_n 3, 1) := by decide +kernel
theorem dX8_setOf_17 : decode cX8_setOf 17 = .ok (.iload_n 1, 1) := by decide +kernel
theorem dX8_setOf_18 : decode cX8_setOf 18 = .ok (.invokevirtual 43, 3) := by decide +kernel
theorem dX8_setOf_21 : decode cX8_setOf 21 = .ok (.ifCond .eq 9, 3) := by decide +kernel
theorem dX8_setOf_24 : decode cX8_setOf 24 = .ok (.iconst 1, 1) := by decide +kernel
theorem dX8_setOf_25 : decode cX8_setOf 25 = .ok (.iload_n 3, 1) := by decide +kernel
theorem dX8_setOf_26 : decode cX8_setOf 26 = .ok (.ishl, 1) := by decide +kernel
theorem dX8_setOf_27 : decode cX8_setOf 27 = .ok (.goto 4, 3) := by decide +kernel
theorem dX8_setOf_30 : decode cX8_setOf 30 = .ok (.iconst 0, 1) := by decide +kernel
theorem dX8_setOf_31 : decode cX8_setOf 31 = .ok (.ior, 1) := by decide +kernel
theorem dX8_setOf_32 : decode cX8_setOf 32 = .ok (.istore_n 2, 1) := by decide +kernel
theorem dX8_setOf_33 : decode cX8_setOf 33 = .ok (.iinc 3 1, 3) := by decide +kernel
theorem dX8_setOf_36 : decode cX8_setOf 36 = .ok (.goto (-32), 3) := by decide +kernel
theorem dX8_setOf_39 : decode cX8_setOf 39 = .ok (.iload_n 2, 1) := by decide +kernel
theorem dX8_setOf_40 : decode cX8_setOf 40 = .ok (.ireturn, 1) := by decide +kernel
theorem dX8_countOf_0 : decode cX8_countOf 0 = .ok (.iconst 0, 1) := by decide +kernel
theorem dX8_countOf_1 : decode cX8_countOf 1 = .ok (.istore_n 1, 1) := by decide +kernel
theorem dX8_countOf_2 : decode cX8_countOf 2 = .ok (.iconst 0, 1) := by decide +kernel
theorem dX8_countOf_3 : decode cX8_countOf 3 = .ok (.istore_n 2, 1) := by decide +kernel
theorem dX8_countOf_4 : decode cX8_countOf 4 = .ok (.iload_n 2, 1) := by decide +kernel
theorem dX8_countOf_5 : decode cX8_countOf 5 = .ok (.bipush 8, 2) := by decide +kernel
theorem dX8_countOf_7 : decode cX8_countOf 7 = .ok (.if_icmp .ge 17, 3) := by decide +kernel
theorem dX8_countOf_10 : decode cX8_countOf 10 = .ok (.iload_n 1, 1) := by decide +kernel
theorem dX8_countOf_11 : decode cX8_countOf 11 = .ok (.iload_n 0, 1) := by decide +kernel
theorem dX8_countOf_12 : decode cX8_countOf 12 = .ok (.iload_n 2, 1) := by decide +kernel
theorem dX8_countOf_13 : decode cX8_countOf 13 = .ok (.ishr, 1) := by decide +kernel
theorem dX8_countOf_14 : decode cX8_countOf 14 = .ok (.iconst 1, 1) := by decide +kernel
theorem dX8_countOf_15 : decode cX8_countOf 15 = .ok (.iand, 1) := by decide +kernel
theorem dX8_countOf_16 : decode cX8_countOf 16 = .ok (.iadd, 1) := by decide +kernel
theorem dX8_countOf_17 : decode cX8_countOf 17 = .ok (.istore_n 1, 1) := by decide +kernel
theorem dX8_countOf_18 : decode cX8_countOf 18 = .ok (.iinc 2 1, 3) := by decide +kernel
theorem dX8_countOf_21 : decode cX8_countOf 21 = .ok (.goto (-17), 3) := by decide +kernel
theorem dX8_countOf_24 : decode cX8_countOf 24 = .ok (.iload_n 1, 1) := by decide +kernel
theorem dX8_countOf_25 : decode cX8_countOf 25 = .ok (.ireturn, 1) := by decide +kernel
theorem dX8_pays_0 : decode cX8_pays 0 = .ok (.aload_n 0, 1) := by decide +kernel
theorem dX8_pays_1 : decode cX8_pays 1 = .ok (.getfield 7, 3) := by decide +kernel
theorem dX8_pays_4 : decode cX8_pays 4 = .ok (.iload_n 1, 1) := by decide +kernel
theorem dX8_pays_5 : decode cX8_pays 5 = .ok (.invokestatic 35, 3) := by decide +kernel
theorem dX8_pays_8 : decode cX8_pays 8 = .ok (.iconst 0, 1) := by decide +kernel
theorem dX8_pays_9 : decode cX8_pays 9 = .ok (.iadd, 1) := by decide +kernel
theorem dX8_pays_10 : decode cX8_pays 10 = .ok (.iaload, 1) := by decide +kernel
theorem dX8_pays_11 : decode cX8_pays 11 = .ok (.aload_n 0, 1) := by decide +kernel
theorem dX8_pays_12 : decode cX8_pays 12 = .ok (.getfield 7, 3) := by decide +kernel
theorem dX8_pays_15 : decode cX8_pays 15 = .ok (.bipush 7, 2) := by decide +kernel
theorem dX8_pays_17 : decode cX8_pays 17 = .ok (.iaload, 1) := by decide +kernel
theorem dX8_pays_18 : decode cX8_pays 18 = .ok (.if_icmp .ge 17, 3) := by decide +kernel
theorem dX8_pays_21 : decode cX8_pays 21 = .ok (.aload_n 0, 1) := by decide +kernel
theorem dX8_pays_22 : decode cX8_pays 22 = .ok (.getfield 7, 3) := by decide +kernel
theorem dX8_pays_25 : decode cX8_pays 25 = .ok (.iload_n 1, 1) := by decide +kernel
theorem dX8_pays_26 : decode cX8_pays 26 = .ok (.invokestatic 35, 3) := by decide +kernel
theorem dX8_pays_29 : decode cX8_pays 29 = .ok (.iconst 0, 1) := by decide +kernel
theorem dX8_pays_30 : decode cX8_pays 30 = .ok (.iadd, 1) := by decide +kernel
theorem dX8_pays_31 : decode cX8_pays 31 = .ok (.iaload, 1) := by decide +kernel
theorem dX8_pays_32 : decode cX8_pays 32 = .ok (.goto 10, 3) := by decide +kernel
theorem dX8_pays_35 : decode cX8_pays 35 = .ok (.aload_n 0, 1) := by decide +kernel
theorem dX8_pays_36 : decode cX8_pays 36 = .ok (.getfield 7, 3) := by decide +kernel
theorem dX8_pays_39 : decode cX8_pays 39 = .ok (.bipush 7, 2) := by decide +kernel
theorem dX8_pays_41 : decode cX8_pays 41 = .ok (.iaload, 1) := by decide +kernel
theorem dX8_pays_42 : decode cX8_pays 42 = .ok (.istore_n 2, 1) := by decide +kernel
theorem dX8_pays_43 : decode cX8_pays 43 = .ok (.aload_n 0, 1) := by decide +kernel
theorem dX8_pays_44 : decode cX8_pays 44 = .ok (.getfield 7, 3) := by decide +kernel
theorem dX8_pays_47 : decode cX8_pays 47 = .ok (.iload_n 1, 1) := by decide +kernel
theorem dX8_pays_48 : decode cX8_pays 48 = .ok (.invokestatic 35, 3) := by decide +kernel
theorem dX8_pays_51 : decode cX8_pays 51 = .ok (.iconst 0, 1) := by decide +kernel
theorem dX8_pays_52 : decode cX8_pays 52 = .ok (.iadd, 1) := by decide +kernel
theorem dX8_pays_53 : decode cX8_pays 53 = .ok (.dup2, 1) := by decide +kernel
theorem dX8_pays_54 : decode cX8_pays 54 = .ok (.iaload, 1) := by decide +kernel
theorem dX8_pays_55 : decode cX8_pays 55 = .ok (.iload_n 2, 1) := by decide +kernel
theorem dX8_pays_56 : decode cX8_pays 56 = .ok (.isub, 1) := by decide +kernel
theorem dX8_pays_57 : decode cX8_pays 57 = .ok (.iastore, 1) := by decide +kernel
theorem dX8_pays_58 : decode cX8_pays 58 = .ok (.aload_n 0, 1) := by decide +kernel
theorem dX8_pays_59 : decode cX8_pays 59 = .ok (.getfield 7, 3) := by decide +kernel
theorem dX8_pays_62 : decode cX8_pays 62 = .ok (.iconst 2, 1) := by decide +kernel
theorem dX8_pays_63 : decode cX8_pays 63 = .ok (.dup2, 1) := by decide +kernel
theorem dX8_pays_64 : decode cX8_pays 64 = .ok (.iaload, 1) := by decide +kernel
theorem dX8_pays_65 : decode cX8_pays 65 = .ok (.iload_n 2, 1) := by decide +kernel
theorem dX8_pays_66 : decode cX8_pays 66 = .ok (.iadd, 1) := by decide +kernel
theorem dX8_pays_67 : decode cX8_pays 67 = .ok (.iastore, 1) := by decide +kernel
theorem dX8_pays_68 : decode cX8_pays 68 = .ok (.return_, 1) := by decide +kernel
theorem dX8_addParticipant_0 : decode cX8_addParticipant 0 = .ok (.iload_n 1, 1) := by decide +kernel
theorem dX8_addParticipant_1 : decode cX8_addParticipant 1 = .ok (.iconst 0, 1) := by decide +kernel
theorem dX8_addParticipant_2 : decode cX8_addParticipant 2 = .ok (.ldc 47, 2) := by decide +kernel
theorem dX8_addParticipant_4 : decode cX8_addParticipant 4 = .ok (.invokestatic 31, 3) := by decide +kernel
theorem dX8_addParticipant_7 : decode cX8_addParticipant 7 = .ok (.ifCond .ne 5, 3) := by decide +kernel
theorem dX8_addParticipant_10 : decode cX8_addParticipant 10 = .ok (.iconst (-1), 1) := by decide +kernel
theorem dX8_addParticipant_11 : decode cX8_addParticipant 11 = .ok (.ireturn, 1) := by decide +kernel
theorem dX8_addParticipant_12 : decode cX8_addParticipant 12 = .ok (.aload_n 0, 1) := by decide +kernel
theorem dX8_addParticipant_13 : decode cX8_addParticipant 13 = .ok (.getfield 7, 3) := by decide +kernel
theorem dX8_addParticipant_16 : decode cX8_addParticipant 16 = .ok (.iconst 0, 1) := by decide +kernel
theorem dX8_addParticipant_17 : decode cX8_addParticipant 17 = .ok (.iaload, 1) := by decide +kernel
theorem dX8_addParticipant_18 : decode cX8_addParticipant 18 = .ok (.ifCond .eq 6, 3) := by decide +kernel
theorem dX8_addParticipant_21 : decode cX8_addParticipant 21 = .ok (.bipush (-2), 2) := by decide +kernel
theorem dX8_addParticipant_23 : decode cX8_addParticipant 23 = .ok (.ireturn, 1) := by decide +kernel
theorem dX8_addParticipant_24 : decode cX8_addParticipant 24 = .ok (.aload_n 0, 1) := by decide +kernel
theorem dX8_addParticipant_25 : decode cX8_addParticipant 25 = .ok (.getfield 7, 3) := by decide +kernel
theorem dX8_addParticipant_28 : decode cX8_addParticipant 28 = .ok (.iconst 4, 1) := by decide +kernel
theorem dX8_addParticipant_29 : decode cX8_addParticipant 29 = .ok (.iaload, 1) := by decide +kernel
theorem dX8_addParticipant_30 : decode cX8_addParticipant 30 = .ok (.bipush 8, 2) := by decide +kernel
theorem dX8_addParticipant_32 : decode cX8_addParticipant 32 = .ok (.if_icmp .ne 6, 3) := by decide +kernel
theorem dX8_addParticipant_35 : decode cX8_addParticipant 35 = .ok (.bipush (-3), 2) := by decide +kernel
theorem dX8_addParticipant_37 : decode cX8_addParticipant 37 = .ok (.ireturn, 1) := by decide +kernel
theorem dX8_addParticipant_38 : decode cX8_addParticipant 38 = .ok (.aload_n 0, 1) := by decide +kernel
theorem dX8_addParticipant_39 : decode cX8_addParticipant 39 = .ok (.invokevirtual 48, 3) := by decide +kernel
theorem dX8_addParticipant_42 : decode cX8_addParticipant 42 = .ok (.aload_n 0, 1) := by decide +kernel
theorem dX8_addParticipant_43 : decode cX8_addParticipant 43 = .ok (.getfield 7, 3) := by decide +kernel
theorem dX8_addParticipant_46 : decode cX8_addParticipant 46 = .ok (.aload_n 0, 1) := by decide +kernel
theorem dX8_addParticipant_47 : decode cX8_addParticipant 47 = .ok (.getfield 7, 3) := by decide +kernel
theorem dX8_addParticipant_50 : decode cX8_addParticipant 50 = .ok (.iconst 4, 1) := by decide +kernel
theorem dX8_addParticipant_51 : decode cX8_addParticipant 51 = .ok (.iaload, 1) := by decide +kernel
theorem dX8_addParticipant_52 : decode cX8_addParticipant 52 = .ok (.invokestatic 35, 3) := by decide +kernel
theorem dX8_addParticipant_55 : decode cX8_addParticipant 55 = .ok (.iconst 0, 1) := by decide +kernel
theorem dX8_addParticipant_56 : decode cX8_addParticipant 56 = .ok (.iadd, 1) := by decide +kernel
theorem dX8_addParticipant_57 : decode cX8_addParticipant 57 = .ok (.iload_n 1, 1) := by decide +kernel
theorem dX8_addParticipant_58 : decode cX8_addParticipant 58 = .ok (.iastore, 1) := by decide +kernel
theorem dX8_addParticipant_59 : decode cX8_addParticipant 59 = .ok (.aload_n 0, 1) := by decide +kernel
theorem dX8_addParticipant_60 : decode cX8_addParticipant 60 = .ok (.getfield 7, 3) := by decide +kernel
theorem dX8_addParticipant_63 : decode cX8_addParticipant 63 = .ok (.iconst 4, 1) := by decide +kernel
theorem dX8_addParticipant_64 : decode cX8_addParticipant 64 = .ok (.dup2, 1) := by decide +kernel
theorem dX8_addParticipant_65 : decode cX8_addParticipant 65 = .ok (.iaload, 1) := by decide +kernel
theorem dX8_addParticipant_66 : decode cX8_addParticipant 66 = .ok (.iconst 1, 1) := by decide +kernel
theorem dX8_addParticipant_67 : decode cX8_addParticipant 67 = .ok (.iadd, 1) := by decide +kernel
theorem dX8_addParticipant_68 : decode cX8_addParticipant 68 = .ok (.iastore, 1) := by decide +kernel
theorem dX8_addParticipant_69 : decode cX8_addParticipant 69 = .ok (.aload_n 0, 1) := by decide +kernel
theorem dX8_addParticipant_70 : decode cX8_addParticipant 70 = .ok (.getfield 7, 3) := by decide +kernel
theorem dX8_addParticipant_73 : decode cX8_addParticipant 73 = .ok (.iconst 4, 1) := by decide +kernel
theorem dX8_addParticipant_74 : decode cX8_addParticipant 74 = .ok (.iaload, 1) := by decide +kernel
theorem dX8_addParticipant_75 : decode cX8_addParticipant 75 = .ok (.iconst 1, 1) := by decide +kernel
theorem dX8_addParticipant_76 : decode cX8_addParticipant 76 = .ok (.isub, 1) := by decide +kernel
theorem dX8_addParticipant_77 : decode cX8_addParticipant 77 = .ok (.ireturn, 1) := by decide +kernel
theorem dX8_sets_0 : decode cX8_sets 0 = .ok (.aload_n 0, 1) := by decide +kernel
theorem dX8_sets_1 : decode cX8_sets 1 = .ok (.invokevirtual 48, 3) := by decide +kernel
theorem dX8_sets_4 : decode cX8_sets 4 = .ok (.aload_n 0, 1) := by decide +kernel
theorem dX8_sets_5 : decode cX8_sets 5 = .ok (.getfield 7, 3) := by decide +kernel
theorem dX8_sets_8 : decode cX8_sets 8 = .ok (.iload_n 1, 1) := by decide +kernel
theorem dX8_sets_9 : decode cX8_sets 9 = .ok (.iaload, 1) := by decide +kernel
theorem dX8_sets_10 : decode cX8_sets 10 = .ok (.istore_n 3, 1) := by decide +kernel
theorem dX8_sets_11 : decode cX8_sets 11 = .ok (.aload_n 0, 1) := by decide +kernel
theorem dX8_sets_12 : decode cX8_sets 12 = .ok (.getfield 7, 3) := by decide +kernel
theorem dX8_sets_15 : decode cX8_sets 15 = .ok (.iload_n 1, 1) := by decide +kernel
theorem dX8_sets_16 : decode cX8_sets 16 = .ok (.iload_n 2, 1) := by decide +kernel
theorem dX8_sets_17 : decode cX8_sets 17 = .ok (.iastore, 1) := by decide +kernel
theorem dX8_sets_18 : decode cX8_sets 18 = .ok (.iload_n 3, 1) := by decide +kernel
theorem dX8_sets_19 : decode cX8_sets 19 = .ok (.ireturn, 1) := by decide +kernel
theorem dX8_behave_0 : decode cX8_behave 0 = .ok (.aload_n 0, 1) := by decide +kernel
theorem dX8_behave_1 : decode cX8_behave 1 = .ok (.iload_n 1, 1) := by decide +kernel
theorem dX8_behave_2 : decode cX8_behave 2 = .ok (.invokevirtual 39, 3) := by decide +kernel
theorem dX8_behave_5 : decode cX8_behave 5 = .ok (.ifCond .eq 26, 3) := by decide +kernel
theorem dX8_behave_8 : decode cX8_behave 8 = .ok (.iload_n 2, 1) := by decide +kernel
theorem dX8_behave_9 : decode cX8_behave 9 = .ok (.iconst 0, 1) := by decide +kernel
theorem dX8_behave_10 : decode cX8_behave 10 = .ok (.iconst 3, 1) := by decide +kernel
theorem dX8_behave_11 : decode cX8_behave 11 = .ok (.invokestatic 31, 3) := by decide +kernel
theorem dX8_behave_14 : decode cX8_behave 14 = .ok (.ifCond .eq 17, 3) := by decide +kernel
theorem dX8_behave_17 : decode cX8_behave 17 = .ok (.aload_n 0, 1) := by decide +kernel
theorem dX8_behave_18 : decode cX8_behave 18 = .ok (.iload_n 1, 1) := by decide +kernel
theorem dX8_behave_19 : decode cX8_behave 19 = .ok (.invokestatic 35, 3) := by decide +kernel
theorem dX8_behave_22 : decode cX8_behave 22 = .ok (.iconst 4, 1) := by decide +kernel
theorem dX8_behave_23 : decode cX8_behave 23 = .ok (.iadd, 1) := by decide +kernel
theorem dX8_behave_24 : decode cX8_behave 24 = .ok (.iload_n 2, 1) := by decide +kernel
theorem dX8_behave_25 : decode cX8_behave 25 = .ok (.invokevirtual 51, 3) := by decide +kernel
theorem dX8_behave_28 : decode cX8_behave 28 = .ok (.goto 4, 3) := by decide +kernel
theorem dX8_behave_31 : decode cX8_behave 31 = .ok (.iconst (-1), 1) := by decide +kernel
theorem dX8_behave_32 : decode cX8_behave 32 = .ok (.ireturn, 1) := by decide +kernel
theorem dX8_settles_0 : decode cX8_settles 0 = .ok (.iload_n 2, 1) := by decide +kernel
theorem dX8_settles_1 : decode cX8_settles 1 = .ok (.iload_n 3, 1) := by decide +kernel
theorem dX8_settles_2 : decode cX8_settles 2 = .ok (.iload 4, 2) := by decide +kernel
theorem dX8_settles_4 : decode cX8_settles 4 = .ok (.invokestatic 31, 3) := by decide +kernel
theorem dX8_settles_7 : decode cX8_settles 7 = .ok (.ifCond .ne 7, 3) := by decide +kernel
theorem dX8_settles_10 : decode cX8_settles 10 = .ok (.iconst (-1), 1) := by decide +kernel
theorem dX8_settles_11 : decode cX8_settles 11 = .ok (.goto 23, 3) := by decide +kernel
theorem dX8_settles_14 : decode cX8_settles 14 = .ok (.aload_n 0, 1) := by decide +kernel
theorem dX8_settles_15 : decode cX8_settles 15 = .ok (.getfield 7, 3) := by decide +kernel
theorem dX8_settles_18 : decode cX8_settles 18 = .ok (.iconst 0, 1) := by decide +kernel
theorem dX8_settles_19 : decode cX8_settles 19 = .ok (.iaload, 1) := by decide +kernel
theorem dX8_settles_20 : decode cX8_settles 20 = .ok (.ifCond .eq 8, 3) := by decide +kernel
theorem dX8_settles_23 : decode cX8_settles 23 = .ok (.bipush (-2), 2) := by decide +kernel
theorem dX8_settles_25 : decode cX8_settles 25 = .ok (.goto 9, 3) := by decide +kernel
theorem dX8_settles_28 : decode cX8_settles 28 = .ok (.aload_n 0, 1) := by decide +kernel
theorem dX8_settles_29 : decode cX8_settles 29 = .ok (.iload_n 1, 1) := by decide +kernel
theorem dX8_settles_30 : decode cX8_settles 30 = .ok (.iload_n 2, 1) := by decide +kernel
theorem dX8_settles_31 : decode cX8_settles 31 = .ok (.invokevirtual 51, 3) := by decide +kernel
theorem dX8_settles_34 : decode cX8_settles 34 = .ok (.ireturn, 1) := by decide +kernel
theorem dX8_setMethod_0 : decode cX8_setMethod 0 = .ok (.aload_n 0, 1) := by decide +kernel
theorem dX8_setMethod_1 : decode cX8_setMethod 1 = .ok (.iconst 5, 1) := by decide +kernel
theorem dX8_setMethod_2 : decode cX8_setMethod 2 = .ok (.iload_n 1, 1) := by decide +kernel
theorem dX8_setMethod_3 : decode cX8_setMethod 3 = .ok (.iconst 0, 1) := by decide +kernel
theorem dX8_setMethod_4 : decode cX8_setMethod 4 = .ok (.iconst 2, 1) := by decide +kernel
theorem dX8_setMethod_5 : decode cX8_setMethod 5 = .ok (.invokevirtual 55, 3) := by decide +kernel
theorem dX8_setMethod_8 : decode cX8_setMethod 8 = .ok (.ireturn, 1) := by decide +kernel
theorem dX8_setThreshold_0 : decode cX8_setThreshold 0 = .ok (.aload_n 0, 1) := by decide +kernel
theorem dX8_setThreshold_1 : decode cX8_setThreshold 1 = .ok (.bipush 6, 2) := by decide +kernel
theorem dX8_setThreshold_3 : decode cX8_setThreshold 3 = .ok (.iload_n 1, 1) := by decide +kernel
theorem dX8_setThreshold_4 : decode cX8_setThreshold 4 = .ok (.iconst 1, 1) := by decide +kernel
theorem dX8_setThreshold_5 : decode cX8_setThreshold 5 = .ok (.bipush 8, 2) := by decide +kernel
theorem dX8_setThreshold_7 : decode cX8_setThreshold 7 = .ok (.invokevirtual 55, 3) := by decide +kernel
theorem dX8_setThreshold_10 : decode cX8_setThreshold 10 = .ok (.ireturn, 1) := by decide +kernel
theorem dX8_setFine_0 : decode cX8_setFine 0 = .ok (.aload_n 0, 1) := by decide +kernel
theorem dX8_setFine_1 : decode cX8_setFine 1 = .ok (.bipush 7, 2) := by decide +kernel
theorem dX8_setFine_3 : decode cX8_setFine 3 = .ok (.iload_n 1, 1) := by decide +kernel
theorem dX8_setFine_4 : decode cX8_setFine 4 = .ok (.iconst 0, 1) := by decide +kernel
theorem dX8_setFine_5 : decode cX8_setFine 5 = .ok (.sipush 1000, 3) := by decide +kernel
theorem dX8_setFine_8 : decode cX8_setFine 8 = .ok (.invokevirtual 55, 3) := by decide +kernel
theorem dX8_setFine_11 : decode cX8_setFine 11 = .ok (.ireturn, 1) := by decide +kernel
theorem dX8_setDelay_0 : decode cX8_setDelay 0 = .ok (.aload_n 0, 1) := by decide +kernel
theorem dX8_setDelay_1 : decode cX8_setDelay 1 = .ok (.bipush 8, 2) := by decide +kernel
theorem dX8_setDelay_3 : decode cX8_setDelay 3 = .ok (.iload_n 1, 1) := by decide +kernel
theorem dX8_setDelay_4 : decode cX8_setDelay 4 = .ok (.iconst 1, 1) := by decide +kernel
theorem dX8_setDelay_5 : decode cX8_setDelay 5 = .ok (.sipush 5000, 3) := by decide +kernel
theorem dX8_setDelay_8 : decode cX8_setDelay 8 = .ok (.invokevirtual 55, 3) := by decide +kernel
theorem dX8_setDelay_11 : decode cX8_setDelay 11 = .ok (.ireturn, 1) := by decide +kernel
theorem dX8_mayBegin_0 : decode cX8_mayBegin 0 = .ok (.iconst 0, 1) := by decide +kernel
theorem dX8_mayBegin_1 : decode cX8_mayBegin 1 = .ok (.istore_n 1, 1) := by decide +kernel
theorem dX8_mayBegin_2 : decode cX8_mayBegin 2 = .ok (.iconst 0, 1) := by decide +kernel
theorem dX8_mayBegin_3 : decode cX8_mayBegin 3 = .ok (.istore_n 2, 1) := by decide +kernel
theorem dX8_mayBegin_4 : decode cX8_mayBegin 4 = .ok (.iload_n 2, 1) := by decide +kernel
theorem dX8_mayBegin_5 : decode cX8_mayBegin 5 = .ok (.aload_n 0, 1) := by decide +kernel
theorem dX8_mayBegin_6 : decode cX8_mayBegin 6 = .ok (.getfield 7, 3) := by decide +kernel
theorem dX8_mayBegin_9 : decode cX8_mayBegin 9 = .ok (.iconst 4, 1) := by decide +kernel
theorem dX8_mayBegin_10 : decode cX8_mayBegin 10 = .ok (.iaload, 1) := by decide +kernel
theorem dX8_mayBegin_11 : decode cX8_mayBegin 11 = .ok (.if_icmp .ge 38, 3) := by decide +kernel
theorem dX8_mayBegin_14 : decode cX8_mayBegin 14 = .ok (.iload_n 1, 1) := by decide +kernel
theorem dX8_mayBegin_15 : decode cX8_mayBegin 15 = .ok (.aload_n 0, 1) := by decide +kernel
theorem dX8_mayBegin_16 : decode cX8_mayBegin 16 = .ok (.getfield 7, 3) := by decide +kernel
theorem dX8_mayBegin_19 : decode cX8_mayBegin 19 = .ok (.iload_n 2, 1) := by decide +kernel
theorem dX8_mayBegin_20 : decode cX8_mayBegin 20 = .ok (.invokestatic 35, 3) := by decide +kernel
theorem dX8_mayBegin_23 : decode cX8_mayBegin 23 = .ok (.iconst 0, 1) := by decide +kernel
theorem dX8_mayBegin_24 : decode cX8_mayBegin 24 = .ok (.iadd, 1) := by decide +kernel
theorem dX8_mayBegin_25 : decode cX8_mayBegin 25 = .ok (.iaload, 1) := by decide +kernel
theorem dX8_mayBegin_26 : decode cX8_mayBegin 26 = .ok (.aload_n 0, 1) := by decide +kernel
theorem dX8_mayBegin_27 : decode cX8_mayBegin 27 = .ok (.getfield 7, 3) := by decide +kernel
theorem dX8_mayBegin_30 : decode cX8_mayBegin 30 = .ok (.bipush 7, 2) := by decide +kernel
theorem dX8_mayBegin_32 : decode cX8_mayBegin 32 = .ok (.iaload, 1) := by decide +kernel
theorem dX8_mayBegin_33 : decode cX8_mayBegin 33 = .ok (.if_icmp .lt 7, 3) := by decide +kernel
theorem dX8_mayBegin_36 : decode cX8_mayBegin 36 = .ok (.iconst 1, 1) := by decide +kernel
theorem dX8_mayBegin_37 : decode cX8_mayBegin 37 = .ok (.goto 4, 3) := by decide +kernel
theorem dX8_mayBegin_40 : decode cX8_mayBegin 40 = .ok (.iconst 0, 1) := by decide +kernel
theorem dX8_mayBegin_41 : decode cX8_mayBegin 41 = .ok (.iadd, 1) := by decide +kernel
theorem dX8_mayBegin_42 : decode cX8_mayBegin 42 = .ok (.istore_n 1, 1) := by decide +kernel
theorem dX8_mayBegin_43 : decode cX8_mayBegin 43 = .ok (.iinc 2 1, 3) := by decide +kernel
theorem dX8_mayBegin_46 : decode cX8_mayBegin 46 = .ok (.goto (-42), 3) := by decide +kernel
theorem dX8_mayBegin_49 : decode cX8_mayBegin 49 = .ok (.aload_n 0, 1) := by decide +kernel
theorem dX8_mayBegin_50 : decode cX8_mayBegin 50 = .ok (.getfield 7, 3) := by decide +kernel
theorem dX8_mayBegin_53 : decode cX8_mayBegin 53 = .ok (.iconst 0, 1) := by decide +kernel
theorem dX8_mayBegin_54 : decode cX8_mayBegin 54 = .ok (.iaload, 1) := by decide +kernel
theorem dX8_mayBegin_55 : decode cX8_mayBegin 55 = .ok (.ifCond .ne 33, 3) := by decide +kernel
theorem dX8_mayBegin_58 : decode cX8_mayBegin 58 = .ok (.iload_n 1, 1) := by decide +kernel
theorem dX8_mayBegin_59 : decode cX8_mayBegin 59 = .ok (.iconst 2, 1) := by decide +kernel
theorem dX8_mayBegin_60 : decode cX8_mayBegin 60 = .ok (.if_icmp .lt 28, 3) := by decide +kernel
theorem dX8_mayBegin_63 : decode cX8_mayBegin 63 = .ok (.aload_n 0, 1) := by decide +kernel
theorem dX8_mayBegin_64 : decode cX8_mayBegin 64 = .ok (.getfield 7, 3) := by decide +kernel
theorem dX8_mayBegin_67 : decode cX8_mayBegin 67 = .ok (.iconst 5, 1) := by decide +kernel
theorem dX8_mayBegin_68 : decode cX8_mayBegin 68 = .ok (.iaload, 1) := by decide +kernel
theorem dX8_mayBegin_69 : decode cX8_mayBegin 69 = .ok (.iconst 1, 1) := by decide +kernel
theorem dX8_mayBegin_70 : decode cX8_mayBegin 70 = .ok (.if_icmp .ne 14, 3) := by decide +kernel
theorem dX8_mayBegin_73 : decode cX8_mayBegin 73 = .ok (.iload_n 1, 1) := by decide +kernel
theorem dX8_mayBegin_74 : decode cX8_mayBegin 74 = .ok (.aload_n 0, 1) := by decide +kernel
theorem dX8_mayBegin_75 : decode cX8_mayBegin 75 = .ok (.getfield 7, 3) := by decide +kernel
theorem dX8_mayBegin_78 : decode cX8_mayBegin 78 = .ok (.bipush 6, 2) := by decide +kernel
theorem dX8_mayBegin_80 : decode cX8_mayBegin 80 = .ok (.iaload, 1) := by decide +kernel
theorem dX8_mayBegin_81 : decode cX8_mayBegin 81 = .ok (.if_icmp .lt 7, 3) := by decide +kernel
theorem dX8_mayBegin_84 : decode cX8_mayBegin 84 = .ok (.iconst 1, 1) := by decide +kernel
theorem dX8_mayBegin_85 : decode cX8_mayBegin 85 = .ok (.goto 4, 3) := by decide +kernel
theorem dX8_mayBegin_88 : decode cX8_mayBegin 88 = .ok (.iconst 0, 1) := by decide +kernel
theorem dX8_mayBegin_89 : decode cX8_mayBegin 89 = .ok (.ireturn, 1) := by decide +kernel
theorem dX8_begins_0 : decode cX8_begins 0 = .ok (.aload_n 0, 1) := by decide +kernel
theorem dX8_begins_1 : decode cX8_begins 1 = .ok (.getfield 7, 3) := by decide +kernel
theorem dX8_begins_4 : decode cX8_begins 4 = .ok (.iconst 0, 1) := by decide +kernel
theorem dX8_begins_5 : decode cX8_begins 5 = .ok (.iconst 1, 1) := by decide +kernel
theorem dX8_begins_6 : decode cX8_begins 6 = .ok (.iastore, 1) := by decide +kernel
theorem dX8_begins_7 : decode cX8_begins 7 = .ok (.iconst 0, 1) := by decide +kernel
theorem dX8_begins_8 : decode cX8_begins 8 = .ok (.istore_n 1, 1) := by decide +kernel
theorem dX8_begins_9 : decode cX8_begins 9 = .ok (.iload_n 1, 1) := by decide +kernel
theorem dX8_begins_10 : decode cX8_begins 10 = .ok (.aload_n 0, 1) := by decide +kernel
theorem dX8_begins_11 : decode cX8_begins 11 = .ok (.getfield 7, 3) := by decide +kernel
theorem dX8_begins_14 : decode cX8_begins 14 = .ok (.iconst 4, 1) := by decide +kernel
theorem dX8_begins_15 : decode cX8_begins 15 = .ok (.iaload, 1) := by decide +kernel
theorem dX8_begins_16 : decode cX8_begins 16 = .ok (.if_icmp .ge 75, 3) := by decide +kernel
theorem dX8_begins_19 : decode cX8_begins 19 = .ok (.iload_n 1, 1) := by decide +kernel
theorem dX8_begins_20 : decode cX8_begins 20 = .ok (.invokestatic 35, 3) := by decide +kernel
theorem dX8_begins_23 : decode cX8_begins 23 = .ok (.istore_n 2, 1) := by decide +kernel
theorem dX8_begins_24 : decode cX8_begins 24 = .ok (.aload_n 0, 1) := by decide +kernel
theorem dX8_begins_25 : decode cX8_begins 25 = .ok (.getfield 7, 3) := by decide +kernel
theorem dX8_begins_28 : decode cX8_begins 28 = .ok (.iload_n 2, 1) := by decide +kernel
theorem dX8_begins_29 : decode cX8_begins 29 = .ok (.iconst 5, 1) := by decide +kernel
theorem dX8_begins_30 : decode cX8_begins 30 = .ok (.iadd, 1) := by decide +kernel
theorem dX8_begins_31 : decode cX8_begins 31 = .ok (.aload_n 0, 1) := by decide +kernel
theorem dX8_begins_32 : decode cX8_begins 32 = .ok (.getfield 7, 3) := by decide +kernel
theorem dX8_begins_35 : decode cX8_begins 35 = .ok (.iload_n 2, 1) := by decide +kernel
theorem dX8_begins_36 : decode cX8_begins 36 = .ok (.iconst 0, 1) := by decide +kernel
theorem dX8_begins_37 : decode cX8_begins 37 = .ok (.iadd, 1) := by decide +kernel
theorem dX8_begins_38 : decode cX8_begins 38 = .ok (.iaload, 1) := by decide +kernel
theorem dX8_begins_39 : decode cX8_begins 39 = .ok (.aload_n 0, 1) := by decide +kernel
theorem dX8_begins_40 : decode cX8_begins 40 = .ok (.getfield 7, 3) := by decide +kernel
theorem dX8_begins_43 : decode cX8_begins 43 = .ok (.bipush 7, 2) := by decide +kernel
theorem dX8_begins_45 : decode cX8_begins 45 = .ok (.iaload, 1) := by decide +kernel
theorem dX8_begins_46 : decode cX8_begins 46 = .ok (.if_icmp .lt 7, 3) := by decide +kernel
theorem dX8_begins_49 : decode cX8_begins 49 = .ok (.iconst 1, 1) := by decide +kernel
theorem dX8_begins_50 : decode cX8_begins 50 = .ok (.goto 4, 3) := by decide +kernel
theorem dX8_begins_53 : decode cX8_begins 53 = .ok (.iconst 0, 1) := by decide +kernel
theorem dX8_begins_54 : decode cX8_begins 54 = .ok (.iastore, 1) := by decide +kernel
theorem dX8_begins_55 : decode cX8_begins 55 = .ok (.aload_n 0, 1) := by decide +kernel
theorem dX8_begins_56 : decode cX8_begins 56 = .ok (.getfield 7, 3) := by decide +kernel
theorem dX8_begins_59 : decode cX8_begins 59 = .ok (.iload_n 2, 1) := by decide +kernel
theorem dX8_begins_60 : decode cX8_begins 60 = .ok (.bipush 6, 2) := by decide +kernel
theorem dX8_begins_62 : decode cX8_begins 62 = .ok (.iadd, 1) := by decide +kernel
theorem dX8_begins_63 : decode cX8_begins 63 = .ok (.iconst 0, 1) := by decide +kernel
theorem dX8_begins_64 : decode cX8_begins 64 = .ok (.iastore, 1) := by decide +kernel
theorem dX8_begins_65 : decode cX8_begins 65 = .ok (.aload_n 0, 1) := by decide +kernel
theorem dX8_begins_66 : decode cX8_begins 66 = .ok (.getfield 7, 3) := by decide +kernel
theorem dX8_begins_69 : decode cX8_begins 69 = .ok (.iload_n 2, 1) := by decide +kernel
theorem dX8_begins_70 : decode cX8_begins 70 = .ok (.bipush 7, 2) := by decide +kernel
theorem dX8_begins_72 : decode cX8_begins 72 = .ok (.iadd, 1) := by decide +kernel
theorem dX8_begins_73 : decode cX8_begins 73 = .ok (.iconst 0, 1) := by decide +kernel
theorem dX8_begins_74 : decode cX8_begins 74 = .ok (.iastore, 1) := by decide +kernel
theorem dX8_begins_75 : decode cX8_begins 75 = .ok (.aload_n 0, 1) := by decide +kernel
theorem dX8_begins_76 : decode cX8_begins 76 = .ok (.getfield 7, 3) := by decide +kernel
theorem dX8_begins_79 : decode cX8_begins 79 = .ok (.iload_n 2, 1) := by decide +kernel
theorem dX8_begins_80 : decode cX8_begins 80 = .ok (.bipush 8, 2) := by decide +kernel
theorem dX8_begins_82 : decode cX8_begins 82 = .ok (.iadd, 1) := by decide +kernel
theorem dX8_begins_83 : decode cX8_begins 83 = .ok (.iconst 0, 1) := by decide +kernel
theorem dX8_begins_84 : decode cX8_begins 84 = .ok (.iastore, 1) := by decide +kernel
theorem dX8_begins_85 : decode cX8_begins 85 = .ok (.iinc 1 1, 3) := by decide +kernel
theorem dX8_begins_88 : decode cX8_begins 88 = .ok (.goto (-79), 3) := by decide +kernel
theorem dX8_begins_91 : decode cX8_begins 91 = .ok (.return_, 1) := by decide +kernel
theorem dX8_begin_0 : decode cX8_begin 0 = .ok (.aload_n 0, 1) := by decide +kernel
theorem dX8_begin_1 : decode cX8_begin 1 = .ok (.invokevirtual 59, 3) := by decide +kernel
theorem dX8_begin_4 : decode cX8_begin 4 = .ok (.ifCond .ne 6, 3) := by decide +kernel
theorem dX8_begin_7 : decode cX8_begin 7 = .ok (.bipush (-2), 2) := by decide +kernel
theorem dX8_begin_9 : decode cX8_begin 9 = .ok (.ireturn, 1) := by decide +kernel
theorem dX8_begin_10 : decode cX8_begin 10 = .ok (.aload_n 0, 1) := by decide +kernel
theorem dX8_begin_11 : decode cX8_begin 11 = .ok (.invokevirtual 48, 3) := by decide +kernel
theorem dX8_begin_14 : decode cX8_begin 14 = .ok (.aload_n 0, 1) := by decide +kernel
theorem dX8_begin_15 : decode cX8_begin 15 = .ok (.invokevirtual 63, 3) := by decide +kernel
theorem dX8_begin_18 : decode cX8_begin 18 = .ok (.aload_n 0, 1) := by decide +kernel
theorem dX8_begin_19 : decode cX8_begin 19 = .ok (.getfield 7, 3) := by decide +kernel
theorem dX8_begin_22 : decode cX8_begin 22 = .ok (.iconst 1, 1) := by decide +kernel
theorem dX8_begin_23 : decode cX8_begin 23 = .ok (.iaload, 1) := by decide +kernel
theorem dX8_begin_24 : decode cX8_begin 24 = .ok (.ireturn, 1) := by decide +kernel
theorem dX8_digestOf_0 : decode cX8_digestOf 0 = .ok (.bipush 17, 2) := by decide +kernel
theorem dX8_digestOf_2 : decode cX8_digestOf 2 = .ok (.aload_n 0, 1) := by decide +kernel
theorem dX8_digestOf_3 : decode cX8_digestOf 3 = .ok (.getfield 7, 3) := by decide +kernel
theorem dX8_digestOf_6 : decode cX8_digestOf 6 = .ok (.iconst 1, 1) := by decide +kernel
theorem dX8_digestOf_7 : decode cX8_digestOf 7 = .ok (.iaload, 1) := by decide +kernel
theorem dX8_digestOf_8 : decode cX8_digestOf 8 = .ok (.invokestatic 66, 3) := by decide +kernel
theorem dX8_digestOf_11 : decode cX8_digestOf 11 = .ok (.iload_n 1, 1) := by decide +kernel
theorem dX8_digestOf_12 : decode cX8_digestOf 12 = .ok (.invokestatic 66, 3) := by decide +kernel
theorem dX8_digestOf_15 : decode cX8_digestOf 15 = .ok (.iload_n 2, 1) := by decide +kernel
theorem dX8_digestOf_16 : decode cX8_digestOf 16 = .ok (.invokestatic 66, 3) := by decide +kernel
theorem dX8_digestOf_19 : decode cX8_digestOf 19 = .ok (.ireturn, 1) := by decide +kernel
theorem dX8_isCopy_0 : decode cX8_isCopy 0 = .ok (.iconst 0, 1) := by decide +kernel
theorem dX8_isCopy_1 : decode cX8_isCopy 1 = .ok (.istore_n 3, 1) := by decide +kernel
theorem dX8_isCopy_2 : decode cX8_isCopy 2 = .ok (.iconst 0, 1) := by decide +kernel
theorem dX8_isCopy_3 : decode cX8_isCopy 3 = .ok (.istore 4, 2) := by decide +kernel
theorem dX8_isCopy_5 : decode cX8_isCopy 5 = .ok (.iload 4, 2) := by decide +kernel
theorem dX8_isCopy_7 : decode cX8_isCopy 7 = .ok (.aload_n 0, 1) := by decide +kernel
theorem dX8_isCopy_8 : decode cX8_isCopy 8 = .ok (.getfield 7, 3) := by decide +kernel
theorem dX8_isCopy_11 : decode cX8_isCopy 11 = .ok (.iconst 4, 1) := by decide +kernel
theorem dX8_isCopy_12 : decode cX8_isCopy 12 = .ok (.iaload, 1) := by decide +kernel
theorem dX8_isCopy_13 : decode cX8_isCopy 13 = .ok (.if_icmp .ge 63, 3) := by decide +kernel
theorem dX8_isCopy_16 : decode cX8_isCopy 16 = .ok (.iload_n 3, 1) := by decide +kernel
theorem dX8_isCopy_17 : decode cX8_isCopy 17 = .ok (.ifCond .ne 47, 3) := by decide +kernel
theorem dX8_isCopy_20 : decode cX8_isCopy 20 = .ok (.iload 4, 2) := by decide +kernel
theorem dX8_isCopy_22 : decode cX8_isCopy 22 = .ok (.iload_n 1, 1) := by decide +kernel
theorem dX8_isCopy_23 : decode cX8_isCopy 23 = .ok (.if_icmp .eq 45, 3) := by decide +kernel
theorem dX8_isCopy_26 : decode cX8_isCopy 26 = .ok (.aload_n 0, 1) := by decide +kernel
theorem dX8_isCopy_27 : decode cX8_isCopy 27 = .ok (.iload 4, 2) := by decide +kernel
theorem dX8_isCopy_29 : decode cX8_isCopy 29 = .ok (.iconst 5, 1) := by decide +kernel
theorem dX8_isCopy_30 : decode cX8_isCopy 30 = .ok (.invokevirtual 43, 3) := by decide +kernel
theorem dX8_isCopy_33 : decode cX8_isCopy 33 = .ok (.ifCond .eq 35, 3) := by decide +kernel
theorem dX8_isCopy_36 : decode cX8_isCopy 36 = .ok (.aload_n 0, 1) := by decide +kernel
theorem dX8_isCopy_37 : decode cX8_isCopy 37 = .ok (.iload 4, 2) := by decide +kernel
theorem dX8_isCopy_39 : decode cX8_isCopy 39 = .ok (.bipush 6, 2) := by decide +kernel
theorem dX8_isCopy_41 : decode cX8_isCopy 41 = .ok (.invokevirtual 43, 3) := by decide +kernel
theorem dX8_isCopy_44 : decode cX8_isCopy 44 = .ok (.ifCond .eq 24, 3) := by decide +kernel
theorem dX8_isCopy_47 : decode cX8_isCopy 47 = .ok (.aload_n 0, 1) := by decide +kernel
theorem dX8_isCopy_48 : decode cX8_isCopy 48 = .ok (.getfield 7, 3) := by decide +kernel
theorem dX8_isCopy_51 : decode cX8_isCopy 51 = .ok (.iload 4, 2) := by decide +kernel
theorem dX8_isCopy_53 : decode cX8_isCopy 53 = .ok (.invokestatic 35, 3) := by decide +kernel
theorem dX8_isCopy_56 : decode cX8_isCopy 56 = .ok (.bipush 11, 2) := by decide +kernel
theorem dX8_isCopy_58 : decode cX8_isCopy 58 = .ok (.iadd, 1) := by decide +kernel
theorem dX8_isCopy_59 : decode cX8_isCopy 59 = .ok (.iaload, 1) := by decide +kernel
theorem dX8_isCopy_60 : decode cX8_isCopy 60 = .ok (.iload_n 2, 1) := by decide +kernel
theorem dX8_isCopy_61 : decode cX8_isCopy 61 = .ok (.if_icmp .ne 7, 3) := by decide +kernel
theorem dX8_isCopy_64 : decode cX8_isCopy 64 = .ok (.iconst 1, 1) := by decide +kernel
theorem dX8_isCopy_65 : decode cX8_isCopy 65 = .ok (.goto 4, 3) := by decide +kernel
theorem dX8_isCopy_68 : decode cX8_isCopy 68 = .ok (.iconst 0, 1) := by decide +kernel
theorem dX8_isCopy_69 : decode cX8_isCopy 69 = .ok (.istore_n 3, 1) := by decide +kernel
theorem dX8_isCopy_70 : decode cX8_isCopy 70 = .ok (.iinc 4 1, 3) := by decide +kernel
theorem dX8_isCopy_73 : decode cX8_isCopy 73 = .ok (.goto (-68), 3) := by decide +kernel
theorem dX8_isCopy_76 : decode cX8_isCopy 76 = .ok (.iload_n 3, 1) := by decide +kernel
theorem dX8_isCopy_77 : decode cX8_isCopy 77 = .ok (.ireturn, 1) := by decide +kernel
theorem dX8_valueAt_0 : decode cX8_valueAt 0 = .ok (.iconst 0, 1) := by decide +kernel
theorem dX8_valueAt_1 : decode cX8_valueAt 1 = .ok (.istore_n 3, 1) := by decide +kernel
theorem dX8_valueAt_2 : decode cX8_valueAt 2 = .ok (.aload_n 0, 1) := by decide +kernel
theorem dX8_valueAt_3 : decode cX8_valueAt 3 = .ok (.getfield 7, 3) := by decide +kernel
theorem dX8_valueAt_6 : decode cX8_valueAt 6 = .ok (.bipush 6, 2) := by decide +kernel
theorem dX8_valueAt_8 : decode cX8_valueAt 8 = .ok (.iaload, 1) := by decide +kernel
theorem dX8_valueAt_9 : decode cX8_valueAt 9 = .ok (.iconst 1, 1) := by decide +kernel
theorem dX8_valueAt_10 : decode cX8_valueAt 10 = .ok (.isub, 1) := by decide +kernel
theorem dX8_valueAt_11 : decode cX8_valueAt 11 = .ok (.istore 4, 2) := by decide +kernel
theorem dX8_valueAt_13 : decode cX8_valueAt 13 = .ok (.iload 4, 2) := by decide +kernel
theorem dX8_valueAt_15 : decode cX8_valueAt 15 = .ok (.ifCond .lt 33, 3) := by decide +kernel
theorem dX8_valueAt_18 : decode cX8_valueAt 18 = .ok (.iload_n 3, 1) := by decide +kernel
theorem dX8_valueAt_19 : decode cX8_valueAt 19 = .ok (.iload_n 2, 1) := by decide +kernel
theorem dX8_valueAt_20 : decode cX8_valueAt 20 = .ok (.imul, 1) := by decide +kernel
theorem dX8_valueAt_21 : decode cX8_valueAt 21 = .ok (.aload_n 0, 1) := by decide +kernel
theorem dX8_valueAt_22 : decode cX8_valueAt 22 = .ok (.getfield 7, 3) := by decide +kernel
theorem dX8_valueAt_25 : decode cX8_valueAt 25 = .ok (.iload_n 1, 1) := by decide +kernel
theorem dX8_valueAt_26 : decode cX8_valueAt 26 = .ok (.invokestatic 35, 3) := by decide +kernel
theorem dX8_valueAt_29 : decode cX8_valueAt 29 = .ok (.bipush 14, 2) := by decide +kernel
theorem dX8_valueAt_31 : decode cX8_valueAt 31 = .ok (.iadd, 1) := by decide +kernel
theorem dX8_valueAt_32 : decode cX8_valueAt 32 = .ok (.iload 4, 2) := by decide +kernel
theorem dX8_valueAt_34 : decode cX8_valueAt 34 = .ok (.iadd, 1) := by decide +kernel
theorem dX8_valueAt_35 : decode cX8_valueAt 35 = .ok (.iaload, 1) := by decide +kernel
theorem dX8_valueAt_36 : decode cX8_valueAt 36 = .ok (.iadd, 1) := by decide +kernel
theorem dX8_valueAt_37 : decode cX8_valueAt 37 = .ok (.sipush 1019, 3) := by decide +kernel
theorem dX8_valueAt_40 : decode cX8_valueAt 40 = .ok (.irem, 1) := by decide +kernel
theorem dX8_valueAt_41 : decode cX8_valueAt 41 = .ok (.istore_n 3, 1) := by decide +kernel
theorem dX8_valueAt_42 : decode cX8_valueAt 42 = .ok (.iinc 4 (-1), 3) := by decide +kernel
theorem dX8_valueAt_45 : decode cX8_valueAt 45 = .ok (.goto (-32), 3) := by decide +kernel
theorem dX8_valueAt_48 : decode cX8_valueAt 48 = .ok (.iload_n 3, 1) := by decide +kernel
theorem dX8_valueAt_49 : decode cX8_valueAt 49 = .ok (.ireturn, 1) := by decide +kernel
theorem dX8_deals_0 : decode cX8_deals 0 = .ok (.iload_n 1, 1) := by decide +kernel
theorem dX8_deals_1 : decode cX8_deals 1 = .ok (.invokestatic 35, 3) := by decide +kernel
theorem dX8_deals_4 : decode cX8_deals 4 = .ok (.istore_n 2, 1) := by decide +kernel
theorem dX8_deals_5 : decode cX8_deals 5 = .ok (.aload_n 0, 1) := by decide +kernel
theorem dX8_deals_6 : decode cX8_deals 6 = .ok (.aload_n 0, 1) := by decide +kernel
theorem dX8_deals_7 : decode cX8_deals 7 = .ok (.getfield 7, 3) := by decide +kernel
theorem dX8_deals_10 : decode cX8_deals 10 = .ok (.iload_n 2, 1) := by decide +kernel
theorem dX8_deals_11 : decode cX8_deals 11 = .ok (.bipush 10, 2) := by decide +kernel
theorem dX8_deals_13 : decode cX8_deals 13 = .ok (.iadd, 1) := by decide +kernel
theorem dX8_deals_14 : decode cX8_deals 14 = .ok (.iaload, 1) := by decide +kernel
theorem dX8_deals_15 : decode cX8_deals 15 = .ok (.putfield 28, 3) := by decide +kernel
theorem dX8_deals_18 : decode cX8_deals 18 = .ok (.aload_n 0, 1) := by decide +kernel
theorem dX8_deals_19 : decode cX8_deals 19 = .ok (.getfield 7, 3) := by decide +kernel
theorem dX8_deals_22 : decode cX8_deals 22 = .ok (.iload_n 2, 1) := by decide +kernel
theorem dX8_deals_23 : decode cX8_deals 23 = .ok (.bipush 14, 2) := by decide +kernel
theorem dX8_deals_25 : decode cX8_deals 25 = .ok (.iadd, 1) := by decide +kernel
theorem dX8_deals_26 : decode cX8_deals 26 = .ok (.aload_n 0, 1) := by decide +kernel
theorem dX8_deals_27 : decode cX8_deals 27 = .ok (.getfield 7, 3) := by decide +kernel
theorem dX8_deals_30 : decode cX8_deals 30 = .ok (.iload_n 2, 1) := by decide +kernel
theorem dX8_deals_31 : decode cX8_deals 31 = .ok (.bipush 9, 2) := by decide +kernel
theorem dX8_deals_33 : decode cX8_deals 33 = .ok (.iadd, 1) := by decide +kernel
theorem dX8_deals_34 : decode cX8_deals 34 = .ok (.iaload, 1) := by decide +kernel
theorem dX8_deals_35 : decode cX8_deals 35 = .ok (.iastore, 1) := by decide +kernel
theorem dX8_deals_36 : decode cX8_deals 36 = .ok (.iconst 1, 1) := by decide +kernel
theorem dX8_deals_37 : decode cX8_deals 37 = .ok (.istore_n 3, 1) := by decide +kernel
theorem dX8_deals_38 : decode cX8_deals 38 = .ok (.iload_n 3, 1) := by decide +kernel
theorem dX8_deals_39 : decode cX8_deals 39 = .ok (.aload_n 0, 1) := by decide +kernel
theorem dX8_deals_40 : decode cX8_deals 40 = .ok (.getfield 7, 3) := by decide +kernel
theorem dX8_deals_43 : decode cX8_deals 43 = .ok (.bipush 6, 2) := by decide +kernel
theorem dX8_deals_45 : decode cX8_deals 45 = .ok (.iaload, 1) := by decide +kernel
theorem dX8_deals_46 : decode cX8_deals 46 = .ok (.if_icmp .ge 28, 3) := by decide +kernel
theorem dX8_deals_49 : decode cX8_deals 49 = .ok (.aload_n 0, 1) := by decide +kernel
theorem dX8_deals_50 : decode cX8_deals 50 = .ok (.getfield 7, 3) := by decide +kernel
theorem dX8_deals_53 : decode cX8_deals 53 = .ok (.iload_n 2, 1) := by decide +kernel
theorem dX8_deals_54 : decode cX8_deals 54 = .ok (.bipush 14, 2) := by decide +kernel
theorem dX8_deals_56 : decode cX8_deals 56 = .ok (.iadd, 1) := by decide +kernel
theorem dX8_deals_57 : decode cX8_deals 57 = .ok (.iload_n 3, 1) := by decide +kernel
theorem dX8_deals_58 : decode cX8_deals 58 = .ok (.iadd, 1) := by decide +kernel
theorem dX8_deals_59 : decode cX8_deals 59 = .ok (.aload_n 0, 1) := by decide +kernel
theorem dX8_deals_60 : decode cX8_deals 60 = .ok (.invokevirtual 69, 3) := by decide +kernel
theorem dX8_deals_63 : decode cX8_deals 63 = .ok (.sipush 1019, 3) := by decide +kernel
theorem dX8_deals_66 : decode cX8_deals 66 = .ok (.irem, 1) := by decide +kernel
theorem dX8_deals_67 : decode cX8_deals 67 = .ok (.iastore, 1) := by decide +kernel
theorem dX8_deals_68 : decode cX8_deals 68 = .ok (.iinc 3 1, 3) := by decide +kernel
theorem dX8_deals_71 : decode cX8_deals 71 = .ok (.goto (-33), 3) := by decide +kernel
theorem dX8_deals_74 : decode cX8_deals 74 = .ok (.iconst 0, 1) := by decide +kernel
theorem dX8_deals_75 : decode cX8_deals 75 = .ok (.istore_n 3, 1) := by decide +kernel
theorem dX8_deals_76 : decode cX8_deals 76 = .ok (.iload_n 3, 1) := by decide +kernel
theorem dX8_deals_77 : decode cX8_deals 77 = .ok (.bipush 8, 2) := by decide +kernel
theorem dX8_deals_79 : decode cX8_deals 79 = .ok (.if_icmp .ge 28, 3) := by decide +kernel
theorem dX8_deals_82 : decode cX8_deals 82 = .ok (.aload_n 0, 1) := by decide +kernel
theorem dX8_deals_83 : decode cX8_deals 83 = .ok (.getfield 7, 3) := by decide +kernel
theorem dX8_deals_86 : decode cX8_deals 86 = .ok (.iload_n 2, 1) := by decide +kernel
theorem dX8_deals_87 : decode cX8_deals 87 = .ok (.bipush 22, 2) := by decide +kernel
theorem dX8_deals_89 : decode cX8_deals 89 = .ok (.iadd, 1) := by decide +kernel
theorem dX8_deals_90 : decode cX8_deals 90 = .ok (.iload_n 3, 1) := by decide +kernel
theorem dX8_deals_91 : decode cX8_deals 91 = .ok (.iadd, 1) := by decide +kernel
theorem dX8_deals_92 : decode cX8_deals 92 = .ok (.aload_n 0, 1) := by decide +kernel
theorem dX8_deals_93 : decode cX8_deals 93 = .ok (.iload_n 1, 1) := by decide +kernel
theorem dX8_deals_94 : decode cX8_deals 94 = .ok (.iload_n 3, 1) := by decide +kernel
theorem dX8_deals_95 : decode cX8_deals 95 = .ok (.iconst 1, 1) := by decide +kernel
theorem dX8_deals_96 : decode cX8_deals 96 = .ok (.iadd, 1) := by decide +kernel
theorem dX8_deals_97 : decode cX8_deals 97 = .ok (.invokevirtual 73, 3) := by decide +kernel
theorem dX8_deals_100 : decode cX8_deals 100 = .ok (.iastore, 1) := by decide +kernel
theorem dX8_deals_101 : decode cX8_deals 101 = .ok (.iinc 3 1, 3) := by decide +kernel
theorem dX8_deals_104 : decode cX8_deals 104 = .ok (.goto (-28), 3) := by decide +kernel
theorem dX8_deals_107 : decode cX8_deals 107 = .ok (.return_, 1) := by decide +kernel
theorem dX8_commits_0 : decode cX8_commits 0 = .ok (.iload_n 1, 1) := by decide +kernel
theorem dX8_commits_1 : decode cX8_commits 1 = .ok (.invokestatic 35, 3) := by decide +kernel
theorem dX8_commits_4 : decode cX8_commits 4 = .ok (.istore 4, 2) := by decide +kernel
theorem dX8_commits_6 : decode cX8_commits 6 = .ok (.aload_n 0, 1) := by decide +kernel
theorem dX8_commits_7 : decode cX8_commits 7 = .ok (.getfield 7, 3) := by decide +kernel
theorem dX8_commits_10 : decode cX8_commits 10 = .ok (.iload 4, 2) := by decide +kernel
theorem dX8_commits_12 : decode cX8_commits 12 = .ok (.bipush 6, 2) := by decide +kernel
theorem dX8_commits_14 : decode cX8_commits 14 = .ok (.iadd, 1) := by decide +kernel
theorem dX8_commits_15 : decode cX8_commits 15 = .ok (.iconst 1, 1) := by decide +kernel
theorem dX8_commits_16 : decode cX8_commits 16 = .ok (.iastore, 1) := by decide +kernel
theorem dX8_commits_17 : decode cX8_commits 17 = .ok (.aload_n 0, 1) := by decide +kernel
theorem dX8_commits_18 : decode cX8_commits 18 = .ok (.getfield 7, 3) := by decide +kernel
theorem dX8_commits_21 : decode cX8_commits 21 = .ok (.iload 4, 2) := by decide +kernel
theorem dX8_commits_23 : decode cX8_commits 23 = .ok (.bipush 9, 2) := by decide +kernel
theorem dX8_commits_25 : decode cX8_commits 25 = .ok (.iadd, 1) := by decide +kernel
theorem dX8_commits_26 : decode cX8_commits 26 = .ok (.iload_n 2, 1) := by decide +kernel
theorem dX8_commits_27 : decode cX8_commits 27 = .ok (.iastore, 1) := by decide +kernel
theorem dX8_commits_28 : decode cX8_commits 28 = .ok (.aload_n 0, 1) := by decide +kernel
theorem dX8_commits_29 : decode cX8_commits 29 = .ok (.getfield 7, 3) := by decide +kernel
theorem dX8_commits_32 : decode cX8_commits 32 = .ok (.iload 4, 2) := by decide +kernel
theorem dX8_commits_34 : decode cX8_commits 34 = .ok (.bipush 10, 2) := by decide +kernel
theorem dX8_commits_36 : decode cX8_commits 36 = .ok (.iadd, 1) := by decide +kernel
theorem dX8_commits_37 : decode cX8_commits 37 = .ok (.iload_n 3, 1) := by decide +kernel
theorem dX8_commits_38 : decode cX8_commits 38 = .ok (.iastore, 1) := by decide +kernel
theorem dX8_commits_39 : decode cX8_commits 39 = .ok (.aload_n 0, 1) := by decide +kernel
theorem dX8_commits_40 : decode cX8_commits 40 = .ok (.getfield 7, 3) := by decide +kernel
theorem dX8_commits_43 : decode cX8_commits 43 = .ok (.iload 4, 2) := by decide +kernel
theorem dX8_commits_45 : decode cX8_commits 45 = .ok (.bipush 11, 2) := by decide +kernel
theorem dX8_commits_47 : decode cX8_commits 47 = .ok (.iadd, 1) := by decide +kernel
theorem dX8_commits_48 : decode cX8_commits 48 = .ok (.aload_n 0, 1) := by decide +kernel
theorem dX8_commits_49 : decode cX8_commits 49 = .ok (.iload_n 2, 1) := by decide +kernel
theorem dX8_commits_50 : decode cX8_commits 50 = .ok (.iload_n 3, 1) := by decide +kernel
theorem dX8_commits_51 : decode cX8_commits 51 = .ok (.invokevirtual 76, 3) := by decide +kernel
theorem dX8_commits_54 : decode cX8_commits 54 = .ok (.iastore, 1) := by decide +kernel
theorem dX8_commits_55 : decode cX8_commits 55 = .ok (.aload_n 0, 1) := by decide +kernel
theorem dX8_commits_56 : decode cX8_commits 56 = .ok (.getfield 7, 3) := by decide +kernel
theorem dX8_commits_59 : decode cX8_commits 59 = .ok (.iconst 5, 1) := by decide +kernel
theorem dX8_commits_60 : decode cX8_commits 60 = .ok (.iaload, 1) := by decide +kernel
theorem dX8_commits_61 : decode cX8_commits 61 = .ok (.iconst 1, 1) := by decide +kernel
theorem dX8_commits_62 : decode cX8_commits 62 = .ok (.if_icmp .ne 11, 3) := by decide +kernel
theorem dX8_commits_65 : decode cX8_commits 65 = .ok (.aload_n 0, 1) := by decide +kernel
theorem dX8_commits_66 : decode cX8_commits 66 = .ok (.iload_n 1, 1) := by decide +kernel
theorem dX8_commits_67 : decode cX8_commits 67 = .ok (.invokevirtual 79, 3) := by decide +kernel
theorem dX8_commits_70 : decode cX8_commits 70 = .ok (.goto 76, 3) := by decide +kernel
theorem dX8_commits_73 : decode cX8_commits 73 = .ok (.aload_n 0, 1) := by decide +kernel
theorem dX8_commits_74 : decode cX8_commits 74 = .ok (.getfield 7, 3) := by decide +kernel
theorem dX8_commits_77 : decode cX8_commits 77 = .ok (.iconst 5, 1) := by decide +kernel
theorem dX8_commits_78 : decode cX8_commits 78 = .ok (.iaload, 1) := by decide +kernel
theorem dX8_commits_79 : decode cX8_commits 79 = .ok (.iconst 2, 1) := by decide +kernel
theorem dX8_commits_80 : decode cX8_commits 80 = .ok (.if_icmp .ne 66, 3) := by decide +kernel
theorem dX8_commits_83 : decode cX8_commits 83 = .ok (.aload_n 0, 1) := by decide +kernel
theorem dX8_commits_84 : decode cX8_commits 84 = .ok (.iload_n 3, 1) := by decide +kernel
theorem dX8_commits_85 : decode cX8_commits 85 = .ok (.putfield 28, 3) := by decide +kernel
theorem dX8_commits_88 : decode cX8_commits 88 = .ok (.aload_n 0, 1) := by decide +kernel
theorem dX8_commits_89 : decode cX8_commits 89 = .ok (.getfield 7, 3) := by decide +kernel
theorem dX8_commits_92 : decode cX8_commits 92 = .ok (.iload 4, 2) := by decide +kernel
theorem dX8_commits_94 : decode cX8_commits 94 = .ok (.bipush 12, 2) := by decide +kernel
theorem dX8_commits_96 : decode cX8_commits 96 = .ok (.iadd, 1) := by decide +kernel
theorem dX8_commits_97 : decode cX8_commits 97 = .ok (.iconst 2, 1) := by decide +kernel
theorem dX8_commits_98 : decode cX8_commits 98 = .ok (.aload_n 0, 1) := by decide +kernel
theorem dX8_commits_99 : decode cX8_commits 99 = .ok (.invokevirtual 69, 3) := by decide +kernel
theorem dX8_commits_102 : decode cX8_commits 102 = .ok (.sipush 1000, 3) := by decide +kernel
theorem dX8_commits_105 : decode cX8_commits 105 = .ok (.irem, 1) := by decide +kernel
theorem dX8_commits_106 : decode cX8_commits 106 = .ok (.iadd, 1) := by decide +kernel
theorem dX8_commits_107 : decode cX8_commits 107 = .ok (.iastore, 1) := by decide +kernel
theorem dX8_commits_108 : decode cX8_commits 108 = .ok (.aload_n 0, 1) := by decide +kernel
theorem dX8_commits_109 : decode cX8_commits 109 = .ok (.getfield 7, 3) := by decide +kernel
theorem dX8_commits_112 : decode cX8_commits 112 = .ok (.iload 4, 2) := by decide +kernel
theorem dX8_commits_114 : decode cX8_commits 114 = .ok (.bipush 13, 2) := by decide +kernel
theorem dX8_commits_116 : decode cX8_commits 116 = .ok (.iadd, 1) := by decide +kernel
theorem dX8_commits_117 : decode cX8_commits 117 = .ok (.iload_n 2, 1) := by decide +kernel
theorem dX8_commits_118 : decode cX8_commits 118 = .ok (.i2l, 1) := by decide +kernel
theorem dX8_commits_119 : decode cX8_commits 119 = .ok (.aload_n 0, 1) := by decide +kernel
theorem dX8_commits_120 : decode cX8_commits 120 = .ok (.getfield 7, 3) := by decide +kernel
theorem dX8_commits_123 : decode cX8_commits 123 = .ok (.iload 4, 2) := by decide +kernel
theorem dX8_commits_125 : decode cX8_commits 125 = .ok (.bipush 12, 2) := by decide +kernel
theorem dX8_commits_127 : decode cX8_commits 127 = .ok (.iadd, 1) := by decide +kernel
theorem dX8_commits_128 : decode cX8_commits 128 = .ok (.iaload, 1) := by decide +kernel
theorem dX8_commits_129 : decode cX8_commits 129 = .ok (.aload_n 0, 1) := by decide +kernel
theorem dX8_commits_130 : decode cX8_commits 130 = .ok (.getfield 7, 3) := by decide +kernel
theorem dX8_commits_133 : decode cX8_commits 133 = .ok (.bipush 8, 2) := by decide +kernel
theorem dX8_commits_135 : decode cX8_commits 135 = .ok (.iaload, 1) := by decide +kernel
theorem dX8_commits_136 : decode cX8_commits 136 = .ok (.invokestatic 83, 3) := by decide +kernel
theorem dX8_commits_139 : decode cX8_commits 139 = .ok (.ladd, 1) := by decide +kernel
theorem dX8_commits_140 : decode cX8_commits 140 = .ok (.ldc2_w 87, 3) := by decide +kernel
theorem dX8_commits_143 : decode cX8_commits 143 = .ok (.lrem, 1) := by decide +kernel
theorem dX8_commits_144 : decode cX8_commits 144 = .ok (.l2i, 1) := by decide +kernel
theorem dX8_commits_145 : decode cX8_commits 145 = .ok (.iastore, 1) := by decide +kernel
theorem dX8_commits_146 : decode cX8_commits 146 = .ok (.return_, 1) := by decide +kernel
theorem dX8_commit_0 : decode cX8_commit 0 = .ok (.aload_n 0, 1) := by decide +kernel
theorem dX8_commit_1 : decode cX8_commit 1 = .ok (.iload_n 1, 1) := by decide +kernel
theorem dX8_commit_2 : decode cX8_commit 2 = .ok (.invokevirtual 39, 3) := by decide +kernel
theorem dX8_commit_5 : decode cX8_commit 5 = .ok (.ifCond .eq 14, 3) := by decide +kernel
theorem dX8_commit_8 : decode cX8_commit 8 = .ok (.iload_n 2, 1) := by decide +kernel
theorem dX8_commit_9 : decode cX8_commit 9 = .ok (.iconst 0, 1) := by decide +kernel
theorem dX8_commit_10 : decode cX8_commit 10 = .ok (.sipush 1018, 3) := by decide +kernel
theorem dX8_commit_13 : decode cX8_commit 13 = .ok (.invokestatic 31, 3) := by decide +kernel
theorem dX8_commit_16 : decode cX8_commit 16 = .ok (.ifCond .ne 5, 3) := by decide +kernel
theorem dX8_commit_19 : decode cX8_commit 19 = .ok (.iconst (-1), 1) := by decide +kernel
theorem dX8_commit_20 : decode cX8_commit 20 = .ok (.ireturn, 1) := by decide +kernel
theorem dX8_commit_21 : decode cX8_commit 21 = .ok (.aload_n 0, 1) := by decide +kernel
theorem dX8_commit_22 : decode cX8_commit 22 = .ok (.getfield 7, 3) := by decide +kernel
theorem dX8_commit_25 : decode cX8_commit 25 = .ok (.iconst 0, 1) := by decide +kernel
theorem dX8_commit_26 : decode cX8_commit 26 = .ok (.iaload, 1) := by decide +kernel
theorem dX8_commit_27 : decode cX8_commit 27 = .ok (.iconst 1, 1) := by decide +kernel
theorem dX8_commit_28 : decode cX8_commit 28 = .ok (.if_icmp .ne 22, 3) := by decide +kernel
theorem dX8_commit_31 : decode cX8_commit 31 = .ok (.aload_n 0, 1) := by decide +kernel
theorem dX8_commit_32 : decode cX8_commit 32 = .ok (.iload_n 1, 1) := by decide +kernel
theorem dX8_commit_33 : decode cX8_commit 33 = .ok (.iconst 5, 1) := by decide +kernel
theorem dX8_commit_34 : decode cX8_commit 34 = .ok (.invokevirtual 43, 3) := by decide +kernel
theorem dX8_commit_37 : decode cX8_commit 37 = .ok (.ifCond .eq 13, 3) := by decide +kernel
theorem dX8_commit_40 : decode cX8_commit 40 = .ok (.aload_n 0, 1) := by decide +kernel
theorem dX8_commit_41 : decode cX8_commit 41 = .ok (.iload_n 1, 1) := by decide +kernel
theorem dX8_commit_42 : decode cX8_commit 42 = .ok (.bipush 6, 2) := by decide +kernel
theorem dX8_commit_44 : decode cX8_commit 44 = .ok (.invokevirtual 43, 3) := by decide +kernel
theorem dX8_commit_47 : decode cX8_commit 47 = .ok (.ifCond .eq 6, 3) := by decide +kernel
theorem dX8_commit_50 : decode cX8_commit 50 = .ok (.bipush (-2), 2) := by decide +kernel
theorem dX8_commit_52 : decode cX8_commit 52 = .ok (.ireturn, 1) := by decide +kernel
theorem dX8_commit_53 : decode cX8_commit 53 = .ok (.aload_n 0, 1) := by decide +kernel
theorem dX8_commit_54 : decode cX8_commit 54 = .ok (.iload_n 1, 1) := by decide +kernel
theorem dX8_commit_55 : decode cX8_commit 55 = .ok (.aload_n 0, 1) := by decide +kernel
theorem dX8_commit_56 : decode cX8_commit 56 = .ok (.iload_n 2, 1) := by decide +kernel
theorem dX8_commit_57 : decode cX8_commit 57 = .ok (.iload_n 3, 1) := by decide +kernel
theorem dX8_commit_58 : decode cX8_commit 58 = .ok (.invokevirtual 76, 3) := by decide +kernel
theorem dX8_commit_61 : decode cX8_commit 61 = .ok (.invokevirtual 89, 3) := by decide +kernel
theorem dX8_commit_64 : decode cX8_commit 64 = .ok (.ifCond .eq 6, 3) := by decide +kernel
theorem dX8_commit_67 : decode cX8_commit 67 = .ok (.bipush (-4), 2) := by decide +kernel
theorem dX8_commit_69 : decode cX8_commit 69 = .ok (.ireturn, 1) := by decide +kernel
theorem dX8_commit_70 : decode cX8_commit 70 = .ok (.aload_n 0, 1) := by decide +kernel
theorem dX8_commit_71 : decode cX8_commit 71 = .ok (.invokevirtual 48, 3) := by decide +kernel
theorem dX8_commit_74 : decode cX8_commit 74 = .ok (.aload_n 0, 1) := by decide +kernel
theorem dX8_commit_75 : decode cX8_commit 75 = .ok (.iload_n 1, 1) := by decide +kernel
theorem dX8_commit_76 : decode cX8_commit 76 = .ok (.iload_n 2, 1) := by decide +kernel
theorem dX8_commit_77 : decode cX8_commit 77 = .ok (.iload_n 3, 1) := by decide +kernel
theorem dX8_commit_78 : decode cX8_commit 78 = .ok (.invokevirtual 92, 3) := by decide +kernel
theorem dX8_commit_81 : decode cX8_commit 81 = .ok (.aload_n 0, 1) := by decide +kernel
theorem dX8_commit_82 : decode cX8_commit 82 = .ok (.getfield 7, 3) := by decide +kernel
theorem dX8_commit_85 : decode cX8_commit 85 = .ok (.iload_n 1, 1) := by decide +kernel
theorem dX8_commit_86 : decode cX8_commit 86 = .ok (.invokestatic 35, 3) := by decide +kernel
theorem dX8_commit_89 : decode cX8_commit 89 = .ok (.bipush 11, 2) := by decide +kernel
theorem dX8_commit_91 : decode cX8_commit 91 = .ok (.iadd, 1) := by decide +kernel
theorem dX8_commit_92 : decode cX8_commit 92 = .ok (.iaload, 1) := by decide +kernel
theorem dX8_commit_93 : decode cX8_commit 93 = .ok (.ldc 96, 2) := by decide +kernel
theorem dX8_commit_95 : decode cX8_commit 95 = .ok (.iand, 1) := by decide +kernel
theorem dX8_commit_96 : decode cX8_commit 96 = .ok (.ireturn, 1) := by decide +kernel
theorem dX8_hasShares_0 : decode cX8_hasShares 0 = .ok (.aload_n 0, 1) := by decide +kernel
theorem dX8_hasShares_1 : decode cX8_hasShares 1 = .ok (.getfield 7, 3) := by decide +kernel
theorem dX8_hasShares_4 : decode cX8_hasShares 4 = .ok (.iconst 0, 1) := by decide +kernel
theorem dX8_hasShares_5 : decode cX8_hasShares 5 = .ok (.iaload, 1) := by decide +kernel
theorem dX8_hasShares_6 : decode cX8_hasShares 6 = .ok (.ifCond .eq 35, 3) := by decide +kernel
theorem dX8_hasShares_9 : decode cX8_hasShares 9 = .ok (.aload_n 0, 1) := by decide +kernel
theorem dX8_hasShares_10 : decode cX8_hasShares 10 = .ok (.getfield 7, 3) := by decide +kernel
theorem dX8_hasShares_13 : decode cX8_hasShares 13 = .ok (.iconst 5, 1) := by decide +kernel
theorem dX8_hasShares_14 : decode cX8_hasShares 14 = .ok (.iaload, 1) := by decide +kernel
theorem dX8_hasShares_15 : decode cX8_hasShares 15 = .ok (.iconst 1, 1) := by decide +kernel
theorem dX8_hasShares_16 : decode cX8_hasShares 16 = .ok (.if_icmp .ne 25, 3) := by decide +kernel
theorem dX8_hasShares_19 : decode cX8_hasShares 19 = .ok (.aload_n 0, 1) := by decide +kernel
theorem dX8_hasShares_20 : decode cX8_hasShares 20 = .ok (.iload_n 1, 1) := by decide +kernel
theorem dX8_hasShares_21 : decode cX8_hasShares 21 = .ok (.invokevirtual 97, 3) := by decide +kernel
theorem dX8_hasShares_24 : decode cX8_hasShares 24 = .ok (.ifCond .eq 17, 3) := by decide +kernel
theorem dX8_hasShares_27 : decode cX8_hasShares 27 = .ok (.aload_n 0, 1) := by decide +kernel
theorem dX8_hasShares_28 : decode cX8_hasShares 28 = .ok (.iload_n 1, 1) := by decide +kernel
theorem dX8_hasShares_29 : decode cX8_hasShares 29 = .ok (.bipush 6, 2) := by decide +kernel
theorem dX8_hasShares_31 : decode cX8_hasShares 31 = .ok (.invokevirtual 43, 3) := by decide +kernel
theorem dX8_hasShares_34 : decode cX8_hasShares 34 = .ok (.ifCond .eq 7, 3) := by decide +kernel
theorem dX8_hasShares_37 : decode cX8_hasShares 37 = .ok (.iconst 1, 1) := by decide +kernel
theorem dX8_hasShares_38 : decode cX8_hasShares 38 = .ok (.goto 4, 3) := by decide +kernel
theorem dX8_hasShares_41 : decode cX8_hasShares 41 = .ok (.iconst 0, 1) := by decide +kernel
theorem dX8_hasShares_42 : decode cX8_hasShares 42 = .ok (.ireturn, 1) := by decide +kernel
theorem dX8_hasShare_0 : decode cX8_hasShare 0 = .ok (.aload_n 0, 1) := by decide +kernel
theorem dX8_hasShare_1 : decode cX8_hasShare 1 = .ok (.iload_n 1, 1) := by decide +kernel
theorem dX8_hasShare_2 : decode cX8_hasShare 2 = .ok (.invokevirtual 100, 3) := by decide +kernel
theorem dX8_hasShare_5 : decode cX8_hasShare 5 = .ok (.ifCond .eq 15, 3) := by decide +kernel
theorem dX8_hasShare_8 : decode cX8_hasShare 8 = .ok (.aload_n 0, 1) := by decide +kernel
theorem dX8_hasShare_9 : decode cX8_hasShare 9 = .ok (.iload_n 2, 1) := by decide +kernel
theorem dX8_hasShare_10 : decode cX8_hasShare 10 = .ok (.invokevirtual 97, 3) := by decide +kernel
theorem dX8_hasShare_13 : decode cX8_hasShare 13 = .ok (.ifCond .eq 7, 3) := by decide +kernel
theorem dX8_hasShare_16 : decode cX8_hasShare 16 = .ok (.iconst 1, 1) := by decide +kernel
theorem dX8_hasShare_17 : decode cX8_hasShare 17 = .ok (.goto 4, 3) := by decide +kernel
theorem dX8_hasShare_20 : decode cX8_hasShare 20 = .ok (.iconst 0, 1) := by decide +kernel
theorem dX8_hasShare_21 : decode cX8_hasShare 21 = .ok (.ireturn, 1) := by decide +kernel
theorem dX8_shareOf_0 : decode cX8_shareOf 0 = .ok (.aload_n 0, 1) := by decide +kernel
theorem dX8_shareOf_1 : decode cX8_shareOf 1 = .ok (.getfield 7, 3) := by decide +kernel
theorem dX8_shareOf_4 : decode cX8_shareOf 4 = .ok (.iload_n 1, 1) := by decide +kernel
theorem dX8_shareOf_5 : decode cX8_shareOf 5 = .ok (.invokestatic 35, 3) := by decide +kernel
theorem dX8_shareOf_8 : decode cX8_shareOf 8 = .ok (.bipush 22, 2) := by decide +kernel
theorem dX8_shareOf_10 : decode cX8_shareOf 10 = .ok (.iadd, 1) := by decide +kernel
theorem dX8_shareOf_11 : decode cX8_shareOf 11 = .ok (.iload_n 2, 1) := by decide +kernel
theorem dX8_shareOf_12 : decode cX8_shareOf 12 = .ok (.iadd, 1) := by decide +kernel
theorem dX8_shareOf_13 : decode cX8_shareOf 13 = .ok (.iaload, 1) := by decide +kernel
theorem dX8_shareOf_14 : decode cX8_shareOf 14 = .ok (.ireturn, 1) := by decide +kernel
theorem dX8_isGood_0 : decode cX8_isGood 0 = .ok (.aload_n 0, 1) := by decide +kernel
theorem dX8_isGood_1 : decode cX8_isGood 1 = .ok (.iload_n 1, 1) := by decide +kernel
theorem dX8_isGood_2 : decode cX8_isGood 2 = .ok (.iload_n 2, 1) := by decide +kernel
theorem dX8_isGood_3 : decode cX8_isGood 3 = .ok (.invokevirtual 103, 3) := by decide +kernel
theorem dX8_isGood_6 : decode cX8_isGood 6 = .ok (.aload_n 0, 1) := by decide +kernel
theorem dX8_isGood_7 : decode cX8_isGood 7 = .ok (.iload_n 1, 1) := by decide +kernel
theorem dX8_isGood_8 : decode cX8_isGood 8 = .ok (.iload_n 2, 1) := by decide +kernel
theorem dX8_isGood_9 : decode cX8_isGood 9 = .ok (.iconst 1, 1) := by decide +kernel
theorem dX8_isGood_10 : decode cX8_isGood 10 = .ok (.iadd, 1) := by decide +kernel
theorem dX8_isGood_11 : decode cX8_isGood 11 = .ok (.invokevirtual 73, 3) := by decide +kernel
theorem dX8_isGood_14 : decode cX8_isGood 14 = .ok (.if_icmp .ne 7, 3) := by decide +kernel
theorem dX8_isGood_17 : decode cX8_isGood 17 = .ok (.iconst 1, 1) := by decide +kernel
theorem dX8_isGood_18 : decode cX8_isGood 18 = .ok (.goto 4, 3) := by decide +kernel
theorem dX8_isGood_21 : decode cX8_isGood 21 = .ok (.iconst 0, 1) := by decide +kernel
theorem dX8_isGood_22 : decode cX8_isGood 22 = .ok (.ireturn, 1) := by decide +kernel
theorem dX8_spoils_0 : decode cX8_spoils 0 = .ok (.aload_n 0, 1) := by decide +kernel
theorem dX8_spoils_1 : decode cX8_spoils 1 = .ok (.getfield 7, 3) := by decide +kernel
theorem dX8_spoils_4 : decode cX8_spoils 4 = .ok (.iload_n 1, 1) := by decide +kernel
theorem dX8_spoils_5 : decode cX8_spoils 5 = .ok (.invokestatic 35, 3) := by decide +kernel
theorem dX8_spoils_8 : decode cX8_spoils 8 = .ok (.bipush 22, 2) := by decide +kernel
theorem dX8_spoils_10 : decode cX8_spoils 10 = .ok (.iadd, 1) := by decide +kernel
theorem dX8_spoils_11 : decode cX8_spoils 11 = .ok (.iload_n 2, 1) := by decide +kernel
theorem dX8_spoils_12 : decode cX8_spoils 12 = .ok (.iadd, 1) := by decide +kernel
theorem dX8_spoils_13 : decode cX8_spoils 13 = .ok (.aload_n 0, 1) := by decide +kernel
theorem dX8_spoils_14 : decode cX8_spoils 14 = .ok (.iload_n 1, 1) := by decide +kernel
theorem dX8_spoils_15 : decode cX8_spoils 15 = .ok (.iload_n 2, 1) := by decide +kernel
theorem dX8_spoils_16 : decode cX8_spoils 16 = .ok (.invokevirtual 103, 3) := by decide +kernel
theorem dX8_spoils_19 : decode cX8_spoils 19 = .ok (.iload_n 3, 1) := by decide +kernel
theorem dX8_spoils_20 : decode cX8_spoils 20 = .ok (.iadd, 1) := by decide +kernel
theorem dX8_spoils_21 : decode cX8_spoils 21 = .ok (.sipush 1019, 3) := by decide +kernel
theorem dX8_spoils_24 : decode cX8_spoils 24 = .ok (.irem, 1) := by decide +kernel
theorem dX8_spoils_25 : decode cX8_spoils 25 = .ok (.iastore, 1) := by decide +kernel
theorem dX8_spoils_26 : decode cX8_spoils 26 = .ok (.return_, 1) := by decide +kernel
theorem dX8_spoil_0 : decode cX8_spoil 0 = .ok (.aload_n 0, 1) := by decide +kernel
theorem dX8_spoil_1 : decode cX8_spoil 1 = .ok (.iload_n 1, 1) := by decide +kernel
theorem dX8_spoil_2 : decode cX8_spoil 2 = .ok (.invokevirtual 39, 3) := by decide +kernel
theorem dX8_spoil_5 : decode cX8_spoil 5 = .ok (.ifCond .eq 22, 3) := by decide +kernel
theorem dX8_spoil_8 : decode cX8_spoil 8 = .ok (.aload_n 0, 1) := by decide +kernel
theorem dX8_spoil_9 : decode cX8_spoil 9 = .ok (.iload_n 2, 1) := by decide +kernel
theorem dX8_spoil_10 : decode cX8_spoil 10 = .ok (.invokevirtual 39, 3) := by decide +kernel
theorem dX8_spoil_13 : decode cX8_spoil 13 = .ok (.ifCond .eq 14, 3) := by decide +kernel
theorem dX8_spoil_16 : decode cX8_spoil 16 = .ok (.iload_n 3, 1) := by decide +kernel
theorem dX8_spoil_17 : decode cX8_spoil 17 = .ok (.iconst 1, 1) := by decide +kernel
theorem dX8_spoil_18 : decode cX8_spoil 18 = .ok (.sipush 1018, 3) := by decide +kernel
theorem dX8_spoil_21 : decode cX8_spoil 21 = .ok (.invokestatic 31, 3) := by decide +kernel
theorem dX8_spoil_24 : decode cX8_spoil 24 = .ok (.ifCond .ne 5, 3) := by decide +kernel
theorem dX8_spoil_27 : decode cX8_spoil 27 = .ok (.iconst (-1), 1) := by decide +kernel
theorem dX8_spoil_28 : decode cX8_spoil 28 = .ok (.ireturn, 1) := by decide +kernel
theorem dX8_spoil_29 : decode cX8_spoil 29 = .ok (.aload_n 0, 1) := by decide +kernel
theorem dX8_spoil_30 : decode cX8_spoil 30 = .ok (.iload_n 1, 1) := by decide +kernel
theorem dX8_spoil_31 : decode cX8_spoil 31 = .ok (.iload_n 2, 1) := by decide +kernel
theorem dX8_spoil_32 : decode cX8_spoil 32 = .ok (.invokevirtual 106, 3) := by decide +kernel
theorem dX8_spoil_35 : decode cX8_spoil 35 = .ok (.ifCond .ne 6, 3) := by decide +kernel
theorem dX8_spoil_38 : decode cX8_spoil 38 = .ok (.bipush (-9), 2) := by decide +kernel
theorem dX8_spoil_40 : decode cX8_spoil 40 = .ok (.ireturn, 1) := by decide +kernel
theorem dX8_spoil_41 : decode cX8_spoil 41 = .ok (.aload_n 0, 1) := by decide +kernel
theorem dX8_spoil_42 : decode cX8_spoil 42 = .ok (.invokevirtual 48, 3) := by decide +kernel
theorem dX8_spoil_45 : decode cX8_spoil 45 = .ok (.aload_n 0, 1) := by decide +kernel
theorem dX8_spoil_46 : decode cX8_spoil 46 = .ok (.iload_n 1, 1) := by decide +kernel
theorem dX8_spoil_47 : decode cX8_spoil 47 = .ok (.iload_n 2, 1) := by decide +kernel
theorem dX8_spoil_48 : decode cX8_spoil 48 = .ok (.iload_n 3, 1) := by decide +kernel
theorem dX8_spoil_49 : decode cX8_spoil 49 = .ok (.invokevirtual 109, 3) := by decide +kernel
theorem dX8_spoil_52 : decode cX8_spoil 52 = .ok (.aload_n 0, 1) := by decide +kernel
theorem dX8_spoil_53 : decode cX8_spoil 53 = .ok (.iload_n 1, 1) := by decide +kernel
theorem dX8_spoil_54 : decode cX8_spoil 54 = .ok (.iload_n 2, 1) := by decide +kernel
theorem dX8_spoil_55 : decode cX8_spoil 55 = .ok (.invokevirtual 103, 3) := by decide +kernel
theorem dX8_spoil_58 : decode cX8_spoil 58 = .ok (.ireturn, 1) := by decide +kernel
theorem dX8_complains_0 : decode cX8_complains 0 = .ok (.aload_n 0, 1) := by decide +kernel
theorem dX8_complains_1 : decode cX8_complains 1 = .ok (.iload_n 2, 1) := by decide +kernel
theorem dX8_complains_2 : decode cX8_complains 2 = .ok (.iload_n 1, 1) := by decide +kernel
theorem dX8_complains_3 : decode cX8_complains 3 = .ok (.invokevirtual 112, 3) := by decide +kernel
theorem dX8_complains_6 : decode cX8_complains 6 = .ok (.ifCond .eq 10, 3) := by decide +kernel
theorem dX8_complains_9 : decode cX8_complains 9 = .ok (.aload_n 0, 1) := by decide +kernel
theorem dX8_complains_10 : decode cX8_complains 10 = .ok (.iload_n 1, 1) := by decide +kernel
theorem dX8_complains_11 : decode cX8_complains 11 = .ok (.invokevirtual 115, 3) := by decide +kernel
theorem dX8_complains_14 : decode cX8_complains 14 = .ok (.iconst 0, 1) := by decide +kernel
theorem dX8_complains_15 : decode cX8_complains 15 = .ok (.ireturn, 1) := by decide +kernel
theorem dX8_complains_16 : decode cX8_complains 16 = .ok (.aload_n 0, 1) := by decide +kernel
theorem dX8_complains_17 : decode cX8_complains 17 = .ok (.iload_n 2, 1) := by decide +kernel
theorem dX8_complains_18 : decode cX8_complains 18 = .ok (.invokevirtual 115, 3) := by decide +kernel
theorem dX8_complains_21 : decode cX8_complains 21 = .ok (.aload_n 0, 1) := by decide +kernel
theorem dX8_complains_22 : decode cX8_complains 22 = .ok (.getfield 7, 3) := by decide +kernel
theorem dX8_complains_25 : decode cX8_complains 25 = .ok (.iload_n 2, 1) := by decide +kernel
theorem dX8_complains_26 : decode cX8_complains 26 = .ok (.invokestatic 35, 3) := by decide +kernel
theorem dX8_complains_29 : decode cX8_complains 29 = .ok (.iconst 5, 1) := by decide +kernel
theorem dX8_complains_30 : decode cX8_complains 30 = .ok (.iadd, 1) := by decide +kernel
theorem dX8_complains_31 : decode cX8_complains 31 = .ok (.iconst 0, 1) := by decide +kernel
theorem dX8_complains_32 : decode cX8_complains 32 = .ok (.iastore, 1) := by decide +kernel
theorem dX8_complains_33 : decode cX8_complains 33 = .ok (.aload_n 0, 1) := by decide +kernel
theorem dX8_complains_34 : decode cX8_complains 34 = .ok (.getfield 7, 3) := by decide +kernel
theorem dX8_complains_37 : decode cX8_complains 37 = .ok (.iload_n 2, 1) := by decide +kernel
theorem dX8_complains_38 : decode cX8_complains 38 = .ok (.invokestatic 35, 3) := by decide +kernel
theorem dX8_complains_41 : decode cX8_complains 41 = .ok (.bipush 8, 2) := by decide +kernel
theorem dX8_complains_43 : decode cX8_complains 43 = .ok (.iadd, 1) := by decide +kernel
theorem dX8_complains_44 : decode cX8_complains 44 = .ok (.iconst 1, 1) := by decide +kernel
theorem dX8_complains_45 : decode cX8_complains 45 = .ok (.iastore, 1) := by decide +kernel
theorem dX8_complains_46 : decode cX8_complains 46 = .ok (.aload_n 0, 1) := by decide +kernel
theorem dX8_complains_47 : decode cX8_complains 47 = .ok (.getfield 7, 3) := by decide +kernel
theorem dX8_complains_50 : decode cX8_complains 50 = .ok (.iload_n 2, 1) := by decide +kernel
theorem dX8_complains_51 : decode cX8_complains 51 = .ok (.invokestatic 35, 3) := by decide +kernel
theorem dX8_complains_54 : decode cX8_complains 54 = .ok (.iconst 3, 1) := by decide +kernel
theorem dX8_complains_55 : decode cX8_complains 55 = .ok (.iadd, 1) := by decide +kernel
theorem dX8_complains_56 : decode cX8_complains 56 = .ok (.dup2, 1) := by decide +kernel
theorem dX8_complains_57 : decode cX8_complains 57 = .ok (.iaload, 1) := by decide +kernel
theorem dX8_complains_58 : decode cX8_complains 58 = .ok (.iconst 1, 1) := by decide +kernel
theorem dX8_complains_59 : decode cX8_complains 59 = .ok (.iadd, 1) := by decide +kernel
theorem dX8_complains_60 : decode cX8_complains 60 = .ok (.iastore, 1) := by decide +kernel
theorem dX8_complains_61 : decode cX8_complains 61 = .ok (.iconst 1, 1) := by decide +kernel
theorem dX8_complains_62 : decode cX8_complains 62 = .ok (.ireturn, 1) := by decide +kernel
theorem dX8_complain_0 : decode cX8_complain 0 = .ok (.aload_n 0, 1) := by decide +kernel
theorem dX8_complain_1 : decode cX8_complain 1 = .ok (.iload_n 1, 1) := by decide +kernel
theorem dX8_complain_2 : decode cX8_complain 2 = .ok (.invokevirtual 39, 3) := by decide +kernel
theorem dX8_complain_5 : decode cX8_complain 5 = .ok (.ifCond .eq 16, 3) := by decide +kernel
theorem dX8_complain_8 : decode cX8_complain 8 = .ok (.aload_n 0, 1) := by decide +kernel
theorem dX8_complain_9 : decode cX8_complain 9 = .ok (.iload_n 2, 1) := by decide +kernel
theorem dX8_complain_10 : decode cX8_complain 10 = .ok (.invokevirtual 39, 3) := by decide +kernel
theorem dX8_complain_13 : decode cX8_complain 13 = .ok (.ifCond .eq 8, 3) := by decide +kernel
theorem dX8_complain_16 : decode cX8_complain 16 = .ok (.iload_n 1, 1) := by decide +kernel
theorem dX8_complain_17 : decode cX8_complain 17 = .ok (.iload_n 2, 1) := by decide +kernel
theorem dX8_complain_18 : decode cX8_complain 18 = .ok (.if_icmp .ne 5, 3) := by decide +kernel
theorem dX8_complain_21 : decode cX8_complain 21 = .ok (.iconst (-1), 1) := by decide +kernel
theorem dX8_complain_22 : decode cX8_complain 22 = .ok (.ireturn, 1) := by decide +kernel
theorem dX8_complain_23 : decode cX8_complain 23 = .ok (.aload_n 0, 1) := by decide +kernel
theorem dX8_complain_24 : decode cX8_complain 24 = .ok (.getfield 7, 3) := by decide +kernel
theorem dX8_complain_27 : decode cX8_complain 27 = .ok (.iconst 0, 1) := by decide +kernel
theorem dX8_complain_28 : decode cX8_complain 28 = .ok (.iaload, 1) := by decide +kernel
theorem dX8_complain_29 : decode cX8_complain 29 = .ok (.iconst 1, 1) := by decide +kernel
theorem dX8_complain_30 : decode cX8_complain 30 = .ok (.if_icmp .eq 6, 3) := by decide +kernel
theorem dX8_complain_33 : decode cX8_complain 33 = .ok (.bipush (-2), 2) := by decide +kernel
theorem dX8_complain_35 : decode cX8_complain 35 = .ok (.ireturn, 1) := by decide +kernel
theorem dX8_complain_36 : decode cX8_complain 36 = .ok (.aload_n 0, 1) := by decide +kernel
theorem dX8_complain_37 : decode cX8_complain 37 = .ok (.iload_n 2, 1) := by decide +kernel
theorem dX8_complain_38 : decode cX8_complain 38 = .ok (.iload_n 1, 1) := by decide +kernel
theorem dX8_complain_39 : decode cX8_complain 39 = .ok (.invokevirtual 106, 3) := by decide +kernel
theorem dX8_complain_42 : decode cX8_complain 42 = .ok (.ifCond .ne 6, 3) := by decide +kernel
theorem dX8_complain_45 : decode cX8_complain 45 = .ok (.bipush (-9), 2) := by decide +kernel
theorem dX8_complain_47 : decode cX8_complain 47 = .ok (.ireturn, 1) := by decide +kernel
theorem dX8_complain_48 : decode cX8_complain 48 = .ok (.aload_n 0, 1) := by decide +kernel
theorem dX8_complain_49 : decode cX8_complain 49 = .ok (.invokevirtual 48, 3) := by decide +kernel
theorem dX8_complain_52 : decode cX8_complain 52 = .ok (.aload_n 0, 1) := by decide +kernel
theorem dX8_complain_53 : decode cX8_complain 53 = .ok (.iload_n 1, 1) := by decide +kernel
theorem dX8_complain_54 : decode cX8_complain 54 = .ok (.iload_n 2, 1) := by decide +kernel
theorem dX8_complain_55 : decode cX8_complain 55 = .ok (.invokevirtual 118, 3) := by decide +kernel
theorem dX8_complain_58 : decode cX8_complain 58 = .ok (.ireturn, 1) := by decide +kernel
theorem dX8_ends_0 : decode cX8_ends 0 = .ok (.sipush 340, 3) := by decide +kernel
theorem dX8_ends_3 : decode cX8_ends 3 = .ok (.iconst 5, 1) := by decide +kernel
theorem dX8_ends_4 : decode cX8_ends 4 = .ok (.aload_n 0, 1) := by decide +kernel
theorem dX8_ends_5 : decode cX8_ends 5 = .ok (.getfield 7, 3) := by decide +kernel
theorem dX8_ends_8 : decode cX8_ends 8 = .ok (.iconst 1, 1) := by decide +kernel
theorem dX8_ends_9 : decode cX8_ends 9 = .ok (.iaload, 1) := by decide +kernel
theorem dX8_ends_10 : decode cX8_ends 10 = .ok (.bipush 16, 2) := by decide +kernel
theorem dX8_ends_12 : decode cX8_ends 12 = .ok (.irem, 1) := by decide +kernel
theorem dX8_ends_13 : decode cX8_ends 13 = .ok (.imul, 1) := by decide +kernel
theorem dX8_ends_14 : decode cX8_ends 14 = .ok (.iadd, 1) := by decide +kernel
theorem dX8_ends_15 : decode cX8_ends 15 = .ok (.istore 5, 2) := by decide +kernel
theorem dX8_ends_17 : decode cX8_ends 17 = .ok (.aload_n 0, 1) := by decide +kernel
theorem dX8_ends_18 : decode cX8_ends 18 = .ok (.getfield 7, 3) := by decide +kernel
theorem dX8_ends_21 : decode cX8_ends 21 = .ok (.iload 5, 2) := by decide +kernel
theorem dX8_ends_23 : decode cX8_ends 23 = .ok (.iconst 0, 1) := by decide +kernel
theorem dX8_ends_24 : decode cX8_ends 24 = .ok (.iadd, 1) := by decide +kernel
theorem dX8_ends_25 : decode cX8_ends 25 = .ok (.iload_n 1, 1) := by decide +kernel
theorem dX8_ends_26 : decode cX8_ends 26 = .ok (.iastore, 1) := by decide +kernel
theorem dX8_ends_27 : decode cX8_ends 27 = .ok (.aload_n 0, 1) := by decide +kernel
theorem dX8_ends_28 : decode cX8_ends 28 = .ok (.getfield 7, 3) := by decide +kernel
theorem dX8_ends_31 : decode cX8_ends 31 = .ok (.iload 5, 2) := by decide +kernel
theorem dX8_ends_33 : decode cX8_ends 33 = .ok (.iconst 1, 1) := by decide +kernel
theorem dX8_ends_34 : decode cX8_ends 34 = .ok (.iadd, 1) := by decide +kernel
theorem dX8_ends_35 : decode cX8_ends 35 = .ok (.iload 4, 2) := by decide +kernel
theorem dX8_ends_37 : decode cX8_ends 37 = .ok (.iastore, 1) := by decide +kernel
theorem dX8_ends_38 : decode cX8_ends 38 = .ok (.aload_n 0, 1) := by decide +kernel
theorem dX8_ends_39 : decode cX8_ends 39 = .ok (.getfield 7, 3) := by decide +kernel
theorem dX8_ends_42 : decode cX8_ends 42 = .ok (.iload 5, 2) := by decide +kernel
theorem dX8_ends_44 : decode cX8_ends 44 = .ok (.iconst 2, 1) := by decide +kernel
theorem dX8_ends_45 : decode cX8_ends 45 = .ok (.iadd, 1) := by decide +kernel
theorem dX8_ends_46 : decode cX8_ends 46 = .ok (.iload_n 3, 1) := by decide +kernel
theorem dX8_ends_47 : decode cX8_ends 47 = .ok (.iastore, 1) := by decide +kernel
theorem dX8_ends_48 : decode cX8_ends 48 = .ok (.aload_n 0, 1) := by decide +kernel
theorem dX8_ends_49 : decode cX8_ends 49 = .ok (.getfield 7, 3) := by decide +kernel
theorem dX8_ends_52 : decode cX8_ends 52 = .ok (.iload 5, 2) := by decide +kernel
theorem dX8_ends_54 : decode cX8_ends 54 = .ok (.iconst 3, 1) := by decide +kernel
theorem dX8_ends_55 : decode cX8_ends 55 = .ok (.iadd, 1) := by decide +kernel
theorem dX8_ends_56 : decode cX8_ends 56 = .ok (.aload_n 0, 1) := by decide +kernel
theorem dX8_ends_57 : decode cX8_ends 57 = .ok (.getfield 7, 3) := by decide +kernel
theorem dX8_ends_60 : decode cX8_ends 60 = .ok (.iconst 5, 1) := by decide +kernel
theorem dX8_ends_61 : decode cX8_ends 61 = .ok (.iaload, 1) := by decide +kernel
theorem dX8_ends_62 : decode cX8_ends 62 = .ok (.iastore, 1) := by decide +kernel
theorem dX8_ends_63 : decode cX8_ends 63 = .ok (.aload_n 0, 1) := by decide +kernel
theorem dX8_ends_64 : decode cX8_ends 64 = .ok (.getfield 7, 3) := by decide +kernel
theorem dX8_ends_67 : decode cX8_ends 67 = .ok (.iload 5, 2) := by decide +kernel
theorem dX8_ends_69 : decode cX8_ends 69 = .ok (.iconst 4, 1) := by decide +kernel
theorem dX8_ends_70 : decode cX8_ends 70 = .ok (.iadd, 1) := by decide +kernel
theorem dX8_ends_71 : decode cX8_ends 71 = .ok (.iload_n 2, 1) := by decide +kernel
theorem dX8_ends_72 : decode cX8_ends 72 = .ok (.iastore, 1) := by decide +kernel
theorem dX8_ends_73 : decode cX8_ends 73 = .ok (.aload_n 0, 1) := by decide +kernel
theorem dX8_ends_74 : decode cX8_ends 74 = .ok (.getfield 7, 3) := by decide +kernel
theorem dX8_ends_77 : decode cX8_ends 77 = .ok (.iconst 1, 1) := by decide +kernel
theorem dX8_ends_78 : decode cX8_ends 78 = .ok (.dup2, 1) := by decide +kernel
theorem dX8_ends_79 : decode cX8_ends 79 = .ok (.iaload, 1) := by decide +kernel
theorem dX8_ends_80 : decode cX8_ends 80 = .ok (.iconst 1, 1) := by decide +kernel
theorem dX8_ends_81 : decode cX8_ends 81 = .ok (.iadd, 1) := by decide +kernel
theorem dX8_ends_82 : decode cX8_ends 82 = .ok (.iastore, 1) := by decide +kernel
theorem dX8_ends_83 : decode cX8_ends 83 = .ok (.aload_n 0, 1) := by decide +kernel
theorem dX8_ends_84 : decode cX8_ends 84 = .ok (.getfield 7, 3) := by decide +kernel
theorem dX8_ends_87 : decode cX8_ends 87 = .ok (.iconst 0, 1) := by decide +kernel
theorem dX8_ends_88 : decode cX8_ends 88 = .ok (.iconst 0, 1) := by decide +kernel
theorem dX8_ends_89 : decode cX8_ends 89 = .ok (.iastore, 1) := by decide +kernel
theorem dX8_ends_90 : decode cX8_ends 90 = .ok (.aload_n 0, 1) := by decide +kernel
theorem dX8_ends_91 : decode cX8_ends 91 = .ok (.getfield 7, 3) := by decide +kernel
theorem dX8_ends_94 : decode cX8_ends 94 = .ok (.bipush 11, 2) := by decide +kernel
theorem dX8_ends_96 : decode cX8_ends 96 = .ok (.iload_n 1, 1) := by decide +kernel
theorem dX8_ends_97 : decode cX8_ends 97 = .ok (.ifCond .ge 7, 3) := by decide +kernel
theorem dX8_ends_100 : decode cX8_ends 100 = .ok (.iconst 0, 1) := by decide +kernel
theorem dX8_ends_101 : decode cX8_ends 101 = .ok (.goto 37, 3) := by decide +kernel
theorem dX8_ends_104 : decode cX8_ends 104 = .ok (.aload_n 0, 1) := by decide +kernel
theorem dX8_ends_105 : decode cX8_ends 105 = .ok (.getfield 7, 3) := by decide +kernel
theorem dX8_ends_108 : decode cX8_ends 108 = .ok (.bipush 11, 2) := by decide +kernel
theorem dX8_ends_110 : decode cX8_ends 110 = .ok (.iaload, 1) := by decide +kernel
theorem dX8_ends_111 : decode cX8_ends 111 = .ok (.ifCond .le 26, 3) := by decide +kernel
theorem dX8_ends_114 : decode cX8_ends 114 = .ok (.aload_n 0, 1) := by decide +kernel
theorem dX8_ends_115 : decode cX8_ends 115 = .ok (.getfield 7, 3) := by decide +kernel
theorem dX8_ends_118 : decode cX8_ends 118 = .ok (.bipush 12, 2) := by decide +kernel
theorem dX8_ends_120 : decode cX8_ends 120 = .ok (.iaload, 1) := by decide +kernel
theorem dX8_ends_121 : decode cX8_ends 121 = .ok (.iload_n 1, 1) := by decide +kernel
theorem dX8_ends_122 : decode cX8_ends 122 = .ok (.if_icmp .ne 15, 3) := by decide +kernel
theorem dX8_ends_125 : decode cX8_ends 125 = .ok (.aload_n 0, 1) := by decide +kernel
theorem dX8_ends_126 : decode cX8_ends 126 = .ok (.getfield 7, 3) := by decide +kernel
theorem dX8_ends_129 : decode cX8_ends 129 = .ok (.bipush 11, 2) := by decide +kernel
theorem dX8_ends_131 : decode cX8_ends 131 = .ok (.iaload, 1) := by decide +kernel
theorem dX8_ends_132 : decode cX8_ends 132 = .ok (.iconst 1, 1) := by decide +kernel
theorem dX8_ends_133 : decode cX8_ends 133 = .ok (.iadd, 1) := by decide +kernel
theorem dX8_ends_134 : decode cX8_ends 134 = .ok (.goto 4, 3) := by decide +kernel
theorem dX8_ends_137 : decode cX8_ends 137 = .ok (.iconst 1, 1) := by decide +kernel
theorem dX8_ends_138 : decode cX8_ends 138 = .ok (.iastore, 1) := by decide +kernel
theorem dX8_ends_139 : decode cX8_ends 139 = .ok (.aload_n 0, 1) := by decide +kernel
theorem dX8_ends_140 : decode cX8_ends 140 = .ok (.getfield 7, 3) := by decide +kernel
theorem dX8_ends_143 : decode cX8_ends 143 = .ok (.bipush 12, 2) := by decide +kernel
theorem dX8_ends_145 : decode cX8_ends 145 = .ok (.iload_n 1, 1) := by decide +kernel
theorem dX8_ends_146 : decode cX8_ends 146 = .ok (.iastore, 1) := by decide +kernel
theorem dX8_ends_147 : decode cX8_ends 147 = .ok (.aload_n 0, 1) := by decide +kernel
theorem dX8_ends_148 : decode cX8_ends 148 = .ok (.getfield 7, 3) := by decide +kernel
theorem dX8_ends_151 : decode cX8_ends 151 = .ok (.bipush 13, 2) := by decide +kernel
theorem dX8_ends_153 : decode cX8_ends 153 = .ok (.aload_n 0, 1) := by decide +kernel
theorem dX8_ends_154 : decode cX8_ends 154 = .ok (.getfield 7, 3) := by decide +kernel
theorem dX8_ends_157 : decode cX8_ends 157 = .ok (.bipush 11, 2) := by decide +kernel
theorem dX8_ends_159 : decode cX8_ends 159 = .ok (.iaload, 1) := by decide +kernel
theorem dX8_ends_160 : decode cX8_ends 160 = .ok (.aload_n 0, 1) := by decide +kernel
theorem dX8_ends_161 : decode cX8_ends 161 = .ok (.getfield 7, 3) := by decide +kernel
theorem dX8_ends_164 : decode cX8_ends 164 = .ok (.bipush 13, 2) := by decide +kernel
theorem dX8_ends_166 : decode cX8_ends 166 = .ok (.iaload, 1) := by decide +kernel
theorem dX8_ends_167 : decode cX8_ends 167 = .ok (.if_icmp .le 13, 3) := by decide +kernel
theorem dX8_ends_170 : decode cX8_ends 170 = .ok (.aload_n 0, 1) := by decide +kernel
theorem dX8_ends_171 : decode cX8_ends 171 = .ok (.getfield 7, 3) := by decide +kernel
theorem dX8_ends_174 : decode cX8_ends 174 = .ok (.bipush 11, 2) := by decide +kernel
theorem dX8_ends_176 : decode cX8_ends 176 = .ok (.iaload, 1) := by decide +kernel
theorem dX8_ends_177 : decode cX8_ends 177 = .ok (.goto 10, 3) := by decide +kernel
theorem dX8_ends_180 : decode cX8_ends 180 = .ok (.aload_n 0, 1) := by decide +kernel
theorem dX8_ends_181 : decode cX8_ends 181 = .ok (.getfield 7, 3) := by decide +kernel
theorem dX8_ends_184 : decode cX8_ends 184 = .ok (.bipush 13, 2) := by decide +kernel
theorem dX8_ends_186 : decode cX8_ends 186 = .ok (.iaload, 1) := by decide +kernel
theorem dX8_ends_187 : decode cX8_ends 187 = .ok (.iastore, 1) := by decide +kernel
theorem dX8_ends_188 : decode cX8_ends 188 = .ok (.aload_n 0, 1) := by decide +kernel
theorem dX8_ends_189 : decode cX8_ends 189 = .ok (.getfield 7, 3) := by decide +kernel
theorem dX8_ends_192 : decode cX8_ends 192 = .ok (.bipush 9, 2) := by decide +kernel
theorem dX8_ends_194 : decode cX8_ends 194 = .ok (.dup2, 1) := by decide +kernel
theorem dX8_ends_195 : decode cX8_ends 195 = .ok (.iaload, 1) := by decide +kernel
theorem dX8_ends_196 : decode cX8_ends 196 = .ok (.iload_n 1, 1) := by decide +kernel
theorem dX8_ends_197 : decode cX8_ends 197 = .ok (.ifCond .ne 7, 3) := by decide +kernel
theorem dX8_ends_200 : decode cX8_ends 200 = .ok (.iconst 1, 1) := by decide +kernel
theorem dX8_ends_201 : decode cX8_ends 201 = .ok (.goto 4, 3) := by decide +kernel
theorem dX8_ends_204 : decode cX8_ends 204 = .ok (.iconst 0, 1) := by decide +kernel
theorem dX8_ends_205 : decode cX8_ends 205 = .ok (.iadd, 1) := by decide +kernel
theorem dX8_ends_206 : decode cX8_ends 206 = .ok (.iastore, 1) := by decide +kernel
theorem dX8_ends_207 : decode cX8_ends 207 = .ok (.aload_n 0, 1) := by decide +kernel
theorem dX8_ends_208 : decode cX8_ends 208 = .ok (.getfield 7, 3) := by decide +kernel
theorem dX8_ends_211 : decode cX8_ends 211 = .ok (.bipush 10, 2) := by decide +kernel
theorem dX8_ends_213 : decode cX8_ends 213 = .ok (.dup2, 1) := by decide +kernel
theorem dX8_ends_214 : decode cX8_ends 214 = .ok (.iaload, 1) := by decide +kernel
theorem dX8_ends_215 : decode cX8_ends 215 = .ok (.iload_n 1, 1) := by decide +kernel
theorem dX8_ends_216 : decode cX8_ends 216 = .ok (.iconst 1, 1) := by decide +kernel
theorem dX8_ends_217 : decode cX8_ends 217 = .ok (.if_icmp .ne 7, 3) := by decide +kernel
theorem dX8_ends_220 : decode cX8_ends 220 = .ok (.iconst 1, 1) := by decide +kernel
theorem dX8_ends_221 : decode cX8_ends 221 = .ok (.goto 4, 3) := by decide +kernel
theorem dX8_ends_224 : decode cX8_ends 224 = .ok (.iconst 0, 1) := by decide +kernel
theorem dX8_ends_225 : decode cX8_ends 225 = .ok (.iadd, 1) := by decide +kernel
theorem dX8_ends_226 : decode cX8_ends 226 = .ok (.iastore, 1) := by decide +kernel
theorem dX8_ends_227 : decode cX8_ends 227 = .ok (.aload_n 0, 1) := by decide +kernel
theorem dX8_ends_228 : decode cX8_ends 228 = .ok (.getfield 7, 3) := by decide +kernel
theorem dX8_ends_231 : decode cX8_ends 231 = .ok (.iconst 3, 1) := by decide +kernel
theorem dX8_ends_232 : decode cX8_ends 232 = .ok (.iload_n 1, 1) := by decide +kernel
theorem dX8_ends_233 : decode cX8_ends 233 = .ok (.ifCond .ge 12, 3) := by decide +kernel
theorem dX8_ends_236 : decode cX8_ends 236 = .ok (.aload_n 0, 1) := by decide +kernel
theorem dX8_ends_237 : decode cX8_ends 237 = .ok (.getfield 7, 3) := by decide +kernel
theorem dX8_ends_240 : decode cX8_ends 240 = .ok (.iconst 3, 1) := by decide +kernel
theorem dX8_ends_241 : decode cX8_ends 241 = .ok (.iaload, 1) := by decide +kernel
theorem dX8_ends_242 : decode cX8_ends 242 = .ok (.goto 4, 3) := by decide +kernel
theorem dX8_ends_245 : decode cX8_ends 245 = .ok (.iload_n 2, 1) := by decide +kernel
theorem dX8_ends_246 : decode cX8_ends 246 = .ok (.iastore, 1) := by decide +kernel
theorem dX8_ends_247 : decode cX8_ends 247 = .ok (.return_, 1) := by decide +kernel
theorem dX8_opensUp_0 : decode cX8_opensUp 0 = .ok (.iconst 0, 1) := by decide +kernel
theorem dX8_opensUp_1 : decode cX8_opensUp 1 = .ok (.istore_n 1, 1) := by decide +kernel
theorem dX8_opensUp_2 : decode cX8_opensUp 2 = .ok (.iload_n 1, 1) := by decide +kernel
theorem dX8_opensUp_3 : decode cX8_opensUp 3 = .ok (.aload_n 0, 1) := by decide +kernel
theorem dX8_opensUp_4 : decode cX8_opensUp 4 = .ok (.getfield 7, 3) := by decide +kernel
theorem dX8_opensUp_7 : decode cX8_opensUp 7 = .ok (.iconst 4, 1) := by decide +kernel
theorem dX8_opensUp_8 : decode cX8_opensUp 8 = .ok (.iaload, 1) := by decide +kernel
theorem dX8_opensUp_9 : decode cX8_opensUp 9 = .ok (.if_icmp .ge 45, 3) := by decide +kernel
theorem dX8_opensUp_12 : decode cX8_opensUp 12 = .ok (.aload_n 0, 1) := by decide +kernel
theorem dX8_opensUp_13 : decode cX8_opensUp 13 = .ok (.getfield 7, 3) := by decide +kernel
theorem dX8_opensUp_16 : decode cX8_opensUp 16 = .ok (.iload_n 1, 1) := by decide +kernel
theorem dX8_opensUp_17 : decode cX8_opensUp 17 = .ok (.invokestatic 35, 3) := by decide +kernel
theorem dX8_opensUp_20 : decode cX8_opensUp 20 = .ok (.iconst 5, 1) := by decide +kernel
theorem dX8_opensUp_21 : decode cX8_opensUp 21 = .ok (.iadd, 1) := by decide +kernel
theorem dX8_opensUp_22 : decode cX8_opensUp 22 = .ok (.aload_n 0, 1) := by decide +kernel
theorem dX8_opensUp_23 : decode cX8_opensUp 23 = .ok (.iload_n 1, 1) := by decide +kernel
theorem dX8_opensUp_24 : decode cX8_opensUp 24 = .ok (.bipush 6, 2) := by decide +kernel
theorem dX8_opensUp_26 : decode cX8_opensUp 26 = .ok (.invokevirtual 43, 3) := by decide +kernel
theorem dX8_opensUp_29 : decode cX8_opensUp 29 = .ok (.ifCond .eq 17, 3) := by decide +kernel
theorem dX8_opensUp_32 : decode cX8_opensUp 32 = .ok (.aload_n 0, 1) := by decide +kernel
theorem dX8_opensUp_33 : decode cX8_opensUp 33 = .ok (.getfield 7, 3) := by decide +kernel
theorem dX8_opensUp_36 : decode cX8_opensUp 36 = .ok (.iload_n 1, 1) := by decide +kernel
theorem dX8_opensUp_37 : decode cX8_opensUp 37 = .ok (.invokestatic 35, 3) := by decide +kernel
theorem dX8_opensUp_40 : decode cX8_opensUp 40 = .ok (.iconst 5, 1) := by decide +kernel
theorem dX8_opensUp_41 : decode cX8_opensUp 41 = .ok (.iadd, 1) := by decide +kernel
theorem dX8_opensUp_42 : decode cX8_opensUp 42 = .ok (.iaload, 1) := by decide +kernel
theorem dX8_opensUp_43 : decode cX8_opensUp 43 = .ok (.goto 4, 3) := by decide +kernel
theorem dX8_opensUp_46 : decode cX8_opensUp 46 = .ok (.iconst 0, 1) := by decide +kernel
theorem dX8_opensUp_47 : decode cX8_opensUp 47 = .ok (.iastore, 1) := by decide +kernel
theorem dX8_opensUp_48 : decode cX8_opensUp 48 = .ok (.iinc 1 1, 3) := by decide +kernel
theorem dX8_opensUp_51 : decode cX8_opensUp 51 = .ok (.goto (-49), 3) := by decide +kernel
theorem dX8_opensUp_54 : decode cX8_opensUp 54 = .ok (.aload_n 0, 1) := by decide +kernel
theorem dX8_opensUp_55 : decode cX8_opensUp 55 = .ok (.iconst 5, 1) := by decide +kernel
theorem dX8_opensUp_56 : decode cX8_opensUp 56 = .ok (.invokevirtual 121, 3) := by decide +kernel
theorem dX8_opensUp_59 : decode cX8_opensUp 59 = .ok (.istore_n 1, 1) := by decide +kernel
theorem dX8_opensUp_60 : decode cX8_opensUp 60 = .ok (.iload_n 1, 1) := by decide +kernel
theorem dX8_opensUp_61 : decode cX8_opensUp 61 = .ok (.invokestatic 124, 3) := by decide +kernel
theorem dX8_opensUp_64 : decode cX8_opensUp 64 = .ok (.iconst 2, 1) := by decide +kernel
theorem dX8_opensUp_65 : decode cX8_opensUp 65 = .ok (.if_icmp .ge 15, 3) := by decide +kernel
theorem dX8_opensUp_68 : decode cX8_opensUp 68 = .ok (.aload_n 0, 1) := by decide +kernel
theorem dX8_opensUp_69 : decode cX8_opensUp 69 = .ok (.bipush (-5), 2) := by decide +kernel
theorem dX8_opensUp_71 : decode cX8_opensUp 71 = .ok (.iconst 0, 1) := by decide +kernel
theorem dX8_opensUp_72 : decode cX8_opensUp 72 = .ok (.iconst 0, 1) := by decide +kernel
theorem dX8_opensUp_73 : decode cX8_opensUp 73 = .ok (.iload_n 1, 1) := by decide +kernel
theorem dX8_opensUp_74 : decode cX8_opensUp 74 = .ok (.invokevirtual 127, 3) := by decide +kernel
theorem dX8_opensUp_77 : decode cX8_opensUp 77 = .ok (.bipush (-5), 2) := by decide +kernel
theorem dX8_opensUp_79 : decode cX8_opensUp 79 = .ok (.ireturn, 1) := by decide +kernel
theorem dX8_opensUp_80 : decode cX8_opensUp 80 = .ok (.aload_n 0, 1) := by decide +kernel
theorem dX8_opensUp_81 : decode cX8_opensUp 81 = .ok (.getfield 7, 3) := by decide +kernel
theorem dX8_opensUp_84 : decode cX8_opensUp 84 = .ok (.iconst 0, 1) := by decide +kernel
theorem dX8_opensUp_85 : decode cX8_opensUp 85 = .ok (.iconst 2, 1) := by decide +kernel
theorem dX8_opensUp_86 : decode cX8_opensUp 86 = .ok (.iastore, 1) := by decide +kernel
theorem dX8_opensUp_87 : decode cX8_opensUp 87 = .ok (.iload_n 1, 1) := by decide +kernel
theorem dX8_opensUp_88 : decode cX8_opensUp 88 = .ok (.invokestatic 124, 3) := by decide +kernel
theorem dX8_opensUp_91 : decode cX8_opensUp 91 = .ok (.ireturn, 1) := by decide +kernel
theorem dX8_beginOpening_0 : decode cX8_beginOpening 0 = .ok (.aload_n 0, 1) := by decide +kernel
theorem dX8_beginOpening_1 : decode cX8_beginOpening 1 = .ok (.getfield 7, 3) := by decide +kernel
theorem dX8_beginOpening_4 : decode cX8_beginOpening 4 = .ok (.iconst 0, 1) := by decide +kernel
theorem dX8_beginOpening_5 : decode cX8_beginOpening 5 = .ok (.iaload, 1) := by decide +kernel
theorem dX8_beginOpening_6 : decode cX8_beginOpening 6 = .ok (.iconst 1, 1) := by decide +kernel
theorem dX8_beginOpening_7 : decode cX8_beginOpening 7 = .ok (.if_icmp .eq 6, 3) := by decide +kernel
theorem dX8_beginOpening_10 : decode cX8_beginOpening 10 = .ok (.bipush (-2), 2) := by decide +kernel
theorem dX8_beginOpening_12 : decode cX8_beginOpening 12 = .ok (.ireturn, 1) := by decide +kernel
theorem dX8_beginOpening_13 : decode cX8_beginOpening 13 = .ok (.aload_n 0, 1) := by decide +kernel
theorem dX8_beginOpening_14 : decode cX8_beginOpening 14 = .ok (.invokevirtual 48, 3) := by decide +kernel
theorem dX8_beginOpening_17 : decode cX8_beginOpening 17 = .ok (.aload_n 0, 1) := by decide +kernel
theorem dX8_beginOpening_18 : decode cX8_beginOpening 18 = .ok (.invokevirtual 131, 3) := by decide +kernel
theorem dX8_beginOpening_21 : decode cX8_beginOpening 21 = .ok (.ireturn, 1) := by decide +kernel
theorem dX8_open_0 : decode cX8_open 0 = .ok (.aload_n 0, 1) := by decide +kernel
theorem dX8_open_1 : decode cX8_open 1 = .ok (.iload_n 1, 1) := by decide +kernel
theorem dX8_open_2 : decode cX8_open 2 = .ok (.invokevirtual 39, 3) := by decide +kernel
theorem dX8_open_5 : decode cX8_open 5 = .ok (.ifCond .ne 5, 3) := by decide +kernel
theorem dX8_open_8 : decode cX8_open 8 = .ok (.iconst (-1), 1) := by decide +kernel
theorem dX8_open_9 : decode cX8_open 9 = .ok (.ireturn, 1) := by decide +kernel
theorem dX8_open_10 : decode cX8_open 10 = .ok (.aload_n 0, 1) := by decide +kernel
theorem dX8_open_11 : decode cX8_open 11 = .ok (.getfield 7, 3) := by decide +kernel
theorem dX8_open_14 : decode cX8_open 14 = .ok (.iconst 0, 1) := by decide +kernel
theorem dX8_open_15 : decode cX8_open 15 = .ok (.iaload, 1) := by decide +kernel
theorem dX8_open_16 : decode cX8_open 16 = .ok (.iconst 2, 1) := by decide +kernel
theorem dX8_open_17 : decode cX8_open 17 = .ok (.if_icmp .ne 22, 3) := by decide +kernel
theorem dX8_open_20 : decode cX8_open 20 = .ok (.aload_n 0, 1) := by decide +kernel
theorem dX8_open_21 : decode cX8_open 21 = .ok (.iload_n 1, 1) := by decide +kernel
theorem dX8_open_22 : decode cX8_open 22 = .ok (.iconst 5, 1) := by decide +kernel
theorem dX8_open_23 : decode cX8_open 23 = .ok (.invokevirtual 43, 3) := by decide +kernel
theorem dX8_open_26 : decode cX8_open 26 = .ok (.ifCond .eq 13, 3) := by decide +kernel
theorem dX8_open_29 : decode cX8_open 29 = .ok (.aload_n 0, 1) := by decide +kernel
theorem dX8_open_30 : decode cX8_open 30 = .ok (.iload_n 1, 1) := by decide +kernel
theorem dX8_open_31 : decode cX8_open 31 = .ok (.bipush 7, 2) := by decide +kernel
theorem dX8_open_33 : decode cX8_open 33 = .ok (.invokevirtual 43, 3) := by decide +kernel
theorem dX8_open_36 : decode cX8_open 36 = .ok (.ifCond .eq 6, 3) := by decide +kernel
theorem dX8_open_39 : decode cX8_open 39 = .ok (.bipush (-2), 2) := by decide +kernel
theorem dX8_open_41 : decode cX8_open 41 = .ok (.ireturn, 1) := by decide +kernel
theorem dX8_open_42 : decode cX8_open 42 = .ok (.aload_n 0, 1) := by decide +kernel
theorem dX8_open_43 : decode cX8_open 43 = .ok (.invokevirtual 48, 3) := by decide +kernel
theorem dX8_open_46 : decode cX8_open 46 = .ok (.aload_n 0, 1) := by decide +kernel
theorem dX8_open_47 : decode cX8_open 47 = .ok (.getfield 7, 3) := by decide +kernel
theorem dX8_open_50 : decode cX8_open 50 = .ok (.iload_n 1, 1) := by decide +kernel
theorem dX8_open_51 : decode cX8_open 51 = .ok (.invokestatic 35, 3) := by decide +kernel
theorem dX8_open_54 : decode cX8_open 54 = .ok (.bipush 9, 2) := by decide +kernel
theorem dX8_open_56 : decode cX8_open 56 = .ok (.iadd, 1) := by decide +kernel
theorem dX8_open_57 : decode cX8_open 57 = .ok (.iaload, 1) := by decide +kernel
theorem dX8_open_58 : decode cX8_open 58 = .ok (.iload_n 2, 1) := by decide +kernel
theorem dX8_open_59 : decode cX8_open 59 = .ok (.if_icmp .ne 23, 3) := by decide +kernel
theorem dX8_open_62 : decode cX8_open 62 = .ok (.aload_n 0, 1) := by decide +kernel
theorem dX8_open_63 : decode cX8_open 63 = .ok (.getfield 7, 3) := by decide +kernel
theorem dX8_open_66 : decode cX8_open 66 = .ok (.iload_n 1, 1) := by decide +kernel
theorem dX8_open_67 : decode cX8_open 67 = .ok (.invokestatic 35, 3) := by decide +kernel
theorem dX8_open_70 : decode cX8_open 70 = .ok (.bipush 10, 2) := by decide +kernel
theorem dX8_open_72 : decode cX8_open 72 = .ok (.iadd, 1) := by decide +kernel
theorem dX8_open_73 : decode cX8_open 73 = .ok (.iaload, 1) := by decide +kernel
theorem dX8_open_74 : decode cX8_open 74 = .ok (.iload_n 3, 1) := by decide +kernel
theorem dX8_open_75 : decode cX8_open 75 = .ok (.if_icmp .ne 7, 3) := by decide +kernel
theorem dX8_open_78 : decode cX8_open 78 = .ok (.iconst 1, 1) := by decide +kernel
theorem dX8_open_79 : decode cX8_open 79 = .ok (.goto 4, 3) := by decide +kernel
theorem dX8_open_82 : decode cX8_open 82 = .ok (.iconst 0, 1) := by decide +kernel
theorem dX8_open_83 : decode cX8_open 83 = .ok (.istore 4, 2) := by decide +kernel
theorem dX8_open_85 : decode cX8_open 85 = .ok (.aload_n 0, 1) := by decide +kernel
theorem dX8_open_86 : decode cX8_open 86 = .ok (.getfield 7, 3) := by decide +kernel
theorem dX8_open_89 : decode cX8_open 89 = .ok (.iload_n 1, 1) := by decide +kernel
theorem dX8_open_90 : decode cX8_open 90 = .ok (.invokestatic 35, 3) := by decide +kernel
theorem dX8_open_93 : decode cX8_open 93 = .ok (.bipush 7, 2) := by decide +kernel
theorem dX8_open_95 : decode cX8_open 95 = .ok (.iadd, 1) := by decide +kernel
theorem dX8_open_96 : decode cX8_open 96 = .ok (.iload 4, 2) := by decide +kernel
theorem dX8_open_98 : decode cX8_open 98 = .ok (.ifCond .eq 7, 3) := by decide +kernel
theorem dX8_open_101 : decode cX8_open 101 = .ok (.iconst 1, 1) := by decide +kernel
theorem dX8_open_102 : decode cX8_open 102 = .ok (.goto 4, 3) := by decide +kernel
theorem dX8_open_105 : decode cX8_open 105 = .ok (.iconst 0, 1) := by decide +kernel
theorem dX8_open_106 : decode cX8_open 106 = .ok (.iastore, 1) := by decide +kernel
theorem dX8_open_107 : decode cX8_open 107 = .ok (.iload 4, 2) := by decide +kernel
theorem dX8_open_109 : decode cX8_open 109 = .ok (.ifCond .eq 7, 3) := by decide +kernel
theorem dX8_open_112 : decode cX8_open 112 = .ok (.iconst 1, 1) := by decide +kernel
theorem dX8_open_113 : decode cX8_open 113 = .ok (.goto 4, 3) := by decide +kernel
theorem dX8_open_116 : decode cX8_open 116 = .ok (.iconst 0, 1) := by decide +kernel
theorem dX8_open_117 : decode cX8_open 117 = .ok (.ireturn, 1) := by decide +kernel
theorem dX8_takesSecrets_0 : decode cX8_takesSecrets 0 = .ok (.iconst 0, 1) := by decide +kernel
theorem dX8_takesSecrets_1 : decode cX8_takesSecrets 1 = .ok (.istore_n 1, 1) := by decide +kernel
theorem dX8_takesSecrets_2 : decode cX8_takesSecrets 2 = .ok (.iload_n 1, 1) := by decide +kernel
theorem dX8_takesSecrets_3 : decode cX8_takesSecrets 3 = .ok (.aload_n 0, 1) := by decide +kernel
theorem dX8_takesSecrets_4 : decode cX8_takesSecrets 4 = .ok (.getfield 7, 3) := by decide +kernel
theorem dX8_takesSecrets_7 : decode cX8_takesSecrets 7 = .ok (.iconst 4, 1) := by decide +kernel
theorem dX8_takesSecrets_8 : decode cX8_takesSecrets 8 = .ok (.iaload, 1) := by decide +kernel
theorem dX8_takesSecrets_9 : decode cX8_takesSecrets 9 = .ok (.if_icmp .ge 27, 3) := by decide +kernel
theorem dX8_takesSecrets_12 : decode cX8_takesSecrets 12 = .ok (.aload_n 0, 1) := by decide +kernel
theorem dX8_takesSecrets_13 : decode cX8_takesSecrets 13 = .ok (.getfield 16, 3) := by decide +kernel
theorem dX8_takesSecrets_16 : decode cX8_takesSecrets 16 = .ok (.iload_n 1, 1) := by decide +kernel
theorem dX8_takesSecrets_17 : decode cX8_takesSecrets 17 = .ok (.aload_n 0, 1) := by decide +kernel
theorem dX8_takesSecrets_18 : decode cX8_takesSecrets 18 = .ok (.getfield 7, 3) := by decide +kernel
theorem dX8_takesSecrets_21 : decode cX8_takesSecrets 21 = .ok (.iload_n 1, 1) := by decide +kernel
theorem dX8_takesSecrets_22 : decode cX8_takesSecrets 22 = .ok (.invokestatic 35, 3) := by decide +kernel
theorem dX8_takesSecrets_25 : decode cX8_takesSecrets 25 = .ok (.bipush 9, 2) := by decide +kernel
theorem dX8_takesSecrets_27 : decode cX8_takesSecrets 27 = .ok (.iadd, 1) := by decide +kernel
theorem dX8_takesSecrets_28 : decode cX8_takesSecrets 28 = .ok (.iaload, 1) := by decide +kernel
theorem dX8_takesSecrets_29 : decode cX8_takesSecrets 29 = .ok (.iastore, 1) := by decide +kernel
theorem dX8_takesSecrets_30 : decode cX8_takesSecrets 30 = .ok (.iinc 1 1, 3) := by decide +kernel
theorem dX8_takesSecrets_33 : decode cX8_takesSecrets 33 = .ok (.goto (-31), 3) := by decide +kernel
theorem dX8_takesSecrets_36 : decode cX8_takesSecrets 36 = .ok (.return_, 1) := by decide +kernel
theorem dX8_rightOnes_0 : decode cX8_rightOnes 0 = .ok (.iconst 0, 1) := by decide +kernel
theorem dX8_rightOnes_1 : decode cX8_rightOnes 1 = .ok (.istore_n 3, 1) := by decide +kernel
theorem dX8_rightOnes_2 : decode cX8_rightOnes 2 = .ok (.iconst 0, 1) := by decide +kernel
theorem dX8_rightOnes_3 : decode cX8_rightOnes 3 = .ok (.istore 4, 2) := by decide +kernel
theorem dX8_rightOnes_5 : decode cX8_rightOnes 5 = .ok (.iload 4, 2) := by decide +kernel
theorem dX8_rightOnes_7 : decode cX8_rightOnes 7 = .ok (.aload_n 0, 1) := by decide +kernel
theorem dX8_rightOnes_8 : decode cX8_rightOnes 8 = .ok (.getfield 7, 3) := by decide +kernel
theorem dX8_rightOnes_11 : decode cX8_rightOnes 11 = .ok (.iconst 4, 1) := by decide +kernel
theorem dX8_rightOnes_12 : decode cX8_rightOnes 12 = .ok (.iaload, 1) := by decide +kernel
theorem dX8_rightOnes_13 : decode cX8_rightOnes 13 = .ok (.if_icmp .ge 37, 3) := by decide +kernel
theorem dX8_rightOnes_16 : decode cX8_rightOnes 16 = .ok (.iload_n 3, 1) := by decide +kernel
theorem dX8_rightOnes_17 : decode cX8_rightOnes 17 = .ok (.iload_n 2, 1) := by decide +kernel
theorem dX8_rightOnes_18 : decode cX8_rightOnes 18 = .ok (.iload 4, 2) := by decide +kernel
theorem dX8_rightOnes_20 : decode cX8_rightOnes 20 = .ok (.ishr, 1) := by decide +kernel
theorem dX8_rightOnes_21 : decode cX8_rightOnes 21 = .ok (.iconst 1, 1) := by decide +kernel
theorem dX8_rightOnes_22 : decode cX8_rightOnes 22 = .ok (.iand, 1) := by decide +kernel
theorem dX8_rightOnes_23 : decode cX8_rightOnes 23 = .ok (.iconst 1, 1) := by decide +kernel
theorem dX8_rightOnes_24 : decode cX8_rightOnes 24 = .ok (.if_icmp .ne 17, 3) := by decide +kernel
theorem dX8_rightOnes_27 : decode cX8_rightOnes 27 = .ok (.aload_n 0, 1) := by decide +kernel
theorem dX8_rightOnes_28 : decode cX8_rightOnes 28 = .ok (.iload_n 1, 1) := by decide +kernel
theorem dX8_rightOnes_29 : decode cX8_rightOnes 29 = .ok (.iload 4, 2) := by decide +kernel
theorem dX8_rightOnes_31 : decode cX8_rightOnes 31 = .ok (.invokevirtual 112, 3) := by decide +kernel
theorem dX8_rightOnes_34 : decode cX8_rightOnes 34 = .ok (.ifCond .eq 7, 3) := by decide +kernel
theorem dX8_rightOnes_37 : decode cX8_rightOnes 37 = .ok (.iconst 1, 1) := by decide +kernel
theorem dX8_rightOnes_38 : decode cX8_rightOnes 38 = .ok (.goto 4, 3) := by decide +kernel
theorem dX8_rightOnes_41 : decode cX8_rightOnes 41 = .ok (.iconst 0, 1) := by decide +kernel
theorem dX8_rightOnes_42 : decode cX8_rightOnes 42 = .ok (.iadd, 1) := by decide +kernel
theorem dX8_rightOnes_43 : decode cX8_rightOnes 43 = .ok (.istore_n 3, 1) := by decide +kernel
theorem dX8_rightOnes_44 : decode cX8_rightOnes 44 = .ok (.iinc 4 1, 3) := by decide +kernel
theorem dX8_rightOnes_47 : decode cX8_rightOnes 47 = .ok (.goto (-42), 3) := by decide +kernel
theorem dX8_rightOnes_50 : decode cX8_rightOnes 50 = .ok (.iload_n 3, 1) := by decide +kernel
theorem dX8_rightOnes_51 : decode cX8_rightOnes 51 = .ok (.ireturn, 1) := by decide +kernel
theorem dX8_outputOf_0 : decode cX8_outputOf 0 = .ok (.aload_n 0, 1) := by decide +kernel
theorem dX8_outputOf_1 : decode cX8_outputOf 1 = .ok (.getfield 7, 3) := by decide +kernel
theorem dX8_outputOf_4 : decode cX8_outputOf 4 = .ok (.iconst 3, 1) := by decide +kernel
theorem dX8_outputOf_5 : decode cX8_outputOf 5 = .ok (.iaload, 1) := by decide +kernel
theorem dX8_outputOf_6 : decode cX8_outputOf 6 = .ok (.istore_n 2, 1) := by decide +kernel
theorem dX8_outputOf_7 : decode cX8_outputOf 7 = .ok (.aload_n 0, 1) := by decide +kernel
theorem dX8_outputOf_8 : decode cX8_outputOf 8 = .ok (.iconst 0, 1) := by decide +kernel
theorem dX8_outputOf_9 : decode cX8_outputOf 9 = .ok (.putfield 134, 3) := by decide +kernel
theorem dX8_outputOf_12 : decode cX8_outputOf 12 = .ok (.iconst 0, 1) := by decide +kernel
theorem dX8_outputOf_13 : decode cX8_outputOf 13 = .ok (.istore_n 3, 1) := by decide +kernel
theorem dX8_outputOf_14 : decode cX8_outputOf 14 = .ok (.iload_n 3, 1) := by decide +kernel
theorem dX8_outputOf_15 : decode cX8_outputOf 15 = .ok (.aload_n 0, 1) := by decide +kernel
theorem dX8_outputOf_16 : decode cX8_outputOf 16 = .ok (.getfield 7, 3) := by decide +kernel
theorem dX8_outputOf_19 : decode cX8_outputOf 19 = .ok (.iconst 4, 1) := by decide +kernel
theorem dX8_outputOf_20 : decode cX8_outputOf 20 = .ok (.iaload, 1) := by decide +kernel
theorem dX8_outputOf_21 : decode cX8_outputOf 21 = .ok (.if_icmp .ge 110, 3) := by decide +kernel
theorem dX8_outputOf_24 : decode cX8_outputOf 24 = .ok (.aload_n 0, 1) := by decide +kernel
theorem dX8_outputOf_25 : decode cX8_outputOf 25 = .ok (.iload_n 3, 1) := by decide +kernel
theorem dX8_outputOf_26 : decode cX8_outputOf 26 = .ok (.iconst 5, 1) := by decide +kernel
theorem dX8_outputOf_27 : decode cX8_outputOf 27 = .ok (.invokevirtual 43, 3) := by decide +kernel
theorem dX8_outputOf_30 : decode cX8_outputOf 30 = .ok (.ifCond .eq 95, 3) := by decide +kernel
theorem dX8_outputOf_33 : decode cX8_outputOf 33 = .ok (.iload_n 1, 1) := by decide +kernel
theorem dX8_outputOf_34 : decode cX8_outputOf 34 = .ok (.iload_n 3, 1) := by decide +kernel
theorem dX8_outputOf_35 : decode cX8_outputOf 35 = .ok (.ishr, 1) := by decide +kernel
theorem dX8_outputOf_36 : decode cX8_outputOf 36 = .ok (.iconst 1, 1) := by decide +kernel
theorem dX8_outputOf_37 : decode cX8_outputOf 37 = .ok (.iand, 1) := by decide +kernel
theorem dX8_outputOf_38 : decode cX8_outputOf 38 = .ok (.iconst 1, 1) := by decide +kernel
theorem dX8_outputOf_39 : decode cX8_outputOf 39 = .ok (.if_icmp .ne 7, 3) := by decide +kernel
theorem dX8_outputOf_42 : decode cX8_outputOf 42 = .ok (.iconst 1, 1) := by decide +kernel
theorem dX8_outputOf_43 : decode cX8_outputOf 43 = .ok (.goto 4, 3) := by decide +kernel
theorem dX8_outputOf_46 : decode cX8_outputOf 46 = .ok (.iconst 0, 1) := by decide +kernel
theorem dX8_outputOf_47 : decode cX8_outputOf 47 = .ok (.istore 4, 2) := by decide +kernel
theorem dX8_outputOf_49 : decode cX8_outputOf 49 = .ok (.aload_n 0, 1) := by decide +kernel
theorem dX8_outputOf_50 : decode cX8_outputOf 50 = .ok (.aload_n 0, 1) := by decide +kernel
theorem dX8_outputOf_51 : decode cX8_outputOf 51 = .ok (.getfield 134, 3) := by decide +kernel
theorem dX8_outputOf_54 : decode cX8_outputOf 54 = .ok (.ifCond .ne 34, 3) := by decide +kernel
theorem dX8_outputOf_57 : decode cX8_outputOf 57 = .ok (.iload 4, 2) := by decide +kernel
theorem dX8_outputOf_59 : decode cX8_outputOf 59 = .ok (.ifCond .ne 33, 3) := by decide +kernel
theorem dX8_outputOf_62 : decode cX8_outputOf 62 = .ok (.aload_n 0, 1) := by decide +kernel
theorem dX8_outputOf_63 : decode cX8_outputOf 63 = .ok (.getfield 7, 3) := by decide +kernel
theorem dX8_outputOf_66 : decode cX8_outputOf 66 = .ok (.iconst 5, 1) := by decide +kernel
theorem dX8_outputOf_67 : decode cX8_outputOf 67 = .ok (.iaload, 1) := by decide +kernel
theorem dX8_outputOf_68 : decode cX8_outputOf 68 = .ok (.iconst 1, 1) := by decide +kernel
theorem dX8_outputOf_69 : decode cX8_outputOf 69 = .ok (.if_icmp .ne 23, 3) := by decide +kernel
theorem dX8_outputOf_72 : decode cX8_outputOf 72 = .ok (.aload_n 0, 1) := by decide +kernel
theorem dX8_outputOf_73 : decode cX8_outputOf 73 = .ok (.iload_n 3, 1) := by decide +kernel
theorem dX8_outputOf_74 : decode cX8_outputOf 74 = .ok (.iload_n 1, 1) := by decide +kernel
theorem dX8_outputOf_75 : decode cX8_outputOf 75 = .ok (.invokevirtual 138, 3) := by decide +kernel
theorem dX8_outputOf_78 : decode cX8_outputOf 78 = .ok (.aload_n 0, 1) := by decide +kernel
theorem dX8_outputOf_79 : decode cX8_outputOf 79 = .ok (.getfield 7, 3) := by decide +kernel
theorem dX8_outputOf_82 : decode cX8_outputOf 82 = .ok (.bipush 6, 2) := by decide +kernel
theorem dX8_outputOf_84 : decode cX8_outputOf 84 = .ok (.iaload, 1) := by decide +kernel
theorem dX8_outputOf_85 : decode cX8_outputOf 85 = .ok (.if_icmp .ge 7, 3) := by decide +kernel
theorem dX8_outputOf_88 : decode cX8_outputOf 88 = .ok (.iconst 1, 1) := by decide +kernel
theorem dX8_outputOf_89 : decode cX8_outputOf 89 = .ok (.goto 4, 3) := by decide +kernel
theorem dX8_outputOf_92 : decode cX8_outputOf 92 = .ok (.iconst 0, 1) := by decide +kernel
theorem dX8_outputOf_93 : decode cX8_outputOf 93 = .ok (.putfield 134, 3) := by decide +kernel
theorem dX8_outputOf_96 : decode cX8_outputOf 96 = .ok (.iload_n 2, 1) := by decide +kernel
theorem dX8_outputOf_97 : decode cX8_outputOf 97 = .ok (.iload 4, 2) := by decide +kernel
theorem dX8_outputOf_99 : decode cX8_outputOf 99 = .ok (.ifCond .ne 12, 3) := by decide +kernel
theorem dX8_outputOf_102 : decode cX8_outputOf 102 = .ok (.aload_n 0, 1) := by decide +kernel
theorem dX8_outputOf_103 : decode cX8_outputOf 103 = .ok (.getfield 7, 3) := by decide +kernel
theorem dX8_outputOf_106 : decode cX8_outputOf 106 = .ok (.iconst 5, 1) := by decide +kernel
theorem dX8_outputOf_107 : decode cX8_outputOf 107 = .ok (.iaload, 1) := by decide +kernel
theorem dX8_outputOf_108 : decode cX8_outputOf 108 = .ok (.ifCond .eq 12, 3) := by decide +kernel
theorem dX8_outputOf_111 : decode cX8_outputOf 111 = .ok (.aload_n 0, 1) := by decide +kernel
theorem dX8_outputOf_112 : decode cX8_outputOf 112 = .ok (.getfield 16, 3) := by decide +kernel
theorem dX8_outputOf_115 : decode cX8_outputOf 115 = .ok (.iload_n 3, 1) := by decide +kernel
theorem dX8_outputOf_116 : decode cX8_outputOf 116 = .ok (.iaload, 1) := by decide +kernel
theorem dX8_outputOf_117 : decode cX8_outputOf 117 = .ok (.goto 4, 3) := by decide +kernel
theorem dX8_outputOf_120 : decode cX8_outputOf 120 = .ok (.iconst 0, 1) := by decide +kernel
theorem dX8_outputOf_121 : decode cX8_outputOf 121 = .ok (.invokestatic 66, 3) := by decide +kernel
theorem dX8_outputOf_124 : decode cX8_outputOf 124 = .ok (.istore_n 2, 1) := by decide +kernel
theorem dX8_outputOf_125 : decode cX8_outputOf 125 = .ok (.iinc 3 1, 3) := by decide +kernel
theorem dX8_outputOf_128 : decode cX8_outputOf 128 = .ok (.goto (-114), 3) := by decide +kernel
theorem dX8_outputOf_131 : decode cX8_outputOf 131 = .ok (.iload_n 2, 1) := by decide +kernel
theorem dX8_outputOf_132 : decode cX8_outputOf 132 = .ok (.ireturn, 1) := by decide +kernel
theorem dX8_coinOf_0 : decode cX8_coinOf 0 = .ok (.aload_n 0, 1) := by decide +kernel
theorem dX8_coinOf_1 : decode cX8_coinOf 1 = .ok (.invokevirtual 141, 3) := by decide +kernel
theorem dX8_coinOf_4 : decode cX8_coinOf 4 = .ok (.aload_n 0, 1) := by decide +kernel
theorem dX8_coinOf_5 : decode cX8_coinOf 5 = .ok (.iload_n 1, 1) := by decide +kernel
theorem dX8_coinOf_6 : decode cX8_coinOf 6 = .ok (.invokevirtual 144, 3) := by decide +kernel
theorem dX8_coinOf_9 : decode cX8_coinOf 9 = .ok (.istore_n 2, 1) := by decide +kernel
theorem dX8_coinOf_10 : decode cX8_coinOf 10 = .ok (.aload_n 0, 1) := by decide +kernel
theorem dX8_coinOf_11 : decode cX8_coinOf 11 = .ok (.getfield 134, 3) := by decide +kernel
theorem dX8_coinOf_14 : decode cX8_coinOf 14 = .ok (.ifCond .eq 8, 3) := by decide +kernel
theorem dX8_coinOf_17 : decode cX8_coinOf 17 = .ok (.bipush (-5), 2) := by decide +kernel
theorem dX8_coinOf_19 : decode cX8_coinOf 19 = .ok (.goto 6, 3) := by decide +kernel
theorem dX8_coinOf_22 : decode cX8_coinOf 22 = .ok (.iload_n 2, 1) := by decide +kernel
theorem dX8_coinOf_23 : decode cX8_coinOf 23 = .ok (.iconst 1, 1) := by decide +kernel
theorem dX8_coinOf_24 : decode cX8_coinOf 24 = .ok (.iand, 1) := by decide +kernel
theorem dX8_coinOf_25 : decode cX8_coinOf 25 = .ok (.ireturn, 1) := by decide +kernel
theorem dX8_closes_0 : decode cX8_closes 0 = .ok (.aload_n 0, 1) := by decide +kernel
theorem dX8_closes_1 : decode cX8_closes 1 = .ok (.invokevirtual 141, 3) := by decide +kernel
theorem dX8_closes_4 : decode cX8_closes 4 = .ok (.aload_n 0, 1) := by decide +kernel
theorem dX8_closes_5 : decode cX8_closes 5 = .ok (.iconst 5, 1) := by decide +kernel
theorem dX8_closes_6 : decode cX8_closes 6 = .ok (.invokevirtual 121, 3) := by decide +kernel
theorem dX8_closes_9 : decode cX8_closes 9 = .ok (.istore_n 1, 1) := by decide +kernel
theorem dX8_closes_10 : decode cX8_closes 10 = .ok (.aload_n 0, 1) := by decide +kernel
theorem dX8_closes_11 : decode cX8_closes 11 = .ok (.bipush 7, 2) := by decide +kernel
theorem dX8_closes_13 : decode cX8_closes 13 = .ok (.invokevirtual 121, 3) := by decide +kernel
theorem dX8_closes_16 : decode cX8_closes 16 = .ok (.iload_n 1, 1) := by decide +kernel
theorem dX8_closes_17 : decode cX8_closes 17 = .ok (.iand, 1) := by decide +kernel
theorem dX8_closes_18 : decode cX8_closes 18 = .ok (.istore_n 2, 1) := by decide +kernel
theorem dX8_closes_19 : decode cX8_closes 19 = .ok (.aload_n 0, 1) := by decide +kernel
theorem dX8_closes_20 : decode cX8_closes 20 = .ok (.iload_n 2, 1) := by decide +kernel
theorem dX8_closes_21 : decode cX8_closes 21 = .ok (.invokevirtual 144, 3) := by decide +kernel
theorem dX8_closes_24 : decode cX8_closes 24 = .ok (.istore_n 3, 1) := by decide +kernel
theorem dX8_closes_25 : decode cX8_closes 25 = .ok (.aload_n 0, 1) := by decide +kernel
theorem dX8_closes_26 : decode cX8_closes 26 = .ok (.getfield 134, 3) := by decide +kernel
theorem dX8_closes_29 : decode cX8_closes 29 = .ok (.istore 4, 2) := by decide +kernel
theorem dX8_closes_31 : decode cX8_closes 31 = .ok (.iconst 0, 1) := by decide +kernel
theorem dX8_closes_32 : decode cX8_closes 32 = .ok (.istore 5, 2) := by decide +kernel
theorem dX8_closes_34 : decode cX8_closes 34 = .ok (.iload 5, 2) := by decide +kernel
theorem dX8_closes_36 : decode cX8_closes 36 = .ok (.aload_n 0, 1) := by decide +kernel
theorem dX8_closes_37 : decode cX8_closes 37 = .ok (.getfield 7, 3) := by decide +kernel
theorem dX8_closes_40 : decode cX8_closes 40 = .ok (.iconst 4, 1) := by decide +kernel
theorem dX8_closes_41 : decode cX8_closes 41 = .ok (.iaload, 1) := by decide +kernel
theorem dX8_closes_42 : decode cX8_closes 42 = .ok (.if_icmp .ge 97, 3) := by decide +kernel
theorem dX8_closes_45 : decode cX8_closes 45 = .ok (.iload_n 1, 1) := by decide +kernel
theorem dX8_closes_46 : decode cX8_closes 46 = .ok (.iload 5, 2) := by decide +kernel
theorem dX8_closes_48 : decode cX8_closes 48 = .ok (.ishr, 1) := by decide +kernel
theorem dX8_closes_49 : decode cX8_closes 49 = .ok (.iconst 1, 1) := by decide +kernel
theorem dX8_closes_50 : decode cX8_closes 50 = .ok (.iand, 1) := by decide +kernel
theorem dX8_closes_51 : decode cX8_closes 51 = .ok (.iconst 1, 1) := by decide +kernel
theorem dX8_closes_52 : decode cX8_closes 52 = .ok (.if_icmp .ne 81, 3) := by decide +kernel
theorem dX8_closes_55 : decode cX8_closes 55 = .ok (.iload_n 2, 1) := by decide +kernel
theorem dX8_closes_56 : decode cX8_closes 56 = .ok (.iload 5, 2) := by decide +kernel
theorem dX8_closes_58 : decode cX8_closes 58 = .ok (.ishr, 1) := by decide +kernel
theorem dX8_closes_59 : decode cX8_closes 59 = .ok (.iconst 1, 1) := by decide +kernel
theorem dX8_closes_60 : decode cX8_closes 60 = .ok (.iand, 1) := by decide +kernel
theorem dX8_closes_61 : decode cX8_closes 61 = .ok (.iconst 1, 1) := by decide +kernel
theorem dX8_closes_62 : decode cX8_closes 62 = .ok (.if_icmp .ne 7, 3) := by decide +kernel
theorem dX8_closes_65 : decode cX8_closes 65 = .ok (.iconst 1, 1) := by decide +kernel
theorem dX8_closes_66 : decode cX8_closes 66 = .ok (.goto 4, 3) := by decide +kernel
theorem dX8_closes_69 : decode cX8_closes 69 = .ok (.iconst 0, 1) := by decide +kernel
theorem dX8_closes_70 : decode cX8_closes 70 = .ok (.istore 6, 2) := by decide +kernel
theorem dX8_closes_72 : decode cX8_closes 72 = .ok (.aload_n 0, 1) := by decide +kernel
theorem dX8_closes_73 : decode cX8_closes 73 = .ok (.getfield 7, 3) := by decide +kernel
theorem dX8_closes_76 : decode cX8_closes 76 = .ok (.iload 5, 2) := by decide +kernel
theorem dX8_closes_78 : decode cX8_closes 78 = .ok (.invokestatic 35, 3) := by decide +kernel
theorem dX8_closes_81 : decode cX8_closes 81 = .ok (.iconst 1, 1) := by decide +kernel
theorem dX8_closes_82 : decode cX8_closes 82 = .ok (.iadd, 1) := by decide +kernel
theorem dX8_closes_83 : decode cX8_closes 83 = .ok (.dup2, 1) := by decide +kernel
theorem dX8_closes_84 : decode cX8_closes 84 = .ok (.iaload, 1) := by decide +kernel
theorem dX8_closes_85 : decode cX8_closes 85 = .ok (.iload 6, 2) := by decide +kernel
theorem dX8_closes_87 : decode cX8_closes 87 = .ok (.ifCond .eq 7, 3) := by decide +kernel
theorem dX8_closes_90 : decode cX8_closes 90 = .ok (.iconst 1, 1) := by decide +kernel
theorem dX8_closes_91 : decode cX8_closes 91 = .ok (.goto 4, 3) := by decide +kernel
theorem dX8_closes_94 : decode cX8_closes 94 = .ok (.iconst 0, 1) := by decide +kernel
theorem dX8_closes_95 : decode cX8_closes 95 = .ok (.iadd, 1) := by decide +kernel
theorem dX8_closes_96 : decode cX8_closes 96 = .ok (.iastore, 1) := by decide +kernel
theorem dX8_closes_97 : decode cX8_closes 97 = .ok (.aload_n 0, 1) := by decide +kernel
theorem dX8_closes_98 : decode cX8_closes 98 = .ok (.getfield 7, 3) := by decide +kernel
theorem dX8_closes_101 : decode cX8_closes 101 = .ok (.iload 5, 2) := by decide +kernel
theorem dX8_closes_103 : decode cX8_closes 103 = .ok (.invokestatic 35, 3) := by decide +kernel
theorem dX8_closes_106 : decode cX8_closes 106 = .ok (.iconst 2, 1) := by decide +kernel
theorem dX8_closes_107 : decode cX8_closes 107 = .ok (.iadd, 1) := by decide +kernel
theorem dX8_closes_108 : decode cX8_closes 108 = .ok (.dup2, 1) := by decide +kernel
theorem dX8_closes_109 : decode cX8_closes 109 = .ok (.iaload, 1) := by decide +kernel
theorem dX8_closes_110 : decode cX8_closes 110 = .ok (.iload 6, 2) := by decide +kernel
theorem dX8_closes_112 : decode cX8_closes 112 = .ok (.ifCond .eq 7, 3) := by decide +kernel
theorem dX8_closes_115 : decode cX8_closes 115 = .ok (.iconst 0, 1) := by decide +kernel
theorem dX8_closes_116 : decode cX8_closes 116 = .ok (.goto 4, 3) := by decide +kernel
theorem dX8_closes_119 : decode cX8_closes 119 = .ok (.iconst 1, 1) := by decide +kernel
theorem dX8_closes_120 : decode cX8_closes 120 = .ok (.iadd, 1) := by decide +kernel
theorem dX8_closes_121 : decode cX8_closes 121 = .ok (.iastore, 1) := by decide +kernel
theorem dX8_closes_122 : decode cX8_closes 122 = .ok (.iload 6, 2) := by decide +kernel
theorem dX8_closes_124 : decode cX8_closes 124 = .ok (.ifCond .ne 9, 3) := by decide +kernel
theorem dX8_closes_127 : decode cX8_closes 127 = .ok (.aload_n 0, 1) := by decide +kernel
theorem dX8_closes_128 : decode cX8_closes 128 = .ok (.iload 5, 2) := by decide +kernel
theorem dX8_closes_130 : decode cX8_closes 130 = .ok (.invokevirtual 115, 3) := by decide +kernel
theorem dX8_closes_133 : decode cX8_closes 133 = .ok (.iinc 5 1, 3) := by decide +kernel
theorem dX8_closes_136 : decode cX8_closes 136 = .ok (.goto (-102), 3) := by decide +kernel
theorem dX8_closes_139 : decode cX8_closes 139 = .ok (.iload_n 2, 1) := by decide +kernel
theorem dX8_closes_140 : decode cX8_closes 140 = .ok (.invokestatic 124, 3) := by decide +kernel
theorem dX8_closes_143 : decode cX8_closes 143 = .ok (.istore 5, 2) := by decide +kernel
theorem dX8_closes_145 : decode cX8_closes 145 = .ok (.iload 4, 2) := by decide +kernel
theorem dX8_closes_147 : decode cX8_closes 147 = .ok (.ifCond .ne 84, 3) := by decide +kernel
theorem dX8_closes_150 : decode cX8_closes 150 = .ok (.iload 5, 2) := by decide +kernel
theorem dX8_closes_152 : decode cX8_closes 152 = .ok (.ifCond .le 79, 3) := by decide +kernel
theorem dX8_closes_155 : decode cX8_closes 155 = .ok (.aload_n 0, 1) := by decide +kernel
theorem dX8_closes_156 : decode cX8_closes 156 = .ok (.getfield 7, 3) := by decide +kernel
theorem dX8_closes_159 : decode cX8_closes 159 = .ok (.iconst 2, 1) := by decide +kernel
theorem dX8_closes_160 : decode cX8_closes 160 = .ok (.iaload, 1) := by decide +kernel
theorem dX8_closes_161 : decode cX8_closes 161 = .ok (.iload 5, 2) := by decide +kernel
theorem dX8_closes_163 : decode cX8_closes 163 = .ok (.idiv, 1) := by decide +kernel
theorem dX8_closes_164 : decode cX8_closes 164 = .ok (.istore 6, 2) := by decide +kernel
theorem dX8_closes_166 : decode cX8_closes 166 = .ok (.iconst 0, 1) := by decide +kernel
theorem dX8_closes_167 : decode cX8_closes 167 = .ok (.istore 7, 2) := by decide +kernel
theorem dX8_closes_169 : decode cX8_closes 169 = .ok (.iload 7, 2) := by decide +kernel
theorem dX8_closes_171 : decode cX8_closes 171 = .ok (.aload_n 0, 1) := by decide +kernel
theorem dX8_closes_172 : decode cX8_closes 172 = .ok (.getfield 7, 3) := by decide +kernel
theorem dX8_closes_175 : decode cX8_closes 175 = .ok (.iconst 4, 1) := by decide +kernel
theorem dX8_closes_176 : decode cX8_closes 176 = .ok (.iaload, 1) := by decide +kernel
theorem dX8_closes_177 : decode cX8_closes 177 = .ok (.if_icmp .ge 40, 3) := by decide +kernel
theorem dX8_closes_180 : decode cX8_closes 180 = .ok (.aload_n 0, 1) := by decide +kernel
theorem dX8_closes_181 : decode cX8_closes 181 = .ok (.getfield 7, 3) := by decide +kernel
theorem dX8_closes_184 : decode cX8_closes 184 = .ok (.iload 7, 2) := by decide +kernel
theorem dX8_closes_186 : decode cX8_closes 186 = .ok (.invokestatic 35, 3) := by decide +kernel
theorem dX8_closes_189 : decode cX8_closes 189 = .ok (.iconst 0, 1) := by decide +kernel
theorem dX8_closes_190 : decode cX8_closes 190 = .ok (.iadd, 1) := by decide +kernel
theorem dX8_closes_191 : decode cX8_closes 191 = .ok (.dup2, 1) := by decide +kernel
theorem dX8_closes_192 : decode cX8_closes 192 = .ok (.iaload, 1) := by decide +kernel
theorem dX8_closes_193 : decode cX8_closes 193 = .ok (.iload_n 2, 1) := by decide +kernel
theorem dX8_closes_194 : decode cX8_closes 194 = .ok (.iload 7, 2) := by decide +kernel
theorem dX8_closes_196 : decode cX8_closes 196 = .ok (.ishr, 1) := by decide +kernel
theorem dX8_closes_197 : decode cX8_closes 197 = .ok (.iconst 1, 1) := by decide +kernel
theorem dX8_closes_198 : decode cX8_closes 198 = .ok (.iand, 1) := by decide +kernel
theorem dX8_closes_199 : decode cX8_closes 199 = .ok (.iconst 1, 1) := by decide +kernel
theorem dX8_closes_200 : decode cX8_closes 200 = .ok (.if_icmp .ne 8, 3) := by decide +kernel
theorem dX8_closes_203 : decode cX8_closes 203 = .ok (.iload 6, 2) := by decide +kernel
theorem dX8_closes_205 : decode cX8_closes 205 = .ok (.goto 4, 3) := by decide +kernel
theorem dX8_closes_208 : decode cX8_closes 208 = .ok (.iconst 0, 1) := by decide +kernel
theorem dX8_closes_209 : decode cX8_closes 209 = .ok (.iadd, 1) := by decide +kernel
theorem dX8_closes_210 : decode cX8_closes 210 = .ok (.iastore, 1) := by decide +kernel
theorem dX8_closes_211 : decode cX8_closes 211 = .ok (.iinc 7 1, 3) := by decide +kernel
theorem dX8_closes_214 : decode cX8_closes 214 = .ok (.goto (-45), 3) := by decide +kernel
theorem dX8_closes_217 : decode cX8_closes 217 = .ok (.aload_n 0, 1) := by decide +kernel
theorem dX8_closes_218 : decode cX8_closes 218 = .ok (.getfield 7, 3) := by decide +kernel
theorem dX8_closes_221 : decode cX8_closes 221 = .ok (.iconst 2, 1) := by decide +kernel
theorem dX8_closes_222 : decode cX8_closes 222 = .ok (.dup2, 1) := by decide +kernel
theorem dX8_closes_223 : decode cX8_closes 223 = .ok (.iaload, 1) := by decide +kernel
theorem dX8_closes_224 : decode cX8_closes 224 = .ok (.iload 6, 2) := by decide +kernel
theorem dX8_closes_226 : decode cX8_closes 226 = .ok (.iload 5, 2) := by decide +kernel
theorem dX8_closes_228 : decode cX8_closes 228 = .ok (.imul, 1) := by decide +kernel
theorem dX8_closes_229 : decode cX8_closes 229 = .ok (.isub, 1) := by decide +kernel
theorem dX8_closes_230 : decode cX8_closes 230 = .ok (.iastore, 1) := by decide +kernel
theorem dX8_closes_231 : decode cX8_closes 231 = .ok (.aload_n 0, 1) := by decide +kernel
theorem dX8_closes_232 : decode cX8_closes 232 = .ok (.iload 4, 2) := by decide +kernel
theorem dX8_closes_234 : decode cX8_closes 234 = .ok (.ifCond .eq 8, 3) := by decide +kernel
theorem dX8_closes_237 : decode cX8_closes 237 = .ok (.bipush (-5), 2) := by decide +kernel
theorem dX8_closes_239 : decode cX8_closes 239 = .ok (.goto 6, 3) := by decide +kernel
theorem dX8_closes_242 : decode cX8_closes 242 = .ok (.iload_n 3, 1) := by decide +kernel
theorem dX8_closes_243 : decode cX8_closes 243 = .ok (.iconst 1, 1) := by decide +kernel
theorem dX8_closes_244 : decode cX8_closes 244 = .ok (.iand, 1) := by decide +kernel
theorem dX8_closes_245 : decode cX8_closes 245 = .ok (.iload 4, 2) := by decide +kernel
theorem dX8_closes_247 : decode cX8_closes 247 = .ok (.ifCond .eq 7, 3) := by decide +kernel
theorem dX8_closes_250 : decode cX8_closes 250 = .ok (.iconst 0, 1) := by decide +kernel
theorem dX8_closes_251 : decode cX8_closes 251 = .ok (.goto 4, 3) := by decide +kernel
theorem dX8_closes_254 : decode cX8_closes 254 = .ok (.iload_n 3, 1) := by decide +kernel
theorem dX8_closes_255 : decode cX8_closes 255 = .ok (.iload 5, 2) := by decide +kernel
theorem dX8_closes_257 : decode cX8_closes 257 = .ok (.iload_n 1, 1) := by decide +kernel
theorem dX8_closes_258 : decode cX8_closes 258 = .ok (.invokevirtual 127, 3) := by decide +kernel
theorem dX8_closes_261 : decode cX8_closes 261 = .ok (.iload 4, 2) := by decide +kernel
theorem dX8_closes_263 : decode cX8_closes 263 = .ok (.ifCond .eq 8, 3) := by decide +kernel
theorem dX8_closes_266 : decode cX8_closes 266 = .ok (.bipush (-5), 2) := by decide +kernel
theorem dX8_closes_268 : decode cX8_closes 268 = .ok (.goto 6, 3) := by decide +kernel
theorem dX8_closes_271 : decode cX8_closes 271 = .ok (.iload_n 3, 1) := by decide +kernel
theorem dX8_closes_272 : decode cX8_closes 272 = .ok (.iconst 1, 1) := by decide +kernel
theorem dX8_closes_273 : decode cX8_closes 273 = .ok (.iand, 1) := by decide +kernel
theorem dX8_closes_274 : decode cX8_closes 274 = .ok (.ireturn, 1) := by decide +kernel
theorem dX8_close_0 : decode cX8_close 0 = .ok (.aload_n 0, 1) := by decide +kernel
theorem dX8_close_1 : decode cX8_close 1 = .ok (.getfield 7, 3) := by decide +kernel
theorem dX8_close_4 : decode cX8_close 4 = .ok (.iconst 0, 1) := by decide +kernel
theorem dX8_close_5 : decode cX8_close 5 = .ok (.iaload, 1) := by decide +kernel
theorem dX8_close_6 : decode cX8_close 6 = .ok (.iconst 2, 1) := by decide +kernel
theorem dX8_close_7 : decode cX8_close 7 = .ok (.if_icmp .eq 6, 3) := by decide +kernel
theorem dX8_close_10 : decode cX8_close 10 = .ok (.bipush (-2), 2) := by decide +kernel
theorem dX8_close_12 : decode cX8_close 12 = .ok (.ireturn, 1) := by decide +kernel
theorem dX8_close_13 : decode cX8_close 13 = .ok (.aload_n 0, 1) := by decide +kernel
theorem dX8_close_14 : decode cX8_close 14 = .ok (.invokevirtual 48, 3) := by decide +kernel
theorem dX8_close_17 : decode cX8_close 17 = .ok (.aload_n 0, 1) := by decide +kernel
theorem dX8_close_18 : decode cX8_close 18 = .ok (.invokevirtual 147, 3) := by decide +kernel
theorem dX8_close_21 : decode cX8_close 21 = .ok (.ireturn, 1) := by decide +kernel
theorem dX8_nextMember_0 : decode cX8_nextMember 0 = .ok (.aload_n 0, 1) := by decide +kernel
theorem dX8_nextMember_1 : decode cX8_nextMember 1 = .ok (.iconst 5, 1) := by decide +kernel
theorem dX8_nextMember_2 : decode cX8_nextMember 2 = .ok (.invokevirtual 121, 3) := by decide +kernel
theorem dX8_nextMember_5 : decode cX8_nextMember 5 = .ok (.istore_n 2, 1) := by decide +kernel
theorem dX8_nextMember_6 : decode cX8_nextMember 6 = .ok (.iload_n 1, 1) := by decide +kernel
theorem dX8_nextMember_7 : decode cX8_nextMember 7 = .ok (.iconst 1, 1) := by decide +kernel
theorem dX8_nextMember_8 : decode cX8_nextMember 8 = .ok (.iadd, 1) := by decide +kernel
theorem dX8_nextMember_9 : decode cX8_nextMember 9 = .ok (.bipush 8, 2) := by decide +kernel
theorem dX8_nextMember_11 : decode cX8_nextMember 11 = .ok (.irem, 1) := by decide +kernel
theorem dX8_nextMember_12 : decode cX8_nextMember 12 = .ok (.istore_n 3, 1) := by decide +kernel
theorem dX8_nextMember_13 : decode cX8_nextMember 13 = .ok (.iconst 0, 1) := by decide +kernel
theorem dX8_nextMember_14 : decode cX8_nextMember 14 = .ok (.istore 4, 2) := by decide +kernel
theorem dX8_nextMember_16 : decode cX8_nextMember 16 = .ok (.iload 4, 2) := by decide +kernel
theorem dX8_nextMember_18 : decode cX8_nextMember 18 = .ok (.bipush 8, 2) := by decide +kernel
theorem dX8_nextMember_20 : decode cX8_nextMember 20 = .ok (.if_icmp .ge 24, 3) := by decide +kernel
theorem dX8_nextMember_23 : decode cX8_nextMember 23 = .ok (.iload_n 2, 1) := by decide +kernel
theorem dX8_nextMember_24 : decode cX8_nextMember 24 = .ok (.iload_n 3, 1) := by decide +kernel
theorem dX8_nextMember_25 : decode cX8_nextMember 25 = .ok (.ishr, 1) := by decide +kernel
theorem dX8_nextMember_26 : decode cX8_nextMember 26 = .ok (.iconst 1, 1) := by decide +kernel
theorem dX8_nextMember_27 : decode cX8_nextMember 27 = .ok (.iand, 1) := by decide +kernel
theorem dX8_nextMember_28 : decode cX8_nextMember 28 = .ok (.ifCond .ne 16, 3) := by decide +kernel
theorem dX8_nextMember_31 : decode cX8_nextMember 31 = .ok (.iload_n 3, 1) := by decide +kernel
theorem dX8_nextMember_32 : decode cX8_nextMember 32 = .ok (.iconst 1, 1) := by decide +kernel
theorem dX8_nextMember_33 : decode cX8_nextMember 33 = .ok (.iadd, 1) := by decide +kernel
theorem dX8_nextMember_34 : decode cX8_nextMember 34 = .ok (.bipush 8, 2) := by decide +kernel
theorem dX8_nextMember_36 : decode cX8_nextMember 36 = .ok (.irem, 1) := by decide +kernel
theorem dX8_nextMember_37 : decode cX8_nextMember 37 = .ok (.istore_n 3, 1) := by decide +kernel
theorem dX8_nextMember_38 : decode cX8_nextMember 38 = .ok (.iinc 4 1, 3) := by decide +kernel
theorem dX8_nextMember_41 : decode cX8_nextMember 41 = .ok (.goto (-25), 3) := by decide +kernel
theorem dX8_nextMember_44 : decode cX8_nextMember 44 = .ok (.iload_n 3, 1) := by decide +kernel
theorem dX8_nextMember_45 : decode cX8_nextMember 45 = .ok (.ireturn, 1) := by decide +kernel
theorem dX8_plays_0 : decode cX8_plays 0 = .ok (.iload_n 1, 1) := by decide +kernel
theorem dX8_plays_1 : decode cX8_plays 1 = .ok (.istore_n 2, 1) := by decide +kernel
theorem dX8_plays_2 : decode cX8_plays 2 = .ok (.iconst 0, 1) := by decide +kernel
theorem dX8_plays_3 : decode cX8_plays 3 = .ok (.istore_n 3, 1) := by decide +kernel
theorem dX8_plays_4 : decode cX8_plays 4 = .ok (.iload_n 3, 1) := by decide +kernel
theorem dX8_plays_5 : decode cX8_plays 5 = .ok (.aload_n 0, 1) := by decide +kernel
theorem dX8_plays_6 : decode cX8_plays 6 = .ok (.getfield 7, 3) := by decide +kernel
theorem dX8_plays_9 : decode cX8_plays 9 = .ok (.iconst 4, 1) := by decide +kernel
theorem dX8_plays_10 : decode cX8_plays 10 = .ok (.iaload, 1) := by decide +kernel
theorem dX8_plays_11 : decode cX8_plays 11 = .ok (.if_icmp .ge 69, 3) := by decide +kernel
theorem dX8_plays_14 : decode cX8_plays 14 = .ok (.aload_n 0, 1) := by decide +kernel
theorem dX8_plays_15 : decode cX8_plays 15 = .ok (.iload_n 3, 1) := by decide +kernel
theorem dX8_plays_16 : decode cX8_plays 16 = .ok (.iconst 5, 1) := by decide +kernel
theorem dX8_plays_17 : decode cX8_plays 17 = .ok (.invokevirtual 43, 3) := by decide +kernel
theorem dX8_plays_20 : decode cX8_plays 20 = .ok (.ifCond .eq 54, 3) := by decide +kernel
theorem dX8_plays_23 : decode cX8_plays 23 = .ok (.aload_n 0, 1) := by decide +kernel
theorem dX8_plays_24 : decode cX8_plays 24 = .ok (.iload_n 2, 1) := by decide +kernel
theorem dX8_plays_25 : decode cX8_plays 25 = .ok (.putfield 28, 3) := by decide +kernel
theorem dX8_plays_28 : decode cX8_plays 28 = .ok (.aload_n 0, 1) := by decide +kernel
theorem dX8_plays_29 : decode cX8_plays 29 = .ok (.invokevirtual 69, 3) := by decide +kernel
theorem dX8_plays_32 : decode cX8_plays 32 = .ok (.sipush 1019, 3) := by decide +kernel
theorem dX8_plays_35 : decode cX8_plays 35 = .ok (.irem, 1) := by decide +kernel
theorem dX8_plays_36 : decode cX8_plays 36 = .ok (.istore 4, 2) := by decide +kernel
theorem dX8_plays_38 : decode cX8_plays 38 = .ok (.aload_n 0, 1) := by decide +kernel
theorem dX8_plays_39 : decode cX8_plays 39 = .ok (.invokevirtual 69, 3) := by decide +kernel
theorem dX8_plays_42 : decode cX8_plays 42 = .ok (.istore 5, 2) := by decide +kernel
theorem dX8_plays_44 : decode cX8_plays 44 = .ok (.aload_n 0, 1) := by decide +kernel
theorem dX8_plays_45 : decode cX8_plays 45 = .ok (.getfield 28, 3) := by decide +kernel
theorem dX8_plays_48 : decode cX8_plays 48 = .ok (.istore_n 2, 1) := by decide +kernel
theorem dX8_plays_49 : decode cX8_plays 49 = .ok (.aload_n 0, 1) := by decide +kernel
theorem dX8_plays_50 : decode cX8_plays 50 = .ok (.iload_n 3, 1) := by decide +kernel
theorem dX8_plays_51 : decode cX8_plays 51 = .ok (.aload_n 0, 1) := by decide +kernel
theorem dX8_plays_52 : decode cX8_plays 52 = .ok (.iload 4, 2) := by decide +kernel
theorem dX8_plays_54 : decode cX8_plays 54 = .ok (.iload 5, 2) := by decide +kernel
theorem dX8_plays_56 : decode cX8_plays 56 = .ok (.invokevirtual 76, 3) := by decide +kernel
theorem dX8_plays_59 : decode cX8_plays 59 = .ok (.invokevirtual 89, 3) := by decide +kernel
theorem dX8_plays_62 : decode cX8_plays 62 = .ok (.ifCond .ne 12, 3) := by decide +kernel
theorem dX8_plays_65 : decode cX8_plays 65 = .ok (.aload_n 0, 1) := by decide +kernel
theorem dX8_plays_66 : decode cX8_plays 66 = .ok (.iload_n 3, 1) := by decide +kernel
theorem dX8_plays_67 : decode cX8_plays 67 = .ok (.iload 4, 2) := by decide +kernel
theorem dX8_plays_69 : decode cX8_plays 69 = .ok (.iload 5, 2) := by decide +kernel
theorem dX8_plays_71 : decode cX8_plays 71 = .ok (.invokevirtual 92, 3) := by decide +kernel
theorem dX8_plays_74 : decode cX8_plays 74 = .ok (.iinc 3 1, 3) := by decide +kernel
theorem dX8_plays_77 : decode cX8_plays 77 = .ok (.goto (-73), 3) := by decide +kernel
theorem dX8_plays_80 : decode cX8_plays 80 = .ok (.return_, 1) := by decide +kernel
theorem dX8_cheats_0 : decode cX8_cheats 0 = .ok (.iconst 0, 1) := by decide +kernel
theorem dX8_cheats_1 : decode cX8_cheats 1 = .ok (.istore_n 1, 1) := by decide +kernel
theorem dX8_cheats_2 : decode cX8_cheats 2 = .ok (.iload_n 1, 1) := by decide +kernel
theorem dX8_cheats_3 : decode cX8_cheats 3 = .ok (.aload_n 0, 1) := by decide +kernel
theorem dX8_cheats_4 : decode cX8_cheats 4 = .ok (.getfield 7, 3) := by decide +kernel
theorem dX8_cheats_7 : decode cX8_cheats 7 = .ok (.iconst 4, 1) := by decide +kernel
theorem dX8_cheats_8 : decode cX8_cheats 8 = .ok (.iaload, 1) := by decide +kernel
theorem dX8_cheats_9 : decode cX8_cheats 9 = .ok (.if_icmp .ge 43, 3) := by decide +kernel
theorem dX8_cheats_12 : decode cX8_cheats 12 = .ok (.aload_n 0, 1) := by decide +kernel
theorem dX8_cheats_13 : decode cX8_cheats 13 = .ok (.iload_n 1, 1) := by decide +kernel
theorem dX8_cheats_14 : decode cX8_cheats 14 = .ok (.invokevirtual 100, 3) := by decide +kernel
theorem dX8_cheats_17 : decode cX8_cheats 17 = .ok (.ifCond .eq 29, 3) := by decide +kernel
theorem dX8_cheats_20 : decode cX8_cheats 20 = .ok (.aload_n 0, 1) := by decide +kernel
theorem dX8_cheats_21 : decode cX8_cheats 21 = .ok (.getfield 7, 3) := by decide +kernel
theorem dX8_cheats_24 : decode cX8_cheats 24 = .ok (.iload_n 1, 1) := by decide +kernel
theorem dX8_cheats_25 : decode cX8_cheats 25 = .ok (.invokestatic 35, 3) := by decide +kernel
theorem dX8_cheats_28 : decode cX8_cheats 28 = .ok (.iconst 4, 1) := by decide +kernel
theorem dX8_cheats_29 : decode cX8_cheats 29 = .ok (.iadd, 1) := by decide +kernel
theorem dX8_cheats_30 : decode cX8_cheats 30 = .ok (.iaload, 1) := by decide +kernel
theorem dX8_cheats_31 : decode cX8_cheats 31 = .ok (.iconst 3, 1) := by decide +kernel
theorem dX8_cheats_32 : decode cX8_cheats 32 = .ok (.if_icmp .ne 14, 3) := by decide +kernel
theorem dX8_cheats_35 : decode cX8_cheats 35 = .ok (.aload_n 0, 1) := by decide +kernel
theorem dX8_cheats_36 : decode cX8_cheats 36 = .ok (.iload_n 1, 1) := by decide +kernel
theorem dX8_cheats_37 : decode cX8_cheats 37 = .ok (.aload_n 0, 1) := by decide +kernel
theorem dX8_cheats_38 : decode cX8_cheats 38 = .ok (.iload_n 1, 1) := by decide +kernel
theorem dX8_cheats_39 : decode cX8_cheats 39 = .ok (.invokevirtual 150, 3) := by decide +kernel
theorem dX8_cheats_42 : decode cX8_cheats 42 = .ok (.iconst 1, 1) := by decide +kernel
theorem dX8_cheats_43 : decode cX8_cheats 43 = .ok (.invokevirtual 109, 3) := by decide +kernel
theorem dX8_cheats_46 : decode cX8_cheats 46 = .ok (.iinc 1 1, 3) := by decide +kernel
theorem dX8_cheats_49 : decode cX8_cheats 49 = .ok (.goto (-47), 3) := by decide +kernel
theorem dX8_cheats_52 : decode cX8_cheats 52 = .ok (.iconst 0, 1) := by decide +kernel
theorem dX8_cheats_53 : decode cX8_cheats 53 = .ok (.istore_n 1, 1) := by decide +kernel
theorem dX8_cheats_54 : decode cX8_cheats 54 = .ok (.iload_n 1, 1) := by decide +kernel
theorem dX8_cheats_55 : decode cX8_cheats 55 = .ok (.aload_n 0, 1) := by decide +kernel
theorem dX8_cheats_56 : decode cX8_cheats 56 = .ok (.getfield 7, 3) := by decide +kernel
theorem dX8_cheats_59 : decode cX8_cheats 59 = .ok (.iconst 4, 1) := by decide +kernel
theorem dX8_cheats_60 : decode cX8_cheats 60 = .ok (.iaload, 1) := by decide +kernel
theorem dX8_cheats_61 : decode cX8_cheats 61 = .ok (.if_icmp .ge 57, 3) := by decide +kernel
theorem dX8_cheats_64 : decode cX8_cheats 64 = .ok (.iconst 0, 1) := by decide +kernel
theorem dX8_cheats_65 : decode cX8_cheats 65 = .ok (.istore_n 2, 1) := by decide +kernel
theorem dX8_cheats_66 : decode cX8_cheats 66 = .ok (.iload_n 2, 1) := by decide +kernel
theorem dX8_cheats_67 : decode cX8_cheats 67 = .ok (.aload_n 0, 1) := by decide +kernel
theorem dX8_cheats_68 : decode cX8_cheats 68 = .ok (.getfield 7, 3) := by decide +kernel
theorem dX8_cheats_71 : decode cX8_cheats 71 = .ok (.iconst 4, 1) := by decide +kernel
theorem dX8_cheats_72 : decode cX8_cheats 72 = .ok (.iaload, 1) := by decide +kernel
theorem dX8_cheats_73 : decode cX8_cheats 73 = .ok (.if_icmp .ge 39, 3) := by decide +kernel
theorem dX8_cheats_76 : decode cX8_cheats 76 = .ok (.iload_n 2, 1) := by decide +kernel
theorem dX8_cheats_77 : decode cX8_cheats 77 = .ok (.iload_n 1, 1) := by decide +kernel
theorem dX8_cheats_78 : decode cX8_cheats 78 = .ok (.if_icmp .eq 28, 3) := by decide +kernel
theorem dX8_cheats_81 : decode cX8_cheats 81 = .ok (.aload_n 0, 1) := by decide +kernel
theorem dX8_cheats_82 : decode cX8_cheats 82 = .ok (.iload_n 2, 1) := by decide +kernel
theorem dX8_cheats_83 : decode cX8_cheats 83 = .ok (.iload_n 1, 1) := by decide +kernel
theorem dX8_cheats_84 : decode cX8_cheats 84 = .ok (.invokevirtual 106, 3) := by decide +kernel
theorem dX8_cheats_87 : decode cX8_cheats 87 = .ok (.ifCond .eq 19, 3) := by decide +kernel
theorem dX8_cheats_90 : decode cX8_cheats 90 = .ok (.aload_n 0, 1) := by decide +kernel
theorem dX8_cheats_91 : decode cX8_cheats 91 = .ok (.iload_n 2, 1) := by decide +kernel
theorem dX8_cheats_92 : decode cX8_cheats 92 = .ok (.iload_n 1, 1) := by decide +kernel
theorem dX8_cheats_93 : decode cX8_cheats 93 = .ok (.invokevirtual 112, 3) := by decide +kernel
theorem dX8_cheats_96 : decode cX8_cheats 96 = .ok (.ifCond .ne 10, 3) := by decide +kernel
theorem dX8_cheats_99 : decode cX8_cheats 99 = .ok (.aload_n 0, 1) := by decide +kernel
theorem dX8_cheats_100 : decode cX8_cheats 100 = .ok (.iload_n 1, 1) := by decide +kernel
theorem dX8_cheats_101 : decode cX8_cheats 101 = .ok (.iload_n 2, 1) := by decide +kernel
theorem dX8_cheats_102 : decode cX8_cheats 102 = .ok (.invokevirtual 118, 3) := by decide +kernel
theorem dX8_cheats_105 : decode cX8_cheats 105 = .ok (.istore_n 3, 1) := by decide +kernel
theorem dX8_cheats_106 : decode cX8_cheats 106 = .ok (.iinc 2 1, 3) := by decide +kernel
theorem dX8_cheats_109 : decode cX8_cheats 109 = .ok (.goto (-43), 3) := by decide +kernel
theorem dX8_cheats_112 : decode cX8_cheats 112 = .ok (.iinc 1 1, 3) := by decide +kernel
theorem dX8_cheats_115 : decode cX8_cheats 115 = .ok (.goto (-61), 3) := by decide +kernel
theorem dX8_cheats_118 : decode cX8_cheats 118 = .ok (.return_, 1) := by decide +kernel
theorem dX8_decides_0 : decode cX8_decides 0 = .ok (.iconst 0, 1) := by decide +kernel
theorem dX8_decides_1 : decode cX8_decides 1 = .ok (.istore_n 1, 1) := by decide +kernel
theorem dX8_decides_2 : decode cX8_decides 2 = .ok (.iload_n 1, 1) := by decide +kernel
theorem dX8_decides_3 : decode cX8_decides 3 = .ok (.aload_n 0, 1) := by decide +kernel
theorem dX8_decides_4 : decode cX8_decides 4 = .ok (.getfield 7, 3) := by decide +kernel
theorem dX8_decides_7 : decode cX8_decides 7 = .ok (.iconst 4, 1) := by decide +kernel
theorem dX8_decides_8 : decode cX8_decides 8 = .ok (.iaload, 1) := by decide +kernel
theorem dX8_decides_9 : decode cX8_decides 9 = .ok (.if_icmp .ge 56, 3) := by decide +kernel
theorem dX8_decides_12 : decode cX8_decides 12 = .ok (.aload_n 0, 1) := by decide +kernel
theorem dX8_decides_13 : decode cX8_decides 13 = .ok (.getfield 7, 3) := by decide +kernel
theorem dX8_decides_16 : decode cX8_decides 16 = .ok (.iload_n 1, 1) := by decide +kernel
theorem dX8_decides_17 : decode cX8_decides 17 = .ok (.invokestatic 35, 3) := by decide +kernel
theorem dX8_decides_20 : decode cX8_decides 20 = .ok (.iconst 4, 1) := by decide +kernel
theorem dX8_decides_21 : decode cX8_decides 21 = .ok (.iadd, 1) := by decide +kernel
theorem dX8_decides_22 : decode cX8_decides 22 = .ok (.iaload, 1) := by decide +kernel
theorem dX8_decides_23 : decode cX8_decides 23 = .ok (.istore_n 2, 1) := by decide +kernel
theorem dX8_decides_24 : decode cX8_decides 24 = .ok (.aload_n 0, 1) := by decide +kernel
theorem dX8_decides_25 : decode cX8_decides 25 = .ok (.getfield 7, 3) := by decide +kernel
theorem dX8_decides_28 : decode cX8_decides 28 = .ok (.iload_n 1, 1) := by decide +kernel
theorem dX8_decides_29 : decode cX8_decides 29 = .ok (.invokestatic 35, 3) := by decide +kernel
theorem dX8_decides_32 : decode cX8_decides 32 = .ok (.bipush 7, 2) := by decide +kernel
theorem dX8_decides_34 : decode cX8_decides 34 = .ok (.iadd, 1) := by decide +kernel
theorem dX8_decides_35 : decode cX8_decides 35 = .ok (.aload_n 0, 1) := by decide +kernel
theorem dX8_decides_36 : decode cX8_decides 36 = .ok (.iload_n 1, 1) := by decide +kernel
theorem dX8_decides_37 : decode cX8_decides 37 = .ok (.iconst 5, 1) := by decide +kernel
theorem dX8_decides_38 : decode cX8_decides 38 = .ok (.invokevirtual 43, 3) := by decide +kernel
theorem dX8_decides_41 : decode cX8_decides 41 = .ok (.ifCond .eq 16, 3) := by decide +kernel
theorem dX8_decides_44 : decode cX8_decides 44 = .ok (.iload_n 2, 1) := by decide +kernel
theorem dX8_decides_45 : decode cX8_decides 45 = .ok (.ifCond .eq 8, 3) := by decide +kernel
theorem dX8_decides_48 : decode cX8_decides 48 = .ok (.iload_n 2, 1) := by decide +kernel
theorem dX8_decides_49 : decode cX8_decides 49 = .ok (.iconst 3, 1) := by decide +kernel
theorem dX8_decides_50 : decode cX8_decides 50 = .ok (.if_icmp .ne 7, 3) := by decide +kernel
theorem dX8_decides_53 : decode cX8_decides 53 = .ok (.iconst 1, 1) := by decide +kernel
theorem dX8_decides_54 : decode cX8_decides 54 = .ok (.goto 4, 3) := by decide +kernel
theorem dX8_decides_57 : decode cX8_decides 57 = .ok (.iconst 0, 1) := by decide +kernel
theorem dX8_decides_58 : decode cX8_decides 58 = .ok (.iastore, 1) := by decide +kernel
theorem dX8_decides_59 : decode cX8_decides 59 = .ok (.iinc 1 1, 3) := by decide +kernel
theorem dX8_decides_62 : decode cX8_decides 62 = .ok (.goto (-60), 3) := by decide +kernel
theorem dX8_decides_65 : decode cX8_decides 65 = .ok (.iconst 0, 1) := by decide +kernel
theorem dX8_decides_66 : decode cX8_decides 66 = .ok (.istore_n 1, 1) := by decide +kernel
theorem dX8_decides_67 : decode cX8_decides 67 = .ok (.iload_n 1, 1) := by decide +kernel
theorem dX8_decides_68 : decode cX8_decides 68 = .ok (.aload_n 0, 1) := by decide +kernel
theorem dX8_decides_69 : decode cX8_decides 69 = .ok (.getfield 7, 3) := by decide +kernel
theorem dX8_decides_72 : decode cX8_decides 72 = .ok (.iconst 4, 1) := by decide +kernel
theorem dX8_decides_73 : decode cX8_decides 73 = .ok (.iaload, 1) := by decide +kernel
theorem dX8_decides_74 : decode cX8_decides 74 = .ok (.if_icmp .ge 95, 3) := by decide +kernel
theorem dX8_decides_77 : decode cX8_decides 77 = .ok (.aload_n 0, 1) := by decide +kernel
theorem dX8_decides_78 : decode cX8_decides 78 = .ok (.iload_n 1, 1) := by decide +kernel
theorem dX8_decides_79 : decode cX8_decides 79 = .ok (.iconst 5, 1) := by decide +kernel
theorem dX8_decides_80 : decode cX8_decides 80 = .ok (.invokevirtual 43, 3) := by decide +kernel
theorem dX8_decides_83 : decode cX8_decides 83 = .ok (.ifCond .eq 80, 3) := by decide +kernel
theorem dX8_decides_86 : decode cX8_decides 86 = .ok (.aload_n 0, 1) := by decide +kernel
theorem dX8_decides_87 : decode cX8_decides 87 = .ok (.getfield 7, 3) := by decide +kernel
theorem dX8_decides_90 : decode cX8_decides 90 = .ok (.iload_n 1, 1) := by decide +kernel
theorem dX8_decides_91 : decode cX8_decides 91 = .ok (.invokestatic 35, 3) := by decide +kernel
theorem dX8_decides_94 : decode cX8_decides 94 = .ok (.iconst 4, 1) := by decide +kernel
theorem dX8_decides_95 : decode cX8_decides 95 = .ok (.iadd, 1) := by decide +kernel
theorem dX8_decides_96 : decode cX8_decides 96 = .ok (.iaload, 1) := by decide +kernel
theorem dX8_decides_97 : decode cX8_decides 97 = .ok (.iconst 2, 1) := by decide +kernel
theorem dX8_decides_98 : decode cX8_decides 98 = .ok (.if_icmp .ne 65, 3) := by decide +kernel
theorem dX8_decides_101 : decode cX8_decides 101 = .ok (.aload_n 0, 1) := by decide +kernel
theorem dX8_decides_102 : decode cX8_decides 102 = .ok (.bipush 7, 2) := by decide +kernel
theorem dX8_decides_104 : decode cX8_decides 104 = .ok (.invokevirtual 121, 3) := by decide +kernel
theorem dX8_decides_107 : decode cX8_decides 107 = .ok (.aload_n 0, 1) := by decide +kernel
theorem dX8_decides_108 : decode cX8_decides 108 = .ok (.iconst 5, 1) := by decide +kernel
theorem dX8_decides_109 : decode cX8_decides 109 = .ok (.invokevirtual 121, 3) := by decide +kernel
theorem dX8_decides_112 : decode cX8_decides 112 = .ok (.iand, 1) := by decide +kernel
theorem dX8_decides_113 : decode cX8_decides 113 = .ok (.istore_n 2, 1) := by decide +kernel
theorem dX8_decides_114 : decode cX8_decides 114 = .ok (.aload_n 0, 1) := by decide +kernel
theorem dX8_decides_115 : decode cX8_decides 115 = .ok (.iload_n 2, 1) := by decide +kernel
theorem dX8_decides_116 : decode cX8_decides 116 = .ok (.invokevirtual 153, 3) := by decide +kernel
theorem dX8_decides_119 : decode cX8_decides 119 = .ok (.iconst 1, 1) := by decide +kernel
theorem dX8_decides_120 : decode cX8_decides 120 = .ok (.if_icmp .ne 20, 3) := by decide +kernel
theorem dX8_decides_123 : decode cX8_decides 123 = .ok (.aload_n 0, 1) := by decide +kernel
theorem dX8_decides_124 : decode cX8_decides 124 = .ok (.iload_n 2, 1) := by decide +kernel
theorem dX8_decides_125 : decode cX8_decides 125 = .ok (.iconst 1, 1) := by decide +kernel
theorem dX8_decides_126 : decode cX8_decides 126 = .ok (.iload_n 1, 1) := by decide +kernel
theorem dX8_decides_127 : decode cX8_decides 127 = .ok (.ishl, 1) := by decide +kernel
theorem dX8_decides_128 : decode cX8_decides 128 = .ok (.ior, 1) := by decide +kernel
theorem dX8_decides_129 : decode cX8_decides 129 = .ok (.invokevirtual 153, 3) := by decide +kernel
theorem dX8_decides_132 : decode cX8_decides 132 = .ok (.iconst 1, 1) := by decide +kernel
theorem dX8_decides_133 : decode cX8_decides 133 = .ok (.if_icmp .eq 7, 3) := by decide +kernel
theorem dX8_decides_136 : decode cX8_decides 136 = .ok (.iconst 1, 1) := by decide +kernel
theorem dX8_decides_137 : decode cX8_decides 137 = .ok (.goto 4, 3) := by decide +kernel
theorem dX8_decides_140 : decode cX8_decides 140 = .ok (.iconst 0, 1) := by decide +kernel
theorem dX8_decides_141 : decode cX8_decides 141 = .ok (.istore_n 3, 1) := by decide +kernel
theorem dX8_decides_142 : decode cX8_decides 142 = .ok (.aload_n 0, 1) := by decide +kernel
theorem dX8_decides_143 : decode cX8_decides 143 = .ok (.getfield 7, 3) := by decide +kernel
theorem dX8_decides_146 : decode cX8_decides 146 = .ok (.iload_n 1, 1) := by decide +kernel
theorem dX8_decides_147 : decode cX8_decides 147 = .ok (.invokestatic 35, 3) := by decide +kernel
theorem dX8_decides_150 : decode cX8_decides 150 = .ok (.bipush 7, 2) := by decide +kernel
theorem dX8_decides_152 : decode cX8_decides 152 = .ok (.iadd, 1) := by decide +kernel
theorem dX8_decides_153 : decode cX8_decides 153 = .ok (.iload_n 3, 1) := by decide +kernel
theorem dX8_decides_154 : decode cX8_decides 154 = .ok (.ifCond .eq 7, 3) := by decide +kernel
theorem dX8_decides_157 : decode cX8_decides 157 = .ok (.iconst 0, 1) := by decide +kernel
theorem dX8_decides_158 : decode cX8_decides 158 = .ok (.goto 4, 3) := by decide +kernel
theorem dX8_decides_161 : decode cX8_decides 161 = .ok (.iconst 1, 1) := by decide +kernel
theorem dX8_decides_162 : decode cX8_decides 162 = .ok (.iastore, 1) := by decide +kernel
theorem dX8_decides_163 : decode cX8_decides 163 = .ok (.iinc 1 1, 3) := by decide +kernel
theorem dX8_decides_166 : decode cX8_decides 166 = .ok (.goto (-99), 3) := by decide +kernel
theorem dX8_decides_169 : decode cX8_decides 169 = .ok (.return_, 1) := by decide +kernel
theorem dX8_play_0 : decode cX8_play 0 = .ok (.aload_n 0, 1) := by decide +kernel
theorem dX8_play_1 : decode cX8_play 1 = .ok (.invokevirtual 59, 3) := by decide +kernel
theorem dX8_play_4 : decode cX8_play 4 = .ok (.ifCond .ne 6, 3) := by decide +kernel
theorem dX8_play_7 : decode cX8_play 7 = .ok (.bipush (-2), 2) := by decide +kernel
theorem dX8_play_9 : decode cX8_play 9 = .ok (.ireturn, 1) := by decide +kernel
theorem dX8_play_10 : decode cX8_play 10 = .ok (.aload_n 0, 1) := by decide +kernel
theorem dX8_play_11 : decode cX8_play 11 = .ok (.invokevirtual 48, 3) := by decide +kernel
theorem dX8_play_14 : decode cX8_play 14 = .ok (.aload_n 0, 1) := by decide +kernel
theorem dX8_play_15 : decode cX8_play 15 = .ok (.invokevirtual 63, 3) := by decide +kernel
theorem dX8_play_18 : decode cX8_play 18 = .ok (.aload_n 0, 1) := by decide +kernel
theorem dX8_play_19 : decode cX8_play 19 = .ok (.iload_n 1, 1) := by decide +kernel
theorem dX8_play_20 : decode cX8_play 20 = .ok (.invokevirtual 156, 3) := by decide +kernel
theorem dX8_play_23 : decode cX8_play 23 = .ok (.aload_n 0, 1) := by decide +kernel
theorem dX8_play_24 : decode cX8_play 24 = .ok (.getfield 7, 3) := by decide +kernel
theorem dX8_play_27 : decode cX8_play 27 = .ok (.iconst 5, 1) := by decide +kernel
theorem dX8_play_28 : decode cX8_play 28 = .ok (.iaload, 1) := by decide +kernel
theorem dX8_play_29 : decode cX8_play 29 = .ok (.iconst 1, 1) := by decide +kernel
theorem dX8_play_30 : decode cX8_play 30 = .ok (.if_icmp .ne 7, 3) := by decide +kernel
theorem dX8_play_33 : decode cX8_play 33 = .ok (.aload_n 0, 1) := by decide +kernel
theorem dX8_play_34 : decode cX8_play 34 = .ok (.invokevirtual 159, 3) := by decide +kernel
theorem dX8_play_37 : decode cX8_play 37 = .ok (.aload_n 0, 1) := by decide +kernel
theorem dX8_play_38 : decode cX8_play 38 = .ok (.invokevirtual 131, 3) := by decide +kernel
theorem dX8_play_41 : decode cX8_play 41 = .ok (.bipush (-5), 2) := by decide +kernel
theorem dX8_play_43 : decode cX8_play 43 = .ok (.if_icmp .ne 6, 3) := by decide +kernel
theorem dX8_play_46 : decode cX8_play 46 = .ok (.bipush (-5), 2) := by decide +kernel
theorem dX8_play_48 : decode cX8_play 48 = .ok (.ireturn, 1) := by decide +kernel
theorem dX8_play_49 : decode cX8_play 49 = .ok (.aload_n 0, 1) := by decide +kernel
theorem dX8_play_50 : decode cX8_play 50 = .ok (.invokevirtual 162, 3) := by decide +kernel
theorem dX8_play_53 : decode cX8_play 53 = .ok (.aload_n 0, 1) := by decide +kernel
theorem dX8_play_54 : decode cX8_play 54 = .ok (.invokevirtual 147, 3) := by decide +kernel
theorem dX8_play_57 : decode cX8_play 57 = .ok (.ireturn, 1) := by decide +kernel
theorem dX8_phase_0 : decode cX8_phase 0 = .ok (.aload_n 0, 1) := by decide +kernel
theorem dX8_phase_1 : decode cX8_phase 1 = .ok (.getfield 7, 3) := by decide +kernel
theorem dX8_phase_4 : decode cX8_phase 4 = .ok (.iconst 0, 1) := by decide +kernel
theorem dX8_phase_5 : decode cX8_phase 5 = .ok (.iaload, 1) := by decide +kernel
theorem dX8_phase_6 : decode cX8_phase 6 = .ok (.ireturn, 1) := by decide +kernel
theorem dX8_setNumber_0 : decode cX8_setNumber 0 = .ok (.aload_n 0, 1) := by decide +kernel
theorem dX8_setNumber_1 : decode cX8_setNumber 1 = .ok (.iconst 5, 1) := by decide +kernel
theorem dX8_setNumber_2 : decode cX8_setNumber 2 = .ok (.invokevirtual 121, 3) := by decide +kernel
theorem dX8_setNumber_5 : decode cX8_setNumber 5 = .ok (.istore_n 2, 1) := by decide +kernel
theorem dX8_setNumber_6 : decode cX8_setNumber 6 = .ok (.iload_n 1, 1) := by decide +kernel
theorem dX8_setNumber_7 : decode cX8_setNumber 7 = .ok (.ifCond .ne 7, 3) := by decide +kernel
theorem dX8_setNumber_10 : decode cX8_setNumber 10 = .ok (.iload_n 2, 1) := by decide +kernel
theorem dX8_setNumber_11 : decode cX8_setNumber 11 = .ok (.goto 41, 3) := by decide +kernel
theorem dX8_setNumber_14 : decode cX8_setNumber 14 = .ok (.iload_n 1, 1) := by decide +kernel
theorem dX8_setNumber_15 : decode cX8_setNumber 15 = .ok (.iconst 1, 1) := by decide +kernel
theorem dX8_setNumber_16 : decode cX8_setNumber 16 = .ok (.if_icmp .ne 14, 3) := by decide +kernel
theorem dX8_setNumber_19 : decode cX8_setNumber 19 = .ok (.iload_n 2, 1) := by decide +kernel
theorem dX8_setNumber_20 : decode cX8_setNumber 20 = .ok (.aload_n 0, 1) := by decide +kernel
theorem dX8_setNumber_21 : decode cX8_setNumber 21 = .ok (.bipush 6, 2) := by decide +kernel
theorem dX8_setNumber_23 : decode cX8_setNumber 23 = .ok (.invokevirtual 121, 3) := by decide +kernel
theorem dX8_setNumber_26 : decode cX8_setNumber 26 = .ok (.iand, 1) := by decide +kernel
theorem dX8_setNumber_27 : decode cX8_setNumber 27 = .ok (.goto 25, 3) := by decide +kernel
theorem dX8_setNumber_30 : decode cX8_setNumber 30 = .ok (.iload_n 1, 1) := by decide +kernel
theorem dX8_setNumber_31 : decode cX8_setNumber 31 = .ok (.iconst 2, 1) := by decide +kernel
theorem dX8_setNumber_32 : decode cX8_setNumber 32 = .ok (.if_icmp .ne 14, 3) := by decide +kernel
theorem dX8_setNumber_35 : decode cX8_setNumber 35 = .ok (.iload_n 2, 1) := by decide +kernel
theorem dX8_setNumber_36 : decode cX8_setNumber 36 = .ok (.aload_n 0, 1) := by decide +kernel
theorem dX8_setNumber_37 : decode cX8_setNumber 37 = .ok (.bipush 7, 2) := by decide +kernel
theorem dX8_setNumber_39 : decode cX8_setNumber 39 = .ok (.invokevirtual 121, 3) := by decide +kernel
theorem dX8_setNumber_42 : decode cX8_setNumber 42 = .ok (.iand, 1) := by decide +kernel
theorem dX8_setNumber_43 : decode cX8_setNumber 43 = .ok (.goto 9, 3) := by decide +kernel
theorem dX8_setNumber_46 : decode cX8_setNumber 46 = .ok (.aload_n 0, 1) := by decide +kernel
theorem dX8_setNumber_47 : decode cX8_setNumber 47 = .ok (.bipush 8, 2) := by decide +kernel
theorem dX8_setNumber_49 : decode cX8_setNumber 49 = .ok (.invokevirtual 121, 3) := by decide +kernel
theorem dX8_setNumber_52 : decode cX8_setNumber 52 = .ok (.ireturn, 1) := by decide +kernel
theorem dX8_set_0 : decode cX8_set 0 = .ok (.iload_n 1, 1) := by decide +kernel
theorem dX8_set_1 : decode cX8_set 1 = .ok (.iconst 0, 1) := by decide +kernel
theorem dX8_set_2 : decode cX8_set 2 = .ok (.iconst 3, 1) := by decide +kernel
theorem dX8_set_3 : decode cX8_set 3 = .ok (.invokestatic 31, 3) := by decide +kernel
theorem dX8_set_6 : decode cX8_set 6 = .ok (.ifCond .ne 7, 3) := by decide +kernel
theorem dX8_set_9 : decode cX8_set 9 = .ok (.iconst (-1), 1) := by decide +kernel
theorem dX8_set_10 : decode cX8_set 10 = .ok (.goto 22, 3) := by decide +kernel
theorem dX8_set_13 : decode cX8_set 13 = .ok (.aload_n 0, 1) := by decide +kernel
theorem dX8_set_14 : decode cX8_set 14 = .ok (.getfield 7, 3) := by decide +kernel
theorem dX8_set_17 : decode cX8_set 17 = .ok (.iconst 0, 1) := by decide +kernel
theorem dX8_set_18 : decode cX8_set 18 = .ok (.iaload, 1) := by decide +kernel
theorem dX8_set_19 : decode cX8_set 19 = .ok (.ifCond .ne 8, 3) := by decide +kernel
theorem dX8_set_22 : decode cX8_set 22 = .ok (.bipush (-2), 2) := by decide +kernel
theorem dX8_set_24 : decode cX8_set 24 = .ok (.goto 8, 3) := by decide +kernel
theorem dX8_set_27 : decode cX8_set 27 = .ok (.aload_n 0, 1) := by decide +kernel
theorem dX8_set_28 : decode cX8_set 28 = .ok (.iload_n 1, 1) := by decide +kernel
theorem dX8_set_29 : decode cX8_set 29 = .ok (.invokevirtual 165, 3) := by decide +kernel
theorem dX8_set_32 : decode cX8_set 32 = .ok (.ireturn, 1) := by decide +kernel
theorem dX8_isIn_0 : decode cX8_isIn 0 = .ok (.aload_n 0, 1) := by decide +kernel
theorem dX8_isIn_1 : decode cX8_isIn 1 = .ok (.getfield 7, 3) := by decide +kernel
theorem dX8_isIn_4 : decode cX8_isIn 4 = .ok (.iconst 0, 1) := by decide +kernel
theorem dX8_isIn_5 : decode cX8_isIn 5 = .ok (.iaload, 1) := by decide +kernel
theorem dX8_isIn_6 : decode cX8_isIn 6 = .ok (.ifCond .eq 26, 3) := by decide +kernel
theorem dX8_isIn_9 : decode cX8_isIn 9 = .ok (.aload_n 0, 1) := by decide +kernel
theorem dX8_isIn_10 : decode cX8_isIn 10 = .ok (.iload_n 1, 1) := by decide +kernel
theorem dX8_isIn_11 : decode cX8_isIn 11 = .ok (.iconst 5, 1) := by decide +kernel
theorem dX8_isIn_12 : decode cX8_isIn 12 = .ok (.invokevirtual 43, 3) := by decide +kernel
theorem dX8_isIn_15 : decode cX8_isIn 15 = .ok (.ifCond .eq 17, 3) := by decide +kernel
theorem dX8_isIn_18 : decode cX8_isIn 18 = .ok (.aload_n 0, 1) := by decide +kernel
theorem dX8_isIn_19 : decode cX8_isIn 19 = .ok (.iload_n 1, 1) := by decide +kernel
theorem dX8_isIn_20 : decode cX8_isIn 20 = .ok (.bipush 6, 2) := by decide +kernel
theorem dX8_isIn_22 : decode cX8_isIn 22 = .ok (.invokevirtual 43, 3) := by decide +kernel
theorem dX8_isIn_25 : decode cX8_isIn 25 = .ok (.ifCond .eq 7, 3) := by decide +kernel
theorem dX8_isIn_28 : decode cX8_isIn 28 = .ok (.iconst 1, 1) := by decide +kernel
theorem dX8_isIn_29 : decode cX8_isIn 29 = .ok (.goto 4, 3) := by decide +kernel
theorem dX8_isIn_32 : decode cX8_isIn 32 = .ok (.iconst 0, 1) := by decide +kernel
theorem dX8_isIn_33 : decode cX8_isIn 33 = .ok (.ireturn, 1) := by decide +kernel
theorem dX8_digest_0 : decode cX8_digest 0 = .ok (.aload_n 0, 1) := by decide +kernel
theorem dX8_digest_1 : decode cX8_digest 1 = .ok (.iload_n 1, 1) := by decide +kernel
theorem dX8_digest_2 : decode cX8_digest 2 = .ok (.invokevirtual 39, 3) := by decide +kernel
theorem dX8_digest_5 : decode cX8_digest 5 = .ok (.ifCond .ne 7, 3) := by decide +kernel
theorem dX8_digest_8 : decode cX8_digest 8 = .ok (.iconst (-1), 1) := by decide +kernel
theorem dX8_digest_9 : decode cX8_digest 9 = .ok (.goto 31, 3) := by decide +kernel
theorem dX8_digest_12 : decode cX8_digest 12 = .ok (.aload_n 0, 1) := by decide +kernel
theorem dX8_digest_13 : decode cX8_digest 13 = .ok (.iload_n 1, 1) := by decide +kernel
theorem dX8_digest_14 : decode cX8_digest 14 = .ok (.invokevirtual 168, 3) := by decide +kernel
theorem dX8_digest_17 : decode cX8_digest 17 = .ok (.ifCond .eq 21, 3) := by decide +kernel
theorem dX8_digest_20 : decode cX8_digest 20 = .ok (.aload_n 0, 1) := by decide +kernel
theorem dX8_digest_21 : decode cX8_digest 21 = .ok (.getfield 7, 3) := by decide +kernel
theorem dX8_digest_24 : decode cX8_digest 24 = .ok (.iload_n 1, 1) := by decide +kernel
theorem dX8_digest_25 : decode cX8_digest 25 = .ok (.invokestatic 35, 3) := by decide +kernel
theorem dX8_digest_28 : decode cX8_digest 28 = .ok (.bipush 11, 2) := by decide +kernel
theorem dX8_digest_30 : decode cX8_digest 30 = .ok (.iadd, 1) := by decide +kernel
theorem dX8_digest_31 : decode cX8_digest 31 = .ok (.iaload, 1) := by decide +kernel
theorem dX8_digest_32 : decode cX8_digest 32 = .ok (.ldc 96, 2) := by decide +kernel
theorem dX8_digest_34 : decode cX8_digest 34 = .ok (.iand, 1) := by decide +kernel
theorem dX8_digest_35 : decode cX8_digest 35 = .ok (.goto 5, 3) := by decide +kernel
theorem dX8_digest_38 : decode cX8_digest 38 = .ok (.bipush (-9), 2) := by decide +kernel
theorem dX8_digest_40 : decode cX8_digest 40 = .ok (.ireturn, 1) := by decide +kernel
theorem dX8_share_0 : decode cX8_share 0 = .ok (.aload_n 0, 1) := by decide +kernel
theorem dX8_share_1 : decode cX8_share 1 = .ok (.iload_n 1, 1) := by decide +kernel
theorem dX8_share_2 : decode cX8_share 2 = .ok (.invokevirtual 39, 3) := by decide +kernel
theorem dX8_share_5 : decode cX8_share 5 = .ok (.ifCond .eq 11, 3) := by decide +kernel
theorem dX8_share_8 : decode cX8_share 8 = .ok (.aload_n 0, 1) := by decide +kernel
theorem dX8_share_9 : decode cX8_share 9 = .ok (.iload_n 2, 1) := by decide +kernel
theorem dX8_share_10 : decode cX8_share 10 = .ok (.invokevirtual 39, 3) := by decide +kernel
theorem dX8_share_13 : decode cX8_share 13 = .ok (.ifCond .ne 7, 3) := by decide +kernel
theorem dX8_share_16 : decode cX8_share 16 = .ok (.iconst (-1), 1) := by decide +kernel
theorem dX8_share_17 : decode cX8_share 17 = .ok (.goto 23, 3) := by decide +kernel
theorem dX8_share_20 : decode cX8_share 20 = .ok (.aload_n 0, 1) := by decide +kernel
theorem dX8_share_21 : decode cX8_share 21 = .ok (.iload_n 1, 1) := by decide +kernel
theorem dX8_share_22 : decode cX8_share 22 = .ok (.iload_n 2, 1) := by decide +kernel
theorem dX8_share_23 : decode cX8_share 23 = .ok (.invokevirtual 106, 3) := by decide +kernel
theorem dX8_share_26 : decode cX8_share 26 = .ok (.ifCond .eq 12, 3) := by decide +kernel
theorem dX8_share_29 : decode cX8_share 29 = .ok (.aload_n 0, 1) := by decide +kernel
theorem dX8_share_30 : decode cX8_share 30 = .ok (.iload_n 1, 1) := by decide +kernel
theorem dX8_share_31 : decode cX8_share 31 = .ok (.iload_n 2, 1) := by decide +kernel
theorem dX8_share_32 : decode cX8_share 32 = .ok (.invokevirtual 103, 3) := by decide +kernel
theorem dX8_share_35 : decode cX8_share 35 = .ok (.goto 5, 3) := by decide +kernel
theorem dX8_share_38 : decode cX8_share 38 = .ok (.bipush (-9), 2) := by decide +kernel
theorem dX8_share_40 : decode cX8_share 40 = .ok (.ireturn, 1) := by decide +kernel
theorem dX8_isRight_0 : decode cX8_isRight 0 = .ok (.aload_n 0, 1) := by decide +kernel
theorem dX8_isRight_1 : decode cX8_isRight 1 = .ok (.iload_n 1, 1) := by decide +kernel
theorem dX8_isRight_2 : decode cX8_isRight 2 = .ok (.invokevirtual 39, 3) := by decide +kernel
theorem dX8_isRight_5 : decode cX8_isRight 5 = .ok (.ifCond .eq 11, 3) := by decide +kernel
theorem dX8_isRight_8 : decode cX8_isRight 8 = .ok (.aload_n 0, 1) := by decide +kernel
theorem dX8_isRight_9 : decode cX8_isRight 9 = .ok (.iload_n 2, 1) := by decide +kernel
theorem dX8_isRight_10 : decode cX8_isRight 10 = .ok (.invokevirtual 39, 3) := by decide +kernel
theorem dX8_isRight_13 : decode cX8_isRight 13 = .ok (.ifCond .ne 7, 3) := by decide +kernel
theorem dX8_isRight_16 : decode cX8_isRight 16 = .ok (.iconst (-1), 1) := by decide +kernel
theorem dX8_isRight_17 : decode cX8_isRight 17 = .ok (.goto 31, 3) := by decide +kernel
theorem dX8_isRight_20 : decode cX8_isRight 20 = .ok (.aload_n 0, 1) := by decide +kernel
theorem dX8_isRight_21 : decode cX8_isRight 21 = .ok (.iload_n 1, 1) := by decide +kernel
theorem dX8_isRight_22 : decode cX8_isRight 22 = .ok (.iload_n 2, 1) := by decide +kernel
theorem dX8_isRight_23 : decode cX8_isRight 23 = .ok (.invokevirtual 106, 3) := by decide +kernel
theorem dX8_isRight_26 : decode cX8_isRight 26 = .ok (.ifCond .ne 8, 3) := by decide +kernel
theorem dX8_isRight_29 : decode cX8_isRight 29 = .ok (.bipush (-9), 2) := by decide +kernel
theorem dX8_isRight_31 : decode cX8_isRight 31 = .ok (.goto 17, 3) := by decide +kernel
theorem dX8_isRight_34 : decode cX8_isRight 34 = .ok (.aload_n 0, 1) := by decide +kernel
theorem dX8_isRight_35 : decode cX8_isRight 35 = .ok (.iload_n 1, 1) := by decide +kernel
theorem dX8_isRight_36 : decode cX8_isRight 36 = .ok (.iload_n 2, 1) := by decide +kernel
theorem dX8_isRight_37 : decode cX8_isRight 37 = .ok (.invokevirtual 112, 3) := by decide +kernel
theorem dX8_isRight_40 : decode cX8_isRight 40 = .ok (.ifCond .eq 7, 3) := by decide +kernel
theorem dX8_isRight_43 : decode cX8_isRight 43 = .ok (.iconst 1, 1) := by decide +kernel
theorem dX8_isRight_44 : decode cX8_isRight 44 = .ok (.goto 4, 3) := by decide +kernel
theorem dX8_isRight_47 : decode cX8_isRight 47 = .ok (.iconst 0, 1) := by decide +kernel
theorem dX8_isRight_48 : decode cX8_isRight 48 = .ok (.ireturn, 1) := by decide +kernel
theorem dX8_check_0 : decode cX8_check 0 = .ok (.aload_n 0, 1) := by decide +kernel
theorem dX8_check_1 : decode cX8_check 1 = .ok (.iload_n 1, 1) := by decide +kernel
theorem dX8_check_2 : decode cX8_check 2 = .ok (.invokevirtual 39, 3) := by decide +kernel
theorem dX8_check_5 : decode cX8_check 5 = .ok (.ifCond .eq 7, 3) := by decide +kernel
theorem dX8_check_8 : decode cX8_check 8 = .ok (.iload_n 2, 1) := by decide +kernel
theorem dX8_check_9 : decode cX8_check 9 = .ok (.ifCond .ge 5, 3) := by decide +kernel
theorem dX8_check_12 : decode cX8_check 12 = .ok (.iconst (-1), 1) := by decide +kernel
theorem dX8_check_13 : decode cX8_check 13 = .ok (.ireturn, 1) := by decide +kernel
theorem dX8_check_14 : decode cX8_check 14 = .ok (.aload_n 0, 1) := by decide +kernel
theorem dX8_check_15 : decode cX8_check 15 = .ok (.iload_n 1, 1) := by decide +kernel
theorem dX8_check_16 : decode cX8_check 16 = .ok (.invokevirtual 100, 3) := by decide +kernel
theorem dX8_check_19 : decode cX8_check 19 = .ok (.ifCond .eq 14, 3) := by decide +kernel
theorem dX8_check_22 : decode cX8_check 22 = .ok (.iload_n 2, 1) := by decide +kernel
theorem dX8_check_23 : decode cX8_check 23 = .ok (.aload_n 0, 1) := by decide +kernel
theorem dX8_check_24 : decode cX8_check 24 = .ok (.getfield 7, 3) := by decide +kernel
theorem dX8_check_27 : decode cX8_check 27 = .ok (.bipush 6, 2) := by decide +kernel
theorem dX8_check_29 : decode cX8_check 29 = .ok (.iaload, 1) := by decide +kernel
theorem dX8_check_30 : decode cX8_check 30 = .ok (.if_icmp .lt 6, 3) := by decide +kernel
theorem dX8_check_33 : decode cX8_check 33 = .ok (.bipush (-9), 2) := by decide +kernel
theorem dX8_check_35 : decode cX8_check 35 = .ok (.ireturn, 1) := by decide +kernel
theorem dX8_check_36 : decode cX8_check 36 = .ok (.iconst 1, 1) := by decide +kernel
theorem dX8_check_37 : decode cX8_check 37 = .ok (.istore_n 3, 1) := by decide +kernel
theorem dX8_check_38 : decode cX8_check 38 = .ok (.iconst 0, 1) := by decide +kernel
theorem dX8_check_39 : decode cX8_check 39 = .ok (.istore 4, 2) := by decide +kernel
theorem dX8_check_41 : decode cX8_check 41 = .ok (.iload 4, 2) := by decide +kernel
theorem dX8_check_43 : decode cX8_check 43 = .ok (.aload_n 0, 1) := by decide +kernel
theorem dX8_check_44 : decode cX8_check 44 = .ok (.getfield 7, 3) := by decide +kernel
theorem dX8_check_47 : decode cX8_check 47 = .ok (.iload_n 1, 1) := by decide +kernel
theorem dX8_check_48 : decode cX8_check 48 = .ok (.invokestatic 35, 3) := by decide +kernel
theorem dX8_check_51 : decode cX8_check 51 = .ok (.bipush 14, 2) := by decide +kernel
theorem dX8_check_53 : decode cX8_check 53 = .ok (.iadd, 1) := by decide +kernel
theorem dX8_check_54 : decode cX8_check 54 = .ok (.iload_n 2, 1) := by decide +kernel
theorem dX8_check_55 : decode cX8_check 55 = .ok (.iadd, 1) := by decide +kernel
theorem dX8_check_56 : decode cX8_check 56 = .ok (.iaload, 1) := by decide +kernel
theorem dX8_check_57 : decode cX8_check 57 = .ok (.if_icmp .ge 17, 3) := by decide +kernel
theorem dX8_check_60 : decode cX8_check 60 = .ok (.iload_n 3, 1) := by decide +kernel
theorem dX8_check_61 : decode cX8_check 61 = .ok (.iconst 4, 1) := by decide +kernel
theorem dX8_check_62 : decode cX8_check 62 = .ok (.imul, 1) := by decide +kernel
theorem dX8_check_63 : decode cX8_check 63 = .ok (.sipush 2039, 3) := by decide +kernel
theorem dX8_check_66 : decode cX8_check 66 = .ok (.irem, 1) := by decide +kernel
theorem dX8_check_67 : decode cX8_check 67 = .ok (.istore_n 3, 1) := by decide +kernel
theorem dX8_check_68 : decode cX8_check 68 = .ok (.iinc 4 1, 3) := by decide +kernel
theorem dX8_check_71 : decode cX8_check 71 = .ok (.goto (-30), 3) := by decide +kernel
theorem dX8_check_74 : decode cX8_check 74 = .ok (.iload_n 3, 1) := by decide +kernel
theorem dX8_check_75 : decode cX8_check 75 = .ok (.ireturn, 1) := by decide +kernel
theorem dX8_inverse_0 : decode cX8_inverse 0 = .ok (.iconst 1, 1) := by decide +kernel
theorem dX8_inverse_1 : decode cX8_inverse 1 = .ok (.istore_n 1, 1) := by decide +kernel
theorem dX8_inverse_2 : decode cX8_inverse 2 = .ok (.iload_n 1, 1) := by decide +kernel
theorem dX8_inverse_3 : decode cX8_inverse 3 = .ok (.sipush 1019, 3) := by decide +kernel
theorem dX8_inverse_6 : decode cX8_inverse 6 = .ok (.if_icmp .ge 32, 3) := by decide +kernel
theorem dX8_inverse_9 : decode cX8_inverse 9 = .ok (.iload_n 0, 1) := by decide +kernel
theorem dX8_inverse_10 : decode cX8_inverse 10 = .ok (.sipush 1019, 3) := by decide +kernel
theorem dX8_inverse_13 : decode cX8_inverse 13 = .ok (.irem, 1) := by decide +kernel
theorem dX8_inverse_14 : decode cX8_inverse 14 = .ok (.sipush 1019, 3) := by decide +kernel
theorem dX8_inverse_17 : decode cX8_inverse 17 = .ok (.iadd, 1) := by decide +kernel
theorem dX8_inverse_18 : decode cX8_inverse 18 = .ok (.sipush 1019, 3) := by decide +kernel
theorem dX8_inverse_21 : decode cX8_inverse 21 = .ok (.irem, 1) := by decide +kernel
theorem dX8_inverse_22 : decode cX8_inverse 22 = .ok (.iload_n 1, 1) := by decide +kernel
theorem dX8_inverse_23 : decode cX8_inverse 23 = .ok (.imul, 1) := by decide +kernel
theorem dX8_inverse_24 : decode cX8_inverse 24 = .ok (.sipush 1019, 3) := by decide +kernel
theorem dX8_inverse_27 : decode cX8_inverse 27 = .ok (.irem, 1) := by decide +kernel
theorem dX8_inverse_28 : decode cX8_inverse 28 = .ok (.iconst 1, 1) := by decide +kernel
theorem dX8_inverse_29 : decode cX8_inverse 29 = .ok (.if_icmp .eq 9, 3) := by decide +kernel
theorem dX8_inverse_32 : decode cX8_inverse 32 = .ok (.iinc 1 1, 3) := by decide +kernel
theorem dX8_inverse_35 : decode cX8_inverse 35 = .ok (.goto (-33), 3) := by decide +kernel
theorem dX8_inverse_38 : decode cX8_inverse 38 = .ok (.iload_n 1, 1) := by decide +kernel
theorem dX8_inverse_39 : decode cX8_inverse 39 = .ok (.ireturn, 1) := by decide +kernel
theorem dX8_recover_0 : decode cX8_recover 0 = .ok (.aload_n 0, 1) := by decide +kernel
theorem dX8_recover_1 : decode cX8_recover 1 = .ok (.iload_n 1, 1) := by decide +kernel
theorem dX8_recover_2 : decode cX8_recover 2 = .ok (.invokevirtual 39, 3) := by decide +kernel
theorem dX8_recover_5 : decode cX8_recover 5 = .ok (.ifCond .eq 14, 3) := by decide +kernel
theorem dX8_recover_8 : decode cX8_recover 8 = .ok (.iload_n 2, 1) := by decide +kernel
theorem dX8_recover_9 : decode cX8_recover 9 = .ok (.iconst 0, 1) := by decide +kernel
theorem dX8_recover_10 : decode cX8_recover 10 = .ok (.sipush 255, 3) := by decide +kernel
theorem dX8_recover_13 : decode cX8_recover 13 = .ok (.invokestatic 31, 3) := by decide +kernel
theorem dX8_recover_16 : decode cX8_recover 16 = .ok (.ifCond .ne 5, 3) := by decide +kernel
theorem dX8_recover_19 : decode cX8_recover 19 = .ok (.iconst (-1), 1) := by decide +kernel
theorem dX8_recover_20 : decode cX8_recover 20 = .ok (.ireturn, 1) := by decide +kernel
theorem dX8_recover_21 : decode cX8_recover 21 = .ok (.iload_n 2, 1) := by decide +kernel
theorem dX8_recover_22 : decode cX8_recover 22 = .ok (.aload_n 0, 1) := by decide +kernel
theorem dX8_recover_23 : decode cX8_recover 23 = .ok (.iconst 5, 1) := by decide +kernel
theorem dX8_recover_24 : decode cX8_recover 24 = .ok (.invokevirtual 121, 3) := by decide +kernel
theorem dX8_recover_27 : decode cX8_recover 27 = .ok (.iand, 1) := by decide +kernel
theorem dX8_recover_28 : decode cX8_recover 28 = .ok (.istore_n 3, 1) := by decide +kernel
theorem dX8_recover_29 : decode cX8_recover 29 = .ok (.aload_n 0, 1) := by decide +kernel
theorem dX8_recover_30 : decode cX8_recover 30 = .ok (.iload_n 1, 1) := by decide +kernel
theorem dX8_recover_31 : decode cX8_recover 31 = .ok (.invokevirtual 100, 3) := by decide +kernel
theorem dX8_recover_34 : decode cX8_recover 34 = .ok (.ifCond .eq 17, 3) := by decide +kernel
theorem dX8_recover_37 : decode cX8_recover 37 = .ok (.iload_n 3, 1) := by decide +kernel
theorem dX8_recover_38 : decode cX8_recover 38 = .ok (.invokestatic 124, 3) := by decide +kernel
theorem dX8_recover_41 : decode cX8_recover 41 = .ok (.aload_n 0, 1) := by decide +kernel
theorem dX8_recover_42 : decode cX8_recover 42 = .ok (.getfield 7, 3) := by decide +kernel
theorem dX8_recover_45 : decode cX8_recover 45 = .ok (.bipush 6, 2) := by decide +kernel
theorem dX8_recover_47 : decode cX8_recover 47 = .ok (.iaload, 1) := by decide +kernel
theorem dX8_recover_48 : decode cX8_recover 48 = .ok (.if_icmp .ge 6, 3) := by decide +kernel
theorem dX8_recover_51 : decode cX8_recover 51 = .ok (.bipush (-9), 2) := by decide +kernel
theorem dX8_recover_53 : decode cX8_recover 53 = .ok (.ireturn, 1) := by decide +kernel
theorem dX8_recover_54 : decode cX8_recover 54 = .ok (.iload_n 3, 1) := by decide +kernel
theorem dX8_recover_55 : decode cX8_recover 55 = .ok (.invokestatic 124, 3) := by decide +kernel
theorem dX8_recover_58 : decode cX8_recover 58 = .ok (.aload_n 0, 1) := by decide +kernel
theorem dX8_recover_59 : decode cX8_recover 59 = .ok (.getfield 7, 3) := by decide +kernel
theorem dX8_recover_62 : decode cX8_recover 62 = .ok (.bipush 6, 2) := by decide +kernel
theorem dX8_recover_64 : decode cX8_recover 64 = .ok (.iaload, 1) := by decide +kernel
theorem dX8_recover_65 : decode cX8_recover 65 = .ok (.if_icmp .le 34, 3) := by decide +kernel
theorem dX8_recover_68 : decode cX8_recover 68 = .ok (.bipush 7, 2) := by decide +kernel
theorem dX8_recover_70 : decode cX8_recover 70 = .ok (.istore 4, 2) := by decide +kernel
theorem dX8_recover_72 : decode cX8_recover 72 = .ok (.iload_n 3, 1) := by decide +kernel
theorem dX8_recover_73 : decode cX8_recover 73 = .ok (.iload 4, 2) := by decide +kernel
theorem dX8_recover_75 : decode cX8_recover 75 = .ok (.ishr, 1) := by decide +kernel
theorem dX8_recover_76 : decode cX8_recover 76 = .ok (.iconst 1, 1) := by decide +kernel
theorem dX8_recover_77 : decode cX8_recover 77 = .ok (.iand, 1) := by decide +kernel
theorem dX8_recover_78 : decode cX8_recover 78 = .ok (.ifCond .ne 9, 3) := by decide +kernel
theorem dX8_recover_81 : decode cX8_recover 81 = .ok (.iinc 4 (-1), 3) := by decide +kernel
theorem dX8_recover_84 : decode cX8_recover 84 = .ok (.goto (-12), 3) := by decide +kernel
theorem dX8_recover_87 : decode cX8_recover 87 = .ok (.iload_n 3, 1) := by decide +kernel
theorem dX8_recover_88 : decode cX8_recover 88 = .ok (.iconst 1, 1) := by decide +kernel
theorem dX8_recover_89 : decode cX8_recover 89 = .ok (.iload 4, 2) := by decide +kernel
theorem dX8_recover_91 : decode cX8_recover 91 = .ok (.ishl, 1) := by decide +kernel
theorem dX8_recover_92 : decode cX8_recover 92 = .ok (.iconst (-1), 1) := by decide +kernel
theorem dX8_recover_93 : decode cX8_recover 93 = .ok (.ixor, 1) := by decide +kernel
theorem dX8_recover_94 : decode cX8_recover 94 = .ok (.iand, 1) := by decide +kernel
theorem dX8_recover_95 : decode cX8_recover 95 = .ok (.istore_n 3, 1) := by decide +kernel
theorem dX8_recover_96 : decode cX8_recover 96 = .ok (.goto (-42), 3) := by decide +kernel
theorem dX8_recover_99 : decode cX8_recover 99 = .ok (.iconst 0, 1) := by decide +kernel
theorem dX8_recover_100 : decode cX8_recover 100 = .ok (.istore 4, 2) := by decide +kernel
theorem dX8_recover_102 : decode cX8_recover 102 = .ok (.iconst 0, 1) := by decide +kernel
theorem dX8_recover_103 : decode cX8_recover 103 = .ok (.istore 5, 2) := by decide +kernel
theorem dX8_recover_105 : decode cX8_recover 105 = .ok (.iload 5, 2) := by decide +kernel
theorem dX8_recover_107 : decode cX8_recover 107 = .ok (.bipush 8, 2) := by decide +kernel
theorem dX8_recover_109 : decode cX8_recover 109 = .ok (.if_icmp .ge 102, 3) := by decide +kernel
theorem dX8_recover_112 : decode cX8_recover 112 = .ok (.iload_n 3, 1) := by decide +kernel
theorem dX8_recover_113 : decode cX8_recover 113 = .ok (.iload 5, 2) := by decide +kernel
theorem dX8_recover_115 : decode cX8_recover 115 = .ok (.ishr, 1) := by decide +kernel
theorem dX8_recover_116 : decode cX8_recover 116 = .ok (.iconst 1, 1) := by decide +kernel
theorem dX8_recover_117 : decode cX8_recover 117 = .ok (.iand, 1) := by decide +kernel
theorem dX8_recover_118 : decode cX8_recover 118 = .ok (.iconst 1, 1) := by decide +kernel
theorem dX8_recover_119 : decode cX8_recover 119 = .ok (.if_icmp .ne 13, 3) := by decide +kernel
theorem dX8_recover_122 : decode cX8_recover 122 = .ok (.aload_n 0, 1) := by decide +kernel
theorem dX8_recover_123 : decode cX8_recover 123 = .ok (.iload_n 1, 1) := by decide +kernel
theorem dX8_recover_124 : decode cX8_recover 124 = .ok (.iload 5, 2) := by decide +kernel
theorem dX8_recover_126 : decode cX8_recover 126 = .ok (.invokevirtual 103, 3) := by decide +kernel
theorem dX8_recover_129 : decode cX8_recover 129 = .ok (.goto 4, 3) := by decide +kernel
theorem dX8_recover_132 : decode cX8_recover 132 = .ok (.iconst 0, 1) := by decide +kernel
theorem dX8_recover_133 : decode cX8_recover 133 = .ok (.istore 6, 2) := by decide +kernel
theorem dX8_recover_135 : decode cX8_recover 135 = .ok (.iconst 0, 1) := by decide +kernel
theorem dX8_recover_136 : decode cX8_recover 136 = .ok (.istore 7, 2) := by decide +kernel
theorem dX8_recover_138 : decode cX8_recover 138 = .ok (.iload 7, 2) := by decide +kernel
theorem dX8_recover_140 : decode cX8_recover 140 = .ok (.bipush 8, 2) := by decide +kernel
theorem dX8_recover_142 : decode cX8_recover 142 = .ok (.if_icmp .ge 52, 3) := by decide +kernel
theorem dX8_recover_145 : decode cX8_recover 145 = .ok (.iload 7, 2) := by decide +kernel
theorem dX8_recover_147 : decode cX8_recover 147 = .ok (.iload 5, 2) := by decide +kernel
theorem dX8_recover_149 : decode cX8_recover 149 = .ok (.if_icmp .eq 39, 3) := by decide +kernel
theorem dX8_recover_152 : decode cX8_recover 152 = .ok (.iload_n 3, 1) := by decide +kernel
theorem dX8_recover_153 : decode cX8_recover 153 = .ok (.iload 7, 2) := by decide +kernel
theorem dX8_recover_155 : decode cX8_recover 155 = .ok (.ishr, 1) := by decide +kernel
theorem dX8_recover_156 : decode cX8_recover 156 = .ok (.iconst 1, 1) := by decide +kernel
theorem dX8_recover_157 : decode cX8_recover 157 = .ok (.iand, 1) := by decide +kernel
theorem dX8_recover_158 : decode cX8_recover 158 = .ok (.iconst 1, 1) := by decide +kernel
theorem dX8_recover_159 : decode cX8_recover 159 = .ok (.if_icmp .ne 29, 3) := by decide +kernel
theorem dX8_recover_162 : decode cX8_recover 162 = .ok (.iload 6, 2) := by decide +kernel
theorem dX8_recover_164 : decode cX8_recover 164 = .ok (.iload 7, 2) := by decide +kernel
theorem dX8_recover_166 : decode cX8_recover 166 = .ok (.iconst 1, 1) := by decide +kernel
theorem dX8_recover_167 : decode cX8_recover 167 = .ok (.iadd, 1) := by decide +kernel
theorem dX8_recover_168 : decode cX8_recover 168 = .ok (.imul, 1) := by decide +kernel
theorem dX8_recover_169 : decode cX8_recover 169 = .ok (.sipush 1019, 3) := by decide +kernel
theorem dX8_recover_172 : decode cX8_recover 172 = .ok (.irem, 1) := by decide +kernel
theorem dX8_recover_173 : decode cX8_recover 173 = .ok (.iload 7, 2) := by decide +kernel
theorem dX8_recover_175 : decode cX8_recover 175 = .ok (.iload 5, 2) := by decide +kernel
theorem dX8_recover_177 : decode cX8_recover 177 = .ok (.isub, 1) := by decide +kernel
theorem dX8_recover_178 : decode cX8_recover 178 = .ok (.invokestatic 171, 3) := by decide +kernel
theorem dX8_recover_181 : decode cX8_recover 181 = .ok (.imul, 1) := by decide +kernel
theorem dX8_recover_182 : decode cX8_recover 182 = .ok (.sipush 1019, 3) := by decide +kernel
theorem dX8_recover_185 : decode cX8_recover 185 = .ok (.irem, 1) := by decide +kernel
theorem dX8_recover_186 : decode cX8_recover 186 = .ok (.istore 6, 2) := by decide +kernel
theorem dX8_recover_188 : decode cX8_recover 188 = .ok (.iinc 7 1, 3) := by decide +kernel
theorem dX8_recover_191 : decode cX8_recover 191 = .ok (.goto (-53), 3) := by decide +kernel
theorem dX8_recover_194 : decode cX8_recover 194 = .ok (.iload 4, 2) := by decide +kernel
theorem dX8_recover_196 : decode cX8_recover 196 = .ok (.iload 6, 2) := by decide +kernel
theorem dX8_recover_198 : decode cX8_recover 198 = .ok (.iadd, 1) := by decide +kernel
theorem dX8_recover_199 : decode cX8_recover 199 = .ok (.sipush 1019, 3) := by decide +kernel
theorem dX8_recover_202 : decode cX8_recover 202 = .ok (.irem, 1) := by decide +kernel
theorem dX8_recover_203 : decode cX8_recover 203 = .ok (.istore 4, 2) := by decide +kernel
theorem dX8_recover_205 : decode cX8_recover 205 = .ok (.iinc 5 1, 3) := by decide +kernel
theorem dX8_recover_208 : decode cX8_recover 208 = .ok (.goto (-103), 3) := by decide +kernel
theorem dX8_recover_211 : decode cX8_recover 211 = .ok (.iload 4, 2) := by decide +kernel
theorem dX8_recover_213 : decode cX8_recover 213 = .ok (.ireturn, 1) := by decide +kernel
theorem dX8_lock_0 : decode cX8_lock 0 = .ok (.aload_n 0, 1) := by decide +kernel
theorem dX8_lock_1 : decode cX8_lock 1 = .ok (.iload_n 1, 1) := by decide +kernel
theorem dX8_lock_2 : decode cX8_lock 2 = .ok (.invokevirtual 39, 3) := by decide +kernel
theorem dX8_lock_5 : decode cX8_lock 5 = .ok (.ifCond .eq 12, 3) := by decide +kernel
theorem dX8_lock_8 : decode cX8_lock 8 = .ok (.iload_n 2, 1) := by decide +kernel
theorem dX8_lock_9 : decode cX8_lock 9 = .ok (.iconst 0, 1) := by decide +kernel
theorem dX8_lock_10 : decode cX8_lock 10 = .ok (.iconst 1, 1) := by decide +kernel
theorem dX8_lock_11 : decode cX8_lock 11 = .ok (.invokestatic 31, 3) := by decide +kernel
theorem dX8_lock_14 : decode cX8_lock 14 = .ok (.ifCond .ne 5, 3) := by decide +kernel
theorem dX8_lock_17 : decode cX8_lock 17 = .ok (.iconst (-1), 1) := by decide +kernel
theorem dX8_lock_18 : decode cX8_lock 18 = .ok (.ireturn, 1) := by decide +kernel
theorem dX8_lock_19 : decode cX8_lock 19 = .ok (.aload_n 0, 1) := by decide +kernel
theorem dX8_lock_20 : decode cX8_lock 20 = .ok (.getfield 7, 3) := by decide +kernel
theorem dX8_lock_23 : decode cX8_lock 23 = .ok (.iconst 5, 1) := by decide +kernel
theorem dX8_lock_24 : decode cX8_lock 24 = .ok (.iaload, 1) := by decide +kernel
theorem dX8_lock_25 : decode cX8_lock 25 = .ok (.iconst 2, 1) := by decide +kernel
theorem dX8_lock_26 : decode cX8_lock 26 = .ok (.if_icmp .ne 35, 3) := by decide +kernel
theorem dX8_lock_29 : decode cX8_lock 29 = .ok (.aload_n 0, 1) := by decide +kernel
theorem dX8_lock_30 : decode cX8_lock 30 = .ok (.iload_n 1, 1) := by decide +kernel
theorem dX8_lock_31 : decode cX8_lock 31 = .ok (.invokevirtual 168, 3) := by decide +kernel
theorem dX8_lock_34 : decode cX8_lock 34 = .ok (.ifCond .eq 27, 3) := by decide +kernel
theorem dX8_lock_37 : decode cX8_lock 37 = .ok (.aload_n 0, 1) := by decide +kernel
theorem dX8_lock_38 : decode cX8_lock 38 = .ok (.getfield 7, 3) := by decide +kernel
theorem dX8_lock_41 : decode cX8_lock 41 = .ok (.iload_n 1, 1) := by decide +kernel
theorem dX8_lock_42 : decode cX8_lock 42 = .ok (.invokestatic 35, 3) := by decide +kernel
theorem dX8_lock_45 : decode cX8_lock 45 = .ok (.iload_n 2, 1) := by decide +kernel
theorem dX8_lock_46 : decode cX8_lock 46 = .ok (.ifCond .ne 8, 3) := by decide +kernel
theorem dX8_lock_49 : decode cX8_lock 49 = .ok (.bipush 12, 2) := by decide +kernel
theorem dX8_lock_51 : decode cX8_lock 51 = .ok (.goto 5, 3) := by decide +kernel
theorem dX8_lock_54 : decode cX8_lock 54 = .ok (.bipush 13, 2) := by decide +kernel
theorem dX8_lock_56 : decode cX8_lock 56 = .ok (.iadd, 1) := by decide +kernel
theorem dX8_lock_57 : decode cX8_lock 57 = .ok (.iaload, 1) := by decide +kernel
theorem dX8_lock_58 : decode cX8_lock 58 = .ok (.goto 5, 3) := by decide +kernel
theorem dX8_lock_61 : decode cX8_lock 61 = .ok (.bipush (-9), 2) := by decide +kernel
theorem dX8_lock_63 : decode cX8_lock 63 = .ok (.ireturn, 1) := by decide +kernel
theorem dX8_mayJoin_0 : decode cX8_mayJoin 0 = .ok (.aload_n 0, 1) := by decide +kernel
theorem dX8_mayJoin_1 : decode cX8_mayJoin 1 = .ok (.iconst 5, 1) := by decide +kernel
theorem dX8_mayJoin_2 : decode cX8_mayJoin 2 = .ok (.invokevirtual 121, 3) := by decide +kernel
theorem dX8_mayJoin_5 : decode cX8_mayJoin 5 = .ok (.aload_n 0, 1) := by decide +kernel
theorem dX8_mayJoin_6 : decode cX8_mayJoin 6 = .ok (.bipush 7, 2) := by decide +kernel
theorem dX8_mayJoin_8 : decode cX8_mayJoin 8 = .ok (.invokevirtual 121, 3) := by decide +kernel
theorem dX8_mayJoin_11 : decode cX8_mayJoin 11 = .ok (.iconst (-1), 1) := by decide +kernel
theorem dX8_mayJoin_12 : decode cX8_mayJoin 12 = .ok (.ixor, 1) := by decide +kernel
theorem dX8_mayJoin_13 : decode cX8_mayJoin 13 = .ok (.iand, 1) := by decide +kernel
theorem dX8_mayJoin_14 : decode cX8_mayJoin 14 = .ok (.istore_n 2, 1) := by decide +kernel
theorem dX8_mayJoin_15 : decode cX8_mayJoin 15 = .ok (.aload_n 0, 1) := by decide +kernel
theorem dX8_mayJoin_16 : decode cX8_mayJoin 16 = .ok (.getfield 7, 3) := by decide +kernel
theorem dX8_mayJoin_19 : decode cX8_mayJoin 19 = .ok (.iconst 0, 1) := by decide +kernel
theorem dX8_mayJoin_20 : decode cX8_mayJoin 20 = .ok (.iaload, 1) := by decide +kernel
theorem dX8_mayJoin_21 : decode cX8_mayJoin 21 = .ok (.iconst 2, 1) := by decide +kernel
theorem dX8_mayJoin_22 : decode cX8_mayJoin 22 = .ok (.if_icmp .ne 15, 3) := by decide +kernel
theorem dX8_mayJoin_25 : decode cX8_mayJoin 25 = .ok (.iload_n 1, 1) := by decide +kernel
theorem dX8_mayJoin_26 : decode cX8_mayJoin 26 = .ok (.iload_n 2, 1) := by decide +kernel
theorem dX8_mayJoin_27 : decode cX8_mayJoin 27 = .ok (.iconst (-1), 1) := by decide +kernel
theorem dX8_mayJoin_28 : decode cX8_mayJoin 28 = .ok (.ixor, 1) := by decide +kernel
theorem dX8_mayJoin_29 : decode cX8_mayJoin 29 = .ok (.iand, 1) := by decide +kernel
theorem dX8_mayJoin_30 : decode cX8_mayJoin 30 = .ok (.ifCond .ne 7, 3) := by decide +kernel
theorem dX8_mayJoin_33 : decode cX8_mayJoin 33 = .ok (.iconst 1, 1) := by decide +kernel
theorem dX8_mayJoin_34 : decode cX8_mayJoin 34 = .ok (.goto 4, 3) := by decide +kernel
theorem dX8_mayJoin_37 : decode cX8_mayJoin 37 = .ok (.iconst 0, 1) := by decide +kernel
theorem dX8_mayJoin_38 : decode cX8_mayJoin 38 = .ok (.ireturn, 1) := by decide +kernel
theorem dX8_results_0 : decode cX8_results 0 = .ok (.iload_n 1, 1) := by decide +kernel
theorem dX8_results_1 : decode cX8_results 1 = .ok (.iconst 0, 1) := by decide +kernel
theorem dX8_results_2 : decode cX8_results 2 = .ok (.sipush 255, 3) := by decide +kernel
theorem dX8_results_5 : decode cX8_results 5 = .ok (.invokestatic 31, 3) := by decide +kernel
theorem dX8_results_8 : decode cX8_results 8 = .ok (.ifCond .ne 5, 3) := by decide +kernel
theorem dX8_results_11 : decode cX8_results 11 = .ok (.iconst (-1), 1) := by decide +kernel
theorem dX8_results_12 : decode cX8_results 12 = .ok (.ireturn, 1) := by decide +kernel
theorem dX8_results_13 : decode cX8_results 13 = .ok (.aload_n 0, 1) := by decide +kernel
theorem dX8_results_14 : decode cX8_results 14 = .ok (.iload_n 1, 1) := by decide +kernel
theorem dX8_results_15 : decode cX8_results 15 = .ok (.invokevirtual 174, 3) := by decide +kernel
theorem dX8_results_18 : decode cX8_results 18 = .ok (.ifCond .ne 6, 3) := by decide +kernel
theorem dX8_results_21 : decode cX8_results 21 = .ok (.bipush (-2), 2) := by decide +kernel
theorem dX8_results_23 : decode cX8_results 23 = .ok (.ireturn, 1) := by decide +kernel
theorem dX8_results_24 : decode cX8_results 24 = .ok (.aload_n 0, 1) := by decide +kernel
theorem dX8_results_25 : decode cX8_results 25 = .ok (.invokevirtual 141, 3) := by decide +kernel
theorem dX8_results_28 : decode cX8_results 28 = .ok (.aload_n 0, 1) := by decide +kernel
theorem dX8_results_29 : decode cX8_results 29 = .ok (.iconst 5, 1) := by decide +kernel
theorem dX8_results_30 : decode cX8_results 30 = .ok (.invokevirtual 121, 3) := by decide +kernel
theorem dX8_results_33 : decode cX8_results 33 = .ok (.istore_n 2, 1) := by decide +kernel
theorem dX8_results_34 : decode cX8_results 34 = .ok (.iconst 0, 1) := by decide +kernel
theorem dX8_results_35 : decode cX8_results 35 = .ok (.istore_n 3, 1) := by decide +kernel
theorem dX8_results_36 : decode cX8_results 36 = .ok (.iconst 0, 1) := by decide +kernel
theorem dX8_results_37 : decode cX8_results 37 = .ok (.istore 4, 2) := by decide +kernel
theorem dX8_results_39 : decode cX8_results 39 = .ok (.iconst 0, 1) := by decide +kernel
theorem dX8_results_40 : decode cX8_results 40 = .ok (.istore 5, 2) := by decide +kernel
theorem dX8_results_42 : decode cX8_results 42 = .ok (.iload 5, 2) := by decide +kernel
theorem dX8_results_44 : decode cX8_results 44 = .ok (.sipush 256, 3) := by decide +kernel
theorem dX8_results_47 : decode cX8_results 47 = .ok (.if_icmp .ge 116, 3) := by decide +kernel
theorem dX8_results_50 : decode cX8_results 50 = .ok (.iload 5, 2) := by decide +kernel
theorem dX8_results_52 : decode cX8_results 52 = .ok (.iload_n 1, 1) := by decide +kernel
theorem dX8_results_53 : decode cX8_results 53 = .ok (.iconst (-1), 1) := by decide +kernel
theorem dX8_results_54 : decode cX8_results 54 = .ok (.ixor, 1) := by decide +kernel
theorem dX8_results_55 : decode cX8_results 55 = .ok (.iand, 1) := by decide +kernel
theorem dX8_results_56 : decode cX8_results 56 = .ok (.ifCond .ne 101, 3) := by decide +kernel
theorem dX8_results_59 : decode cX8_results 59 = .ok (.aload_n 0, 1) := by decide +kernel
theorem dX8_results_60 : decode cX8_results 60 = .ok (.iload_n 2, 1) := by decide +kernel
theorem dX8_results_61 : decode cX8_results 61 = .ok (.iload_n 1, 1) := by decide +kernel
theorem dX8_results_62 : decode cX8_results 62 = .ok (.iconst (-1), 1) := by decide +kernel
theorem dX8_results_63 : decode cX8_results 63 = .ok (.ixor, 1) := by decide +kernel
theorem dX8_results_64 : decode cX8_results 64 = .ok (.iand, 1) := by decide +kernel
theorem dX8_results_65 : decode cX8_results 65 = .ok (.iload 5, 2) := by decide +kernel
theorem dX8_results_67 : decode cX8_results 67 = .ok (.ior, 1) := by decide +kernel
theorem dX8_results_68 : decode cX8_results 68 = .ok (.invokevirtual 144, 3) := by decide +kernel
theorem dX8_results_71 : decode cX8_results 71 = .ok (.istore 6, 2) := by decide +kernel
theorem dX8_results_73 : decode cX8_results 73 = .ok (.aload_n 0, 1) := by decide +kernel
theorem dX8_results_74 : decode cX8_results 74 = .ok (.getfield 134, 3) := by decide +kernel
theorem dX8_results_77 : decode cX8_results 77 = .ok (.ifCond .ne 7, 3) := by decide +kernel
theorem dX8_results_80 : decode cX8_results 80 = .ok (.iconst 1, 1) := by decide +kernel
theorem dX8_results_81 : decode cX8_results 81 = .ok (.goto 4, 3) := by decide +kernel
theorem dX8_results_84 : decode cX8_results 84 = .ok (.iconst 0, 1) := by decide +kernel
theorem dX8_results_85 : decode cX8_results 85 = .ok (.istore 7, 2) := by decide +kernel
theorem dX8_results_87 : decode cX8_results 87 = .ok (.aload_n 0, 1) := by decide +kernel
theorem dX8_results_88 : decode cX8_results 88 = .ok (.getfield 134, 3) := by decide +kernel
theorem dX8_results_91 : decode cX8_results 91 = .ok (.ifCond .eq 7, 3) := by decide +kernel
theorem dX8_results_94 : decode cX8_results 94 = .ok (.iconst 1, 1) := by decide +kernel
theorem dX8_results_95 : decode cX8_results 95 = .ok (.goto 5, 3) := by decide +kernel
theorem dX8_results_98 : decode cX8_results 98 = .ok (.iload 4, 2) := by decide +kernel
theorem dX8_results_100 : decode cX8_results 100 = .ok (.istore 4, 2) := by decide +kernel
theorem dX8_results_102 : decode cX8_results 102 = .ok (.iconst 0, 1) := by decide +kernel
theorem dX8_results_103 : decode cX8_results 103 = .ok (.istore 8, 2) := by decide +kernel
theorem dX8_results_105 : decode cX8_results 105 = .ok (.iload 8, 2) := by decide +kernel
theorem dX8_results_107 : decode cX8_results 107 = .ok (.iload_n 3, 1) := by decide +kernel
theorem dX8_results_108 : decode cX8_results 108 = .ok (.if_icmp .ge 33, 3) := by decide +kernel
theorem dX8_results_111 : decode cX8_results 111 = .ok (.iload 7, 2) := by decide +kernel
theorem dX8_results_113 : decode cX8_results 113 = .ok (.ifCond .eq 28, 3) := by decide +kernel
theorem dX8_results_116 : decode cX8_results 116 = .ok (.aload_n 0, 1) := by decide +kernel
theorem dX8_results_117 : decode cX8_results 117 = .ok (.getfield 19, 3) := by decide +kernel
theorem dX8_results_120 : decode cX8_results 120 = .ok (.iload 8, 2) := by decide +kernel
theorem dX8_results_122 : decode cX8_results 122 = .ok (.iaload, 1) := by decide +kernel
theorem dX8_results_123 : decode cX8_results 123 = .ok (.iload 6, 2) := by decide +kernel
theorem dX8_results_125 : decode cX8_results 125 = .ok (.if_icmp .eq 7, 3) := by decide +kernel
theorem dX8_results_128 : decode cX8_results 128 = .ok (.iconst 1, 1) := by decide +kernel
theorem dX8_results_129 : decode cX8_results 129 = .ok (.goto 4, 3) := by decide +kernel
theorem dX8_results_132 : decode cX8_results 132 = .ok (.iconst 0, 1) := by decide +kernel
theorem dX8_results_133 : decode cX8_results 133 = .ok (.istore 7, 2) := by decide +kernel
theorem dX8_results_135 : decode cX8_results 135 = .ok (.iinc 8 1, 3) := by decide +kernel
theorem dX8_results_138 : decode cX8_results 138 = .ok (.goto (-33), 3) := by decide +kernel
theorem dX8_results_141 : decode cX8_results 141 = .ok (.iload 7, 2) := by decide +kernel
theorem dX8_results_143 : decode cX8_results 143 = .ok (.ifCond .eq 14, 3) := by decide +kernel
theorem dX8_results_146 : decode cX8_results 146 = .ok (.aload_n 0, 1) := by decide +kernel
theorem dX8_results_147 : decode cX8_results 147 = .ok (.getfield 19, 3) := by decide +kernel
theorem dX8_results_150 : decode cX8_results 150 = .ok (.iload_n 3, 1) := by decide +kernel
theorem dX8_results_151 : decode cX8_results 151 = .ok (.iload 6, 2) := by decide +kernel
theorem dX8_results_153 : decode cX8_results 153 = .ok (.iastore, 1) := by decide +kernel
theorem dX8_results_154 : decode cX8_results 154 = .ok (.iinc 3 1, 3) := by decide +kernel
theorem dX8_results_157 : decode cX8_results 157 = .ok (.iinc 5 1, 3) := by decide +kernel
theorem dX8_results_160 : decode cX8_results 160 = .ok (.goto (-118), 3) := by decide +kernel
theorem dX8_results_163 : decode cX8_results 163 = .ok (.iload_n 3, 1) := by decide +kernel
theorem dX8_results_164 : decode cX8_results 164 = .ok (.iload 4, 2) := by decide +kernel
theorem dX8_results_166 : decode cX8_results 166 = .ok (.iadd, 1) := by decide +kernel
theorem dX8_results_167 : decode cX8_results 167 = .ok (.ireturn, 1) := by decide +kernel
theorem dX8_forces_0 : decode cX8_forces 0 = .ok (.aload_n 0, 1) := by decide +kernel
theorem dX8_forces_1 : decode cX8_forces 1 = .ok (.iconst 5, 1) := by decide +kernel
theorem dX8_forces_2 : decode cX8_forces 2 = .ok (.invokevirtual 121, 3) := by decide +kernel
theorem dX8_forces_5 : decode cX8_forces 5 = .ok (.iload_n 1, 1) := by decide +kernel
theorem dX8_forces_6 : decode cX8_forces 6 = .ok (.iconst (-1), 1) := by decide +kernel
theorem dX8_forces_7 : decode cX8_forces 7 = .ok (.ixor, 1) := by decide +kernel
theorem dX8_forces_8 : decode cX8_forces 8 = .ok (.iand, 1) := by decide +kernel
theorem dX8_forces_9 : decode cX8_forces 9 = .ok (.istore_n 3, 1) := by decide +kernel
theorem dX8_forces_10 : decode cX8_forces 10 = .ok (.iconst 0, 1) := by decide +kernel
theorem dX8_forces_11 : decode cX8_forces 11 = .ok (.istore 4, 2) := by decide +kernel
theorem dX8_forces_13 : decode cX8_forces 13 = .ok (.iload 4, 2) := by decide +kernel
theorem dX8_forces_15 : decode cX8_forces 15 = .ok (.sipush 256, 3) := by decide +kernel
theorem dX8_forces_18 : decode cX8_forces 18 = .ok (.if_icmp .ge 45, 3) := by decide +kernel
theorem dX8_forces_21 : decode cX8_forces 21 = .ok (.iload 4, 2) := by decide +kernel
theorem dX8_forces_23 : decode cX8_forces 23 = .ok (.iload_n 1, 1) := by decide +kernel
theorem dX8_forces_24 : decode cX8_forces 24 = .ok (.iconst (-1), 1) := by decide +kernel
theorem dX8_forces_25 : decode cX8_forces 25 = .ok (.ixor, 1) := by decide +kernel
theorem dX8_forces_26 : decode cX8_forces 26 = .ok (.iand, 1) := by decide +kernel
theorem dX8_forces_27 : decode cX8_forces 27 = .ok (.ifCond .ne 30, 3) := by decide +kernel
theorem dX8_forces_30 : decode cX8_forces 30 = .ok (.aload_n 0, 1) := by decide +kernel
theorem dX8_forces_31 : decode cX8_forces 31 = .ok (.iload_n 3, 1) := by decide +kernel
theorem dX8_forces_32 : decode cX8_forces 32 = .ok (.iload 4, 2) := by decide +kernel
theorem dX8_forces_34 : decode cX8_forces 34 = .ok (.ior, 1) := by decide +kernel
theorem dX8_forces_35 : decode cX8_forces 35 = .ok (.invokevirtual 144, 3) := by decide +kernel
theorem dX8_forces_38 : decode cX8_forces 38 = .ok (.istore 5, 2) := by decide +kernel
theorem dX8_forces_40 : decode cX8_forces 40 = .ok (.aload_n 0, 1) := by decide +kernel
theorem dX8_forces_41 : decode cX8_forces 41 = .ok (.getfield 134, 3) := by decide +kernel
theorem dX8_forces_44 : decode cX8_forces 44 = .ok (.ifCond .ne 13, 3) := by decide +kernel
theorem dX8_forces_47 : decode cX8_forces 47 = .ok (.iload 5, 2) := by decide +kernel
theorem dX8_forces_49 : decode cX8_forces 49 = .ok (.iconst 1, 1) := by decide +kernel
theorem dX8_forces_50 : decode cX8_forces 50 = .ok (.iand, 1) := by decide +kernel
theorem dX8_forces_51 : decode cX8_forces 51 = .ok (.iload_n 2, 1) := by decide +kernel
theorem dX8_forces_52 : decode cX8_forces 52 = .ok (.if_icmp .ne 5, 3) := by decide +kernel
theorem dX8_forces_55 : decode cX8_forces 55 = .ok (.iconst 1, 1) := by decide +kernel
theorem dX8_forces_56 : decode cX8_forces 56 = .ok (.ireturn, 1) := by decide +kernel
theorem dX8_forces_57 : decode cX8_forces 57 = .ok (.iinc 4 1, 3) := by decide +kernel
theorem dX8_forces_60 : decode cX8_forces 60 = .ok (.goto (-47), 3) := by decide +kernel
theorem dX8_forces_63 : decode cX8_forces 63 = .ok (.iconst 0, 1) := by decide +kernel
theorem dX8_forces_64 : decode cX8_forces 64 = .ok (.ireturn, 1) := by decide +kernel
theorem dX8_canForce_0 : decode cX8_canForce 0 = .ok (.iload_n 1, 1) := by decide +kernel
theorem dX8_canForce_1 : decode cX8_canForce 1 = .ok (.iconst 0, 1) := by decide +kernel
theorem dX8_canForce_2 : decode cX8_canForce 2 = .ok (.sipush 255, 3) := by decide +kernel
theorem dX8_canForce_5 : decode cX8_canForce 5 = .ok (.invokestatic 31, 3) := by decide +kernel
theorem dX8_canForce_8 : decode cX8_canForce 8 = .ok (.ifCond .eq 12, 3) := by decide +kernel
theorem dX8_canForce_11 : decode cX8_canForce 11 = .ok (.iload_n 2, 1) := by decide +kernel
theorem dX8_canForce_12 : decode cX8_canForce 12 = .ok (.iconst 0, 1) := by decide +kernel
theorem dX8_canForce_13 : decode cX8_canForce 13 = .ok (.iconst 1, 1) := by decide +kernel
theorem dX8_canForce_14 : decode cX8_canForce 14 = .ok (.invokestatic 31, 3) := by decide +kernel
theorem dX8_canForce_17 : decode cX8_canForce 17 = .ok (.ifCond .ne 5, 3) := by decide +kernel
theorem dX8_canForce_20 : decode cX8_canForce 20 = .ok (.iconst (-1), 1) := by decide +kernel
theorem dX8_canForce_21 : decode cX8_canForce 21 = .ok (.ireturn, 1) := by decide +kernel
theorem dX8_canForce_22 : decode cX8_canForce 22 = .ok (.aload_n 0, 1) := by decide +kernel
theorem dX8_canForce_23 : decode cX8_canForce 23 = .ok (.iload_n 1, 1) := by decide +kernel
theorem dX8_canForce_24 : decode cX8_canForce 24 = .ok (.invokevirtual 174, 3) := by decide +kernel
theorem dX8_canForce_27 : decode cX8_canForce 27 = .ok (.ifCond .ne 6, 3) := by decide +kernel
theorem dX8_canForce_30 : decode cX8_canForce 30 = .ok (.bipush (-2), 2) := by decide +kernel
theorem dX8_canForce_32 : decode cX8_canForce 32 = .ok (.ireturn, 1) := by decide +kernel
theorem dX8_canForce_33 : decode cX8_canForce 33 = .ok (.aload_n 0, 1) := by decide +kernel
theorem dX8_canForce_34 : decode cX8_canForce 34 = .ok (.invokevirtual 141, 3) := by decide +kernel
theorem dX8_canForce_37 : decode cX8_canForce 37 = .ok (.aload_n 0, 1) := by decide +kernel
theorem dX8_canForce_38 : decode cX8_canForce 38 = .ok (.iload_n 1, 1) := by decide +kernel
theorem dX8_canForce_39 : decode cX8_canForce 39 = .ok (.iload_n 2, 1) := by decide +kernel
theorem dX8_canForce_40 : decode cX8_canForce 40 = .ok (.invokevirtual 177, 3) := by decide +kernel
theorem dX8_canForce_43 : decode cX8_canForce 43 = .ok (.ifCond .eq 7, 3) := by decide +kernel
theorem dX8_canForce_46 : decode cX8_canForce 46 = .ok (.iconst 1, 1) := by decide +kernel
theorem dX8_canForce_47 : decode cX8_canForce 47 = .ok (.goto 4, 3) := by decide +kernel
theorem dX8_canForce_50 : decode cX8_canForce 50 = .ok (.iconst 0, 1) := by decide +kernel
theorem dX8_canForce_51 : decode cX8_canForce 51 = .ok (.ireturn, 1) := by decide +kernel
theorem dX8_bias_0 : decode cX8_bias 0 = .ok (.iload_n 1, 1) := by decide +kernel
theorem dX8_bias_1 : decode cX8_bias 1 = .ok (.iconst 0, 1) := by decide +kernel
theorem dX8_bias_2 : decode cX8_bias 2 = .ok (.sipush 255, 3) := by decide +kernel
theorem dX8_bias_5 : decode cX8_bias 5 = .ok (.invokestatic 31, 3) := by decide +kernel
theorem dX8_bias_8 : decode cX8_bias 8 = .ok (.ifCond .eq 12, 3) := by decide +kernel
theorem dX8_bias_11 : decode cX8_bias 11 = .ok (.iload_n 2, 1) := by decide +kernel
theorem dX8_bias_12 : decode cX8_bias 12 = .ok (.iconst 1, 1) := by decide +kernel
theorem dX8_bias_13 : decode cX8_bias 13 = .ok (.iconst 4, 1) := by decide +kernel
theorem dX8_bias_14 : decode cX8_bias 14 = .ok (.invokestatic 31, 3) := by decide +kernel
theorem dX8_bias_17 : decode cX8_bias 17 = .ok (.ifCond .ne 5, 3) := by decide +kernel
theorem dX8_bias_20 : decode cX8_bias 20 = .ok (.iconst (-1), 1) := by decide +kernel
theorem dX8_bias_21 : decode cX8_bias 21 = .ok (.ireturn, 1) := by decide +kernel
theorem dX8_bias_22 : decode cX8_bias 22 = .ok (.aload_n 0, 1) := by decide +kernel
theorem dX8_bias_23 : decode cX8_bias 23 = .ok (.iload_n 1, 1) := by decide +kernel
theorem dX8_bias_24 : decode cX8_bias 24 = .ok (.invokevirtual 174, 3) := by decide +kernel
theorem dX8_bias_27 : decode cX8_bias 27 = .ok (.ifCond .ne 6, 3) := by decide +kernel
theorem dX8_bias_30 : decode cX8_bias 30 = .ok (.bipush (-2), 2) := by decide +kernel
theorem dX8_bias_32 : decode cX8_bias 32 = .ok (.ireturn, 1) := by decide +kernel
theorem dX8_bias_33 : decode cX8_bias 33 = .ok (.aload_n 0, 1) := by decide +kernel
theorem dX8_bias_34 : decode cX8_bias 34 = .ok (.iconst 5, 1) := by decide +kernel
theorem dX8_bias_35 : decode cX8_bias 35 = .ok (.invokevirtual 121, 3) := by decide +kernel
theorem dX8_bias_38 : decode cX8_bias 38 = .ok (.iload_n 1, 1) := by decide +kernel
theorem dX8_bias_39 : decode cX8_bias 39 = .ok (.iconst (-1), 1) := by decide +kernel
theorem dX8_bias_40 : decode cX8_bias 40 = .ok (.ixor, 1) := by decide +kernel
theorem dX8_bias_41 : decode cX8_bias 41 = .ok (.iand, 1) := by decide +kernel
theorem dX8_bias_42 : decode cX8_bias 42 = .ok (.istore_n 3, 1) := by decide +kernel
theorem dX8_bias_43 : decode cX8_bias 43 = .ok (.iload_n 2, 1) := by decide +kernel
theorem dX8_bias_44 : decode cX8_bias 44 = .ok (.iload_n 3, 1) := by decide +kernel
theorem dX8_bias_45 : decode cX8_bias 45 = .ok (.invokestatic 124, 3) := by decide +kernel
theorem dX8_bias_48 : decode cX8_bias 48 = .ok (.imul, 1) := by decide +kernel
theorem dX8_bias_49 : decode cX8_bias 49 = .ok (.istore 4, 2) := by decide +kernel
theorem dX8_bias_51 : decode cX8_bias 51 = .ok (.iload 4, 2) := by decide +kernel
theorem dX8_bias_53 : decode cX8_bias 53 = .ok (.bipush 12, 2) := by decide +kernel
theorem dX8_bias_55 : decode cX8_bias 55 = .ok (.if_icmp .le 6, 3) := by decide +kernel
theorem dX8_bias_58 : decode cX8_bias 58 = .ok (.bipush (-3), 2) := by decide +kernel
theorem dX8_bias_60 : decode cX8_bias 60 = .ok (.ireturn, 1) := by decide +kernel
theorem dX8_bias_61 : decode cX8_bias 61 = .ok (.iconst 0, 1) := by decide +kernel
theorem dX8_bias_62 : decode cX8_bias 62 = .ok (.istore 5, 2) := by decide +kernel
theorem dX8_bias_64 : decode cX8_bias 64 = .ok (.iconst 0, 1) := by decide +kernel
theorem dX8_bias_65 : decode cX8_bias 65 = .ok (.istore 6, 2) := by decide +kernel
theorem dX8_bias_67 : decode cX8_bias 67 = .ok (.iload 6, 2) := by decide +kernel
theorem dX8_bias_69 : decode cX8_bias 69 = .ok (.iconst 1, 1) := by decide +kernel
theorem dX8_bias_70 : decode cX8_bias 70 = .ok (.iload 4, 2) := by decide +kernel
theorem dX8_bias_72 : decode cX8_bias 72 = .ok (.ishl, 1) := by decide +kernel
theorem dX8_bias_73 : decode cX8_bias 73 = .ok (.if_icmp .ge 83, 3) := by decide +kernel
theorem dX8_bias_76 : decode cX8_bias 76 = .ok (.aload_n 0, 1) := by decide +kernel
theorem dX8_bias_77 : decode cX8_bias 77 = .ok (.invokevirtual 141, 3) := by decide +kernel
theorem dX8_bias_80 : decode cX8_bias 80 = .ok (.iload 6, 2) := by decide +kernel
theorem dX8_bias_82 : decode cX8_bias 82 = .ok (.istore 7, 2) := by decide +kernel
theorem dX8_bias_84 : decode cX8_bias 84 = .ok (.iconst 0, 1) := by decide +kernel
theorem dX8_bias_85 : decode cX8_bias 85 = .ok (.istore 8, 2) := by decide +kernel
theorem dX8_bias_87 : decode cX8_bias 87 = .ok (.iload 8, 2) := by decide +kernel
theorem dX8_bias_89 : decode cX8_bias 89 = .ok (.bipush 8, 2) := by decide +kernel
theorem dX8_bias_91 : decode cX8_bias 91 = .ok (.if_icmp .ge 40, 3) := by decide +kernel
theorem dX8_bias_94 : decode cX8_bias 94 = .ok (.iload_n 3, 1) := by decide +kernel
theorem dX8_bias_95 : decode cX8_bias 95 = .ok (.iload 8, 2) := by decide +kernel
theorem dX8_bias_97 : decode cX8_bias 97 = .ok (.ishr, 1) := by decide +kernel
theorem dX8_bias_98 : decode cX8_bias 98 = .ok (.iconst 1, 1) := by decide +kernel
theorem dX8_bias_99 : decode cX8_bias 99 = .ok (.iand, 1) := by decide +kernel
theorem dX8_bias_100 : decode cX8_bias 100 = .ok (.iconst 1, 1) := by decide +kernel
theorem dX8_bias_101 : decode cX8_bias 101 = .ok (.if_icmp .ne 24, 3) := by decide +kernel
theorem dX8_bias_104 : decode cX8_bias 104 = .ok (.aload_n 0, 1) := by decide +kernel
theorem dX8_bias_105 : decode cX8_bias 105 = .ok (.getfield 16, 3) := by decide +kernel
theorem dX8_bias_108 : decode cX8_bias 108 = .ok (.iload 8, 2) := by decide +kernel
theorem dX8_bias_110 : decode cX8_bias 110 = .ok (.iload 7, 2) := by decide +kernel
theorem dX8_bias_112 : decode cX8_bias 112 = .ok (.iconst 1, 1) := by decide +kernel
theorem dX8_bias_113 : decode cX8_bias 113 = .ok (.iload_n 2, 1) := by decide +kernel
theorem dX8_bias_114 : decode cX8_bias 114 = .ok (.ishl, 1) := by decide +kernel
theorem dX8_bias_115 : decode cX8_bias 115 = .ok (.iconst 1, 1) := by decide +kernel
theorem dX8_bias_116 : decode cX8_bias 116 = .ok (.isub, 1) := by decide +kernel
theorem dX8_bias_117 : decode cX8_bias 117 = .ok (.iand, 1) := by decide +kernel
theorem dX8_bias_118 : decode cX8_bias 118 = .ok (.iastore, 1) := by decide +kernel
theorem dX8_bias_119 : decode cX8_bias 119 = .ok (.iload 7, 2) := by decide +kernel
theorem dX8_bias_121 : decode cX8_bias 121 = .ok (.iload_n 2, 1) := by decide +kernel
theorem dX8_bias_122 : decode cX8_bias 122 = .ok (.ishr, 1) := by decide +kernel
theorem dX8_bias_123 : decode cX8_bias 123 = .ok (.istore 7, 2) := by decide +kernel
theorem dX8_bias_125 : decode cX8_bias 125 = .ok (.iinc 8 1, 3) := by decide +kernel
theorem dX8_bias_128 : decode cX8_bias 128 = .ok (.goto (-41), 3) := by decide +kernel
theorem dX8_bias_131 : decode cX8_bias 131 = .ok (.iload 5, 2) := by decide +kernel
theorem dX8_bias_133 : decode cX8_bias 133 = .ok (.aload_n 0, 1) := by decide +kernel
theorem dX8_bias_134 : decode cX8_bias 134 = .ok (.iload_n 1, 1) := by decide +kernel
theorem dX8_bias_135 : decode cX8_bias 135 = .ok (.iconst 1, 1) := by decide +kernel
theorem dX8_bias_136 : decode cX8_bias 136 = .ok (.invokevirtual 177, 3) := by decide +kernel
theorem dX8_bias_139 : decode cX8_bias 139 = .ok (.ifCond .eq 7, 3) := by decide +kernel
theorem dX8_bias_142 : decode cX8_bias 142 = .ok (.iconst 1, 1) := by decide +kernel
theorem dX8_bias_143 : decode cX8_bias 143 = .ok (.goto 4, 3) := by decide +kernel
theorem dX8_bias_146 : decode cX8_bias 146 = .ok (.iconst 0, 1) := by decide +kernel
theorem dX8_bias_147 : decode cX8_bias 147 = .ok (.iadd, 1) := by decide +kernel
theorem dX8_bias_148 : decode cX8_bias 148 = .ok (.istore 5, 2) := by decide +kernel
theorem dX8_bias_150 : decode cX8_bias 150 = .ok (.iinc 6 1, 3) := by decide +kernel
theorem dX8_bias_153 : decode cX8_bias 153 = .ok (.goto (-86), 3) := by decide +kernel
theorem dX8_bias_156 : decode cX8_bias 156 = .ok (.iload 5, 2) := by decide +kernel
theorem dX8_bias_158 : decode cX8_bias 158 = .ok (.ireturn, 1) := by decide +kernel
theorem dX8_squares_0 : decode cX8_squares 0 = .ok (.iload_n 0, 1) := by decide +kernel
theorem dX8_squares_1 : decode cX8_squares 1 = .ok (.i2l, 1) := by decide +kernel
theorem dX8_squares_2 : decode cX8_squares 2 = .ok (.ldc2_w 180, 3) := by decide +kernel
theorem dX8_squares_5 : decode cX8_squares 5 = .ok (.lrem, 1) := by decide +kernel
theorem dX8_squares_6 : decode cX8_squares 6 = .ok (.lstore_n 2, 1) := by decide +kernel
theorem dX8_squares_7 : decode cX8_squares 7 = .ok (.iconst 0, 1) := by decide +kernel
theorem dX8_squares_8 : decode cX8_squares 8 = .ok (.istore 4, 2) := by decide +kernel
theorem dX8_squares_10 : decode cX8_squares 10 = .ok (.iload 4, 2) := by decide +kernel
theorem dX8_squares_12 : decode cX8_squares 12 = .ok (.iload_n 1, 1) := by decide +kernel
theorem dX8_squares_13 : decode cX8_squares 13 = .ok (.if_icmp .ge 17, 3) := by decide +kernel
theorem dX8_squares_16 : decode cX8_squares 16 = .ok (.lload_n 2, 1) := by decide +kernel
theorem dX8_squares_17 : decode cX8_squares 17 = .ok (.lload_n 2, 1) := by decide +kernel
theorem dX8_squares_18 : decode cX8_squares 18 = .ok (.lmul, 1) := by decide +kernel
theorem dX8_squares_19 : decode cX8_squares 19 = .ok (.ldc2_w 180, 3) := by decide +kernel
theorem dX8_squares_22 : decode cX8_squares 22 = .ok (.lrem, 1) := by decide +kernel
theorem dX8_squares_23 : decode cX8_squares 23 = .ok (.lstore_n 2, 1) := by decide +kernel
theorem dX8_squares_24 : decode cX8_squares 24 = .ok (.iinc 4 1, 3) := by decide +kernel
theorem dX8_squares_27 : decode cX8_squares 27 = .ok (.goto (-17), 3) := by decide +kernel
theorem dX8_squares_30 : decode cX8_squares 30 = .ok (.lload_n 2, 1) := by decide +kernel
theorem dX8_squares_31 : decode cX8_squares 31 = .ok (.lreturn, 1) := by decide +kernel
theorem dX8_power_0 : decode cX8_power 0 = .ok (.lconst 1, 1) := by decide +kernel
theorem dX8_power_1 : decode cX8_power 1 = .ok (.lload 4, 2) := by decide +kernel
theorem dX8_power_3 : decode cX8_power 3 = .ok (.lrem, 1) := by decide +kernel
theorem dX8_power_4 : decode cX8_power 4 = .ok (.lstore 6, 2) := by decide +kernel
theorem dX8_power_6 : decode cX8_power 6 = .ok (.lload_n 0, 1) := by decide +kernel
theorem dX8_power_7 : decode cX8_power 7 = .ok (.lload 4, 2) := by decide +kernel
theorem dX8_power_9 : decode cX8_power 9 = .ok (.lrem, 1) := by decide +kernel
theorem dX8_power_10 : decode cX8_power 10 = .ok (.lstore 8, 2) := by decide +kernel
theorem dX8_power_12 : decode cX8_power 12 = .ok (.lload_n 2, 1) := by decide +kernel
theorem dX8_power_13 : decode cX8_power 13 = .ok (.lstore 10, 2) := by decide +kernel
theorem dX8_power_15 : decode cX8_power 15 = .ok (.lload 10, 2) := by decide +kernel
theorem dX8_power_17 : decode cX8_power 17 = .ok (.lconst 0, 1) := by decide +kernel
theorem dX8_power_18 : decode cX8_power 18 = .ok (.lcmp, 1) := by decide +kernel
theorem dX8_power_19 : decode cX8_power 19 = .ok (.ifCond .le 50, 3) := by decide +kernel
theorem dX8_power_22 : decode cX8_power 22 = .ok (.lload 10, 2) := by decide +kernel
theorem dX8_power_24 : decode cX8_power 24 = .ok (.ldc2_w 182, 3) := by decide +kernel
theorem dX8_power_27 : decode cX8_power 27 = .ok (.lrem, 1) := by decide +kernel
theorem dX8_power_28 : decode cX8_power 28 = .ok (.lconst 1, 1) := by decide +kernel
theorem dX8_power_29 : decode cX8_power 29 = .ok (.lcmp, 1) := by decide +kernel
theorem dX8_power_30 : decode cX8_power 30 = .ok (.ifCond .ne 14, 3) := by decide +kernel
theorem dX8_power_33 : decode cX8_power 33 = .ok (.lload 6, 2) := by decide +kernel
theorem dX8_power_35 : decode cX8_power 35 = .ok (.lload 8, 2) := by decide +kernel
theorem dX8_power_37 : decode cX8_power 37 = .ok (.lmul, 1) := by decide +kernel
theorem dX8_power_38 : decode cX8_power 38 = .ok (.lload 4, 2) := by decide +kernel
theorem dX8_power_40 : decode cX8_power 40 = .ok (.lrem, 1) := by decide +kernel
theorem dX8_power_41 : decode cX8_power 41 = .ok (.goto 5, 3) := by decide +kernel
theorem dX8_power_44 : decode cX8_power 44 = .ok (.lload 6, 2) := by decide +kernel
theorem dX8_power_46 : decode cX8_power 46 = .ok (.lstore 6, 2) := by decide +kernel
theorem dX8_power_48 : decode cX8_power 48 = .ok (.lload 8, 2) := by decide +kernel
theorem dX8_power_50 : decode cX8_power 50 = .ok (.lload 8, 2) := by decide +kernel
theorem dX8_power_52 : decode cX8_power 52 = .ok (.lmul, 1) := by decide +kernel
theorem dX8_power_53 : decode cX8_power 53 = .ok (.lload 4, 2) := by decide +kernel
theorem dX8_power_55 : decode cX8_power 55 = .ok (.lrem, 1) := by decide +kernel
theorem dX8_power_56 : decode cX8_power 56 = .ok (.lstore 8, 2) := by decide +kernel
theorem dX8_power_58 : decode cX8_power 58 = .ok (.lload 10, 2) := by decide +kernel
theorem dX8_power_60 : decode cX8_power 60 = .ok (.ldc2_w 182, 3) := by decide +kernel
theorem dX8_power_63 : decode cX8_power 63 = .ok (.ldiv, 1) := by decide +kernel
theorem dX8_power_64 : decode cX8_power 64 = .ok (.lstore 10, 2) := by decide +kernel
theorem dX8_power_66 : decode cX8_power 66 = .ok (.goto (-51), 3) := by decide +kernel
theorem dX8_power_69 : decode cX8_power 69 = .ok (.lload 6, 2) := by decide +kernel
theorem dX8_power_71 : decode cX8_power 71 = .ok (.lreturn, 1) := by decide +kernel
theorem dX8_isPrime_0 : decode cX8_isPrime 0 = .ok (.iload_n 0, 1) := by decide +kernel
theorem dX8_isPrime_1 : decode cX8_isPrime 1 = .ok (.iconst 1, 1) := by decide +kernel
theorem dX8_isPrime_2 : decode cX8_isPrime 2 = .ok (.if_icmp .le 7, 3) := by decide +kernel
theorem dX8_isPrime_5 : decode cX8_isPrime 5 = .ok (.iconst 1, 1) := by decide +kernel
theorem dX8_isPrime_6 : decode cX8_isPrime 6 = .ok (.goto 4, 3) := by decide +kernel
theorem dX8_isPrime_9 : decode cX8_isPrime 9 = .ok (.iconst 0, 1) := by decide +kernel
theorem dX8_isPrime_10 : decode cX8_isPrime 10 = .ok (.istore_n 1, 1) := by decide +kernel
theorem dX8_isPrime_11 : decode cX8_isPrime 11 = .ok (.iconst 2, 1) := by decide +kernel
theorem dX8_isPrime_12 : decode cX8_isPrime 12 = .ok (.istore_n 2, 1) := by decide +kernel
theorem dX8_isPrime_13 : decode cX8_isPrime 13 = .ok (.iload_n 2, 1) := by decide +kernel
theorem dX8_isPrime_14 : decode cX8_isPrime 14 = .ok (.iload_n 2, 1) := by decide +kernel
theorem dX8_isPrime_15 : decode cX8_isPrime 15 = .ok (.imul, 1) := by decide +kernel
theorem dX8_isPrime_16 : decode cX8_isPrime 16 = .ok (.iload_n 0, 1) := by decide +kernel
theorem dX8_isPrime_17 : decode cX8_isPrime 17 = .ok (.if_icmp .gt 25, 3) := by decide +kernel
theorem dX8_isPrime_20 : decode cX8_isPrime 20 = .ok (.iload_n 1, 1) := by decide +kernel
theorem dX8_isPrime_21 : decode cX8_isPrime 21 = .ok (.ifCond .eq 21, 3) := by decide +kernel
theorem dX8_isPrime_24 : decode cX8_isPrime 24 = .ok (.iload_n 0, 1) := by decide +kernel
theorem dX8_isPrime_25 : decode cX8_isPrime 25 = .ok (.iload_n 2, 1) := by decide +kernel
theorem dX8_isPrime_26 : decode cX8_isPrime 26 = .ok (.irem, 1) := by decide +kernel
theorem dX8_isPrime_27 : decode cX8_isPrime 27 = .ok (.ifCond .eq 7, 3) := by decide +kernel
theorem dX8_isPrime_30 : decode cX8_isPrime 30 = .ok (.iconst 1, 1) := by decide +kernel
theorem dX8_isPrime_31 : decode cX8_isPrime 31 = .ok (.goto 4, 3) := by decide +kernel
theorem dX8_isPrime_34 : decode cX8_isPrime 34 = .ok (.iconst 0, 1) := by decide +kernel
theorem dX8_isPrime_35 : decode cX8_isPrime 35 = .ok (.istore_n 1, 1) := by decide +kernel
theorem dX8_isPrime_36 : decode cX8_isPrime 36 = .ok (.iinc 2 1, 3) := by decide +kernel
theorem dX8_isPrime_39 : decode cX8_isPrime 39 = .ok (.goto (-26), 3) := by decide +kernel
theorem dX8_isPrime_42 : decode cX8_isPrime 42 = .ok (.iload_n 1, 1) := by decide +kernel
theorem dX8_isPrime_43 : decode cX8_isPrime 43 = .ok (.ireturn, 1) := by decide +kernel
theorem dX8_primeFor_0 : decode cX8_primeFor 0 = .ok (.sipush 257, 3) := by decide +kernel
theorem dX8_primeFor_3 : decode cX8_primeFor 3 = .ok (.bipush 19, 2) := by decide +kernel
theorem dX8_primeFor_5 : decode cX8_primeFor 5 = .ok (.iload_n 0, 1) := by decide +kernel
theorem dX8_primeFor_6 : decode cX8_primeFor 6 = .ok (.invokestatic 66, 3) := by decide +kernel
theorem dX8_primeFor_9 : decode cX8_primeFor 9 = .ok (.iload_n 1, 1) := by decide +kernel
theorem dX8_primeFor_10 : decode cX8_primeFor 10 = .ok (.invokestatic 66, 3) := by decide +kernel
theorem dX8_primeFor_13 : decode cX8_primeFor 13 = .ok (.bipush 22, 2) := by decide +kernel
theorem dX8_primeFor_15 : decode cX8_primeFor 15 = .ok (.iushr, 1) := by decide +kernel
theorem dX8_primeFor_16 : decode cX8_primeFor 16 = .ok (.iadd, 1) := by decide +kernel
theorem dX8_primeFor_17 : decode cX8_primeFor 17 = .ok (.istore_n 2, 1) := by decide +kernel
theorem dX8_primeFor_18 : decode cX8_primeFor 18 = .ok (.iload_n 2, 1) := by decide +kernel
theorem dX8_primeFor_19 : decode cX8_primeFor 19 = .ok (.invokestatic 184, 3) := by decide +kernel
theorem dX8_primeFor_22 : decode cX8_primeFor 22 = .ok (.ifCond .ne 9, 3) := by decide +kernel
theorem dX8_primeFor_25 : decode cX8_primeFor 25 = .ok (.iinc 2 1, 3) := by decide +kernel
theorem dX8_primeFor_28 : decode cX8_primeFor 28 = .ok (.goto (-10), 3) := by decide +kernel
theorem dX8_primeFor_31 : decode cX8_primeFor 31 = .ok (.iload_n 2, 1) := by decide +kernel
theorem dX8_primeFor_32 : decode cX8_primeFor 32 = .ok (.ireturn, 1) := by decide +kernel
theorem dX8_isSlow_0 : decode cX8_isSlow 0 = .ok (.iload_n 0, 1) := by decide +kernel
theorem dX8_isSlow_1 : decode cX8_isSlow 1 = .ok (.iconst 2, 1) := by decide +kernel
theorem dX8_isSlow_2 : decode cX8_isSlow 2 = .ok (.ldc 187, 2) := by decide +kernel
theorem dX8_isSlow_4 : decode cX8_isSlow 4 = .ok (.invokestatic 31, 3) := by decide +kernel
theorem dX8_isSlow_7 : decode cX8_isSlow 7 = .ok (.ifCond .eq 18, 3) := by decide +kernel
theorem dX8_isSlow_10 : decode cX8_isSlow 10 = .ok (.iload_n 1, 1) := by decide +kernel
theorem dX8_isSlow_11 : decode cX8_isSlow 11 = .ok (.iconst 0, 1) := by decide +kernel
theorem dX8_isSlow_12 : decode cX8_isSlow 12 = .ok (.sipush 5000, 3) := by decide +kernel
theorem dX8_isSlow_15 : decode cX8_isSlow 15 = .ok (.invokestatic 31, 3) := by decide +kernel
theorem dX8_isSlow_18 : decode cX8_isSlow 18 = .ok (.ifCond .eq 7, 3) := by decide +kernel
theorem dX8_isSlow_21 : decode cX8_isSlow 21 = .ok (.iconst 1, 1) := by decide +kernel
theorem dX8_isSlow_22 : decode cX8_isSlow 22 = .ok (.goto 4, 3) := by decide +kernel
theorem dX8_isSlow_25 : decode cX8_isSlow 25 = .ok (.iconst 0, 1) := by decide +kernel
theorem dX8_isSlow_26 : decode cX8_isSlow 26 = .ok (.ireturn, 1) := by decide +kernel
theorem dX8_slow_0 : decode cX8_slow 0 = .ok (.iload_n 1, 1) := by decide +kernel
theorem dX8_slow_1 : decode cX8_slow 1 = .ok (.iload_n 2, 1) := by decide +kernel
theorem dX8_slow_2 : decode cX8_slow 2 = .ok (.invokestatic 188, 3) := by decide +kernel
theorem dX8_slow_5 : decode cX8_slow 5 = .ok (.ifCond .eq 12, 3) := by decide +kernel
theorem dX8_slow_8 : decode cX8_slow 8 = .ok (.iload_n 1, 1) := by decide +kernel
theorem dX8_slow_9 : decode cX8_slow 9 = .ok (.iload_n 2, 1) := by decide +kernel
theorem dX8_slow_10 : decode cX8_slow 10 = .ok (.invokestatic 83, 3) := by decide +kernel
theorem dX8_slow_13 : decode cX8_slow 13 = .ok (.l2i, 1) := by decide +kernel
theorem dX8_slow_14 : decode cX8_slow 14 = .ok (.goto 4, 3) := by decide +kernel
theorem dX8_slow_17 : decode cX8_slow 17 = .ok (.iconst (-1), 1) := by decide +kernel
theorem dX8_slow_18 : decode cX8_slow 18 = .ok (.ireturn, 1) := by decide +kernel
theorem dX8_quick_0 : decode cX8_quick 0 = .ok (.iload_n 1, 1) := by decide +kernel
theorem dX8_quick_1 : decode cX8_quick 1 = .ok (.iconst 2, 1) := by decide +kernel
theorem dX8_quick_2 : decode cX8_quick 2 = .ok (.sipush 7906, 3) := by decide +kernel
theorem dX8_quick_5 : decode cX8_quick 5 = .ok (.invokestatic 31, 3) := by decide +kernel
theorem dX8_quick_8 : decode cX8_quick 8 = .ok (.ifCond .eq 13, 3) := by decide +kernel
theorem dX8_quick_11 : decode cX8_quick 11 = .ok (.iload_n 2, 1) := by decide +kernel
theorem dX8_quick_12 : decode cX8_quick 12 = .ok (.iconst 0, 1) := by decide +kernel
theorem dX8_quick_13 : decode cX8_quick 13 = .ok (.ldc 191, 2) := by decide +kernel
theorem dX8_quick_15 : decode cX8_quick 15 = .ok (.invokestatic 31, 3) := by decide +kernel
theorem dX8_quick_18 : decode cX8_quick 18 = .ok (.ifCond .ne 5, 3) := by decide +kernel
theorem dX8_quick_21 : decode cX8_quick 21 = .ok (.iconst (-1), 1) := by decide +kernel
theorem dX8_quick_22 : decode cX8_quick 22 = .ok (.ireturn, 1) := by decide +kernel
theorem dX8_quick_23 : decode cX8_quick 23 = .ok (.ldc2_w 192, 3) := by decide +kernel
theorem dX8_quick_26 : decode cX8_quick 26 = .ok (.lstore_n 3, 1) := by decide +kernel
theorem dX8_quick_27 : decode cX8_quick 27 = .ok (.iload_n 1, 1) := by decide +kernel
theorem dX8_quick_28 : decode cX8_quick 28 = .ok (.i2l, 1) := by decide +kernel
theorem dX8_quick_29 : decode cX8_quick 29 = .ok (.ldc2_w 182, 3) := by decide +kernel
theorem dX8_quick_32 : decode cX8_quick 32 = .ok (.iload_n 2, 1) := by decide +kernel
theorem dX8_quick_33 : decode cX8_quick 33 = .ok (.i2l, 1) := by decide +kernel
theorem dX8_quick_34 : decode cX8_quick 34 = .ok (.lload_n 3, 1) := by decide +kernel
theorem dX8_quick_35 : decode cX8_quick 35 = .ok (.invokestatic 194, 3) := by decide +kernel
theorem dX8_quick_38 : decode cX8_quick 38 = .ok (.ldc2_w 180, 3) := by decide +kernel
theorem dX8_quick_41 : decode cX8_quick 41 = .ok (.invokestatic 194, 3) := by decide +kernel
theorem dX8_quick_44 : decode cX8_quick 44 = .ok (.l2i, 1) := by decide +kernel
theorem dX8_quick_45 : decode cX8_quick 45 = .ok (.ireturn, 1) := by decide +kernel
theorem dX8_prime_0 : decode cX8_prime 0 = .ok (.iload_n 1, 1) := by decide +kernel
theorem dX8_prime_1 : decode cX8_prime 1 = .ok (.iload_n 2, 1) := by decide +kernel
theorem dX8_prime_2 : decode cX8_prime 2 = .ok (.invokestatic 188, 3) := by decide +kernel
theorem dX8_prime_5 : decode cX8_prime 5 = .ok (.ifCond .eq 16, 3) := by decide +kernel
theorem dX8_prime_8 : decode cX8_prime 8 = .ok (.iload_n 1, 1) := by decide +kernel
theorem dX8_prime_9 : decode cX8_prime 9 = .ok (.iload_n 1, 1) := by decide +kernel
theorem dX8_prime_10 : decode cX8_prime 10 = .ok (.iload_n 2, 1) := by decide +kernel
theorem dX8_prime_11 : decode cX8_prime 11 = .ok (.invokestatic 83, 3) := by decide +kernel
theorem dX8_prime_14 : decode cX8_prime 14 = .ok (.l2i, 1) := by decide +kernel
theorem dX8_prime_15 : decode cX8_prime 15 = .ok (.invokestatic 198, 3) := by decide +kernel
theorem dX8_prime_18 : decode cX8_prime 18 = .ok (.goto 4, 3) := by decide +kernel
theorem dX8_prime_21 : decode cX8_prime 21 = .ok (.iconst (-1), 1) := by decide +kernel
theorem dX8_prime_22 : decode cX8_prime 22 = .ok (.ireturn, 1) := by decide +kernel
theorem dX8_proof_0 : decode cX8_proof 0 = .ok (.iload_n 1, 1) := by decide +kernel
theorem dX8_proof_1 : decode cX8_proof 1 = .ok (.iload_n 2, 1) := by decide +kernel
theorem dX8_proof_2 : decode cX8_proof 2 = .ok (.invokestatic 188, 3) := by decide +kernel
theorem dX8_proof_5 : decode cX8_proof 5 = .ok (.ifCond .ne 5, 3) := by decide +kernel
theorem dX8_proof_8 : decode cX8_proof 8 = .ok (.iconst (-1), 1) := by decide +kernel
theorem dX8_proof_9 : decode cX8_proof 9 = .ok (.ireturn, 1) := by decide +kernel
theorem dX8_proof_10 : decode cX8_proof 10 = .ok (.iload_n 1, 1) := by decide +kernel
theorem dX8_proof_11 : decode cX8_proof 11 = .ok (.iload_n 1, 1) := by decide +kernel
theorem dX8_proof_12 : decode cX8_proof 12 = .ok (.iload_n 2, 1) := by decide +kernel
theorem dX8_proof_13 : decode cX8_proof 13 = .ok (.invokestatic 83, 3) := by decide +kernel
theorem dX8_proof_16 : decode cX8_proof 16 = .ok (.l2i, 1) := by decide +kernel
theorem dX8_proof_17 : decode cX8_proof 17 = .ok (.invokestatic 198, 3) := by decide +kernel
theorem dX8_proof_20 : decode cX8_proof 20 = .ok (.istore_n 3, 1) := by decide +kernel
theorem dX8_proof_21 : decode cX8_proof 21 = .ok (.lconst 1, 1) := by decide +kernel
theorem dX8_proof_22 : decode cX8_proof 22 = .ok (.lstore 4, 2) := by decide +kernel
theorem dX8_proof_24 : decode cX8_proof 24 = .ok (.lconst 1, 1) := by decide +kernel
theorem dX8_proof_25 : decode cX8_proof 25 = .ok (.lstore 6, 2) := by decide +kernel
theorem dX8_proof_27 : decode cX8_proof 27 = .ok (.iconst 0, 1) := by decide +kernel
theorem dX8_proof_28 : decode cX8_proof 28 = .ok (.istore 8, 2) := by decide +kernel
theorem dX8_proof_30 : decode cX8_proof 30 = .ok (.iload 8, 2) := by decide +kernel
theorem dX8_proof_32 : decode cX8_proof 32 = .ok (.iload_n 2, 1) := by decide +kernel
theorem dX8_proof_33 : decode cX8_proof 33 = .ok (.if_icmp .ge 54, 3) := by decide +kernel
theorem dX8_proof_36 : decode cX8_proof 36 = .ok (.lload 4, 2) := by decide +kernel
theorem dX8_proof_38 : decode cX8_proof 38 = .ok (.ldc2_w 182, 3) := by decide +kernel
theorem dX8_proof_41 : decode cX8_proof 41 = .ok (.lmul, 1) := by decide +kernel
theorem dX8_proof_42 : decode cX8_proof 42 = .ok (.lstore 4, 2) := by decide +kernel
theorem dX8_proof_44 : decode cX8_proof 44 = .ok (.lload 6, 2) := by decide +kernel
theorem dX8_proof_46 : decode cX8_proof 46 = .ok (.lload 6, 2) := by decide +kernel
theorem dX8_proof_48 : decode cX8_proof 48 = .ok (.lmul, 1) := by decide +kernel
theorem dX8_proof_49 : decode cX8_proof 49 = .ok (.ldc2_w 180, 3) := by decide +kernel
theorem dX8_proof_52 : decode cX8_proof 52 = .ok (.lrem, 1) := by decide +kernel
theorem dX8_proof_53 : decode cX8_proof 53 = .ok (.lstore 6, 2) := by decide +kernel
theorem dX8_proof_55 : decode cX8_proof 55 = .ok (.lload 4, 2) := by decide +kernel
theorem dX8_proof_57 : decode cX8_proof 57 = .ok (.iload_n 3, 1) := by decide +kernel
theorem dX8_proof_58 : decode cX8_proof 58 = .ok (.i2l, 1) := by decide +kernel
theorem dX8_proof_59 : decode cX8_proof 59 = .ok (.lcmp, 1) := by decide +kernel
theorem dX8_proof_60 : decode cX8_proof 60 = .ok (.ifCond .lt 21, 3) := by decide +kernel
theorem dX8_proof_63 : decode cX8_proof 63 = .ok (.lload 4, 2) := by decide +kernel
theorem dX8_proof_65 : decode cX8_proof 65 = .ok (.iload_n 3, 1) := by decide +kernel
theorem dX8_proof_66 : decode cX8_proof 66 = .ok (.i2l, 1) := by decide +kernel
theorem dX8_proof_67 : decode cX8_proof 67 = .ok (.lsub, 1) := by decide +kernel
theorem dX8_proof_68 : decode cX8_proof 68 = .ok (.lstore 4, 2) := by decide +kernel
theorem dX8_proof_70 : decode cX8_proof 70 = .ok (.lload 6, 2) := by decide +kernel
theorem dX8_proof_72 : decode cX8_proof 72 = .ok (.iload_n 1, 1) := by decide +kernel
theorem dX8_proof_73 : decode cX8_proof 73 = .ok (.i2l, 1) := by decide +kernel
theorem dX8_proof_74 : decode cX8_proof 74 = .ok (.lmul, 1) := by decide +kernel
theorem dX8_proof_75 : decode cX8_proof 75 = .ok (.ldc2_w 180, 3) := by decide +kernel
theorem dX8_proof_78 : decode cX8_proof 78 = .ok (.lrem, 1) := by decide +kernel
theorem dX8_proof_79 : decode cX8_proof 79 = .ok (.lstore 6, 2) := by decide +kernel
theorem dX8_proof_81 : decode cX8_proof 81 = .ok (.iinc 8 1, 3) := by decide +kernel
theorem dX8_proof_84 : decode cX8_proof 84 = .ok (.goto (-54), 3) := by decide +kernel
theorem dX8_proof_87 : decode cX8_proof 87 = .ok (.lload 6, 2) := by decide +kernel
theorem dX8_proof_89 : decode cX8_proof 89 = .ok (.l2i, 1) := by decide +kernel
theorem dX8_proof_90 : decode cX8_proof 90 = .ok (.ireturn, 1) := by decide +kernel
theorem dX8_accepts_0 : decode cX8_accepts 0 = .ok (.iload_n 1, 1) := by decide +kernel
theorem dX8_accepts_1 : decode cX8_accepts 1 = .ok (.iconst 2, 1) := by decide +kernel
theorem dX8_accepts_2 : decode cX8_accepts 2 = .ok (.ldc 187, 2) := by decide +kernel
theorem dX8_accepts_4 : decode cX8_accepts 4 = .ok (.invokestatic 31, 3) := by decide +kernel
theorem dX8_accepts_7 : decode cX8_accepts 7 = .ok (.ifCond .eq 34, 3) := by decide +kernel
theorem dX8_accepts_10 : decode cX8_accepts 10 = .ok (.iload_n 2, 1) := by decide +kernel
theorem dX8_accepts_11 : decode cX8_accepts 11 = .ok (.iconst 0, 1) := by decide +kernel
theorem dX8_accepts_12 : decode cX8_accepts 12 = .ok (.ldc 191, 2) := by decide +kernel
theorem dX8_accepts_14 : decode cX8_accepts 14 = .ok (.invokestatic 31, 3) := by decide +kernel
theorem dX8_accepts_17 : decode cX8_accepts 17 = .ok (.ifCond .eq 24, 3) := by decide +kernel
theorem dX8_accepts_20 : decode cX8_accepts 20 = .ok (.iload_n 3, 1) := by decide +kernel
theorem dX8_accepts_21 : decode cX8_accepts 21 = .ok (.iconst 0, 1) := by decide +kernel
theorem dX8_accepts_22 : decode cX8_accepts 22 = .ok (.ldc 201, 2) := by decide +kernel
theorem dX8_accepts_24 : decode cX8_accepts 24 = .ok (.invokestatic 31, 3) := by decide +kernel
theorem dX8_accepts_27 : decode cX8_accepts 27 = .ok (.ifCond .eq 14, 3) := by decide +kernel
theorem dX8_accepts_30 : decode cX8_accepts 30 = .ok (.iload 4, 2) := by decide +kernel
theorem dX8_accepts_32 : decode cX8_accepts 32 = .ok (.iconst 0, 1) := by decide +kernel
theorem dX8_accepts_33 : decode cX8_accepts 33 = .ok (.ldc 201, 2) := by decide +kernel
theorem dX8_accepts_35 : decode cX8_accepts 35 = .ok (.invokestatic 31, 3) := by decide +kernel
theorem dX8_accepts_38 : decode cX8_accepts 38 = .ok (.ifCond .ne 5, 3) := by decide +kernel
theorem dX8_accepts_41 : decode cX8_accepts 41 = .ok (.iconst (-1), 1) := by decide +kernel
theorem dX8_accepts_42 : decode cX8_accepts 42 = .ok (.ireturn, 1) := by decide +kernel
theorem dX8_accepts_43 : decode cX8_accepts 43 = .ok (.iload_n 1, 1) := by decide +kernel
theorem dX8_accepts_44 : decode cX8_accepts 44 = .ok (.iload_n 3, 1) := by decide +kernel
theorem dX8_accepts_45 : decode cX8_accepts 45 = .ok (.invokestatic 198, 3) := by decide +kernel
theorem dX8_accepts_48 : decode cX8_accepts 48 = .ok (.istore 5, 2) := by decide +kernel
theorem dX8_accepts_50 : decode cX8_accepts 50 = .ok (.iload 4, 2) := by decide +kernel
theorem dX8_accepts_52 : decode cX8_accepts 52 = .ok (.i2l, 1) := by decide +kernel
theorem dX8_accepts_53 : decode cX8_accepts 53 = .ok (.iload 5, 2) := by decide +kernel
theorem dX8_accepts_55 : decode cX8_accepts 55 = .ok (.i2l, 1) := by decide +kernel
theorem dX8_accepts_56 : decode cX8_accepts 56 = .ok (.ldc2_w 180, 3) := by decide +kernel
theorem dX8_accepts_59 : decode cX8_accepts 59 = .ok (.invokestatic 194, 3) := by decide +kernel
theorem dX8_accepts_62 : decode cX8_accepts 62 = .ok (.iload_n 1, 1) := by decide +kernel
theorem dX8_accepts_63 : decode cX8_accepts 63 = .ok (.i2l, 1) := by decide +kernel
theorem dX8_accepts_64 : decode cX8_accepts 64 = .ok (.ldc2_w 182, 3) := by decide +kernel
theorem dX8_accepts_67 : decode cX8_accepts 67 = .ok (.iload_n 2, 1) := by decide +kernel
theorem dX8_accepts_68 : decode cX8_accepts 68 = .ok (.i2l, 1) := by decide +kernel
theorem dX8_accepts_69 : decode cX8_accepts 69 = .ok (.iload 5, 2) := by decide +kernel
theorem dX8_accepts_71 : decode cX8_accepts 71 = .ok (.i2l, 1) := by decide +kernel
theorem dX8_accepts_72 : decode cX8_accepts 72 = .ok (.invokestatic 194, 3) := by decide +kernel
theorem dX8_accepts_75 : decode cX8_accepts 75 = .ok (.ldc2_w 180, 3) := by decide +kernel
theorem dX8_accepts_78 : decode cX8_accepts 78 = .ok (.invokestatic 194, 3) := by decide +kernel
theorem dX8_accepts_81 : decode cX8_accepts 81 = .ok (.lmul, 1) := by decide +kernel
theorem dX8_accepts_82 : decode cX8_accepts 82 = .ok (.ldc2_w 180, 3) := by decide +kernel
theorem dX8_accepts_85 : decode cX8_accepts 85 = .ok (.lrem, 1) := by decide +kernel
theorem dX8_accepts_86 : decode cX8_accepts 86 = .ok (.iload_n 3, 1) := by decide +kernel
theorem dX8_accepts_87 : decode cX8_accepts 87 = .ok (.i2l, 1) := by decide +kernel
theorem dX8_accepts_88 : decode cX8_accepts 88 = .ok (.lcmp, 1) := by decide +kernel
theorem dX8_accepts_89 : decode cX8_accepts 89 = .ok (.ifCond .ne 7, 3) := by decide +kernel
theorem dX8_accepts_92 : decode cX8_accepts 92 = .ok (.iconst 1, 1) := by decide +kernel
theorem dX8_accepts_93 : decode cX8_accepts 93 = .ok (.goto 4, 3) := by decide +kernel
theorem dX8_accepts_96 : decode cX8_accepts 96 = .ok (.iconst 0, 1) := by decide +kernel
theorem dX8_accepts_97 : decode cX8_accepts 97 = .ok (.ireturn, 1) := by decide +kernel
theorem dX8_account_0 : decode cX8_account 0 = .ok (.aload_n 0, 1) := by decide +kernel
theorem dX8_account_1 : decode cX8_account 1 = .ok (.iload_n 1, 1) := by decide +kernel
theorem dX8_account_2 : decode cX8_account 2 = .ok (.invokevirtual 39, 3) := by decide +kernel
theorem dX8_account_5 : decode cX8_account 5 = .ok (.ifCond .eq 26, 3) := by decide +kernel
theorem dX8_account_8 : decode cX8_account 8 = .ok (.iload_n 2, 1) := by decide +kernel
theorem dX8_account_9 : decode cX8_account 9 = .ok (.iconst 0, 1) := by decide +kernel
theorem dX8_account_10 : decode cX8_account 10 = .ok (.iconst 4, 1) := by decide +kernel
theorem dX8_account_11 : decode cX8_account 11 = .ok (.invokestatic 31, 3) := by decide +kernel
theorem dX8_account_14 : decode cX8_account 14 = .ok (.ifCond .eq 17, 3) := by decide +kernel
theorem dX8_account_17 : decode cX8_account 17 = .ok (.aload_n 0, 1) := by decide +kernel
theorem dX8_account_18 : decode cX8_account 18 = .ok (.getfield 7, 3) := by decide +kernel
theorem dX8_account_21 : decode cX8_account 21 = .ok (.iload_n 1, 1) := by decide +kernel
theorem dX8_account_22 : decode cX8_account 22 = .ok (.invokestatic 35, 3) := by decide +kernel
theorem dX8_account_25 : decode cX8_account 25 = .ok (.iload_n 2, 1) := by decide +kernel
theorem dX8_account_26 : decode cX8_account 26 = .ok (.iadd, 1) := by decide +kernel
theorem dX8_account_27 : decode cX8_account 27 = .ok (.iaload, 1) := by decide +kernel
theorem dX8_account_28 : decode cX8_account 28 = .ok (.goto 4, 3) := by decide +kernel
theorem dX8_account_31 : decode cX8_account 31 = .ok (.iconst (-1), 1) := by decide +kernel
theorem dX8_account_32 : decode cX8_account 32 = .ok (.ireturn, 1) := by decide +kernel
theorem dX8_pot_0 : decode cX8_pot 0 = .ok (.aload_n 0, 1) := by decide +kernel
theorem dX8_pot_1 : decode cX8_pot 1 = .ok (.getfield 7, 3) := by decide +kernel
theorem dX8_pot_4 : decode cX8_pot 4 = .ok (.iconst 2, 1) := by decide +kernel
theorem dX8_pot_5 : decode cX8_pot 5 = .ok (.iaload, 1) := by decide +kernel
theorem dX8_pot_6 : decode cX8_pot 6 = .ok (.ireturn, 1) := by decide +kernel
theorem dX8_rounds_0 : decode cX8_rounds 0 = .ok (.aload_n 0, 1) := by decide +kernel
theorem dX8_rounds_1 : decode cX8_rounds 1 = .ok (.getfield 7, 3) := by decide +kernel
theorem dX8_rounds_4 : decode cX8_rounds 4 = .ok (.iconst 1, 1) := by decide +kernel
theorem dX8_rounds_5 : decode cX8_rounds 5 = .ok (.iaload, 1) := by decide +kernel
theorem dX8_rounds_6 : decode cX8_rounds 6 = .ok (.ireturn, 1) := by decide +kernel
theorem dX8_isKept_0 : decode cX8_isKept 0 = .ok (.iload_n 1, 1) := by decide +kernel
theorem dX8_isKept_1 : decode cX8_isKept 1 = .ok (.ifCond .lt 30, 3) := by decide +kernel
theorem dX8_isKept_4 : decode cX8_isKept 4 = .ok (.iload_n 1, 1) := by decide +kernel
theorem dX8_isKept_5 : decode cX8_isKept 5 = .ok (.aload_n 0, 1) := by decide +kernel
theorem dX8_isKept_6 : decode cX8_isKept 6 = .ok (.getfield 7, 3) := by decide +kernel
theorem dX8_isKept_9 : decode cX8_isKept 9 = .ok (.iconst 1, 1) := by decide +kernel
theorem dX8_isKept_10 : decode cX8_isKept 10 = .ok (.iaload, 1) := by decide +kernel
theorem dX8_isKept_11 : decode cX8_isKept 11 = .ok (.if_icmp .ge 20, 3) := by decide +kernel
theorem dX8_isKept_14 : decode cX8_isKept 14 = .ok (.iload_n 1, 1) := by decide +kernel
theorem dX8_isKept_15 : decode cX8_isKept 15 = .ok (.aload_n 0, 1) := by decide +kernel
theorem dX8_isKept_16 : decode cX8_isKept 16 = .ok (.getfield 7, 3) := by decide +kernel
theorem dX8_isKept_19 : decode cX8_isKept 19 = .ok (.iconst 1, 1) := by decide +kernel
theorem dX8_isKept_20 : decode cX8_isKept 20 = .ok (.iaload, 1) := by decide +kernel
theorem dX8_isKept_21 : decode cX8_isKept 21 = .ok (.bipush 16, 2) := by decide +kernel
theorem dX8_isKept_23 : decode cX8_isKept 23 = .ok (.isub, 1) := by decide +kernel
theorem dX8_isKept_24 : decode cX8_isKept 24 = .ok (.if_icmp .lt 7, 3) := by decide +kernel
theorem dX8_isKept_27 : decode cX8_isKept 27 = .ok (.iconst 1, 1) := by decide +kernel
theorem dX8_isKept_28 : decode cX8_isKept 28 = .ok (.goto 4, 3) := by decide +kernel
theorem dX8_isKept_31 : decode cX8_isKept 31 = .ok (.iconst 0, 1) := by decide +kernel
theorem dX8_isKept_32 : decode cX8_isKept 32 = .ok (.ireturn, 1) := by decide +kernel
theorem dX8_ofRound_0 : decode cX8_ofRound 0 = .ok (.aload_n 0, 1) := by decide +kernel
theorem dX8_ofRound_1 : decode cX8_ofRound 1 = .ok (.getfield 7, 3) := by decide +kernel
theorem dX8_ofRound_4 : decode cX8_ofRound 4 = .ok (.sipush 340, 3) := by decide +kernel
theorem dX8_ofRound_7 : decode cX8_ofRound 7 = .ok (.iconst 5, 1) := by decide +kernel
theorem dX8_ofRound_8 : decode cX8_ofRound 8 = .ok (.iload_n 1, 1) := by decide +kernel
theorem dX8_ofRound_9 : decode cX8_ofRound 9 = .ok (.bipush 16, 2) := by decide +kernel
theorem dX8_ofRound_11 : decode cX8_ofRound 11 = .ok (.irem, 1) := by decide +kernel
theorem dX8_ofRound_12 : decode cX8_ofRound 12 = .ok (.imul, 1) := by decide +kernel
theorem dX8_ofRound_13 : decode cX8_ofRound 13 = .ok (.iadd, 1) := by decide +kernel
theorem dX8_ofRound_14 : decode cX8_ofRound 14 = .ok (.iload_n 2, 1) := by decide +kernel
theorem dX8_ofRound_15 : decode cX8_ofRound 15 = .ok (.iadd, 1) := by decide +kernel
theorem dX8_ofRound_16 : decode cX8_ofRound 16 = .ok (.iaload, 1) := by decide +kernel
theorem dX8_ofRound_17 : decode cX8_ofRound 17 = .ok (.ireturn, 1) := by decide +kernel
theorem dX8_past_0 : decode cX8_past 0 = .ok (.iload_n 1, 1) := by decide +kernel
theorem dX8_past_1 : decode cX8_past 1 = .ok (.ifCond .lt 12, 3) := by decide +kernel
theorem dX8_past_4 : decode cX8_past 4 = .ok (.iload_n 2, 1) := by decide +kernel
theorem dX8_past_5 : decode cX8_past 5 = .ok (.iconst 0, 1) := by decide +kernel
theorem dX8_past_6 : decode cX8_past 6 = .ok (.iconst 4, 1) := by decide +kernel
theorem dX8_past_7 : decode cX8_past 7 = .ok (.invokestatic 31, 3) := by decide +kernel
theorem dX8_past_10 : decode cX8_past 10 = .ok (.ifCond .ne 5, 3) := by decide +kernel
theorem dX8_past_13 : decode cX8_past 13 = .ok (.iconst (-1), 1) := by decide +kernel
theorem dX8_past_14 : decode cX8_past 14 = .ok (.ireturn, 1) := by decide +kernel
theorem dX8_past_15 : decode cX8_past 15 = .ok (.aload_n 0, 1) := by decide +kernel
theorem dX8_past_16 : decode cX8_past 16 = .ok (.iload_n 1, 1) := by decide +kernel
theorem dX8_past_17 : decode cX8_past 17 = .ok (.invokevirtual 202, 3) := by decide +kernel
theorem dX8_past_20 : decode cX8_past 20 = .ok (.ifCond .ne 6, 3) := by decide +kernel
theorem dX8_past_23 : decode cX8_past 23 = .ok (.bipush (-9), 2) := by decide +kernel
theorem dX8_past_25 : decode cX8_past 25 = .ok (.ireturn, 1) := by decide +kernel
theorem dX8_past_26 : decode cX8_past 26 = .ok (.aload_n 0, 1) := by decide +kernel
theorem dX8_past_27 : decode cX8_past 27 = .ok (.iload_n 1, 1) := by decide +kernel
theorem dX8_past_28 : decode cX8_past 28 = .ok (.iconst 0, 1) := by decide +kernel
theorem dX8_past_29 : decode cX8_past 29 = .ok (.invokevirtual 205, 3) := by decide +kernel
theorem dX8_past_32 : decode cX8_past 32 = .ok (.bipush (-5), 2) := by decide +kernel
theorem dX8_past_34 : decode cX8_past 34 = .ok (.if_icmp .ne 7, 3) := by decide +kernel
theorem dX8_past_37 : decode cX8_past 37 = .ok (.iconst 1, 1) := by decide +kernel
theorem dX8_past_38 : decode cX8_past 38 = .ok (.goto 4, 3) := by decide +kernel
theorem dX8_past_41 : decode cX8_past 41 = .ok (.iconst 0, 1) := by decide +kernel
theorem dX8_past_42 : decode cX8_past 42 = .ok (.istore_n 3, 1) := by decide +kernel
theorem dX8_past_43 : decode cX8_past 43 = .ok (.aload_n 0, 1) := by decide +kernel
theorem dX8_past_44 : decode cX8_past 44 = .ok (.iload_n 1, 1) := by decide +kernel
theorem dX8_past_45 : decode cX8_past 45 = .ok (.iconst 1, 1) := by decide +kernel
theorem dX8_past_46 : decode cX8_past 46 = .ok (.invokevirtual 205, 3) := by decide +kernel
theorem dX8_past_49 : decode cX8_past 49 = .ok (.invokestatic 124, 3) := by decide +kernel
theorem dX8_past_52 : decode cX8_past 52 = .ok (.aload_n 0, 1) := by decide +kernel
theorem dX8_past_53 : decode cX8_past 53 = .ok (.iload_n 1, 1) := by decide +kernel
theorem dX8_past_54 : decode cX8_past 54 = .ok (.iconst 2, 1) := by decide +kernel
theorem dX8_past_55 : decode cX8_past 55 = .ok (.invokevirtual 205, 3) := by decide +kernel
theorem dX8_past_58 : decode cX8_past 58 = .ok (.isub, 1) := by decide +kernel
theorem dX8_past_59 : decode cX8_past 59 = .ok (.istore 4, 2) := by decide +kernel
theorem dX8_past_61 : decode cX8_past 61 = .ok (.iload_n 2, 1) := by decide +kernel
theorem dX8_past_62 : decode cX8_past 62 = .ok (.iconst 4, 1) := by decide +kernel
theorem dX8_past_63 : decode cX8_past 63 = .ok (.if_icmp .ne 12, 3) := by decide +kernel
theorem dX8_past_66 : decode cX8_past 66 = .ok (.aload_n 0, 1) := by decide +kernel
theorem dX8_past_67 : decode cX8_past 67 = .ok (.iload_n 1, 1) := by decide +kernel
theorem dX8_past_68 : decode cX8_past 68 = .ok (.iconst 3, 1) := by decide +kernel
theorem dX8_past_69 : decode cX8_past 69 = .ok (.invokevirtual 205, 3) := by decide +kernel
theorem dX8_past_72 : decode cX8_past 72 = .ok (.goto 27, 3) := by decide +kernel
theorem dX8_past_75 : decode cX8_past 75 = .ok (.iload_n 2, 1) := by decide +kernel
theorem dX8_past_76 : decode cX8_past 76 = .ok (.iconst 3, 1) := by decide +kernel
theorem dX8_past_77 : decode cX8_past 77 = .ok (.if_icmp .ne 16, 3) := by decide +kernel
theorem dX8_past_80 : decode cX8_past 80 = .ok (.iload_n 3, 1) := by decide +kernel
theorem dX8_past_81 : decode cX8_past 81 = .ok (.ifCond .eq 7, 3) := by decide +kernel
theorem dX8_past_84 : decode cX8_past 84 = .ok (.iconst 0, 1) := by decide +kernel
theorem dX8_past_85 : decode cX8_past 85 = .ok (.goto 14, 3) := by decide +kernel
theorem dX8_past_88 : decode cX8_past 88 = .ok (.iload 4, 2) := by decide +kernel
theorem dX8_past_90 : decode cX8_past 90 = .ok (.goto 9, 3) := by decide +kernel
theorem dX8_past_93 : decode cX8_past 93 = .ok (.aload_n 0, 1) := by decide +kernel
theorem dX8_past_94 : decode cX8_past 94 = .ok (.iload_n 1, 1) := by decide +kernel
theorem dX8_past_95 : decode cX8_past 95 = .ok (.iload_n 2, 1) := by decide +kernel
theorem dX8_past_96 : decode cX8_past 96 = .ok (.invokevirtual 205, 3) := by decide +kernel
theorem dX8_past_99 : decode cX8_past 99 = .ok (.ireturn, 1) := by decide +kernel
theorem dX8_output_0 : decode cX8_output 0 = .ok (.aload_n 0, 1) := by decide +kernel
theorem dX8_output_1 : decode cX8_output 1 = .ok (.iload_n 1, 1) := by decide +kernel
theorem dX8_output_2 : decode cX8_output 2 = .ok (.invokevirtual 202, 3) := by decide +kernel
theorem dX8_output_5 : decode cX8_output 5 = .ok (.ifCond .eq 12, 3) := by decide +kernel
theorem dX8_output_8 : decode cX8_output 8 = .ok (.aload_n 0, 1) := by decide +kernel
theorem dX8_output_9 : decode cX8_output 9 = .ok (.iload_n 1, 1) := by decide +kernel
theorem dX8_output_10 : decode cX8_output 10 = .ok (.iconst 4, 1) := by decide +kernel
theorem dX8_output_11 : decode cX8_output 11 = .ok (.invokevirtual 205, 3) := by decide +kernel
theorem dX8_output_14 : decode cX8_output 14 = .ok (.goto 4, 3) := by decide +kernel
theorem dX8_output_17 : decode cX8_output 17 = .ok (.iconst 0, 1) := by decide +kernel
theorem dX8_output_18 : decode cX8_output 18 = .ok (.ireturn, 1) := by decide +kernel
theorem dX8_coins_0 : decode cX8_coins 0 = .ok (.iload_n 1, 1) := by decide +kernel
theorem dX8_coins_1 : decode cX8_coins 1 = .ok (.iconst 0, 1) := by decide +kernel
theorem dX8_coins_2 : decode cX8_coins 2 = .ok (.iconst 1, 1) := by decide +kernel
theorem dX8_coins_3 : decode cX8_coins 3 = .ok (.invokestatic 31, 3) := by decide +kernel
theorem dX8_coins_6 : decode cX8_coins 6 = .ok (.ifCond .ne 7, 3) := by decide +kernel
theorem dX8_coins_9 : decode cX8_coins 9 = .ok (.iconst (-1), 1) := by decide +kernel
theorem dX8_coins_10 : decode cX8_coins 10 = .ok (.goto 19, 3) := by decide +kernel
theorem dX8_coins_13 : decode cX8_coins 13 = .ok (.aload_n 0, 1) := by decide +kernel
theorem dX8_coins_14 : decode cX8_coins 14 = .ok (.getfield 7, 3) := by decide +kernel
theorem dX8_coins_17 : decode cX8_coins 17 = .ok (.iload_n 1, 1) := by decide +kernel
theorem dX8_coins_18 : decode cX8_coins 18 = .ok (.ifCond .ne 8, 3) := by decide +kernel
theorem dX8_coins_21 : decode cX8_coins 21 = .ok (.bipush 9, 2) := by decide +kernel
theorem dX8_coins_23 : decode cX8_coins 23 = .ok (.goto 5, 3) := by decide +kernel
theorem dX8_coins_26 : decode cX8_coins 26 = .ok (.bipush 10, 2) := by decide +kernel
theorem dX8_coins_28 : decode cX8_coins 28 = .ok (.iaload, 1) := by decide +kernel
theorem dX8_coins_29 : decode cX8_coins 29 = .ok (.ireturn, 1) := by decide +kernel
theorem dX8_longestRun_0 : decode cX8_longestRun 0 = .ok (.aload_n 0, 1) := by decide +kernel
theorem dX8_longestRun_1 : decode cX8_longestRun 1 = .ok (.getfield 7, 3) := by decide +kernel
theorem dX8_longestRun_4 : decode cX8_longestRun 4 = .ok (.bipush 13, 2) := by decide +kernel
theorem dX8_longestRun_6 : decode cX8_longestRun 6 = .ok (.iaload, 1) := by decide +kernel
theorem dX8_longestRun_7 : decode cX8_longestRun 7 = .ok (.ireturn, 1) := by decide +kernel
theorem dX8_undo_0 : decode cX8_undo 0 = .ok (.aload_n 0, 1) := by decide +kernel
theorem dX8_undo_1 : decode cX8_undo 1 = .ok (.getfield 22, 3) := by decide +kernel
theorem dX8_undo_4 : decode cX8_undo 4 = .ok (.ifCond .ne 6, 3) := by decide +kernel
theorem dX8_undo_7 : decode cX8_undo 7 = .ok (.bipush (-2), 2) := by decide +kernel
theorem dX8_undo_9 : decode cX8_undo 9 = .ok (.ireturn, 1) := by decide +kernel
theorem dX8_undo_10 : decode cX8_undo 10 = .ok (.aload_n 0, 1) := by decide +kernel
theorem dX8_undo_11 : decode cX8_undo 11 = .ok (.dup, 1) := by decide +kernel
theorem dX8_undo_12 : decode cX8_undo 12 = .ok (.getfield 22, 3) := by decide +kernel
theorem dX8_undo_15 : decode cX8_undo 15 = .ok (.iconst 1, 1) := by decide +kernel
theorem dX8_undo_16 : decode cX8_undo 16 = .ok (.isub, 1) := by decide +kernel
theorem dX8_undo_17 : decode cX8_undo 17 = .ok (.putfield 22, 3) := by decide +kernel
theorem dX8_undo_20 : decode cX8_undo 20 = .ok (.iconst 0, 1) := by decide +kernel
theorem dX8_undo_21 : decode cX8_undo 21 = .ok (.istore_n 1, 1) := by decide +kernel
theorem dX8_undo_22 : decode cX8_undo 22 = .ok (.iload_n 1, 1) := by decide +kernel
theorem dX8_undo_23 : decode cX8_undo 23 = .ok (.sipush 420, 3) := by decide +kernel
theorem dX8_undo_26 : decode cX8_undo 26 = .ok (.if_icmp .ge 30, 3) := by decide +kernel
theorem dX8_undo_29 : decode cX8_undo 29 = .ok (.aload_n 0, 1) := by decide +kernel
theorem dX8_undo_30 : decode cX8_undo 30 = .ok (.getfield 7, 3) := by decide +kernel
theorem dX8_undo_33 : decode cX8_undo 33 = .ok (.iload_n 1, 1) := by decide +kernel
theorem dX8_undo_34 : decode cX8_undo 34 = .ok (.aload_n 0, 1) := by decide +kernel
theorem dX8_undo_35 : decode cX8_undo 35 = .ok (.getfield 13, 3) := by decide +kernel
theorem dX8_undo_38 : decode cX8_undo 38 = .ok (.sipush 420, 3) := by decide +kernel
theorem dX8_undo_41 : decode cX8_undo 41 = .ok (.aload_n 0, 1) := by decide +kernel
theorem dX8_undo_42 : decode cX8_undo 42 = .ok (.getfield 22, 3) := by decide +kernel
theorem dX8_undo_45 : decode cX8_undo 45 = .ok (.imul, 1) := by decide +kernel
theorem dX8_undo_46 : decode cX8_undo 46 = .ok (.iload_n 1, 1) := by decide +kernel
theorem dX8_undo_47 : decode cX8_undo 47 = .ok (.iadd, 1) := by decide +kernel
theorem dX8_undo_48 : decode cX8_undo 48 = .ok (.iaload, 1) := by decide +kernel
theorem dX8_undo_49 : decode cX8_undo 49 = .ok (.iastore, 1) := by decide +kernel
theorem dX8_undo_50 : decode cX8_undo 50 = .ok (.iinc 1 1, 3) := by decide +kernel
theorem dX8_undo_53 : decode cX8_undo 53 = .ok (.goto (-31), 3) := by decide +kernel
theorem dX8_undo_56 : decode cX8_undo 56 = .ok (.aload_n 0, 1) := by decide +kernel
theorem dX8_undo_57 : decode cX8_undo 57 = .ok (.getfield 22, 3) := by decide +kernel
theorem dX8_undo_60 : decode cX8_undo 60 = .ok (.ireturn, 1) := by decide +kernel
theorem dX8_fingerprint_0 : decode cX8_fingerprint 0 = .ok (.ldc2_w 208, 3) := by decide +kernel
theorem dX8_fingerprint_3 : decode cX8_fingerprint 3 = .ok (.ldc2_w 208, 3) := by decide +kernel
theorem dX8_fingerprint_6 : decode cX8_fingerprint 6 = .ok (.ldc2_w 208, 3) := by decide +kernel
theorem dX8_fingerprint_9 : decode cX8_fingerprint 9 = .ok (.ldc2_w 210, 3) := by decide +kernel
theorem dX8_fingerprint_12 : decode cX8_fingerprint 12 = .ok (.aload_n 0, 1) := by decide +kernel
theorem dX8_fingerprint_13 : decode cX8_fingerprint 13 = .ok (.getfield 7, 3) := by decide +kernel
theorem dX8_fingerprint_16 : decode cX8_fingerprint 16 = .ok (.iconst 0, 1) := by decide +kernel
theorem dX8_fingerprint_17 : decode cX8_fingerprint 17 = .ok (.iaload, 1) := by decide +kernel
theorem dX8_fingerprint_18 : decode cX8_fingerprint 18 = .ok (.i2l, 1) := by decide +kernel
theorem dX8_fingerprint_19 : decode cX8_fingerprint 19 = .ok (.ladd, 1) := by decide +kernel
theorem dX8_fingerprint_20 : decode cX8_fingerprint 20 = .ok (.lmul, 1) := by decide +kernel
theorem dX8_fingerprint_21 : decode cX8_fingerprint 21 = .ok (.aload_n 0, 1) := by decide +kernel
theorem dX8_fingerprint_22 : decode cX8_fingerprint 22 = .ok (.getfield 7, 3) := by decide +kernel
theorem dX8_fingerprint_25 : decode cX8_fingerprint 25 = .ok (.iconst 1, 1) := by decide +kernel
theorem dX8_fingerprint_26 : decode cX8_fingerprint 26 = .ok (.iaload, 1) := by decide +kernel
theorem dX8_fingerprint_27 : decode cX8_fingerprint 27 = .ok (.i2l, 1) := by decide +kernel
theorem dX8_fingerprint_28 : decode cX8_fingerprint 28 = .ok (.ladd, 1) := by decide +kernel
theorem dX8_fingerprint_29 : decode cX8_fingerprint 29 = .ok (.lmul, 1) := by decide +kernel
theorem dX8_fingerprint_30 : decode cX8_fingerprint 30 = .ok (.aload_n 0, 1) := by decide +kernel
theorem dX8_fingerprint_31 : decode cX8_fingerprint 31 = .ok (.getfield 7, 3) := by decide +kernel
theorem dX8_fingerprint_34 : decode cX8_fingerprint 34 = .ok (.iconst 2, 1) := by decide +kernel
theorem dX8_fingerprint_35 : decode cX8_fingerprint 35 = .ok (.iaload, 1) := by decide +kernel
theorem dX8_fingerprint_36 : decode cX8_fingerprint 36 = .ok (.i2l, 1) := by decide +kernel
theorem dX8_fingerprint_37 : decode cX8_fingerprint 37 = .ok (.ladd, 1) := by decide +kernel
theorem dX8_fingerprint_38 : decode cX8_fingerprint 38 = .ok (.lmul, 1) := by decide +kernel
theorem dX8_fingerprint_39 : decode cX8_fingerprint 39 = .ok (.aload_n 0, 1) := by decide +kernel
theorem dX8_fingerprint_40 : decode cX8_fingerprint 40 = .ok (.getfield 7, 3) := by decide +kernel
theorem dX8_fingerprint_43 : decode cX8_fingerprint 43 = .ok (.iconst 3, 1) := by decide +kernel
theorem dX8_fingerprint_44 : decode cX8_fingerprint 44 = .ok (.iaload, 1) := by decide +kernel
theorem dX8_fingerprint_45 : decode cX8_fingerprint 45 = .ok (.i2l, 1) := by decide +kernel
theorem dX8_fingerprint_46 : decode cX8_fingerprint 46 = .ok (.ladd, 1) := by decide +kernel
theorem dX8_fingerprint_47 : decode cX8_fingerprint 47 = .ok (.lstore_n 1, 1) := by decide +kernel
theorem dX8_fingerprint_48 : decode cX8_fingerprint 48 = .ok (.iconst 0, 1) := by decide +kernel
theorem dX8_fingerprint_49 : decode cX8_fingerprint 49 = .ok (.istore_n 3, 1) := by decide +kernel
theorem dX8_fingerprint_50 : decode cX8_fingerprint 50 = .ok (.iload_n 3, 1) := by decide +kernel
theorem dX8_fingerprint_51 : decode cX8_fingerprint 51 = .ok (.aload_n 0, 1) := by decide +kernel
theorem dX8_fingerprint_52 : decode cX8_fingerprint 52 = .ok (.getfield 7, 3) := by decide +kernel
theorem dX8_fingerprint_55 : decode cX8_fingerprint 55 = .ok (.iconst 4, 1) := by decide +kernel
theorem dX8_fingerprint_56 : decode cX8_fingerprint 56 = .ok (.iaload, 1) := by decide +kernel
theorem dX8_fingerprint_57 : decode cX8_fingerprint 57 = .ok (.if_icmp .ge 44, 3) := by decide +kernel
theorem dX8_fingerprint_60 : decode cX8_fingerprint 60 = .ok (.iconst 0, 1) := by decide +kernel
theorem dX8_fingerprint_61 : decode cX8_fingerprint 61 = .ok (.istore 4, 2) := by decide +kernel
theorem dX8_fingerprint_63 : decode cX8_fingerprint 63 = .ok (.iload 4, 2) := by decide +kernel
theorem dX8_fingerprint_65 : decode cX8_fingerprint 65 = .ok (.iconst 5, 1) := by decide +kernel
theorem dX8_fingerprint_66 : decode cX8_fingerprint 66 = .ok (.if_icmp .ge 29, 3) := by decide +kernel
theorem dX8_fingerprint_69 : decode cX8_fingerprint 69 = .ok (.ldc2_w 208, 3) := by decide +kernel
theorem dX8_fingerprint_72 : decode cX8_fingerprint 72 = .ok (.lload_n 1, 1) := by decide +kernel
theorem dX8_fingerprint_73 : decode cX8_fingerprint 73 = .ok (.lmul, 1) := by decide +kernel
theorem dX8_fingerprint_74 : decode cX8_fingerprint 74 = .ok (.aload_n 0, 1) := by decide +kernel
theorem dX8_fingerprint_75 : decode cX8_fingerprint 75 = .ok (.getfield 7, 3) := by decide +kernel
theorem dX8_fingerprint_78 : decode cX8_fingerprint 78 = .ok (.iload_n 3, 1) := by decide +kernel
theorem dX8_fingerprint_79 : decode cX8_fingerprint 79 = .ok (.invokestatic 35, 3) := by decide +kernel
theorem dX8_fingerprint_82 : decode cX8_fingerprint 82 = .ok (.iload 4, 2) := by decide +kernel
theorem dX8_fingerprint_84 : decode cX8_fingerprint 84 = .ok (.iadd, 1) := by decide +kernel
theorem dX8_fingerprint_85 : decode cX8_fingerprint 85 = .ok (.iaload, 1) := by decide +kernel
theorem dX8_fingerprint_86 : decode cX8_fingerprint 86 = .ok (.i2l, 1) := by decide +kernel
theorem dX8_fingerprint_87 : decode cX8_fingerprint 87 = .ok (.ladd, 1) := by decide +kernel
theorem dX8_fingerprint_88 : decode cX8_fingerprint 88 = .ok (.lstore_n 1, 1) := by decide +kernel
theorem dX8_fingerprint_89 : decode cX8_fingerprint 89 = .ok (.iinc 4 1, 3) := by decide +kernel
theorem dX8_fingerprint_92 : decode cX8_fingerprint 92 = .ok (.goto (-29), 3) := by decide +kernel
theorem dX8_fingerprint_95 : decode cX8_fingerprint 95 = .ok (.iinc 3 1, 3) := by decide +kernel
theorem dX8_fingerprint_98 : decode cX8_fingerprint 98 = .ok (.goto (-48), 3) := by decide +kernel
theorem dX8_fingerprint_101 : decode cX8_fingerprint 101 = .ok (.iconst 0, 1) := by decide +kernel
theorem dX8_fingerprint_102 : decode cX8_fingerprint 102 = .ok (.istore_n 3, 1) := by decide +kernel
theorem dX8_fingerprint_103 : decode cX8_fingerprint 103 = .ok (.iload_n 3, 1) := by decide +kernel
theorem dX8_fingerprint_104 : decode cX8_fingerprint 104 = .ok (.iconst 4, 1) := by decide +kernel
theorem dX8_fingerprint_105 : decode cX8_fingerprint 105 = .ok (.if_icmp .ge 31, 3) := by decide +kernel
theorem dX8_fingerprint_108 : decode cX8_fingerprint 108 = .ok (.aload_n 0, 1) := by decide +kernel
theorem dX8_fingerprint_109 : decode cX8_fingerprint 109 = .ok (.getfield 7, 3) := by decide +kernel
theorem dX8_fingerprint_112 : decode cX8_fingerprint 112 = .ok (.iconst 0, 1) := by decide +kernel
theorem dX8_fingerprint_113 : decode cX8_fingerprint 113 = .ok (.iaload, 1) := by decide +kernel
theorem dX8_fingerprint_114 : decode cX8_fingerprint 114 = .ok (.ifCond .eq 22, 3) := by decide +kernel
theorem dX8_fingerprint_117 : decode cX8_fingerprint 117 = .ok (.ldc2_w 208, 3) := by decide +kernel
theorem dX8_fingerprint_120 : decode cX8_fingerprint 120 = .ok (.lload_n 1, 1) := by decide +kernel
theorem dX8_fingerprint_121 : decode cX8_fingerprint 121 = .ok (.lmul, 1) := by decide +kernel
theorem dX8_fingerprint_122 : decode cX8_fingerprint 122 = .ok (.aload_n 0, 1) := by decide +kernel
theorem dX8_fingerprint_123 : decode cX8_fingerprint 123 = .ok (.iload_n 3, 1) := by decide +kernel
theorem dX8_fingerprint_124 : decode cX8_fingerprint 124 = .ok (.invokevirtual 165, 3) := by decide +kernel
theorem dX8_fingerprint_127 : decode cX8_fingerprint 127 = .ok (.i2l, 1) := by decide +kernel
theorem dX8_fingerprint_128 : decode cX8_fingerprint 128 = .ok (.ladd, 1) := by decide +kernel
theorem dX8_fingerprint_129 : decode cX8_fingerprint 129 = .ok (.lstore_n 1, 1) := by decide +kernel
theorem dX8_fingerprint_130 : decode cX8_fingerprint 130 = .ok (.iinc 3 1, 3) := by decide +kernel
theorem dX8_fingerprint_133 : decode cX8_fingerprint 133 = .ok (.goto (-30), 3) := by decide +kernel
theorem dX8_fingerprint_136 : decode cX8_fingerprint 136 = .ok (.iconst 0, 1) := by decide +kernel
theorem dX8_fingerprint_137 : decode cX8_fingerprint 137 = .ok (.istore_n 3, 1) := by decide +kernel
theorem dX8_fingerprint_138 : decode cX8_fingerprint 138 = .ok (.iload_n 3, 1) := by decide +kernel
theorem dX8_fingerprint_139 : decode cX8_fingerprint 139 = .ok (.aload_n 0, 1) := by decide +kernel
theorem dX8_fingerprint_140 : decode cX8_fingerprint 140 = .ok (.getfield 7, 3) := by decide +kernel
theorem dX8_fingerprint_143 : decode cX8_fingerprint 143 = .ok (.iconst 4, 1) := by decide +kernel
theorem dX8_fingerprint_144 : decode cX8_fingerprint 144 = .ok (.iaload, 1) := by decide +kernel
theorem dX8_fingerprint_145 : decode cX8_fingerprint 145 = .ok (.if_icmp .ge 31, 3) := by decide +kernel
theorem dX8_fingerprint_148 : decode cX8_fingerprint 148 = .ok (.aload_n 0, 1) := by decide +kernel
theorem dX8_fingerprint_149 : decode cX8_fingerprint 149 = .ok (.getfield 7, 3) := by decide +kernel
theorem dX8_fingerprint_152 : decode cX8_fingerprint 152 = .ok (.iconst 0, 1) := by decide +kernel
theorem dX8_fingerprint_153 : decode cX8_fingerprint 153 = .ok (.iaload, 1) := by decide +kernel
theorem dX8_fingerprint_154 : decode cX8_fingerprint 154 = .ok (.ifCond .eq 22, 3) := by decide +kernel
theorem dX8_fingerprint_157 : decode cX8_fingerprint 157 = .ok (.ldc2_w 208, 3) := by decide +kernel
theorem dX8_fingerprint_160 : decode cX8_fingerprint 160 = .ok (.lload_n 1, 1) := by decide +kernel
theorem dX8_fingerprint_161 : decode cX8_fingerprint 161 = .ok (.lmul, 1) := by decide +kernel
theorem dX8_fingerprint_162 : decode cX8_fingerprint 162 = .ok (.aload_n 0, 1) := by decide +kernel
theorem dX8_fingerprint_163 : decode cX8_fingerprint 163 = .ok (.iload_n 3, 1) := by decide +kernel
theorem dX8_fingerprint_164 : decode cX8_fingerprint 164 = .ok (.invokevirtual 212, 3) := by decide +kernel
theorem dX8_fingerprint_167 : decode cX8_fingerprint 167 = .ok (.i2l, 1) := by decide +kernel
theorem dX8_fingerprint_168 : decode cX8_fingerprint 168 = .ok (.ladd, 1) := by decide +kernel
theorem dX8_fingerprint_169 : decode cX8_fingerprint 169 = .ok (.lstore_n 1, 1) := by decide +kernel
theorem dX8_fingerprint_170 : decode cX8_fingerprint 170 = .ok (.iinc 3 1, 3) := by decide +kernel
theorem dX8_fingerprint_173 : decode cX8_fingerprint 173 = .ok (.goto (-35), 3) := by decide +kernel
theorem dX8_fingerprint_176 : decode cX8_fingerprint 176 = .ok (.lload_n 1, 1) := by decide +kernel
theorem dX8_fingerprint_177 : decode cX8_fingerprint 177 = .ok (.lreturn, 1) := by decide +kernel
theorem dJ6_bitCount_0f7a4_0 : decode cJ6_bitCount_0f7a4 0 = .ok (.iload_n 0, 1) := by decide +kernel
theorem dJ6_bitCount_0f7a4_1 : decode cJ6_bitCount_0f7a4 1 = .ok (.iload_n 0, 1) := by decide +kernel
theorem dJ6_bitCount_0f7a4_2 : decode cJ6_bitCount_0f7a4 2 = .ok (.iconst 1, 1) := by decide +kernel
theorem dJ6_bitCount_0f7a4_3 : decode cJ6_bitCount_0f7a4 3 = .ok (.iushr, 1) := by decide +kernel
theorem dJ6_bitCount_0f7a4_4 : decode cJ6_bitCount_0f7a4 4 = .ok (.ldc_w 265, 3) := by decide +kernel
theorem dJ6_bitCount_0f7a4_7 : decode cJ6_bitCount_0f7a4 7 = .ok (.iand, 1) := by decide +kernel
theorem dJ6_bitCount_0f7a4_8 : decode cJ6_bitCount_0f7a4 8 = .ok (.isub, 1) := by decide +kernel
theorem dJ6_bitCount_0f7a4_9 : decode cJ6_bitCount_0f7a4 9 = .ok (.istore_n 0, 1) := by decide +kernel
theorem dJ6_bitCount_0f7a4_10 : decode cJ6_bitCount_0f7a4 10 = .ok (.iload_n 0, 1) := by decide +kernel
theorem dJ6_bitCount_0f7a4_11 : decode cJ6_bitCount_0f7a4 11 = .ok (.ldc_w 266, 3) := by decide +kernel
theorem dJ6_bitCount_0f7a4_14 : decode cJ6_bitCount_0f7a4 14 = .ok (.iand, 1) := by decide +kernel
theorem dJ6_bitCount_0f7a4_15 : decode cJ6_bitCount_0f7a4 15 = .ok (.iload_n 0, 1) := by decide +kernel
theorem dJ6_bitCount_0f7a4_16 : decode cJ6_bitCount_0f7a4 16 = .ok (.iconst 2, 1) := by decide +kernel
theorem dJ6_bitCount_0f7a4_17 : decode cJ6_bitCount_0f7a4 17 = .ok (.iushr, 1) := by decide +kernel
theorem dJ6_bitCount_0f7a4_18 : decode cJ6_bitCount_0f7a4 18 = .ok (.ldc_w 266, 3) := by decide +kernel
theorem dJ6_bitCount_0f7a4_21 : decode cJ6_bitCount_0f7a4 21 = .ok (.iand, 1) := by decide +kernel
theorem dJ6_bitCount_0f7a4_22 : decode cJ6_bitCount_0f7a4 22 = .ok (.iadd, 1) := by decide +kernel
theorem dJ6_bitCount_0f7a4_23 : decode cJ6_bitCount_0f7a4 23 = .ok (.istore_n 0, 1) := by decide +kernel
theorem dJ6_bitCount_0f7a4_24 : decode cJ6_bitCount_0f7a4 24 = .ok (.iload_n 0, 1) := by decide +kernel
theorem dJ6_bitCount_0f7a4_25 : decode cJ6_bitCount_0f7a4 25 = .ok (.iload_n 0, 1) := by decide +kernel
theorem dJ6_bitCount_0f7a4_26 : decode cJ6_bitCount_0f7a4 26 = .ok (.iconst 4, 1) := by decide +kernel
theorem dJ6_bitCount_0f7a4_27 : decode cJ6_bitCount_0f7a4 27 = .ok (.iushr, 1) := by decide +kernel
theorem dJ6_bitCount_0f7a4_28 : decode cJ6_bitCount_0f7a4 28 = .ok (.iadd, 1) := by decide +kernel
theorem dJ6_bitCount_0f7a4_29 : decode cJ6_bitCount_0f7a4 29 = .ok (.ldc_w 267, 3) := by decide +kernel
theorem dJ6_bitCount_0f7a4_32 : decode cJ6_bitCount_0f7a4 32 = .ok (.iand, 1) := by decide +kernel
theorem dJ6_bitCount_0f7a4_33 : decode cJ6_bitCount_0f7a4 33 = .ok (.istore_n 0, 1) := by decide +kernel
theorem dJ6_bitCount_0f7a4_34 : decode cJ6_bitCount_0f7a4 34 = .ok (.iload_n 0, 1) := by decide +kernel
theorem dJ6_bitCount_0f7a4_35 : decode cJ6_bitCount_0f7a4 35 = .ok (.iload_n 0, 1) := by decide +kernel
theorem dJ6_bitCount_0f7a4_36 : decode cJ6_bitCount_0f7a4 36 = .ok (.bipush 8, 2) := by decide +kernel
theorem dJ6_bitCount_0f7a4_38 : decode cJ6_bitCount_0f7a4 38 = .ok (.iushr, 1) := by decide +kernel
theorem dJ6_bitCount_0f7a4_39 : decode cJ6_bitCount_0f7a4 39 = .ok (.iadd, 1) := by decide +kernel
theorem dJ6_bitCount_0f7a4_40 : decode cJ6_bitCount_0f7a4 40 = .ok (.istore_n 0, 1) := by decide +kernel
theorem dJ6_bitCount_0f7a4_41 : decode cJ6_bitCount_0f7a4 41 = .ok (.iload_n 0, 1) := by decide +kernel
theorem dJ6_bitCount_0f7a4_42 : decode cJ6_bitCount_0f7a4 42 = .ok (.iload_n 0, 1) := by decide +kernel
theorem dJ6_bitCount_0f7a4_43 : decode cJ6_bitCount_0f7a4 43 = .ok (.bipush 16, 2) := by decide +kernel
theorem dJ6_bitCount_0f7a4_45 : decode cJ6_bitCount_0f7a4 45 = .ok (.iushr, 1) := by decide +kernel
theorem dJ6_bitCount_0f7a4_46 : decode cJ6_bitCount_0f7a4 46 = .ok (.iadd, 1) := by decide +kernel
theorem dJ6_bitCount_0f7a4_47 : decode cJ6_bitCount_0f7a4 47 = .ok (.istore_n 0, 1) := by decide +kernel
theorem dJ6_bitCount_0f7a4_48 : decode cJ6_bitCount_0f7a4 48 = .ok (.iload_n 0, 1) := by decide +kernel
theorem dJ6_bitCount_0f7a4_49 : decode cJ6_bitCount_0f7a4 49 = .ok (.bipush 63, 2) := by decide +kernel
theorem dJ6_bitCount_0f7a4_51 : decode cJ6_bitCount_0f7a4 51 = .ok (.iand, 1) := by decide +kernel
theorem dJ6_bitCount_0f7a4_52 : decode cJ6_bitCount_0f7a4 52 = .ok (.ireturn, 1) := by decide +kernel
theorem dJ9_max_7cf53_0 : decode cJ9_max_7cf53 0 = .ok (.iload_n 0, 1) := by decide +kernel
theorem dJ9_max_7cf53_1 : decode cJ9_max_7cf53 1 = .ok (.iload_n 1, 1) := by decide +kernel
theorem dJ9_max_7cf53_2 : decode cJ9_max_7cf53 2 = .ok (.if_icmp .lt 7, 3) := by decide +kernel
theorem dJ9_max_7cf53_5 : decode cJ9_max_7cf53 5 = .ok (.iload_n 0, 1) := by decide +kernel
theorem dJ9_max_7cf53_6 : decode cJ9_max_7cf53 6 = .ok (.goto 4, 3) := by decide +kernel
theorem dJ9_max_7cf53_9 : decode cJ9_max_7cf53 9 = .ok (.iload_n 1, 1) := by decide +kernel
theorem dJ9_max_7cf53_10 : decode cJ9_max_7cf53 10 = .ok (.ireturn, 1) := by decide +kernel
theorem dJ9_min_7cf53_0 : decode cJ9_min_7cf53 0 = .ok (.iload_n 0, 1) := by decide +kernel
theorem dJ9_min_7cf53_1 : decode cJ9_min_7cf53 1 = .ok (.iload_n 1, 1) := by decide +kernel
theorem dJ9_min_7cf53_2 : decode cJ9_min_7cf53 2 = .ok (.if_icmp .gt 7, 3) := by decide +kernel
theorem dJ9_min_7cf53_5 : decode cJ9_min_7cf53 5 = .ok (.iload_n 0, 1) := by decide +kernel
theorem dJ9_min_7cf53_6 : decode cJ9_min_7cf53 6 = .ok (.goto 4, 3) := by decide +kernel
theorem dJ9_min_7cf53_9 : decode cJ9_min_7cf53 9 = .ok (.iload_n 1, 1) := by decide +kernel
theorem dJ9_min_7cf53_10 : decode cJ9_min_7cf53 10 = .ok (.ireturn, 1) := by decide +kernel
