theorem dX0_init_0 : decode cX0_init 0 = .ok (.aload_n 0, 1) := by decide +kernel
theorem dX0_init_1 : decode cX0_init 1 = .ok (.invokespecial 3, 3) := by decide +kernel
theorem dX0_init_4 : decode cX0_init 4 = .ok (.aload_n 0, 1) := by decide +kernel
theorem dX0_init_5 : decode cX0_init 5 = .ok (.bipush 24, 2) := by decide +kernel
theorem dX0_init_7 : decode cX0_init 7 = .ok (.anewarray 11, 3) := by decide +kernel
theorem dX0_init_10 : decode cX0_init 10 = .ok (.putfield 13, 3) := by decide +kernel
theorem dX0_init_13 : decode cX0_init 13 = .ok (.aload_n 0, 1) := by decide +kernel
theorem dX0_init_14 : decode cX0_init 14 = .ok (.new 17, 3) := by decide +kernel
theorem dX0_init_17 : decode cX0_init 17 = .ok (.dup, 1) := by decide +kernel
theorem dX0_init_18 : decode cX0_init 18 = .ok (.invokespecial 19, 3) := by decide +kernel
theorem dX0_init_21 : decode cX0_init 21 = .ok (.putfield 20, 3) := by decide +kernel
theorem dX0_init_24 : decode cX0_init 24 = .ok (.aload_n 0, 1) := by decide +kernel
theorem dX0_init_25 : decode cX0_init 25 = .ok (.bipush 6, 2) := by decide +kernel
theorem dX0_init_27 : decode cX0_init 27 = .ok (.bipush 6, 2) := by decide +kernel
theorem dX0_init_29 : decode cX0_init 29 = .ok (.multianewarray 24 2, 4) := by decide +kernel
theorem dX0_init_33 : decode cX0_init 33 = .ok (.putfield 26, 3) := by decide +kernel
theorem dX0_init_36 : decode cX0_init 36 = .ok (.aload_n 0, 1) := by decide +kernel
theorem dX0_init_37 : decode cX0_init 37 = .ok (.iconst 5, 1) := by decide +kernel
theorem dX0_init_38 : decode cX0_init 38 = .ok (.bipush 6, 2) := by decide +kernel
theorem dX0_init_40 : decode cX0_init 40 = .ok (.multianewarray 24 2, 4) := by decide +kernel
theorem dX0_init_44 : decode cX0_init 44 = .ok (.putfield 29, 3) := by decide +kernel
theorem dX0_init_47 : decode cX0_init 47 = .ok (.aload_n 0, 1) := by decide +kernel
theorem dX0_init_48 : decode cX0_init 48 = .ok (.bipush 6, 2) := by decide +kernel
theorem dX0_init_50 : decode cX0_init 50 = .ok (.newarray .int, 2) := by decide +kernel
theorem dX0_init_52 : decode cX0_init 52 = .ok (.putfield 32, 3) := by decide +kernel
theorem dX0_init_55 : decode cX0_init 55 = .ok (.aload_n 0, 1) := by decide +kernel
theorem dX0_init_56 : decode cX0_init 56 = .ok (.bipush 6, 2) := by decide +kernel
theorem dX0_init_58 : decode cX0_init 58 = .ok (.newarray .int, 2) := by decide +kernel
theorem dX0_init_60 : decode cX0_init 60 = .ok (.putfield 36, 3) := by decide +kernel
theorem dX0_init_63 : decode cX0_init 63 = .ok (.aload_n 0, 1) := by decide +kernel
theorem dX0_init_64 : decode cX0_init 64 = .ok (.bipush 6, 2) := by decide +kernel
theorem dX0_init_66 : decode cX0_init 66 = .ok (.newarray .int, 2) := by decide +kernel
theorem dX0_init_68 : decode cX0_init 68 = .ok (.putfield 39, 3) := by decide +kernel
theorem dX0_init_71 : decode cX0_init 71 = .ok (.return_, 1) := by decide +kernel
theorem dX0_find_0 : decode cX0_find 0 = .ok (.iload_n 1, 1) := by decide +kernel
theorem dX0_find_1 : decode cX0_find 1 = .ok (.iconst 0, 1) := by decide +kernel
theorem dX0_find_2 : decode cX0_find 2 = .ok (.aload_n 0, 1) := by decide +kernel
theorem dX0_find_3 : decode cX0_find 3 = .ok (.getfield 42, 3) := by decide +kernel
theorem dX0_find_6 : decode cX0_find 6 = .ok (.iconst 1, 1) := by decide +kernel
theorem dX0_find_7 : decode cX0_find 7 = .ok (.isub, 1) := by decide +kernel
theorem dX0_find_8 : decode cX0_find 8 = .ok (.invokestatic 46, 3) := by decide +kernel
theorem dX0_find_11 : decode cX0_find 11 = .ok (.ifCond .eq 12, 3) := by decide +kernel
theorem dX0_find_14 : decode cX0_find 14 = .ok (.aload_n 0, 1) := by decide +kernel
theorem dX0_find_15 : decode cX0_find 15 = .ok (.getfield 13, 3) := by decide +kernel
theorem dX0_find_18 : decode cX0_find 18 = .ok (.iload_n 1, 1) := by decide +kernel
theorem dX0_find_19 : decode cX0_find 19 = .ok (.aaload, 1) := by decide +kernel
theorem dX0_find_20 : decode cX0_find 20 = .ok (.goto 4, 3) := by decide +kernel
theorem dX0_find_23 : decode cX0_find 23 = .ok (.aconst_null, 1) := by decide +kernel
theorem dX0_find_24 : decode cX0_find 24 = .ok (.areturn, 1) := by decide +kernel
theorem dX0_add_0 : decode cX0_add 0 = .ok (.aload_n 0, 1) := by decide +kernel
theorem dX0_add_1 : decode cX0_add 1 = .ok (.getfield 42, 3) := by decide +kernel
theorem dX0_add_4 : decode cX0_add 4 = .ok (.bipush 24, 2) := by decide +kernel
theorem dX0_add_6 : decode cX0_add 6 = .ok (.if_icmp .lt 7, 3) := by decide +kernel
theorem dX0_add_9 : decode cX0_add 9 = .ok (.sipush (-1004), 3) := by decide +kernel
theorem dX0_add_12 : decode cX0_add 12 = .ok (.ireturn, 1) := by decide +kernel
theorem dX0_add_13 : decode cX0_add 13 = .ok (.aload_n 0, 1) := by decide +kernel
theorem dX0_add_14 : decode cX0_add 14 = .ok (.getfield 13, 3) := by decide +kernel
theorem dX0_add_17 : decode cX0_add 17 = .ok (.aload_n 0, 1) := by decide +kernel
theorem dX0_add_18 : decode cX0_add 18 = .ok (.getfield 42, 3) := by decide +kernel
theorem dX0_add_21 : decode cX0_add 21 = .ok (.aload_n 1, 1) := by decide +kernel
theorem dX0_add_22 : decode cX0_add 22 = .ok (.aastore, 1) := by decide +kernel
theorem dX0_add_23 : decode cX0_add 23 = .ok (.aload_n 0, 1) := by decide +kernel
theorem dX0_add_24 : decode cX0_add 24 = .ok (.dup, 1) := by decide +kernel
theorem dX0_add_25 : decode cX0_add 25 = .ok (.getfield 42, 3) := by decide +kernel
theorem dX0_add_28 : decode cX0_add 28 = .ok (.iconst 1, 1) := by decide +kernel
theorem dX0_add_29 : decode cX0_add 29 = .ok (.iadd, 1) := by decide +kernel
theorem dX0_add_30 : decode cX0_add 30 = .ok (.putfield 42, 3) := by decide +kernel
theorem dX0_add_33 : decode cX0_add 33 = .ok (.aload_n 0, 1) := by decide +kernel
theorem dX0_add_34 : decode cX0_add 34 = .ok (.getfield 42, 3) := by decide +kernel
theorem dX0_add_37 : decode cX0_add 37 = .ok (.iconst 1, 1) := by decide +kernel
theorem dX0_add_38 : decode cX0_add 38 = .ok (.isub, 1) := by decide +kernel
theorem dX0_add_39 : decode cX0_add 39 = .ok (.ireturn, 1) := by decide +kernel
theorem dX0_countOpen_0 : decode cX0_countOpen 0 = .ok (.iconst 0, 1) := by decide +kernel
theorem dX0_countOpen_1 : decode cX0_countOpen 1 = .ok (.istore_n 1, 1) := by decide +kernel
theorem dX0_countOpen_2 : decode cX0_countOpen 2 = .ok (.iconst 0, 1) := by decide +kernel
theorem dX0_countOpen_3 : decode cX0_countOpen 3 = .ok (.istore_n 2, 1) := by decide +kernel
theorem dX0_countOpen_4 : decode cX0_countOpen 4 = .ok (.iload_n 2, 1) := by decide +kernel
theorem dX0_countOpen_5 : decode cX0_countOpen 5 = .ok (.aload_n 0, 1) := by decide +kernel
theorem dX0_countOpen_6 : decode cX0_countOpen 6 = .ok (.getfield 42, 3) := by decide +kernel
theorem dX0_countOpen_9 : decode cX0_countOpen 9 = .ok (.if_icmp .ge 32, 3) := by decide +kernel
theorem dX0_countOpen_12 : decode cX0_countOpen 12 = .ok (.iload_n 1, 1) := by decide +kernel
theorem dX0_countOpen_13 : decode cX0_countOpen 13 = .ok (.aload_n 0, 1) := by decide +kernel
theorem dX0_countOpen_14 : decode cX0_countOpen 14 = .ok (.getfield 13, 3) := by decide +kernel
theorem dX0_countOpen_17 : decode cX0_countOpen 17 = .ok (.iload_n 2, 1) := by decide +kernel
theorem dX0_countOpen_18 : decode cX0_countOpen 18 = .ok (.aaload, 1) := by decide +kernel
theorem dX0_countOpen_19 : decode cX0_countOpen 19 = .ok (.getfield 50, 3) := by decide +kernel
theorem dX0_countOpen_22 : decode cX0_countOpen 22 = .ok (.ifCond .ne 7, 3) := by decide +kernel
theorem dX0_countOpen_25 : decode cX0_countOpen 25 = .ok (.iconst 1, 1) := by decide +kernel
theorem dX0_countOpen_26 : decode cX0_countOpen 26 = .ok (.goto 4, 3) := by decide +kernel
theorem dX0_countOpen_29 : decode cX0_countOpen 29 = .ok (.iconst 0, 1) := by decide +kernel
theorem dX0_countOpen_30 : decode cX0_countOpen 30 = .ok (.invokestatic 53, 3) := by decide +kernel
theorem dX0_countOpen_33 : decode cX0_countOpen 33 = .ok (.iadd, 1) := by decide +kernel
theorem dX0_countOpen_34 : decode cX0_countOpen 34 = .ok (.istore_n 1, 1) := by decide +kernel
theorem dX0_countOpen_35 : decode cX0_countOpen 35 = .ok (.iinc 2 1, 3) := by decide +kernel
theorem dX0_countOpen_38 : decode cX0_countOpen 38 = .ok (.goto (-34), 3) := by decide +kernel
theorem dX0_countOpen_41 : decode cX0_countOpen 41 = .ok (.iload_n 1, 1) := by decide +kernel
theorem dX0_countOpen_42 : decode cX0_countOpen 42 = .ok (.ireturn, 1) := by decide +kernel
theorem dX0_sumUp_0 : decode cX0_sumUp 0 = .ok (.iconst 0, 1) := by decide +kernel
theorem dX0_sumUp_1 : decode cX0_sumUp 1 = .ok (.istore_n 1, 1) := by decide +kernel
theorem dX0_sumUp_2 : decode cX0_sumUp 2 = .ok (.iload_n 1, 1) := by decide +kernel
theorem dX0_sumUp_3 : decode cX0_sumUp 3 = .ok (.bipush 6, 2) := by decide +kernel
theorem dX0_sumUp_5 : decode cX0_sumUp 5 = .ok (.if_icmp .ge 32, 3) := by decide +kernel
theorem dX0_sumUp_8 : decode cX0_sumUp 8 = .ok (.iconst 0, 1) := by decide +kernel
theorem dX0_sumUp_9 : decode cX0_sumUp 9 = .ok (.istore_n 2, 1) := by decide +kernel
theorem dX0_sumUp_10 : decode cX0_sumUp 10 = .ok (.iload_n 2, 1) := by decide +kernel
theorem dX0_sumUp_11 : decode cX0_sumUp 11 = .ok (.bipush 6, 2) := by decide +kernel
theorem dX0_sumUp_13 : decode cX0_sumUp 13 = .ok (.if_icmp .ge 18, 3) := by decide +kernel
theorem dX0_sumUp_16 : decode cX0_sumUp 16 = .ok (.aload_n 0, 1) := by decide +kernel
theorem dX0_sumUp_17 : decode cX0_sumUp 17 = .ok (.getfield 26, 3) := by decide +kernel
theorem dX0_sumUp_20 : decode cX0_sumUp 20 = .ok (.iload_n 1, 1) := by decide +kernel
theorem dX0_sumUp_21 : decode cX0_sumUp 21 = .ok (.aaload, 1) := by decide +kernel
theorem dX0_sumUp_22 : decode cX0_sumUp 22 = .ok (.iload_n 2, 1) := by decide +kernel
theorem dX0_sumUp_23 : decode cX0_sumUp 23 = .ok (.iconst 0, 1) := by decide +kernel
theorem dX0_sumUp_24 : decode cX0_sumUp 24 = .ok (.iastore, 1) := by decide +kernel
theorem dX0_sumUp_25 : decode cX0_sumUp 25 = .ok (.iinc 2 1, 3) := by decide +kernel
theorem dX0_sumUp_28 : decode cX0_sumUp 28 = .ok (.goto (-18), 3) := by decide +kernel
theorem dX0_sumUp_31 : decode cX0_sumUp 31 = .ok (.iinc 1 1, 3) := by decide +kernel
theorem dX0_sumUp_34 : decode cX0_sumUp 34 = .ok (.goto (-32), 3) := by decide +kernel
theorem dX0_sumUp_37 : decode cX0_sumUp 37 = .ok (.iconst 0, 1) := by decide +kernel
theorem dX0_sumUp_38 : decode cX0_sumUp 38 = .ok (.istore_n 1, 1) := by decide +kernel
theorem dX0_sumUp_39 : decode cX0_sumUp 39 = .ok (.iload_n 1, 1) := by decide +kernel
theorem dX0_sumUp_40 : decode cX0_sumUp 40 = .ok (.aload_n 0, 1) := by decide +kernel
theorem dX0_sumUp_41 : decode cX0_sumUp 41 = .ok (.getfield 42, 3) := by decide +kernel
theorem dX0_sumUp_44 : decode cX0_sumUp 44 = .ok (.if_icmp .ge 50, 3) := by decide +kernel
theorem dX0_sumUp_47 : decode cX0_sumUp 47 = .ok (.aload_n 0, 1) := by decide +kernel
theorem dX0_sumUp_48 : decode cX0_sumUp 48 = .ok (.getfield 13, 3) := by decide +kernel
theorem dX0_sumUp_51 : decode cX0_sumUp 51 = .ok (.iload_n 1, 1) := by decide +kernel
theorem dX0_sumUp_52 : decode cX0_sumUp 52 = .ok (.aaload, 1) := by decide +kernel
theorem dX0_sumUp_53 : decode cX0_sumUp 53 = .ok (.astore_n 2, 1) := by decide +kernel
theorem dX0_sumUp_54 : decode cX0_sumUp 54 = .ok (.aload_n 0, 1) := by decide +kernel
theorem dX0_sumUp_55 : decode cX0_sumUp 55 = .ok (.aload_n 2, 1) := by decide +kernel
theorem dX0_sumUp_56 : decode cX0_sumUp 56 = .ok (.getfield 57, 3) := by decide +kernel
theorem dX0_sumUp_59 : decode cX0_sumUp 59 = .ok (.aload_n 2, 1) := by decide +kernel
theorem dX0_sumUp_60 : decode cX0_sumUp 60 = .ok (.aload_n 2, 1) := by decide +kernel
theorem dX0_sumUp_61 : decode cX0_sumUp 61 = .ok (.getfield 60, 3) := by decide +kernel
theorem dX0_sumUp_64 : decode cX0_sumUp 64 = .ok (.aload_n 2, 1) := by decide +kernel
theorem dX0_sumUp_65 : decode cX0_sumUp 65 = .ok (.getfield 63, 3) := by decide +kernel
theorem dX0_sumUp_68 : decode cX0_sumUp 68 = .ok (.invokevirtual 66, 3) := by decide +kernel
theorem dX0_sumUp_71 : decode cX0_sumUp 71 = .ok (.aload_n 0, 1) := by decide +kernel
theorem dX0_sumUp_72 : decode cX0_sumUp 72 = .ok (.aload_n 2, 1) := by decide +kernel
theorem dX0_sumUp_73 : decode cX0_sumUp 73 = .ok (.getfield 70, 3) := by decide +kernel
theorem dX0_sumUp_76 : decode cX0_sumUp 76 = .ok (.aload_n 2, 1) := by decide +kernel
theorem dX0_sumUp_77 : decode cX0_sumUp 77 = .ok (.aload_n 2, 1) := by decide +kernel
theorem dX0_sumUp_78 : decode cX0_sumUp 78 = .ok (.getfield 63, 3) := by decide +kernel
theorem dX0_sumUp_81 : decode cX0_sumUp 81 = .ok (.aload_n 2, 1) := by decide +kernel
theorem dX0_sumUp_82 : decode cX0_sumUp 82 = .ok (.getfield 60, 3) := by decide +kernel
theorem dX0_sumUp_85 : decode cX0_sumUp 85 = .ok (.invokevirtual 66, 3) := by decide +kernel
theorem dX0_sumUp_88 : decode cX0_sumUp 88 = .ok (.iinc 1 1, 3) := by decide +kernel
theorem dX0_sumUp_91 : decode cX0_sumUp 91 = .ok (.goto (-52), 3) := by decide +kernel
theorem dX0_sumUp_94 : decode cX0_sumUp 94 = .ok (.return_, 1) := by decide +kernel
theorem dX0_addTo_0 : decode cX0_addTo 0 = .ok (.aload_n 0, 1) := by decide +kernel
theorem dX0_addTo_1 : decode cX0_addTo 1 = .ok (.getfield 26, 3) := by decide +kernel
theorem dX0_addTo_4 : decode cX0_addTo 4 = .ok (.iconst 0, 1) := by decide +kernel
theorem dX0_addTo_5 : decode cX0_addTo 5 = .ok (.aaload, 1) := by decide +kernel
theorem dX0_addTo_6 : decode cX0_addTo 6 = .ok (.iload_n 1, 1) := by decide +kernel
theorem dX0_addTo_7 : decode cX0_addTo 7 = .ok (.dup2, 1) := by decide +kernel
theorem dX0_addTo_8 : decode cX0_addTo 8 = .ok (.iaload, 1) := by decide +kernel
theorem dX0_addTo_9 : decode cX0_addTo 9 = .ok (.iconst 1, 1) := by decide +kernel
theorem dX0_addTo_10 : decode cX0_addTo 10 = .ok (.iadd, 1) := by decide +kernel
theorem dX0_addTo_11 : decode cX0_addTo 11 = .ok (.iastore, 1) := by decide +kernel
theorem dX0_addTo_12 : decode cX0_addTo 12 = .ok (.aload_n 0, 1) := by decide +kernel
theorem dX0_addTo_13 : decode cX0_addTo 13 = .ok (.getfield 26, 3) := by decide +kernel
theorem dX0_addTo_16 : decode cX0_addTo 16 = .ok (.iconst 4, 1) := by decide +kernel
theorem dX0_addTo_17 : decode cX0_addTo 17 = .ok (.aaload, 1) := by decide +kernel
theorem dX0_addTo_18 : decode cX0_addTo 18 = .ok (.iload_n 1, 1) := by decide +kernel
theorem dX0_addTo_19 : decode cX0_addTo 19 = .ok (.dup2, 1) := by decide +kernel
theorem dX0_addTo_20 : decode cX0_addTo 20 = .ok (.iaload, 1) := by decide +kernel
theorem dX0_addTo_21 : decode cX0_addTo 21 = .ok (.iload_n 3, 1) := by decide +kernel
theorem dX0_addTo_22 : decode cX0_addTo 22 = .ok (.iadd, 1) := by decide +kernel
theorem dX0_addTo_23 : decode cX0_addTo 23 = .ok (.iastore, 1) := by decide +kernel
theorem dX0_addTo_24 : decode cX0_addTo 24 = .ok (.aload_n 0, 1) := by decide +kernel
theorem dX0_addTo_25 : decode cX0_addTo 25 = .ok (.getfield 26, 3) := by decide +kernel
theorem dX0_addTo_28 : decode cX0_addTo 28 = .ok (.iconst 5, 1) := by decide +kernel
theorem dX0_addTo_29 : decode cX0_addTo 29 = .ok (.aaload, 1) := by decide +kernel
theorem dX0_addTo_30 : decode cX0_addTo 30 = .ok (.iload_n 1, 1) := by decide +kernel
theorem dX0_addTo_31 : decode cX0_addTo 31 = .ok (.dup2, 1) := by decide +kernel
theorem dX0_addTo_32 : decode cX0_addTo 32 = .ok (.iaload, 1) := by decide +kernel
theorem dX0_addTo_33 : decode cX0_addTo 33 = .ok (.iload 4, 2) := by decide +kernel
theorem dX0_addTo_35 : decode cX0_addTo 35 = .ok (.iadd, 1) := by decide +kernel
theorem dX0_addTo_36 : decode cX0_addTo 36 = .ok (.iastore, 1) := by decide +kernel
theorem dX0_addTo_37 : decode cX0_addTo 37 = .ok (.aload_n 2, 1) := by decide +kernel
theorem dX0_addTo_38 : decode cX0_addTo 38 = .ok (.getfield 50, 3) := by decide +kernel
theorem dX0_addTo_41 : decode cX0_addTo 41 = .ok (.ifCond .eq 42, 3) := by decide +kernel
theorem dX0_addTo_44 : decode cX0_addTo 44 = .ok (.aload_n 2, 1) := by decide +kernel
theorem dX0_addTo_45 : decode cX0_addTo 45 = .ok (.iload_n 1, 1) := by decide +kernel
theorem dX0_addTo_46 : decode cX0_addTo 46 = .ok (.invokevirtual 73, 3) := by decide +kernel
theorem dX0_addTo_49 : decode cX0_addTo 49 = .ok (.istore 5, 2) := by decide +kernel
theorem dX0_addTo_51 : decode cX0_addTo 51 = .ok (.aload_n 0, 1) := by decide +kernel
theorem dX0_addTo_52 : decode cX0_addTo 52 = .ok (.getfield 26, 3) := by decide +kernel
theorem dX0_addTo_55 : decode cX0_addTo 55 = .ok (.iload 5, 2) := by decide +kernel
theorem dX0_addTo_57 : decode cX0_addTo 57 = .ok (.iconst 2, 1) := by decide +kernel
theorem dX0_addTo_58 : decode cX0_addTo 58 = .ok (.if_icmp .ne 7, 3) := by decide +kernel
theorem dX0_addTo_61 : decode cX0_addTo 61 = .ok (.iconst 1, 1) := by decide +kernel
theorem dX0_addTo_62 : decode cX0_addTo 62 = .ok (.goto 14, 3) := by decide +kernel
theorem dX0_addTo_65 : decode cX0_addTo 65 = .ok (.iload 5, 2) := by decide +kernel
theorem dX0_addTo_67 : decode cX0_addTo 67 = .ok (.iconst 1, 1) := by decide +kernel
theorem dX0_addTo_68 : decode cX0_addTo 68 = .ok (.if_icmp .ne 7, 3) := by decide +kernel
theorem dX0_addTo_71 : decode cX0_addTo 71 = .ok (.iconst 2, 1) := by decide +kernel
theorem dX0_addTo_72 : decode cX0_addTo 72 = .ok (.goto 4, 3) := by decide +kernel
theorem dX0_addTo_75 : decode cX0_addTo 75 = .ok (.iconst 3, 1) := by decide +kernel
theorem dX0_addTo_76 : decode cX0_addTo 76 = .ok (.aaload, 1) := by decide +kernel
theorem dX0_addTo_77 : decode cX0_addTo 77 = .ok (.iload_n 1, 1) := by decide +kernel
theorem dX0_addTo_78 : decode cX0_addTo 78 = .ok (.dup2, 1) := by decide +kernel
theorem dX0_addTo_79 : decode cX0_addTo 79 = .ok (.iaload, 1) := by decide +kernel
theorem dX0_addTo_80 : decode cX0_addTo 80 = .ok (.iconst 1, 1) := by decide +kernel
theorem dX0_addTo_81 : decode cX0_addTo 81 = .ok (.iadd, 1) := by decide +kernel
theorem dX0_addTo_82 : decode cX0_addTo 82 = .ok (.iastore, 1) := by decide +kernel
theorem dX0_addTo_83 : decode cX0_addTo 83 = .ok (.return_, 1) := by decide +kernel
theorem dX0_table_0 : decode cX0_table 0 = .ok (.iconst 2, 1) := by decide +kernel
theorem dX0_table_1 : decode cX0_table 1 = .ok (.aload_n 0, 1) := by decide +kernel
theorem dX0_table_2 : decode cX0_table 2 = .ok (.getfield 26, 3) := by decide +kernel
theorem dX0_table_5 : decode cX0_table 5 = .ok (.iconst 1, 1) := by decide +kernel
theorem dX0_table_6 : decode cX0_table 6 = .ok (.aaload, 1) := by decide +kernel
theorem dX0_table_7 : decode cX0_table 7 = .ok (.iload_n 1, 1) := by decide +kernel
theorem dX0_table_8 : decode cX0_table 8 = .ok (.iaload, 1) := by decide +kernel
theorem dX0_table_9 : decode cX0_table 9 = .ok (.imul, 1) := by decide +kernel
theorem dX0_table_10 : decode cX0_table 10 = .ok (.aload_n 0, 1) := by decide +kernel
theorem dX0_table_11 : decode cX0_table 11 = .ok (.getfield 26, 3) := by decide +kernel
theorem dX0_table_14 : decode cX0_table 14 = .ok (.iconst 2, 1) := by decide +kernel
theorem dX0_table_15 : decode cX0_table 15 = .ok (.aaload, 1) := by decide +kernel
theorem dX0_table_16 : decode cX0_table 16 = .ok (.iload_n 1, 1) := by decide +kernel
theorem dX0_table_17 : decode cX0_table 17 = .ok (.iaload, 1) := by decide +kernel
theorem dX0_table_18 : decode cX0_table 18 = .ok (.iadd, 1) := by decide +kernel
theorem dX0_table_19 : decode cX0_table 19 = .ok (.ireturn, 1) := by decide +kernel
theorem dX0_place_0 : decode cX0_place 0 = .ok (.iconst 0, 1) := by decide +kernel
theorem dX0_place_1 : decode cX0_place 1 = .ok (.istore_n 2, 1) := by decide +kernel
theorem dX0_place_2 : decode cX0_place 2 = .ok (.iload_n 2, 1) := by decide +kernel
theorem dX0_place_3 : decode cX0_place 3 = .ok (.aload_n 0, 1) := by decide +kernel
theorem dX0_place_4 : decode cX0_place 4 = .ok (.getfield 20, 3) := by decide +kernel
theorem dX0_place_7 : decode cX0_place 7 = .ok (.getfield 77, 3) := by decide +kernel
theorem dX0_place_10 : decode cX0_place 10 = .ok (.if_icmp .ge 37, 3) := by decide +kernel
theorem dX0_place_13 : decode cX0_place 13 = .ok (.iconst 0, 1) := by decide +kernel
theorem dX0_place_14 : decode cX0_place 14 = .ok (.istore_n 3, 1) := by decide +kernel
theorem dX0_place_15 : decode cX0_place 15 = .ok (.iload_n 3, 1) := by decide +kernel
theorem dX0_place_16 : decode cX0_place 16 = .ok (.bipush 6, 2) := by decide +kernel
theorem dX0_place_18 : decode cX0_place 18 = .ok (.if_icmp .ge 23, 3) := by decide +kernel
theorem dX0_place_21 : decode cX0_place 21 = .ok (.aload_n 0, 1) := by decide +kernel
theorem dX0_place_22 : decode cX0_place 22 = .ok (.getfield 29, 3) := by decide +kernel
theorem dX0_place_25 : decode cX0_place 25 = .ok (.iload_n 2, 1) := by decide +kernel
theorem dX0_place_26 : decode cX0_place 26 = .ok (.aaload, 1) := by decide +kernel
theorem dX0_place_27 : decode cX0_place 27 = .ok (.iload_n 3, 1) := by decide +kernel
theorem dX0_place_28 : decode cX0_place 28 = .ok (.aload_n 0, 1) := by decide +kernel
theorem dX0_place_29 : decode cX0_place 29 = .ok (.iload_n 3, 1) := by decide +kernel
theorem dX0_place_30 : decode cX0_place 30 = .ok (.iload_n 2, 1) := by decide +kernel
theorem dX0_place_31 : decode cX0_place 31 = .ok (.invokevirtual 80, 3) := by decide +kernel
theorem dX0_place_34 : decode cX0_place 34 = .ok (.iastore, 1) := by decide +kernel
theorem dX0_place_35 : decode cX0_place 35 = .ok (.iinc 3 1, 3) := by decide +kernel
theorem dX0_place_38 : decode cX0_place 38 = .ok (.goto (-23), 3) := by decide +kernel
theorem dX0_place_41 : decode cX0_place 41 = .ok (.iinc 2 1, 3) := by decide +kernel
theorem dX0_place_44 : decode cX0_place 44 = .ok (.goto (-42), 3) := by decide +kernel
theorem dX0_place_47 : decode cX0_place 47 = .ok (.iconst 1, 1) := by decide +kernel
theorem dX0_place_48 : decode cX0_place 48 = .ok (.istore_n 2, 1) := by decide +kernel
theorem dX0_place_49 : decode cX0_place 49 = .ok (.iconst 0, 1) := by decide +kernel
theorem dX0_place_50 : decode cX0_place 50 = .ok (.istore_n 3, 1) := by decide +kernel
theorem dX0_place_51 : decode cX0_place 51 = .ok (.iload_n 3, 1) := by decide +kernel
theorem dX0_place_52 : decode cX0_place 52 = .ok (.bipush 6, 2) := by decide +kernel
theorem dX0_place_54 : decode cX0_place 54 = .ok (.if_icmp .ge 21, 3) := by decide +kernel
theorem dX0_place_57 : decode cX0_place 57 = .ok (.iload_n 2, 1) := by decide +kernel
theorem dX0_place_58 : decode cX0_place 58 = .ok (.aload_n 0, 1) := by decide +kernel
theorem dX0_place_59 : decode cX0_place 59 = .ok (.iload_n 3, 1) := by decide +kernel
theorem dX0_place_60 : decode cX0_place 60 = .ok (.iload_n 1, 1) := by decide +kernel
theorem dX0_place_61 : decode cX0_place 61 = .ok (.invokevirtual 84, 3) := by decide +kernel
theorem dX0_place_64 : decode cX0_place 64 = .ok (.invokestatic 53, 3) := by decide +kernel
theorem dX0_place_67 : decode cX0_place 67 = .ok (.iadd, 1) := by decide +kernel
theorem dX0_place_68 : decode cX0_place 68 = .ok (.istore_n 2, 1) := by decide +kernel
theorem dX0_place_69 : decode cX0_place 69 = .ok (.iinc 3 1, 3) := by decide +kernel
theorem dX0_place_72 : decode cX0_place 72 = .ok (.goto (-21), 3) := by decide +kernel
theorem dX0_place_75 : decode cX0_place 75 = .ok (.iload_n 2, 1) := by decide +kernel
theorem dX0_place_76 : decode cX0_place 76 = .ok (.ireturn, 1) := by decide +kernel
theorem dX0_keyOf_0 : decode cX0_keyOf 0 = .ok (.aload_n 0, 1) := by decide +kernel
theorem dX0_keyOf_1 : decode cX0_keyOf 1 = .ok (.getfield 20, 3) := by decide +kernel
theorem dX0_keyOf_4 : decode cX0_keyOf 4 = .ok (.getfield 88, 3) := by decide +kernel
theorem dX0_keyOf_7 : decode cX0_keyOf 7 = .ok (.iload_n 2, 1) := by decide +kernel
theorem dX0_keyOf_8 : decode cX0_keyOf 8 = .ok (.iaload, 1) := by decide +kernel
theorem dX0_keyOf_9 : decode cX0_keyOf 9 = .ok (.tableswitch 73 0 3 #[31, 37, 46, 64], 31) := by decide +kernel
theorem dX0_keyOf_40 : decode cX0_keyOf 40 = .ok (.aload_n 0, 1) := by decide +kernel
theorem dX0_keyOf_41 : decode cX0_keyOf 41 = .ok (.iload_n 1, 1) := by decide +kernel
theorem dX0_keyOf_42 : decode cX0_keyOf 42 = .ok (.invokevirtual 91, 3) := by decide +kernel
theorem dX0_keyOf_45 : decode cX0_keyOf 45 = .ok (.ireturn, 1) := by decide +kernel
theorem dX0_keyOf_46 : decode cX0_keyOf 46 = .ok (.aload_n 0, 1) := by decide +kernel
theorem dX0_keyOf_47 : decode cX0_keyOf 47 = .ok (.getfield 26, 3) := by decide +kernel
theorem dX0_keyOf_50 : decode cX0_keyOf 50 = .ok (.iconst 1, 1) := by decide +kernel
theorem dX0_keyOf_51 : decode cX0_keyOf 51 = .ok (.aaload, 1) := by decide +kernel
theorem dX0_keyOf_52 : decode cX0_keyOf 52 = .ok (.iload_n 1, 1) := by decide +kernel
theorem dX0_keyOf_53 : decode cX0_keyOf 53 = .ok (.iaload, 1) := by decide +kernel
theorem dX0_keyOf_54 : decode cX0_keyOf 54 = .ok (.ireturn, 1) := by decide +kernel
theorem dX0_keyOf_55 : decode cX0_keyOf 55 = .ok (.aload_n 0, 1) := by decide +kernel
theorem dX0_keyOf_56 : decode cX0_keyOf 56 = .ok (.getfield 26, 3) := by decide +kernel
theorem dX0_keyOf_59 : decode cX0_keyOf 59 = .ok (.iconst 4, 1) := by decide +kernel
theorem dX0_keyOf_60 : decode cX0_keyOf 60 = .ok (.aaload, 1) := by decide +kernel
theorem dX0_keyOf_61 : decode cX0_keyOf 61 = .ok (.iload_n 1, 1) := by decide +kernel
theorem dX0_keyOf_62 : decode cX0_keyOf 62 = .ok (.iaload, 1) := by decide +kernel
theorem dX0_keyOf_63 : decode cX0_keyOf 63 = .ok (.aload_n 0, 1) := by decide +kernel
theorem dX0_keyOf_64 : decode cX0_keyOf 64 = .ok (.getfield 26, 3) := by decide +kernel
theorem dX0_keyOf_67 : decode cX0_keyOf 67 = .ok (.iconst 5, 1) := by decide +kernel
theorem dX0_keyOf_68 : decode cX0_keyOf 68 = .ok (.aaload, 1) := by decide +kernel
theorem dX0_keyOf_69 : decode cX0_keyOf 69 = .ok (.iload_n 1, 1) := by decide +kernel
theorem dX0_keyOf_70 : decode cX0_keyOf 70 = .ok (.iaload, 1) := by decide +kernel
theorem dX0_keyOf_71 : decode cX0_keyOf 71 = .ok (.isub, 1) := by decide +kernel
theorem dX0_keyOf_72 : decode cX0_keyOf 72 = .ok (.ireturn, 1) := by decide +kernel
theorem dX0_keyOf_73 : decode cX0_keyOf 73 = .ok (.aload_n 0, 1) := by decide +kernel
theorem dX0_keyOf_74 : decode cX0_keyOf 74 = .ok (.getfield 26, 3) := by decide +kernel
theorem dX0_keyOf_77 : decode cX0_keyOf 77 = .ok (.iconst 4, 1) := by decide +kernel
theorem dX0_keyOf_78 : decode cX0_keyOf 78 = .ok (.aaload, 1) := by decide +kernel
theorem dX0_keyOf_79 : decode cX0_keyOf 79 = .ok (.iload_n 1, 1) := by decide +kernel
theorem dX0_keyOf_80 : decode cX0_keyOf 80 = .ok (.iaload, 1) := by decide +kernel
theorem dX0_keyOf_81 : decode cX0_keyOf 81 = .ok (.ireturn, 1) := by decide +kernel
theorem dX0_keyOf_82 : decode cX0_keyOf 82 = .ok (.aload_n 0, 1) := by decide +kernel
theorem dX0_keyOf_83 : decode cX0_keyOf 83 = .ok (.iload_n 1, 1) := by decide +kernel
theorem dX0_keyOf_84 : decode cX0_keyOf 84 = .ok (.iload_n 2, 1) := by decide +kernel
theorem dX0_keyOf_85 : decode cX0_keyOf 85 = .ok (.invokevirtual 94, 3) := by decide +kernel
theorem dX0_keyOf_88 : decode cX0_keyOf 88 = .ok (.ireturn, 1) := by decide +kernel
theorem dX0_tableAmongLikes_0 : decode cX0_tableAmongLikes 0 = .ok (.iconst 0, 1) := by decide +kernel
theorem dX0_tableAmongLikes_1 : decode cX0_tableAmongLikes 1 = .ok (.istore_n 3, 1) := by decide +kernel
theorem dX0_tableAmongLikes_2 : decode cX0_tableAmongLikes 2 = .ok (.iconst 0, 1) := by decide +kernel
theorem dX0_tableAmongLikes_3 : decode cX0_tableAmongLikes 3 = .ok (.istore 4, 2) := by decide +kernel
theorem dX0_tableAmongLikes_5 : decode cX0_tableAmongLikes 5 = .ok (.iload 4, 2) := by decide +kernel
theorem dX0_tableAmongLikes_7 : decode cX0_tableAmongLikes 7 = .ok (.aload_n 0, 1) := by decide +kernel
theorem dX0_tableAmongLikes_8 : decode cX0_tableAmongLikes 8 = .ok (.getfield 42, 3) := by decide +kernel
theorem dX0_tableAmongLikes_11 : decode cX0_tableAmongLikes 11 = .ok (.if_icmp .ge 54, 3) := by decide +kernel
theorem dX0_tableAmongLikes_14 : decode cX0_tableAmongLikes 14 = .ok (.aload_n 0, 1) := by decide +kernel
theorem dX0_tableAmongLikes_15 : decode cX0_tableAmongLikes 15 = .ok (.getfield 13, 3) := by decide +kernel
theorem dX0_tableAmongLikes_18 : decode cX0_tableAmongLikes 18 = .ok (.iload 4, 2) := by decide +kernel
theorem dX0_tableAmongLikes_20 : decode cX0_tableAmongLikes 20 = .ok (.aaload, 1) := by decide +kernel
theorem dX0_tableAmongLikes_21 : decode cX0_tableAmongLikes 21 = .ok (.astore 5, 2) := by decide +kernel
theorem dX0_tableAmongLikes_23 : decode cX0_tableAmongLikes 23 = .ok (.aload 5, 2) := by decide +kernel
theorem dX0_tableAmongLikes_25 : decode cX0_tableAmongLikes 25 = .ok (.iload_n 1, 1) := by decide +kernel
theorem dX0_tableAmongLikes_26 : decode cX0_tableAmongLikes 26 = .ok (.invokevirtual 97, 3) := by decide +kernel
theorem dX0_tableAmongLikes_29 : decode cX0_tableAmongLikes 29 = .ok (.ifCond .eq 30, 3) := by decide +kernel
theorem dX0_tableAmongLikes_32 : decode cX0_tableAmongLikes 32 = .ok (.aload_n 0, 1) := by decide +kernel
theorem dX0_tableAmongLikes_33 : decode cX0_tableAmongLikes 33 = .ok (.aload 5, 2) := by decide +kernel
theorem dX0_tableAmongLikes_35 : decode cX0_tableAmongLikes 35 = .ok (.getfield 57, 3) := by decide +kernel
theorem dX0_tableAmongLikes_38 : decode cX0_tableAmongLikes 38 = .ok (.aload 5, 2) := by decide +kernel
theorem dX0_tableAmongLikes_40 : decode cX0_tableAmongLikes 40 = .ok (.getfield 70, 3) := by decide +kernel
theorem dX0_tableAmongLikes_43 : decode cX0_tableAmongLikes 43 = .ok (.iload_n 2, 1) := by decide +kernel
theorem dX0_tableAmongLikes_44 : decode cX0_tableAmongLikes 44 = .ok (.invokevirtual 101, 3) := by decide +kernel
theorem dX0_tableAmongLikes_47 : decode cX0_tableAmongLikes 47 = .ok (.ifCond .eq 12, 3) := by decide +kernel
theorem dX0_tableAmongLikes_50 : decode cX0_tableAmongLikes 50 = .ok (.iload_n 3, 1) := by decide +kernel
theorem dX0_tableAmongLikes_51 : decode cX0_tableAmongLikes 51 = .ok (.aload 5, 2) := by decide +kernel
theorem dX0_tableAmongLikes_53 : decode cX0_tableAmongLikes 53 = .ok (.iload_n 1, 1) := by decide +kernel
theorem dX0_tableAmongLikes_54 : decode cX0_tableAmongLikes 54 = .ok (.invokevirtual 73, 3) := by decide +kernel
theorem dX0_tableAmongLikes_57 : decode cX0_tableAmongLikes 57 = .ok (.iadd, 1) := by decide +kernel
theorem dX0_tableAmongLikes_58 : decode cX0_tableAmongLikes 58 = .ok (.istore_n 3, 1) := by decide +kernel
theorem dX0_tableAmongLikes_59 : decode cX0_tableAmongLikes 59 = .ok (.iinc 4 1, 3) := by decide +kernel
theorem dX0_tableAmongLikes_62 : decode cX0_tableAmongLikes 62 = .ok (.goto (-57), 3) := by decide +kernel
theorem dX0_tableAmongLikes_65 : decode cX0_tableAmongLikes 65 = .ok (.iload_n 3, 1) := by decide +kernel
theorem dX0_tableAmongLikes_66 : decode cX0_tableAmongLikes 66 = .ok (.ireturn, 1) := by decide +kernel
theorem dX0_areAlike_0 : decode cX0_areAlike 0 = .ok (.iconst 0, 1) := by decide +kernel
theorem dX0_areAlike_1 : decode cX0_areAlike 1 = .ok (.istore 4, 2) := by decide +kernel
theorem dX0_areAlike_3 : decode cX0_areAlike 3 = .ok (.iload 4, 2) := by decide +kernel
theorem dX0_areAlike_5 : decode cX0_areAlike 5 = .ok (.iload_n 3, 1) := by decide +kernel
theorem dX0_areAlike_6 : decode cX0_areAlike 6 = .ok (.if_icmp .ge 32, 3) := by decide +kernel
theorem dX0_areAlike_9 : decode cX0_areAlike 9 = .ok (.aload_n 0, 1) := by decide +kernel
theorem dX0_areAlike_10 : decode cX0_areAlike 10 = .ok (.getfield 29, 3) := by decide +kernel
theorem dX0_areAlike_13 : decode cX0_areAlike 13 = .ok (.iload 4, 2) := by decide +kernel
theorem dX0_areAlike_15 : decode cX0_areAlike 15 = .ok (.aaload, 1) := by decide +kernel
theorem dX0_areAlike_16 : decode cX0_areAlike 16 = .ok (.iload_n 1, 1) := by decide +kernel
theorem dX0_areAlike_17 : decode cX0_areAlike 17 = .ok (.iaload, 1) := by decide +kernel
theorem dX0_areAlike_18 : decode cX0_areAlike 18 = .ok (.aload_n 0, 1) := by decide +kernel
theorem dX0_areAlike_19 : decode cX0_areAlike 19 = .ok (.getfield 29, 3) := by decide +kernel
theorem dX0_areAlike_22 : decode cX0_areAlike 22 = .ok (.iload 4, 2) := by decide +kernel
theorem dX0_areAlike_24 : decode cX0_areAlike 24 = .ok (.aaload, 1) := by decide +kernel
theorem dX0_areAlike_25 : decode cX0_areAlike 25 = .ok (.iload_n 2, 1) := by decide +kernel
theorem dX0_areAlike_26 : decode cX0_areAlike 26 = .ok (.iaload, 1) := by decide +kernel
theorem dX0_areAlike_27 : decode cX0_areAlike 27 = .ok (.if_icmp .eq 5, 3) := by decide +kernel
theorem dX0_areAlike_30 : decode cX0_areAlike 30 = .ok (.iconst 0, 1) := by decide +kernel
theorem dX0_areAlike_31 : decode cX0_areAlike 31 = .ok (.ireturn, 1) := by decide +kernel
theorem dX0_areAlike_32 : decode cX0_areAlike 32 = .ok (.iinc 4 1, 3) := by decide +kernel
theorem dX0_areAlike_35 : decode cX0_areAlike 35 = .ok (.goto (-32), 3) := by decide +kernel
theorem dX0_areAlike_38 : decode cX0_areAlike 38 = .ok (.iconst 1, 1) := by decide +kernel
theorem dX0_areAlike_39 : decode cX0_areAlike 39 = .ok (.ireturn, 1) := by decide +kernel
theorem dX0_isAhead_0 : decode cX0_isAhead 0 = .ok (.iconst 0, 1) := by decide +kernel
theorem dX0_isAhead_1 : decode cX0_isAhead 1 = .ok (.istore_n 3, 1) := by decide +kernel
theorem dX0_isAhead_2 : decode cX0_isAhead 2 = .ok (.iload_n 3, 1) := by decide +kernel
theorem dX0_isAhead_3 : decode cX0_isAhead 3 = .ok (.aload_n 0, 1) := by decide +kernel
theorem dX0_isAhead_4 : decode cX0_isAhead 4 = .ok (.getfield 20, 3) := by decide +kernel
theorem dX0_isAhead_7 : decode cX0_isAhead 7 = .ok (.getfield 77, 3) := by decide +kernel
theorem dX0_isAhead_10 : decode cX0_isAhead 10 = .ok (.if_icmp .ge 53, 3) := by decide +kernel
theorem dX0_isAhead_13 : decode cX0_isAhead 13 = .ok (.aload_n 0, 1) := by decide +kernel
theorem dX0_isAhead_14 : decode cX0_isAhead 14 = .ok (.getfield 29, 3) := by decide +kernel
theorem dX0_isAhead_17 : decode cX0_isAhead 17 = .ok (.iload_n 3, 1) := by decide +kernel
theorem dX0_isAhead_18 : decode cX0_isAhead 18 = .ok (.aaload, 1) := by decide +kernel
theorem dX0_isAhead_19 : decode cX0_isAhead 19 = .ok (.iload_n 1, 1) := by decide +kernel
theorem dX0_isAhead_20 : decode cX0_isAhead 20 = .ok (.iaload, 1) := by decide +kernel
theorem dX0_isAhead_21 : decode cX0_isAhead 21 = .ok (.aload_n 0, 1) := by decide +kernel
theorem dX0_isAhead_22 : decode cX0_isAhead 22 = .ok (.getfield 29, 3) := by decide +kernel
theorem dX0_isAhead_25 : decode cX0_isAhead 25 = .ok (.iload_n 3, 1) := by decide +kernel
theorem dX0_isAhead_26 : decode cX0_isAhead 26 = .ok (.aaload, 1) := by decide +kernel
theorem dX0_isAhead_27 : decode cX0_isAhead 27 = .ok (.iload_n 2, 1) := by decide +kernel
theorem dX0_isAhead_28 : decode cX0_isAhead 28 = .ok (.iaload, 1) := by decide +kernel
theorem dX0_isAhead_29 : decode cX0_isAhead 29 = .ok (.if_icmp .eq 28, 3) := by decide +kernel
theorem dX0_isAhead_32 : decode cX0_isAhead 32 = .ok (.aload_n 0, 1) := by decide +kernel
theorem dX0_isAhead_33 : decode cX0_isAhead 33 = .ok (.getfield 29, 3) := by decide +kernel
theorem dX0_isAhead_36 : decode cX0_isAhead 36 = .ok (.iload_n 3, 1) := by decide +kernel
theorem dX0_isAhead_37 : decode cX0_isAhead 37 = .ok (.aaload, 1) := by decide +kernel
theorem dX0_isAhead_38 : decode cX0_isAhead 38 = .ok (.iload_n 1, 1) := by decide +kernel
theorem dX0_isAhead_39 : decode cX0_isAhead 39 = .ok (.iaload, 1) := by decide +kernel
theorem dX0_isAhead_40 : decode cX0_isAhead 40 = .ok (.aload_n 0, 1) := by decide +kernel
theorem dX0_isAhead_41 : decode cX0_isAhead 41 = .ok (.getfield 29, 3) := by decide +kernel
theorem dX0_isAhead_44 : decode cX0_isAhead 44 = .ok (.iload_n 3, 1) := by decide +kernel
theorem dX0_isAhead_45 : decode cX0_isAhead 45 = .ok (.aaload, 1) := by decide +kernel
theorem dX0_isAhead_46 : decode cX0_isAhead 46 = .ok (.iload_n 2, 1) := by decide +kernel
theorem dX0_isAhead_47 : decode cX0_isAhead 47 = .ok (.iaload, 1) := by decide +kernel
theorem dX0_isAhead_48 : decode cX0_isAhead 48 = .ok (.if_icmp .le 7, 3) := by decide +kernel
theorem dX0_isAhead_51 : decode cX0_isAhead 51 = .ok (.iconst 1, 1) := by decide +kernel
theorem dX0_isAhead_52 : decode cX0_isAhead 52 = .ok (.goto 4, 3) := by decide +kernel
theorem dX0_isAhead_55 : decode cX0_isAhead 55 = .ok (.iconst 0, 1) := by decide +kernel
theorem dX0_isAhead_56 : decode cX0_isAhead 56 = .ok (.ireturn, 1) := by decide +kernel
theorem dX0_isAhead_57 : decode cX0_isAhead 57 = .ok (.iinc 3 1, 3) := by decide +kernel
theorem dX0_isAhead_60 : decode cX0_isAhead 60 = .ok (.goto (-58), 3) := by decide +kernel
theorem dX0_isAhead_63 : decode cX0_isAhead 63 = .ok (.iconst 0, 1) := by decide +kernel
theorem dX0_isAhead_64 : decode cX0_isAhead 64 = .ok (.ireturn, 1) := by decide +kernel
theorem dX0_tryAllWays_0 : decode cX0_tryAllWays 0 = .ok (.iconst 0, 1) := by decide +kernel
theorem dX0_tryAllWays_1 : decode cX0_tryAllWays 1 = .ok (.istore_n 2, 1) := by decide +kernel
theorem dX0_tryAllWays_2 : decode cX0_tryAllWays 2 = .ok (.iload_n 2, 1) := by decide +kernel
theorem dX0_tryAllWays_3 : decode cX0_tryAllWays 3 = .ok (.bipush 6, 2) := by decide +kernel
theorem dX0_tryAllWays_5 : decode cX0_tryAllWays 5 = .ok (.if_icmp .ge 20, 3) := by decide +kernel
theorem dX0_tryAllWays_8 : decode cX0_tryAllWays 8 = .ok (.aload_n 0, 1) := by decide +kernel
theorem dX0_tryAllWays_9 : decode cX0_tryAllWays 9 = .ok (.getfield 32, 3) := by decide +kernel
theorem dX0_tryAllWays_12 : decode cX0_tryAllWays 12 = .ok (.iload_n 2, 1) := by decide +kernel
theorem dX0_tryAllWays_13 : decode cX0_tryAllWays 13 = .ok (.aload_n 0, 1) := by decide +kernel
theorem dX0_tryAllWays_14 : decode cX0_tryAllWays 14 = .ok (.iload_n 2, 1) := by decide +kernel
theorem dX0_tryAllWays_15 : decode cX0_tryAllWays 15 = .ok (.invokevirtual 91, 3) := by decide +kernel
theorem dX0_tryAllWays_18 : decode cX0_tryAllWays 18 = .ok (.iastore, 1) := by decide +kernel
theorem dX0_tryAllWays_19 : decode cX0_tryAllWays 19 = .ok (.iinc 2 1, 3) := by decide +kernel
theorem dX0_tryAllWays_22 : decode cX0_tryAllWays 22 = .ok (.goto (-20), 3) := by decide +kernel
theorem dX0_tryAllWays_25 : decode cX0_tryAllWays 25 = .ok (.aload_n 0, 1) := by decide +kernel
theorem dX0_tryAllWays_26 : decode cX0_tryAllWays 26 = .ok (.invokevirtual 104, 3) := by decide +kernel
theorem dX0_tryAllWays_29 : decode cX0_tryAllWays 29 = .ok (.iconst 1, 1) := by decide +kernel
theorem dX0_tryAllWays_30 : decode cX0_tryAllWays 30 = .ok (.istore_n 2, 1) := by decide +kernel
theorem dX0_tryAllWays_31 : decode cX0_tryAllWays 31 = .ok (.iconst 0, 1) := by decide +kernel
theorem dX0_tryAllWays_32 : decode cX0_tryAllWays 32 = .ok (.istore_n 3, 1) := by decide +kernel
theorem dX0_tryAllWays_33 : decode cX0_tryAllWays 33 = .ok (.iload_n 3, 1) := by decide +kernel
theorem dX0_tryAllWays_34 : decode cX0_tryAllWays 34 = .ok (.aload_n 0, 1) := by decide +kernel
theorem dX0_tryAllWays_35 : decode cX0_tryAllWays 35 = .ok (.getfield 107, 3) := by decide +kernel
theorem dX0_tryAllWays_38 : decode cX0_tryAllWays 38 = .ok (.if_icmp .ge 13, 3) := by decide +kernel
theorem dX0_tryAllWays_41 : decode cX0_tryAllWays 41 = .ok (.iload_n 2, 1) := by decide +kernel
theorem dX0_tryAllWays_42 : decode cX0_tryAllWays 42 = .ok (.iconst 3, 1) := by decide +kernel
theorem dX0_tryAllWays_43 : decode cX0_tryAllWays 43 = .ok (.imul, 1) := by decide +kernel
theorem dX0_tryAllWays_44 : decode cX0_tryAllWays 44 = .ok (.istore_n 2, 1) := by decide +kernel
theorem dX0_tryAllWays_45 : decode cX0_tryAllWays 45 = .ok (.iinc 3 1, 3) := by decide +kernel
theorem dX0_tryAllWays_48 : decode cX0_tryAllWays 48 = .ok (.goto (-15), 3) := by decide +kernel
theorem dX0_tryAllWays_51 : decode cX0_tryAllWays 51 = .ok (.aload_n 0, 1) := by decide +kernel
theorem dX0_tryAllWays_52 : decode cX0_tryAllWays 52 = .ok (.bipush 6, 2) := by decide +kernel
theorem dX0_tryAllWays_54 : decode cX0_tryAllWays 54 = .ok (.putfield 110, 3) := by decide +kernel
theorem dX0_tryAllWays_57 : decode cX0_tryAllWays 57 = .ok (.aload_n 0, 1) := by decide +kernel
theorem dX0_tryAllWays_58 : decode cX0_tryAllWays 58 = .ok (.iconst 1, 1) := by decide +kernel
theorem dX0_tryAllWays_59 : decode cX0_tryAllWays 59 = .ok (.putfield 113, 3) := by decide +kernel
theorem dX0_tryAllWays_62 : decode cX0_tryAllWays 62 = .ok (.iconst 0, 1) := by decide +kernel
theorem dX0_tryAllWays_63 : decode cX0_tryAllWays 63 = .ok (.istore_n 3, 1) := by decide +kernel
theorem dX0_tryAllWays_64 : decode cX0_tryAllWays 64 = .ok (.iload_n 3, 1) := by decide +kernel
theorem dX0_tryAllWays_65 : decode cX0_tryAllWays 65 = .ok (.iload_n 2, 1) := by decide +kernel
theorem dX0_tryAllWays_66 : decode cX0_tryAllWays 66 = .ok (.if_icmp .ge 19, 3) := by decide +kernel
theorem dX0_tryAllWays_69 : decode cX0_tryAllWays 69 = .ok (.aload_n 0, 1) := by decide +kernel
theorem dX0_tryAllWays_70 : decode cX0_tryAllWays 70 = .ok (.iload_n 3, 1) := by decide +kernel
theorem dX0_tryAllWays_71 : decode cX0_tryAllWays 71 = .ok (.invokevirtual 116, 3) := by decide +kernel
theorem dX0_tryAllWays_74 : decode cX0_tryAllWays 74 = .ok (.aload_n 0, 1) := by decide +kernel
theorem dX0_tryAllWays_75 : decode cX0_tryAllWays 75 = .ok (.iload_n 1, 1) := by decide +kernel
theorem dX0_tryAllWays_76 : decode cX0_tryAllWays 76 = .ok (.invokevirtual 120, 3) := by decide +kernel
theorem dX0_tryAllWays_79 : decode cX0_tryAllWays 79 = .ok (.iinc 3 1, 3) := by decide +kernel
theorem dX0_tryAllWays_82 : decode cX0_tryAllWays 82 = .ok (.goto (-18), 3) := by decide +kernel
theorem dX0_tryAllWays_85 : decode cX0_tryAllWays 85 = .ok (.return_, 1) := by decide +kernel
theorem dX0_noteOpenOnes_0 : decode cX0_noteOpenOnes 0 = .ok (.aload_n 0, 1) := by decide +kernel
theorem dX0_noteOpenOnes_1 : decode cX0_noteOpenOnes 1 = .ok (.iconst 0, 1) := by decide +kernel
theorem dX0_noteOpenOnes_2 : decode cX0_noteOpenOnes 2 = .ok (.putfield 107, 3) := by decide +kernel
theorem dX0_noteOpenOnes_5 : decode cX0_noteOpenOnes 5 = .ok (.iconst 0, 1) := by decide +kernel
theorem dX0_noteOpenOnes_6 : decode cX0_noteOpenOnes 6 = .ok (.istore_n 1, 1) := by decide +kernel
theorem dX0_noteOpenOnes_7 : decode cX0_noteOpenOnes 7 = .ok (.iload_n 1, 1) := by decide +kernel
theorem dX0_noteOpenOnes_8 : decode cX0_noteOpenOnes 8 = .ok (.aload_n 0, 1) := by decide +kernel
theorem dX0_noteOpenOnes_9 : decode cX0_noteOpenOnes 9 = .ok (.getfield 42, 3) := by decide +kernel
theorem dX0_noteOpenOnes_12 : decode cX0_noteOpenOnes 12 = .ok (.if_icmp .ge 50, 3) := by decide +kernel
theorem dX0_noteOpenOnes_15 : decode cX0_noteOpenOnes 15 = .ok (.aload_n 0, 1) := by decide +kernel
theorem dX0_noteOpenOnes_16 : decode cX0_noteOpenOnes 16 = .ok (.getfield 13, 3) := by decide +kernel
theorem dX0_noteOpenOnes_19 : decode cX0_noteOpenOnes 19 = .ok (.iload_n 1, 1) := by decide +kernel
theorem dX0_noteOpenOnes_20 : decode cX0_noteOpenOnes 20 = .ok (.aaload, 1) := by decide +kernel
theorem dX0_noteOpenOnes_21 : decode cX0_noteOpenOnes 21 = .ok (.getfield 50, 3) := by decide +kernel
theorem dX0_noteOpenOnes_24 : decode cX0_noteOpenOnes 24 = .ok (.ifCond .ne 32, 3) := by decide +kernel
theorem dX0_noteOpenOnes_27 : decode cX0_noteOpenOnes 27 = .ok (.aload_n 0, 1) := by decide +kernel
theorem dX0_noteOpenOnes_28 : decode cX0_noteOpenOnes 28 = .ok (.getfield 107, 3) := by decide +kernel
theorem dX0_noteOpenOnes_31 : decode cX0_noteOpenOnes 31 = .ok (.bipush 6, 2) := by decide +kernel
theorem dX0_noteOpenOnes_33 : decode cX0_noteOpenOnes 33 = .ok (.if_icmp .ge 23, 3) := by decide +kernel
theorem dX0_noteOpenOnes_36 : decode cX0_noteOpenOnes 36 = .ok (.aload_n 0, 1) := by decide +kernel
theorem dX0_noteOpenOnes_37 : decode cX0_noteOpenOnes 37 = .ok (.getfield 39, 3) := by decide +kernel
theorem dX0_noteOpenOnes_40 : decode cX0_noteOpenOnes 40 = .ok (.aload_n 0, 1) := by decide +kernel
theorem dX0_noteOpenOnes_41 : decode cX0_noteOpenOnes 41 = .ok (.getfield 107, 3) := by decide +kernel
theorem dX0_noteOpenOnes_44 : decode cX0_noteOpenOnes 44 = .ok (.iload_n 1, 1) := by decide +kernel
theorem dX0_noteOpenOnes_45 : decode cX0_noteOpenOnes 45 = .ok (.iastore, 1) := by decide +kernel
theorem dX0_noteOpenOnes_46 : decode cX0_noteOpenOnes 46 = .ok (.aload_n 0, 1) := by decide +kernel
theorem dX0_noteOpenOnes_47 : decode cX0_noteOpenOnes 47 = .ok (.dup, 1) := by decide +kernel
theorem dX0_noteOpenOnes_48 : decode cX0_noteOpenOnes 48 = .ok (.getfield 107, 3) := by decide +kernel
theorem dX0_noteOpenOnes_51 : decode cX0_noteOpenOnes 51 = .ok (.iconst 1, 1) := by decide +kernel
theorem dX0_noteOpenOnes_52 : decode cX0_noteOpenOnes 52 = .ok (.iadd, 1) := by decide +kernel
theorem dX0_noteOpenOnes_53 : decode cX0_noteOpenOnes 53 = .ok (.putfield 107, 3) := by decide +kernel
theorem dX0_noteOpenOnes_56 : decode cX0_noteOpenOnes 56 = .ok (.iinc 1 1, 3) := by decide +kernel
theorem dX0_noteOpenOnes_59 : decode cX0_noteOpenOnes 59 = .ok (.goto (-52), 3) := by decide +kernel
theorem dX0_noteOpenOnes_62 : decode cX0_noteOpenOnes 62 = .ok (.return_, 1) := by decide +kernel
theorem dX0_takeWay_0 : decode cX0_takeWay 0 = .ok (.aload_n 0, 1) := by decide +kernel
theorem dX0_takeWay_1 : decode cX0_takeWay 1 = .ok (.getfield 32, 3) := by decide +kernel
theorem dX0_takeWay_4 : decode cX0_takeWay 4 = .ok (.iconst 0, 1) := by decide +kernel
theorem dX0_takeWay_5 : decode cX0_takeWay 5 = .ok (.aload_n 0, 1) := by decide +kernel
theorem dX0_takeWay_6 : decode cX0_takeWay 6 = .ok (.getfield 36, 3) := by decide +kernel
theorem dX0_takeWay_9 : decode cX0_takeWay 9 = .ok (.iconst 0, 1) := by decide +kernel
theorem dX0_takeWay_10 : decode cX0_takeWay 10 = .ok (.bipush 6, 2) := by decide +kernel
theorem dX0_takeWay_12 : decode cX0_takeWay 12 = .ok (.invokestatic 123, 3) := by decide +kernel
theorem dX0_takeWay_15 : decode cX0_takeWay 15 = .ok (.iload_n 1, 1) := by decide +kernel
theorem dX0_takeWay_16 : decode cX0_takeWay 16 = .ok (.istore_n 2, 1) := by decide +kernel
theorem dX0_takeWay_17 : decode cX0_takeWay 17 = .ok (.iconst 0, 1) := by decide +kernel
theorem dX0_takeWay_18 : decode cX0_takeWay 18 = .ok (.istore_n 3, 1) := by decide +kernel
theorem dX0_takeWay_19 : decode cX0_takeWay 19 = .ok (.iload_n 3, 1) := by decide +kernel
theorem dX0_takeWay_20 : decode cX0_takeWay 20 = .ok (.aload_n 0, 1) := by decide +kernel
theorem dX0_takeWay_21 : decode cX0_takeWay 21 = .ok (.getfield 107, 3) := by decide +kernel
theorem dX0_takeWay_24 : decode cX0_takeWay 24 = .ok (.if_icmp .ge 63, 3) := by decide +kernel
theorem dX0_takeWay_27 : decode cX0_takeWay 27 = .ok (.aload_n 0, 1) := by decide +kernel
theorem dX0_takeWay_28 : decode cX0_takeWay 28 = .ok (.getfield 13, 3) := by decide +kernel
theorem dX0_takeWay_31 : decode cX0_takeWay 31 = .ok (.aload_n 0, 1) := by decide +kernel
theorem dX0_takeWay_32 : decode cX0_takeWay 32 = .ok (.getfield 39, 3) := by decide +kernel
theorem dX0_takeWay_35 : decode cX0_takeWay 35 = .ok (.iload_n 3, 1) := by decide +kernel
theorem dX0_takeWay_36 : decode cX0_takeWay 36 = .ok (.iaload, 1) := by decide +kernel
theorem dX0_takeWay_37 : decode cX0_takeWay 37 = .ok (.aaload, 1) := by decide +kernel
theorem dX0_takeWay_38 : decode cX0_takeWay 38 = .ok (.astore 4, 2) := by decide +kernel
theorem dX0_takeWay_40 : decode cX0_takeWay 40 = .ok (.iload_n 2, 1) := by decide +kernel
theorem dX0_takeWay_41 : decode cX0_takeWay 41 = .ok (.iconst 3, 1) := by decide +kernel
theorem dX0_takeWay_42 : decode cX0_takeWay 42 = .ok (.irem, 1) := by decide +kernel
theorem dX0_takeWay_43 : decode cX0_takeWay 43 = .ok (.istore 5, 2) := by decide +kernel
theorem dX0_takeWay_45 : decode cX0_takeWay 45 = .ok (.aload_n 0, 1) := by decide +kernel
theorem dX0_takeWay_46 : decode cX0_takeWay 46 = .ok (.getfield 36, 3) := by decide +kernel
theorem dX0_takeWay_49 : decode cX0_takeWay 49 = .ok (.aload 4, 2) := by decide +kernel
theorem dX0_takeWay_51 : decode cX0_takeWay 51 = .ok (.getfield 57, 3) := by decide +kernel
theorem dX0_takeWay_54 : decode cX0_takeWay 54 = .ok (.dup2, 1) := by decide +kernel
theorem dX0_takeWay_55 : decode cX0_takeWay 55 = .ok (.iaload, 1) := by decide +kernel
theorem dX0_takeWay_56 : decode cX0_takeWay 56 = .ok (.iload 5, 2) := by decide +kernel
theorem dX0_takeWay_58 : decode cX0_takeWay 58 = .ok (.iadd, 1) := by decide +kernel
theorem dX0_takeWay_59 : decode cX0_takeWay 59 = .ok (.iastore, 1) := by decide +kernel
theorem dX0_takeWay_60 : decode cX0_takeWay 60 = .ok (.aload_n 0, 1) := by decide +kernel
theorem dX0_takeWay_61 : decode cX0_takeWay 61 = .ok (.getfield 36, 3) := by decide +kernel
theorem dX0_takeWay_64 : decode cX0_takeWay 64 = .ok (.aload 4, 2) := by decide +kernel
theorem dX0_takeWay_66 : decode cX0_takeWay 66 = .ok (.getfield 70, 3) := by decide +kernel
theorem dX0_takeWay_69 : decode cX0_takeWay 69 = .ok (.dup2, 1) := by decide +kernel
theorem dX0_takeWay_70 : decode cX0_takeWay 70 = .ok (.iaload, 1) := by decide +kernel
theorem dX0_takeWay_71 : decode cX0_takeWay 71 = .ok (.iconst 2, 1) := by decide +kernel
theorem dX0_takeWay_72 : decode cX0_takeWay 72 = .ok (.iload 5, 2) := by decide +kernel
theorem dX0_takeWay_74 : decode cX0_takeWay 74 = .ok (.isub, 1) := by decide +kernel
theorem dX0_takeWay_75 : decode cX0_takeWay 75 = .ok (.iadd, 1) := by decide +kernel
theorem dX0_takeWay_76 : decode cX0_takeWay 76 = .ok (.iastore, 1) := by decide +kernel
theorem dX0_takeWay_77 : decode cX0_takeWay 77 = .ok (.iload_n 2, 1) := by decide +kernel
theorem dX0_takeWay_78 : decode cX0_takeWay 78 = .ok (.iconst 3, 1) := by decide +kernel
theorem dX0_takeWay_79 : decode cX0_takeWay 79 = .ok (.idiv, 1) := by decide +kernel
theorem dX0_takeWay_80 : decode cX0_takeWay 80 = .ok (.istore_n 2, 1) := by decide +kernel
theorem dX0_takeWay_81 : decode cX0_takeWay 81 = .ok (.iinc 3 1, 3) := by decide +kernel
theorem dX0_takeWay_84 : decode cX0_takeWay 84 = .ok (.goto (-65), 3) := by decide +kernel
theorem dX0_takeWay_87 : decode cX0_takeWay 87 = .ok (.return_, 1) := by decide +kernel
theorem dX0_notePlace_0 : decode cX0_notePlace 0 = .ok (.iconst 1, 1) := by decide +kernel
theorem dX0_notePlace_1 : decode cX0_notePlace 1 = .ok (.istore_n 2, 1) := by decide +kernel
theorem dX0_notePlace_2 : decode cX0_notePlace 2 = .ok (.iconst 0, 1) := by decide +kernel
theorem dX0_notePlace_3 : decode cX0_notePlace 3 = .ok (.istore_n 3, 1) := by decide +kernel
theorem dX0_notePlace_4 : decode cX0_notePlace 4 = .ok (.iload_n 3, 1) := by decide +kernel
theorem dX0_notePlace_5 : decode cX0_notePlace 5 = .ok (.bipush 6, 2) := by decide +kernel
theorem dX0_notePlace_7 : decode cX0_notePlace 7 = .ok (.if_icmp .ge 35, 3) := by decide +kernel
theorem dX0_notePlace_10 : decode cX0_notePlace 10 = .ok (.iload_n 2, 1) := by decide +kernel
theorem dX0_notePlace_11 : decode cX0_notePlace 11 = .ok (.aload_n 0, 1) := by decide +kernel
theorem dX0_notePlace_12 : decode cX0_notePlace 12 = .ok (.getfield 36, 3) := by decide +kernel
theorem dX0_notePlace_15 : decode cX0_notePlace 15 = .ok (.iload_n 3, 1) := by decide +kernel
theorem dX0_notePlace_16 : decode cX0_notePlace 16 = .ok (.iaload, 1) := by decide +kernel
theorem dX0_notePlace_17 : decode cX0_notePlace 17 = .ok (.aload_n 0, 1) := by decide +kernel
theorem dX0_notePlace_18 : decode cX0_notePlace 18 = .ok (.getfield 36, 3) := by decide +kernel
theorem dX0_notePlace_21 : decode cX0_notePlace 21 = .ok (.iload_n 1, 1) := by decide +kernel
theorem dX0_notePlace_22 : decode cX0_notePlace 22 = .ok (.iaload, 1) := by decide +kernel
theorem dX0_notePlace_23 : decode cX0_notePlace 23 = .ok (.if_icmp .le 7, 3) := by decide +kernel
theorem dX0_notePlace_26 : decode cX0_notePlace 26 = .ok (.iconst 1, 1) := by decide +kernel
theorem dX0_notePlace_27 : decode cX0_notePlace 27 = .ok (.goto 4, 3) := by decide +kernel
theorem dX0_notePlace_30 : decode cX0_notePlace 30 = .ok (.iconst 0, 1) := by decide +kernel
theorem dX0_notePlace_31 : decode cX0_notePlace 31 = .ok (.invokestatic 53, 3) := by decide +kernel
theorem dX0_notePlace_34 : decode cX0_notePlace 34 = .ok (.iadd, 1) := by decide +kernel
theorem dX0_notePlace_35 : decode cX0_notePlace 35 = .ok (.istore_n 2, 1) := by decide +kernel
theorem dX0_notePlace_36 : decode cX0_notePlace 36 = .ok (.iinc 3 1, 3) := by decide +kernel
theorem dX0_notePlace_39 : decode cX0_notePlace 39 = .ok (.goto (-35), 3) := by decide +kernel
theorem dX0_notePlace_42 : decode cX0_notePlace 42 = .ok (.aload_n 0, 1) := by decide +kernel
theorem dX0_notePlace_43 : decode cX0_notePlace 43 = .ok (.aload_n 0, 1) := by decide +kernel
theorem dX0_notePlace_44 : decode cX0_notePlace 44 = .ok (.getfield 110, 3) := by decide +kernel
theorem dX0_notePlace_47 : decode cX0_notePlace 47 = .ok (.iload_n 2, 1) := by decide +kernel
theorem dX0_notePlace_48 : decode cX0_notePlace 48 = .ok (.invokestatic 129, 3) := by decide +kernel
theorem dX0_notePlace_51 : decode cX0_notePlace 51 = .ok (.putfield 110, 3) := by decide +kernel
theorem dX0_notePlace_54 : decode cX0_notePlace 54 = .ok (.aload_n 0, 1) := by decide +kernel
theorem dX0_notePlace_55 : decode cX0_notePlace 55 = .ok (.aload_n 0, 1) := by decide +kernel
theorem dX0_notePlace_56 : decode cX0_notePlace 56 = .ok (.getfield 113, 3) := by decide +kernel
theorem dX0_notePlace_59 : decode cX0_notePlace 59 = .ok (.iload_n 2, 1) := by decide +kernel
theorem dX0_notePlace_60 : decode cX0_notePlace 60 = .ok (.invokestatic 134, 3) := by decide +kernel
theorem dX0_notePlace_63 : decode cX0_notePlace 63 = .ok (.putfield 113, 3) := by decide +kernel
theorem dX0_notePlace_66 : decode cX0_notePlace 66 = .ok (.return_, 1) := by decide +kernel
theorem dX1_init_0 : decode cX1_init 0 = .ok (.aload_n 0, 1) := by decide +kernel
theorem dX1_init_1 : decode cX1_init 1 = .ok (.invokespecial 1, 3) := by decide +kernel
theorem dX1_init_4 : decode cX1_init 4 = .ok (.aload_n 0, 1) := by decide +kernel
theorem dX1_init_5 : decode cX1_init 5 = .ok (.bipush 12, 2) := by decide +kernel
theorem dX1_init_7 : decode cX1_init 7 = .ok (.anewarray 9, 3) := by decide +kernel
theorem dX1_init_10 : decode cX1_init 10 = .ok (.putfield 11, 3) := by decide +kernel
theorem dX1_init_13 : decode cX1_init 13 = .ok (.iconst 0, 1) := by decide +kernel
theorem dX1_init_14 : decode cX1_init 14 = .ok (.istore_n 1, 1) := by decide +kernel
theorem dX1_init_15 : decode cX1_init 15 = .ok (.iload_n 1, 1) := by decide +kernel
theorem dX1_init_16 : decode cX1_init 16 = .ok (.bipush 12, 2) := by decide +kernel
theorem dX1_init_18 : decode cX1_init 18 = .ok (.if_icmp .ge 22, 3) := by decide +kernel
theorem dX1_init_21 : decode cX1_init 21 = .ok (.aload_n 0, 1) := by decide +kernel
theorem dX1_init_22 : decode cX1_init 22 = .ok (.getfield 11, 3) := by decide +kernel
theorem dX1_init_25 : decode cX1_init 25 = .ok (.iload_n 1, 1) := by decide +kernel
theorem dX1_init_26 : decode cX1_init 26 = .ok (.new 9, 3) := by decide +kernel
theorem dX1_init_29 : decode cX1_init 29 = .ok (.dup, 1) := by decide +kernel
theorem dX1_init_30 : decode cX1_init 30 = .ok (.invokespecial 15, 3) := by decide +kernel
theorem dX1_init_33 : decode cX1_init 33 = .ok (.aastore, 1) := by decide +kernel
theorem dX1_init_34 : decode cX1_init 34 = .ok (.iinc 1 1, 3) := by decide +kernel
theorem dX1_init_37 : decode cX1_init 37 = .ok (.goto (-22), 3) := by decide +kernel
theorem dX1_init_40 : decode cX1_init 40 = .ok (.return_, 1) := by decide +kernel
theorem dX1_find_0 : decode cX1_find 0 = .ok (.iload_n 1, 1) := by decide +kernel
theorem dX1_find_1 : decode cX1_find 1 = .ok (.iconst 0, 1) := by decide +kernel
theorem dX1_find_2 : decode cX1_find 2 = .ok (.aload_n 0, 1) := by decide +kernel
theorem dX1_find_3 : decode cX1_find 3 = .ok (.getfield 16, 3) := by decide +kernel
theorem dX1_find_6 : decode cX1_find 6 = .ok (.iconst 1, 1) := by decide +kernel
theorem dX1_find_7 : decode cX1_find 7 = .ok (.isub, 1) := by decide +kernel
theorem dX1_find_8 : decode cX1_find 8 = .ok (.invokestatic 20, 3) := by decide +kernel
theorem dX1_find_11 : decode cX1_find 11 = .ok (.ifCond .eq 12, 3) := by decide +kernel
theorem dX1_find_14 : decode cX1_find 14 = .ok (.aload_n 0, 1) := by decide +kernel
theorem dX1_find_15 : decode cX1_find 15 = .ok (.getfield 11, 3) := by decide +kernel
theorem dX1_find_18 : decode cX1_find 18 = .ok (.iload_n 1, 1) := by decide +kernel
theorem dX1_find_19 : decode cX1_find 19 = .ok (.aaload, 1) := by decide +kernel
theorem dX1_find_20 : decode cX1_find 20 = .ok (.goto 4, 3) := by decide +kernel
theorem dX1_find_23 : decode cX1_find 23 = .ok (.aconst_null, 1) := by decide +kernel
theorem dX1_find_24 : decode cX1_find 24 = .ok (.areturn, 1) := by decide +kernel
theorem dX1_liesOn_0 : decode cX1_liesOn 0 = .ok (.aload_n 0, 1) := by decide +kernel
theorem dX1_liesOn_1 : decode cX1_liesOn 1 = .ok (.getfield 11, 3) := by decide +kernel
theorem dX1_liesOn_4 : decode cX1_liesOn 4 = .ok (.iload_n 1, 1) := by decide +kernel
theorem dX1_liesOn_5 : decode cX1_liesOn 5 = .ok (.aaload, 1) := by decide +kernel
theorem dX1_liesOn_6 : decode cX1_liesOn 6 = .ok (.astore_n 3, 1) := by decide +kernel
theorem dX1_liesOn_7 : decode cX1_liesOn 7 = .ok (.aload_n 0, 1) := by decide +kernel
theorem dX1_liesOn_8 : decode cX1_liesOn 8 = .ok (.getfield 11, 3) := by decide +kernel
theorem dX1_liesOn_11 : decode cX1_liesOn 11 = .ok (.iload_n 2, 1) := by decide +kernel
theorem dX1_liesOn_12 : decode cX1_liesOn 12 = .ok (.aaload, 1) := by decide +kernel
theorem dX1_liesOn_13 : decode cX1_liesOn 13 = .ok (.astore 4, 2) := by decide +kernel
theorem dX1_liesOn_15 : decode cX1_liesOn 15 = .ok (.aload_n 3, 1) := by decide +kernel
theorem dX1_liesOn_16 : decode cX1_liesOn 16 = .ok (.getfield 26, 3) := by decide +kernel
theorem dX1_liesOn_19 : decode cX1_liesOn 19 = .ok (.ifCond .ne 24, 3) := by decide +kernel
theorem dX1_liesOn_22 : decode cX1_liesOn 22 = .ok (.aload 4, 2) := by decide +kernel
theorem dX1_liesOn_24 : decode cX1_liesOn 24 = .ok (.getfield 26, 3) := by decide +kernel
theorem dX1_liesOn_27 : decode cX1_liesOn 27 = .ok (.ifCond .ne 16, 3) := by decide +kernel
theorem dX1_liesOn_30 : decode cX1_liesOn 30 = .ok (.aload_n 3, 1) := by decide +kernel
theorem dX1_liesOn_31 : decode cX1_liesOn 31 = .ok (.aload 4, 2) := by decide +kernel
theorem dX1_liesOn_33 : decode cX1_liesOn 33 = .ok (.invokevirtual 30, 3) := by decide +kernel
theorem dX1_liesOn_36 : decode cX1_liesOn 36 = .ok (.ifCond .eq 7, 3) := by decide +kernel
theorem dX1_liesOn_39 : decode cX1_liesOn 39 = .ok (.iconst 1, 1) := by decide +kernel
theorem dX1_liesOn_40 : decode cX1_liesOn 40 = .ok (.goto 4, 3) := by decide +kernel
theorem dX1_liesOn_43 : decode cX1_liesOn 43 = .ok (.iconst 0, 1) := by decide +kernel
theorem dX1_liesOn_44 : decode cX1_liesOn 44 = .ok (.ireturn, 1) := by decide +kernel
theorem dX1_lyingOn_0 : decode cX1_lyingOn 0 = .ok (.iconst 0, 1) := by decide +kernel
theorem dX1_lyingOn_1 : decode cX1_lyingOn 1 = .ok (.istore_n 2, 1) := by decide +kernel
theorem dX1_lyingOn_2 : decode cX1_lyingOn 2 = .ok (.iload_n 1, 1) := by decide +kernel
theorem dX1_lyingOn_3 : decode cX1_lyingOn 3 = .ok (.iconst 1, 1) := by decide +kernel
theorem dX1_lyingOn_4 : decode cX1_lyingOn 4 = .ok (.iadd, 1) := by decide +kernel
theorem dX1_lyingOn_5 : decode cX1_lyingOn 5 = .ok (.istore_n 3, 1) := by decide +kernel
theorem dX1_lyingOn_6 : decode cX1_lyingOn 6 = .ok (.iload_n 3, 1) := by decide +kernel
theorem dX1_lyingOn_7 : decode cX1_lyingOn 7 = .ok (.aload_n 0, 1) := by decide +kernel
theorem dX1_lyingOn_8 : decode cX1_lyingOn 8 = .ok (.getfield 16, 3) := by decide +kernel
theorem dX1_lyingOn_11 : decode cX1_lyingOn 11 = .ok (.if_icmp .ge 24, 3) := by decide +kernel
theorem dX1_lyingOn_14 : decode cX1_lyingOn 14 = .ok (.aload_n 0, 1) := by decide +kernel
theorem dX1_lyingOn_15 : decode cX1_lyingOn 15 = .ok (.iload_n 3, 1) := by decide +kernel
theorem dX1_lyingOn_16 : decode cX1_lyingOn 16 = .ok (.iload_n 1, 1) := by decide +kernel
theorem dX1_lyingOn_17 : decode cX1_lyingOn 17 = .ok (.invokevirtual 34, 3) := by decide +kernel
theorem dX1_lyingOn_20 : decode cX1_lyingOn 20 = .ok (.ifCond .eq 9, 3) := by decide +kernel
theorem dX1_lyingOn_23 : decode cX1_lyingOn 23 = .ok (.iload_n 2, 1) := by decide +kernel
theorem dX1_lyingOn_24 : decode cX1_lyingOn 24 = .ok (.iconst 1, 1) := by decide +kernel
theorem dX1_lyingOn_25 : decode cX1_lyingOn 25 = .ok (.iload_n 3, 1) := by decide +kernel
theorem dX1_lyingOn_26 : decode cX1_lyingOn 26 = .ok (.ishl, 1) := by decide +kernel
theorem dX1_lyingOn_27 : decode cX1_lyingOn 27 = .ok (.ior, 1) := by decide +kernel
theorem dX1_lyingOn_28 : decode cX1_lyingOn 28 = .ok (.istore_n 2, 1) := by decide +kernel
theorem dX1_lyingOn_29 : decode cX1_lyingOn 29 = .ok (.iinc 3 1, 3) := by decide +kernel
theorem dX1_lyingOn_32 : decode cX1_lyingOn 32 = .ok (.goto (-26), 3) := by decide +kernel
theorem dX1_lyingOn_35 : decode cX1_lyingOn 35 = .ok (.iload_n 2, 1) := by decide +kernel
theorem dX1_lyingOn_36 : decode cX1_lyingOn 36 = .ok (.ireturn, 1) := by decide +kernel
theorem dX1_lyingUnder_0 : decode cX1_lyingUnder 0 = .ok (.iconst 0, 1) := by decide +kernel
theorem dX1_lyingUnder_1 : decode cX1_lyingUnder 1 = .ok (.istore_n 2, 1) := by decide +kernel
theorem dX1_lyingUnder_2 : decode cX1_lyingUnder 2 = .ok (.iconst 0, 1) := by decide +kernel
theorem dX1_lyingUnder_3 : decode cX1_lyingUnder 3 = .ok (.istore_n 3, 1) := by decide +kernel
theorem dX1_lyingUnder_4 : decode cX1_lyingUnder 4 = .ok (.iload_n 3, 1) := by decide +kernel
theorem dX1_lyingUnder_5 : decode cX1_lyingUnder 5 = .ok (.iload_n 1, 1) := by decide +kernel
theorem dX1_lyingUnder_6 : decode cX1_lyingUnder 6 = .ok (.if_icmp .ge 24, 3) := by decide +kernel
theorem dX1_lyingUnder_9 : decode cX1_lyingUnder 9 = .ok (.aload_n 0, 1) := by decide +kernel
theorem dX1_lyingUnder_10 : decode cX1_lyingUnder 10 = .ok (.iload_n 1, 1) := by decide +kernel
theorem dX1_lyingUnder_11 : decode cX1_lyingUnder 11 = .ok (.iload_n 3, 1) := by decide +kernel
theorem dX1_lyingUnder_12 : decode cX1_lyingUnder 12 = .ok (.invokevirtual 34, 3) := by decide +kernel
theorem dX1_lyingUnder_15 : decode cX1_lyingUnder 15 = .ok (.ifCond .eq 9, 3) := by decide +kernel
theorem dX1_lyingUnder_18 : decode cX1_lyingUnder 18 = .ok (.iload_n 2, 1) := by decide +kernel
theorem dX1_lyingUnder_19 : decode cX1_lyingUnder 19 = .ok (.iconst 1, 1) := by decide +kernel
theorem dX1_lyingUnder_20 : decode cX1_lyingUnder 20 = .ok (.iload_n 3, 1) := by decide +kernel
theorem dX1_lyingUnder_21 : decode cX1_lyingUnder 21 = .ok (.ishl, 1) := by decide +kernel
theorem dX1_lyingUnder_22 : decode cX1_lyingUnder 22 = .ok (.ior, 1) := by decide +kernel
theorem dX1_lyingUnder_23 : decode cX1_lyingUnder 23 = .ok (.istore_n 2, 1) := by decide +kernel
theorem dX1_lyingUnder_24 : decode cX1_lyingUnder 24 = .ok (.iinc 3 1, 3) := by decide +kernel
theorem dX1_lyingUnder_27 : decode cX1_lyingUnder 27 = .ok (.goto (-23), 3) := by decide +kernel
theorem dX1_lyingUnder_30 : decode cX1_lyingUnder 30 = .ok (.iload_n 2, 1) := by decide +kernel
theorem dX1_lyingUnder_31 : decode cX1_lyingUnder 31 = .ok (.ireturn, 1) := by decide +kernel
theorem dX1_ofSide_0 : decode cX1_ofSide 0 = .ok (.iconst 0, 1) := by decide +kernel
theorem dX1_ofSide_1 : decode cX1_ofSide 1 = .ok (.istore_n 2, 1) := by decide +kernel
theorem dX1_ofSide_2 : decode cX1_ofSide 2 = .ok (.iconst 0, 1) := by decide +kernel
theorem dX1_ofSide_3 : decode cX1_ofSide 3 = .ok (.istore_n 3, 1) := by decide +kernel
theorem dX1_ofSide_4 : decode cX1_ofSide 4 = .ok (.iload_n 3, 1) := by decide +kernel
theorem dX1_ofSide_5 : decode cX1_ofSide 5 = .ok (.aload_n 0, 1) := by decide +kernel
theorem dX1_ofSide_6 : decode cX1_ofSide 6 = .ok (.getfield 16, 3) := by decide +kernel
theorem dX1_ofSide_9 : decode cX1_ofSide 9 = .ok (.if_icmp .ge 28, 3) := by decide +kernel
theorem dX1_ofSide_12 : decode cX1_ofSide 12 = .ok (.aload_n 0, 1) := by decide +kernel
theorem dX1_ofSide_13 : decode cX1_ofSide 13 = .ok (.getfield 11, 3) := by decide +kernel
theorem dX1_ofSide_16 : decode cX1_ofSide 16 = .ok (.iload_n 3, 1) := by decide +kernel
theorem dX1_ofSide_17 : decode cX1_ofSide 17 = .ok (.aaload, 1) := by decide +kernel
theorem dX1_ofSide_18 : decode cX1_ofSide 18 = .ok (.getfield 38, 3) := by decide +kernel
theorem dX1_ofSide_21 : decode cX1_ofSide 21 = .ok (.iload_n 1, 1) := by decide +kernel
theorem dX1_ofSide_22 : decode cX1_ofSide 22 = .ok (.if_icmp .ne 9, 3) := by decide +kernel
theorem dX1_ofSide_25 : decode cX1_ofSide 25 = .ok (.iload_n 2, 1) := by decide +kernel
theorem dX1_ofSide_26 : decode cX1_ofSide 26 = .ok (.iconst 1, 1) := by decide +kernel
theorem dX1_ofSide_27 : decode cX1_ofSide 27 = .ok (.iload_n 3, 1) := by decide +kernel
theorem dX1_ofSide_28 : decode cX1_ofSide 28 = .ok (.ishl, 1) := by decide +kernel
theorem dX1_ofSide_29 : decode cX1_ofSide 29 = .ok (.ior, 1) := by decide +kernel
theorem dX1_ofSide_30 : decode cX1_ofSide 30 = .ok (.istore_n 2, 1) := by decide +kernel
theorem dX1_ofSide_31 : decode cX1_ofSide 31 = .ok (.iinc 3 1, 3) := by decide +kernel
theorem dX1_ofSide_34 : decode cX1_ofSide 34 = .ok (.goto (-30), 3) := by decide +kernel
theorem dX1_ofSide_37 : decode cX1_ofSide 37 = .ok (.iload_n 2, 1) := by decide +kernel
theorem dX1_ofSide_38 : decode cX1_ofSide 38 = .ok (.ireturn, 1) := by decide +kernel
theorem dX1_ringers_0 : decode cX1_ringers 0 = .ok (.iconst 0, 1) := by decide +kernel
theorem dX1_ringers_1 : decode cX1_ringers 1 = .ok (.istore_n 1, 1) := by decide +kernel
theorem dX1_ringers_2 : decode cX1_ringers 2 = .ok (.iconst 0, 1) := by decide +kernel
theorem dX1_ringers_3 : decode cX1_ringers 3 = .ok (.istore_n 2, 1) := by decide +kernel
theorem dX1_ringers_4 : decode cX1_ringers 4 = .ok (.iload_n 2, 1) := by decide +kernel
theorem dX1_ringers_5 : decode cX1_ringers 5 = .ok (.aload_n 0, 1) := by decide +kernel
theorem dX1_ringers_6 : decode cX1_ringers 6 = .ok (.getfield 16, 3) := by decide +kernel
theorem dX1_ringers_9 : decode cX1_ringers 9 = .ok (.if_icmp .ge 27, 3) := by decide +kernel
theorem dX1_ringers_12 : decode cX1_ringers 12 = .ok (.aload_n 0, 1) := by decide +kernel
theorem dX1_ringers_13 : decode cX1_ringers 13 = .ok (.getfield 11, 3) := by decide +kernel
theorem dX1_ringers_16 : decode cX1_ringers 16 = .ok (.iload_n 2, 1) := by decide +kernel
theorem dX1_ringers_17 : decode cX1_ringers 17 = .ok (.aaload, 1) := by decide +kernel
theorem dX1_ringers_18 : decode cX1_ringers 18 = .ok (.invokevirtual 41, 3) := by decide +kernel
theorem dX1_ringers_21 : decode cX1_ringers 21 = .ok (.ifCond .eq 9, 3) := by decide +kernel
theorem dX1_ringers_24 : decode cX1_ringers 24 = .ok (.iload_n 1, 1) := by decide +kernel
theorem dX1_ringers_25 : decode cX1_ringers 25 = .ok (.iconst 1, 1) := by decide +kernel
theorem dX1_ringers_26 : decode cX1_ringers 26 = .ok (.iload_n 2, 1) := by decide +kernel
theorem dX1_ringers_27 : decode cX1_ringers 27 = .ok (.ishl, 1) := by decide +kernel
theorem dX1_ringers_28 : decode cX1_ringers 28 = .ok (.ior, 1) := by decide +kernel
theorem dX1_ringers_29 : decode cX1_ringers 29 = .ok (.istore_n 1, 1) := by decide +kernel
theorem dX1_ringers_30 : decode cX1_ringers 30 = .ok (.iinc 2 1, 3) := by decide +kernel
theorem dX1_ringers_33 : decode cX1_ringers 33 = .ok (.goto (-29), 3) := by decide +kernel
theorem dX1_ringers_36 : decode cX1_ringers 36 = .ok (.iload_n 1, 1) := by decide +kernel
theorem dX1_ringers_37 : decode cX1_ringers 37 = .ok (.ireturn, 1) := by decide +kernel
theorem dX1_countOff_0 : decode cX1_countOff 0 = .ok (.iconst 0, 1) := by decide +kernel
theorem dX1_countOff_1 : decode cX1_countOff 1 = .ok (.istore_n 1, 1) := by decide +kernel
theorem dX1_countOff_2 : decode cX1_countOff 2 = .ok (.iconst 0, 1) := by decide +kernel
theorem dX1_countOff_3 : decode cX1_countOff 3 = .ok (.istore_n 2, 1) := by decide +kernel
theorem dX1_countOff_4 : decode cX1_countOff 4 = .ok (.iload_n 2, 1) := by decide +kernel
theorem dX1_countOff_5 : decode cX1_countOff 5 = .ok (.aload_n 0, 1) := by decide +kernel
theorem dX1_countOff_6 : decode cX1_countOff 6 = .ok (.getfield 16, 3) := by decide +kernel
theorem dX1_countOff_9 : decode cX1_countOff 9 = .ok (.if_icmp .ge 24, 3) := by decide +kernel
theorem dX1_countOff_12 : decode cX1_countOff 12 = .ok (.iload_n 1, 1) := by decide +kernel
theorem dX1_countOff_13 : decode cX1_countOff 13 = .ok (.aload_n 0, 1) := by decide +kernel
theorem dX1_countOff_14 : decode cX1_countOff 14 = .ok (.getfield 11, 3) := by decide +kernel
theorem dX1_countOff_17 : decode cX1_countOff 17 = .ok (.iload_n 2, 1) := by decide +kernel
theorem dX1_countOff_18 : decode cX1_countOff 18 = .ok (.aaload, 1) := by decide +kernel
theorem dX1_countOff_19 : decode cX1_countOff 19 = .ok (.getfield 26, 3) := by decide +kernel
theorem dX1_countOff_22 : decode cX1_countOff 22 = .ok (.invokestatic 45, 3) := by decide +kernel
theorem dX1_countOff_25 : decode cX1_countOff 25 = .ok (.iadd, 1) := by decide +kernel
theorem dX1_countOff_26 : decode cX1_countOff 26 = .ok (.istore_n 1, 1) := by decide +kernel
theorem dX1_countOff_27 : decode cX1_countOff 27 = .ok (.iinc 2 1, 3) := by decide +kernel
theorem dX1_countOff_30 : decode cX1_countOff 30 = .ok (.goto (-26), 3) := by decide +kernel
theorem dX1_countOff_33 : decode cX1_countOff 33 = .ok (.iload_n 1, 1) := by decide +kernel
theorem dX1_countOff_34 : decode cX1_countOff 34 = .ok (.ireturn, 1) := by decide +kernel
theorem dX1_countRingers_0 : decode cX1_countRingers 0 = .ok (.iconst 0, 1) := by decide +kernel
theorem dX1_countRingers_1 : decode cX1_countRingers 1 = .ok (.istore_n 2, 1) := by decide +kernel
theorem dX1_countRingers_2 : decode cX1_countRingers 2 = .ok (.iconst 0, 1) := by decide +kernel
theorem dX1_countRingers_3 : decode cX1_countRingers 3 = .ok (.istore_n 3, 1) := by decide +kernel
theorem dX1_countRingers_4 : decode cX1_countRingers 4 = .ok (.iload_n 3, 1) := by decide +kernel
theorem dX1_countRingers_5 : decode cX1_countRingers 5 = .ok (.aload_n 0, 1) := by decide +kernel
theorem dX1_countRingers_6 : decode cX1_countRingers 6 = .ok (.getfield 16, 3) := by decide +kernel
theorem dX1_countRingers_9 : decode cX1_countRingers 9 = .ok (.if_icmp .ge 53, 3) := by decide +kernel
theorem dX1_countRingers_12 : decode cX1_countRingers 12 = .ok (.aload_n 0, 1) := by decide +kernel
theorem dX1_countRingers_13 : decode cX1_countRingers 13 = .ok (.getfield 11, 3) := by decide +kernel
theorem dX1_countRingers_16 : decode cX1_countRingers 16 = .ok (.iload_n 3, 1) := by decide +kernel
theorem dX1_countRingers_17 : decode cX1_countRingers 17 = .ok (.aaload, 1) := by decide +kernel
theorem dX1_countRingers_18 : decode cX1_countRingers 18 = .ok (.astore 4, 2) := by decide +kernel
theorem dX1_countRingers_20 : decode cX1_countRingers 20 = .ok (.iload_n 2, 1) := by decide +kernel
theorem dX1_countRingers_21 : decode cX1_countRingers 21 = .ok (.aload 4, 2) := by decide +kernel
theorem dX1_countRingers_23 : decode cX1_countRingers 23 = .ok (.getfield 38, 3) := by decide +kernel
theorem dX1_countRingers_26 : decode cX1_countRingers 26 = .ok (.iload_n 1, 1) := by decide +kernel
theorem dX1_countRingers_27 : decode cX1_countRingers 27 = .ok (.if_icmp .ne 23, 3) := by decide +kernel
theorem dX1_countRingers_30 : decode cX1_countRingers 30 = .ok (.aload 4, 2) := by decide +kernel
theorem dX1_countRingers_32 : decode cX1_countRingers 32 = .ok (.getfield 26, 3) := by decide +kernel
theorem dX1_countRingers_35 : decode cX1_countRingers 35 = .ok (.ifCond .ne 15, 3) := by decide +kernel
theorem dX1_countRingers_38 : decode cX1_countRingers 38 = .ok (.aload 4, 2) := by decide +kernel
theorem dX1_countRingers_40 : decode cX1_countRingers 40 = .ok (.invokevirtual 41, 3) := by decide +kernel
theorem dX1_countRingers_43 : decode cX1_countRingers 43 = .ok (.ifCond .eq 7, 3) := by decide +kernel
theorem dX1_countRingers_46 : decode cX1_countRingers 46 = .ok (.iconst 1, 1) := by decide +kernel
theorem dX1_countRingers_47 : decode cX1_countRingers 47 = .ok (.goto 4, 3) := by decide +kernel
theorem dX1_countRingers_50 : decode cX1_countRingers 50 = .ok (.iconst 0, 1) := by decide +kernel
theorem dX1_countRingers_51 : decode cX1_countRingers 51 = .ok (.invokestatic 45, 3) := by decide +kernel
theorem dX1_countRingers_54 : decode cX1_countRingers 54 = .ok (.iadd, 1) := by decide +kernel
theorem dX1_countRingers_55 : decode cX1_countRingers 55 = .ok (.istore_n 2, 1) := by decide +kernel
theorem dX1_countRingers_56 : decode cX1_countRingers 56 = .ok (.iinc 3 1, 3) := by decide +kernel
theorem dX1_countRingers_59 : decode cX1_countRingers 59 = .ok (.goto (-55), 3) := by decide +kernel
theorem dX1_countRingers_62 : decode cX1_countRingers 62 = .ok (.iload_n 2, 1) := by decide +kernel
theorem dX1_countRingers_63 : decode cX1_countRingers 63 = .ok (.ireturn, 1) := by decide +kernel
theorem dX1_countMeasured_0 : decode cX1_countMeasured 0 = .ok (.iconst 0, 1) := by decide +kernel
theorem dX1_countMeasured_1 : decode cX1_countMeasured 1 = .ok (.istore_n 1, 1) := by decide +kernel
theorem dX1_countMeasured_2 : decode cX1_countMeasured 2 = .ok (.iconst 0, 1) := by decide +kernel
theorem dX1_countMeasured_3 : decode cX1_countMeasured 3 = .ok (.istore_n 2, 1) := by decide +kernel
theorem dX1_countMeasured_4 : decode cX1_countMeasured 4 = .ok (.iload_n 2, 1) := by decide +kernel
theorem dX1_countMeasured_5 : decode cX1_countMeasured 5 = .ok (.aload_n 0, 1) := by decide +kernel
theorem dX1_countMeasured_6 : decode cX1_countMeasured 6 = .ok (.getfield 16, 3) := by decide +kernel
theorem dX1_countMeasured_9 : decode cX1_countMeasured 9 = .ok (.if_icmp .ge 32, 3) := by decide +kernel
theorem dX1_countMeasured_12 : decode cX1_countMeasured 12 = .ok (.iload_n 1, 1) := by decide +kernel
theorem dX1_countMeasured_13 : decode cX1_countMeasured 13 = .ok (.aload_n 0, 1) := by decide +kernel
theorem dX1_countMeasured_14 : decode cX1_countMeasured 14 = .ok (.getfield 11, 3) := by decide +kernel
theorem dX1_countMeasured_17 : decode cX1_countMeasured 17 = .ok (.iload_n 2, 1) := by decide +kernel
theorem dX1_countMeasured_18 : decode cX1_countMeasured 18 = .ok (.aaload, 1) := by decide +kernel
theorem dX1_countMeasured_19 : decode cX1_countMeasured 19 = .ok (.invokevirtual 49, 3) := by decide +kernel
theorem dX1_countMeasured_22 : decode cX1_countMeasured 22 = .ok (.ifCond .le 7, 3) := by decide +kernel
theorem dX1_countMeasured_25 : decode cX1_countMeasured 25 = .ok (.iconst 1, 1) := by decide +kernel
theorem dX1_countMeasured_26 : decode cX1_countMeasured 26 = .ok (.goto 4, 3) := by decide +kernel
theorem dX1_countMeasured_29 : decode cX1_countMeasured 29 = .ok (.iconst 0, 1) := by decide +kernel
theorem dX1_countMeasured_30 : decode cX1_countMeasured 30 = .ok (.invokestatic 45, 3) := by decide +kernel
theorem dX1_countMeasured_33 : decode cX1_countMeasured 33 = .ok (.iadd, 1) := by decide +kernel
theorem dX1_countMeasured_34 : decode cX1_countMeasured 34 = .ok (.istore_n 1, 1) := by decide +kernel
theorem dX1_countMeasured_35 : decode cX1_countMeasured 35 = .ok (.iinc 2 1, 3) := by decide +kernel
theorem dX1_countMeasured_38 : decode cX1_countMeasured 38 = .ok (.goto (-34), 3) := by decide +kernel
theorem dX1_countMeasured_41 : decode cX1_countMeasured 41 = .ok (.iload_n 1, 1) := by decide +kernel
theorem dX1_countMeasured_42 : decode cX1_countMeasured 42 = .ok (.ireturn, 1) := by decide +kernel
theorem dX1_countDisputed_0 : decode cX1_countDisputed 0 = .ok (.iconst 0, 1) := by decide +kernel
theorem dX1_countDisputed_1 : decode cX1_countDisputed 1 = .ok (.istore_n 1, 1) := by decide +kernel
theorem dX1_countDisputed_2 : decode cX1_countDisputed 2 = .ok (.iconst 0, 1) := by decide +kernel
theorem dX1_countDisputed_3 : decode cX1_countDisputed 3 = .ok (.istore_n 2, 1) := by decide +kernel
theorem dX1_countDisputed_4 : decode cX1_countDisputed 4 = .ok (.iload_n 2, 1) := by decide +kernel
theorem dX1_countDisputed_5 : decode cX1_countDisputed 5 = .ok (.aload_n 0, 1) := by decide +kernel
theorem dX1_countDisputed_6 : decode cX1_countDisputed 6 = .ok (.getfield 16, 3) := by decide +kernel
theorem dX1_countDisputed_9 : decode cX1_countDisputed 9 = .ok (.if_icmp .ge 24, 3) := by decide +kernel
theorem dX1_countDisputed_12 : decode cX1_countDisputed 12 = .ok (.iload_n 1, 1) := by decide +kernel
theorem dX1_countDisputed_13 : decode cX1_countDisputed 13 = .ok (.aload_n 0, 1) := by decide +kernel
theorem dX1_countDisputed_14 : decode cX1_countDisputed 14 = .ok (.getfield 11, 3) := by decide +kernel
theorem dX1_countDisputed_17 : decode cX1_countDisputed 17 = .ok (.iload_n 2, 1) := by decide +kernel
theorem dX1_countDisputed_18 : decode cX1_countDisputed 18 = .ok (.aaload, 1) := by decide +kernel
theorem dX1_countDisputed_19 : decode cX1_countDisputed 19 = .ok (.invokevirtual 53, 3) := by decide +kernel
theorem dX1_countDisputed_22 : decode cX1_countDisputed 22 = .ok (.invokestatic 45, 3) := by decide +kernel
theorem dX1_countDisputed_25 : decode cX1_countDisputed 25 = .ok (.iadd, 1) := by decide +kernel
theorem dX1_countDisputed_26 : decode cX1_countDisputed 26 = .ok (.istore_n 1, 1) := by decide +kernel
theorem dX1_countDisputed_27 : decode cX1_countDisputed 27 = .ok (.iinc 2 1, 3) := by decide +kernel
theorem dX1_countDisputed_30 : decode cX1_countDisputed 30 = .ok (.goto (-26), 3) := by decide +kernel
theorem dX1_countDisputed_33 : decode cX1_countDisputed 33 = .ok (.iload_n 1, 1) := by decide +kernel
theorem dX1_countDisputed_34 : decode cX1_countDisputed 34 = .ok (.ireturn, 1) := by decide +kernel
theorem dX2_init_0 : decode cX2_init 0 = .ok (.aload_n 0, 1) := by decide +kernel
theorem dX2_init_1 : decode cX2_init 1 = .ok (.invokespecial 3, 3) := by decide +kernel
theorem dX2_init_4 : decode cX2_init 4 = .ok (.aload_n 0, 1) := by decide +kernel
theorem dX2_init_5 : decode cX2_init 5 = .ok (.iconst 3, 1) := by decide +kernel
theorem dX2_init_6 : decode cX2_init 6 = .ok (.newarray .int, 2) := by decide +kernel
theorem dX2_init_8 : decode cX2_init 8 = .ok (.putfield 9, 3) := by decide +kernel
theorem dX2_init_11 : decode cX2_init 11 = .ok (.aload_n 0, 1) := by decide +kernel
theorem dX2_init_12 : decode cX2_init 12 = .ok (.iconst 3, 1) := by decide +kernel
theorem dX2_init_13 : decode cX2_init 13 = .ok (.newarray .int, 2) := by decide +kernel
theorem dX2_init_15 : decode cX2_init 15 = .ok (.putfield 15, 3) := by decide +kernel
theorem dX2_init_18 : decode cX2_init 18 = .ok (.return_, 1) := by decide +kernel
theorem dX2_lay_0 : decode cX2_lay 0 = .ok (.aload_n 0, 1) := by decide +kernel
theorem dX2_lay_1 : decode cX2_lay 1 = .ok (.iload_n 1, 1) := by decide +kernel
theorem dX2_lay_2 : decode cX2_lay 2 = .ok (.putfield 18, 3) := by decide +kernel
theorem dX2_lay_5 : decode cX2_lay 5 = .ok (.aload_n 0, 1) := by decide +kernel
theorem dX2_lay_6 : decode cX2_lay 6 = .ok (.iload 4, 2) := by decide +kernel
theorem dX2_lay_8 : decode cX2_lay 8 = .ok (.putfield 22, 3) := by decide +kernel
theorem dX2_lay_11 : decode cX2_lay 11 = .ok (.aload_n 0, 1) := by decide +kernel
theorem dX2_lay_12 : decode cX2_lay 12 = .ok (.iload 5, 2) := by decide +kernel
theorem dX2_lay_14 : decode cX2_lay 14 = .ok (.putfield 25, 3) := by decide +kernel
theorem dX2_lay_17 : decode cX2_lay 17 = .ok (.aload_n 0, 1) := by decide +kernel
theorem dX2_lay_18 : decode cX2_lay 18 = .ok (.iload 6, 2) := by decide +kernel
theorem dX2_lay_20 : decode cX2_lay 20 = .ok (.putfield 28, 3) := by decide +kernel
theorem dX2_lay_23 : decode cX2_lay 23 = .ok (.aload_n 0, 1) := by decide +kernel
theorem dX2_lay_24 : decode cX2_lay 24 = .ok (.iload 7, 2) := by decide +kernel
theorem dX2_lay_26 : decode cX2_lay 26 = .ok (.putfield 31, 3) := by decide +kernel
theorem dX2_lay_29 : decode cX2_lay 29 = .ok (.aload_n 0, 1) := by decide +kernel
theorem dX2_lay_30 : decode cX2_lay 30 = .ok (.iconst 0, 1) := by decide +kernel
theorem dX2_lay_31 : decode cX2_lay 31 = .ok (.putfield 35, 3) := by decide +kernel
theorem dX2_lay_34 : decode cX2_lay 34 = .ok (.aload_n 0, 1) := by decide +kernel
theorem dX2_lay_35 : decode cX2_lay 35 = .ok (.iload_n 2, 1) := by decide +kernel
theorem dX2_lay_36 : decode cX2_lay 36 = .ok (.iload_n 3, 1) := by decide +kernel
theorem dX2_lay_37 : decode cX2_lay 37 = .ok (.invokevirtual 38, 3) := by decide +kernel
theorem dX2_lay_40 : decode cX2_lay 40 = .ok (.return_, 1) := by decide +kernel
theorem dX2_moveTo_0 : decode cX2_moveTo 0 = .ok (.aload_n 0, 1) := by decide +kernel
theorem dX2_moveTo_1 : decode cX2_moveTo 1 = .ok (.iload_n 1, 1) := by decide +kernel
theorem dX2_moveTo_2 : decode cX2_moveTo 2 = .ok (.putfield 42, 3) := by decide +kernel
theorem dX2_moveTo_5 : decode cX2_moveTo 5 = .ok (.aload_n 0, 1) := by decide +kernel
theorem dX2_moveTo_6 : decode cX2_moveTo 6 = .ok (.iload_n 2, 1) := by decide +kernel
theorem dX2_moveTo_7 : decode cX2_moveTo 7 = .ok (.putfield 45, 3) := by decide +kernel
theorem dX2_moveTo_10 : decode cX2_moveTo 10 = .ok (.iconst 0, 1) := by decide +kernel
theorem dX2_moveTo_11 : decode cX2_moveTo 11 = .ok (.istore_n 3, 1) := by decide +kernel
theorem dX2_moveTo_12 : decode cX2_moveTo 12 = .ok (.iload_n 3, 1) := by decide +kernel
theorem dX2_moveTo_13 : decode cX2_moveTo 13 = .ok (.iconst 3, 1) := by decide +kernel
theorem dX2_moveTo_14 : decode cX2_moveTo 14 = .ok (.if_icmp .ge 23, 3) := by decide +kernel
theorem dX2_moveTo_17 : decode cX2_moveTo 17 = .ok (.aload_n 0, 1) := by decide +kernel
theorem dX2_moveTo_18 : decode cX2_moveTo 18 = .ok (.getfield 9, 3) := by decide +kernel
theorem dX2_moveTo_21 : decode cX2_moveTo 21 = .ok (.iload_n 3, 1) := by decide +kernel
theorem dX2_moveTo_22 : decode cX2_moveTo 22 = .ok (.iconst (-1), 1) := by decide +kernel
theorem dX2_moveTo_23 : decode cX2_moveTo 23 = .ok (.iastore, 1) := by decide +kernel
theorem dX2_moveTo_24 : decode cX2_moveTo 24 = .ok (.aload_n 0, 1) := by decide +kernel
theorem dX2_moveTo_25 : decode cX2_moveTo 25 = .ok (.getfield 15, 3) := by decide +kernel
theorem dX2_moveTo_28 : decode cX2_moveTo 28 = .ok (.iload_n 3, 1) := by decide +kernel
theorem dX2_moveTo_29 : decode cX2_moveTo 29 = .ok (.iconst (-1), 1) := by decide +kernel
theorem dX2_moveTo_30 : decode cX2_moveTo 30 = .ok (.iastore, 1) := by decide +kernel
theorem dX2_moveTo_31 : decode cX2_moveTo 31 = .ok (.iinc 3 1, 3) := by decide +kernel
theorem dX2_moveTo_34 : decode cX2_moveTo 34 = .ok (.goto (-22), 3) := by decide +kernel
theorem dX2_moveTo_37 : decode cX2_moveTo 37 = .ok (.return_, 1) := by decide +kernel
theorem dX2_square_0 : decode cX2_square 0 = .ok (.aload_n 0, 1) := by decide +kernel
theorem dX2_square_1 : decode cX2_square 1 = .ok (.getfield 42, 3) := by decide +kernel
theorem dX2_square_4 : decode cX2_square 4 = .ok (.aload_n 0, 1) := by decide +kernel
theorem dX2_square_5 : decode cX2_square 5 = .ok (.getfield 42, 3) := by decide +kernel
theorem dX2_square_8 : decode cX2_square 8 = .ok (.imul, 1) := by decide +kernel
theorem dX2_square_9 : decode cX2_square 9 = .ok (.aload_n 0, 1) := by decide +kernel
theorem dX2_square_10 : decode cX2_square 10 = .ok (.getfield 45, 3) := by decide +kernel
theorem dX2_square_13 : decode cX2_square 13 = .ok (.aload_n 0, 1) := by decide +kernel
theorem dX2_square_14 : decode cX2_square 14 = .ok (.getfield 45, 3) := by decide +kernel
theorem dX2_square_17 : decode cX2_square 17 = .ok (.imul, 1) := by decide +kernel
theorem dX2_square_18 : decode cX2_square 18 = .ok (.iadd, 1) := by decide +kernel
theorem dX2_square_19 : decode cX2_square 19 = .ok (.ireturn, 1) := by decide +kernel
theorem dX2_isRinger_0 : decode cX2_isRinger 0 = .ok (.aload_n 0, 1) := by decide +kernel
theorem dX2_isRinger_1 : decode cX2_isRinger 1 = .ok (.invokevirtual 48, 3) := by decide +kernel
theorem dX2_isRinger_4 : decode cX2_isRinger 4 = .ok (.aload_n 0, 1) := by decide +kernel
theorem dX2_isRinger_5 : decode cX2_isRinger 5 = .ok (.getfield 25, 3) := by decide +kernel
theorem dX2_isRinger_8 : decode cX2_isRinger 8 = .ok (.aload_n 0, 1) := by decide +kernel
theorem dX2_isRinger_9 : decode cX2_isRinger 9 = .ok (.getfield 25, 3) := by decide +kernel
theorem dX2_isRinger_12 : decode cX2_isRinger 12 = .ok (.imul, 1) := by decide +kernel
theorem dX2_isRinger_13 : decode cX2_isRinger 13 = .ok (.if_icmp .ge 7, 3) := by decide +kernel
theorem dX2_isRinger_16 : decode cX2_isRinger 16 = .ok (.iconst 1, 1) := by decide +kernel
theorem dX2_isRinger_17 : decode cX2_isRinger 17 = .ok (.goto 4, 3) := by decide +kernel
theorem dX2_isRinger_20 : decode cX2_isRinger 20 = .ok (.iconst 0, 1) := by decide +kernel
theorem dX2_isRinger_21 : decode cX2_isRinger 21 = .ok (.ireturn, 1) := by decide +kernel
theorem dX2_touchesPin_0 : decode cX2_touchesPin 0 = .ok (.aload_n 0, 1) := by decide +kernel
theorem dX2_touchesPin_1 : decode cX2_touchesPin 1 = .ok (.invokevirtual 48, 3) := by decide +kernel
theorem dX2_touchesPin_4 : decode cX2_touchesPin 4 = .ok (.aload_n 0, 1) := by decide +kernel
theorem dX2_touchesPin_5 : decode cX2_touchesPin 5 = .ok (.getfield 22, 3) := by decide +kernel
theorem dX2_touchesPin_8 : decode cX2_touchesPin 8 = .ok (.aload_n 0, 1) := by decide +kernel
theorem dX2_touchesPin_9 : decode cX2_touchesPin 9 = .ok (.getfield 22, 3) := by decide +kernel
theorem dX2_touchesPin_12 : decode cX2_touchesPin 12 = .ok (.imul, 1) := by decide +kernel
theorem dX2_touchesPin_13 : decode cX2_touchesPin 13 = .ok (.if_icmp .gt 7, 3) := by decide +kernel
theorem dX2_touchesPin_16 : decode cX2_touchesPin 16 = .ok (.iconst 1, 1) := by decide +kernel
theorem dX2_touchesPin_17 : decode cX2_touchesPin 17 = .ok (.goto 4, 3) := by decide +kernel
theorem dX2_touchesPin_20 : decode cX2_touchesPin 20 = .ok (.iconst 0, 1) := by decide +kernel
theorem dX2_touchesPin_21 : decode cX2_touchesPin 21 = .ok (.ireturn, 1) := by decide +kernel
theorem dX2_cutNearness_0 : decode cX2_cutNearness 0 = .ok (.iconst 0, 1) := by decide +kernel
theorem dX2_cutNearness_1 : decode cX2_cutNearness 1 = .ok (.aload_n 0, 1) := by decide +kernel
theorem dX2_cutNearness_2 : decode cX2_cutNearness 2 = .ok (.invokevirtual 48, 3) := by decide +kernel
theorem dX2_cutNearness_5 : decode cX2_cutNearness 5 = .ok (.invokestatic 52, 3) := by decide +kernel
theorem dX2_cutNearness_8 : decode cX2_cutNearness 8 = .ok (.aload_n 0, 1) := by decide +kernel
theorem dX2_cutNearness_9 : decode cX2_cutNearness 9 = .ok (.getfield 22, 3) := by decide +kernel
theorem dX2_cutNearness_12 : decode cX2_cutNearness 12 = .ok (.isub, 1) := by decide +kernel
theorem dX2_cutNearness_13 : decode cX2_cutNearness 13 = .ok (.invokestatic 56, 3) := by decide +kernel
theorem dX2_cutNearness_16 : decode cX2_cutNearness 16 = .ok (.aload_n 0, 1) := by decide +kernel
theorem dX2_cutNearness_17 : decode cX2_cutNearness 17 = .ok (.getfield 28, 3) := by decide +kernel
theorem dX2_cutNearness_20 : decode cX2_cutNearness 20 = .ok (.iadd, 1) := by decide +kernel
theorem dX2_cutNearness_21 : decode cX2_cutNearness 21 = .ok (.ireturn, 1) := by decide +kernel
theorem dX2_overlaps_0 : decode cX2_overlaps 0 = .ok (.aload_n 0, 1) := by decide +kernel
theorem dX2_overlaps_1 : decode cX2_overlaps 1 = .ok (.getfield 42, 3) := by decide +kernel
theorem dX2_overlaps_4 : decode cX2_overlaps 4 = .ok (.aload_n 1, 1) := by decide +kernel
theorem dX2_overlaps_5 : decode cX2_overlaps 5 = .ok (.getfield 42, 3) := by decide +kernel
theorem dX2_overlaps_8 : decode cX2_overlaps 8 = .ok (.isub, 1) := by decide +kernel
theorem dX2_overlaps_9 : decode cX2_overlaps 9 = .ok (.istore_n 2, 1) := by decide +kernel
theorem dX2_overlaps_10 : decode cX2_overlaps 10 = .ok (.aload_n 0, 1) := by decide +kernel
theorem dX2_overlaps_11 : decode cX2_overlaps 11 = .ok (.getfield 45, 3) := by decide +kernel
theorem dX2_overlaps_14 : decode cX2_overlaps 14 = .ok (.aload_n 1, 1) := by decide +kernel
theorem dX2_overlaps_15 : decode cX2_overlaps 15 = .ok (.getfield 45, 3) := by decide +kernel
theorem dX2_overlaps_18 : decode cX2_overlaps 18 = .ok (.isub, 1) := by decide +kernel
theorem dX2_overlaps_19 : decode cX2_overlaps 19 = .ok (.istore_n 3, 1) := by decide +kernel
theorem dX2_overlaps_20 : decode cX2_overlaps 20 = .ok (.aload_n 0, 1) := by decide +kernel
theorem dX2_overlaps_21 : decode cX2_overlaps 21 = .ok (.getfield 22, 3) := by decide +kernel
theorem dX2_overlaps_24 : decode cX2_overlaps 24 = .ok (.aload_n 1, 1) := by decide +kernel
theorem dX2_overlaps_25 : decode cX2_overlaps 25 = .ok (.getfield 22, 3) := by decide +kernel
theorem dX2_overlaps_28 : decode cX2_overlaps 28 = .ok (.iadd, 1) := by decide +kernel
theorem dX2_overlaps_29 : decode cX2_overlaps 29 = .ok (.istore 4, 2) := by decide +kernel
theorem dX2_overlaps_31 : decode cX2_overlaps 31 = .ok (.iload_n 2, 1) := by decide +kernel
theorem dX2_overlaps_32 : decode cX2_overlaps 32 = .ok (.iload_n 2, 1) := by decide +kernel
theorem dX2_overlaps_33 : decode cX2_overlaps 33 = .ok (.imul, 1) := by decide +kernel
theorem dX2_overlaps_34 : decode cX2_overlaps 34 = .ok (.iload_n 3, 1) := by decide +kernel
theorem dX2_overlaps_35 : decode cX2_overlaps 35 = .ok (.iload_n 3, 1) := by decide +kernel
theorem dX2_overlaps_36 : decode cX2_overlaps 36 = .ok (.imul, 1) := by decide +kernel
theorem dX2_overlaps_37 : decode cX2_overlaps 37 = .ok (.iadd, 1) := by decide +kernel
theorem dX2_overlaps_38 : decode cX2_overlaps 38 = .ok (.iload 4, 2) := by decide +kernel
theorem dX2_overlaps_40 : decode cX2_overlaps 40 = .ok (.iload 4, 2) := by decide +kernel
theorem dX2_overlaps_42 : decode cX2_overlaps 42 = .ok (.imul, 1) := by decide +kernel
theorem dX2_overlaps_43 : decode cX2_overlaps 43 = .ok (.if_icmp .ge 7, 3) := by decide +kernel
theorem dX2_overlaps_46 : decode cX2_overlaps 46 = .ok (.iconst 1, 1) := by decide +kernel
theorem dX2_overlaps_47 : decode cX2_overlaps 47 = .ok (.goto 4, 3) := by decide +kernel
theorem dX2_overlaps_50 : decode cX2_overlaps 50 = .ok (.iconst 0, 1) := by decide +kernel
theorem dX2_overlaps_51 : decode cX2_overlaps 51 = .ok (.ireturn, 1) := by decide +kernel
theorem dX2_countSpans_0 : decode cX2_countSpans 0 = .ok (.iconst 0, 1) := by decide +kernel
theorem dX2_countSpans_1 : decode cX2_countSpans 1 = .ok (.istore_n 1, 1) := by decide +kernel
theorem dX2_countSpans_2 : decode cX2_countSpans 2 = .ok (.iconst 0, 1) := by decide +kernel
theorem dX2_countSpans_3 : decode cX2_countSpans 3 = .ok (.istore_n 2, 1) := by decide +kernel
theorem dX2_countSpans_4 : decode cX2_countSpans 4 = .ok (.iload_n 2, 1) := by decide +kernel
theorem dX2_countSpans_5 : decode cX2_countSpans 5 = .ok (.iconst 3, 1) := by decide +kernel
theorem dX2_countSpans_6 : decode cX2_countSpans 6 = .ok (.if_icmp .ge 22, 3) := by decide +kernel
theorem dX2_countSpans_9 : decode cX2_countSpans 9 = .ok (.aload_n 0, 1) := by decide +kernel
theorem dX2_countSpans_10 : decode cX2_countSpans 10 = .ok (.getfield 9, 3) := by decide +kernel
theorem dX2_countSpans_13 : decode cX2_countSpans 13 = .ok (.iload_n 2, 1) := by decide +kernel
theorem dX2_countSpans_14 : decode cX2_countSpans 14 = .ok (.iaload, 1) := by decide +kernel
theorem dX2_countSpans_15 : decode cX2_countSpans 15 = .ok (.iconst (-1), 1) := by decide +kernel
theorem dX2_countSpans_16 : decode cX2_countSpans 16 = .ok (.if_icmp .eq 6, 3) := by decide +kernel
theorem dX2_countSpans_19 : decode cX2_countSpans 19 = .ok (.iinc 1 1, 3) := by decide +kernel
theorem dX2_countSpans_22 : decode cX2_countSpans 22 = .ok (.iinc 2 1, 3) := by decide +kernel
theorem dX2_countSpans_25 : decode cX2_countSpans 25 = .ok (.goto (-21), 3) := by decide +kernel
theorem dX2_countSpans_28 : decode cX2_countSpans 28 = .ok (.iload_n 1, 1) := by decide +kernel
theorem dX2_countSpans_29 : decode cX2_countSpans 29 = .ok (.ireturn, 1) := by decide +kernel
theorem dX2_knownLow_0 : decode cX2_knownLow 0 = .ok (.iconst 0, 1) := by decide +kernel
theorem dX2_knownLow_1 : decode cX2_knownLow 1 = .ok (.istore_n 1, 1) := by decide +kernel
theorem dX2_knownLow_2 : decode cX2_knownLow 2 = .ok (.iconst 0, 1) := by decide +kernel
theorem dX2_knownLow_3 : decode cX2_knownLow 3 = .ok (.istore_n 2, 1) := by decide +kernel
theorem dX2_knownLow_4 : decode cX2_knownLow 4 = .ok (.iload_n 2, 1) := by decide +kernel
theorem dX2_knownLow_5 : decode cX2_knownLow 5 = .ok (.iconst 3, 1) := by decide +kernel
theorem dX2_knownLow_6 : decode cX2_knownLow 6 = .ok (.if_icmp .ge 20, 3) := by decide +kernel
theorem dX2_knownLow_9 : decode cX2_knownLow 9 = .ok (.iload_n 1, 1) := by decide +kernel
theorem dX2_knownLow_10 : decode cX2_knownLow 10 = .ok (.aload_n 0, 1) := by decide +kernel
theorem dX2_knownLow_11 : decode cX2_knownLow 11 = .ok (.getfield 9, 3) := by decide +kernel
theorem dX2_knownLow_14 : decode cX2_knownLow 14 = .ok (.iload_n 2, 1) := by decide +kernel
theorem dX2_knownLow_15 : decode cX2_knownLow 15 = .ok (.iaload, 1) := by decide +kernel
theorem dX2_knownLow_16 : decode cX2_knownLow 16 = .ok (.invokestatic 56, 3) := by decide +kernel
theorem dX2_knownLow_19 : decode cX2_knownLow 19 = .ok (.istore_n 1, 1) := by decide +kernel
theorem dX2_knownLow_20 : decode cX2_knownLow 20 = .ok (.iinc 2 1, 3) := by decide +kernel
theorem dX2_knownLow_23 : decode cX2_knownLow 23 = .ok (.goto (-19), 3) := by decide +kernel
theorem dX2_knownLow_26 : decode cX2_knownLow 26 = .ok (.iload_n 1, 1) := by decide +kernel
theorem dX2_knownLow_27 : decode cX2_knownLow 27 = .ok (.ireturn, 1) := by decide +kernel
theorem dX2_knownHigh_0 : decode cX2_knownHigh 0 = .ok (.sipush 9999, 3) := by decide +kernel
theorem dX2_knownHigh_3 : decode cX2_knownHigh 3 = .ok (.istore_n 1, 1) := by decide +kernel
theorem dX2_knownHigh_4 : decode cX2_knownHigh 4 = .ok (.iconst 0, 1) := by decide +kernel
theorem dX2_knownHigh_5 : decode cX2_knownHigh 5 = .ok (.istore_n 2, 1) := by decide +kernel
theorem dX2_knownHigh_6 : decode cX2_knownHigh 6 = .ok (.iload_n 2, 1) := by decide +kernel
theorem dX2_knownHigh_7 : decode cX2_knownHigh 7 = .ok (.iconst 3, 1) := by decide +kernel
theorem dX2_knownHigh_8 : decode cX2_knownHigh 8 = .ok (.if_icmp .ge 30, 3) := by decide +kernel
theorem dX2_knownHigh_11 : decode cX2_knownHigh 11 = .ok (.aload_n 0, 1) := by decide +kernel
theorem dX2_knownHigh_12 : decode cX2_knownHigh 12 = .ok (.getfield 9, 3) := by decide +kernel
theorem dX2_knownHigh_15 : decode cX2_knownHigh 15 = .ok (.iload_n 2, 1) := by decide +kernel
theorem dX2_knownHigh_16 : decode cX2_knownHigh 16 = .ok (.iaload, 1) := by decide +kernel
theorem dX2_knownHigh_17 : decode cX2_knownHigh 17 = .ok (.iconst (-1), 1) := by decide +kernel
theorem dX2_knownHigh_18 : decode cX2_knownHigh 18 = .ok (.if_icmp .eq 14, 3) := by decide +kernel
theorem dX2_knownHigh_21 : decode cX2_knownHigh 21 = .ok (.iload_n 1, 1) := by decide +kernel
theorem dX2_knownHigh_22 : decode cX2_knownHigh 22 = .ok (.aload_n 0, 1) := by decide +kernel
theorem dX2_knownHigh_23 : decode cX2_knownHigh 23 = .ok (.getfield 15, 3) := by decide +kernel
theorem dX2_knownHigh_26 : decode cX2_knownHigh 26 = .ok (.iload_n 2, 1) := by decide +kernel
theorem dX2_knownHigh_27 : decode cX2_knownHigh 27 = .ok (.iaload, 1) := by decide +kernel
theorem dX2_knownHigh_28 : decode cX2_knownHigh 28 = .ok (.invokestatic 62, 3) := by decide +kernel
theorem dX2_knownHigh_31 : decode cX2_knownHigh 31 = .ok (.istore_n 1, 1) := by decide +kernel
theorem dX2_knownHigh_32 : decode cX2_knownHigh 32 = .ok (.iinc 2 1, 3) := by decide +kernel
theorem dX2_knownHigh_35 : decode cX2_knownHigh 35 = .ok (.goto (-29), 3) := by decide +kernel
theorem dX2_knownHigh_38 : decode cX2_knownHigh 38 = .ok (.iload_n 1, 1) := by decide +kernel
theorem dX2_knownHigh_39 : decode cX2_knownHigh 39 = .ok (.ireturn, 1) := by decide +kernel
theorem dX2_isDisputed_0 : decode cX2_isDisputed 0 = .ok (.aload_n 0, 1) := by decide +kernel
theorem dX2_isDisputed_1 : decode cX2_isDisputed 1 = .ok (.invokevirtual 65, 3) := by decide +kernel
theorem dX2_isDisputed_4 : decode cX2_isDisputed 4 = .ok (.aload_n 0, 1) := by decide +kernel
theorem dX2_isDisputed_5 : decode cX2_isDisputed 5 = .ok (.invokevirtual 68, 3) := by decide +kernel
theorem dX2_isDisputed_8 : decode cX2_isDisputed 8 = .ok (.if_icmp .le 7, 3) := by decide +kernel
theorem dX2_isDisputed_11 : decode cX2_isDisputed 11 = .ok (.iconst 1, 1) := by decide +kernel
theorem dX2_isDisputed_12 : decode cX2_isDisputed 12 = .ok (.goto 4, 3) := by decide +kernel
theorem dX2_isDisputed_15 : decode cX2_isDisputed 15 = .ok (.iconst 0, 1) := by decide +kernel
theorem dX2_isDisputed_16 : decode cX2_isDisputed 16 = .ok (.ireturn, 1) := by decide +kernel
theorem dX2_readsSpan_0 : decode cX2_readsSpan 0 = .ok (.iload_n 1, 1) := by decide +kernel
theorem dX2_readsSpan_1 : decode cX2_readsSpan 1 = .ok (.ifCond .eq 14, 3) := by decide +kernel
theorem dX2_readsSpan_4 : decode cX2_readsSpan 4 = .ok (.aload_n 0, 1) := by decide +kernel
theorem dX2_readsSpan_5 : decode cX2_readsSpan 5 = .ok (.invokevirtual 71, 3) := by decide +kernel
theorem dX2_readsSpan_8 : decode cX2_readsSpan 8 = .ok (.ifCond .le 7, 3) := by decide +kernel
theorem dX2_readsSpan_11 : decode cX2_readsSpan 11 = .ok (.iconst 1, 1) := by decide +kernel
theorem dX2_readsSpan_12 : decode cX2_readsSpan 12 = .ok (.goto 4, 3) := by decide +kernel
theorem dX2_readsSpan_15 : decode cX2_readsSpan 15 = .ok (.iconst 0, 1) := by decide +kernel
theorem dX2_readsSpan_16 : decode cX2_readsSpan 16 = .ok (.ireturn, 1) := by decide +kernel
theorem dX2_rootOf_0 : decode cX2_rootOf 0 = .ok (.aload_n 0, 1) := by decide +kernel
theorem dX2_rootOf_1 : decode cX2_rootOf 1 = .ok (.iload_n 1, 1) := by decide +kernel
theorem dX2_rootOf_2 : decode cX2_rootOf 2 = .ok (.invokevirtual 74, 3) := by decide +kernel
theorem dX2_rootOf_5 : decode cX2_rootOf 5 = .ok (.ifCond .ne 10, 3) := by decide +kernel
theorem dX2_rootOf_8 : decode cX2_rootOf 8 = .ok (.aload_n 0, 1) := by decide +kernel
theorem dX2_rootOf_9 : decode cX2_rootOf 9 = .ok (.invokevirtual 78, 3) := by decide +kernel
theorem dX2_rootOf_12 : decode cX2_rootOf 12 = .ok (.ifCond .eq 7, 3) := by decide +kernel
theorem dX2_rootOf_15 : decode cX2_rootOf 15 = .ok (.lconst 0, 1) := by decide +kernel
theorem dX2_rootOf_16 : decode cX2_rootOf 16 = .ok (.goto 12, 3) := by decide +kernel
theorem dX2_rootOf_19 : decode cX2_rootOf 19 = .ok (.ldc2_w 82, 3) := by decide +kernel
theorem dX2_rootOf_22 : decode cX2_rootOf 22 = .ok (.aload_n 0, 1) := by decide +kernel
theorem dX2_rootOf_23 : decode cX2_rootOf 23 = .ok (.invokevirtual 48, 3) := by decide +kernel
theorem dX2_rootOf_26 : decode cX2_rootOf 26 = .ok (.i2l, 1) := by decide +kernel
theorem dX2_rootOf_27 : decode cX2_rootOf 27 = .ok (.lmul, 1) := by decide +kernel
theorem dX2_rootOf_28 : decode cX2_rootOf 28 = .ok (.lreturn, 1) := by decide +kernel
theorem dX2_tenths_0 : decode cX2_tenths 0 = .ok (.aload_n 0, 1) := by decide +kernel
theorem dX2_tenths_1 : decode cX2_tenths 1 = .ok (.iload_n 1, 1) := by decide +kernel
theorem dX2_tenths_2 : decode cX2_tenths 2 = .ok (.invokevirtual 74, 3) := by decide +kernel
theorem dX2_tenths_5 : decode cX2_tenths 5 = .ok (.ifCond .eq 22, 3) := by decide +kernel
theorem dX2_tenths_8 : decode cX2_tenths 8 = .ok (.iload_n 1, 1) := by decide +kernel
theorem dX2_tenths_9 : decode cX2_tenths 9 = .ok (.iconst 1, 1) := by decide +kernel
theorem dX2_tenths_10 : decode cX2_tenths 10 = .ok (.if_icmp .ne 11, 3) := by decide +kernel
theorem dX2_tenths_13 : decode cX2_tenths 13 = .ok (.aload_n 0, 1) := by decide +kernel
theorem dX2_tenths_14 : decode cX2_tenths 14 = .ok (.invokevirtual 65, 3) := by decide +kernel
theorem dX2_tenths_17 : decode cX2_tenths 17 = .ok (.i2l, 1) := by decide +kernel
theorem dX2_tenths_18 : decode cX2_tenths 18 = .ok (.goto 8, 3) := by decide +kernel
theorem dX2_tenths_21 : decode cX2_tenths 21 = .ok (.aload_n 0, 1) := by decide +kernel
theorem dX2_tenths_22 : decode cX2_tenths 22 = .ok (.invokevirtual 68, 3) := by decide +kernel
theorem dX2_tenths_25 : decode cX2_tenths 25 = .ok (.i2l, 1) := by decide +kernel
theorem dX2_tenths_26 : decode cX2_tenths 26 = .ok (.lreturn, 1) := by decide +kernel
theorem dX2_tenths_27 : decode cX2_tenths 27 = .ok (.aload_n 0, 1) := by decide +kernel
theorem dX2_tenths_28 : decode cX2_tenths 28 = .ok (.invokevirtual 78, 3) := by decide +kernel
theorem dX2_tenths_31 : decode cX2_tenths 31 = .ok (.ifCond .eq 15, 3) := by decide +kernel
theorem dX2_tenths_34 : decode cX2_tenths 34 = .ok (.ldc2_w 84, 3) := by decide +kernel
theorem dX2_tenths_37 : decode cX2_tenths 37 = .ok (.aload_n 0, 1) := by decide +kernel
theorem dX2_tenths_38 : decode cX2_tenths 38 = .ok (.getfield 28, 3) := by decide +kernel
theorem dX2_tenths_41 : decode cX2_tenths 41 = .ok (.i2l, 1) := by decide +kernel
theorem dX2_tenths_42 : decode cX2_tenths 42 = .ok (.lmul, 1) := by decide +kernel
theorem dX2_tenths_43 : decode cX2_tenths 43 = .ok (.goto 17, 3) := by decide +kernel
theorem dX2_tenths_46 : decode cX2_tenths 46 = .ok (.ldc2_w 84, 3) := by decide +kernel
theorem dX2_tenths_49 : decode cX2_tenths 49 = .ok (.aload_n 0, 1) := by decide +kernel
theorem dX2_tenths_50 : decode cX2_tenths 50 = .ok (.getfield 28, 3) := by decide +kernel
theorem dX2_tenths_53 : decode cX2_tenths 53 = .ok (.aload_n 0, 1) := by decide +kernel
theorem dX2_tenths_54 : decode cX2_tenths 54 = .ok (.getfield 22, 3) := by decide +kernel
theorem dX2_tenths_57 : decode cX2_tenths 57 = .ok (.isub, 1) := by decide +kernel
theorem dX2_tenths_58 : decode cX2_tenths 58 = .ok (.i2l, 1) := by decide +kernel
theorem dX2_tenths_59 : decode cX2_tenths 59 = .ok (.lmul, 1) := by decide +kernel
theorem dX2_tenths_60 : decode cX2_tenths 60 = .ok (.lreturn, 1) := by decide +kernel
theorem dX3_init_0 : decode cX3_init 0 = .ok (.aload_n 0, 1) := by decide +kernel
theorem dX3_init_1 : decode cX3_init 1 = .ok (.invokespecial 5, 3) := by decide +kernel
theorem dX3_init_4 : decode cX3_init 4 = .ok (.aload_n 0, 1) := by decide +kernel
theorem dX3_init_5 : decode cX3_init 5 = .ok (.bipush 30, 2) := by decide +kernel
theorem dX3_init_7 : decode cX3_init 7 = .ok (.newarray .int, 2) := by decide +kernel
theorem dX3_init_9 : decode cX3_init 9 = .ok (.putfield 11, 3) := by decide +kernel
theorem dX3_init_12 : decode cX3_init 12 = .ok (.getstatic 15, 3) := by decide +kernel
theorem dX3_init_15 : decode cX3_init 15 = .ok (.iconst 0, 1) := by decide +kernel
theorem dX3_init_16 : decode cX3_init 16 = .ok (.aload_n 0, 1) := by decide +kernel
theorem dX3_init_17 : decode cX3_init 17 = .ok (.getfield 11, 3) := by decide +kernel
theorem dX3_init_20 : decode cX3_init 20 = .ok (.iconst 0, 1) := by decide +kernel
theorem dX3_init_21 : decode cX3_init 21 = .ok (.bipush 15, 2) := by decide +kernel
theorem dX3_init_23 : decode cX3_init 23 = .ok (.invokestatic 18, 3) := by decide +kernel
theorem dX3_init_26 : decode cX3_init 26 = .ok (.getstatic 15, 3) := by decide +kernel
theorem dX3_init_29 : decode cX3_init 29 = .ok (.iconst 0, 1) := by decide +kernel
theorem dX3_init_30 : decode cX3_init 30 = .ok (.aload_n 0, 1) := by decide +kernel
theorem dX3_init_31 : decode cX3_init 31 = .ok (.getfield 11, 3) := by decide +kernel
theorem dX3_init_34 : decode cX3_init 34 = .ok (.bipush 15, 2) := by decide +kernel
theorem dX3_init_36 : decode cX3_init 36 = .ok (.bipush 15, 2) := by decide +kernel
theorem dX3_init_38 : decode cX3_init 38 = .ok (.invokestatic 18, 3) := by decide +kernel
theorem dX3_init_41 : decode cX3_init 41 = .ok (.aload_n 0, 1) := by decide +kernel
theorem dX3_init_42 : decode cX3_init 42 = .ok (.bipush 19, 2) := by decide +kernel
theorem dX3_init_44 : decode cX3_init 44 = .ok (.newarray .long, 2) := by decide +kernel
theorem dX3_init_46 : decode cX3_init 46 = .ok (.putfield 24, 3) := by decide +kernel
theorem dX3_init_49 : decode cX3_init 49 = .ok (.aload_n 0, 1) := by decide +kernel
theorem dX3_init_50 : decode cX3_init 50 = .ok (.bipush 19, 2) := by decide +kernel
theorem dX3_init_52 : decode cX3_init 52 = .ok (.newarray .long, 2) := by decide +kernel
theorem dX3_init_54 : decode cX3_init 54 = .ok (.putfield 28, 3) := by decide +kernel
theorem dX3_init_57 : decode cX3_init 57 = .ok (.aload_n 0, 1) := by decide +kernel
theorem dX3_init_58 : decode cX3_init 58 = .ok (.bipush 19, 2) := by decide +kernel
theorem dX3_init_60 : decode cX3_init 60 = .ok (.newarray .int, 2) := by decide +kernel
theorem dX3_init_62 : decode cX3_init 62 = .ok (.putfield 31, 3) := by decide +kernel
theorem dX3_init_65 : decode cX3_init 65 = .ok (.return_, 1) := by decide +kernel
theorem dX3_isLead_0 : decode cX3_isLead 0 = .ok (.iload_n 0, 1) := by decide +kernel
theorem dX3_isLead_1 : decode cX3_isLead 1 = .ok (.bipush (-9), 2) := by decide +kernel
theorem dX3_isLead_3 : decode cX3_isLead 3 = .ok (.bipush 9, 2) := by decide +kernel
theorem dX3_isLead_5 : decode cX3_isLead 5 = .ok (.invokestatic 34, 3) := by decide +kernel
theorem dX3_isLead_8 : decode cX3_isLead 8 = .ok (.ireturn, 1) := by decide +kernel
theorem dX3_firstWeight_0 : decode cX3_firstWeight 0 = .ok (.iload_n 0, 1) := by decide +kernel
theorem dX3_firstWeight_1 : decode cX3_firstWeight 1 = .ok (.iconst 3, 1) := by decide +kernel
theorem dX3_firstWeight_2 : decode cX3_firstWeight 2 = .ok (.imul, 1) := by decide +kernel
theorem dX3_firstWeight_3 : decode cX3_firstWeight 3 = .ok (.iload_n 1, 1) := by decide +kernel
theorem dX3_firstWeight_4 : decode cX3_firstWeight 4 = .ok (.iadd, 1) := by decide +kernel
theorem dX3_firstWeight_5 : decode cX3_firstWeight 5 = .ok (.iconst 5, 1) := by decide +kernel
theorem dX3_firstWeight_6 : decode cX3_firstWeight 6 = .ok (.imul, 1) := by decide +kernel
theorem dX3_firstWeight_7 : decode cX3_firstWeight 7 = .ok (.ireturn, 1) := by decide +kernel
theorem dX3_chance_0 : decode cX3_chance 0 = .ok (.iload_n 1, 1) := by decide +kernel
theorem dX3_chance_1 : decode cX3_chance 1 = .ok (.invokestatic 38, 3) := by decide +kernel
theorem dX3_chance_4 : decode cX3_chance 4 = .ok (.ifCond .eq 15, 3) := by decide +kernel
theorem dX3_chance_7 : decode cX3_chance 7 = .ok (.aload_n 0, 1) := by decide +kernel
theorem dX3_chance_8 : decode cX3_chance 8 = .ok (.getfield 24, 3) := by decide +kernel
theorem dX3_chance_11 : decode cX3_chance 11 = .ok (.iload_n 1, 1) := by decide +kernel
theorem dX3_chance_12 : decode cX3_chance 12 = .ok (.bipush 9, 2) := by decide +kernel
theorem dX3_chance_14 : decode cX3_chance 14 = .ok (.iadd, 1) := by decide +kernel
theorem dX3_chance_15 : decode cX3_chance 15 = .ok (.laload, 1) := by decide +kernel
theorem dX3_chance_16 : decode cX3_chance 16 = .ok (.goto 4, 3) := by decide +kernel
theorem dX3_chance_19 : decode cX3_chance 19 = .ok (.lconst 0, 1) := by decide +kernel
theorem dX3_chance_20 : decode cX3_chance 20 = .ok (.lreturn, 1) := by decide +kernel
theorem dX3_bestAct_0 : decode cX3_bestAct 0 = .ok (.iload_n 1, 1) := by decide +kernel
theorem dX3_bestAct_1 : decode cX3_bestAct 1 = .ok (.invokestatic 38, 3) := by decide +kernel
theorem dX3_bestAct_4 : decode cX3_bestAct 4 = .ok (.ifCond .eq 15, 3) := by decide +kernel
theorem dX3_bestAct_7 : decode cX3_bestAct 7 = .ok (.aload_n 0, 1) := by decide +kernel
theorem dX3_bestAct_8 : decode cX3_bestAct 8 = .ok (.getfield 31, 3) := by decide +kernel
theorem dX3_bestAct_11 : decode cX3_bestAct 11 = .ok (.iload_n 1, 1) := by decide +kernel
theorem dX3_bestAct_12 : decode cX3_bestAct 12 = .ok (.bipush 9, 2) := by decide +kernel
theorem dX3_bestAct_14 : decode cX3_bestAct 14 = .ok (.iadd, 1) := by decide +kernel
theorem dX3_bestAct_15 : decode cX3_bestAct 15 = .ok (.iaload, 1) := by decide +kernel
theorem dX3_bestAct_16 : decode cX3_bestAct 16 = .ok (.goto 4, 3) := by decide +kernel
theorem dX3_bestAct_19 : decode cX3_bestAct 19 = .ok (.iconst (-1), 1) := by decide +kernel
theorem dX3_bestAct_20 : decode cX3_bestAct 20 = .ok (.ireturn, 1) := by decide +kernel
theorem dX3_work_0 : decode cX3_work 0 = .ok (.aload_n 0, 1) := by decide +kernel
theorem dX3_work_1 : decode cX3_work 1 = .ok (.lconst 1, 1) := by decide +kernel
theorem dX3_work_2 : decode cX3_work 2 = .ok (.putfield 42, 3) := by decide +kernel
theorem dX3_work_5 : decode cX3_work 5 = .ok (.iconst 0, 1) := by decide +kernel
theorem dX3_work_6 : decode cX3_work 6 = .ok (.istore 4, 2) := by decide +kernel
theorem dX3_work_8 : decode cX3_work 8 = .ok (.iload 4, 2) := by decide +kernel
theorem dX3_work_10 : decode cX3_work 10 = .ok (.bipush 19, 2) := by decide +kernel
theorem dX3_work_12 : decode cX3_work 12 = .ok (.if_icmp .ge 30, 3) := by decide +kernel
theorem dX3_work_15 : decode cX3_work 15 = .ok (.aload_n 0, 1) := by decide +kernel
theorem dX3_work_16 : decode cX3_work 16 = .ok (.getfield 24, 3) := by decide +kernel
theorem dX3_work_19 : decode cX3_work 19 = .ok (.iload 4, 2) := by decide +kernel
theorem dX3_work_21 : decode cX3_work 21 = .ok (.iload 4, 2) := by decide +kernel
theorem dX3_work_23 : decode cX3_work 23 = .ok (.bipush 9, 2) := by decide +kernel
theorem dX3_work_25 : decode cX3_work 25 = .ok (.isub, 1) := by decide +kernel
theorem dX3_work_26 : decode cX3_work 26 = .ok (.iload_n 3, 1) := by decide +kernel
theorem dX3_work_27 : decode cX3_work 27 = .ok (.if_icmp .lt 7, 3) := by decide +kernel
theorem dX3_work_30 : decode cX3_work 30 = .ok (.lconst 1, 1) := by decide +kernel
theorem dX3_work_31 : decode cX3_work 31 = .ok (.goto 4, 3) := by decide +kernel
theorem dX3_work_34 : decode cX3_work 34 = .ok (.lconst 0, 1) := by decide +kernel
theorem dX3_work_35 : decode cX3_work 35 = .ok (.lastore, 1) := by decide +kernel
theorem dX3_work_36 : decode cX3_work 36 = .ok (.iinc 4 1, 3) := by decide +kernel
theorem dX3_work_39 : decode cX3_work 39 = .ok (.goto (-31), 3) := by decide +kernel
theorem dX3_work_42 : decode cX3_work 42 = .ok (.iconst 1, 1) := by decide +kernel
theorem dX3_work_43 : decode cX3_work 43 = .ok (.istore 4, 2) := by decide +kernel
theorem dX3_work_45 : decode cX3_work 45 = .ok (.iload 4, 2) := by decide +kernel
theorem dX3_work_47 : decode cX3_work 47 = .ok (.iload_n 1, 1) := by decide +kernel
theorem dX3_work_48 : decode cX3_work 48 = .ok (.if_icmp .gt 70, 3) := by decide +kernel
theorem dX3_work_51 : decode cX3_work 51 = .ok (.iload_n 2, 1) := by decide +kernel
theorem dX3_work_52 : decode cX3_work 52 = .ok (.iload_n 1, 1) := by decide +kernel
theorem dX3_work_53 : decode cX3_work 53 = .ok (.iadd, 1) := by decide +kernel
theorem dX3_work_54 : decode cX3_work 54 = .ok (.iload 4, 2) := by decide +kernel
theorem dX3_work_56 : decode cX3_work 56 = .ok (.isub, 1) := by decide +kernel
theorem dX3_work_57 : decode cX3_work 57 = .ok (.iconst 2, 1) := by decide +kernel
theorem dX3_work_58 : decode cX3_work 58 = .ok (.irem, 1) := by decide +kernel
theorem dX3_work_59 : decode cX3_work 59 = .ok (.istore 5, 2) := by decide +kernel
theorem dX3_work_61 : decode cX3_work 61 = .ok (.iconst 0, 1) := by decide +kernel
theorem dX3_work_62 : decode cX3_work 62 = .ok (.istore 6, 2) := by decide +kernel
theorem dX3_work_64 : decode cX3_work 64 = .ok (.iload 6, 2) := by decide +kernel
theorem dX3_work_66 : decode cX3_work 66 = .ok (.bipush 19, 2) := by decide +kernel
theorem dX3_work_68 : decode cX3_work 68 = .ok (.if_icmp .ge 17, 3) := by decide +kernel
theorem dX3_work_71 : decode cX3_work 71 = .ok (.aload_n 0, 1) := by decide +kernel
theorem dX3_work_72 : decode cX3_work 72 = .ok (.iload 6, 2) := by decide +kernel
theorem dX3_work_74 : decode cX3_work 74 = .ok (.iload 5, 2) := by decide +kernel
theorem dX3_work_76 : decode cX3_work 76 = .ok (.invokevirtual 46, 3) := by decide +kernel
theorem dX3_work_79 : decode cX3_work 79 = .ok (.iinc 6 1, 3) := by decide +kernel
theorem dX3_work_82 : decode cX3_work 82 = .ok (.goto (-18), 3) := by decide +kernel
theorem dX3_work_85 : decode cX3_work 85 = .ok (.aload_n 0, 1) := by decide +kernel
theorem dX3_work_86 : decode cX3_work 86 = .ok (.getfield 28, 3) := by decide +kernel
theorem dX3_work_89 : decode cX3_work 89 = .ok (.iconst 0, 1) := by decide +kernel
theorem dX3_work_90 : decode cX3_work 90 = .ok (.aload_n 0, 1) := by decide +kernel
theorem dX3_work_91 : decode cX3_work 91 = .ok (.getfield 24, 3) := by decide +kernel
theorem dX3_work_94 : decode cX3_work 94 = .ok (.iconst 0, 1) := by decide +kernel
theorem dX3_work_95 : decode cX3_work 95 = .ok (.bipush 19, 2) := by decide +kernel
theorem dX3_work_97 : decode cX3_work 97 = .ok (.invokestatic 18, 3) := by decide +kernel
theorem dX3_work_100 : decode cX3_work 100 = .ok (.aload_n 0, 1) := by decide +kernel
theorem dX3_work_101 : decode cX3_work 101 = .ok (.dup, 1) := by decide +kernel
theorem dX3_work_102 : decode cX3_work 102 = .ok (.getfield 42, 3) := by decide +kernel
theorem dX3_work_105 : decode cX3_work 105 = .ok (.ldc2_w 50, 3) := by decide +kernel
theorem dX3_work_108 : decode cX3_work 108 = .ok (.lmul, 1) := by decide +kernel
theorem dX3_work_109 : decode cX3_work 109 = .ok (.putfield 42, 3) := by decide +kernel
theorem dX3_work_112 : decode cX3_work 112 = .ok (.iinc 4 1, 3) := by decide +kernel
theorem dX3_work_115 : decode cX3_work 115 = .ok (.goto (-70), 3) := by decide +kernel
theorem dX3_work_118 : decode cX3_work 118 = .ok (.return_, 1) := by decide +kernel
theorem dX3_chooseAct_0 : decode cX3_chooseAct 0 = .ok (.aload_n 0, 1) := by decide +kernel
theorem dX3_chooseAct_1 : decode cX3_chooseAct 1 = .ok (.getfield 31, 3) := by decide +kernel
theorem dX3_chooseAct_4 : decode cX3_chooseAct 4 = .ok (.iload_n 1, 1) := by decide +kernel
theorem dX3_chooseAct_5 : decode cX3_chooseAct 5 = .ok (.iconst 0, 1) := by decide +kernel
theorem dX3_chooseAct_6 : decode cX3_chooseAct 6 = .ok (.iastore, 1) := by decide +kernel
theorem dX3_chooseAct_7 : decode cX3_chooseAct 7 = .ok (.aload_n 0, 1) := by decide +kernel
theorem dX3_chooseAct_8 : decode cX3_chooseAct 8 = .ok (.getfield 28, 3) := by decide +kernel
theorem dX3_chooseAct_11 : decode cX3_chooseAct 11 = .ok (.iload_n 1, 1) := by decide +kernel
theorem dX3_chooseAct_12 : decode cX3_chooseAct 12 = .ok (.aload_n 0, 1) := by decide +kernel
theorem dX3_chooseAct_13 : decode cX3_chooseAct 13 = .ok (.iload_n 1, 1) := by decide +kernel
theorem dX3_chooseAct_14 : decode cX3_chooseAct 14 = .ok (.iload_n 2, 1) := by decide +kernel
theorem dX3_chooseAct_15 : decode cX3_chooseAct 15 = .ok (.iconst 0, 1) := by decide +kernel
theorem dX3_chooseAct_16 : decode cX3_chooseAct 16 = .ok (.invokevirtual 52, 3) := by decide +kernel
theorem dX3_chooseAct_19 : decode cX3_chooseAct 19 = .ok (.lastore, 1) := by decide +kernel
theorem dX3_chooseAct_20 : decode cX3_chooseAct 20 = .ok (.iconst 1, 1) := by decide +kernel
theorem dX3_chooseAct_21 : decode cX3_chooseAct 21 = .ok (.istore_n 3, 1) := by decide +kernel
theorem dX3_chooseAct_22 : decode cX3_chooseAct 22 = .ok (.iload_n 3, 1) := by decide +kernel
theorem dX3_chooseAct_23 : decode cX3_chooseAct 23 = .ok (.iconst 3, 1) := by decide +kernel
theorem dX3_chooseAct_24 : decode cX3_chooseAct 24 = .ok (.if_icmp .ge 81, 3) := by decide +kernel
theorem dX3_chooseAct_27 : decode cX3_chooseAct 27 = .ok (.aload_n 0, 1) := by decide +kernel
theorem dX3_chooseAct_28 : decode cX3_chooseAct 28 = .ok (.iload_n 1, 1) := by decide +kernel
theorem dX3_chooseAct_29 : decode cX3_chooseAct 29 = .ok (.iload_n 2, 1) := by decide +kernel
theorem dX3_chooseAct_30 : decode cX3_chooseAct 30 = .ok (.iload_n 3, 1) := by decide +kernel
theorem dX3_chooseAct_31 : decode cX3_chooseAct 31 = .ok (.invokevirtual 52, 3) := by decide +kernel
theorem dX3_chooseAct_34 : decode cX3_chooseAct 34 = .ok (.lstore 4, 2) := by decide +kernel
theorem dX3_chooseAct_36 : decode cX3_chooseAct 36 = .ok (.iload_n 2, 1) := by decide +kernel
theorem dX3_chooseAct_37 : decode cX3_chooseAct 37 = .ok (.ifCond .ne 23, 3) := by decide +kernel
theorem dX3_chooseAct_40 : decode cX3_chooseAct 40 = .ok (.lload 4, 2) := by decide +kernel
theorem dX3_chooseAct_42 : decode cX3_chooseAct 42 = .ok (.aload_n 0, 1) := by decide +kernel
theorem dX3_chooseAct_43 : decode cX3_chooseAct 43 = .ok (.getfield 28, 3) := by decide +kernel
theorem dX3_chooseAct_46 : decode cX3_chooseAct 46 = .ok (.iload_n 1, 1) := by decide +kernel
theorem dX3_chooseAct_47 : decode cX3_chooseAct 47 = .ok (.laload, 1) := by decide +kernel
theorem dX3_chooseAct_48 : decode cX3_chooseAct 48 = .ok (.lcmp, 1) := by decide +kernel
theorem dX3_chooseAct_49 : decode cX3_chooseAct 49 = .ok (.ifCond .le 7, 3) := by decide +kernel
theorem dX3_chooseAct_52 : decode cX3_chooseAct 52 = .ok (.iconst 1, 1) := by decide +kernel
theorem dX3_chooseAct_53 : decode cX3_chooseAct 53 = .ok (.goto 24, 3) := by decide +kernel
theorem dX3_chooseAct_56 : decode cX3_chooseAct 56 = .ok (.iconst 0, 1) := by decide +kernel
theorem dX3_chooseAct_57 : decode cX3_chooseAct 57 = .ok (.goto 20, 3) := by decide +kernel
theorem dX3_chooseAct_60 : decode cX3_chooseAct 60 = .ok (.lload 4, 2) := by decide +kernel
theorem dX3_chooseAct_62 : decode cX3_chooseAct 62 = .ok (.aload_n 0, 1) := by decide +kernel
theorem dX3_chooseAct_63 : decode cX3_chooseAct 63 = .ok (.getfield 28, 3) := by decide +kernel
theorem dX3_chooseAct_66 : decode cX3_chooseAct 66 = .ok (.iload_n 1, 1) := by decide +kernel
theorem dX3_chooseAct_67 : decode cX3_chooseAct 67 = .ok (.laload, 1) := by decide +kernel
theorem dX3_chooseAct_68 : decode cX3_chooseAct 68 = .ok (.lcmp, 1) := by decide +kernel
theorem dX3_chooseAct_69 : decode cX3_chooseAct 69 = .ok (.ifCond .ge 7, 3) := by decide +kernel
theorem dX3_chooseAct_72 : decode cX3_chooseAct 72 = .ok (.iconst 1, 1) := by decide +kernel
theorem dX3_chooseAct_73 : decode cX3_chooseAct 73 = .ok (.goto 4, 3) := by decide +kernel
theorem dX3_chooseAct_76 : decode cX3_chooseAct 76 = .ok (.iconst 0, 1) := by decide +kernel
theorem dX3_chooseAct_77 : decode cX3_chooseAct 77 = .ok (.istore 6, 2) := by decide +kernel
theorem dX3_chooseAct_79 : decode cX3_chooseAct 79 = .ok (.iload 6, 2) := by decide +kernel
theorem dX3_chooseAct_81 : decode cX3_chooseAct 81 = .ok (.ifCond .eq 18, 3) := by decide +kernel
theorem dX3_chooseAct_84 : decode cX3_chooseAct 84 = .ok (.aload_n 0, 1) := by decide +kernel
theorem dX3_chooseAct_85 : decode cX3_chooseAct 85 = .ok (.getfield 31, 3) := by decide +kernel
theorem dX3_chooseAct_88 : decode cX3_chooseAct 88 = .ok (.iload_n 1, 1) := by decide +kernel
theorem dX3_chooseAct_89 : decode cX3_chooseAct 89 = .ok (.iload_n 3, 1) := by decide +kernel
theorem dX3_chooseAct_90 : decode cX3_chooseAct 90 = .ok (.iastore, 1) := by decide +kernel
theorem dX3_chooseAct_91 : decode cX3_chooseAct 91 = .ok (.aload_n 0, 1) := by decide +kernel
theorem dX3_chooseAct_92 : decode cX3_chooseAct 92 = .ok (.getfield 28, 3) := by decide +kernel
theorem dX3_chooseAct_95 : decode cX3_chooseAct 95 = .ok (.iload_n 1, 1) := by decide +kernel
theorem dX3_chooseAct_96 : decode cX3_chooseAct 96 = .ok (.lload 4, 2) := by decide +kernel
theorem dX3_chooseAct_98 : decode cX3_chooseAct 98 = .ok (.lastore, 1) := by decide +kernel
theorem dX3_chooseAct_99 : decode cX3_chooseAct 99 = .ok (.iinc 3 1, 3) := by decide +kernel
theorem dX3_chooseAct_102 : decode cX3_chooseAct 102 = .ok (.goto (-80), 3) := by decide +kernel
theorem dX3_chooseAct_105 : decode cX3_chooseAct 105 = .ok (.return_, 1) := by decide +kernel
theorem dX3_chanceBy_0 : decode cX3_chanceBy 0 = .ok (.iload_n 2, 1) := by decide +kernel
theorem dX3_chanceBy_1 : decode cX3_chanceBy 1 = .ok (.iload_n 3, 1) := by decide +kernel
theorem dX3_chanceBy_2 : decode cX3_chanceBy 2 = .ok (.invokestatic 56, 3) := by decide +kernel
theorem dX3_chanceBy_5 : decode cX3_chanceBy 5 = .ok (.istore 4, 2) := by decide +kernel
theorem dX3_chanceBy_7 : decode cX3_chanceBy 7 = .ok (.lconst 0, 1) := by decide +kernel
theorem dX3_chanceBy_8 : decode cX3_chanceBy 8 = .ok (.lstore 5, 2) := by decide +kernel
theorem dX3_chanceBy_10 : decode cX3_chanceBy 10 = .ok (.iconst 0, 1) := by decide +kernel
theorem dX3_chanceBy_11 : decode cX3_chanceBy 11 = .ok (.istore 7, 2) := by decide +kernel
theorem dX3_chanceBy_13 : decode cX3_chanceBy 13 = .ok (.iload 7, 2) := by decide +kernel
theorem dX3_chanceBy_15 : decode cX3_chanceBy 15 = .ok (.iconst 5, 1) := by decide +kernel
theorem dX3_chanceBy_16 : decode cX3_chanceBy 16 = .ok (.if_icmp .ge 65, 3) := by decide +kernel
theorem dX3_chanceBy_19 : decode cX3_chanceBy 19 = .ok (.iload_n 2, 1) := by decide +kernel
theorem dX3_chanceBy_20 : decode cX3_chanceBy 20 = .ok (.ifCond .ne 10, 3) := by decide +kernel
theorem dX3_chanceBy_23 : decode cX3_chanceBy 23 = .ok (.iload 7, 2) := by decide +kernel
theorem dX3_chanceBy_25 : decode cX3_chanceBy 25 = .ok (.iconst 2, 1) := by decide +kernel
theorem dX3_chanceBy_26 : decode cX3_chanceBy 26 = .ok (.isub, 1) := by decide +kernel
theorem dX3_chanceBy_27 : decode cX3_chanceBy 27 = .ok (.goto 7, 3) := by decide +kernel
theorem dX3_chanceBy_30 : decode cX3_chanceBy 30 = .ok (.iconst 2, 1) := by decide +kernel
theorem dX3_chanceBy_31 : decode cX3_chanceBy 31 = .ok (.iload 7, 2) := by decide +kernel
theorem dX3_chanceBy_33 : decode cX3_chanceBy 33 = .ok (.isub, 1) := by decide +kernel
theorem dX3_chanceBy_34 : decode cX3_chanceBy 34 = .ok (.istore 8, 2) := by decide +kernel
theorem dX3_chanceBy_36 : decode cX3_chanceBy 36 = .ok (.iconst 0, 1) := by decide +kernel
theorem dX3_chanceBy_37 : decode cX3_chanceBy 37 = .ok (.bipush 18, 2) := by decide +kernel
theorem dX3_chanceBy_39 : decode cX3_chanceBy 39 = .ok (.iload_n 1, 1) := by decide +kernel
theorem dX3_chanceBy_40 : decode cX3_chanceBy 40 = .ok (.iload 8, 2) := by decide +kernel
theorem dX3_chanceBy_42 : decode cX3_chanceBy 42 = .ok (.iadd, 1) := by decide +kernel
theorem dX3_chanceBy_43 : decode cX3_chanceBy 43 = .ok (.invokestatic 60, 3) := by decide +kernel
theorem dX3_chanceBy_46 : decode cX3_chanceBy 46 = .ok (.invokestatic 65, 3) := by decide +kernel
theorem dX3_chanceBy_49 : decode cX3_chanceBy 49 = .ok (.istore 9, 2) := by decide +kernel
theorem dX3_chanceBy_51 : decode cX3_chanceBy 51 = .ok (.lload 5, 2) := by decide +kernel
theorem dX3_chanceBy_53 : decode cX3_chanceBy 53 = .ok (.aload_n 0, 1) := by decide +kernel
theorem dX3_chanceBy_54 : decode cX3_chanceBy 54 = .ok (.getfield 11, 3) := by decide +kernel
theorem dX3_chanceBy_57 : decode cX3_chanceBy 57 = .ok (.iload 4, 2) := by decide +kernel
theorem dX3_chanceBy_59 : decode cX3_chanceBy 59 = .ok (.iload 7, 2) := by decide +kernel
theorem dX3_chanceBy_61 : decode cX3_chanceBy 61 = .ok (.iadd, 1) := by decide +kernel
theorem dX3_chanceBy_62 : decode cX3_chanceBy 62 = .ok (.iaload, 1) := by decide +kernel
theorem dX3_chanceBy_63 : decode cX3_chanceBy 63 = .ok (.i2l, 1) := by decide +kernel
theorem dX3_chanceBy_64 : decode cX3_chanceBy 64 = .ok (.aload_n 0, 1) := by decide +kernel
theorem dX3_chanceBy_65 : decode cX3_chanceBy 65 = .ok (.getfield 24, 3) := by decide +kernel
theorem dX3_chanceBy_68 : decode cX3_chanceBy 68 = .ok (.iload 9, 2) := by decide +kernel
theorem dX3_chanceBy_70 : decode cX3_chanceBy 70 = .ok (.laload, 1) := by decide +kernel
theorem dX3_chanceBy_71 : decode cX3_chanceBy 71 = .ok (.lmul, 1) := by decide +kernel
theorem dX3_chanceBy_72 : decode cX3_chanceBy 72 = .ok (.ladd, 1) := by decide +kernel
theorem dX3_chanceBy_73 : decode cX3_chanceBy 73 = .ok (.lstore 5, 2) := by decide +kernel
theorem dX3_chanceBy_75 : decode cX3_chanceBy 75 = .ok (.iinc 7 1, 3) := by decide +kernel
theorem dX3_chanceBy_78 : decode cX3_chanceBy 78 = .ok (.goto (-65), 3) := by decide +kernel
theorem dX3_chanceBy_81 : decode cX3_chanceBy 81 = .ok (.lload 5, 2) := by decide +kernel
theorem dX3_chanceBy_83 : decode cX3_chanceBy 83 = .ok (.lreturn, 1) := by decide +kernel
theorem dX4_init_0 : decode cX4_init 0 = .ok (.aload_n 0, 1) := by decide +kernel
theorem dX4_init_1 : decode cX4_init 1 = .ok (.invokespecial 1, 3) := by decide +kernel
theorem dX4_init_4 : decode cX4_init 4 = .ok (.aload_n 0, 1) := by decide +kernel
theorem dX4_init_5 : decode cX4_init 5 = .ok (.iload_n 1, 1) := by decide +kernel
theorem dX4_init_6 : decode cX4_init 6 = .ok (.putfield 7, 3) := by decide +kernel
theorem dX4_init_9 : decode cX4_init 9 = .ok (.aload_n 0, 1) := by decide +kernel
theorem dX4_init_10 : decode cX4_init 10 = .ok (.iload_n 2, 1) := by decide +kernel
theorem dX4_init_11 : decode cX4_init 11 = .ok (.putfield 13, 3) := by decide +kernel
theorem dX4_init_14 : decode cX4_init 14 = .ok (.aload_n 0, 1) := by decide +kernel
theorem dX4_init_15 : decode cX4_init 15 = .ok (.iload_n 3, 1) := by decide +kernel
theorem dX4_init_16 : decode cX4_init 16 = .ok (.putfield 16, 3) := by decide +kernel
theorem dX4_init_19 : decode cX4_init 19 = .ok (.aload_n 0, 1) := by decide +kernel
theorem dX4_init_20 : decode cX4_init 20 = .ok (.bipush 40, 2) := by decide +kernel
theorem dX4_init_22 : decode cX4_init 22 = .ok (.newarray .int, 2) := by decide +kernel
theorem dX4_init_24 : decode cX4_init 24 = .ok (.putfield 19, 3) := by decide +kernel
theorem dX4_init_27 : decode cX4_init 27 = .ok (.return_, 1) := by decide +kernel
theorem dX4_work_0 : decode cX4_work 0 = .ok (.aload_n 0, 1) := by decide +kernel
theorem dX4_work_1 : decode cX4_work 1 = .ok (.iconst 0, 1) := by decide +kernel
theorem dX4_work_2 : decode cX4_work 2 = .ok (.putfield 23, 3) := by decide +kernel
theorem dX4_work_5 : decode cX4_work 5 = .ok (.aload_n 0, 1) := by decide +kernel
theorem dX4_work_6 : decode cX4_work 6 = .ok (.iconst 0, 1) := by decide +kernel
theorem dX4_work_7 : decode cX4_work 7 = .ok (.putfield 26, 3) := by decide +kernel
theorem dX4_work_10 : decode cX4_work 10 = .ok (.aload_n 0, 1) := by decide +kernel
theorem dX4_work_11 : decode cX4_work 11 = .ok (.iconst 0, 1) := by decide +kernel
theorem dX4_work_12 : decode cX4_work 12 = .ok (.putfield 29, 3) := by decide +kernel
theorem dX4_work_15 : decode cX4_work 15 = .ok (.aload_n 0, 1) := by decide +kernel
theorem dX4_work_16 : decode cX4_work 16 = .ok (.iconst 0, 1) := by decide +kernel
theorem dX4_work_17 : decode cX4_work 17 = .ok (.putfield 32, 3) := by decide +kernel
theorem dX4_work_20 : decode cX4_work 20 = .ok (.aload_n 0, 1) := by decide +kernel
theorem dX4_work_21 : decode cX4_work 21 = .ok (.getfield 23, 3) := by decide +kernel
theorem dX4_work_24 : decode cX4_work 24 = .ok (.aload_n 0, 1) := by decide +kernel
theorem dX4_work_25 : decode cX4_work 25 = .ok (.getfield 35, 3) := by decide +kernel
theorem dX4_work_28 : decode cX4_work 28 = .ok (.if_icmp .ge 98, 3) := by decide +kernel
theorem dX4_work_31 : decode cX4_work 31 = .ok (.aload_n 0, 1) := by decide +kernel
theorem dX4_work_32 : decode cX4_work 32 = .ok (.getfield 32, 3) := by decide +kernel
theorem dX4_work_35 : decode cX4_work 35 = .ok (.ifCond .ne 91, 3) := by decide +kernel
theorem dX4_work_38 : decode cX4_work 38 = .ok (.aload_n 0, 1) := by decide +kernel
theorem dX4_work_39 : decode cX4_work 39 = .ok (.getfield 16, 3) := by decide +kernel
theorem dX4_work_42 : decode cX4_work 42 = .ok (.ifCond .eq 20, 3) := by decide +kernel
theorem dX4_work_45 : decode cX4_work 45 = .ok (.aload_n 0, 1) := by decide +kernel
theorem dX4_work_46 : decode cX4_work 46 = .ok (.getfield 16, 3) := by decide +kernel
theorem dX4_work_49 : decode cX4_work 49 = .ok (.iconst 2, 1) := by decide +kernel
theorem dX4_work_50 : decode cX4_work 50 = .ok (.if_icmp .ne 16, 3) := by decide +kernel
theorem dX4_work_53 : decode cX4_work 53 = .ok (.aload_n 0, 1) := by decide +kernel
theorem dX4_work_54 : decode cX4_work 54 = .ok (.getfield 23, 3) := by decide +kernel
theorem dX4_work_57 : decode cX4_work 57 = .ok (.iconst 2, 1) := by decide +kernel
theorem dX4_work_58 : decode cX4_work 58 = .ok (.irem, 1) := by decide +kernel
theorem dX4_work_59 : decode cX4_work 59 = .ok (.ifCond .ne 7, 3) := by decide +kernel
theorem dX4_work_62 : decode cX4_work 62 = .ok (.iconst 1, 1) := by decide +kernel
theorem dX4_work_63 : decode cX4_work 63 = .ok (.goto 4, 3) := by decide +kernel
theorem dX4_work_66 : decode cX4_work 66 = .ok (.iconst 0, 1) := by decide +kernel
theorem dX4_work_67 : decode cX4_work 67 = .ok (.istore_n 3, 1) := by decide +kernel
theorem dX4_work_68 : decode cX4_work 68 = .ok (.aload_n 0, 1) := by decide +kernel
theorem dX4_work_69 : decode cX4_work 69 = .ok (.aload_n 0, 1) := by decide +kernel
theorem dX4_work_70 : decode cX4_work 70 = .ok (.getfield 19, 3) := by decide +kernel
theorem dX4_work_73 : decode cX4_work 73 = .ok (.aload_n 0, 1) := by decide +kernel
theorem dX4_work_74 : decode cX4_work 74 = .ok (.getfield 23, 3) := by decide +kernel
theorem dX4_work_77 : decode cX4_work 77 = .ok (.iaload, 1) := by decide +kernel
theorem dX4_work_78 : decode cX4_work 78 = .ok (.invokevirtual 38, 3) := by decide +kernel
theorem dX4_work_81 : decode cX4_work 81 = .ok (.aload_n 0, 1) := by decide +kernel
theorem dX4_work_82 : decode cX4_work 82 = .ok (.dup, 1) := by decide +kernel
theorem dX4_work_83 : decode cX4_work 83 = .ok (.getfield 23, 3) := by decide +kernel
theorem dX4_work_86 : decode cX4_work 86 = .ok (.iconst 1, 1) := by decide +kernel
theorem dX4_work_87 : decode cX4_work 87 = .ok (.iadd, 1) := by decide +kernel
theorem dX4_work_88 : decode cX4_work 88 = .ok (.putfield 23, 3) := by decide +kernel
theorem dX4_work_91 : decode cX4_work 91 = .ok (.aload_n 0, 1) := by decide +kernel
theorem dX4_work_92 : decode cX4_work 92 = .ok (.getfield 26, 3) := by decide +kernel
theorem dX4_work_95 : decode cX4_work 95 = .ok (.aload_n 0, 1) := by decide +kernel
theorem dX4_work_96 : decode cX4_work 96 = .ok (.getfield 29, 3) := by decide +kernel
theorem dX4_work_99 : decode cX4_work 99 = .ok (.invokestatic 42, 3) := by decide +kernel
theorem dX4_work_102 : decode cX4_work 102 = .ok (.iload_n 3, 1) := by decide +kernel
theorem dX4_work_103 : decode cX4_work 103 = .ok (.ifCond .eq 7, 3) := by decide +kernel
theorem dX4_work_106 : decode cX4_work 106 = .ok (.iload_n 1, 1) := by decide +kernel
theorem dX4_work_107 : decode cX4_work 107 = .ok (.goto 4, 3) := by decide +kernel
theorem dX4_work_110 : decode cX4_work 110 = .ok (.iload_n 2, 1) := by decide +kernel
theorem dX4_work_111 : decode cX4_work 111 = .ok (.if_icmp .lt 12, 3) := by decide +kernel
theorem dX4_work_114 : decode cX4_work 114 = .ok (.aload_n 0, 1) := by decide +kernel
theorem dX4_work_115 : decode cX4_work 115 = .ok (.aload_n 0, 1) := by decide +kernel
theorem dX4_work_116 : decode cX4_work 116 = .ok (.iconst 0, 1) := by decide +kernel
theorem dX4_work_117 : decode cX4_work 117 = .ok (.invokevirtual 48, 3) := by decide +kernel
theorem dX4_work_120 : decode cX4_work 120 = .ok (.putfield 32, 3) := by decide +kernel
theorem dX4_work_123 : decode cX4_work 123 = .ok (.goto (-103), 3) := by decide +kernel
theorem dX4_work_126 : decode cX4_work 126 = .ok (.aload_n 0, 1) := by decide +kernel
theorem dX4_work_127 : decode cX4_work 127 = .ok (.getfield 32, 3) := by decide +kernel
theorem dX4_work_130 : decode cX4_work 130 = .ok (.ifCond .ne 19, 3) := by decide +kernel
theorem dX4_work_133 : decode cX4_work 133 = .ok (.aload_n 0, 1) := by decide +kernel
theorem dX4_work_134 : decode cX4_work 134 = .ok (.getfield 52, 3) := by decide +kernel
theorem dX4_work_137 : decode cX4_work 137 = .ok (.ifCond .eq 12, 3) := by decide +kernel
theorem dX4_work_140 : decode cX4_work 140 = .ok (.aload_n 0, 1) := by decide +kernel
theorem dX4_work_141 : decode cX4_work 141 = .ok (.aload_n 0, 1) := by decide +kernel
theorem dX4_work_142 : decode cX4_work 142 = .ok (.iconst 3, 1) := by decide +kernel
theorem dX4_work_143 : decode cX4_work 143 = .ok (.invokevirtual 48, 3) := by decide +kernel
theorem dX4_work_146 : decode cX4_work 146 = .ok (.putfield 32, 3) := by decide +kernel
theorem dX4_work_149 : decode cX4_work 149 = .ok (.return_, 1) := by decide +kernel
theorem dX4_addPoints_0 : decode cX4_addPoints 0 = .ok (.iload_n 1, 1) := by decide +kernel
theorem dX4_addPoints_1 : decode cX4_addPoints 1 = .ok (.ifCond .le 16, 3) := by decide +kernel
theorem dX4_addPoints_4 : decode cX4_addPoints 4 = .ok (.aload_n 0, 1) := by decide +kernel
theorem dX4_addPoints_5 : decode cX4_addPoints 5 = .ok (.dup, 1) := by decide +kernel
theorem dX4_addPoints_6 : decode cX4_addPoints 6 = .ok (.getfield 26, 3) := by decide +kernel
theorem dX4_addPoints_9 : decode cX4_addPoints 9 = .ok (.iload_n 1, 1) := by decide +kernel
theorem dX4_addPoints_10 : decode cX4_addPoints 10 = .ok (.iadd, 1) := by decide +kernel
theorem dX4_addPoints_11 : decode cX4_addPoints 11 = .ok (.putfield 26, 3) := by decide +kernel
theorem dX4_addPoints_14 : decode cX4_addPoints 14 = .ok (.goto 13, 3) := by decide +kernel
theorem dX4_addPoints_17 : decode cX4_addPoints 17 = .ok (.aload_n 0, 1) := by decide +kernel
theorem dX4_addPoints_18 : decode cX4_addPoints 18 = .ok (.dup, 1) := by decide +kernel
theorem dX4_addPoints_19 : decode cX4_addPoints 19 = .ok (.getfield 29, 3) := by decide +kernel
theorem dX4_addPoints_22 : decode cX4_addPoints 22 = .ok (.iload_n 1, 1) := by decide +kernel
theorem dX4_addPoints_23 : decode cX4_addPoints 23 = .ok (.isub, 1) := by decide +kernel
theorem dX4_addPoints_24 : decode cX4_addPoints 24 = .ok (.putfield 29, 3) := by decide +kernel
theorem dX4_addPoints_27 : decode cX4_addPoints 27 = .ok (.return_, 1) := by decide +kernel
theorem dX4_whoLeads_0 : decode cX4_whoLeads 0 = .ok (.aload_n 0, 1) := by decide +kernel
theorem dX4_whoLeads_1 : decode cX4_whoLeads 1 = .ok (.getfield 26, 3) := by decide +kernel
theorem dX4_whoLeads_4 : decode cX4_whoLeads 4 = .ok (.aload_n 0, 1) := by decide +kernel
theorem dX4_whoLeads_5 : decode cX4_whoLeads 5 = .ok (.getfield 29, 3) := by decide +kernel
theorem dX4_whoLeads_8 : decode cX4_whoLeads 8 = .ok (.if_icmp .ne 5, 3) := by decide +kernel
theorem dX4_whoLeads_11 : decode cX4_whoLeads 11 = .ok (.iload_n 1, 1) := by decide +kernel
theorem dX4_whoLeads_12 : decode cX4_whoLeads 12 = .ok (.ireturn, 1) := by decide +kernel
theorem dX4_whoLeads_13 : decode cX4_whoLeads 13 = .ok (.aload_n 0, 1) := by decide +kernel
theorem dX4_whoLeads_14 : decode cX4_whoLeads 14 = .ok (.getfield 26, 3) := by decide +kernel
theorem dX4_whoLeads_17 : decode cX4_whoLeads 17 = .ok (.aload_n 0, 1) := by decide +kernel
theorem dX4_whoLeads_18 : decode cX4_whoLeads 18 = .ok (.getfield 29, 3) := by decide +kernel
theorem dX4_whoLeads_21 : decode cX4_whoLeads 21 = .ok (.if_icmp .le 7, 3) := by decide +kernel
theorem dX4_whoLeads_24 : decode cX4_whoLeads 24 = .ok (.iconst 1, 1) := by decide +kernel
theorem dX4_whoLeads_25 : decode cX4_whoLeads 25 = .ok (.goto 4, 3) := by decide +kernel
theorem dX4_whoLeads_28 : decode cX4_whoLeads 28 = .ok (.iconst 2, 1) := by decide +kernel
theorem dX4_whoLeads_29 : decode cX4_whoLeads 29 = .ok (.ireturn, 1) := by decide +kernel
theorem dX4_isOf_0 : decode cX4_isOf 0 = .ok (.iload_n 1, 1) := by decide +kernel
theorem dX4_isOf_1 : decode cX4_isOf 1 = .ok (.aload_n 0, 1) := by decide +kernel
theorem dX4_isOf_2 : decode cX4_isOf 2 = .ok (.getfield 7, 3) := by decide +kernel
theorem dX4_isOf_5 : decode cX4_isOf 5 = .ok (.if_icmp .eq 11, 3) := by decide +kernel
theorem dX4_isOf_8 : decode cX4_isOf 8 = .ok (.iload_n 1, 1) := by decide +kernel
theorem dX4_isOf_9 : decode cX4_isOf 9 = .ok (.aload_n 0, 1) := by decide +kernel
theorem dX4_isOf_10 : decode cX4_isOf 10 = .ok (.getfield 13, 3) := by decide +kernel
theorem dX4_isOf_13 : decode cX4_isOf 13 = .ok (.if_icmp .ne 7, 3) := by decide +kernel
theorem dX4_isOf_16 : decode cX4_isOf 16 = .ok (.iconst 1, 1) := by decide +kernel
theorem dX4_isOf_17 : decode cX4_isOf 17 = .ok (.goto 4, 3) := by decide +kernel
theorem dX4_isOf_20 : decode cX4_isOf 20 = .ok (.iconst 0, 1) := by decide +kernel
theorem dX4_isOf_21 : decode cX4_isOf 21 = .ok (.ireturn, 1) := by decide +kernel
theorem dX4_tableFor_0 : decode cX4_tableFor 0 = .ok (.aload_n 0, 1) := by decide +kernel
theorem dX4_tableFor_1 : decode cX4_tableFor 1 = .ok (.getfield 32, 3) := by decide +kernel
theorem dX4_tableFor_4 : decode cX4_tableFor 4 = .ok (.iconst 3, 1) := by decide +kernel
theorem dX4_tableFor_5 : decode cX4_tableFor 5 = .ok (.if_icmp .ne 5, 3) := by decide +kernel
theorem dX4_tableFor_8 : decode cX4_tableFor 8 = .ok (.iconst 1, 1) := by decide +kernel
theorem dX4_tableFor_9 : decode cX4_tableFor 9 = .ok (.ireturn, 1) := by decide +kernel
theorem dX4_tableFor_10 : decode cX4_tableFor 10 = .ok (.aload_n 0, 1) := by decide +kernel
theorem dX4_tableFor_11 : decode cX4_tableFor 11 = .ok (.getfield 32, 3) := by decide +kernel
theorem dX4_tableFor_14 : decode cX4_tableFor 14 = .ok (.iload_n 1, 1) := by decide +kernel
theorem dX4_tableFor_15 : decode cX4_tableFor 15 = .ok (.aload_n 0, 1) := by decide +kernel
theorem dX4_tableFor_16 : decode cX4_tableFor 16 = .ok (.getfield 7, 3) := by decide +kernel
theorem dX4_tableFor_19 : decode cX4_tableFor 19 = .ok (.if_icmp .ne 7, 3) := by decide +kernel
theorem dX4_tableFor_22 : decode cX4_tableFor 22 = .ok (.iconst 1, 1) := by decide +kernel
theorem dX4_tableFor_23 : decode cX4_tableFor 23 = .ok (.goto 4, 3) := by decide +kernel
theorem dX4_tableFor_26 : decode cX4_tableFor 26 = .ok (.iconst 2, 1) := by decide +kernel
theorem dX4_tableFor_27 : decode cX4_tableFor 27 = .ok (.if_icmp .ne 7, 3) := by decide +kernel
theorem dX4_tableFor_30 : decode cX4_tableFor 30 = .ok (.iconst 2, 1) := by decide +kernel
theorem dX4_tableFor_31 : decode cX4_tableFor 31 = .ok (.goto 4, 3) := by decide +kernel
theorem dX4_tableFor_34 : decode cX4_tableFor 34 = .ok (.iconst 0, 1) := by decide +kernel
theorem dX4_tableFor_35 : decode cX4_tableFor 35 = .ok (.ireturn, 1) := by decide +kernel
theorem dX5_init_0 : decode cX5_init 0 = .ok (.aload_n 0, 1) := by decide +kernel
theorem dX5_init_1 : decode cX5_init 1 = .ok (.invokespecial 3, 3) := by decide +kernel
theorem dX5_init_4 : decode cX5_init 4 = .ok (.aload_n 0, 1) := by decide +kernel
theorem dX5_init_5 : decode cX5_init 5 = .ok (.iconst 5, 1) := by decide +kernel
theorem dX5_init_6 : decode cX5_init 6 = .ok (.newarray .int, 2) := by decide +kernel
theorem dX5_init_8 : decode cX5_init 8 = .ok (.putfield 11, 3) := by decide +kernel
theorem dX5_init_11 : decode cX5_init 11 = .ok (.aload_n 0, 1) := by decide +kernel
theorem dX5_init_12 : decode cX5_init 12 = .ok (.getfield 11, 3) := by decide +kernel
theorem dX5_init_15 : decode cX5_init 15 = .ok (.iconst 0, 1) := by decide +kernel
theorem dX5_init_16 : decode cX5_init 16 = .ok (.iconst 0, 1) := by decide +kernel
theorem dX5_init_17 : decode cX5_init 17 = .ok (.iastore, 1) := by decide +kernel
theorem dX5_init_18 : decode cX5_init 18 = .ok (.aload_n 0, 1) := by decide +kernel
theorem dX5_init_19 : decode cX5_init 19 = .ok (.iconst 1, 1) := by decide +kernel
theorem dX5_init_20 : decode cX5_init 20 = .ok (.putfield 15, 3) := by decide +kernel
theorem dX5_init_23 : decode cX5_init 23 = .ok (.return_, 1) := by decide +kernel
theorem dX5_become_0 : decode cX5_become 0 = .ok (.aload_n 1, 1) := by decide +kernel
theorem dX5_become_1 : decode cX5_become 1 = .ok (.getfield 11, 3) := by decide +kernel
theorem dX5_become_4 : decode cX5_become 4 = .ok (.iconst 0, 1) := by decide +kernel
theorem dX5_become_5 : decode cX5_become 5 = .ok (.aload_n 0, 1) := by decide +kernel
theorem dX5_become_6 : decode cX5_become 6 = .ok (.getfield 11, 3) := by decide +kernel
theorem dX5_become_9 : decode cX5_become 9 = .ok (.iconst 0, 1) := by decide +kernel
theorem dX5_become_10 : decode cX5_become 10 = .ok (.iconst 5, 1) := by decide +kernel
theorem dX5_become_11 : decode cX5_become 11 = .ok (.invokestatic 19, 3) := by decide +kernel
theorem dX5_become_14 : decode cX5_become 14 = .ok (.aload_n 0, 1) := by decide +kernel
theorem dX5_become_15 : decode cX5_become 15 = .ok (.aload_n 1, 1) := by decide +kernel
theorem dX5_become_16 : decode cX5_become 16 = .ok (.getfield 15, 3) := by decide +kernel
theorem dX5_become_19 : decode cX5_become 19 = .ok (.putfield 15, 3) := by decide +kernel
theorem dX5_become_22 : decode cX5_become 22 = .ok (.return_, 1) := by decide +kernel
theorem dX5_read_0 : decode cX5_read 0 = .ok (.aload_n 0, 1) := by decide +kernel
theorem dX5_read_1 : decode cX5_read 1 = .ok (.iconst 0, 1) := by decide +kernel
theorem dX5_read_2 : decode cX5_read 2 = .ok (.putfield 15, 3) := by decide +kernel
theorem dX5_read_5 : decode cX5_read 5 = .ok (.aload_n 0, 1) := by decide +kernel
theorem dX5_read_6 : decode cX5_read 6 = .ok (.iconst 0, 1) := by decide +kernel
theorem dX5_read_7 : decode cX5_read 7 = .ok (.putfield 25, 3) := by decide +kernel
theorem dX5_read_10 : decode cX5_read 10 = .ok (.aload_n 1, 1) := by decide +kernel
theorem dX5_read_11 : decode cX5_read 11 = .ok (.invokevirtual 28, 3) := by decide +kernel
theorem dX5_read_14 : decode cX5_read 14 = .ok (.aload_n 1, 1) := by decide +kernel
theorem dX5_read_15 : decode cX5_read 15 = .ok (.invokevirtual 33, 3) := by decide +kernel
theorem dX5_read_18 : decode cX5_read 18 = .ok (.iconst 0, 1) := by decide +kernel
theorem dX5_read_19 : decode cX5_read 19 = .ok (.istore_n 2, 1) := by decide +kernel
theorem dX5_read_20 : decode cX5_read 20 = .ok (.iload_n 2, 1) := by decide +kernel
theorem dX5_read_21 : decode cX5_read 21 = .ok (.iconst 5, 1) := by decide +kernel
theorem dX5_read_22 : decode cX5_read 22 = .ok (.if_icmp .gt 36, 3) := by decide +kernel
theorem dX5_read_25 : decode cX5_read 25 = .ok (.aload_n 1, 1) := by decide +kernel
theorem dX5_read_26 : decode cX5_read 26 = .ok (.getfield 36, 3) := by decide +kernel
theorem dX5_read_29 : decode cX5_read 29 = .ok (.aload_n 1, 1) := by decide +kernel
theorem dX5_read_30 : decode cX5_read 30 = .ok (.getfield 39, 3) := by decide +kernel
theorem dX5_read_33 : decode cX5_read 33 = .ok (.if_icmp .ge 25, 3) := by decide +kernel
theorem dX5_read_36 : decode cX5_read 36 = .ok (.aload_n 1, 1) := by decide +kernel
theorem dX5_read_37 : decode cX5_read 37 = .ok (.invokevirtual 40, 3) := by decide +kernel
theorem dX5_read_40 : decode cX5_read 40 = .ok (.ifCond .eq 18, 3) := by decide +kernel
theorem dX5_read_43 : decode cX5_read 43 = .ok (.aload_n 0, 1) := by decide +kernel
theorem dX5_read_44 : decode cX5_read 44 = .ok (.aload_n 1, 1) := by decide +kernel
theorem dX5_read_45 : decode cX5_read 45 = .ok (.invokevirtual 44, 3) := by decide +kernel
theorem dX5_read_48 : decode cX5_read 48 = .ok (.aload_n 1, 1) := by decide +kernel
theorem dX5_read_49 : decode cX5_read 49 = .ok (.invokevirtual 33, 3) := by decide +kernel
theorem dX5_read_52 : decode cX5_read 52 = .ok (.iinc 2 1, 3) := by decide +kernel
theorem dX5_read_55 : decode cX5_read 55 = .ok (.goto (-35), 3) := by decide +kernel
theorem dX5_read_58 : decode cX5_read 58 = .ok (.aload_n 1, 1) := by decide +kernel
theorem dX5_read_59 : decode cX5_read 59 = .ok (.invokevirtual 40, 3) := by decide +kernel
theorem dX5_read_62 : decode cX5_read 62 = .ok (.ifCond .eq 19, 3) := by decide +kernel
theorem dX5_read_65 : decode cX5_read 65 = .ok (.aload_n 0, 1) := by decide +kernel
theorem dX5_read_66 : decode cX5_read 66 = .ok (.getfield 15, 3) := by decide +kernel
theorem dX5_read_69 : decode cX5_read 69 = .ok (.ifCond .ne 12, 3) := by decide +kernel
theorem dX5_read_72 : decode cX5_read 72 = .ok (.aload_n 1, 1) := by decide +kernel
theorem dX5_read_73 : decode cX5_read 73 = .ok (.iconst 1, 1) := by decide +kernel
theorem dX5_read_74 : decode cX5_read 74 = .ok (.aload_n 1, 1) := by decide +kernel
theorem dX5_read_75 : decode cX5_read 75 = .ok (.getfield 39, 3) := by decide +kernel
theorem dX5_read_78 : decode cX5_read 78 = .ok (.invokevirtual 48, 3) := by decide +kernel
theorem dX5_read_81 : decode cX5_read 81 = .ok (.aload_n 1, 1) := by decide +kernel
theorem dX5_read_82 : decode cX5_read 82 = .ok (.getfield 39, 3) := by decide +kernel
theorem dX5_read_85 : decode cX5_read 85 = .ok (.bipush 60, 2) := by decide +kernel
theorem dX5_read_87 : decode cX5_read 87 = .ok (.if_icmp .le 26, 3) := by decide +kernel
theorem dX5_read_90 : decode cX5_read 90 = .ok (.aload_n 1, 1) := by decide +kernel
theorem dX5_read_91 : decode cX5_read 91 = .ok (.invokevirtual 40, 3) := by decide +kernel
theorem dX5_read_94 : decode cX5_read 94 = .ok (.ifCond .ne 12, 3) := by decide +kernel
theorem dX5_read_97 : decode cX5_read 97 = .ok (.aload_n 1, 1) := by decide +kernel
theorem dX5_read_98 : decode cX5_read 98 = .ok (.getfield 52, 3) := by decide +kernel
theorem dX5_read_101 : decode cX5_read 101 = .ok (.bipush 60, 2) := by decide +kernel
theorem dX5_read_103 : decode cX5_read 103 = .ok (.if_icmp .lt 10, 3) := by decide +kernel
theorem dX5_read_106 : decode cX5_read 106 = .ok (.aload_n 1, 1) := by decide +kernel
theorem dX5_read_107 : decode cX5_read 107 = .ok (.iconst 1, 1) := by decide +kernel
theorem dX5_read_108 : decode cX5_read 108 = .ok (.bipush 60, 2) := by decide +kernel
theorem dX5_read_110 : decode cX5_read 110 = .ok (.invokevirtual 48, 3) := by decide +kernel
theorem dX5_read_113 : decode cX5_read 113 = .ok (.aload_n 0, 1) := by decide +kernel
theorem dX5_read_114 : decode cX5_read 114 = .ok (.getfield 15, 3) := by decide +kernel
theorem dX5_read_117 : decode cX5_read 117 = .ok (.ireturn, 1) := by decide +kernel
theorem dX5_readWord_0 : decode cX5_readWord 0 = .ok (.aload_n 1, 1) := by decide +kernel
theorem dX5_readWord_1 : decode cX5_readWord 1 = .ok (.invokevirtual 55, 3) := by decide +kernel
theorem dX5_readWord_4 : decode cX5_readWord 4 = .ok (.istore_n 2, 1) := by decide +kernel
theorem dX5_readWord_5 : decode cX5_readWord 5 = .ok (.aload_n 1, 1) := by decide +kernel
theorem dX5_readWord_6 : decode cX5_readWord 6 = .ok (.iload_n 2, 1) := by decide +kernel
theorem dX5_readWord_7 : decode cX5_readWord 7 = .ok (.invokestatic 59, 3) := by decide +kernel
theorem dX5_readWord_10 : decode cX5_readWord 10 = .ok (.istore_n 3, 1) := by decide +kernel
theorem dX5_readWord_11 : decode cX5_readWord 11 = .ok (.iload_n 3, 1) := by decide +kernel
theorem dX5_readWord_12 : decode cX5_readWord 12 = .ok (.iconst (-1), 1) := by decide +kernel
theorem dX5_readWord_13 : decode cX5_readWord 13 = .ok (.if_icmp .ne 13, 3) := by decide +kernel
theorem dX5_readWord_16 : decode cX5_readWord 16 = .ok (.aload_n 1, 1) := by decide +kernel
theorem dX5_readWord_17 : decode cX5_readWord 17 = .ok (.iconst 1, 1) := by decide +kernel
theorem dX5_readWord_18 : decode cX5_readWord 18 = .ok (.aload_n 1, 1) := by decide +kernel
theorem dX5_readWord_19 : decode cX5_readWord 19 = .ok (.getfield 36, 3) := by decide +kernel
theorem dX5_readWord_22 : decode cX5_readWord 22 = .ok (.invokevirtual 48, 3) := by decide +kernel
theorem dX5_readWord_25 : decode cX5_readWord 25 = .ok (.return_, 1) := by decide +kernel
theorem dX5_readWord_26 : decode cX5_readWord 26 = .ok (.aload_n 0, 1) := by decide +kernel
theorem dX5_readWord_27 : decode cX5_readWord 27 = .ok (.getfield 25, 3) := by decide +kernel
theorem dX5_readWord_30 : decode cX5_readWord 30 = .ok (.iload_n 3, 1) := by decide +kernel
theorem dX5_readWord_31 : decode cX5_readWord 31 = .ok (.ishr, 1) := by decide +kernel
theorem dX5_readWord_32 : decode cX5_readWord 32 = .ok (.iconst 1, 1) := by decide +kernel
theorem dX5_readWord_33 : decode cX5_readWord 33 = .ok (.iand, 1) := by decide +kernel
theorem dX5_readWord_34 : decode cX5_readWord 34 = .ok (.ifCond .ne 11, 3) := by decide +kernel
theorem dX5_readWord_37 : decode cX5_readWord 37 = .ok (.aload_n 0, 1) := by decide +kernel
theorem dX5_readWord_38 : decode cX5_readWord 38 = .ok (.getfield 15, 3) := by decide +kernel
theorem dX5_readWord_41 : decode cX5_readWord 41 = .ok (.iconst 5, 1) := by decide +kernel
theorem dX5_readWord_42 : decode cX5_readWord 42 = .ok (.if_icmp .lt 13, 3) := by decide +kernel
theorem dX5_readWord_45 : decode cX5_readWord 45 = .ok (.aload_n 1, 1) := by decide +kernel
theorem dX5_readWord_46 : decode cX5_readWord 46 = .ok (.iconst 3, 1) := by decide +kernel
theorem dX5_readWord_47 : decode cX5_readWord 47 = .ok (.aload_n 1, 1) := by decide +kernel
theorem dX5_readWord_48 : decode cX5_readWord 48 = .ok (.getfield 36, 3) := by decide +kernel
theorem dX5_readWord_51 : decode cX5_readWord 51 = .ok (.invokevirtual 48, 3) := by decide +kernel
theorem dX5_readWord_54 : decode cX5_readWord 54 = .ok (.return_, 1) := by decide +kernel
theorem dX5_readWord_55 : decode cX5_readWord 55 = .ok (.aload_n 0, 1) := by decide +kernel
theorem dX5_readWord_56 : decode cX5_readWord 56 = .ok (.dup, 1) := by decide +kernel
theorem dX5_readWord_57 : decode cX5_readWord 57 = .ok (.getfield 25, 3) := by decide +kernel
theorem dX5_readWord_60 : decode cX5_readWord 60 = .ok (.iconst 1, 1) := by decide +kernel
theorem dX5_readWord_61 : decode cX5_readWord 61 = .ok (.iload_n 3, 1) := by decide +kernel
theorem dX5_readWord_62 : decode cX5_readWord 62 = .ok (.ishl, 1) := by decide +kernel
theorem dX5_readWord_63 : decode cX5_readWord 63 = .ok (.ior, 1) := by decide +kernel
theorem dX5_readWord_64 : decode cX5_readWord 64 = .ok (.putfield 25, 3) := by decide +kernel
theorem dX5_readWord_67 : decode cX5_readWord 67 = .ok (.aload_n 0, 1) := by decide +kernel
theorem dX5_readWord_68 : decode cX5_readWord 68 = .ok (.getfield 11, 3) := by decide +kernel
theorem dX5_readWord_71 : decode cX5_readWord 71 = .ok (.aload_n 0, 1) := by decide +kernel
theorem dX5_readWord_72 : decode cX5_readWord 72 = .ok (.getfield 15, 3) := by decide +kernel
theorem dX5_readWord_75 : decode cX5_readWord 75 = .ok (.iload_n 3, 1) := by decide +kernel
theorem dX5_readWord_76 : decode cX5_readWord 76 = .ok (.iastore, 1) := by decide +kernel
theorem dX5_readWord_77 : decode cX5_readWord 77 = .ok (.aload_n 0, 1) := by decide +kernel
theorem dX5_readWord_78 : decode cX5_readWord 78 = .ok (.dup, 1) := by decide +kernel
theorem dX5_readWord_79 : decode cX5_readWord 79 = .ok (.getfield 15, 3) := by decide +kernel
theorem dX5_readWord_82 : decode cX5_readWord 82 = .ok (.iconst 1, 1) := by decide +kernel
theorem dX5_readWord_83 : decode cX5_readWord 83 = .ok (.iadd, 1) := by decide +kernel
theorem dX5_readWord_84 : decode cX5_readWord 84 = .ok (.putfield 15, 3) := by decide +kernel
theorem dX5_readWord_87 : decode cX5_readWord 87 = .ok (.aload_n 1, 1) := by decide +kernel
theorem dX5_readWord_88 : decode cX5_readWord 88 = .ok (.iload_n 2, 1) := by decide +kernel
theorem dX5_readWord_89 : decode cX5_readWord 89 = .ok (.putfield 36, 3) := by decide +kernel
theorem dX5_readWord_92 : decode cX5_readWord 92 = .ok (.return_, 1) := by decide +kernel
theorem dX5_wordSpelled_0 : decode cX5_wordSpelled 0 = .ok (.iconst 0, 1) := by decide +kernel
theorem dX5_wordSpelled_1 : decode cX5_wordSpelled 1 = .ok (.istore_n 2, 1) := by decide +kernel
theorem dX5_wordSpelled_2 : decode cX5_wordSpelled 2 = .ok (.iload_n 2, 1) := by decide +kernel
theorem dX5_wordSpelled_3 : decode cX5_wordSpelled 3 = .ok (.iconst 5, 1) := by decide +kernel
theorem dX5_wordSpelled_4 : decode cX5_wordSpelled 4 = .ok (.if_icmp .ge 23, 3) := by decide +kernel
theorem dX5_wordSpelled_7 : decode cX5_wordSpelled 7 = .ok (.aload_n 0, 1) := by decide +kernel
theorem dX5_wordSpelled_8 : decode cX5_wordSpelled 8 = .ok (.iload_n 1, 1) := by decide +kernel
theorem dX5_wordSpelled_9 : decode cX5_wordSpelled 9 = .ok (.iload_n 2, 1) := by decide +kernel
theorem dX5_wordSpelled_10 : decode cX5_wordSpelled 10 = .ok (.invokestatic 63, 3) := by decide +kernel
theorem dX5_wordSpelled_13 : decode cX5_wordSpelled 13 = .ok (.invokevirtual 67, 3) := by decide +kernel
theorem dX5_wordSpelled_16 : decode cX5_wordSpelled 16 = .ok (.ifCond .eq 5, 3) := by decide +kernel
theorem dX5_wordSpelled_19 : decode cX5_wordSpelled 19 = .ok (.iload_n 2, 1) := by decide +kernel
theorem dX5_wordSpelled_20 : decode cX5_wordSpelled 20 = .ok (.ireturn, 1) := by decide +kernel
theorem dX5_wordSpelled_21 : decode cX5_wordSpelled 21 = .ok (.iinc 2 1, 3) := by decide +kernel
theorem dX5_wordSpelled_24 : decode cX5_wordSpelled 24 = .ok (.goto (-22), 3) := by decide +kernel
theorem dX5_wordSpelled_27 : decode cX5_wordSpelled 27 = .ok (.iconst (-1), 1) := by decide +kernel
theorem dX5_wordSpelled_28 : decode cX5_wordSpelled 28 = .ok (.ireturn, 1) := by decide +kernel
theorem dX5_orderWord_0 : decode cX5_orderWord 0 = .ok (.iload_n 0, 1) := by decide +kernel
theorem dX5_orderWord_1 : decode cX5_orderWord 1 = .ok (.tableswitch 43 0 3 #[31, 34, 37, 40], 31) := by decide +kernel
theorem dX5_orderWord_32 : decode cX5_orderWord 32 = .ok (.ldc 71, 2) := by decide +kernel
theorem dX5_orderWord_34 : decode cX5_orderWord 34 = .ok (.areturn, 1) := by decide +kernel
theorem dX5_orderWord_35 : decode cX5_orderWord 35 = .ok (.ldc 73, 2) := by decide +kernel
theorem dX5_orderWord_37 : decode cX5_orderWord 37 = .ok (.areturn, 1) := by decide +kernel
theorem dX5_orderWord_38 : decode cX5_orderWord 38 = .ok (.ldc 75, 2) := by decide +kernel
theorem dX5_orderWord_40 : decode cX5_orderWord 40 = .ok (.areturn, 1) := by decide +kernel
theorem dX5_orderWord_41 : decode cX5_orderWord 41 = .ok (.ldc 77, 2) := by decide +kernel
theorem dX5_orderWord_43 : decode cX5_orderWord 43 = .ok (.areturn, 1) := by decide +kernel
theorem dX5_orderWord_44 : decode cX5_orderWord 44 = .ok (.ldc 79, 2) := by decide +kernel
theorem dX5_orderWord_46 : decode cX5_orderWord 46 = .ok (.areturn, 1) := by decide +kernel
theorem dX6_init_0 : decode cX6_init 0 = .ok (.aload_n 0, 1) := by decide +kernel
theorem dX6_init_1 : decode cX6_init 1 = .ok (.invokespecial 3, 3) := by decide +kernel
theorem dX6_init_4 : decode cX6_init 4 = .ok (.aload_n 0, 1) := by decide +kernel
theorem dX6_init_5 : decode cX6_init 5 = .ok (.bipush 8, 2) := by decide +kernel
theorem dX6_init_7 : decode cX6_init 7 = .ok (.newarray .int, 2) := by decide +kernel
theorem dX6_init_9 : decode cX6_init 9 = .ok (.putfield 11, 3) := by decide +kernel
theorem dX6_init_12 : decode cX6_init 12 = .ok (.getstatic 15, 3) := by decide +kernel
theorem dX6_init_15 : decode cX6_init 15 = .ok (.iconst 0, 1) := by decide +kernel
theorem dX6_init_16 : decode cX6_init 16 = .ok (.aload_n 0, 1) := by decide +kernel
theorem dX6_init_17 : decode cX6_init 17 = .ok (.getfield 11, 3) := by decide +kernel
theorem dX6_init_20 : decode cX6_init 20 = .ok (.iconst 0, 1) := by decide +kernel
theorem dX6_init_21 : decode cX6_init 21 = .ok (.bipush 8, 2) := by decide +kernel
theorem dX6_init_23 : decode cX6_init 23 = .ok (.invokestatic 18, 3) := by decide +kernel
theorem dX6_init_26 : decode cX6_init 26 = .ok (.return_, 1) := by decide +kernel
theorem dX6_become_0 : decode cX6_become 0 = .ok (.aload_n 1, 1) := by decide +kernel
theorem dX6_become_1 : decode cX6_become 1 = .ok (.getfield 11, 3) := by decide +kernel
theorem dX6_become_4 : decode cX6_become 4 = .ok (.iconst 0, 1) := by decide +kernel
theorem dX6_become_5 : decode cX6_become 5 = .ok (.aload_n 0, 1) := by decide +kernel
theorem dX6_become_6 : decode cX6_become 6 = .ok (.getfield 11, 3) := by decide +kernel
theorem dX6_become_9 : decode cX6_become 9 = .ok (.iconst 0, 1) := by decide +kernel
theorem dX6_become_10 : decode cX6_become 10 = .ok (.bipush 8, 2) := by decide +kernel
theorem dX6_become_12 : decode cX6_become 12 = .ok (.invokestatic 18, 3) := by decide +kernel
theorem dX6_become_15 : decode cX6_become 15 = .ok (.return_, 1) := by decide +kernel
theorem dX6_read_0 : decode cX6_read 0 = .ok (.getstatic 15, 3) := by decide +kernel
theorem dX6_read_3 : decode cX6_read 3 = .ok (.iconst 0, 1) := by decide +kernel
theorem dX6_read_4 : decode cX6_read 4 = .ok (.aload_n 0, 1) := by decide +kernel
theorem dX6_read_5 : decode cX6_read 5 = .ok (.getfield 11, 3) := by decide +kernel
theorem dX6_read_8 : decode cX6_read 8 = .ok (.iconst 0, 1) := by decide +kernel
theorem dX6_read_9 : decode cX6_read 9 = .ok (.bipush 8, 2) := by decide +kernel
theorem dX6_read_11 : decode cX6_read 11 = .ok (.invokestatic 18, 3) := by decide +kernel
theorem dX6_read_14 : decode cX6_read 14 = .ok (.aload_n 0, 1) := by decide +kernel
theorem dX6_read_15 : decode cX6_read 15 = .ok (.iconst 0, 1) := by decide +kernel
theorem dX6_read_16 : decode cX6_read 16 = .ok (.putfield 24, 3) := by decide +kernel
theorem dX6_read_19 : decode cX6_read 19 = .ok (.aload_n 1, 1) := by decide +kernel
theorem dX6_read_20 : decode cX6_read 20 = .ok (.invokevirtual 28, 3) := by decide +kernel
theorem dX6_read_23 : decode cX6_read 23 = .ok (.aload_n 1, 1) := by decide +kernel
theorem dX6_read_24 : decode cX6_read 24 = .ok (.invokevirtual 33, 3) := by decide +kernel
theorem dX6_read_27 : decode cX6_read 27 = .ok (.iconst 0, 1) := by decide +kernel
theorem dX6_read_28 : decode cX6_read 28 = .ok (.istore_n 2, 1) := by decide +kernel
theorem dX6_read_29 : decode cX6_read 29 = .ok (.iload_n 2, 1) := by decide +kernel
theorem dX6_read_30 : decode cX6_read 30 = .ok (.bipush 8, 2) := by decide +kernel
theorem dX6_read_32 : decode cX6_read 32 = .ok (.if_icmp .gt 36, 3) := by decide +kernel
theorem dX6_read_35 : decode cX6_read 35 = .ok (.aload_n 1, 1) := by decide +kernel
theorem dX6_read_36 : decode cX6_read 36 = .ok (.getfield 36, 3) := by decide +kernel
theorem dX6_read_39 : decode cX6_read 39 = .ok (.aload_n 1, 1) := by decide +kernel
theorem dX6_read_40 : decode cX6_read 40 = .ok (.getfield 39, 3) := by decide +kernel
theorem dX6_read_43 : decode cX6_read 43 = .ok (.if_icmp .ge 25, 3) := by decide +kernel
theorem dX6_read_46 : decode cX6_read 46 = .ok (.aload_n 1, 1) := by decide +kernel
theorem dX6_read_47 : decode cX6_read 47 = .ok (.invokevirtual 42, 3) := by decide +kernel
theorem dX6_read_50 : decode cX6_read 50 = .ok (.ifCond .eq 18, 3) := by decide +kernel
theorem dX6_read_53 : decode cX6_read 53 = .ok (.aload_n 0, 1) := by decide +kernel
theorem dX6_read_54 : decode cX6_read 54 = .ok (.aload_n 1, 1) := by decide +kernel
theorem dX6_read_55 : decode cX6_read 55 = .ok (.invokevirtual 46, 3) := by decide +kernel
theorem dX6_read_58 : decode cX6_read 58 = .ok (.aload_n 1, 1) := by decide +kernel
theorem dX6_read_59 : decode cX6_read 59 = .ok (.invokevirtual 33, 3) := by decide +kernel
theorem dX6_read_62 : decode cX6_read 62 = .ok (.iinc 2 1, 3) := by decide +kernel
theorem dX6_read_65 : decode cX6_read 65 = .ok (.goto (-36), 3) := by decide +kernel
theorem dX6_read_68 : decode cX6_read 68 = .ok (.aload_n 0, 1) := by decide +kernel
theorem dX6_read_69 : decode cX6_read 69 = .ok (.getfield 24, 3) := by decide +kernel
theorem dX6_read_72 : decode cX6_read 72 = .ok (.invokestatic 50, 3) := by decide +kernel
theorem dX6_read_75 : decode cX6_read 75 = .ok (.ireturn, 1) := by decide +kernel
theorem dX6_readClause_0 : decode cX6_readClause 0 = .ok (.aload_n 1, 1) := by decide +kernel
theorem dX6_readClause_1 : decode cX6_readClause 1 = .ok (.invokevirtual 56, 3) := by decide +kernel
theorem dX6_readClause_4 : decode cX6_readClause 4 = .ok (.istore_n 2, 1) := by decide +kernel
theorem dX6_readClause_5 : decode cX6_readClause 5 = .ok (.aload_n 1, 1) := by decide +kernel
theorem dX6_readClause_6 : decode cX6_readClause 6 = .ok (.iload_n 2, 1) := by decide +kernel
theorem dX6_readClause_7 : decode cX6_readClause 7 = .ok (.invokestatic 60, 3) := by decide +kernel
theorem dX6_readClause_10 : decode cX6_readClause 10 = .ok (.istore_n 3, 1) := by decide +kernel
theorem dX6_readClause_11 : decode cX6_readClause 11 = .ok (.iload_n 3, 1) := by decide +kernel
theorem dX6_readClause_12 : decode cX6_readClause 12 = .ok (.iconst (-1), 1) := by decide +kernel
theorem dX6_readClause_13 : decode cX6_readClause 13 = .ok (.if_icmp .ne 13, 3) := by decide +kernel
theorem dX6_readClause_16 : decode cX6_readClause 16 = .ok (.aload_n 1, 1) := by decide +kernel
theorem dX6_readClause_17 : decode cX6_readClause 17 = .ok (.iconst 1, 1) := by decide +kernel
theorem dX6_readClause_18 : decode cX6_readClause 18 = .ok (.aload_n 1, 1) := by decide +kernel
theorem dX6_readClause_19 : decode cX6_readClause 19 = .ok (.getfield 36, 3) := by decide +kernel
theorem dX6_readClause_22 : decode cX6_readClause 22 = .ok (.invokevirtual 64, 3) := by decide +kernel
theorem dX6_readClause_25 : decode cX6_readClause 25 = .ok (.return_, 1) := by decide +kernel
theorem dX6_readClause_26 : decode cX6_readClause 26 = .ok (.aload_n 0, 1) := by decide +kernel
theorem dX6_readClause_27 : decode cX6_readClause 27 = .ok (.getfield 24, 3) := by decide +kernel
theorem dX6_readClause_30 : decode cX6_readClause 30 = .ok (.iload_n 3, 1) := by decide +kernel
theorem dX6_readClause_31 : decode cX6_readClause 31 = .ok (.ishr, 1) := by decide +kernel
theorem dX6_readClause_32 : decode cX6_readClause 32 = .ok (.iconst 1, 1) := by decide +kernel
theorem dX6_readClause_33 : decode cX6_readClause 33 = .ok (.iand, 1) := by decide +kernel
theorem dX6_readClause_34 : decode cX6_readClause 34 = .ok (.ifCond .eq 13, 3) := by decide +kernel
theorem dX6_readClause_37 : decode cX6_readClause 37 = .ok (.aload_n 1, 1) := by decide +kernel
theorem dX6_readClause_38 : decode cX6_readClause 38 = .ok (.iconst 3, 1) := by decide +kernel
theorem dX6_readClause_39 : decode cX6_readClause 39 = .ok (.aload_n 1, 1) := by decide +kernel
theorem dX6_readClause_40 : decode cX6_readClause 40 = .ok (.getfield 36, 3) := by decide +kernel
theorem dX6_readClause_43 : decode cX6_readClause 43 = .ok (.invokevirtual 64, 3) := by decide +kernel
theorem dX6_readClause_46 : decode cX6_readClause 46 = .ok (.return_, 1) := by decide +kernel
theorem dX6_readClause_47 : decode cX6_readClause 47 = .ok (.aload_n 0, 1) := by decide +kernel
theorem dX6_readClause_48 : decode cX6_readClause 48 = .ok (.dup, 1) := by decide +kernel
theorem dX6_readClause_49 : decode cX6_readClause 49 = .ok (.getfield 24, 3) := by decide +kernel
theorem dX6_readClause_52 : decode cX6_readClause 52 = .ok (.iconst 1, 1) := by decide +kernel
theorem dX6_readClause_53 : decode cX6_readClause 53 = .ok (.iload_n 3, 1) := by decide +kernel
theorem dX6_readClause_54 : decode cX6_readClause 54 = .ok (.ishl, 1) := by decide +kernel
theorem dX6_readClause_55 : decode cX6_readClause 55 = .ok (.ior, 1) := by decide +kernel
theorem dX6_readClause_56 : decode cX6_readClause 56 = .ok (.putfield 24, 3) := by decide +kernel
theorem dX6_readClause_59 : decode cX6_readClause 59 = .ok (.aload_n 1, 1) := by decide +kernel
theorem dX6_readClause_60 : decode cX6_readClause 60 = .ok (.iload_n 2, 1) := by decide +kernel
theorem dX6_readClause_61 : decode cX6_readClause 61 = .ok (.putfield 36, 3) := by decide +kernel
theorem dX6_readClause_64 : decode cX6_readClause 64 = .ok (.aload_n 1, 1) := by decide +kernel
theorem dX6_readClause_65 : decode cX6_readClause 65 = .ok (.invokevirtual 33, 3) := by decide +kernel
theorem dX6_readClause_68 : decode cX6_readClause 68 = .ok (.iload_n 3, 1) := by decide +kernel
theorem dX6_readClause_69 : decode cX6_readClause 69 = .ok (.iconst 5, 1) := by decide +kernel
theorem dX6_readClause_70 : decode cX6_readClause 70 = .ok (.if_icmp .ge 12, 3) := by decide +kernel
theorem dX6_readClause_73 : decode cX6_readClause 73 = .ok (.aload_n 0, 1) := by decide +kernel
theorem dX6_readClause_74 : decode cX6_readClause 74 = .ok (.aload_n 1, 1) := by decide +kernel
theorem dX6_readClause_75 : decode cX6_readClause 75 = .ok (.iload_n 3, 1) := by decide +kernel
theorem dX6_readClause_76 : decode cX6_readClause 76 = .ok (.invokevirtual 68, 3) := by decide +kernel
theorem dX6_readClause_79 : decode cX6_readClause 79 = .ok (.goto 9, 3) := by decide +kernel
theorem dX6_readClause_82 : decode cX6_readClause 82 = .ok (.aload_n 0, 1) := by decide +kernel
theorem dX6_readClause_83 : decode cX6_readClause 83 = .ok (.aload_n 1, 1) := by decide +kernel
theorem dX6_readClause_84 : decode cX6_readClause 84 = .ok (.iload_n 3, 1) := by decide +kernel
theorem dX6_readClause_85 : decode cX6_readClause 85 = .ok (.invokevirtual 72, 3) := by decide +kernel
theorem dX6_readClause_88 : decode cX6_readClause 88 = .ok (.aload_n 1, 1) := by decide +kernel
theorem dX6_readClause_89 : decode cX6_readClause 89 = .ok (.invokevirtual 42, 3) := by decide +kernel
theorem dX6_readClause_92 : decode cX6_readClause 92 = .ok (.ifCond .eq 7, 3) := by decide +kernel
theorem dX6_readClause_95 : decode cX6_readClause 95 = .ok (.aload_n 1, 1) := by decide +kernel
theorem dX6_readClause_96 : decode cX6_readClause 96 = .ok (.invokestatic 75, 3) := by decide +kernel
theorem dX6_readClause_99 : decode cX6_readClause 99 = .ok (.return_, 1) := by decide +kernel
theorem dX6_readNumber_0 : decode cX6_readNumber 0 = .ok (.aload_n 1, 1) := by decide +kernel
theorem dX6_readNumber_1 : decode cX6_readNumber 1 = .ok (.invokevirtual 78, 3) := by decide +kernel
theorem dX6_readNumber_4 : decode cX6_readNumber 4 = .ok (.istore_n 3, 1) := by decide +kernel
theorem dX6_readNumber_5 : decode cX6_readNumber 5 = .ok (.iload_n 3, 1) := by decide +kernel
theorem dX6_readNumber_6 : decode cX6_readNumber 6 = .ok (.aload_n 1, 1) := by decide +kernel
theorem dX6_readNumber_7 : decode cX6_readNumber 7 = .ok (.getfield 36, 3) := by decide +kernel
theorem dX6_readNumber_10 : decode cX6_readNumber 10 = .ok (.if_icmp .ne 13, 3) := by decide +kernel
theorem dX6_readNumber_13 : decode cX6_readNumber 13 = .ok (.aload_n 1, 1) := by decide +kernel
theorem dX6_readNumber_14 : decode cX6_readNumber 14 = .ok (.iconst 1, 1) := by decide +kernel
theorem dX6_readNumber_15 : decode cX6_readNumber 15 = .ok (.aload_n 1, 1) := by decide +kernel
theorem dX6_readNumber_16 : decode cX6_readNumber 16 = .ok (.getfield 36, 3) := by decide +kernel
theorem dX6_readNumber_19 : decode cX6_readNumber 19 = .ok (.invokevirtual 64, 3) := by decide +kernel
theorem dX6_readNumber_22 : decode cX6_readNumber 22 = .ok (.return_, 1) := by decide +kernel
theorem dX6_readNumber_23 : decode cX6_readNumber 23 = .ok (.iload_n 3, 1) := by decide +kernel
theorem dX6_readNumber_24 : decode cX6_readNumber 24 = .ok (.aload_n 1, 1) := by decide +kernel
theorem dX6_readNumber_25 : decode cX6_readNumber 25 = .ok (.getfield 36, 3) := by decide +kernel
theorem dX6_readNumber_28 : decode cX6_readNumber 28 = .ok (.isub, 1) := by decide +kernel
theorem dX6_readNumber_29 : decode cX6_readNumber 29 = .ok (.iconst 2, 1) := by decide +kernel
theorem dX6_readNumber_30 : decode cX6_readNumber 30 = .ok (.if_icmp .le 7, 3) := by decide +kernel
theorem dX6_readNumber_33 : decode cX6_readNumber 33 = .ok (.iconst (-1), 1) := by decide +kernel
theorem dX6_readNumber_34 : decode cX6_readNumber 34 = .ok (.goto 8, 3) := by decide +kernel
theorem dX6_readNumber_37 : decode cX6_readNumber 37 = .ok (.aload_n 1, 1) := by decide +kernel
theorem dX6_readNumber_38 : decode cX6_readNumber 38 = .ok (.iload_n 3, 1) := by decide +kernel
theorem dX6_readNumber_39 : decode cX6_readNumber 39 = .ok (.invokestatic 81, 3) := by decide +kernel
theorem dX6_readNumber_42 : decode cX6_readNumber 42 = .ok (.istore 4, 2) := by decide +kernel
theorem dX6_readNumber_44 : decode cX6_readNumber 44 = .ok (.iload 4, 2) := by decide +kernel
theorem dX6_readNumber_46 : decode cX6_readNumber 46 = .ok (.getstatic 84, 3) := by decide +kernel
theorem dX6_readNumber_49 : decode cX6_readNumber 49 = .ok (.iload_n 2, 1) := by decide +kernel
theorem dX6_readNumber_50 : decode cX6_readNumber 50 = .ok (.iaload, 1) := by decide +kernel
theorem dX6_readNumber_51 : decode cX6_readNumber 51 = .ok (.getstatic 87, 3) := by decide +kernel
theorem dX6_readNumber_54 : decode cX6_readNumber 54 = .ok (.iload_n 2, 1) := by decide +kernel
theorem dX6_readNumber_55 : decode cX6_readNumber 55 = .ok (.iaload, 1) := by decide +kernel
theorem dX6_readNumber_56 : decode cX6_readNumber 56 = .ok (.invokestatic 90, 3) := by decide +kernel
theorem dX6_readNumber_59 : decode cX6_readNumber 59 = .ok (.ifCond .ne 13, 3) := by decide +kernel
theorem dX6_readNumber_62 : decode cX6_readNumber 62 = .ok (.aload_n 1, 1) := by decide +kernel
theorem dX6_readNumber_63 : decode cX6_readNumber 63 = .ok (.iconst 2, 1) := by decide +kernel
theorem dX6_readNumber_64 : decode cX6_readNumber 64 = .ok (.aload_n 1, 1) := by decide +kernel
theorem dX6_readNumber_65 : decode cX6_readNumber 65 = .ok (.getfield 36, 3) := by decide +kernel
theorem dX6_readNumber_68 : decode cX6_readNumber 68 = .ok (.invokevirtual 64, 3) := by decide +kernel
theorem dX6_readNumber_71 : decode cX6_readNumber 71 = .ok (.return_, 1) := by decide +kernel
theorem dX6_readNumber_72 : decode cX6_readNumber 72 = .ok (.aload_n 0, 1) := by decide +kernel
theorem dX6_readNumber_73 : decode cX6_readNumber 73 = .ok (.getfield 11, 3) := by decide +kernel
theorem dX6_readNumber_76 : decode cX6_readNumber 76 = .ok (.iload_n 2, 1) := by decide +kernel
theorem dX6_readNumber_77 : decode cX6_readNumber 77 = .ok (.iload 4, 2) := by decide +kernel
theorem dX6_readNumber_79 : decode cX6_readNumber 79 = .ok (.iastore, 1) := by decide +kernel
theorem dX6_readNumber_80 : decode cX6_readNumber 80 = .ok (.aload_n 1, 1) := by decide +kernel
theorem dX6_readNumber_81 : decode cX6_readNumber 81 = .ok (.iload_n 3, 1) := by decide +kernel
theorem dX6_readNumber_82 : decode cX6_readNumber 82 = .ok (.putfield 36, 3) := by decide +kernel
theorem dX6_readNumber_85 : decode cX6_readNumber 85 = .ok (.return_, 1) := by decide +kernel
theorem dX6_numberUpTo_0 : decode cX6_numberUpTo 0 = .ok (.iconst 0, 1) := by decide +kernel
theorem dX6_numberUpTo_1 : decode cX6_numberUpTo 1 = .ok (.istore_n 2, 1) := by decide +kernel
theorem dX6_numberUpTo_2 : decode cX6_numberUpTo 2 = .ok (.aload_n 0, 1) := by decide +kernel
theorem dX6_numberUpTo_3 : decode cX6_numberUpTo 3 = .ok (.getfield 36, 3) := by decide +kernel
theorem dX6_numberUpTo_6 : decode cX6_numberUpTo 6 = .ok (.istore_n 3, 1) := by decide +kernel
theorem dX6_numberUpTo_7 : decode cX6_numberUpTo 7 = .ok (.iload_n 3, 1) := by decide +kernel
theorem dX6_numberUpTo_8 : decode cX6_numberUpTo 8 = .ok (.iload_n 1, 1) := by decide +kernel
theorem dX6_numberUpTo_9 : decode cX6_numberUpTo 9 = .ok (.if_icmp .ge 23, 3) := by decide +kernel
theorem dX6_numberUpTo_12 : decode cX6_numberUpTo 12 = .ok (.bipush 10, 2) := by decide +kernel
theorem dX6_numberUpTo_14 : decode cX6_numberUpTo 14 = .ok (.iload_n 2, 1) := by decide +kernel
theorem dX6_numberUpTo_15 : decode cX6_numberUpTo 15 = .ok (.imul, 1) := by decide +kernel
theorem dX6_numberUpTo_16 : decode cX6_numberUpTo 16 = .ok (.aload_n 0, 1) := by decide +kernel
theorem dX6_numberUpTo_17 : decode cX6_numberUpTo 17 = .ok (.iload_n 3, 1) := by decide +kernel
theorem dX6_numberUpTo_18 : decode cX6_numberUpTo 18 = .ok (.invokevirtual 94, 3) := by decide +kernel
theorem dX6_numberUpTo_21 : decode cX6_numberUpTo 21 = .ok (.iadd, 1) := by decide +kernel
theorem dX6_numberUpTo_22 : decode cX6_numberUpTo 22 = .ok (.bipush 48, 2) := by decide +kernel
theorem dX6_numberUpTo_24 : decode cX6_numberUpTo 24 = .ok (.isub, 1) := by decide +kernel
theorem dX6_numberUpTo_25 : decode cX6_numberUpTo 25 = .ok (.istore_n 2, 1) := by decide +kernel
theorem dX6_numberUpTo_26 : decode cX6_numberUpTo 26 = .ok (.iinc 3 1, 3) := by decide +kernel
theorem dX6_numberUpTo_29 : decode cX6_numberUpTo 29 = .ok (.goto (-22), 3) := by decide +kernel
theorem dX6_numberUpTo_32 : decode cX6_numberUpTo 32 = .ok (.iload_n 2, 1) := by decide +kernel
theorem dX6_numberUpTo_33 : decode cX6_numberUpTo 33 = .ok (.ireturn, 1) := by decide +kernel
theorem dX6_readChoice_0 : decode cX6_readChoice 0 = .ok (.aload_n 1, 1) := by decide +kernel
theorem dX6_readChoice_1 : decode cX6_readChoice 1 = .ok (.invokevirtual 56, 3) := by decide +kernel
theorem dX6_readChoice_4 : decode cX6_readChoice 4 = .ok (.istore_n 3, 1) := by decide +kernel
theorem dX6_readChoice_5 : decode cX6_readChoice 5 = .ok (.iload_n 2, 1) := by decide +kernel
theorem dX6_readChoice_6 : decode cX6_readChoice 6 = .ok (.iconst 5, 1) := by decide +kernel
theorem dX6_readChoice_7 : decode cX6_readChoice 7 = .ok (.if_icmp .ne 11, 3) := by decide +kernel
theorem dX6_readChoice_10 : decode cX6_readChoice 10 = .ok (.aload_n 1, 1) := by decide +kernel
theorem dX6_readChoice_11 : decode cX6_readChoice 11 = .ok (.iload_n 3, 1) := by decide +kernel
theorem dX6_readChoice_12 : decode cX6_readChoice 12 = .ok (.invokestatic 97, 3) := by decide +kernel
theorem dX6_readChoice_15 : decode cX6_readChoice 15 = .ok (.goto 8, 3) := by decide +kernel
theorem dX6_readChoice_18 : decode cX6_readChoice 18 = .ok (.aload_n 1, 1) := by decide +kernel
theorem dX6_readChoice_19 : decode cX6_readChoice 19 = .ok (.iload_n 3, 1) := by decide +kernel
theorem dX6_readChoice_20 : decode cX6_readChoice 20 = .ok (.invokestatic 100, 3) := by decide +kernel
theorem dX6_readChoice_23 : decode cX6_readChoice 23 = .ok (.istore 4, 2) := by decide +kernel
theorem dX6_readChoice_25 : decode cX6_readChoice 25 = .ok (.iload 4, 2) := by decide +kernel
theorem dX6_readChoice_27 : decode cX6_readChoice 27 = .ok (.iconst (-1), 1) := by decide +kernel
theorem dX6_readChoice_28 : decode cX6_readChoice 28 = .ok (.if_icmp .ne 13, 3) := by decide +kernel
theorem dX6_readChoice_31 : decode cX6_readChoice 31 = .ok (.aload_n 1, 1) := by decide +kernel
theorem dX6_readChoice_32 : decode cX6_readChoice 32 = .ok (.iconst 1, 1) := by decide +kernel
theorem dX6_readChoice_33 : decode cX6_readChoice 33 = .ok (.aload_n 1, 1) := by decide +kernel
theorem dX6_readChoice_34 : decode cX6_readChoice 34 = .ok (.getfield 36, 3) := by decide +kernel
theorem dX6_readChoice_37 : decode cX6_readChoice 37 = .ok (.invokevirtual 64, 3) := by decide +kernel
theorem dX6_readChoice_40 : decode cX6_readChoice 40 = .ok (.return_, 1) := by decide +kernel
theorem dX6_readChoice_41 : decode cX6_readChoice 41 = .ok (.aload_n 0, 1) := by decide +kernel
theorem dX6_readChoice_42 : decode cX6_readChoice 42 = .ok (.getfield 11, 3) := by decide +kernel
theorem dX6_readChoice_45 : decode cX6_readChoice 45 = .ok (.iload_n 2, 1) := by decide +kernel
theorem dX6_readChoice_46 : decode cX6_readChoice 46 = .ok (.iload 4, 2) := by decide +kernel
theorem dX6_readChoice_48 : decode cX6_readChoice 48 = .ok (.iastore, 1) := by decide +kernel
theorem dX6_readChoice_49 : decode cX6_readChoice 49 = .ok (.aload_n 1, 1) := by decide +kernel
theorem dX6_readChoice_50 : decode cX6_readChoice 50 = .ok (.iload_n 3, 1) := by decide +kernel
theorem dX6_readChoice_51 : decode cX6_readChoice 51 = .ok (.putfield 36, 3) := by decide +kernel
theorem dX6_readChoice_54 : decode cX6_readChoice 54 = .ok (.return_, 1) := by decide +kernel
theorem dX6_readClosing_0 : decode cX6_readClosing 0 = .ok (.aload_n 0, 1) := by decide +kernel
theorem dX6_readClosing_1 : decode cX6_readClosing 1 = .ok (.invokevirtual 33, 3) := by decide +kernel
theorem dX6_readClosing_4 : decode cX6_readClosing 4 = .ok (.aload_n 0, 1) := by decide +kernel
theorem dX6_readClosing_5 : decode cX6_readClosing 5 = .ok (.aload_n 0, 1) := by decide +kernel
theorem dX6_readClosing_6 : decode cX6_readClosing 6 = .ok (.getfield 36, 3) := by decide +kernel
theorem dX6_readClosing_9 : decode cX6_readClosing 9 = .ok (.invokevirtual 94, 3) := by decide +kernel
theorem dX6_readClosing_12 : decode cX6_readClosing 12 = .ok (.bipush 59, 2) := by decide +kernel
theorem dX6_readClosing_14 : decode cX6_readClosing 14 = .ok (.if_icmp .eq 13, 3) := by decide +kernel
theorem dX6_readClosing_17 : decode cX6_readClosing 17 = .ok (.aload_n 0, 1) := by decide +kernel
theorem dX6_readClosing_18 : decode cX6_readClosing 18 = .ok (.iconst 1, 1) := by decide +kernel
theorem dX6_readClosing_19 : decode cX6_readClosing 19 = .ok (.aload_n 0, 1) := by decide +kernel
theorem dX6_readClosing_20 : decode cX6_readClosing 20 = .ok (.getfield 36, 3) := by decide +kernel
theorem dX6_readClosing_23 : decode cX6_readClosing 23 = .ok (.invokevirtual 64, 3) := by decide +kernel
theorem dX6_readClosing_26 : decode cX6_readClosing 26 = .ok (.return_, 1) := by decide +kernel
theorem dX6_readClosing_27 : decode cX6_readClosing 27 = .ok (.aload_n 0, 1) := by decide +kernel
theorem dX6_readClosing_28 : decode cX6_readClosing 28 = .ok (.dup, 1) := by decide +kernel
theorem dX6_readClosing_29 : decode cX6_readClosing 29 = .ok (.getfield 36, 3) := by decide +kernel
theorem dX6_readClosing_32 : decode cX6_readClosing 32 = .ok (.iconst 1, 1) := by decide +kernel
theorem dX6_readClosing_33 : decode cX6_readClosing 33 = .ok (.iadd, 1) := by decide +kernel
theorem dX6_readClosing_34 : decode cX6_readClosing 34 = .ok (.putfield 36, 3) := by decide +kernel
theorem dX6_readClosing_37 : decode cX6_readClosing 37 = .ok (.return_, 1) := by decide +kernel
theorem dX6_clauseSpelled_0 : decode cX6_clauseSpelled 0 = .ok (.iconst 0, 1) := by decide +kernel
theorem dX6_clauseSpelled_1 : decode cX6_clauseSpelled 1 = .ok (.istore_n 2, 1) := by decide +kernel
theorem dX6_clauseSpelled_2 : decode cX6_clauseSpelled 2 = .ok (.iload_n 2, 1) := by decide +kernel
theorem dX6_clauseSpelled_3 : decode cX6_clauseSpelled 3 = .ok (.bipush 8, 2) := by decide +kernel
theorem dX6_clauseSpelled_5 : decode cX6_clauseSpelled 5 = .ok (.if_icmp .ge 23, 3) := by decide +kernel
theorem dX6_clauseSpelled_8 : decode cX6_clauseSpelled 8 = .ok (.aload_n 0, 1) := by decide +kernel
theorem dX6_clauseSpelled_9 : decode cX6_clauseSpelled 9 = .ok (.iload_n 1, 1) := by decide +kernel
theorem dX6_clauseSpelled_10 : decode cX6_clauseSpelled 10 = .ok (.iload_n 2, 1) := by decide +kernel
theorem dX6_clauseSpelled_11 : decode cX6_clauseSpelled 11 = .ok (.invokestatic 103, 3) := by decide +kernel
theorem dX6_clauseSpelled_14 : decode cX6_clauseSpelled 14 = .ok (.invokevirtual 107, 3) := by decide +kernel
theorem dX6_clauseSpelled_17 : decode cX6_clauseSpelled 17 = .ok (.ifCond .eq 5, 3) := by decide +kernel
theorem dX6_clauseSpelled_20 : decode cX6_clauseSpelled 20 = .ok (.iload_n 2, 1) := by decide +kernel
theorem dX6_clauseSpelled_21 : decode cX6_clauseSpelled 21 = .ok (.ireturn, 1) := by decide +kernel
theorem dX6_clauseSpelled_22 : decode cX6_clauseSpelled 22 = .ok (.iinc 2 1, 3) := by decide +kernel
theorem dX6_clauseSpelled_25 : decode cX6_clauseSpelled 25 = .ok (.goto (-23), 3) := by decide +kernel
theorem dX6_clauseSpelled_28 : decode cX6_clauseSpelled 28 = .ok (.iconst (-1), 1) := by decide +kernel
theorem dX6_clauseSpelled_29 : decode cX6_clauseSpelled 29 = .ok (.ireturn, 1) := by decide +kernel
theorem dX6_clauseWord_0 : decode cX6_clauseWord 0 = .ok (.iload_n 0, 1) := by decide +kernel
theorem dX6_clauseWord_1 : decode cX6_clauseWord 1 = .ok (.tableswitch 64 0 6 #[43, 46, 49, 52, 55, 58, 61], 43) := by decide +kernel
theorem dX6_clauseWord_44 : decode cX6_clauseWord 44 = .ok (.ldc 111, 2) := by decide +kernel
theorem dX6_clauseWord_46 : decode cX6_clauseWord 46 = .ok (.areturn, 1) := by decide +kernel
theorem dX6_clauseWord_47 : decode cX6_clauseWord 47 = .ok (.ldc 113, 2) := by decide +kernel
theorem dX6_clauseWord_49 : decode cX6_clauseWord 49 = .ok (.areturn, 1) := by decide +kernel
theorem dX6_clauseWord_50 : decode cX6_clauseWord 50 = .ok (.ldc 115, 2) := by decide +kernel
theorem dX6_clauseWord_52 : decode cX6_clauseWord 52 = .ok (.areturn, 1) := by decide +kernel
theorem dX6_clauseWord_53 : decode cX6_clauseWord 53 = .ok (.ldc 117, 2) := by decide +kernel
theorem dX6_clauseWord_55 : decode cX6_clauseWord 55 = .ok (.areturn, 1) := by decide +kernel
theorem dX6_clauseWord_56 : decode cX6_clauseWord 56 = .ok (.ldc 119, 2) := by decide +kernel
theorem dX6_clauseWord_58 : decode cX6_clauseWord 58 = .ok (.areturn, 1) := by decide +kernel
theorem dX6_clauseWord_59 : decode cX6_clauseWord 59 = .ok (.ldc 121, 2) := by decide +kernel
theorem dX6_clauseWord_61 : decode cX6_clauseWord 61 = .ok (.areturn, 1) := by decide +kernel
theorem dX6_clauseWord_62 : decode cX6_clauseWord 62 = .ok (.ldc 123, 2) := by decide +kernel
theorem dX6_clauseWord_64 : decode cX6_clauseWord 64 = .ok (.areturn, 1) := by decide +kernel
theorem dX6_clauseWord_65 : decode cX6_clauseWord 65 = .ok (.ldc 125, 2) := by decide +kernel
theorem dX6_clauseWord_67 : decode cX6_clauseWord 67 = .ok (.areturn, 1) := by decide +kernel
theorem dX6_cancelSpelled_0 : decode cX6_cancelSpelled 0 = .ok (.aload_n 0, 1) := by decide +kernel
theorem dX6_cancelSpelled_1 : decode cX6_cancelSpelled 1 = .ok (.iload_n 1, 1) := by decide +kernel
theorem dX6_cancelSpelled_2 : decode cX6_cancelSpelled 2 = .ok (.ldc 127, 2) := by decide +kernel
theorem dX6_cancelSpelled_4 : decode cX6_cancelSpelled 4 = .ok (.invokevirtual 107, 3) := by decide +kernel
theorem dX6_cancelSpelled_7 : decode cX6_cancelSpelled 7 = .ok (.ifCond .eq 5, 3) := by decide +kernel
theorem dX6_cancelSpelled_10 : decode cX6_cancelSpelled 10 = .ok (.iconst 0, 1) := by decide +kernel
theorem dX6_cancelSpelled_11 : decode cX6_cancelSpelled 11 = .ok (.ireturn, 1) := by decide +kernel
theorem dX6_cancelSpelled_12 : decode cX6_cancelSpelled 12 = .ok (.aload_n 0, 1) := by decide +kernel
theorem dX6_cancelSpelled_13 : decode cX6_cancelSpelled 13 = .ok (.iload_n 1, 1) := by decide +kernel
theorem dX6_cancelSpelled_14 : decode cX6_cancelSpelled 14 = .ok (.ldc 129, 2) := by decide +kernel
theorem dX6_cancelSpelled_16 : decode cX6_cancelSpelled 16 = .ok (.invokevirtual 107, 3) := by decide +kernel
theorem dX6_cancelSpelled_19 : decode cX6_cancelSpelled 19 = .ok (.ifCond .eq 5, 3) := by decide +kernel
theorem dX6_cancelSpelled_22 : decode cX6_cancelSpelled 22 = .ok (.iconst 1, 1) := by decide +kernel
theorem dX6_cancelSpelled_23 : decode cX6_cancelSpelled 23 = .ok (.ireturn, 1) := by decide +kernel
theorem dX6_cancelSpelled_24 : decode cX6_cancelSpelled 24 = .ok (.aload_n 0, 1) := by decide +kernel
theorem dX6_cancelSpelled_25 : decode cX6_cancelSpelled 25 = .ok (.iload_n 1, 1) := by decide +kernel
theorem dX6_cancelSpelled_26 : decode cX6_cancelSpelled 26 = .ok (.ldc 131, 2) := by decide +kernel
theorem dX6_cancelSpelled_28 : decode cX6_cancelSpelled 28 = .ok (.invokevirtual 107, 3) := by decide +kernel
theorem dX6_cancelSpelled_31 : decode cX6_cancelSpelled 31 = .ok (.ifCond .eq 7, 3) := by decide +kernel
theorem dX6_cancelSpelled_34 : decode cX6_cancelSpelled 34 = .ok (.iconst 2, 1) := by decide +kernel
theorem dX6_cancelSpelled_35 : decode cX6_cancelSpelled 35 = .ok (.goto 4, 3) := by decide +kernel
theorem dX6_cancelSpelled_38 : decode cX6_cancelSpelled 38 = .ok (.iconst (-1), 1) := by decide +kernel
theorem dX6_cancelSpelled_39 : decode cX6_cancelSpelled 39 = .ok (.ireturn, 1) := by decide +kernel
theorem dX6_yesSpelled_0 : decode cX6_yesSpelled 0 = .ok (.aload_n 0, 1) := by decide +kernel
theorem dX6_yesSpelled_1 : decode cX6_yesSpelled 1 = .ok (.iload_n 1, 1) := by decide +kernel
theorem dX6_yesSpelled_2 : decode cX6_yesSpelled 2 = .ok (.ldc 133, 2) := by decide +kernel
theorem dX6_yesSpelled_4 : decode cX6_yesSpelled 4 = .ok (.invokevirtual 107, 3) := by decide +kernel
theorem dX6_yesSpelled_7 : decode cX6_yesSpelled 7 = .ok (.ifCond .eq 5, 3) := by decide +kernel
theorem dX6_yesSpelled_10 : decode cX6_yesSpelled 10 = .ok (.iconst 1, 1) := by decide +kernel
theorem dX6_yesSpelled_11 : decode cX6_yesSpelled 11 = .ok (.ireturn, 1) := by decide +kernel
theorem dX6_yesSpelled_12 : decode cX6_yesSpelled 12 = .ok (.aload_n 0, 1) := by decide +kernel
theorem dX6_yesSpelled_13 : decode cX6_yesSpelled 13 = .ok (.iload_n 1, 1) := by decide +kernel
theorem dX6_yesSpelled_14 : decode cX6_yesSpelled 14 = .ok (.ldc 135, 2) := by decide +kernel
theorem dX6_yesSpelled_16 : decode cX6_yesSpelled 16 = .ok (.invokevirtual 107, 3) := by decide +kernel
theorem dX6_yesSpelled_19 : decode cX6_yesSpelled 19 = .ok (.ifCond .eq 7, 3) := by decide +kernel
theorem dX6_yesSpelled_22 : decode cX6_yesSpelled 22 = .ok (.iconst 0, 1) := by decide +kernel
theorem dX6_yesSpelled_23 : decode cX6_yesSpelled 23 = .ok (.goto 4, 3) := by decide +kernel
theorem dX6_yesSpelled_26 : decode cX6_yesSpelled 26 = .ok (.iconst (-1), 1) := by decide +kernel
theorem dX6_yesSpelled_27 : decode cX6_yesSpelled 27 = .ok (.ireturn, 1) := by decide +kernel
theorem dX7_init_0 : decode cX7_init 0 = .ok (.aload_n 0, 1) := by decide +kernel
theorem dX7_init_1 : decode cX7_init 1 = .ok (.invokespecial 3, 3) := by decide +kernel
theorem dX7_init_4 : decode cX7_init 4 = .ok (.aload_n 0, 1) := by decide +kernel
theorem dX7_init_5 : decode cX7_init 5 = .ok (.iconst 2, 1) := by decide +kernel
theorem dX7_init_6 : decode cX7_init 6 = .ok (.newarray .int, 2) := by decide +kernel
theorem dX7_init_8 : decode cX7_init 8 = .ok (.putfield 9, 3) := by decide +kernel
theorem dX7_init_11 : decode cX7_init 11 = .ok (.aload_n 0, 1) := by decide +kernel
theorem dX7_init_12 : decode cX7_init 12 = .ok (.bipush 12, 2) := by decide +kernel
theorem dX7_init_14 : decode cX7_init 14 = .ok (.newarray .long, 2) := by decide +kernel
theorem dX7_init_16 : decode cX7_init 16 = .ok (.putfield 17, 3) := by decide +kernel
theorem dX7_init_19 : decode cX7_init 19 = .ok (.aload_n 0, 1) := by decide +kernel
theorem dX7_init_20 : decode cX7_init 20 = .ok (.bipush 12, 2) := by decide +kernel
theorem dX7_init_22 : decode cX7_init 22 = .ok (.newarray .long, 2) := by decide +kernel
theorem dX7_init_24 : decode cX7_init 24 = .ok (.putfield 21, 3) := by decide +kernel
theorem dX7_init_27 : decode cX7_init 27 = .ok (.return_, 1) := by decide +kernel
theorem dX7_difference_0 : decode cX7_difference 0 = .ok (.aload_n 0, 1) := by decide +kernel
theorem dX7_difference_1 : decode cX7_difference 1 = .ok (.getfield 9, 3) := by decide +kernel
theorem dX7_difference_4 : decode cX7_difference 4 = .ok (.iconst 0, 1) := by decide +kernel
theorem dX7_difference_5 : decode cX7_difference 5 = .ok (.iaload, 1) := by decide +kernel
theorem dX7_difference_6 : decode cX7_difference 6 = .ok (.aload_n 0, 1) := by decide +kernel
theorem dX7_difference_7 : decode cX7_difference 7 = .ok (.getfield 9, 3) := by decide +kernel
theorem dX7_difference_10 : decode cX7_difference 10 = .ok (.iconst 1, 1) := by decide +kernel
theorem dX7_difference_11 : decode cX7_difference 11 = .ok (.iaload, 1) := by decide +kernel
theorem dX7_difference_12 : decode cX7_difference 12 = .ok (.isub, 1) := by decide +kernel
theorem dX7_difference_13 : decode cX7_difference 13 = .ok (.ireturn, 1) := by decide +kernel
theorem dX7_work_0 : decode cX7_work 0 = .ok (.aload_n 0, 1) := by decide +kernel
theorem dX7_work_1 : decode cX7_work 1 = .ok (.aload_n 1, 1) := by decide +kernel
theorem dX7_work_2 : decode cX7_work 2 = .ok (.aload_n 2, 1) := by decide +kernel
theorem dX7_work_3 : decode cX7_work 3 = .ok (.invokestatic 24, 3) := by decide +kernel
theorem dX7_work_6 : decode cX7_work 6 = .ok (.putfield 28, 3) := by decide +kernel
theorem dX7_work_9 : decode cX7_work 9 = .ok (.aload_n 0, 1) := by decide +kernel
theorem dX7_work_10 : decode cX7_work 10 = .ok (.getfield 28, 3) := by decide +kernel
theorem dX7_work_13 : decode cX7_work 13 = .ok (.aload_n 1, 1) := by decide +kernel
theorem dX7_work_14 : decode cX7_work 14 = .ok (.invokevirtual 32, 3) := by decide +kernel
theorem dX7_work_17 : decode cX7_work 17 = .ok (.iand, 1) := by decide +kernel
theorem dX7_work_18 : decode cX7_work 18 = .ok (.istore 4, 2) := by decide +kernel
theorem dX7_work_20 : decode cX7_work 20 = .ok (.aload_n 0, 1) := by decide +kernel
theorem dX7_work_21 : decode cX7_work 21 = .ok (.getfield 28, 3) := by decide +kernel
theorem dX7_work_24 : decode cX7_work 24 = .ok (.iload 4, 2) := by decide +kernel
theorem dX7_work_26 : decode cX7_work 26 = .ok (.iconst (-1), 1) := by decide +kernel
theorem dX7_work_27 : decode cX7_work 27 = .ok (.ixor, 1) := by decide +kernel
theorem dX7_work_28 : decode cX7_work 28 = .ok (.iand, 1) := by decide +kernel
theorem dX7_work_29 : decode cX7_work 29 = .ok (.istore 5, 2) := by decide +kernel
theorem dX7_work_31 : decode cX7_work 31 = .ok (.aload_n 0, 1) := by decide +kernel
theorem dX7_work_32 : decode cX7_work 32 = .ok (.aload_n 1, 1) := by decide +kernel
theorem dX7_work_33 : decode cX7_work 33 = .ok (.iload 4, 2) := by decide +kernel
theorem dX7_work_35 : decode cX7_work 35 = .ok (.aload_n 2, 1) := by decide +kernel
theorem dX7_work_36 : decode cX7_work 36 = .ok (.getfield 36, 3) := by decide +kernel
theorem dX7_work_39 : decode cX7_work 39 = .ok (.iconst 5, 1) := by decide +kernel
theorem dX7_work_40 : decode cX7_work 40 = .ok (.iaload, 1) := by decide +kernel
theorem dX7_work_41 : decode cX7_work 41 = .ok (.invokestatic 41, 3) := by decide +kernel
theorem dX7_work_44 : decode cX7_work 44 = .ok (.putfield 45, 3) := by decide +kernel
theorem dX7_work_47 : decode cX7_work 47 = .ok (.aload_n 0, 1) := by decide +kernel
theorem dX7_work_48 : decode cX7_work 48 = .ok (.iconst 0, 1) := by decide +kernel
theorem dX7_work_49 : decode cX7_work 49 = .ok (.putfield 48, 3) := by decide +kernel
theorem dX7_work_52 : decode cX7_work 52 = .ok (.aload_n 0, 1) := by decide +kernel
theorem dX7_work_53 : decode cX7_work 53 = .ok (.aload_n 1, 1) := by decide +kernel
theorem dX7_work_54 : decode cX7_work 54 = .ok (.iload_n 3, 1) := by decide +kernel
theorem dX7_work_55 : decode cX7_work 55 = .ok (.invokevirtual 51, 3) := by decide +kernel
theorem dX7_work_58 : decode cX7_work 58 = .ok (.iconst 0, 1) := by decide +kernel
theorem dX7_work_59 : decode cX7_work 59 = .ok (.istore 6, 2) := by decide +kernel
theorem dX7_work_61 : decode cX7_work 61 = .ok (.iload 6, 2) := by decide +kernel
theorem dX7_work_63 : decode cX7_work 63 = .ok (.iconst 2, 1) := by decide +kernel
theorem dX7_work_64 : decode cX7_work 64 = .ok (.if_icmp .ge 105, 3) := by decide +kernel
theorem dX7_work_67 : decode cX7_work 67 = .ok (.aload_n 1, 1) := by decide +kernel
theorem dX7_work_68 : decode cX7_work 68 = .ok (.iload 6, 2) := by decide +kernel
theorem dX7_work_70 : decode cX7_work 70 = .ok (.invokevirtual 55, 3) := by decide +kernel
theorem dX7_work_73 : decode cX7_work 73 = .ok (.istore 7, 2) := by decide +kernel
theorem dX7_work_75 : decode cX7_work 75 = .ok (.aload_n 0, 1) := by decide +kernel
theorem dX7_work_76 : decode cX7_work 76 = .ok (.iload 5, 2) := by decide +kernel
theorem dX7_work_78 : decode cX7_work 78 = .ok (.iload 7, 2) := by decide +kernel
theorem dX7_work_80 : decode cX7_work 80 = .ok (.iand, 1) := by decide +kernel
theorem dX7_work_81 : decode cX7_work 81 = .ok (.iload 5, 2) := by decide +kernel
theorem dX7_work_83 : decode cX7_work 83 = .ok (.iload 7, 2) := by decide +kernel
theorem dX7_work_85 : decode cX7_work 85 = .ok (.iconst (-1), 1) := by decide +kernel
theorem dX7_work_86 : decode cX7_work 86 = .ok (.ixor, 1) := by decide +kernel
theorem dX7_work_87 : decode cX7_work 87 = .ok (.iand, 1) := by decide +kernel
theorem dX7_work_88 : decode cX7_work 88 = .ok (.bipush 10, 2) := by decide +kernel
theorem dX7_work_90 : decode cX7_work 90 = .ok (.aload_n 2, 1) := by decide +kernel
theorem dX7_work_91 : decode cX7_work 91 = .ok (.getfield 36, 3) := by decide +kernel
theorem dX7_work_94 : decode cX7_work 94 = .ok (.iconst 3, 1) := by decide +kernel
theorem dX7_work_95 : decode cX7_work 95 = .ok (.iaload, 1) := by decide +kernel
theorem dX7_work_96 : decode cX7_work 96 = .ok (.imul, 1) := by decide +kernel
theorem dX7_work_97 : decode cX7_work 97 = .ok (.invokevirtual 59, 3) := by decide +kernel
theorem dX7_work_100 : decode cX7_work 100 = .ok (.istore 8, 2) := by decide +kernel
theorem dX7_work_102 : decode cX7_work 102 = .ok (.iload 8, 2) := by decide +kernel
theorem dX7_work_104 : decode cX7_work 104 = .ok (.aload_n 2, 1) := by decide +kernel
theorem dX7_work_105 : decode cX7_work 105 = .ok (.getfield 36, 3) := by decide +kernel
theorem dX7_work_108 : decode cX7_work 108 = .ok (.iconst 2, 1) := by decide +kernel
theorem dX7_work_109 : decode cX7_work 109 = .ok (.iaload, 1) := by decide +kernel
theorem dX7_work_110 : decode cX7_work 110 = .ok (.invokestatic 63, 3) := by decide +kernel
theorem dX7_work_113 : decode cX7_work 113 = .ok (.istore 8, 2) := by decide +kernel
theorem dX7_work_115 : decode cX7_work 115 = .ok (.aload_n 0, 1) := by decide +kernel
theorem dX7_work_116 : decode cX7_work 116 = .ok (.dup, 1) := by decide +kernel
theorem dX7_work_117 : decode cX7_work 117 = .ok (.getfield 48, 3) := by decide +kernel
theorem dX7_work_120 : decode cX7_work 120 = .ok (.iload 8, 2) := by decide +kernel
theorem dX7_work_122 : decode cX7_work 122 = .ok (.ior, 1) := by decide +kernel
theorem dX7_work_123 : decode cX7_work 123 = .ok (.putfield 48, 3) := by decide +kernel
theorem dX7_work_126 : decode cX7_work 126 = .ok (.aload_n 0, 1) := by decide +kernel
theorem dX7_work_127 : decode cX7_work 127 = .ok (.getfield 9, 3) := by decide +kernel
theorem dX7_work_130 : decode cX7_work 130 = .ok (.iload 6, 2) := by decide +kernel
theorem dX7_work_132 : decode cX7_work 132 = .ok (.aload_n 2, 1) := by decide +kernel
theorem dX7_work_133 : decode cX7_work 133 = .ok (.getfield 36, 3) := by decide +kernel
theorem dX7_work_136 : decode cX7_work 136 = .ok (.iconst 0, 1) := by decide +kernel
theorem dX7_work_137 : decode cX7_work 137 = .ok (.iaload, 1) := by decide +kernel
theorem dX7_work_138 : decode cX7_work 138 = .ok (.aload_n 0, 1) := by decide +kernel
theorem dX7_work_139 : decode cX7_work 139 = .ok (.getfield 45, 3) := by decide +kernel
theorem dX7_work_142 : decode cX7_work 142 = .ok (.iload 7, 2) := by decide +kernel
theorem dX7_work_144 : decode cX7_work 144 = .ok (.iand, 1) := by decide +kernel
theorem dX7_work_145 : decode cX7_work 145 = .ok (.invokestatic 67, 3) := by decide +kernel
theorem dX7_work_148 : decode cX7_work 148 = .ok (.imul, 1) := by decide +kernel
theorem dX7_work_149 : decode cX7_work 149 = .ok (.aload_n 2, 1) := by decide +kernel
theorem dX7_work_150 : decode cX7_work 150 = .ok (.getfield 36, 3) := by decide +kernel
theorem dX7_work_153 : decode cX7_work 153 = .ok (.iconst 1, 1) := by decide +kernel
theorem dX7_work_154 : decode cX7_work 154 = .ok (.iaload, 1) := by decide +kernel
theorem dX7_work_155 : decode cX7_work 155 = .ok (.iload 8, 2) := by decide +kernel
theorem dX7_work_157 : decode cX7_work 157 = .ok (.invokestatic 67, 3) := by decide +kernel
theorem dX7_work_160 : decode cX7_work 160 = .ok (.imul, 1) := by decide +kernel
theorem dX7_work_161 : decode cX7_work 161 = .ok (.iadd, 1) := by decide +kernel
theorem dX7_work_162 : decode cX7_work 162 = .ok (.iastore, 1) := by decide +kernel
theorem dX7_work_163 : decode cX7_work 163 = .ok (.iinc 6 1, 3) := by decide +kernel
theorem dX7_work_166 : decode cX7_work 166 = .ok (.goto (-105), 3) := by decide +kernel
theorem dX7_work_169 : decode cX7_work 169 = .ok (.return_, 1) := by decide +kernel
theorem dX7_disputedCounts_0 : decode cX7_disputedCounts 0 = .ok (.aload_n 1, 1) := by decide +kernel
theorem dX7_disputedCounts_1 : decode cX7_disputedCounts 1 = .ok (.aload_n 2, 1) := by decide +kernel
theorem dX7_disputedCounts_2 : decode cX7_disputedCounts 2 = .ok (.invokestatic 24, 3) := by decide +kernel
theorem dX7_disputedCounts_5 : decode cX7_disputedCounts 5 = .ok (.istore_n 3, 1) := by decide +kernel
theorem dX7_disputedCounts_6 : decode cX7_disputedCounts 6 = .ok (.iconst 0, 1) := by decide +kernel
theorem dX7_disputedCounts_7 : decode cX7_disputedCounts 7 = .ok (.istore 4, 2) := by decide +kernel
theorem dX7_disputedCounts_9 : decode cX7_disputedCounts 9 = .ok (.iload 4, 2) := by decide +kernel
theorem dX7_disputedCounts_11 : decode cX7_disputedCounts 11 = .ok (.aload_n 1, 1) := by decide +kernel
theorem dX7_disputedCounts_12 : decode cX7_disputedCounts 12 = .ok (.getfield 72, 3) := by decide +kernel
theorem dX7_disputedCounts_15 : decode cX7_disputedCounts 15 = .ok (.if_icmp .ge 33, 3) := by decide +kernel
theorem dX7_disputedCounts_18 : decode cX7_disputedCounts 18 = .ok (.iload_n 3, 1) := by decide +kernel
theorem dX7_disputedCounts_19 : decode cX7_disputedCounts 19 = .ok (.iload 4, 2) := by decide +kernel
theorem dX7_disputedCounts_21 : decode cX7_disputedCounts 21 = .ok (.ishr, 1) := by decide +kernel
theorem dX7_disputedCounts_22 : decode cX7_disputedCounts 22 = .ok (.iconst 1, 1) := by decide +kernel
theorem dX7_disputedCounts_23 : decode cX7_disputedCounts 23 = .ok (.iand, 1) := by decide +kernel
theorem dX7_disputedCounts_24 : decode cX7_disputedCounts 24 = .ok (.ifCond .eq 18, 3) := by decide +kernel
theorem dX7_disputedCounts_27 : decode cX7_disputedCounts 27 = .ok (.aload_n 1, 1) := by decide +kernel
theorem dX7_disputedCounts_28 : decode cX7_disputedCounts 28 = .ok (.getfield 75, 3) := by decide +kernel
theorem dX7_disputedCounts_31 : decode cX7_disputedCounts 31 = .ok (.iload 4, 2) := by decide +kernel
theorem dX7_disputedCounts_33 : decode cX7_disputedCounts 33 = .ok (.aaload, 1) := by decide +kernel
theorem dX7_disputedCounts_34 : decode cX7_disputedCounts 34 = .ok (.invokevirtual 79, 3) := by decide +kernel
theorem dX7_disputedCounts_37 : decode cX7_disputedCounts 37 = .ok (.ifCond .eq 5, 3) := by decide +kernel
theorem dX7_disputedCounts_40 : decode cX7_disputedCounts 40 = .ok (.iconst 1, 1) := by decide +kernel
theorem dX7_disputedCounts_41 : decode cX7_disputedCounts 41 = .ok (.ireturn, 1) := by decide +kernel
theorem dX7_disputedCounts_42 : decode cX7_disputedCounts 42 = .ok (.iinc 4 1, 3) := by decide +kernel
theorem dX7_disputedCounts_45 : decode cX7_disputedCounts 45 = .ok (.goto (-36), 3) := by decide +kernel
theorem dX7_disputedCounts_48 : decode cX7_disputedCounts 48 = .ok (.iconst 0, 1) := by decide +kernel
theorem dX7_disputedCounts_49 : decode cX7_disputedCounts 49 = .ok (.ireturn, 1) := by decide +kernel
theorem dX7_countingOf_0 : decode cX7_countingOf 0 = .ok (.aload_n 1, 1) := by decide +kernel
theorem dX7_countingOf_1 : decode cX7_countingOf 1 = .ok (.getfield 36, 3) := by decide +kernel
theorem dX7_countingOf_4 : decode cX7_countingOf 4 = .ok (.bipush 6, 2) := by decide +kernel
theorem dX7_countingOf_6 : decode cX7_countingOf 6 = .ok (.iaload, 1) := by decide +kernel
theorem dX7_countingOf_7 : decode cX7_countingOf 7 = .ok (.ifCond .ne 7, 3) := by decide +kernel
theorem dX7_countingOf_10 : decode cX7_countingOf 10 = .ok (.iconst 1, 1) := by decide +kernel
theorem dX7_countingOf_11 : decode cX7_countingOf 11 = .ok (.goto 4, 3) := by decide +kernel
theorem dX7_countingOf_14 : decode cX7_countingOf 14 = .ok (.iconst 0, 1) := by decide +kernel
theorem dX7_countingOf_15 : decode cX7_countingOf 15 = .ok (.istore_n 2, 1) := by decide +kernel
theorem dX7_countingOf_16 : decode cX7_countingOf 16 = .ok (.aload_n 1, 1) := by decide +kernel
theorem dX7_countingOf_17 : decode cX7_countingOf 17 = .ok (.getfield 36, 3) := by decide +kernel
theorem dX7_countingOf_20 : decode cX7_countingOf 20 = .ok (.bipush 7, 2) := by decide +kernel
theorem dX7_countingOf_22 : decode cX7_countingOf 22 = .ok (.iaload, 1) := by decide +kernel
theorem dX7_countingOf_23 : decode cX7_countingOf 23 = .ok (.ifCond .ne 7, 3) := by decide +kernel
theorem dX7_countingOf_26 : decode cX7_countingOf 26 = .ok (.iconst 1, 1) := by decide +kernel
theorem dX7_countingOf_27 : decode cX7_countingOf 27 = .ok (.goto 4, 3) := by decide +kernel
theorem dX7_countingOf_30 : decode cX7_countingOf 30 = .ok (.iconst 0, 1) := by decide +kernel
theorem dX7_countingOf_31 : decode cX7_countingOf 31 = .ok (.istore_n 3, 1) := by decide +kernel
theorem dX7_countingOf_32 : decode cX7_countingOf 32 = .ok (.iconst 0, 1) := by decide +kernel
theorem dX7_countingOf_33 : decode cX7_countingOf 33 = .ok (.istore 4, 2) := by decide +kernel
theorem dX7_countingOf_35 : decode cX7_countingOf 35 = .ok (.iconst 0, 1) := by decide +kernel
theorem dX7_countingOf_36 : decode cX7_countingOf 36 = .ok (.istore 5, 2) := by decide +kernel
theorem dX7_countingOf_38 : decode cX7_countingOf 38 = .ok (.iload 5, 2) := by decide +kernel
theorem dX7_countingOf_40 : decode cX7_countingOf 40 = .ok (.aload_n 0, 1) := by decide +kernel
theorem dX7_countingOf_41 : decode cX7_countingOf 41 = .ok (.getfield 72, 3) := by decide +kernel
theorem dX7_countingOf_44 : decode cX7_countingOf 44 = .ok (.if_icmp .ge 95, 3) := by decide +kernel
theorem dX7_countingOf_47 : decode cX7_countingOf 47 = .ok (.aload_n 0, 1) := by decide +kernel
theorem dX7_countingOf_48 : decode cX7_countingOf 48 = .ok (.getfield 75, 3) := by decide +kernel
theorem dX7_countingOf_51 : decode cX7_countingOf 51 = .ok (.iload 5, 2) := by decide +kernel
theorem dX7_countingOf_53 : decode cX7_countingOf 53 = .ok (.aaload, 1) := by decide +kernel
theorem dX7_countingOf_54 : decode cX7_countingOf 54 = .ok (.astore 6, 2) := by decide +kernel
theorem dX7_countingOf_56 : decode cX7_countingOf 56 = .ok (.aload 6, 2) := by decide +kernel
theorem dX7_countingOf_58 : decode cX7_countingOf 58 = .ok (.getfield 85, 3) := by decide +kernel
theorem dX7_countingOf_61 : decode cX7_countingOf 61 = .ok (.ifCond .ne 19, 3) := by decide +kernel
theorem dX7_countingOf_64 : decode cX7_countingOf 64 = .ok (.aload 6, 2) := by decide +kernel
theorem dX7_countingOf_66 : decode cX7_countingOf 66 = .ok (.getfield 89, 3) := by decide +kernel
theorem dX7_countingOf_69 : decode cX7_countingOf 69 = .ok (.ifCond .ne 7, 3) := by decide +kernel
theorem dX7_countingOf_72 : decode cX7_countingOf 72 = .ok (.iload_n 2, 1) := by decide +kernel
theorem dX7_countingOf_73 : decode cX7_countingOf 73 = .ok (.ifCond .ne 7, 3) := by decide +kernel
theorem dX7_countingOf_76 : decode cX7_countingOf 76 = .ok (.iconst 1, 1) := by decide +kernel
theorem dX7_countingOf_77 : decode cX7_countingOf 77 = .ok (.goto 4, 3) := by decide +kernel
theorem dX7_countingOf_80 : decode cX7_countingOf 80 = .ok (.iconst 0, 1) := by decide +kernel
theorem dX7_countingOf_81 : decode cX7_countingOf 81 = .ok (.istore 7, 2) := by decide +kernel
theorem dX7_countingOf_83 : decode cX7_countingOf 83 = .ok (.iload 7, 2) := by decide +kernel
theorem dX7_countingOf_85 : decode cX7_countingOf 85 = .ok (.ifCond .eq 35, 3) := by decide +kernel
theorem dX7_countingOf_88 : decode cX7_countingOf 88 = .ok (.iload_n 3, 1) := by decide +kernel
theorem dX7_countingOf_89 : decode cX7_countingOf 89 = .ok (.ifCond .eq 31, 3) := by decide +kernel
theorem dX7_countingOf_92 : decode cX7_countingOf 92 = .ok (.aload_n 0, 1) := by decide +kernel
theorem dX7_countingOf_93 : decode cX7_countingOf 93 = .ok (.iload 5, 2) := by decide +kernel
theorem dX7_countingOf_95 : decode cX7_countingOf 95 = .ok (.invokevirtual 92, 3) := by decide +kernel
theorem dX7_countingOf_98 : decode cX7_countingOf 98 = .ok (.aload_n 0, 1) := by decide +kernel
theorem dX7_countingOf_99 : decode cX7_countingOf 99 = .ok (.iconst 1, 1) := by decide +kernel
theorem dX7_countingOf_100 : decode cX7_countingOf 100 = .ok (.aload 6, 2) := by decide +kernel
theorem dX7_countingOf_102 : decode cX7_countingOf 102 = .ok (.getfield 95, 3) := by decide +kernel
theorem dX7_countingOf_105 : decode cX7_countingOf 105 = .ok (.isub, 1) := by decide +kernel
theorem dX7_countingOf_106 : decode cX7_countingOf 106 = .ok (.invokevirtual 55, 3) := by decide +kernel
theorem dX7_countingOf_109 : decode cX7_countingOf 109 = .ok (.iand, 1) := by decide +kernel
theorem dX7_countingOf_110 : decode cX7_countingOf 110 = .ok (.ifCond .ne 7, 3) := by decide +kernel
theorem dX7_countingOf_113 : decode cX7_countingOf 113 = .ok (.iconst 1, 1) := by decide +kernel
theorem dX7_countingOf_114 : decode cX7_countingOf 114 = .ok (.goto 4, 3) := by decide +kernel
theorem dX7_countingOf_117 : decode cX7_countingOf 117 = .ok (.iconst 0, 1) := by decide +kernel
theorem dX7_countingOf_118 : decode cX7_countingOf 118 = .ok (.istore 7, 2) := by decide +kernel
theorem dX7_countingOf_120 : decode cX7_countingOf 120 = .ok (.iload 4, 2) := by decide +kernel
theorem dX7_countingOf_122 : decode cX7_countingOf 122 = .ok (.iload 7, 2) := by decide +kernel
theorem dX7_countingOf_124 : decode cX7_countingOf 124 = .ok (.invokestatic 98, 3) := by decide +kernel
theorem dX7_countingOf_127 : decode cX7_countingOf 127 = .ok (.iload 5, 2) := by decide +kernel
theorem dX7_countingOf_129 : decode cX7_countingOf 129 = .ok (.ishl, 1) := by decide +kernel
theorem dX7_countingOf_130 : decode cX7_countingOf 130 = .ok (.ior, 1) := by decide +kernel
theorem dX7_countingOf_131 : decode cX7_countingOf 131 = .ok (.istore 4, 2) := by decide +kernel
theorem dX7_countingOf_133 : decode cX7_countingOf 133 = .ok (.iinc 5 1, 3) := by decide +kernel
theorem dX7_countingOf_136 : decode cX7_countingOf 136 = .ok (.goto (-98), 3) := by decide +kernel
theorem dX7_countingOf_139 : decode cX7_countingOf 139 = .ok (.iload 4, 2) := by decide +kernel
theorem dX7_countingOf_141 : decode cX7_countingOf 141 = .ok (.ireturn, 1) := by decide +kernel
theorem dX7_ringersThatPay_0 : decode cX7_ringersThatPay 0 = .ok (.iload_n 2, 1) := by decide +kernel
theorem dX7_ringersThatPay_1 : decode cX7_ringersThatPay 1 = .ok (.ifCond .ne 5, 3) := by decide +kernel
theorem dX7_ringersThatPay_4 : decode cX7_ringersThatPay 4 = .ok (.iload_n 1, 1) := by decide +kernel
theorem dX7_ringersThatPay_5 : decode cX7_ringersThatPay 5 = .ok (.ireturn, 1) := by decide +kernel
theorem dX7_ringersThatPay_6 : decode cX7_ringersThatPay 6 = .ok (.iload_n 2, 1) := by decide +kernel
theorem dX7_ringersThatPay_7 : decode cX7_ringersThatPay 7 = .ok (.iconst 2, 1) := by decide +kernel
theorem dX7_ringersThatPay_8 : decode cX7_ringersThatPay 8 = .ok (.if_icmp .ne 9, 3) := by decide +kernel
theorem dX7_ringersThatPay_11 : decode cX7_ringersThatPay 11 = .ok (.iload_n 1, 1) := by decide +kernel
theorem dX7_ringersThatPay_12 : decode cX7_ringersThatPay 12 = .ok (.iconst 1, 1) := by decide +kernel
theorem dX7_ringersThatPay_13 : decode cX7_ringersThatPay 13 = .ok (.invokestatic 102, 3) := by decide +kernel
theorem dX7_ringersThatPay_16 : decode cX7_ringersThatPay 16 = .ok (.ireturn, 1) := by decide +kernel
theorem dX7_ringersThatPay_17 : decode cX7_ringersThatPay 17 = .ok (.iload_n 1, 1) := by decide +kernel
theorem dX7_ringersThatPay_18 : decode cX7_ringersThatPay 18 = .ok (.aload_n 0, 1) := by decide +kernel
theorem dX7_ringersThatPay_19 : decode cX7_ringersThatPay 19 = .ok (.iconst 0, 1) := by decide +kernel
theorem dX7_ringersThatPay_20 : decode cX7_ringersThatPay 20 = .ok (.invokevirtual 55, 3) := by decide +kernel
theorem dX7_ringersThatPay_23 : decode cX7_ringersThatPay 23 = .ok (.iand, 1) := by decide +kernel
theorem dX7_ringersThatPay_24 : decode cX7_ringersThatPay 24 = .ok (.istore_n 3, 1) := by decide +kernel
theorem dX7_ringersThatPay_25 : decode cX7_ringersThatPay 25 = .ok (.iload_n 1, 1) := by decide +kernel
theorem dX7_ringersThatPay_26 : decode cX7_ringersThatPay 26 = .ok (.aload_n 0, 1) := by decide +kernel
theorem dX7_ringersThatPay_27 : decode cX7_ringersThatPay 27 = .ok (.iconst 1, 1) := by decide +kernel
theorem dX7_ringersThatPay_28 : decode cX7_ringersThatPay 28 = .ok (.invokevirtual 55, 3) := by decide +kernel
theorem dX7_ringersThatPay_31 : decode cX7_ringersThatPay 31 = .ok (.iand, 1) := by decide +kernel
theorem dX7_ringersThatPay_32 : decode cX7_ringersThatPay 32 = .ok (.istore 4, 2) := by decide +kernel
theorem dX7_ringersThatPay_34 : decode cX7_ringersThatPay 34 = .ok (.iload_n 3, 1) := by decide +kernel
theorem dX7_ringersThatPay_35 : decode cX7_ringersThatPay 35 = .ok (.invokestatic 67, 3) := by decide +kernel
theorem dX7_ringersThatPay_38 : decode cX7_ringersThatPay 38 = .ok (.iload 4, 2) := by decide +kernel
theorem dX7_ringersThatPay_40 : decode cX7_ringersThatPay 40 = .ok (.invokestatic 67, 3) := by decide +kernel
theorem dX7_ringersThatPay_43 : decode cX7_ringersThatPay 43 = .ok (.isub, 1) := by decide +kernel
theorem dX7_ringersThatPay_44 : decode cX7_ringersThatPay 44 = .ok (.istore 5, 2) := by decide +kernel
theorem dX7_ringersThatPay_46 : decode cX7_ringersThatPay 46 = .ok (.iload 5, 2) := by decide +kernel
theorem dX7_ringersThatPay_48 : decode cX7_ringersThatPay 48 = .ok (.ifCond .le 12, 3) := by decide +kernel
theorem dX7_ringersThatPay_51 : decode cX7_ringersThatPay 51 = .ok (.iload_n 3, 1) := by decide +kernel
theorem dX7_ringersThatPay_52 : decode cX7_ringersThatPay 52 = .ok (.iload 5, 2) := by decide +kernel
theorem dX7_ringersThatPay_54 : decode cX7_ringersThatPay 54 = .ok (.invokestatic 102, 3) := by decide +kernel
theorem dX7_ringersThatPay_57 : decode cX7_ringersThatPay 57 = .ok (.goto 11, 3) := by decide +kernel
theorem dX7_ringersThatPay_60 : decode cX7_ringersThatPay 60 = .ok (.iload 4, 2) := by decide +kernel
theorem dX7_ringersThatPay_62 : decode cX7_ringersThatPay 62 = .ok (.iload 5, 2) := by decide +kernel
theorem dX7_ringersThatPay_64 : decode cX7_ringersThatPay 64 = .ok (.ineg, 1) := by decide +kernel
theorem dX7_ringersThatPay_65 : decode cX7_ringersThatPay 65 = .ok (.invokestatic 102, 3) := by decide +kernel
theorem dX7_ringersThatPay_68 : decode cX7_ringersThatPay 68 = .ok (.ireturn, 1) := by decide +kernel
theorem dX7_latest_0 : decode cX7_latest 0 = .ok (.iconst 0, 1) := by decide +kernel
theorem dX7_latest_1 : decode cX7_latest 1 = .ok (.istore_n 2, 1) := by decide +kernel
theorem dX7_latest_2 : decode cX7_latest 2 = .ok (.bipush 11, 2) := by decide +kernel
theorem dX7_latest_4 : decode cX7_latest 4 = .ok (.istore_n 3, 1) := by decide +kernel
theorem dX7_latest_5 : decode cX7_latest 5 = .ok (.iload_n 3, 1) := by decide +kernel
theorem dX7_latest_6 : decode cX7_latest 6 = .ok (.ifCond .lt 25, 3) := by decide +kernel
theorem dX7_latest_9 : decode cX7_latest 9 = .ok (.iload_n 2, 1) := by decide +kernel
theorem dX7_latest_10 : decode cX7_latest 10 = .ok (.invokestatic 67, 3) := by decide +kernel
theorem dX7_latest_13 : decode cX7_latest 13 = .ok (.iload_n 1, 1) := by decide +kernel
theorem dX7_latest_14 : decode cX7_latest 14 = .ok (.if_icmp .ge 17, 3) := by decide +kernel
theorem dX7_latest_17 : decode cX7_latest 17 = .ok (.iload_n 2, 1) := by decide +kernel
theorem dX7_latest_18 : decode cX7_latest 18 = .ok (.iload_n 0, 1) := by decide +kernel
theorem dX7_latest_19 : decode cX7_latest 19 = .ok (.iconst 1, 1) := by decide +kernel
theorem dX7_latest_20 : decode cX7_latest 20 = .ok (.iload_n 3, 1) := by decide +kernel
theorem dX7_latest_21 : decode cX7_latest 21 = .ok (.ishl, 1) := by decide +kernel
theorem dX7_latest_22 : decode cX7_latest 22 = .ok (.iand, 1) := by decide +kernel
theorem dX7_latest_23 : decode cX7_latest 23 = .ok (.ior, 1) := by decide +kernel
theorem dX7_latest_24 : decode cX7_latest 24 = .ok (.istore_n 2, 1) := by decide +kernel
theorem dX7_latest_25 : decode cX7_latest 25 = .ok (.iinc 3 (-1), 3) := by decide +kernel
theorem dX7_latest_28 : decode cX7_latest 28 = .ok (.goto (-23), 3) := by decide +kernel
theorem dX7_latest_31 : decode cX7_latest 31 = .ok (.iload_n 2, 1) := by decide +kernel
theorem dX7_latest_32 : decode cX7_latest 32 = .ok (.ireturn, 1) := by decide +kernel
theorem dX7_earliest_0 : decode cX7_earliest 0 = .ok (.iconst 0, 1) := by decide +kernel
theorem dX7_earliest_1 : decode cX7_earliest 1 = .ok (.istore_n 2, 1) := by decide +kernel
theorem dX7_earliest_2 : decode cX7_earliest 2 = .ok (.iconst 0, 1) := by decide +kernel
theorem dX7_earliest_3 : decode cX7_earliest 3 = .ok (.istore_n 3, 1) := by decide +kernel
theorem dX7_earliest_4 : decode cX7_earliest 4 = .ok (.iload_n 3, 1) := by decide +kernel
theorem dX7_earliest_5 : decode cX7_earliest 5 = .ok (.bipush 12, 2) := by decide +kernel
theorem dX7_earliest_7 : decode cX7_earliest 7 = .ok (.if_icmp .ge 25, 3) := by decide +kernel
theorem dX7_earliest_10 : decode cX7_earliest 10 = .ok (.iload_n 2, 1) := by decide +kernel
theorem dX7_earliest_11 : decode cX7_earliest 11 = .ok (.invokestatic 67, 3) := by decide +kernel
theorem dX7_earliest_14 : decode cX7_earliest 14 = .ok (.iload_n 1, 1) := by decide +kernel
theorem dX7_earliest_15 : decode cX7_earliest 15 = .ok (.if_icmp .ge 17, 3) := by decide +kernel
theorem dX7_earliest_18 : decode cX7_earliest 18 = .ok (.iload_n 2, 1) := by decide +kernel
theorem dX7_earliest_19 : decode cX7_earliest 19 = .ok (.iload_n 0, 1) := by decide +kernel
theorem dX7_earliest_20 : decode cX7_earliest 20 = .ok (.iconst 1, 1) := by decide +kernel
theorem dX7_earliest_21 : decode cX7_earliest 21 = .ok (.iload_n 3, 1) := by decide +kernel
theorem dX7_earliest_22 : decode cX7_earliest 22 = .ok (.ishl, 1) := by decide +kernel
theorem dX7_earliest_23 : decode cX7_earliest 23 = .ok (.iand, 1) := by decide +kernel
theorem dX7_earliest_24 : decode cX7_earliest 24 = .ok (.ior, 1) := by decide +kernel
theorem dX7_earliest_25 : decode cX7_earliest 25 = .ok (.istore_n 2, 1) := by decide +kernel
theorem dX7_earliest_26 : decode cX7_earliest 26 = .ok (.iinc 3 1, 3) := by decide +kernel
theorem dX7_earliest_29 : decode cX7_earliest 29 = .ok (.goto (-25), 3) := by decide +kernel
theorem dX7_earliest_32 : decode cX7_earliest 32 = .ok (.iload_n 2, 1) := by decide +kernel
theorem dX7_earliest_33 : decode cX7_earliest 33 = .ok (.ireturn, 1) := by decide +kernel
theorem dX7_readNearness_0 : decode cX7_readNearness 0 = .ok (.iconst 0, 1) := by decide +kernel
theorem dX7_readNearness_1 : decode cX7_readNearness 1 = .ok (.istore_n 3, 1) := by decide +kernel
theorem dX7_readNearness_2 : decode cX7_readNearness 2 = .ok (.iload_n 3, 1) := by decide +kernel
theorem dX7_readNearness_3 : decode cX7_readNearness 3 = .ok (.aload_n 1, 1) := by decide +kernel
theorem dX7_readNearness_4 : decode cX7_readNearness 4 = .ok (.getfield 72, 3) := by decide +kernel
theorem dX7_readNearness_7 : decode cX7_readNearness 7 = .ok (.if_icmp .ge 51, 3) := by decide +kernel
theorem dX7_readNearness_10 : decode cX7_readNearness 10 = .ok (.aload_n 1, 1) := by decide +kernel
theorem dX7_readNearness_11 : decode cX7_readNearness 11 = .ok (.getfield 75, 3) := by decide +kernel
theorem dX7_readNearness_14 : decode cX7_readNearness 14 = .ok (.iload_n 3, 1) := by decide +kernel
theorem dX7_readNearness_15 : decode cX7_readNearness 15 = .ok (.aaload, 1) := by decide +kernel
theorem dX7_readNearness_16 : decode cX7_readNearness 16 = .ok (.astore 4, 2) := by decide +kernel
theorem dX7_readNearness_18 : decode cX7_readNearness 18 = .ok (.aload 4, 2) := by decide +kernel
theorem dX7_readNearness_20 : decode cX7_readNearness 20 = .ok (.iload_n 2, 1) := by decide +kernel
theorem dX7_readNearness_21 : decode cX7_readNearness 21 = .ok (.invokestatic 105, 3) := by decide +kernel
theorem dX7_readNearness_24 : decode cX7_readNearness 24 = .ok (.istore 5, 2) := by decide +kernel
theorem dX7_readNearness_26 : decode cX7_readNearness 26 = .ok (.aload_n 0, 1) := by decide +kernel
theorem dX7_readNearness_27 : decode cX7_readNearness 27 = .ok (.getfield 17, 3) := by decide +kernel
theorem dX7_readNearness_30 : decode cX7_readNearness 30 = .ok (.iload_n 3, 1) := by decide +kernel
theorem dX7_readNearness_31 : decode cX7_readNearness 31 = .ok (.aload 4, 2) := by decide +kernel
theorem dX7_readNearness_33 : decode cX7_readNearness 33 = .ok (.iload 5, 2) := by decide +kernel
theorem dX7_readNearness_35 : decode cX7_readNearness 35 = .ok (.invokevirtual 109, 3) := by decide +kernel
theorem dX7_readNearness_38 : decode cX7_readNearness 38 = .ok (.lastore, 1) := by decide +kernel
theorem dX7_readNearness_39 : decode cX7_readNearness 39 = .ok (.aload_n 0, 1) := by decide +kernel
theorem dX7_readNearness_40 : decode cX7_readNearness 40 = .ok (.getfield 21, 3) := by decide +kernel
theorem dX7_readNearness_43 : decode cX7_readNearness 43 = .ok (.iload_n 3, 1) := by decide +kernel
theorem dX7_readNearness_44 : decode cX7_readNearness 44 = .ok (.aload 4, 2) := by decide +kernel
theorem dX7_readNearness_46 : decode cX7_readNearness 46 = .ok (.iload 5, 2) := by decide +kernel
theorem dX7_readNearness_48 : decode cX7_readNearness 48 = .ok (.invokevirtual 113, 3) := by decide +kernel
theorem dX7_readNearness_51 : decode cX7_readNearness 51 = .ok (.lastore, 1) := by decide +kernel
theorem dX7_readNearness_52 : decode cX7_readNearness 52 = .ok (.iinc 3 1, 3) := by decide +kernel
theorem dX7_readNearness_55 : decode cX7_readNearness 55 = .ok (.goto (-53), 3) := by decide +kernel
theorem dX7_readNearness_58 : decode cX7_readNearness 58 = .ok (.return_, 1) := by decide +kernel
theorem dX7_aheadOf_0 : decode cX7_aheadOf 0 = .ok (.iconst 0, 1) := by decide +kernel
theorem dX7_aheadOf_1 : decode cX7_aheadOf 1 = .ok (.istore 4, 2) := by decide +kernel
theorem dX7_aheadOf_3 : decode cX7_aheadOf 3 = .ok (.iconst 0, 1) := by decide +kernel
theorem dX7_aheadOf_4 : decode cX7_aheadOf 4 = .ok (.istore 5, 2) := by decide +kernel
theorem dX7_aheadOf_6 : decode cX7_aheadOf 6 = .ok (.iload 5, 2) := by decide +kernel
theorem dX7_aheadOf_8 : decode cX7_aheadOf 8 = .ok (.bipush 12, 2) := by decide +kernel
theorem dX7_aheadOf_10 : decode cX7_aheadOf 10 = .ok (.if_icmp .ge 38, 3) := by decide +kernel
theorem dX7_aheadOf_13 : decode cX7_aheadOf 13 = .ok (.iload_n 1, 1) := by decide +kernel
theorem dX7_aheadOf_14 : decode cX7_aheadOf 14 = .ok (.iload 5, 2) := by decide +kernel
theorem dX7_aheadOf_16 : decode cX7_aheadOf 16 = .ok (.ishr, 1) := by decide +kernel
theorem dX7_aheadOf_17 : decode cX7_aheadOf 17 = .ok (.iconst 1, 1) := by decide +kernel
theorem dX7_aheadOf_18 : decode cX7_aheadOf 18 = .ok (.iand, 1) := by decide +kernel
theorem dX7_aheadOf_19 : decode cX7_aheadOf 19 = .ok (.ifCond .eq 23, 3) := by decide +kernel
theorem dX7_aheadOf_22 : decode cX7_aheadOf 22 = .ok (.aload_n 0, 1) := by decide +kernel
theorem dX7_aheadOf_23 : decode cX7_aheadOf 23 = .ok (.iload 5, 2) := by decide +kernel
theorem dX7_aheadOf_25 : decode cX7_aheadOf 25 = .ok (.iload_n 2, 1) := by decide +kernel
theorem dX7_aheadOf_26 : decode cX7_aheadOf 26 = .ok (.iload_n 3, 1) := by decide +kernel
theorem dX7_aheadOf_27 : decode cX7_aheadOf 27 = .ok (.invokevirtual 115, 3) := by decide +kernel
theorem dX7_aheadOf_30 : decode cX7_aheadOf 30 = .ok (.ifCond .eq 12, 3) := by decide +kernel
theorem dX7_aheadOf_33 : decode cX7_aheadOf 33 = .ok (.iload 4, 2) := by decide +kernel
theorem dX7_aheadOf_35 : decode cX7_aheadOf 35 = .ok (.iconst 1, 1) := by decide +kernel
theorem dX7_aheadOf_36 : decode cX7_aheadOf 36 = .ok (.iload 5, 2) := by decide +kernel
theorem dX7_aheadOf_38 : decode cX7_aheadOf 38 = .ok (.ishl, 1) := by decide +kernel
theorem dX7_aheadOf_39 : decode cX7_aheadOf 39 = .ok (.ior, 1) := by decide +kernel
theorem dX7_aheadOf_40 : decode cX7_aheadOf 40 = .ok (.istore 4, 2) := by decide +kernel
theorem dX7_aheadOf_42 : decode cX7_aheadOf 42 = .ok (.iinc 5 1, 3) := by decide +kernel
theorem dX7_aheadOf_45 : decode cX7_aheadOf 45 = .ok (.goto (-39), 3) := by decide +kernel
theorem dX7_aheadOf_48 : decode cX7_aheadOf 48 = .ok (.iload 4, 2) := by decide +kernel
theorem dX7_aheadOf_50 : decode cX7_aheadOf 50 = .ok (.ireturn, 1) := by decide +kernel
theorem dX7_isAhead_0 : decode cX7_isAhead 0 = .ok (.iconst 0, 1) := by decide +kernel
theorem dX7_isAhead_1 : decode cX7_isAhead 1 = .ok (.istore 4, 2) := by decide +kernel
theorem dX7_isAhead_3 : decode cX7_isAhead 3 = .ok (.iload 4, 2) := by decide +kernel
theorem dX7_isAhead_5 : decode cX7_isAhead 5 = .ok (.bipush 12, 2) := by decide +kernel
theorem dX7_isAhead_7 : decode cX7_isAhead 7 = .ok (.if_icmp .ge 67, 3) := by decide +kernel
theorem dX7_isAhead_10 : decode cX7_isAhead 10 = .ok (.iload_n 2, 1) := by decide +kernel
theorem dX7_isAhead_11 : decode cX7_isAhead 11 = .ok (.iload 4, 2) := by decide +kernel
theorem dX7_isAhead_13 : decode cX7_isAhead 13 = .ok (.ishr, 1) := by decide +kernel
theorem dX7_isAhead_14 : decode cX7_isAhead 14 = .ok (.iconst 1, 1) := by decide +kernel
theorem dX7_isAhead_15 : decode cX7_isAhead 15 = .ok (.iand, 1) := by decide +kernel
theorem dX7_isAhead_16 : decode cX7_isAhead 16 = .ok (.ifCond .eq 7, 3) := by decide +kernel
theorem dX7_isAhead_19 : decode cX7_isAhead 19 = .ok (.iconst 1, 1) := by decide +kernel
theorem dX7_isAhead_20 : decode cX7_isAhead 20 = .ok (.goto 4, 3) := by decide +kernel
theorem dX7_isAhead_23 : decode cX7_isAhead 23 = .ok (.iconst 0, 1) := by decide +kernel
theorem dX7_isAhead_24 : decode cX7_isAhead 24 = .ok (.istore 5, 2) := by decide +kernel
theorem dX7_isAhead_26 : decode cX7_isAhead 26 = .ok (.iload 5, 2) := by decide +kernel
theorem dX7_isAhead_28 : decode cX7_isAhead 28 = .ok (.ifCond .eq 40, 3) := by decide +kernel
theorem dX7_isAhead_31 : decode cX7_isAhead 31 = .ok (.aload_n 0, 1) := by decide +kernel
theorem dX7_isAhead_32 : decode cX7_isAhead 32 = .ok (.getfield 17, 3) := by decide +kernel
theorem dX7_isAhead_35 : decode cX7_isAhead 35 = .ok (.iload_n 1, 1) := by decide +kernel
theorem dX7_isAhead_36 : decode cX7_isAhead 36 = .ok (.laload, 1) := by decide +kernel
theorem dX7_isAhead_37 : decode cX7_isAhead 37 = .ok (.aload_n 0, 1) := by decide +kernel
theorem dX7_isAhead_38 : decode cX7_isAhead 38 = .ok (.getfield 21, 3) := by decide +kernel
theorem dX7_isAhead_41 : decode cX7_isAhead 41 = .ok (.iload_n 1, 1) := by decide +kernel
theorem dX7_isAhead_42 : decode cX7_isAhead 42 = .ok (.laload, 1) := by decide +kernel
theorem dX7_isAhead_43 : decode cX7_isAhead 43 = .ok (.iload_n 3, 1) := by decide +kernel
theorem dX7_isAhead_44 : decode cX7_isAhead 44 = .ok (.i2l, 1) := by decide +kernel
theorem dX7_isAhead_45 : decode cX7_isAhead 45 = .ok (.ladd, 1) := by decide +kernel
theorem dX7_isAhead_46 : decode cX7_isAhead 46 = .ok (.aload_n 0, 1) := by decide +kernel
theorem dX7_isAhead_47 : decode cX7_isAhead 47 = .ok (.getfield 17, 3) := by decide +kernel
theorem dX7_isAhead_50 : decode cX7_isAhead 50 = .ok (.iload 4, 2) := by decide +kernel
theorem dX7_isAhead_52 : decode cX7_isAhead 52 = .ok (.laload, 1) := by decide +kernel
theorem dX7_isAhead_53 : decode cX7_isAhead 53 = .ok (.aload_n 0, 1) := by decide +kernel
theorem dX7_isAhead_54 : decode cX7_isAhead 54 = .ok (.getfield 21, 3) := by decide +kernel
theorem dX7_isAhead_57 : decode cX7_isAhead 57 = .ok (.iload 4, 2) := by decide +kernel
theorem dX7_isAhead_59 : decode cX7_isAhead 59 = .ok (.laload, 1) := by decide +kernel
theorem dX7_isAhead_60 : decode cX7_isAhead 60 = .ok (.invokestatic 119, 3) := by decide +kernel
theorem dX7_isAhead_63 : decode cX7_isAhead 63 = .ok (.ifCond .lt 5, 3) := by decide +kernel
theorem dX7_isAhead_66 : decode cX7_isAhead 66 = .ok (.iconst 0, 1) := by decide +kernel
theorem dX7_isAhead_67 : decode cX7_isAhead 67 = .ok (.ireturn, 1) := by decide +kernel
theorem dX7_isAhead_68 : decode cX7_isAhead 68 = .ok (.iinc 4 1, 3) := by decide +kernel
theorem dX7_isAhead_71 : decode cX7_isAhead 71 = .ok (.goto (-68), 3) := by decide +kernel
theorem dX7_isAhead_74 : decode cX7_isAhead 74 = .ok (.iconst 1, 1) := by decide +kernel
theorem dX7_isAhead_75 : decode cX7_isAhead 75 = .ok (.ireturn, 1) := by decide +kernel
theorem dX7_readingOf_0 : decode cX7_readingOf 0 = .ok (.iload_n 1, 1) := by decide +kernel
theorem dX7_readingOf_1 : decode cX7_readingOf 1 = .ok (.iconst (-1), 1) := by decide +kernel
theorem dX7_readingOf_2 : decode cX7_readingOf 2 = .ok (.if_icmp .ne 5, 3) := by decide +kernel
theorem dX7_readingOf_5 : decode cX7_readingOf 5 = .ok (.iconst 0, 1) := by decide +kernel
theorem dX7_readingOf_6 : decode cX7_readingOf 6 = .ok (.ireturn, 1) := by decide +kernel
theorem dX7_readingOf_7 : decode cX7_readingOf 7 = .ok (.aload_n 0, 1) := by decide +kernel
theorem dX7_readingOf_8 : decode cX7_readingOf 8 = .ok (.getfield 95, 3) := by decide +kernel
theorem dX7_readingOf_11 : decode cX7_readingOf 11 = .ok (.iload_n 1, 1) := by decide +kernel
theorem dX7_readingOf_12 : decode cX7_readingOf 12 = .ok (.if_icmp .ne 7, 3) := by decide +kernel
theorem dX7_readingOf_15 : decode cX7_readingOf 15 = .ok (.iconst 1, 1) := by decide +kernel
theorem dX7_readingOf_16 : decode cX7_readingOf 16 = .ok (.goto 4, 3) := by decide +kernel
theorem dX7_readingOf_19 : decode cX7_readingOf 19 = .ok (.iconst 2, 1) := by decide +kernel
theorem dX7_readingOf_20 : decode cX7_readingOf 20 = .ok (.ireturn, 1) := by decide +kernel
theorem dX8_init_0 : decode cX8_init 0 = .ok (.aload_n 0, 1) := by decide +kernel
theorem dX8_init_1 : decode cX8_init 1 = .ok (.invokespecial 3, 3) := by decide +kernel
theorem dX8_init_4 : decode cX8_init 4 = .ok (.aload_n 0, 1) := by decide +kernel
theorem dX8_init_5 : decode cX8_init 5 = .ok (.bipush 100, 2) := by decide +kernel
theorem dX8_init_7 : decode cX8_init 7 = .ok (.newarray .int, 2) := by decide +kernel
theorem dX8_init_9 : decode cX8_init 9 = .ok (.putfield 11, 3) := by decide +kernel
theorem dX8_init_12 : decode cX8_init 12 = .ok (.aload_n 0, 1) := by decide +kernel
theorem dX8_init_13 : decode cX8_init 13 = .ok (.iconst (-1), 1) := by decide +kernel
theorem dX8_init_14 : decode cX8_init 14 = .ok (.putfield 15, 3) := by decide +kernel
theorem dX8_init_17 : decode cX8_init 17 = .ok (.return_, 1) := by decide +kernel
theorem dX8_add_0 : decode cX8_add 0 = .ok (.aload_n 0, 1) := by decide +kernel
theorem dX8_add_1 : decode cX8_add 1 = .ok (.getfield 19, 3) := by decide +kernel
theorem dX8_add_4 : decode cX8_add 4 = .ok (.bipush 100, 2) := by decide +kernel
theorem dX8_add_6 : decode cX8_add 6 = .ok (.if_icmp .ge 23, 3) := by decide +kernel
theorem dX8_add_9 : decode cX8_add 9 = .ok (.aload_n 0, 1) := by decide +kernel
theorem dX8_add_10 : decode cX8_add 10 = .ok (.getfield 11, 3) := by decide +kernel
theorem dX8_add_13 : decode cX8_add 13 = .ok (.aload_n 0, 1) := by decide +kernel
theorem dX8_add_14 : decode cX8_add 14 = .ok (.getfield 19, 3) := by decide +kernel
theorem dX8_add_17 : decode cX8_add 17 = .ok (.iload_n 1, 1) := by decide +kernel
theorem dX8_add_18 : decode cX8_add 18 = .ok (.iastore, 1) := by decide +kernel
theorem dX8_add_19 : decode cX8_add 19 = .ok (.aload_n 0, 1) := by decide +kernel
theorem dX8_add_20 : decode cX8_add 20 = .ok (.dup, 1) := by decide +kernel
theorem dX8_add_21 : decode cX8_add 21 = .ok (.getfield 19, 3) := by decide +kernel
theorem dX8_add_24 : decode cX8_add 24 = .ok (.iconst 1, 1) := by decide +kernel
theorem dX8_add_25 : decode cX8_add 25 = .ok (.iadd, 1) := by decide +kernel
theorem dX8_add_26 : decode cX8_add 26 = .ok (.putfield 19, 3) := by decide +kernel
theorem dX8_add_29 : decode cX8_add 29 = .ok (.return_, 1) := by decide +kernel
theorem dX8_clear_0 : decode cX8_clear 0 = .ok (.aload_n 0, 1) := by decide +kernel
theorem dX8_clear_1 : decode cX8_clear 1 = .ok (.iconst 0, 1) := by decide +kernel
theorem dX8_clear_2 : decode cX8_clear 2 = .ok (.putfield 19, 3) := by decide +kernel
theorem dX8_clear_5 : decode cX8_clear 5 = .ok (.return_, 1) := by decide +kernel
theorem dX8_startReading_0 : decode cX8_startReading 0 = .ok (.aload_n 0, 1) := by decide +kernel
theorem dX8_startReading_1 : decode cX8_startReading 1 = .ok (.iconst 0, 1) := by decide +kernel
theorem dX8_startReading_2 : decode cX8_startReading 2 = .ok (.putfield 22, 3) := by decide +kernel
theorem dX8_startReading_5 : decode cX8_startReading 5 = .ok (.aload_n 0, 1) := by decide +kernel
theorem dX8_startReading_6 : decode cX8_startReading 6 = .ok (.iconst 0, 1) := by decide +kernel
theorem dX8_startReading_7 : decode cX8_startReading 7 = .ok (.putfield 25, 3) := by decide +kernel
theorem dX8_startReading_10 : decode cX8_startReading 10 = .ok (.aload_n 0, 1) := by decide +kernel
theorem dX8_startReading_11 : decode cX8_startReading 11 = .ok (.iconst (-1), 1) := by decide +kernel
theorem dX8_startReading_12 : decode cX8_startReading 12 = .ok (.putfield 15, 3) := by decide +kernel
theorem dX8_startReading_15 : decode cX8_startReading 15 = .ok (.return_, 1) := by decide +kernel
theorem dX8_isSound_0 : decode cX8_isSound 0 = .ok (.aload_n 0, 1) := by decide +kernel
theorem dX8_isSound_1 : decode cX8_isSound 1 = .ok (.getfield 25, 3) := by decide +kernel
theorem dX8_isSound_4 : decode cX8_isSound 4 = .ok (.ifCond .ne 7, 3) := by decide +kernel
theorem dX8_isSound_7 : decode cX8_isSound 7 = .ok (.iconst 1, 1) := by decide +kernel
theorem dX8_isSound_8 : decode cX8_isSound 8 = .ok (.goto 4, 3) := by decide +kernel
theorem dX8_isSound_11 : decode cX8_isSound 11 = .ok (.iconst 0, 1) := by decide +kernel
theorem dX8_isSound_12 : decode cX8_isSound 12 = .ok (.ireturn, 1) := by decide +kernel
theorem dX8_refuse_0 : decode cX8_refuse 0 = .ok (.aload_n 0, 1) := by decide +kernel
theorem dX8_refuse_1 : decode cX8_refuse 1 = .ok (.iload_n 1, 1) := by decide +kernel
theorem dX8_refuse_2 : decode cX8_refuse 2 = .ok (.putfield 25, 3) := by decide +kernel
theorem dX8_refuse_5 : decode cX8_refuse 5 = .ok (.aload_n 0, 1) := by decide +kernel
theorem dX8_refuse_6 : decode cX8_refuse 6 = .ok (.iload_n 2, 1) := by decide +kernel
theorem dX8_refuse_7 : decode cX8_refuse 7 = .ok (.putfield 15, 3) := by decide +kernel
theorem dX8_refuse_10 : decode cX8_refuse 10 = .ok (.return_, 1) := by decide +kernel
theorem dX8_byteAt_0 : decode cX8_byteAt 0 = .ok (.iload_n 1, 1) := by decide +kernel
theorem dX8_byteAt_1 : decode cX8_byteAt 1 = .ok (.iconst 0, 1) := by decide +kernel
theorem dX8_byteAt_2 : decode cX8_byteAt 2 = .ok (.aload_n 0, 1) := by decide +kernel
theorem dX8_byteAt_3 : decode cX8_byteAt 3 = .ok (.getfield 19, 3) := by decide +kernel
theorem dX8_byteAt_6 : decode cX8_byteAt 6 = .ok (.iconst 1, 1) := by decide +kernel
theorem dX8_byteAt_7 : decode cX8_byteAt 7 = .ok (.isub, 1) := by decide +kernel
theorem dX8_byteAt_8 : decode cX8_byteAt 8 = .ok (.invokestatic 28, 3) := by decide +kernel
theorem dX8_byteAt_11 : decode cX8_byteAt 11 = .ok (.ifCond .eq 12, 3) := by decide +kernel
theorem dX8_byteAt_14 : decode cX8_byteAt 14 = .ok (.aload_n 0, 1) := by decide +kernel
theorem dX8_byteAt_15 : decode cX8_byteAt 15 = .ok (.getfield 11, 3) := by decide +kernel
theorem dX8_byteAt_18 : decode cX8_byteAt 18 = .ok (.iload_n 1, 1) := by decide +kernel
theorem dX8_byteAt_19 : decode cX8_byteAt 19 = .ok (.iaload, 1) := by decide +kernel
theorem dX8_byteAt_20 : decode cX8_byteAt 20 = .ok (.goto 4, 3) := by decide +kernel
theorem dX8_byteAt_23 : decode cX8_byteAt 23 = .ok (.iconst (-1), 1) := by decide +kernel
theorem dX8_byteAt_24 : decode cX8_byteAt 24 = .ok (.ireturn, 1) := by decide +kernel
theorem dX8_skipBlanks_0 : decode cX8_skipBlanks 0 = .ok (.aload_n 0, 1) := by decide +kernel
theorem dX8_skipBlanks_1 : decode cX8_skipBlanks 1 = .ok (.getfield 22, 3) := by decide +kernel
theorem dX8_skipBlanks_4 : decode cX8_skipBlanks 4 = .ok (.aload_n 0, 1) := by decide +kernel
theorem dX8_skipBlanks_5 : decode cX8_skipBlanks 5 = .ok (.getfield 19, 3) := by decide +kernel
theorem dX8_skipBlanks_8 : decode cX8_skipBlanks 8 = .ok (.if_icmp .ge 29, 3) := by decide +kernel
theorem dX8_skipBlanks_11 : decode cX8_skipBlanks 11 = .ok (.aload_n 0, 1) := by decide +kernel
theorem dX8_skipBlanks_12 : decode cX8_skipBlanks 12 = .ok (.aload_n 0, 1) := by decide +kernel
theorem dX8_skipBlanks_13 : decode cX8_skipBlanks 13 = .ok (.getfield 22, 3) := by decide +kernel
theorem dX8_skipBlanks_16 : decode cX8_skipBlanks 16 = .ok (.invokevirtual 32, 3) := by decide +kernel
theorem dX8_skipBlanks_19 : decode cX8_skipBlanks 19 = .ok (.bipush 32, 2) := by decide +kernel
theorem dX8_skipBlanks_21 : decode cX8_skipBlanks 21 = .ok (.if_icmp .ne 16, 3) := by decide +kernel
theorem dX8_skipBlanks_24 : decode cX8_skipBlanks 24 = .ok (.aload_n 0, 1) := by decide +kernel
theorem dX8_skipBlanks_25 : decode cX8_skipBlanks 25 = .ok (.dup, 1) := by decide +kernel
theorem dX8_skipBlanks_26 : decode cX8_skipBlanks 26 = .ok (.getfield 22, 3) := by decide +kernel
theorem dX8_skipBlanks_29 : decode cX8_skipBlanks 29 = .ok (.iconst 1, 1) := by decide +kernel
theorem dX8_skipBlanks_30 : decode cX8_skipBlanks 30 = .ok (.iadd, 1) := by decide +kernel
theorem dX8_skipBlanks_31 : decode cX8_skipBlanks 31 = .ok (.putfield 22, 3) := by decide +kernel
theorem dX8_skipBlanks_34 : decode cX8_skipBlanks 34 = .ok (.goto (-34), 3) := by decide +kernel
theorem dX8_skipBlanks_37 : decode cX8_skipBlanks 37 = .ok (.return_, 1) := by decide +kernel
theorem dX8_wordStop_0 : decode cX8_wordStop 0 = .ok (.aload_n 0, 1) := by decide +kernel
theorem dX8_wordStop_1 : decode cX8_wordStop 1 = .ok (.getfield 22, 3) := by decide +kernel
theorem dX8_wordStop_4 : decode cX8_wordStop 4 = .ok (.istore_n 1, 1) := by decide +kernel
theorem dX8_wordStop_5 : decode cX8_wordStop 5 = .ok (.iload_n 1, 1) := by decide +kernel
theorem dX8_wordStop_6 : decode cX8_wordStop 6 = .ok (.aload_n 0, 1) := by decide +kernel
theorem dX8_wordStop_7 : decode cX8_wordStop 7 = .ok (.getfield 19, 3) := by decide +kernel
theorem dX8_wordStop_10 : decode cX8_wordStop 10 = .ok (.if_icmp .ge 24, 3) := by decide +kernel
theorem dX8_wordStop_13 : decode cX8_wordStop 13 = .ok (.aload_n 0, 1) := by decide +kernel
theorem dX8_wordStop_14 : decode cX8_wordStop 14 = .ok (.iload_n 1, 1) := by decide +kernel
theorem dX8_wordStop_15 : decode cX8_wordStop 15 = .ok (.invokevirtual 32, 3) := by decide +kernel
theorem dX8_wordStop_18 : decode cX8_wordStop 18 = .ok (.bipush 97, 2) := by decide +kernel
theorem dX8_wordStop_20 : decode cX8_wordStop 20 = .ok (.bipush 122, 2) := by decide +kernel
theorem dX8_wordStop_22 : decode cX8_wordStop 22 = .ok (.invokestatic 28, 3) := by decide +kernel
theorem dX8_wordStop_25 : decode cX8_wordStop 25 = .ok (.ifCond .eq 9, 3) := by decide +kernel
theorem dX8_wordStop_28 : decode cX8_wordStop 28 = .ok (.iinc 1 1, 3) := by decide +kernel
theorem dX8_wordStop_31 : decode cX8_wordStop 31 = .ok (.goto (-26), 3) := by decide +kernel
theorem dX8_wordStop_34 : decode cX8_wordStop 34 = .ok (.iload_n 1, 1) := by decide +kernel
theorem dX8_wordStop_35 : decode cX8_wordStop 35 = .ok (.ireturn, 1) := by decide +kernel
theorem dX8_figuresStop_0 : decode cX8_figuresStop 0 = .ok (.aload_n 0, 1) := by decide +kernel
theorem dX8_figuresStop_1 : decode cX8_figuresStop 1 = .ok (.getfield 22, 3) := by decide +kernel
theorem dX8_figuresStop_4 : decode cX8_figuresStop 4 = .ok (.istore_n 1, 1) := by decide +kernel
theorem dX8_figuresStop_5 : decode cX8_figuresStop 5 = .ok (.iload_n 1, 1) := by decide +kernel
theorem dX8_figuresStop_6 : decode cX8_figuresStop 6 = .ok (.aload_n 0, 1) := by decide +kernel
theorem dX8_figuresStop_7 : decode cX8_figuresStop 7 = .ok (.getfield 19, 3) := by decide +kernel
theorem dX8_figuresStop_10 : decode cX8_figuresStop 10 = .ok (.if_icmp .ge 24, 3) := by decide +kernel
theorem dX8_figuresStop_13 : decode cX8_figuresStop 13 = .ok (.aload_n 0, 1) := by decide +kernel
theorem dX8_figuresStop_14 : decode cX8_figuresStop 14 = .ok (.iload_n 1, 1) := by decide +kernel
theorem dX8_figuresStop_15 : decode cX8_figuresStop 15 = .ok (.invokevirtual 32, 3) := by decide +kernel
theorem dX8_figuresStop_18 : decode cX8_figuresStop 18 = .ok (.bipush 48, 2) := by decide +kernel
theorem dX8_figuresStop_20 : decode cX8_figuresStop 20 = .ok (.bipush 57, 2) := by decide +kernel
theorem dX8_figuresStop_22 : decode cX8_figuresStop 22 = .ok (.invokestatic 28, 3) := by decide +kernel
theorem dX8_figuresStop_25 : decode cX8_figuresStop 25 = .ok (.ifCond .eq 9, 3) := by decide +kernel
theorem dX8_figuresStop_28 : decode cX8_figuresStop 28 = .ok (.iinc 1 1, 3) := by decide +kernel
theorem dX8_figuresStop_31 : decode cX8_figuresStop 31 = .ok (.goto (-26), 3) := by decide +kernel
theorem dX8_figuresStop_34 : decode cX8_figuresStop 34 = .ok (.iload_n 1, 1) := by decide +kernel
theorem dX8_figuresStop_35 : decode cX8_figuresStop 35 = .ok (.ireturn, 1) := by decide +kernel
theorem dX8_spells_0 : decode cX8_spells 0 = .ok (.iload_n 1, 1) := by decide +kernel
theorem dX8_spells_1 : decode cX8_spells 1 = .ok (.aload_n 0, 1) := by decide +kernel
theorem dX8_spells_2 : decode cX8_spells 2 = .ok (.getfield 22, 3) := by decide +kernel
theorem dX8_spells_5 : decode cX8_spells 5 = .ok (.isub, 1) := by decide +kernel
theorem dX8_spells_6 : decode cX8_spells 6 = .ok (.aload_n 2, 1) := by decide +kernel
theorem dX8_spells_7 : decode cX8_spells 7 = .ok (.invokevirtual 36, 3) := by decide +kernel
theorem dX8_spells_10 : decode cX8_spells 10 = .ok (.if_icmp .eq 5, 3) := by decide +kernel
theorem dX8_spells_13 : decode cX8_spells 13 = .ok (.iconst 0, 1) := by decide +kernel
theorem dX8_spells_14 : decode cX8_spells 14 = .ok (.ireturn, 1) := by decide +kernel
theorem dX8_spells_15 : decode cX8_spells 15 = .ok (.iconst 0, 1) := by decide +kernel
theorem dX8_spells_16 : decode cX8_spells 16 = .ok (.istore_n 3, 1) := by decide +kernel
theorem dX8_spells_17 : decode cX8_spells 17 = .ok (.iload_n 3, 1) := by decide +kernel
theorem dX8_spells_18 : decode cX8_spells 18 = .ok (.aload_n 2, 1) := by decide +kernel
theorem dX8_spells_19 : decode cX8_spells 19 = .ok (.invokevirtual 36, 3) := by decide +kernel
theorem dX8_spells_22 : decode cX8_spells 22 = .ok (.if_icmp .ge 29, 3) := by decide +kernel
theorem dX8_spells_25 : decode cX8_spells 25 = .ok (.aload_n 0, 1) := by decide +kernel
theorem dX8_spells_26 : decode cX8_spells 26 = .ok (.aload_n 0, 1) := by decide +kernel
theorem dX8_spells_27 : decode cX8_spells 27 = .ok (.getfield 22, 3) := by decide +kernel
theorem dX8_spells_30 : decode cX8_spells 30 = .ok (.iload_n 3, 1) := by decide +kernel
theorem dX8_spells_31 : decode cX8_spells 31 = .ok (.iadd, 1) := by decide +kernel
theorem dX8_spells_32 : decode cX8_spells 32 = .ok (.invokevirtual 32, 3) := by decide +kernel
theorem dX8_spells_35 : decode cX8_spells 35 = .ok (.aload_n 2, 1) := by decide +kernel
theorem dX8_spells_36 : decode cX8_spells 36 = .ok (.iload_n 3, 1) := by decide +kernel
theorem dX8_spells_37 : decode cX8_spells 37 = .ok (.invokevirtual 41, 3) := by decide +kernel
theorem dX8_spells_40 : decode cX8_spells 40 = .ok (.if_icmp .eq 5, 3) := by decide +kernel
theorem dX8_spells_43 : decode cX8_spells 43 = .ok (.iconst 0, 1) := by decide +kernel
theorem dX8_spells_44 : decode cX8_spells 44 = .ok (.ireturn, 1) := by decide +kernel
theorem dX8_spells_45 : decode cX8_spells 45 = .ok (.iinc 3 1, 3) := by decide +kernel
theorem dX8_spells_48 : decode cX8_spells 48 = .ok (.goto (-31), 3) := by decide +kernel
theorem dX8_spells_51 : decode cX8_spells 51 = .ok (.iconst 1, 1) := by decide +kernel
theorem dX8_spells_52 : decode cX8_spells 52 = .ok (.ireturn, 1) := by decide +kernel
theorem dX9_init_0 : decode cX9_init 0 = .ok (.aload_n 0, 1) := by decide +kernel
theorem dX9_init_1 : decode cX9_init 1 = .ok (.invokespecial 1, 3) := by decide +kernel
theorem dX9_init_4 : decode cX9_init 4 = .ok (.aload_n 0, 1) := by decide +kernel
theorem dX9_init_5 : decode cX9_init 5 = .ok (.new 7, 3) := by decide +kernel
theorem dX9_init_8 : decode cX9_init 8 = .ok (.dup, 1) := by decide +kernel
theorem dX9_init_9 : decode cX9_init 9 = .ok (.invokespecial 9, 3) := by decide +kernel
theorem dX9_init_12 : decode cX9_init 12 = .ok (.putfield 10, 3) := by decide +kernel
theorem dX9_init_15 : decode cX9_init 15 = .ok (.aload_n 0, 1) := by decide +kernel
theorem dX9_init_16 : decode cX9_init 16 = .ok (.new 16, 3) := by decide +kernel
theorem dX9_init_19 : decode cX9_init 19 = .ok (.dup, 1) := by decide +kernel
theorem dX9_init_20 : decode cX9_init 20 = .ok (.invokespecial 18, 3) := by decide +kernel
theorem dX9_init_23 : decode cX9_init 23 = .ok (.putfield 19, 3) := by decide +kernel
theorem dX9_init_26 : decode cX9_init 26 = .ok (.aload_n 0, 1) := by decide +kernel
theorem dX9_init_27 : decode cX9_init 27 = .ok (.bipush 6, 2) := by decide +kernel
theorem dX9_init_29 : decode cX9_init 29 = .ok (.anewarray 23, 3) := by decide +kernel
theorem dX9_init_32 : decode cX9_init 32 = .ok (.putfield 25, 3) := by decide +kernel
theorem dX9_init_35 : decode cX9_init 35 = .ok (.iconst 0, 1) := by decide +kernel
theorem dX9_init_36 : decode cX9_init 36 = .ok (.istore_n 1, 1) := by decide +kernel
theorem dX9_init_37 : decode cX9_init 37 = .ok (.iload_n 1, 1) := by decide +kernel
theorem dX9_init_38 : decode cX9_init 38 = .ok (.bipush 6, 2) := by decide +kernel
theorem dX9_init_40 : decode cX9_init 40 = .ok (.if_icmp .ge 22, 3) := by decide +kernel
theorem dX9_init_43 : decode cX9_init 43 = .ok (.aload_n 0, 1) := by decide +kernel
theorem dX9_init_44 : decode cX9_init 44 = .ok (.getfield 25, 3) := by decide +kernel
theorem dX9_init_47 : decode cX9_init 47 = .ok (.iload_n 1, 1) := by decide +kernel
theorem dX9_init_48 : decode cX9_init 48 = .ok (.new 23, 3) := by decide +kernel
theorem dX9_init_51 : decode cX9_init 51 = .ok (.dup, 1) := by decide +kernel
theorem dX9_init_52 : decode cX9_init 52 = .ok (.invokespecial 29, 3) := by decide +kernel
theorem dX9_init_55 : decode cX9_init 55 = .ok (.aastore, 1) := by decide +kernel
theorem dX9_init_56 : decode cX9_init 56 = .ok (.iinc 1 1, 3) := by decide +kernel
theorem dX9_init_59 : decode cX9_init 59 = .ok (.goto (-22), 3) := by decide +kernel
theorem dX9_init_62 : decode cX9_init 62 = .ok (.aload_n 0, 1) := by decide +kernel
theorem dX9_init_63 : decode cX9_init 63 = .ok (.new 23, 3) := by decide +kernel
theorem dX9_init_66 : decode cX9_init 66 = .ok (.dup, 1) := by decide +kernel
theorem dX9_init_67 : decode cX9_init 67 = .ok (.invokespecial 29, 3) := by decide +kernel
theorem dX9_init_70 : decode cX9_init 70 = .ok (.putfield 30, 3) := by decide +kernel
theorem dX9_init_73 : decode cX9_init 73 = .ok (.aload_n 0, 1) := by decide +kernel
theorem dX9_init_74 : decode cX9_init 74 = .ok (.new 34, 3) := by decide +kernel
theorem dX9_init_77 : decode cX9_init 77 = .ok (.dup, 1) := by decide +kernel
theorem dX9_init_78 : decode cX9_init 78 = .ok (.invokespecial 36, 3) := by decide +kernel
theorem dX9_init_81 : decode cX9_init 81 = .ok (.putfield 37, 3) := by decide +kernel
theorem dX9_init_84 : decode cX9_init 84 = .ok (.aload_n 0, 1) := by decide +kernel
theorem dX9_init_85 : decode cX9_init 85 = .ok (.new 41, 3) := by decide +kernel
theorem dX9_init_88 : decode cX9_init 88 = .ok (.dup, 1) := by decide +kernel
theorem dX9_init_89 : decode cX9_init 89 = .ok (.invokespecial 43, 3) := by decide +kernel
theorem dX9_init_92 : decode cX9_init 92 = .ok (.putfield 44, 3) := by decide +kernel
theorem dX9_init_95 : decode cX9_init 95 = .ok (.aload_n 0, 1) := by decide +kernel
theorem dX9_init_96 : decode cX9_init 96 = .ok (.new 48, 3) := by decide +kernel
theorem dX9_init_99 : decode cX9_init 99 = .ok (.dup, 1) := by decide +kernel
theorem dX9_init_100 : decode cX9_init 100 = .ok (.invokespecial 50, 3) := by decide +kernel
theorem dX9_init_103 : decode cX9_init 103 = .ok (.putfield 51, 3) := by decide +kernel
theorem dX9_init_106 : decode cX9_init 106 = .ok (.aload_n 0, 1) := by decide +kernel
theorem dX9_init_107 : decode cX9_init 107 = .ok (.new 55, 3) := by decide +kernel
theorem dX9_init_110 : decode cX9_init 110 = .ok (.dup, 1) := by decide +kernel
theorem dX9_init_111 : decode cX9_init 111 = .ok (.invokespecial 57, 3) := by decide +kernel
theorem dX9_init_114 : decode cX9_init 114 = .ok (.putfield 58, 3) := by decide +kernel
theorem dX9_init_117 : decode cX9_init 117 = .ok (.return_, 1) := by decide +kernel
theorem dX9_rake_0 : decode cX9_rake 0 = .ok (.aload_n 0, 1) := by decide +kernel
theorem dX9_rake_1 : decode cX9_rake 1 = .ok (.getfield 10, 3) := by decide +kernel
theorem dX9_rake_4 : decode cX9_rake 4 = .ok (.getfield 62, 3) := by decide +kernel
theorem dX9_rake_7 : decode cX9_rake 7 = .ok (.istore_n 1, 1) := by decide +kernel
theorem dX9_rake_8 : decode cX9_rake 8 = .ok (.aload_n 0, 1) := by decide +kernel
theorem dX9_rake_9 : decode cX9_rake 9 = .ok (.getfield 10, 3) := by decide +kernel
theorem dX9_rake_12 : decode cX9_rake 12 = .ok (.iconst 0, 1) := by decide +kernel
theorem dX9_rake_13 : decode cX9_rake 13 = .ok (.putfield 62, 3) := by decide +kernel
theorem dX9_rake_16 : decode cX9_rake 16 = .ok (.iload_n 1, 1) := by decide +kernel
theorem dX9_rake_17 : decode cX9_rake 17 = .ok (.ireturn, 1) := by decide +kernel
theorem dX9_iron_0 : decode cX9_iron 0 = .ok (.iload_n 1, 1) := by decide +kernel
theorem dX9_iron_1 : decode cX9_iron 1 = .ok (.iconst 0, 1) := by decide +kernel
theorem dX9_iron_2 : decode cX9_iron 2 = .ok (.iconst 1, 1) := by decide +kernel
theorem dX9_iron_3 : decode cX9_iron 3 = .ok (.invokestatic 66, 3) := by decide +kernel
theorem dX9_iron_6 : decode cX9_iron 6 = .ok (.ifCond .eq 22, 3) := by decide +kernel
theorem dX9_iron_9 : decode cX9_iron 9 = .ok (.iload_n 2, 1) := by decide +kernel
theorem dX9_iron_10 : decode cX9_iron 10 = .ok (.iload_n 3, 1) := by decide +kernel
theorem dX9_iron_11 : decode cX9_iron 11 = .ok (.invokestatic 70, 3) := by decide +kernel
theorem dX9_iron_14 : decode cX9_iron 14 = .ok (.ifCond .eq 14, 3) := by decide +kernel
theorem dX9_iron_17 : decode cX9_iron 17 = .ok (.iload 4, 2) := by decide +kernel
theorem dX9_iron_19 : decode cX9_iron 19 = .ok (.iconst 2, 1) := by decide +kernel
theorem dX9_iron_20 : decode cX9_iron 20 = .ok (.bipush 60, 2) := by decide +kernel
theorem dX9_iron_22 : decode cX9_iron 22 = .ok (.invokestatic 66, 3) := by decide +kernel
theorem dX9_iron_25 : decode cX9_iron 25 = .ok (.ifCond .ne 7, 3) := by decide +kernel
theorem dX9_iron_28 : decode cX9_iron 28 = .ok (.sipush (-1002), 3) := by decide +kernel
theorem dX9_iron_31 : decode cX9_iron 31 = .ok (.ireturn, 1) := by decide +kernel
theorem dX9_iron_32 : decode cX9_iron 32 = .ok (.iload 5, 2) := by decide +kernel
theorem dX9_iron_34 : decode cX9_iron 34 = .ok (.iconst 1, 1) := by decide +kernel
theorem dX9_iron_35 : decode cX9_iron 35 = .ok (.iload 4, 2) := by decide +kernel
theorem dX9_iron_37 : decode cX9_iron 37 = .ok (.iconst 1, 1) := by decide +kernel
theorem dX9_iron_38 : decode cX9_iron 38 = .ok (.isub, 1) := by decide +kernel
theorem dX9_iron_39 : decode cX9_iron 39 = .ok (.invokestatic 66, 3) := by decide +kernel
theorem dX9_iron_42 : decode cX9_iron 42 = .ok (.ifCond .eq 14, 3) := by decide +kernel
theorem dX9_iron_45 : decode cX9_iron 45 = .ok (.iload 6, 2) := by decide +kernel
theorem dX9_iron_47 : decode cX9_iron 47 = .ok (.iconst 0, 1) := by decide +kernel
theorem dX9_iron_48 : decode cX9_iron 48 = .ok (.bipush 9, 2) := by decide +kernel
theorem dX9_iron_50 : decode cX9_iron 50 = .ok (.invokestatic 66, 3) := by decide +kernel
theorem dX9_iron_53 : decode cX9_iron 53 = .ok (.ifCond .ne 7, 3) := by decide +kernel
theorem dX9_iron_56 : decode cX9_iron 56 = .ok (.sipush (-1002), 3) := by decide +kernel
theorem dX9_iron_59 : decode cX9_iron 59 = .ok (.ireturn, 1) := by decide +kernel
theorem dX9_iron_60 : decode cX9_iron 60 = .ok (.aload_n 0, 1) := by decide +kernel
theorem dX9_iron_61 : decode cX9_iron 61 = .ok (.getfield 10, 3) := by decide +kernel
theorem dX9_iron_64 : decode cX9_iron 64 = .ok (.getfield 62, 3) := by decide +kernel
theorem dX9_iron_67 : decode cX9_iron 67 = .ok (.bipush 12, 2) := by decide +kernel
theorem dX9_iron_69 : decode cX9_iron 69 = .ok (.if_icmp .lt 7, 3) := by decide +kernel
theorem dX9_iron_72 : decode cX9_iron 72 = .ok (.sipush (-1004), 3) := by decide +kernel
theorem dX9_iron_75 : decode cX9_iron 75 = .ok (.ireturn, 1) := by decide +kernel
theorem dX9_iron_76 : decode cX9_iron 76 = .ok (.aload_n 0, 1) := by decide +kernel
theorem dX9_iron_77 : decode cX9_iron 77 = .ok (.getfield 10, 3) := by decide +kernel
theorem dX9_iron_80 : decode cX9_iron 80 = .ok (.getfield 74, 3) := by decide +kernel
theorem dX9_iron_83 : decode cX9_iron 83 = .ok (.aload_n 0, 1) := by decide +kernel
theorem dX9_iron_84 : decode cX9_iron 84 = .ok (.getfield 10, 3) := by decide +kernel
theorem dX9_iron_87 : decode cX9_iron 87 = .ok (.getfield 62, 3) := by decide +kernel
theorem dX9_iron_90 : decode cX9_iron 90 = .ok (.aaload, 1) := by decide +kernel
theorem dX9_iron_91 : decode cX9_iron 91 = .ok (.iload_n 1, 1) := by decide +kernel
theorem dX9_iron_92 : decode cX9_iron 92 = .ok (.iload_n 2, 1) := by decide +kernel
theorem dX9_iron_93 : decode cX9_iron 93 = .ok (.iload_n 3, 1) := by decide +kernel
theorem dX9_iron_94 : decode cX9_iron 94 = .ok (.iload 4, 2) := by decide +kernel
theorem dX9_iron_96 : decode cX9_iron 96 = .ok (.iload 5, 2) := by decide +kernel
theorem dX9_iron_98 : decode cX9_iron 98 = .ok (.iload 6, 2) := by decide +kernel
theorem dX9_iron_100 : decode cX9_iron 100 = .ok (.iload 7, 2) := by decide +kernel
theorem dX9_iron_102 : decode cX9_iron 102 = .ok (.invokevirtual 78, 3) := by decide +kernel
theorem dX9_iron_105 : decode cX9_iron 105 = .ok (.aload_n 0, 1) := by decide +kernel
theorem dX9_iron_106 : decode cX9_iron 106 = .ok (.getfield 10, 3) := by decide +kernel
theorem dX9_iron_109 : decode cX9_iron 109 = .ok (.dup, 1) := by decide +kernel
theorem dX9_iron_110 : decode cX9_iron 110 = .ok (.getfield 62, 3) := by decide +kernel
theorem dX9_iron_113 : decode cX9_iron 113 = .ok (.iconst 1, 1) := by decide +kernel
theorem dX9_iron_114 : decode cX9_iron 114 = .ok (.iadd, 1) := by decide +kernel
theorem dX9_iron_115 : decode cX9_iron 115 = .ok (.putfield 62, 3) := by decide +kernel
theorem dX9_iron_118 : decode cX9_iron 118 = .ok (.aload_n 0, 1) := by decide +kernel
theorem dX9_iron_119 : decode cX9_iron 119 = .ok (.getfield 10, 3) := by decide +kernel
theorem dX9_iron_122 : decode cX9_iron 122 = .ok (.getfield 62, 3) := by decide +kernel
theorem dX9_iron_125 : decode cX9_iron 125 = .ok (.iconst 1, 1) := by decide +kernel
theorem dX9_iron_126 : decode cX9_iron 126 = .ok (.isub, 1) := by decide +kernel
theorem dX9_iron_127 : decode cX9_iron 127 = .ok (.ireturn, 1) := by decide +kernel
theorem dX9_knock_0 : decode cX9_knock 0 = .ok (.aload_n 0, 1) := by decide +kernel
theorem dX9_knock_1 : decode cX9_knock 1 = .ok (.getfield 10, 3) := by decide +kernel
theorem dX9_knock_4 : decode cX9_knock 4 = .ok (.iload_n 1, 1) := by decide +kernel
theorem dX9_knock_5 : decode cX9_knock 5 = .ok (.invokevirtual 84, 3) := by decide +kernel
theorem dX9_knock_8 : decode cX9_knock 8 = .ok (.astore 4, 2) := by decide +kernel
theorem dX9_knock_10 : decode cX9_knock 10 = .ok (.aload 4, 2) := by decide +kernel
theorem dX9_knock_12 : decode cX9_knock 12 = .ok (.ifnonnull 7, 3) := by decide +kernel
theorem dX9_knock_15 : decode cX9_knock 15 = .ok (.sipush (-1001), 3) := by decide +kernel
theorem dX9_knock_18 : decode cX9_knock 18 = .ok (.ireturn, 1) := by decide +kernel
theorem dX9_knock_19 : decode cX9_knock 19 = .ok (.iload_n 2, 1) := by decide +kernel
theorem dX9_knock_20 : decode cX9_knock 20 = .ok (.iload_n 3, 1) := by decide +kernel
theorem dX9_knock_21 : decode cX9_knock 21 = .ok (.invokestatic 70, 3) := by decide +kernel
theorem dX9_knock_24 : decode cX9_knock 24 = .ok (.ifCond .ne 7, 3) := by decide +kernel
theorem dX9_knock_27 : decode cX9_knock 27 = .ok (.sipush (-1002), 3) := by decide +kernel
theorem dX9_knock_30 : decode cX9_knock 30 = .ok (.ireturn, 1) := by decide +kernel
theorem dX9_knock_31 : decode cX9_knock 31 = .ok (.aload 4, 2) := by decide +kernel
theorem dX9_knock_33 : decode cX9_knock 33 = .ok (.getfield 88, 3) := by decide +kernel
theorem dX9_knock_36 : decode cX9_knock 36 = .ok (.ifCond .eq 7, 3) := by decide +kernel
theorem dX9_knock_39 : decode cX9_knock 39 = .ok (.sipush (-1003), 3) := by decide +kernel
theorem dX9_knock_42 : decode cX9_knock 42 = .ok (.ireturn, 1) := by decide +kernel
theorem dX9_knock_43 : decode cX9_knock 43 = .ok (.aload 4, 2) := by decide +kernel
theorem dX9_knock_45 : decode cX9_knock 45 = .ok (.iload_n 2, 1) := by decide +kernel
theorem dX9_knock_46 : decode cX9_knock 46 = .ok (.iload_n 3, 1) := by decide +kernel
theorem dX9_knock_47 : decode cX9_knock 47 = .ok (.invokevirtual 92, 3) := by decide +kernel
theorem dX9_knock_50 : decode cX9_knock 50 = .ok (.iconst 1, 1) := by decide +kernel
theorem dX9_knock_51 : decode cX9_knock 51 = .ok (.ireturn, 1) := by decide +kernel
theorem dX9_off_0 : decode cX9_off 0 = .ok (.aload_n 0, 1) := by decide +kernel
theorem dX9_off_1 : decode cX9_off 1 = .ok (.getfield 10, 3) := by decide +kernel
theorem dX9_off_4 : decode cX9_off 4 = .ok (.iload_n 1, 1) := by decide +kernel
theorem dX9_off_5 : decode cX9_off 5 = .ok (.invokevirtual 84, 3) := by decide +kernel
theorem dX9_off_8 : decode cX9_off 8 = .ok (.astore_n 2, 1) := by decide +kernel
theorem dX9_off_9 : decode cX9_off 9 = .ok (.aload_n 2, 1) := by decide +kernel
theorem dX9_off_10 : decode cX9_off 10 = .ok (.ifnonnull 7, 3) := by decide +kernel
theorem dX9_off_13 : decode cX9_off 13 = .ok (.sipush (-1001), 3) := by decide +kernel
theorem dX9_off_16 : decode cX9_off 16 = .ok (.ireturn, 1) := by decide +kernel
theorem dX9_off_17 : decode cX9_off 17 = .ok (.aload_n 2, 1) := by decide +kernel
theorem dX9_off_18 : decode cX9_off 18 = .ok (.getfield 88, 3) := by decide +kernel
theorem dX9_off_21 : decode cX9_off 21 = .ok (.ifCond .eq 7, 3) := by decide +kernel
theorem dX9_off_24 : decode cX9_off 24 = .ok (.sipush (-1003), 3) := by decide +kernel
theorem dX9_off_27 : decode cX9_off 27 = .ok (.ireturn, 1) := by decide +kernel
theorem dX9_off_28 : decode cX9_off 28 = .ok (.aload_n 2, 1) := by decide +kernel
theorem dX9_off_29 : decode cX9_off 29 = .ok (.iconst 1, 1) := by decide +kernel
theorem dX9_off_30 : decode cX9_off 30 = .ok (.putfield 88, 3) := by decide +kernel
theorem dX9_off_33 : decode cX9_off 33 = .ok (.iconst 1, 1) := by decide +kernel
theorem dX9_off_34 : decode cX9_off 34 = .ok (.ireturn, 1) := by decide +kernel
theorem dX9_told_0 : decode cX9_told 0 = .ok (.aload_n 0, 1) := by decide +kernel
theorem dX9_told_1 : decode cX9_told 1 = .ok (.getfield 10, 3) := by decide +kernel
theorem dX9_told_4 : decode cX9_told 4 = .ok (.iload_n 1, 1) := by decide +kernel
theorem dX9_told_5 : decode cX9_told 5 = .ok (.invokevirtual 84, 3) := by decide +kernel
theorem dX9_told_8 : decode cX9_told 8 = .ok (.astore_n 3, 1) := by decide +kernel
theorem dX9_told_9 : decode cX9_told 9 = .ok (.aload_n 3, 1) := by decide +kernel
theorem dX9_told_10 : decode cX9_told 10 = .ok (.ifnonnull 7, 3) := by decide +kernel
theorem dX9_told_13 : decode cX9_told 13 = .ok (.sipush (-1001), 3) := by decide +kernel
theorem dX9_told_16 : decode cX9_told 16 = .ok (.ireturn, 1) := by decide +kernel
theorem dX9_told_17 : decode cX9_told 17 = .ok (.iload_n 2, 1) := by decide +kernel
theorem dX9_told_18 : decode cX9_told 18 = .ok (.tableswitch 132 0 9 #[54, 59, 64, 69, 74, 82, 98, 106, 115, 124], 54) := by decide +kernel
theorem dX9_told_72 : decode cX9_told 72 = .ok (.aload_n 3, 1) := by decide +kernel
theorem dX9_told_73 : decode cX9_told 73 = .ok (.getfield 96, 3) := by decide +kernel
theorem dX9_told_76 : decode cX9_told 76 = .ok (.ireturn, 1) := by decide +kernel
theorem dX9_told_77 : decode cX9_told 77 = .ok (.aload_n 3, 1) := by decide +kernel
theorem dX9_told_78 : decode cX9_told 78 = .ok (.getfield 99, 3) := by decide +kernel
theorem dX9_told_81 : decode cX9_told 81 = .ok (.ireturn, 1) := by decide +kernel
theorem dX9_told_82 : decode cX9_told 82 = .ok (.aload_n 3, 1) := by decide +kernel
theorem dX9_told_83 : decode cX9_told 83 = .ok (.getfield 102, 3) := by decide +kernel
theorem dX9_told_86 : decode cX9_told 86 = .ok (.ireturn, 1) := by decide +kernel
theorem dX9_told_87 : decode cX9_told 87 = .ok (.aload_n 3, 1) := by decide +kernel
theorem dX9_told_88 : decode cX9_told 88 = .ok (.invokevirtual 105, 3) := by decide +kernel
theorem dX9_told_91 : decode cX9_told 91 = .ok (.ireturn, 1) := by decide +kernel
theorem dX9_told_92 : decode cX9_told 92 = .ok (.aload_n 3, 1) := by decide +kernel
theorem dX9_told_93 : decode cX9_told 93 = .ok (.invokevirtual 109, 3) := by decide +kernel
theorem dX9_told_96 : decode cX9_told 96 = .ok (.invokestatic 113, 3) := by decide +kernel
theorem dX9_told_99 : decode cX9_told 99 = .ok (.ireturn, 1) := by decide +kernel
theorem dX9_told_100 : decode cX9_told 100 = .ok (.aload_n 3, 1) := by decide +kernel
theorem dX9_told_101 : decode cX9_told 101 = .ok (.invokevirtual 109, 3) := by decide +kernel
theorem dX9_told_104 : decode cX9_told 104 = .ok (.ifCond .eq 7, 3) := by decide +kernel
theorem dX9_told_107 : decode cX9_told 107 = .ok (.iconst (-1), 1) := by decide +kernel
theorem dX9_told_108 : decode cX9_told 108 = .ok (.goto 7, 3) := by decide +kernel
theorem dX9_told_111 : decode cX9_told 111 = .ok (.aload_n 3, 1) := by decide +kernel
theorem dX9_told_112 : decode cX9_told 112 = .ok (.invokevirtual 117, 3) := by decide +kernel
theorem dX9_told_115 : decode cX9_told 115 = .ok (.ireturn, 1) := by decide +kernel
theorem dX9_told_116 : decode cX9_told 116 = .ok (.aload_n 3, 1) := by decide +kernel
theorem dX9_told_117 : decode cX9_told 117 = .ok (.getfield 88, 3) := by decide +kernel
theorem dX9_told_120 : decode cX9_told 120 = .ok (.invokestatic 113, 3) := by decide +kernel
theorem dX9_told_123 : decode cX9_told 123 = .ok (.ireturn, 1) := by decide +kernel
theorem dX9_told_124 : decode cX9_told 124 = .ok (.aload_n 0, 1) := by decide +kernel
theorem dX9_told_125 : decode cX9_told 125 = .ok (.getfield 10, 3) := by decide +kernel
theorem dX9_told_128 : decode cX9_told 128 = .ok (.iload_n 1, 1) := by decide +kernel
theorem dX9_told_129 : decode cX9_told 129 = .ok (.invokevirtual 120, 3) := by decide +kernel
theorem dX9_told_132 : decode cX9_told 132 = .ok (.ireturn, 1) := by decide +kernel
theorem dX9_told_133 : decode cX9_told 133 = .ok (.aload_n 0, 1) := by decide +kernel
theorem dX9_told_134 : decode cX9_told 134 = .ok (.getfield 10, 3) := by decide +kernel
theorem dX9_told_137 : decode cX9_told 137 = .ok (.iload_n 1, 1) := by decide +kernel
theorem dX9_told_138 : decode cX9_told 138 = .ok (.invokevirtual 124, 3) := by decide +kernel
theorem dX9_told_141 : decode cX9_told 141 = .ok (.ireturn, 1) := by decide +kernel
theorem dX9_told_142 : decode cX9_told 142 = .ok (.aload_n 3, 1) := by decide +kernel
theorem dX9_told_143 : decode cX9_told 143 = .ok (.getfield 127, 3) := by decide +kernel
theorem dX9_told_146 : decode cX9_told 146 = .ok (.invokestatic 113, 3) := by decide +kernel
theorem dX9_told_149 : decode cX9_told 149 = .ok (.ireturn, 1) := by decide +kernel
theorem dX9_told_150 : decode cX9_told 150 = .ok (.sipush (-1002), 3) := by decide +kernel
theorem dX9_told_153 : decode cX9_told 153 = .ok (.ireturn, 1) := by decide +kernel
theorem dX9_nearer_0 : decode cX9_nearer 0 = .ok (.aload_n 0, 1) := by decide +kernel
theorem dX9_nearer_1 : decode cX9_nearer 1 = .ok (.getfield 10, 3) := by decide +kernel
theorem dX9_nearer_4 : decode cX9_nearer 4 = .ok (.iload_n 1, 1) := by decide +kernel
theorem dX9_nearer_5 : decode cX9_nearer 5 = .ok (.invokevirtual 84, 3) := by decide +kernel
theorem dX9_nearer_8 : decode cX9_nearer 8 = .ok (.astore 4, 2) := by decide +kernel
theorem dX9_nearer_10 : decode cX9_nearer 10 = .ok (.aload_n 0, 1) := by decide +kernel
theorem dX9_nearer_11 : decode cX9_nearer 11 = .ok (.getfield 10, 3) := by decide +kernel
theorem dX9_nearer_14 : decode cX9_nearer 14 = .ok (.iload_n 2, 1) := by decide +kernel
theorem dX9_nearer_15 : decode cX9_nearer 15 = .ok (.invokevirtual 84, 3) := by decide +kernel
theorem dX9_nearer_18 : decode cX9_nearer 18 = .ok (.astore 5, 2) := by decide +kernel
theorem dX9_nearer_20 : decode cX9_nearer 20 = .ok (.aload 4, 2) := by decide +kernel
theorem dX9_nearer_22 : decode cX9_nearer 22 = .ok (.ifnull 8, 3) := by decide +kernel
theorem dX9_nearer_25 : decode cX9_nearer 25 = .ok (.aload 5, 2) := by decide +kernel
theorem dX9_nearer_27 : decode cX9_nearer 27 = .ok (.ifnonnull 7, 3) := by decide +kernel
theorem dX9_nearer_30 : decode cX9_nearer 30 = .ok (.sipush (-1001), 3) := by decide +kernel
theorem dX9_nearer_33 : decode cX9_nearer 33 = .ok (.ireturn, 1) := by decide +kernel
theorem dX9_nearer_34 : decode cX9_nearer 34 = .ok (.iload_n 3, 1) := by decide +kernel
theorem dX9_nearer_35 : decode cX9_nearer 35 = .ok (.sipush (-9999), 3) := by decide +kernel
theorem dX9_nearer_38 : decode cX9_nearer 38 = .ok (.sipush 9999, 3) := by decide +kernel
theorem dX9_nearer_41 : decode cX9_nearer 41 = .ok (.invokestatic 66, 3) := by decide +kernel
theorem dX9_nearer_44 : decode cX9_nearer 44 = .ok (.ifCond .ne 7, 3) := by decide +kernel
theorem dX9_nearer_47 : decode cX9_nearer 47 = .ok (.sipush (-1002), 3) := by decide +kernel
theorem dX9_nearer_50 : decode cX9_nearer 50 = .ok (.ireturn, 1) := by decide +kernel
theorem dX9_nearer_51 : decode cX9_nearer 51 = .ok (.aload 4, 2) := by decide +kernel
theorem dX9_nearer_53 : decode cX9_nearer 53 = .ok (.invokevirtual 109, 3) := by decide +kernel
theorem dX9_nearer_56 : decode cX9_nearer 56 = .ok (.ifCond .ne 11, 3) := by decide +kernel
theorem dX9_nearer_59 : decode cX9_nearer 59 = .ok (.aload 5, 2) := by decide +kernel
theorem dX9_nearer_61 : decode cX9_nearer 61 = .ok (.invokevirtual 109, 3) := by decide +kernel
theorem dX9_nearer_64 : decode cX9_nearer 64 = .ok (.ifCond .eq 7, 3) := by decide +kernel
theorem dX9_nearer_67 : decode cX9_nearer 67 = .ok (.sipush (-1003), 3) := by decide +kernel
theorem dX9_nearer_70 : decode cX9_nearer 70 = .ok (.ireturn, 1) := by decide +kernel
theorem dX9_nearer_71 : decode cX9_nearer 71 = .ok (.aload 4, 2) := by decide +kernel
theorem dX9_nearer_73 : decode cX9_nearer 73 = .ok (.iconst 0, 1) := by decide +kernel
theorem dX9_nearer_74 : decode cX9_nearer 74 = .ok (.invokevirtual 130, 3) := by decide +kernel
theorem dX9_nearer_77 : decode cX9_nearer 77 = .ok (.ldc2_w 134, 3) := by decide +kernel
theorem dX9_nearer_80 : decode cX9_nearer 80 = .ok (.iload_n 3, 1) := by decide +kernel
theorem dX9_nearer_81 : decode cX9_nearer 81 = .ok (.i2l, 1) := by decide +kernel
theorem dX9_nearer_82 : decode cX9_nearer 82 = .ok (.lmul, 1) := by decide +kernel
theorem dX9_nearer_83 : decode cX9_nearer 83 = .ok (.ladd, 1) := by decide +kernel
theorem dX9_nearer_84 : decode cX9_nearer 84 = .ok (.lstore 6, 2) := by decide +kernel
theorem dX9_nearer_86 : decode cX9_nearer 86 = .ok (.aload 4, 2) := by decide +kernel
theorem dX9_nearer_88 : decode cX9_nearer 88 = .ok (.iconst 0, 1) := by decide +kernel
theorem dX9_nearer_89 : decode cX9_nearer 89 = .ok (.invokevirtual 136, 3) := by decide +kernel
theorem dX9_nearer_92 : decode cX9_nearer 92 = .ok (.lload 6, 2) := by decide +kernel
theorem dX9_nearer_94 : decode cX9_nearer 94 = .ok (.aload 5, 2) := by decide +kernel
theorem dX9_nearer_96 : decode cX9_nearer 96 = .ok (.iconst 0, 1) := by decide +kernel
theorem dX9_nearer_97 : decode cX9_nearer 97 = .ok (.invokevirtual 136, 3) := by decide +kernel
theorem dX9_nearer_100 : decode cX9_nearer 100 = .ok (.aload 5, 2) := by decide +kernel
theorem dX9_nearer_102 : decode cX9_nearer 102 = .ok (.iconst 0, 1) := by decide +kernel
theorem dX9_nearer_103 : decode cX9_nearer 103 = .ok (.invokevirtual 130, 3) := by decide +kernel
theorem dX9_nearer_106 : decode cX9_nearer 106 = .ok (.invokestatic 139, 3) := by decide +kernel
theorem dX9_nearer_109 : decode cX9_nearer 109 = .ok (.ireturn, 1) := by decide +kernel
theorem dX9_count_0 : decode cX9_count 0 = .ok (.iload_n 1, 1) := by decide +kernel
theorem dX9_count_1 : decode cX9_count 1 = .ok (.tableswitch 137 0 9 #[55, 63, 71, 80, 89, 97, 102, 110, 121, 129], 55) := by decide +kernel
theorem dX9_count_56 : decode cX9_count 56 = .ok (.aload_n 0, 1) := by decide +kernel
theorem dX9_count_57 : decode cX9_count 57 = .ok (.getfield 10, 3) := by decide +kernel
theorem dX9_count_60 : decode cX9_count 60 = .ok (.getfield 62, 3) := by decide +kernel
theorem dX9_count_63 : decode cX9_count 63 = .ok (.ireturn, 1) := by decide +kernel
theorem dX9_count_64 : decode cX9_count 64 = .ok (.aload_n 0, 1) := by decide +kernel
theorem dX9_count_65 : decode cX9_count 65 = .ok (.getfield 10, 3) := by decide +kernel
theorem dX9_count_68 : decode cX9_count 68 = .ok (.invokevirtual 143, 3) := by decide +kernel
theorem dX9_count_71 : decode cX9_count 71 = .ok (.ireturn, 1) := by decide +kernel
theorem dX9_count_72 : decode cX9_count 72 = .ok (.aload_n 0, 1) := by decide +kernel
theorem dX9_count_73 : decode cX9_count 73 = .ok (.getfield 10, 3) := by decide +kernel
theorem dX9_count_76 : decode cX9_count 76 = .ok (.iconst 0, 1) := by decide +kernel
theorem dX9_count_77 : decode cX9_count 77 = .ok (.invokevirtual 146, 3) := by decide +kernel
theorem dX9_count_80 : decode cX9_count 80 = .ok (.ireturn, 1) := by decide +kernel
theorem dX9_count_81 : decode cX9_count 81 = .ok (.aload_n 0, 1) := by decide +kernel
theorem dX9_count_82 : decode cX9_count 82 = .ok (.getfield 10, 3) := by decide +kernel
theorem dX9_count_85 : decode cX9_count 85 = .ok (.iconst 1, 1) := by decide +kernel
theorem dX9_count_86 : decode cX9_count 86 = .ok (.invokevirtual 146, 3) := by decide +kernel
theorem dX9_count_89 : decode cX9_count 89 = .ok (.ireturn, 1) := by decide +kernel
theorem dX9_count_90 : decode cX9_count 90 = .ok (.aload_n 0, 1) := by decide +kernel
theorem dX9_count_91 : decode cX9_count 91 = .ok (.getfield 51, 3) := by decide +kernel
theorem dX9_count_94 : decode cX9_count 94 = .ok (.getfield 149, 3) := by decide +kernel
theorem dX9_count_97 : decode cX9_count 97 = .ok (.ireturn, 1) := by decide +kernel
theorem dX9_count_98 : decode cX9_count 98 = .ok (.aload_n 0, 1) := by decide +kernel
theorem dX9_count_99 : decode cX9_count 99 = .ok (.invokevirtual 152, 3) := by decide +kernel
theorem dX9_count_102 : decode cX9_count 102 = .ok (.ireturn, 1) := by decide +kernel
theorem dX9_count_103 : decode cX9_count 103 = .ok (.aload_n 0, 1) := by decide +kernel
theorem dX9_count_104 : decode cX9_count 104 = .ok (.getfield 19, 3) := by decide +kernel
theorem dX9_count_107 : decode cX9_count 107 = .ok (.getfield 155, 3) := by decide +kernel
theorem dX9_count_110 : decode cX9_count 110 = .ok (.ireturn, 1) := by decide +kernel
theorem dX9_count_111 : decode cX9_count 111 = .ok (.aload_n 0, 1) := by decide +kernel
theorem dX9_count_112 : decode cX9_count 112 = .ok (.getfield 51, 3) := by decide +kernel
theorem dX9_count_115 : decode cX9_count 115 = .ok (.getfield 158, 3) := by decide +kernel
theorem dX9_count_118 : decode cX9_count 118 = .ok (.getfield 161, 3) := by decide +kernel
theorem dX9_count_121 : decode cX9_count 121 = .ok (.ireturn, 1) := by decide +kernel
theorem dX9_count_122 : decode cX9_count 122 = .ok (.aload_n 0, 1) := by decide +kernel
theorem dX9_count_123 : decode cX9_count 123 = .ok (.getfield 10, 3) := by decide +kernel
theorem dX9_count_126 : decode cX9_count 126 = .ok (.invokevirtual 162, 3) := by decide +kernel
theorem dX9_count_129 : decode cX9_count 129 = .ok (.ireturn, 1) := by decide +kernel
theorem dX9_count_130 : decode cX9_count 130 = .ok (.aload_n 0, 1) := by decide +kernel
theorem dX9_count_131 : decode cX9_count 131 = .ok (.getfield 10, 3) := by decide +kernel
theorem dX9_count_134 : decode cX9_count 134 = .ok (.invokevirtual 165, 3) := by decide +kernel
theorem dX9_count_137 : decode cX9_count 137 = .ok (.ireturn, 1) := by decide +kernel
theorem dX9_count_138 : decode cX9_count 138 = .ok (.sipush (-1002), 3) := by decide +kernel
theorem dX9_count_141 : decode cX9_count 141 = .ok (.ireturn, 1) := by decide +kernel
theorem dX9_feed_0 : decode cX9_feed 0 = .ok (.iload_n 1, 1) := by decide +kernel
theorem dX9_feed_1 : decode cX9_feed 1 = .ok (.iconst 1, 1) := by decide +kernel
theorem dX9_feed_2 : decode cX9_feed 2 = .ok (.bipush 8, 2) := by decide +kernel
theorem dX9_feed_4 : decode cX9_feed 4 = .ok (.invokestatic 66, 3) := by decide +kernel
theorem dX9_feed_7 : decode cX9_feed 7 = .ok (.ifCond .ne 7, 3) := by decide +kernel
theorem dX9_feed_10 : decode cX9_feed 10 = .ok (.sipush (-1002), 3) := by decide +kernel
theorem dX9_feed_13 : decode cX9_feed 13 = .ok (.ireturn, 1) := by decide +kernel
theorem dX9_feed_14 : decode cX9_feed 14 = .ok (.aload_n 0, 1) := by decide +kernel
theorem dX9_feed_15 : decode cX9_feed 15 = .ok (.getfield 19, 3) := by decide +kernel
theorem dX9_feed_18 : decode cX9_feed 18 = .ok (.getfield 155, 3) := by decide +kernel
theorem dX9_feed_21 : decode cX9_feed 21 = .ok (.iload_n 1, 1) := by decide +kernel
theorem dX9_feed_22 : decode cX9_feed 22 = .ok (.iadd, 1) := by decide +kernel
theorem dX9_feed_23 : decode cX9_feed 23 = .ok (.bipush 100, 2) := by decide +kernel
theorem dX9_feed_25 : decode cX9_feed 25 = .ok (.if_icmp .le 7, 3) := by decide +kernel
theorem dX9_feed_28 : decode cX9_feed 28 = .ok (.sipush (-1004), 3) := by decide +kernel
theorem dX9_feed_31 : decode cX9_feed 31 = .ok (.ireturn, 1) := by decide +kernel
theorem dX9_feed_32 : decode cX9_feed 32 = .ok (.iload_n 1, 1) := by decide +kernel
theorem dX9_feed_33 : decode cX9_feed 33 = .ok (.iconst 1, 1) := by decide +kernel
theorem dX9_feed_34 : decode cX9_feed 34 = .ok (.isub, 1) := by decide +kernel
theorem dX9_feed_35 : decode cX9_feed 35 = .ok (.istore 4, 2) := by decide +kernel
theorem dX9_feed_37 : decode cX9_feed 37 = .ok (.iload 4, 2) := by decide +kernel
theorem dX9_feed_39 : decode cX9_feed 39 = .ok (.ifCond .lt 28, 3) := by decide +kernel
theorem dX9_feed_42 : decode cX9_feed 42 = .ok (.aload_n 0, 1) := by decide +kernel
theorem dX9_feed_43 : decode cX9_feed 43 = .ok (.getfield 19, 3) := by decide +kernel
theorem dX9_feed_46 : decode cX9_feed 46 = .ok (.lload_n 2, 1) := by decide +kernel
theorem dX9_feed_47 : decode cX9_feed 47 = .ok (.bipush 8, 2) := by decide +kernel
theorem dX9_feed_49 : decode cX9_feed 49 = .ok (.iload 4, 2) := by decide +kernel
theorem dX9_feed_51 : decode cX9_feed 51 = .ok (.imul, 1) := by decide +kernel
theorem dX9_feed_52 : decode cX9_feed 52 = .ok (.lushr, 1) := by decide +kernel
theorem dX9_feed_53 : decode cX9_feed 53 = .ok (.l2i, 1) := by decide +kernel
theorem dX9_feed_54 : decode cX9_feed 54 = .ok (.sipush 255, 3) := by decide +kernel
theorem dX9_feed_57 : decode cX9_feed 57 = .ok (.iand, 1) := by decide +kernel
theorem dX9_feed_58 : decode cX9_feed 58 = .ok (.invokevirtual 168, 3) := by decide +kernel
theorem dX9_feed_61 : decode cX9_feed 61 = .ok (.iinc 4 (-1), 3) := by decide +kernel
theorem dX9_feed_64 : decode cX9_feed 64 = .ok (.goto (-27), 3) := by decide +kernel
theorem dX9_feed_67 : decode cX9_feed 67 = .ok (.aload_n 0, 1) := by decide +kernel
theorem dX9_feed_68 : decode cX9_feed 68 = .ok (.getfield 19, 3) := by decide +kernel
theorem dX9_feed_71 : decode cX9_feed 71 = .ok (.getfield 155, 3) := by decide +kernel
theorem dX9_feed_74 : decode cX9_feed 74 = .ok (.ireturn, 1) := by decide +kernel
theorem dX9_rule_0 : decode cX9_rule 0 = .ok (.iload_n 1, 1) := by decide +kernel
theorem dX9_rule_1 : decode cX9_rule 1 = .ok (.invokestatic 172, 3) := by decide +kernel
theorem dX9_rule_4 : decode cX9_rule 4 = .ok (.ifCond .ne 7, 3) := by decide +kernel
theorem dX9_rule_7 : decode cX9_rule 7 = .ok (.sipush (-1001), 3) := by decide +kernel
theorem dX9_rule_10 : decode cX9_rule 10 = .ok (.ireturn, 1) := by decide +kernel
theorem dX9_rule_11 : decode cX9_rule 11 = .ok (.aload_n 0, 1) := by decide +kernel
theorem dX9_rule_12 : decode cX9_rule 12 = .ok (.getfield 30, 3) := by decide +kernel
theorem dX9_rule_15 : decode cX9_rule 15 = .ok (.aload_n 0, 1) := by decide +kernel
theorem dX9_rule_16 : decode cX9_rule 16 = .ok (.getfield 19, 3) := by decide +kernel
theorem dX9_rule_19 : decode cX9_rule 19 = .ok (.invokevirtual 176, 3) := by decide +kernel
theorem dX9_rule_22 : decode cX9_rule 22 = .ok (.istore_n 2, 1) := by decide +kernel
theorem dX9_rule_23 : decode cX9_rule 23 = .ok (.aload_n 0, 1) := by decide +kernel
theorem dX9_rule_24 : decode cX9_rule 24 = .ok (.getfield 19, 3) := by decide +kernel
theorem dX9_rule_27 : decode cX9_rule 27 = .ok (.invokevirtual 180, 3) := by decide +kernel
theorem dX9_rule_30 : decode cX9_rule 30 = .ok (.aload_n 0, 1) := by decide +kernel
theorem dX9_rule_31 : decode cX9_rule 31 = .ok (.getfield 19, 3) := by decide +kernel
theorem dX9_rule_34 : decode cX9_rule 34 = .ok (.invokevirtual 183, 3) := by decide +kernel
theorem dX9_rule_37 : decode cX9_rule 37 = .ok (.ifCond .ne 14, 3) := by decide +kernel
theorem dX9_rule_40 : decode cX9_rule 40 = .ok (.bipush (-10), 2) := by decide +kernel
theorem dX9_rule_42 : decode cX9_rule 42 = .ok (.aload_n 0, 1) := by decide +kernel
theorem dX9_rule_43 : decode cX9_rule 43 = .ok (.getfield 19, 3) := by decide +kernel
theorem dX9_rule_46 : decode cX9_rule 46 = .ok (.getfield 186, 3) := by decide +kernel
theorem dX9_rule_49 : decode cX9_rule 49 = .ok (.isub, 1) := by decide +kernel
theorem dX9_rule_50 : decode cX9_rule 50 = .ok (.ireturn, 1) := by decide +kernel
theorem dX9_rule_51 : decode cX9_rule 51 = .ok (.aload_n 0, 1) := by decide +kernel
theorem dX9_rule_52 : decode cX9_rule 52 = .ok (.getfield 25, 3) := by decide +kernel
theorem dX9_rule_55 : decode cX9_rule 55 = .ok (.iload_n 1, 1) := by decide +kernel
theorem dX9_rule_56 : decode cX9_rule 56 = .ok (.aaload, 1) := by decide +kernel
theorem dX9_rule_57 : decode cX9_rule 57 = .ok (.aload_n 0, 1) := by decide +kernel
theorem dX9_rule_58 : decode cX9_rule 58 = .ok (.getfield 30, 3) := by decide +kernel
theorem dX9_rule_61 : decode cX9_rule 61 = .ok (.invokevirtual 189, 3) := by decide +kernel
theorem dX9_rule_64 : decode cX9_rule 64 = .ok (.iload_n 2, 1) := by decide +kernel
theorem dX9_rule_65 : decode cX9_rule 65 = .ok (.ireturn, 1) := by decide +kernel
theorem dX9_fault_0 : decode cX9_fault 0 = .ok (.aload_n 0, 1) := by decide +kernel
theorem dX9_fault_1 : decode cX9_fault 1 = .ok (.getfield 19, 3) := by decide +kernel
theorem dX9_fault_4 : decode cX9_fault 4 = .ok (.getfield 193, 3) := by decide +kernel
theorem dX9_fault_7 : decode cX9_fault 7 = .ok (.ireturn, 1) := by decide +kernel
theorem dX9_says_0 : decode cX9_says 0 = .ok (.iload_n 1, 1) := by decide +kernel
theorem dX9_says_1 : decode cX9_says 1 = .ok (.invokestatic 172, 3) := by decide +kernel
theorem dX9_says_4 : decode cX9_says 4 = .ok (.ifCond .ne 7, 3) := by decide +kernel
theorem dX9_says_7 : decode cX9_says 7 = .ok (.sipush (-1001), 3) := by decide +kernel
theorem dX9_says_10 : decode cX9_says 10 = .ok (.ireturn, 1) := by decide +kernel
theorem dX9_says_11 : decode cX9_says 11 = .ok (.iload_n 2, 1) := by decide +kernel
theorem dX9_says_12 : decode cX9_says 12 = .ok (.iconst 0, 1) := by decide +kernel
theorem dX9_says_13 : decode cX9_says 13 = .ok (.bipush 7, 2) := by decide +kernel
theorem dX9_says_15 : decode cX9_says 15 = .ok (.invokestatic 66, 3) := by decide +kernel
theorem dX9_says_18 : decode cX9_says 18 = .ok (.ifCond .ne 7, 3) := by decide +kernel
theorem dX9_says_21 : decode cX9_says 21 = .ok (.sipush (-1002), 3) := by decide +kernel
theorem dX9_says_24 : decode cX9_says 24 = .ok (.ireturn, 1) := by decide +kernel
theorem dX9_says_25 : decode cX9_says 25 = .ok (.aload_n 0, 1) := by decide +kernel
theorem dX9_says_26 : decode cX9_says 26 = .ok (.getfield 25, 3) := by decide +kernel
theorem dX9_says_29 : decode cX9_says 29 = .ok (.iload_n 1, 1) := by decide +kernel
theorem dX9_says_30 : decode cX9_says 30 = .ok (.aaload, 1) := by decide +kernel
theorem dX9_says_31 : decode cX9_says 31 = .ok (.getfield 196, 3) := by decide +kernel
theorem dX9_says_34 : decode cX9_says 34 = .ok (.iload_n 2, 1) := by decide +kernel
theorem dX9_says_35 : decode cX9_says 35 = .ok (.iaload, 1) := by decide +kernel
theorem dX9_says_36 : decode cX9_says 36 = .ok (.ireturn, 1) := by decide +kernel
theorem dX9_score_0 : decode cX9_score 0 = .ok (.iload_n 1, 1) := by decide +kernel
theorem dX9_score_1 : decode cX9_score 1 = .ok (.invokestatic 172, 3) := by decide +kernel
theorem dX9_score_4 : decode cX9_score 4 = .ok (.ifCond .ne 7, 3) := by decide +kernel
theorem dX9_score_7 : decode cX9_score 7 = .ok (.sipush (-1001), 3) := by decide +kernel
theorem dX9_score_10 : decode cX9_score 10 = .ok (.ireturn, 1) := by decide +kernel
theorem dX9_score_11 : decode cX9_score 11 = .ok (.iload_n 2, 1) := by decide +kernel
theorem dX9_score_12 : decode cX9_score 12 = .ok (.iconst 0, 1) := by decide +kernel
theorem dX9_score_13 : decode cX9_score 13 = .ok (.iconst 5, 1) := by decide +kernel
theorem dX9_score_14 : decode cX9_score 14 = .ok (.invokestatic 66, 3) := by decide +kernel
theorem dX9_score_17 : decode cX9_score 17 = .ok (.ifCond .ne 7, 3) := by decide +kernel
theorem dX9_score_20 : decode cX9_score 20 = .ok (.sipush (-1002), 3) := by decide +kernel
theorem dX9_score_23 : decode cX9_score 23 = .ok (.ireturn, 1) := by decide +kernel
theorem dX9_score_24 : decode cX9_score 24 = .ok (.aload_n 0, 1) := by decide +kernel
theorem dX9_score_25 : decode cX9_score 25 = .ok (.getfield 37, 3) := by decide +kernel
theorem dX9_score_28 : decode cX9_score 28 = .ok (.aload_n 0, 1) := by decide +kernel
theorem dX9_score_29 : decode cX9_score 29 = .ok (.getfield 10, 3) := by decide +kernel
theorem dX9_score_32 : decode cX9_score 32 = .ok (.aload_n 0, 1) := by decide +kernel
theorem dX9_score_33 : decode cX9_score 33 = .ok (.getfield 25, 3) := by decide +kernel
theorem dX9_score_36 : decode cX9_score 36 = .ok (.iload_n 1, 1) := by decide +kernel
theorem dX9_score_37 : decode cX9_score 37 = .ok (.aaload, 1) := by decide +kernel
theorem dX9_score_38 : decode cX9_score 38 = .ok (.iconst (-1), 1) := by decide +kernel
theorem dX9_score_39 : decode cX9_score 39 = .ok (.invokevirtual 200, 3) := by decide +kernel
theorem dX9_score_42 : decode cX9_score 42 = .ok (.iload_n 2, 1) := by decide +kernel
theorem dX9_score_43 : decode cX9_score 43 = .ok (.tableswitch 77 0 4 #[33, 41, 51, 61, 69], 33) := by decide +kernel
theorem dX9_score_76 : decode cX9_score 76 = .ok (.aload_n 0, 1) := by decide +kernel
theorem dX9_score_77 : decode cX9_score 77 = .ok (.getfield 37, 3) := by decide +kernel
theorem dX9_score_80 : decode cX9_score 80 = .ok (.invokevirtual 204, 3) := by decide +kernel
theorem dX9_score_83 : decode cX9_score 83 = .ok (.ireturn, 1) := by decide +kernel
theorem dX9_score_84 : decode cX9_score 84 = .ok (.aload_n 0, 1) := by decide +kernel
theorem dX9_score_85 : decode cX9_score 85 = .ok (.getfield 37, 3) := by decide +kernel
theorem dX9_score_88 : decode cX9_score 88 = .ok (.getfield 207, 3) := by decide +kernel
theorem dX9_score_91 : decode cX9_score 91 = .ok (.iconst 0, 1) := by decide +kernel
theorem dX9_score_92 : decode cX9_score 92 = .ok (.iaload, 1) := by decide +kernel
theorem dX9_score_93 : decode cX9_score 93 = .ok (.ireturn, 1) := by decide +kernel
theorem dX9_score_94 : decode cX9_score 94 = .ok (.aload_n 0, 1) := by decide +kernel
theorem dX9_score_95 : decode cX9_score 95 = .ok (.getfield 37, 3) := by decide +kernel
theorem dX9_score_98 : decode cX9_score 98 = .ok (.getfield 207, 3) := by decide +kernel
theorem dX9_score_101 : decode cX9_score 101 = .ok (.iconst 1, 1) := by decide +kernel
theorem dX9_score_102 : decode cX9_score 102 = .ok (.iaload, 1) := by decide +kernel
theorem dX9_score_103 : decode cX9_score 103 = .ok (.ireturn, 1) := by decide +kernel
theorem dX9_score_104 : decode cX9_score 104 = .ok (.aload_n 0, 1) := by decide +kernel
theorem dX9_score_105 : decode cX9_score 105 = .ok (.getfield 37, 3) := by decide +kernel
theorem dX9_score_108 : decode cX9_score 108 = .ok (.getfield 210, 3) := by decide +kernel
theorem dX9_score_111 : decode cX9_score 111 = .ok (.ireturn, 1) := by decide +kernel
theorem dX9_score_112 : decode cX9_score 112 = .ok (.aload_n 0, 1) := by decide +kernel
theorem dX9_score_113 : decode cX9_score 113 = .ok (.getfield 37, 3) := by decide +kernel
theorem dX9_score_116 : decode cX9_score 116 = .ok (.getfield 213, 3) := by decide +kernel
theorem dX9_score_119 : decode cX9_score 119 = .ok (.ireturn, 1) := by decide +kernel
theorem dX9_score_120 : decode cX9_score 120 = .ok (.aload_n 0, 1) := by decide +kernel
theorem dX9_score_121 : decode cX9_score 121 = .ok (.getfield 37, 3) := by decide +kernel
theorem dX9_score_124 : decode cX9_score 124 = .ok (.getfield 216, 3) := by decide +kernel
theorem dX9_score_127 : decode cX9_score 127 = .ok (.ireturn, 1) := by decide +kernel
theorem dX9_measure_0 : decode cX9_measure 0 = .ok (.aload_n 0, 1) := by decide +kernel
theorem dX9_measure_1 : decode cX9_measure 1 = .ok (.getfield 10, 3) := by decide +kernel
theorem dX9_measure_4 : decode cX9_measure 4 = .ok (.iload_n 1, 1) := by decide +kernel
theorem dX9_measure_5 : decode cX9_measure 5 = .ok (.invokevirtual 84, 3) := by decide +kernel
theorem dX9_measure_8 : decode cX9_measure 8 = .ok (.astore 5, 2) := by decide +kernel
theorem dX9_measure_10 : decode cX9_measure 10 = .ok (.aload 5, 2) := by decide +kernel
theorem dX9_measure_12 : decode cX9_measure 12 = .ok (.ifnonnull 7, 3) := by decide +kernel
theorem dX9_measure_15 : decode cX9_measure 15 = .ok (.sipush (-1001), 3) := by decide +kernel
theorem dX9_measure_18 : decode cX9_measure 18 = .ok (.ireturn, 1) := by decide +kernel
theorem dX9_measure_19 : decode cX9_measure 19 = .ok (.iload_n 2, 1) := by decide +kernel
theorem dX9_measure_20 : decode cX9_measure 20 = .ok (.iconst 0, 1) := by decide +kernel
theorem dX9_measure_21 : decode cX9_measure 21 = .ok (.iconst 2, 1) := by decide +kernel
theorem dX9_measure_22 : decode cX9_measure 22 = .ok (.invokestatic 66, 3) := by decide +kernel
theorem dX9_measure_25 : decode cX9_measure 25 = .ok (.ifCond .eq 26, 3) := by decide +kernel
theorem dX9_measure_28 : decode cX9_measure 28 = .ok (.iload_n 3, 1) := by decide +kernel
theorem dX9_measure_29 : decode cX9_measure 29 = .ok (.iconst 0, 1) := by decide +kernel
theorem dX9_measure_30 : decode cX9_measure 30 = .ok (.sipush 9999, 3) := by decide +kernel
theorem dX9_measure_33 : decode cX9_measure 33 = .ok (.invokestatic 66, 3) := by decide +kernel
theorem dX9_measure_36 : decode cX9_measure 36 = .ok (.ifCond .eq 15, 3) := by decide +kernel
theorem dX9_measure_39 : decode cX9_measure 39 = .ok (.iload 4, 2) := by decide +kernel
theorem dX9_measure_41 : decode cX9_measure 41 = .ok (.iload_n 3, 1) := by decide +kernel
theorem dX9_measure_42 : decode cX9_measure 42 = .ok (.sipush 9999, 3) := by decide +kernel
theorem dX9_measure_45 : decode cX9_measure 45 = .ok (.invokestatic 66, 3) := by decide +kernel
theorem dX9_measure_48 : decode cX9_measure 48 = .ok (.ifCond .ne 7, 3) := by decide +kernel
theorem dX9_measure_51 : decode cX9_measure 51 = .ok (.sipush (-1002), 3) := by decide +kernel
theorem dX9_measure_54 : decode cX9_measure 54 = .ok (.ireturn, 1) := by decide +kernel
theorem dX9_measure_55 : decode cX9_measure 55 = .ok (.aload 5, 2) := by decide +kernel
theorem dX9_measure_57 : decode cX9_measure 57 = .ok (.invokevirtual 109, 3) := by decide +kernel
theorem dX9_measure_60 : decode cX9_measure 60 = .ok (.ifCond .ne 11, 3) := by decide +kernel
theorem dX9_measure_63 : decode cX9_measure 63 = .ok (.aload 5, 2) := by decide +kernel
theorem dX9_measure_65 : decode cX9_measure 65 = .ok (.getfield 88, 3) := by decide +kernel
theorem dX9_measure_68 : decode cX9_measure 68 = .ok (.ifCond .eq 7, 3) := by decide +kernel
theorem dX9_measure_71 : decode cX9_measure 71 = .ok (.sipush (-1003), 3) := by decide +kernel
theorem dX9_measure_74 : decode cX9_measure 74 = .ok (.ireturn, 1) := by decide +kernel
theorem dX9_measure_75 : decode cX9_measure 75 = .ok (.aload 5, 2) := by decide +kernel
theorem dX9_measure_77 : decode cX9_measure 77 = .ok (.getfield 219, 3) := by decide +kernel
theorem dX9_measure_80 : decode cX9_measure 80 = .ok (.iload_n 2, 1) := by decide +kernel
theorem dX9_measure_81 : decode cX9_measure 81 = .ok (.iload_n 3, 1) := by decide +kernel
theorem dX9_measure_82 : decode cX9_measure 82 = .ok (.iastore, 1) := by decide +kernel
theorem dX9_measure_83 : decode cX9_measure 83 = .ok (.aload 5, 2) := by decide +kernel
theorem dX9_measure_85 : decode cX9_measure 85 = .ok (.getfield 222, 3) := by decide +kernel
theorem dX9_measure_88 : decode cX9_measure 88 = .ok (.iload_n 2, 1) := by decide +kernel
theorem dX9_measure_89 : decode cX9_measure 89 = .ok (.iload 4, 2) := by decide +kernel
theorem dX9_measure_91 : decode cX9_measure 91 = .ok (.iastore, 1) := by decide +kernel
theorem dX9_measure_92 : decode cX9_measure 92 = .ok (.aload 5, 2) := by decide +kernel
theorem dX9_measure_94 : decode cX9_measure 94 = .ok (.invokevirtual 225, 3) := by decide +kernel
theorem dX9_measure_97 : decode cX9_measure 97 = .ok (.ireturn, 1) := by decide +kernel
theorem dX9_known_0 : decode cX9_known 0 = .ok (.aload_n 0, 1) := by decide +kernel
theorem dX9_known_1 : decode cX9_known 1 = .ok (.getfield 10, 3) := by decide +kernel
theorem dX9_known_4 : decode cX9_known 4 = .ok (.iload_n 1, 1) := by decide +kernel
theorem dX9_known_5 : decode cX9_known 5 = .ok (.invokevirtual 84, 3) := by decide +kernel
theorem dX9_known_8 : decode cX9_known 8 = .ok (.astore_n 3, 1) := by decide +kernel
theorem dX9_known_9 : decode cX9_known 9 = .ok (.aload_n 3, 1) := by decide +kernel
theorem dX9_known_10 : decode cX9_known 10 = .ok (.ifnonnull 7, 3) := by decide +kernel
theorem dX9_known_13 : decode cX9_known 13 = .ok (.sipush (-1001), 3) := by decide +kernel
theorem dX9_known_16 : decode cX9_known 16 = .ok (.ireturn, 1) := by decide +kernel
theorem dX9_known_17 : decode cX9_known 17 = .ok (.iload_n 2, 1) := by decide +kernel
theorem dX9_known_18 : decode cX9_known 18 = .ok (.iconst 0, 1) := by decide +kernel
theorem dX9_known_19 : decode cX9_known 19 = .ok (.iconst 1, 1) := by decide +kernel
theorem dX9_known_20 : decode cX9_known 20 = .ok (.invokestatic 66, 3) := by decide +kernel
theorem dX9_known_23 : decode cX9_known 23 = .ok (.ifCond .ne 7, 3) := by decide +kernel
theorem dX9_known_26 : decode cX9_known 26 = .ok (.sipush (-1002), 3) := by decide +kernel
theorem dX9_known_29 : decode cX9_known 29 = .ok (.ireturn, 1) := by decide +kernel
theorem dX9_known_30 : decode cX9_known 30 = .ok (.aload_n 3, 1) := by decide +kernel
theorem dX9_known_31 : decode cX9_known 31 = .ok (.invokevirtual 225, 3) := by decide +kernel
theorem dX9_known_34 : decode cX9_known 34 = .ok (.ifCond .eq 10, 3) := by decide +kernel
theorem dX9_known_37 : decode cX9_known 37 = .ok (.aload_n 3, 1) := by decide +kernel
theorem dX9_known_38 : decode cX9_known 38 = .ok (.invokevirtual 228, 3) := by decide +kernel
theorem dX9_known_41 : decode cX9_known 41 = .ok (.ifCond .eq 5, 3) := by decide +kernel
theorem dX9_known_44 : decode cX9_known 44 = .ok (.iconst (-1), 1) := by decide +kernel
theorem dX9_known_45 : decode cX9_known 45 = .ok (.ireturn, 1) := by decide +kernel
theorem dX9_known_46 : decode cX9_known 46 = .ok (.iload_n 2, 1) := by decide +kernel
theorem dX9_known_47 : decode cX9_known 47 = .ok (.ifCond .ne 10, 3) := by decide +kernel
theorem dX9_known_50 : decode cX9_known 50 = .ok (.aload_n 3, 1) := by decide +kernel
theorem dX9_known_51 : decode cX9_known 51 = .ok (.invokevirtual 231, 3) := by decide +kernel
theorem dX9_known_54 : decode cX9_known 54 = .ok (.goto 7, 3) := by decide +kernel
theorem dX9_known_57 : decode cX9_known 57 = .ok (.aload_n 3, 1) := by decide +kernel
theorem dX9_known_58 : decode cX9_known 58 = .ok (.invokevirtual 234, 3) := by decide +kernel
theorem dX9_known_61 : decode cX9_known 61 = .ok (.ireturn, 1) := by decide +kernel
theorem dX9_sure_0 : decode cX9_sure 0 = .ok (.iload_n 1, 1) := by decide +kernel
theorem dX9_sure_1 : decode cX9_sure 1 = .ok (.invokestatic 172, 3) := by decide +kernel
theorem dX9_sure_4 : decode cX9_sure 4 = .ok (.ifCond .ne 7, 3) := by decide +kernel
theorem dX9_sure_7 : decode cX9_sure 7 = .ok (.sipush (-1001), 3) := by decide +kernel
theorem dX9_sure_10 : decode cX9_sure 10 = .ok (.ireturn, 1) := by decide +kernel
theorem dX9_sure_11 : decode cX9_sure 11 = .ok (.iload_n 2, 1) := by decide +kernel
theorem dX9_sure_12 : decode cX9_sure 12 = .ok (.iconst 0, 1) := by decide +kernel
theorem dX9_sure_13 : decode cX9_sure 13 = .ok (.iconst 2, 1) := by decide +kernel
theorem dX9_sure_14 : decode cX9_sure 14 = .ok (.invokestatic 66, 3) := by decide +kernel
theorem dX9_sure_17 : decode cX9_sure 17 = .ok (.ifCond .ne 7, 3) := by decide +kernel
theorem dX9_sure_20 : decode cX9_sure 20 = .ok (.sipush (-1002), 3) := by decide +kernel
theorem dX9_sure_23 : decode cX9_sure 23 = .ok (.ireturn, 1) := by decide +kernel
theorem dX9_sure_24 : decode cX9_sure 24 = .ok (.aload_n 0, 1) := by decide +kernel
theorem dX9_sure_25 : decode cX9_sure 25 = .ok (.getfield 37, 3) := by decide +kernel
theorem dX9_sure_28 : decode cX9_sure 28 = .ok (.aload_n 0, 1) := by decide +kernel
theorem dX9_sure_29 : decode cX9_sure 29 = .ok (.getfield 10, 3) := by decide +kernel
theorem dX9_sure_32 : decode cX9_sure 32 = .ok (.aload_n 0, 1) := by decide +kernel
theorem dX9_sure_33 : decode cX9_sure 33 = .ok (.getfield 25, 3) := by decide +kernel
theorem dX9_sure_36 : decode cX9_sure 36 = .ok (.iload_n 1, 1) := by decide +kernel
theorem dX9_sure_37 : decode cX9_sure 37 = .ok (.aaload, 1) := by decide +kernel
theorem dX9_sure_38 : decode cX9_sure 38 = .ok (.invokevirtual 237, 3) := by decide +kernel
theorem dX9_sure_41 : decode cX9_sure 41 = .ok (.ifCond .eq 7, 3) := by decide +kernel
theorem dX9_sure_44 : decode cX9_sure 44 = .ok (.sipush (-1003), 3) := by decide +kernel
theorem dX9_sure_47 : decode cX9_sure 47 = .ok (.ireturn, 1) := by decide +kernel
theorem dX9_sure_48 : decode cX9_sure 48 = .ok (.aload_n 0, 1) := by decide +kernel
theorem dX9_sure_49 : decode cX9_sure 49 = .ok (.getfield 37, 3) := by decide +kernel
theorem dX9_sure_52 : decode cX9_sure 52 = .ok (.aload_n 0, 1) := by decide +kernel
theorem dX9_sure_53 : decode cX9_sure 53 = .ok (.getfield 10, 3) := by decide +kernel
theorem dX9_sure_56 : decode cX9_sure 56 = .ok (.aload_n 0, 1) := by decide +kernel
theorem dX9_sure_57 : decode cX9_sure 57 = .ok (.getfield 25, 3) := by decide +kernel
theorem dX9_sure_60 : decode cX9_sure 60 = .ok (.iload_n 1, 1) := by decide +kernel
theorem dX9_sure_61 : decode cX9_sure 61 = .ok (.aaload, 1) := by decide +kernel
theorem dX9_sure_62 : decode cX9_sure 62 = .ok (.iconst 1, 1) := by decide +kernel
theorem dX9_sure_63 : decode cX9_sure 63 = .ok (.invokevirtual 200, 3) := by decide +kernel
theorem dX9_sure_66 : decode cX9_sure 66 = .ok (.aload_n 0, 1) := by decide +kernel
theorem dX9_sure_67 : decode cX9_sure 67 = .ok (.getfield 37, 3) := by decide +kernel
theorem dX9_sure_70 : decode cX9_sure 70 = .ok (.invokevirtual 204, 3) := by decide +kernel
theorem dX9_sure_73 : decode cX9_sure 73 = .ok (.istore_n 3, 1) := by decide +kernel
theorem dX9_sure_74 : decode cX9_sure 74 = .ok (.aload_n 0, 1) := by decide +kernel
theorem dX9_sure_75 : decode cX9_sure 75 = .ok (.getfield 37, 3) := by decide +kernel
theorem dX9_sure_78 : decode cX9_sure 78 = .ok (.aload_n 0, 1) := by decide +kernel
theorem dX9_sure_79 : decode cX9_sure 79 = .ok (.getfield 10, 3) := by decide +kernel
theorem dX9_sure_82 : decode cX9_sure 82 = .ok (.aload_n 0, 1) := by decide +kernel
theorem dX9_sure_83 : decode cX9_sure 83 = .ok (.getfield 25, 3) := by decide +kernel
theorem dX9_sure_86 : decode cX9_sure 86 = .ok (.iload_n 1, 1) := by decide +kernel
theorem dX9_sure_87 : decode cX9_sure 87 = .ok (.aaload, 1) := by decide +kernel
theorem dX9_sure_88 : decode cX9_sure 88 = .ok (.iconst 0, 1) := by decide +kernel
theorem dX9_sure_89 : decode cX9_sure 89 = .ok (.invokevirtual 200, 3) := by decide +kernel
theorem dX9_sure_92 : decode cX9_sure 92 = .ok (.aload_n 0, 1) := by decide +kernel
theorem dX9_sure_93 : decode cX9_sure 93 = .ok (.getfield 37, 3) := by decide +kernel
theorem dX9_sure_96 : decode cX9_sure 96 = .ok (.invokevirtual 204, 3) := by decide +kernel
theorem dX9_sure_99 : decode cX9_sure 99 = .ok (.istore 4, 2) := by decide +kernel
theorem dX9_sure_101 : decode cX9_sure 101 = .ok (.iload_n 2, 1) := by decide +kernel
theorem dX9_sure_102 : decode cX9_sure 102 = .ok (.lookupswitch 31 #[(0, 26), (1, 28)], 26) := by decide +kernel
theorem dX9_sure_128 : decode cX9_sure 128 = .ok (.iload_n 3, 1) := by decide +kernel
theorem dX9_sure_129 : decode cX9_sure 129 = .ok (.ireturn, 1) := by decide +kernel
theorem dX9_sure_130 : decode cX9_sure 130 = .ok (.iload 4, 2) := by decide +kernel
theorem dX9_sure_132 : decode cX9_sure 132 = .ok (.ireturn, 1) := by decide +kernel
theorem dX9_sure_133 : decode cX9_sure 133 = .ok (.iload_n 3, 1) := by decide +kernel
theorem dX9_sure_134 : decode cX9_sure 134 = .ok (.iload 4, 2) := by decide +kernel
theorem dX9_sure_136 : decode cX9_sure 136 = .ok (.if_icmp .ne 7, 3) := by decide +kernel
theorem dX9_sure_139 : decode cX9_sure 139 = .ok (.iconst 1, 1) := by decide +kernel
theorem dX9_sure_140 : decode cX9_sure 140 = .ok (.goto 4, 3) := by decide +kernel
theorem dX9_sure_143 : decode cX9_sure 143 = .ok (.iconst 0, 1) := by decide +kernel
theorem dX9_sure_144 : decode cX9_sure 144 = .ok (.invokestatic 113, 3) := by decide +kernel
theorem dX9_sure_147 : decode cX9_sure 147 = .ok (.ireturn, 1) := by decide +kernel
theorem dX9_act_0 : decode cX9_act 0 = .ok (.iload_n 1, 1) := by decide +kernel
theorem dX9_act_1 : decode cX9_act 1 = .ok (.iconst 0, 1) := by decide +kernel
theorem dX9_act_2 : decode cX9_act 2 = .ok (.iconst 1, 1) := by decide +kernel
theorem dX9_act_3 : decode cX9_act 3 = .ok (.invokestatic 66, 3) := by decide +kernel
theorem dX9_act_6 : decode cX9_act 6 = .ok (.ifCond .eq 12, 3) := by decide +kernel
theorem dX9_act_9 : decode cX9_act 9 = .ok (.iload_n 2, 1) := by decide +kernel
theorem dX9_act_10 : decode cX9_act 10 = .ok (.iconst 0, 1) := by decide +kernel
theorem dX9_act_11 : decode cX9_act 11 = .ok (.iconst 2, 1) := by decide +kernel
theorem dX9_act_12 : decode cX9_act 12 = .ok (.invokestatic 66, 3) := by decide +kernel
theorem dX9_act_15 : decode cX9_act 15 = .ok (.ifCond .ne 7, 3) := by decide +kernel
theorem dX9_act_18 : decode cX9_act 18 = .ok (.sipush (-1002), 3) := by decide +kernel
theorem dX9_act_21 : decode cX9_act 21 = .ok (.ireturn, 1) := by decide +kernel
theorem dX9_act_22 : decode cX9_act 22 = .ok (.iload_n 3, 1) := by decide +kernel
theorem dX9_act_23 : decode cX9_act 23 = .ok (.invokestatic 241, 3) := by decide +kernel
theorem dX9_act_26 : decode cX9_act 26 = .ok (.ifCond .eq 35, 3) := by decide +kernel
theorem dX9_act_29 : decode cX9_act 29 = .ok (.iload 4, 2) := by decide +kernel
theorem dX9_act_31 : decode cX9_act 31 = .ok (.invokestatic 241, 3) := by decide +kernel
theorem dX9_act_34 : decode cX9_act 34 = .ok (.ifCond .eq 27, 3) := by decide +kernel
theorem dX9_act_37 : decode cX9_act 37 = .ok (.iload 5, 2) := by decide +kernel
theorem dX9_act_39 : decode cX9_act 39 = .ok (.invokestatic 241, 3) := by decide +kernel
theorem dX9_act_42 : decode cX9_act 42 = .ok (.ifCond .eq 19, 3) := by decide +kernel
theorem dX9_act_45 : decode cX9_act 45 = .ok (.iload 6, 2) := by decide +kernel
theorem dX9_act_47 : decode cX9_act 47 = .ok (.invokestatic 241, 3) := by decide +kernel
theorem dX9_act_50 : decode cX9_act 50 = .ok (.ifCond .eq 11, 3) := by decide +kernel
theorem dX9_act_53 : decode cX9_act 53 = .ok (.iload 7, 2) := by decide +kernel
theorem dX9_act_55 : decode cX9_act 55 = .ok (.invokestatic 241, 3) := by decide +kernel
theorem dX9_act_58 : decode cX9_act 58 = .ok (.ifCond .ne 7, 3) := by decide +kernel
theorem dX9_act_61 : decode cX9_act 61 = .ok (.sipush (-1002), 3) := by decide +kernel
theorem dX9_act_64 : decode cX9_act 64 = .ok (.ireturn, 1) := by decide +kernel
theorem dX9_act_65 : decode cX9_act 65 = .ok (.iload_n 3, 1) := by decide +kernel
theorem dX9_act_66 : decode cX9_act 66 = .ok (.iload 4, 2) := by decide +kernel
theorem dX9_act_68 : decode cX9_act 68 = .ok (.iadd, 1) := by decide +kernel
theorem dX9_act_69 : decode cX9_act 69 = .ok (.iload 5, 2) := by decide +kernel
theorem dX9_act_71 : decode cX9_act 71 = .ok (.iadd, 1) := by decide +kernel
theorem dX9_act_72 : decode cX9_act 72 = .ok (.iload 6, 2) := by decide +kernel
theorem dX9_act_74 : decode cX9_act 74 = .ok (.iadd, 1) := by decide +kernel
theorem dX9_act_75 : decode cX9_act 75 = .ok (.iload 7, 2) := by decide +kernel
theorem dX9_act_77 : decode cX9_act 77 = .ok (.iadd, 1) := by decide +kernel
theorem dX9_act_78 : decode cX9_act 78 = .ok (.bipush 60, 2) := by decide +kernel
theorem dX9_act_80 : decode cX9_act 80 = .ok (.if_icmp .eq 7, 3) := by decide +kernel
theorem dX9_act_83 : decode cX9_act 83 = .ok (.sipush (-1002), 3) := by decide +kernel
theorem dX9_act_86 : decode cX9_act 86 = .ok (.ireturn, 1) := by decide +kernel
theorem dX9_act_87 : decode cX9_act 87 = .ok (.iload_n 1, 1) := by decide +kernel
theorem dX9_act_88 : decode cX9_act 88 = .ok (.iload_n 2, 1) := by decide +kernel
theorem dX9_act_89 : decode cX9_act 89 = .ok (.invokestatic 244, 3) := by decide +kernel
theorem dX9_act_92 : decode cX9_act 92 = .ok (.istore 8, 2) := by decide +kernel
theorem dX9_act_94 : decode cX9_act 94 = .ok (.aload_n 0, 1) := by decide +kernel
theorem dX9_act_95 : decode cX9_act 95 = .ok (.getfield 44, 3) := by decide +kernel
theorem dX9_act_98 : decode cX9_act 98 = .ok (.getfield 248, 3) := by decide +kernel
theorem dX9_act_101 : decode cX9_act 101 = .ok (.iload 8, 2) := by decide +kernel
theorem dX9_act_103 : decode cX9_act 103 = .ok (.iload_n 3, 1) := by decide +kernel
theorem dX9_act_104 : decode cX9_act 104 = .ok (.iastore, 1) := by decide +kernel
theorem dX9_act_105 : decode cX9_act 105 = .ok (.aload_n 0, 1) := by decide +kernel
theorem dX9_act_106 : decode cX9_act 106 = .ok (.getfield 44, 3) := by decide +kernel
theorem dX9_act_109 : decode cX9_act 109 = .ok (.getfield 248, 3) := by decide +kernel
theorem dX9_act_112 : decode cX9_act 112 = .ok (.iload 8, 2) := by decide +kernel
theorem dX9_act_114 : decode cX9_act 114 = .ok (.iconst 1, 1) := by decide +kernel
theorem dX9_act_115 : decode cX9_act 115 = .ok (.iadd, 1) := by decide +kernel
theorem dX9_act_116 : decode cX9_act 116 = .ok (.iload 4, 2) := by decide +kernel
theorem dX9_act_118 : decode cX9_act 118 = .ok (.iastore, 1) := by decide +kernel
theorem dX9_act_119 : decode cX9_act 119 = .ok (.aload_n 0, 1) := by decide +kernel
theorem dX9_act_120 : decode cX9_act 120 = .ok (.getfield 44, 3) := by decide +kernel
theorem dX9_act_123 : decode cX9_act 123 = .ok (.getfield 248, 3) := by decide +kernel
theorem dX9_act_126 : decode cX9_act 126 = .ok (.iload 8, 2) := by decide +kernel
theorem dX9_act_128 : decode cX9_act 128 = .ok (.iconst 2, 1) := by decide +kernel
theorem dX9_act_129 : decode cX9_act 129 = .ok (.iadd, 1) := by decide +kernel
theorem dX9_act_130 : decode cX9_act 130 = .ok (.iload 5, 2) := by decide +kernel
theorem dX9_act_132 : decode cX9_act 132 = .ok (.iastore, 1) := by decide +kernel
theorem dX9_act_133 : decode cX9_act 133 = .ok (.aload_n 0, 1) := by decide +kernel
theorem dX9_act_134 : decode cX9_act 134 = .ok (.getfield 44, 3) := by decide +kernel
theorem dX9_act_137 : decode cX9_act 137 = .ok (.getfield 248, 3) := by decide +kernel
theorem dX9_act_140 : decode cX9_act 140 = .ok (.iload 8, 2) := by decide +kernel
theorem dX9_act_142 : decode cX9_act 142 = .ok (.iconst 3, 1) := by decide +kernel
theorem dX9_act_143 : decode cX9_act 143 = .ok (.iadd, 1) := by decide +kernel
theorem dX9_act_144 : decode cX9_act 144 = .ok (.iload 6, 2) := by decide +kernel
theorem dX9_act_146 : decode cX9_act 146 = .ok (.iastore, 1) := by decide +kernel
theorem dX9_act_147 : decode cX9_act 147 = .ok (.aload_n 0, 1) := by decide +kernel
theorem dX9_act_148 : decode cX9_act 148 = .ok (.getfield 44, 3) := by decide +kernel
theorem dX9_act_151 : decode cX9_act 151 = .ok (.getfield 248, 3) := by decide +kernel
theorem dX9_act_154 : decode cX9_act 154 = .ok (.iload 8, 2) := by decide +kernel
theorem dX9_act_156 : decode cX9_act 156 = .ok (.iconst 4, 1) := by decide +kernel
theorem dX9_act_157 : decode cX9_act 157 = .ok (.iadd, 1) := by decide +kernel
theorem dX9_act_158 : decode cX9_act 158 = .ok (.iload 7, 2) := by decide +kernel
theorem dX9_act_160 : decode cX9_act 160 = .ok (.iastore, 1) := by decide +kernel
theorem dX9_act_161 : decode cX9_act 161 = .ok (.iconst 1, 1) := by decide +kernel
theorem dX9_act_162 : decode cX9_act 162 = .ok (.ireturn, 1) := by decide +kernel
theorem dX9_win_0 : decode cX9_win 0 = .ok (.iload_n 1, 1) := by decide +kernel
theorem dX9_win_1 : decode cX9_win 1 = .ok (.iconst 0, 1) := by decide +kernel
theorem dX9_win_2 : decode cX9_win 2 = .ok (.bipush 6, 2) := by decide +kernel
theorem dX9_win_4 : decode cX9_win 4 = .ok (.invokestatic 66, 3) := by decide +kernel
theorem dX9_win_7 : decode cX9_win 7 = .ok (.ifCond .eq 22, 3) := by decide +kernel
theorem dX9_win_10 : decode cX9_win 10 = .ok (.iload_n 2, 1) := by decide +kernel
theorem dX9_win_11 : decode cX9_win 11 = .ok (.iconst 0, 1) := by decide +kernel
theorem dX9_win_12 : decode cX9_win 12 = .ok (.iconst 1, 1) := by decide +kernel
theorem dX9_win_13 : decode cX9_win 13 = .ok (.invokestatic 66, 3) := by decide +kernel
theorem dX9_win_16 : decode cX9_win 16 = .ok (.ifCond .eq 13, 3) := by decide +kernel
theorem dX9_win_19 : decode cX9_win 19 = .ok (.iload 5, 2) := by decide +kernel
theorem dX9_win_21 : decode cX9_win 21 = .ok (.iconst 0, 1) := by decide +kernel
theorem dX9_win_22 : decode cX9_win 22 = .ok (.iconst 2, 1) := by decide +kernel
theorem dX9_win_23 : decode cX9_win 23 = .ok (.invokestatic 66, 3) := by decide +kernel
theorem dX9_win_26 : decode cX9_win 26 = .ok (.ifCond .ne 7, 3) := by decide +kernel
theorem dX9_win_29 : decode cX9_win 29 = .ok (.ldc2_w 251, 3) := by decide +kernel
theorem dX9_win_32 : decode cX9_win 32 = .ok (.lreturn, 1) := by decide +kernel
theorem dX9_win_33 : decode cX9_win 33 = .ok (.iload_n 3, 1) := by decide +kernel
theorem dX9_win_34 : decode cX9_win 34 = .ok (.invokestatic 253, 3) := by decide +kernel
theorem dX9_win_37 : decode cX9_win 37 = .ok (.ifCond .eq 11, 3) := by decide +kernel
theorem dX9_win_40 : decode cX9_win 40 = .ok (.iload 4, 2) := by decide +kernel
theorem dX9_win_42 : decode cX9_win 42 = .ok (.invokestatic 253, 3) := by decide +kernel
theorem dX9_win_45 : decode cX9_win 45 = .ok (.ifCond .ne 7, 3) := by decide +kernel
theorem dX9_win_48 : decode cX9_win 48 = .ok (.ldc2_w 251, 3) := by decide +kernel
theorem dX9_win_51 : decode cX9_win 51 = .ok (.lreturn, 1) := by decide +kernel
theorem dX9_win_52 : decode cX9_win 52 = .ok (.aload_n 0, 1) := by decide +kernel
theorem dX9_win_53 : decode cX9_win 53 = .ok (.getfield 44, 3) := by decide +kernel
theorem dX9_win_56 : decode cX9_win 56 = .ok (.iload_n 1, 1) := by decide +kernel
theorem dX9_win_57 : decode cX9_win 57 = .ok (.iload_n 2, 1) := by decide +kernel
theorem dX9_win_58 : decode cX9_win 58 = .ok (.iload 4, 2) := by decide +kernel
theorem dX9_win_60 : decode cX9_win 60 = .ok (.invokevirtual 256, 3) := by decide +kernel
theorem dX9_win_63 : decode cX9_win 63 = .ok (.iload 5, 2) := by decide +kernel
theorem dX9_win_65 : decode cX9_win 65 = .ok (.iconst 2, 1) := by decide +kernel
theorem dX9_win_66 : decode cX9_win 66 = .ok (.if_icmp .ne 23, 3) := by decide +kernel
theorem dX9_win_69 : decode cX9_win 69 = .ok (.iload_n 1, 1) := by decide +kernel
theorem dX9_win_70 : decode cX9_win 70 = .ok (.ifCond .ne 9, 3) := by decide +kernel
theorem dX9_win_73 : decode cX9_win 73 = .ok (.ldc2_w 259, 3) := by decide +kernel
theorem dX9_win_76 : decode cX9_win 76 = .ok (.goto 12, 3) := by decide +kernel
theorem dX9_win_79 : decode cX9_win 79 = .ok (.aload_n 0, 1) := by decide +kernel
theorem dX9_win_80 : decode cX9_win 80 = .ok (.getfield 44, 3) := by decide +kernel
theorem dX9_win_83 : decode cX9_win 83 = .ok (.iload_n 3, 1) := by decide +kernel
theorem dX9_win_84 : decode cX9_win 84 = .ok (.invokevirtual 261, 3) := by decide +kernel
theorem dX9_win_87 : decode cX9_win 87 = .ok (.i2l, 1) := by decide +kernel
theorem dX9_win_88 : decode cX9_win 88 = .ok (.lreturn, 1) := by decide +kernel
theorem dX9_win_89 : decode cX9_win 89 = .ok (.aload_n 0, 1) := by decide +kernel
theorem dX9_win_90 : decode cX9_win 90 = .ok (.getfield 44, 3) := by decide +kernel
theorem dX9_win_93 : decode cX9_win 93 = .ok (.iload_n 3, 1) := by decide +kernel
theorem dX9_win_94 : decode cX9_win 94 = .ok (.invokevirtual 264, 3) := by decide +kernel
theorem dX9_win_97 : decode cX9_win 97 = .ok (.lstore 6, 2) := by decide +kernel
theorem dX9_win_99 : decode cX9_win 99 = .ok (.aload_n 0, 1) := by decide +kernel
theorem dX9_win_100 : decode cX9_win 100 = .ok (.getfield 44, 3) := by decide +kernel
theorem dX9_win_103 : decode cX9_win 103 = .ok (.getfield 267, 3) := by decide +kernel
theorem dX9_win_106 : decode cX9_win 106 = .ok (.lstore 8, 2) := by decide +kernel
theorem dX9_win_108 : decode cX9_win 108 = .ok (.lconst 1, 1) := by decide +kernel
theorem dX9_win_109 : decode cX9_win 109 = .ok (.lload 6, 2) := by decide +kernel
theorem dX9_win_111 : decode cX9_win 111 = .ok (.lload 8, 2) := by decide +kernel
theorem dX9_win_113 : decode cX9_win 113 = .ok (.invokestatic 271, 3) := by decide +kernel
theorem dX9_win_116 : decode cX9_win 116 = .ok (.invokestatic 275, 3) := by decide +kernel
theorem dX9_win_119 : decode cX9_win 119 = .ok (.lstore 10, 2) := by decide +kernel
theorem dX9_win_121 : decode cX9_win 121 = .ok (.iload 5, 2) := by decide +kernel
theorem dX9_win_123 : decode cX9_win 123 = .ok (.ifCond .ne 11, 3) := by decide +kernel
theorem dX9_win_126 : decode cX9_win 126 = .ok (.lload 6, 2) := by decide +kernel
theorem dX9_win_128 : decode cX9_win 128 = .ok (.lload 10, 2) := by decide +kernel
theorem dX9_win_130 : decode cX9_win 130 = .ok (.ldiv, 1) := by decide +kernel
theorem dX9_win_131 : decode cX9_win 131 = .ok (.goto 8, 3) := by decide +kernel
theorem dX9_win_134 : decode cX9_win 134 = .ok (.lload 8, 2) := by decide +kernel
theorem dX9_win_136 : decode cX9_win 136 = .ok (.lload 10, 2) := by decide +kernel
theorem dX9_win_138 : decode cX9_win 138 = .ok (.ldiv, 1) := by decide +kernel
theorem dX9_win_139 : decode cX9_win 139 = .ok (.lreturn, 1) := by decide +kernel
theorem dX9_match_0 : decode cX9_match 0 = .ok (.iload_n 1, 1) := by decide +kernel
theorem dX9_match_1 : decode cX9_match 1 = .ok (.invokestatic 172, 3) := by decide +kernel
theorem dX9_match_4 : decode cX9_match 4 = .ok (.ifCond .eq 10, 3) := by decide +kernel
theorem dX9_match_7 : decode cX9_match 7 = .ok (.iload_n 2, 1) := by decide +kernel
theorem dX9_match_8 : decode cX9_match 8 = .ok (.invokestatic 172, 3) := by decide +kernel
theorem dX9_match_11 : decode cX9_match 11 = .ok (.ifCond .ne 7, 3) := by decide +kernel
theorem dX9_match_14 : decode cX9_match 14 = .ok (.sipush (-1001), 3) := by decide +kernel
theorem dX9_match_17 : decode cX9_match 17 = .ok (.ireturn, 1) := by decide +kernel
theorem dX9_match_18 : decode cX9_match 18 = .ok (.iload_n 3, 1) := by decide +kernel
theorem dX9_match_19 : decode cX9_match 19 = .ok (.iconst 0, 1) := by decide +kernel
theorem dX9_match_20 : decode cX9_match 20 = .ok (.iconst 2, 1) := by decide +kernel
theorem dX9_match_21 : decode cX9_match 21 = .ok (.invokestatic 66, 3) := by decide +kernel
theorem dX9_match_24 : decode cX9_match 24 = .ok (.ifCond .eq 8, 3) := by decide +kernel
theorem dX9_match_27 : decode cX9_match 27 = .ok (.iload_n 1, 1) := by decide +kernel
theorem dX9_match_28 : decode cX9_match 28 = .ok (.iload_n 2, 1) := by decide +kernel
theorem dX9_match_29 : decode cX9_match 29 = .ok (.if_icmp .ne 7, 3) := by decide +kernel
theorem dX9_match_32 : decode cX9_match 32 = .ok (.sipush (-1002), 3) := by decide +kernel
theorem dX9_match_35 : decode cX9_match 35 = .ok (.ireturn, 1) := by decide +kernel
theorem dX9_match_36 : decode cX9_match 36 = .ok (.aload_n 0, 1) := by decide +kernel
theorem dX9_match_37 : decode cX9_match 37 = .ok (.getfield 51, 3) := by decide +kernel
theorem dX9_match_40 : decode cX9_match 40 = .ok (.getfield 149, 3) := by decide +kernel
theorem dX9_match_43 : decode cX9_match 43 = .ok (.bipush 24, 2) := by decide +kernel
theorem dX9_match_45 : decode cX9_match 45 = .ok (.if_icmp .lt 7, 3) := by decide +kernel
theorem dX9_match_48 : decode cX9_match 48 = .ok (.sipush (-1004), 3) := by decide +kernel
theorem dX9_match_51 : decode cX9_match 51 = .ok (.ireturn, 1) := by decide +kernel
theorem dX9_match_52 : decode cX9_match 52 = .ok (.aload_n 0, 1) := by decide +kernel
theorem dX9_match_53 : decode cX9_match 53 = .ok (.getfield 51, 3) := by decide +kernel
theorem dX9_match_56 : decode cX9_match 56 = .ok (.new 280, 3) := by decide +kernel
theorem dX9_match_59 : decode cX9_match 59 = .ok (.dup, 1) := by decide +kernel
theorem dX9_match_60 : decode cX9_match 60 = .ok (.iload_n 1, 1) := by decide +kernel
theorem dX9_match_61 : decode cX9_match 61 = .ok (.iload_n 2, 1) := by decide +kernel
theorem dX9_match_62 : decode cX9_match 62 = .ok (.iload_n 3, 1) := by decide +kernel
theorem dX9_match_63 : decode cX9_match 63 = .ok (.invokespecial 282, 3) := by decide +kernel
theorem dX9_match_66 : decode cX9_match 66 = .ok (.invokevirtual 284, 3) := by decide +kernel
theorem dX9_match_69 : decode cX9_match 69 = .ok (.ireturn, 1) := by decide +kernel
theorem dX9_end_0 : decode cX9_end 0 = .ok (.aload_n 0, 1) := by decide +kernel
theorem dX9_end_1 : decode cX9_end 1 = .ok (.getfield 51, 3) := by decide +kernel
theorem dX9_end_4 : decode cX9_end 4 = .ok (.iload_n 1, 1) := by decide +kernel
theorem dX9_end_5 : decode cX9_end 5 = .ok (.invokevirtual 287, 3) := by decide +kernel
theorem dX9_end_8 : decode cX9_end 8 = .ok (.astore_n 3, 1) := by decide +kernel
theorem dX9_end_9 : decode cX9_end 9 = .ok (.aload_n 3, 1) := by decide +kernel
theorem dX9_end_10 : decode cX9_end 10 = .ok (.ifnonnull 7, 3) := by decide +kernel
theorem dX9_end_13 : decode cX9_end 13 = .ok (.sipush (-1001), 3) := by decide +kernel
theorem dX9_end_16 : decode cX9_end 16 = .ok (.ireturn, 1) := by decide +kernel
theorem dX9_end_17 : decode cX9_end 17 = .ok (.iload_n 2, 1) := by decide +kernel
theorem dX9_end_18 : decode cX9_end 18 = .ok (.invokestatic 290, 3) := by decide +kernel
theorem dX9_end_21 : decode cX9_end 21 = .ok (.ifCond .ne 7, 3) := by decide +kernel
theorem dX9_end_24 : decode cX9_end 24 = .ok (.sipush (-1002), 3) := by decide +kernel
theorem dX9_end_27 : decode cX9_end 27 = .ok (.ireturn, 1) := by decide +kernel
theorem dX9_end_28 : decode cX9_end 28 = .ok (.aload_n 0, 1) := by decide +kernel
theorem dX9_end_29 : decode cX9_end 29 = .ok (.aload_n 3, 1) := by decide +kernel
theorem dX9_end_30 : decode cX9_end 30 = .ok (.invokevirtual 293, 3) := by decide +kernel
theorem dX9_end_33 : decode cX9_end 33 = .ok (.aload_n 3, 1) := by decide +kernel
theorem dX9_end_34 : decode cX9_end 34 = .ok (.getfield 297, 3) := by decide +kernel
theorem dX9_end_37 : decode cX9_end 37 = .ok (.ifCond .eq 7, 3) := by decide +kernel
theorem dX9_end_40 : decode cX9_end 40 = .ok (.sipush (-1003), 3) := by decide +kernel
theorem dX9_end_43 : decode cX9_end 43 = .ok (.ireturn, 1) := by decide +kernel
theorem dX9_end_44 : decode cX9_end 44 = .ok (.aload_n 3, 1) := by decide +kernel
theorem dX9_end_45 : decode cX9_end 45 = .ok (.getfield 300, 3) := by decide +kernel
theorem dX9_end_48 : decode cX9_end 48 = .ok (.bipush 40, 2) := by decide +kernel
theorem dX9_end_50 : decode cX9_end 50 = .ok (.if_icmp .lt 7, 3) := by decide +kernel
theorem dX9_end_53 : decode cX9_end 53 = .ok (.sipush (-1004), 3) := by decide +kernel
theorem dX9_end_56 : decode cX9_end 56 = .ok (.ireturn, 1) := by decide +kernel
theorem dX9_end_57 : decode cX9_end 57 = .ok (.aload_n 3, 1) := by decide +kernel
theorem dX9_end_58 : decode cX9_end 58 = .ok (.getfield 303, 3) := by decide +kernel
theorem dX9_end_61 : decode cX9_end 61 = .ok (.aload_n 3, 1) := by decide +kernel
theorem dX9_end_62 : decode cX9_end 62 = .ok (.getfield 300, 3) := by decide +kernel
theorem dX9_end_65 : decode cX9_end 65 = .ok (.iload_n 2, 1) := by decide +kernel
theorem dX9_end_66 : decode cX9_end 66 = .ok (.iastore, 1) := by decide +kernel
theorem dX9_end_67 : decode cX9_end 67 = .ok (.aload_n 3, 1) := by decide +kernel
theorem dX9_end_68 : decode cX9_end 68 = .ok (.dup, 1) := by decide +kernel
theorem dX9_end_69 : decode cX9_end 69 = .ok (.getfield 300, 3) := by decide +kernel
theorem dX9_end_72 : decode cX9_end 72 = .ok (.iconst 1, 1) := by decide +kernel
theorem dX9_end_73 : decode cX9_end 73 = .ok (.iadd, 1) := by decide +kernel
theorem dX9_end_74 : decode cX9_end 74 = .ok (.putfield 300, 3) := by decide +kernel
theorem dX9_end_77 : decode cX9_end 77 = .ok (.aload_n 3, 1) := by decide +kernel
theorem dX9_end_78 : decode cX9_end 78 = .ok (.getfield 300, 3) := by decide +kernel
theorem dX9_end_81 : decode cX9_end 81 = .ok (.iconst 1, 1) := by decide +kernel
theorem dX9_end_82 : decode cX9_end 82 = .ok (.isub, 1) := by decide +kernel
theorem dX9_end_83 : decode cX9_end 83 = .ok (.ireturn, 1) := by decide +kernel
theorem dX9_mend_0 : decode cX9_mend 0 = .ok (.aload_n 0, 1) := by decide +kernel
theorem dX9_mend_1 : decode cX9_mend 1 = .ok (.getfield 51, 3) := by decide +kernel
theorem dX9_mend_4 : decode cX9_mend 4 = .ok (.iload_n 1, 1) := by decide +kernel
theorem dX9_mend_5 : decode cX9_mend 5 = .ok (.invokevirtual 287, 3) := by decide +kernel
theorem dX9_mend_8 : decode cX9_mend 8 = .ok (.astore 4, 2) := by decide +kernel
theorem dX9_mend_10 : decode cX9_mend 10 = .ok (.aload 4, 2) := by decide +kernel
theorem dX9_mend_12 : decode cX9_mend 12 = .ok (.ifnull 18, 3) := by decide +kernel
theorem dX9_mend_15 : decode cX9_mend 15 = .ok (.iload_n 2, 1) := by decide +kernel
theorem dX9_mend_16 : decode cX9_mend 16 = .ok (.iconst 0, 1) := by decide +kernel
theorem dX9_mend_17 : decode cX9_mend 17 = .ok (.aload 4, 2) := by decide +kernel
theorem dX9_mend_19 : decode cX9_mend 19 = .ok (.getfield 300, 3) := by decide +kernel
theorem dX9_mend_22 : decode cX9_mend 22 = .ok (.iconst 1, 1) := by decide +kernel
theorem dX9_mend_23 : decode cX9_mend 23 = .ok (.isub, 1) := by decide +kernel
theorem dX9_mend_24 : decode cX9_mend 24 = .ok (.invokestatic 66, 3) := by decide +kernel
theorem dX9_mend_27 : decode cX9_mend 27 = .ok (.ifCond .ne 7, 3) := by decide +kernel
theorem dX9_mend_30 : decode cX9_mend 30 = .ok (.sipush (-1001), 3) := by decide +kernel
theorem dX9_mend_33 : decode cX9_mend 33 = .ok (.ireturn, 1) := by decide +kernel
theorem dX9_mend_34 : decode cX9_mend 34 = .ok (.iload_n 3, 1) := by decide +kernel
theorem dX9_mend_35 : decode cX9_mend 35 = .ok (.invokestatic 290, 3) := by decide +kernel
theorem dX9_mend_38 : decode cX9_mend 38 = .ok (.ifCond .ne 7, 3) := by decide +kernel
theorem dX9_mend_41 : decode cX9_mend 41 = .ok (.sipush (-1002), 3) := by decide +kernel
theorem dX9_mend_44 : decode cX9_mend 44 = .ok (.ireturn, 1) := by decide +kernel
theorem dX9_mend_45 : decode cX9_mend 45 = .ok (.aload 4, 2) := by decide +kernel
theorem dX9_mend_47 : decode cX9_mend 47 = .ok (.getfield 303, 3) := by decide +kernel
theorem dX9_mend_50 : decode cX9_mend 50 = .ok (.iload_n 2, 1) := by decide +kernel
theorem dX9_mend_51 : decode cX9_mend 51 = .ok (.iaload, 1) := by decide +kernel
theorem dX9_mend_52 : decode cX9_mend 52 = .ok (.istore 5, 2) := by decide +kernel
theorem dX9_mend_54 : decode cX9_mend 54 = .ok (.aload 4, 2) := by decide +kernel
theorem dX9_mend_56 : decode cX9_mend 56 = .ok (.getfield 303, 3) := by decide +kernel
theorem dX9_mend_59 : decode cX9_mend 59 = .ok (.iload_n 2, 1) := by decide +kernel
theorem dX9_mend_60 : decode cX9_mend 60 = .ok (.iload_n 3, 1) := by decide +kernel
theorem dX9_mend_61 : decode cX9_mend 61 = .ok (.iastore, 1) := by decide +kernel
theorem dX9_mend_62 : decode cX9_mend 62 = .ok (.iload 5, 2) := by decide +kernel
theorem dX9_mend_64 : decode cX9_mend 64 = .ok (.ireturn, 1) := by decide +kernel
theorem dX9_dusk_0 : decode cX9_dusk 0 = .ok (.aload_n 0, 1) := by decide +kernel
theorem dX9_dusk_1 : decode cX9_dusk 1 = .ok (.getfield 51, 3) := by decide +kernel
theorem dX9_dusk_4 : decode cX9_dusk 4 = .ok (.iload_n 1, 1) := by decide +kernel
theorem dX9_dusk_5 : decode cX9_dusk 5 = .ok (.invokevirtual 287, 3) := by decide +kernel
theorem dX9_dusk_8 : decode cX9_dusk 8 = .ok (.astore_n 2, 1) := by decide +kernel
theorem dX9_dusk_9 : decode cX9_dusk 9 = .ok (.aload_n 2, 1) := by decide +kernel
theorem dX9_dusk_10 : decode cX9_dusk 10 = .ok (.ifnonnull 7, 3) := by decide +kernel
theorem dX9_dusk_13 : decode cX9_dusk 13 = .ok (.sipush (-1001), 3) := by decide +kernel
theorem dX9_dusk_16 : decode cX9_dusk 16 = .ok (.ireturn, 1) := by decide +kernel
theorem dX9_dusk_17 : decode cX9_dusk 17 = .ok (.aload_n 0, 1) := by decide +kernel
theorem dX9_dusk_18 : decode cX9_dusk 18 = .ok (.aload_n 2, 1) := by decide +kernel
theorem dX9_dusk_19 : decode cX9_dusk 19 = .ok (.invokevirtual 293, 3) := by decide +kernel
theorem dX9_dusk_22 : decode cX9_dusk 22 = .ok (.aload_n 2, 1) := by decide +kernel
theorem dX9_dusk_23 : decode cX9_dusk 23 = .ok (.getfield 297, 3) := by decide +kernel
theorem dX9_dusk_26 : decode cX9_dusk 26 = .ok (.ifCond .eq 7, 3) := by decide +kernel
theorem dX9_dusk_29 : decode cX9_dusk 29 = .ok (.sipush (-1003), 3) := by decide +kernel
theorem dX9_dusk_32 : decode cX9_dusk 32 = .ok (.ireturn, 1) := by decide +kernel
theorem dX9_dusk_33 : decode cX9_dusk 33 = .ok (.aload_n 2, 1) := by decide +kernel
theorem dX9_dusk_34 : decode cX9_dusk 34 = .ok (.iconst 1, 1) := by decide +kernel
theorem dX9_dusk_35 : decode cX9_dusk 35 = .ok (.putfield 306, 3) := by decide +kernel
theorem dX9_dusk_38 : decode cX9_dusk 38 = .ok (.iconst 1, 1) := by decide +kernel
theorem dX9_dusk_39 : decode cX9_dusk 39 = .ok (.ireturn, 1) := by decide +kernel
theorem dX9_about_0 : decode cX9_about 0 = .ok (.aload_n 0, 1) := by decide +kernel
theorem dX9_about_1 : decode cX9_about 1 = .ok (.getfield 51, 3) := by decide +kernel
theorem dX9_about_4 : decode cX9_about 4 = .ok (.iload_n 1, 1) := by decide +kernel
theorem dX9_about_5 : decode cX9_about 5 = .ok (.invokevirtual 287, 3) := by decide +kernel
theorem dX9_about_8 : decode cX9_about 8 = .ok (.astore_n 3, 1) := by decide +kernel
theorem dX9_about_9 : decode cX9_about 9 = .ok (.aload_n 3, 1) := by decide +kernel
theorem dX9_about_10 : decode cX9_about 10 = .ok (.ifnonnull 7, 3) := by decide +kernel
theorem dX9_about_13 : decode cX9_about 13 = .ok (.sipush (-1001), 3) := by decide +kernel
theorem dX9_about_16 : decode cX9_about 16 = .ok (.ireturn, 1) := by decide +kernel
theorem dX9_about_17 : decode cX9_about 17 = .ok (.aload_n 0, 1) := by decide +kernel
theorem dX9_about_18 : decode cX9_about 18 = .ok (.aload_n 3, 1) := by decide +kernel
theorem dX9_about_19 : decode cX9_about 19 = .ok (.invokevirtual 293, 3) := by decide +kernel
theorem dX9_about_22 : decode cX9_about 22 = .ok (.iload_n 2, 1) := by decide +kernel
theorem dX9_about_23 : decode cX9_about 23 = .ok (.tableswitch 85 0 7 #[45, 50, 55, 60, 65, 70, 75, 80], 45) := by decide +kernel
theorem dX9_about_68 : decode cX9_about 68 = .ok (.aload_n 3, 1) := by decide +kernel
theorem dX9_about_69 : decode cX9_about 69 = .ok (.getfield 309, 3) := by decide +kernel
theorem dX9_about_72 : decode cX9_about 72 = .ok (.ireturn, 1) := by decide +kernel
theorem dX9_about_73 : decode cX9_about 73 = .ok (.aload_n 3, 1) := by decide +kernel
theorem dX9_about_74 : decode cX9_about 74 = .ok (.getfield 312, 3) := by decide +kernel
theorem dX9_about_77 : decode cX9_about 77 = .ok (.ireturn, 1) := by decide +kernel
theorem dX9_about_78 : decode cX9_about 78 = .ok (.aload_n 3, 1) := by decide +kernel
theorem dX9_about_79 : decode cX9_about 79 = .ok (.getfield 315, 3) := by decide +kernel
theorem dX9_about_82 : decode cX9_about 82 = .ok (.ireturn, 1) := by decide +kernel
theorem dX9_about_83 : decode cX9_about 83 = .ok (.aload_n 3, 1) := by decide +kernel
theorem dX9_about_84 : decode cX9_about 84 = .ok (.getfield 300, 3) := by decide +kernel
theorem dX9_about_87 : decode cX9_about 87 = .ok (.ireturn, 1) := by decide +kernel
theorem dX9_about_88 : decode cX9_about 88 = .ok (.aload_n 3, 1) := by decide +kernel
theorem dX9_about_89 : decode cX9_about 89 = .ok (.getfield 318, 3) := by decide +kernel
theorem dX9_about_92 : decode cX9_about 92 = .ok (.ireturn, 1) := by decide +kernel
theorem dX9_about_93 : decode cX9_about 93 = .ok (.aload_n 3, 1) := by decide +kernel
theorem dX9_about_94 : decode cX9_about 94 = .ok (.getfield 319, 3) := by decide +kernel
theorem dX9_about_97 : decode cX9_about 97 = .ok (.ireturn, 1) := by decide +kernel
theorem dX9_about_98 : decode cX9_about 98 = .ok (.aload_n 3, 1) := by decide +kernel
theorem dX9_about_99 : decode cX9_about 99 = .ok (.getfield 322, 3) := by decide +kernel
theorem dX9_about_102 : decode cX9_about 102 = .ok (.ireturn, 1) := by decide +kernel
theorem dX9_about_103 : decode cX9_about 103 = .ok (.aload_n 3, 1) := by decide +kernel
theorem dX9_about_104 : decode cX9_about 104 = .ok (.getfield 297, 3) := by decide +kernel
theorem dX9_about_107 : decode cX9_about 107 = .ok (.ireturn, 1) := by decide +kernel
theorem dX9_about_108 : decode cX9_about 108 = .ok (.sipush (-1002), 3) := by decide +kernel
theorem dX9_about_111 : decode cX9_about 111 = .ok (.ireturn, 1) := by decide +kernel
theorem dX9_standing_0 : decode cX9_standing 0 = .ok (.iload_n 1, 1) := by decide +kernel
theorem dX9_standing_1 : decode cX9_standing 1 = .ok (.invokestatic 172, 3) := by decide +kernel
theorem dX9_standing_4 : decode cX9_standing 4 = .ok (.ifCond .ne 7, 3) := by decide +kernel
theorem dX9_standing_7 : decode cX9_standing 7 = .ok (.sipush (-1001), 3) := by decide +kernel
theorem dX9_standing_10 : decode cX9_standing 10 = .ok (.ireturn, 1) := by decide +kernel
theorem dX9_standing_11 : decode cX9_standing 11 = .ok (.iload_n 2, 1) := by decide +kernel
theorem dX9_standing_12 : decode cX9_standing 12 = .ok (.iconst 0, 1) := by decide +kernel
theorem dX9_standing_13 : decode cX9_standing 13 = .ok (.bipush 7, 2) := by decide +kernel
theorem dX9_standing_15 : decode cX9_standing 15 = .ok (.invokestatic 66, 3) := by decide +kernel
theorem dX9_standing_18 : decode cX9_standing 18 = .ok (.ifCond .ne 7, 3) := by decide +kernel
theorem dX9_standing_21 : decode cX9_standing 21 = .ok (.sipush (-1002), 3) := by decide +kernel
theorem dX9_standing_24 : decode cX9_standing 24 = .ok (.ireturn, 1) := by decide +kernel
theorem dX9_standing_25 : decode cX9_standing 25 = .ok (.aload_n 0, 1) := by decide +kernel
theorem dX9_standing_26 : decode cX9_standing 26 = .ok (.invokevirtual 325, 3) := by decide +kernel
theorem dX9_standing_29 : decode cX9_standing 29 = .ok (.aload_n 0, 1) := by decide +kernel
theorem dX9_standing_30 : decode cX9_standing 30 = .ok (.getfield 51, 3) := by decide +kernel
theorem dX9_standing_33 : decode cX9_standing 33 = .ok (.invokevirtual 328, 3) := by decide +kernel
theorem dX9_standing_36 : decode cX9_standing 36 = .ok (.iload_n 2, 1) := by decide +kernel
theorem dX9_standing_37 : decode cX9_standing 37 = .ok (.lookupswitch 45 #[(6, 27), (7, 36)], 27) := by decide +kernel
theorem dX9_standing_64 : decode cX9_standing 64 = .ok (.aload_n 0, 1) := by decide +kernel
theorem dX9_standing_65 : decode cX9_standing 65 = .ok (.getfield 51, 3) := by decide +kernel
theorem dX9_standing_68 : decode cX9_standing 68 = .ok (.iload_n 1, 1) := by decide +kernel
theorem dX9_standing_69 : decode cX9_standing 69 = .ok (.invokevirtual 331, 3) := by decide +kernel
theorem dX9_standing_72 : decode cX9_standing 72 = .ok (.ireturn, 1) := by decide +kernel
theorem dX9_standing_73 : decode cX9_standing 73 = .ok (.aload_n 0, 1) := by decide +kernel
theorem dX9_standing_74 : decode cX9_standing 74 = .ok (.getfield 51, 3) := by decide +kernel
theorem dX9_standing_77 : decode cX9_standing 77 = .ok (.iload_n 1, 1) := by decide +kernel
theorem dX9_standing_78 : decode cX9_standing 78 = .ok (.invokevirtual 334, 3) := by decide +kernel
theorem dX9_standing_81 : decode cX9_standing 81 = .ok (.ireturn, 1) := by decide +kernel
theorem dX9_standing_82 : decode cX9_standing 82 = .ok (.aload_n 0, 1) := by decide +kernel
theorem dX9_standing_83 : decode cX9_standing 83 = .ok (.getfield 51, 3) := by decide +kernel
theorem dX9_standing_86 : decode cX9_standing 86 = .ok (.getfield 337, 3) := by decide +kernel
theorem dX9_standing_89 : decode cX9_standing 89 = .ok (.iload_n 2, 1) := by decide +kernel
theorem dX9_standing_90 : decode cX9_standing 90 = .ok (.aaload, 1) := by decide +kernel
theorem dX9_standing_91 : decode cX9_standing 91 = .ok (.iload_n 1, 1) := by decide +kernel
theorem dX9_standing_92 : decode cX9_standing 92 = .ok (.iaload, 1) := by decide +kernel
theorem dX9_standing_93 : decode cX9_standing 93 = .ok (.ireturn, 1) := by decide +kernel
theorem dX9_order_0 : decode cX9_order 0 = .ok (.aload_n 0, 1) := by decide +kernel
theorem dX9_order_1 : decode cX9_order 1 = .ok (.getfield 58, 3) := by decide +kernel
theorem dX9_order_4 : decode cX9_order 4 = .ok (.aload_n 0, 1) := by decide +kernel
theorem dX9_order_5 : decode cX9_order 5 = .ok (.getfield 19, 3) := by decide +kernel
theorem dX9_order_8 : decode cX9_order 8 = .ok (.invokevirtual 341, 3) := by decide +kernel
theorem dX9_order_11 : decode cX9_order 11 = .ok (.istore_n 1, 1) := by decide +kernel
theorem dX9_order_12 : decode cX9_order 12 = .ok (.aload_n 0, 1) := by decide +kernel
theorem dX9_order_13 : decode cX9_order 13 = .ok (.getfield 19, 3) := by decide +kernel
theorem dX9_order_16 : decode cX9_order 16 = .ok (.invokevirtual 180, 3) := by decide +kernel
theorem dX9_order_19 : decode cX9_order 19 = .ok (.aload_n 0, 1) := by decide +kernel
theorem dX9_order_20 : decode cX9_order 20 = .ok (.getfield 19, 3) := by decide +kernel
theorem dX9_order_23 : decode cX9_order 23 = .ok (.invokevirtual 183, 3) := by decide +kernel
theorem dX9_order_26 : decode cX9_order 26 = .ok (.ifCond .ne 14, 3) := by decide +kernel
theorem dX9_order_29 : decode cX9_order 29 = .ok (.bipush (-10), 2) := by decide +kernel
theorem dX9_order_31 : decode cX9_order 31 = .ok (.aload_n 0, 1) := by decide +kernel
theorem dX9_order_32 : decode cX9_order 32 = .ok (.getfield 19, 3) := by decide +kernel
theorem dX9_order_35 : decode cX9_order 35 = .ok (.getfield 186, 3) := by decide +kernel
theorem dX9_order_38 : decode cX9_order 38 = .ok (.isub, 1) := by decide +kernel
theorem dX9_order_39 : decode cX9_order 39 = .ok (.ireturn, 1) := by decide +kernel
theorem dX9_order_40 : decode cX9_order 40 = .ok (.aload_n 0, 1) := by decide +kernel
theorem dX9_order_41 : decode cX9_order 41 = .ok (.getfield 51, 3) := by decide +kernel
theorem dX9_order_44 : decode cX9_order 44 = .ok (.getfield 158, 3) := by decide +kernel
theorem dX9_order_47 : decode cX9_order 47 = .ok (.aload_n 0, 1) := by decide +kernel
theorem dX9_order_48 : decode cX9_order 48 = .ok (.getfield 58, 3) := by decide +kernel
theorem dX9_order_51 : decode cX9_order 51 = .ok (.invokevirtual 342, 3) := by decide +kernel
theorem dX9_order_54 : decode cX9_order 54 = .ok (.iload_n 1, 1) := by decide +kernel
theorem dX9_order_55 : decode cX9_order 55 = .ok (.ireturn, 1) := by decide +kernel
theorem dX9_reach_0 : decode cX9_reach 0 = .ok (.iload_n 1, 1) := by decide +kernel
theorem dX9_reach_1 : decode cX9_reach 1 = .ok (.invokestatic 172, 3) := by decide +kernel
theorem dX9_reach_4 : decode cX9_reach 4 = .ok (.ifCond .ne 7, 3) := by decide +kernel
theorem dX9_reach_7 : decode cX9_reach 7 = .ok (.sipush (-1001), 3) := by decide +kernel
theorem dX9_reach_10 : decode cX9_reach 10 = .ok (.ireturn, 1) := by decide +kernel
theorem dX9_reach_11 : decode cX9_reach 11 = .ok (.iload_n 2, 1) := by decide +kernel
theorem dX9_reach_12 : decode cX9_reach 12 = .ok (.iconst 0, 1) := by decide +kernel
theorem dX9_reach_13 : decode cX9_reach 13 = .ok (.iconst 1, 1) := by decide +kernel
theorem dX9_reach_14 : decode cX9_reach 14 = .ok (.invokestatic 66, 3) := by decide +kernel
theorem dX9_reach_17 : decode cX9_reach 17 = .ok (.ifCond .ne 7, 3) := by decide +kernel
theorem dX9_reach_20 : decode cX9_reach 20 = .ok (.sipush (-1002), 3) := by decide +kernel
theorem dX9_reach_23 : decode cX9_reach 23 = .ok (.ireturn, 1) := by decide +kernel
theorem dX9_reach_24 : decode cX9_reach 24 = .ok (.aload_n 0, 1) := by decide +kernel
theorem dX9_reach_25 : decode cX9_reach 25 = .ok (.invokevirtual 152, 3) := by decide +kernel
theorem dX9_reach_28 : decode cX9_reach 28 = .ok (.bipush 6, 2) := by decide +kernel
theorem dX9_reach_30 : decode cX9_reach 30 = .ok (.if_icmp .le 7, 3) := by decide +kernel
theorem dX9_reach_33 : decode cX9_reach 33 = .ok (.sipush (-1005), 3) := by decide +kernel
theorem dX9_reach_36 : decode cX9_reach 36 = .ok (.ireturn, 1) := by decide +kernel
theorem dX9_reach_37 : decode cX9_reach 37 = .ok (.aload_n 0, 1) := by decide +kernel
theorem dX9_reach_38 : decode cX9_reach 38 = .ok (.getfield 51, 3) := by decide +kernel
theorem dX9_reach_41 : decode cX9_reach 41 = .ok (.invokevirtual 328, 3) := by decide +kernel
theorem dX9_reach_44 : decode cX9_reach 44 = .ok (.aload_n 0, 1) := by decide +kernel
theorem dX9_reach_45 : decode cX9_reach 45 = .ok (.getfield 51, 3) := by decide +kernel
theorem dX9_reach_48 : decode cX9_reach 48 = .ok (.iload_n 1, 1) := by decide +kernel
theorem dX9_reach_49 : decode cX9_reach 49 = .ok (.invokevirtual 345, 3) := by decide +kernel
theorem dX9_reach_52 : decode cX9_reach 52 = .ok (.iload_n 2, 1) := by decide +kernel
theorem dX9_reach_53 : decode cX9_reach 53 = .ok (.ifCond .ne 13, 3) := by decide +kernel
theorem dX9_reach_56 : decode cX9_reach 56 = .ok (.aload_n 0, 1) := by decide +kernel
theorem dX9_reach_57 : decode cX9_reach 57 = .ok (.getfield 51, 3) := by decide +kernel
theorem dX9_reach_60 : decode cX9_reach 60 = .ok (.getfield 348, 3) := by decide +kernel
theorem dX9_reach_63 : decode cX9_reach 63 = .ok (.goto 10, 3) := by decide +kernel
theorem dX9_reach_66 : decode cX9_reach 66 = .ok (.aload_n 0, 1) := by decide +kernel
theorem dX9_reach_67 : decode cX9_reach 67 = .ok (.getfield 51, 3) := by decide +kernel
theorem dX9_reach_70 : decode cX9_reach 70 = .ok (.getfield 351, 3) := by decide +kernel
theorem dX9_reach_73 : decode cX9_reach 73 = .ok (.ireturn, 1) := by decide +kernel
theorem dX9_settle_0 : decode cX9_settle 0 = .ok (.aload_n 1, 1) := by decide +kernel
theorem dX9_settle_1 : decode cX9_settle 1 = .ok (.aload_n 0, 1) := by decide +kernel
theorem dX9_settle_2 : decode cX9_settle 2 = .ok (.getfield 25, 3) := by decide +kernel
theorem dX9_settle_5 : decode cX9_settle 5 = .ok (.aload_n 1, 1) := by decide +kernel
theorem dX9_settle_6 : decode cX9_settle 6 = .ok (.getfield 309, 3) := by decide +kernel
theorem dX9_settle_9 : decode cX9_settle 9 = .ok (.aaload, 1) := by decide +kernel
theorem dX9_settle_10 : decode cX9_settle 10 = .ok (.getfield 196, 3) := by decide +kernel
theorem dX9_settle_13 : decode cX9_settle 13 = .ok (.iconst 4, 1) := by decide +kernel
theorem dX9_settle_14 : decode cX9_settle 14 = .ok (.iaload, 1) := by decide +kernel
theorem dX9_settle_15 : decode cX9_settle 15 = .ok (.aload_n 0, 1) := by decide +kernel
theorem dX9_settle_16 : decode cX9_settle 16 = .ok (.getfield 25, 3) := by decide +kernel
theorem dX9_settle_19 : decode cX9_settle 19 = .ok (.aload_n 1, 1) := by decide +kernel
theorem dX9_settle_20 : decode cX9_settle 20 = .ok (.getfield 312, 3) := by decide +kernel
theorem dX9_settle_23 : decode cX9_settle 23 = .ok (.aaload, 1) := by decide +kernel
theorem dX9_settle_24 : decode cX9_settle 24 = .ok (.getfield 196, 3) := by decide +kernel
theorem dX9_settle_27 : decode cX9_settle 27 = .ok (.iconst 4, 1) := by decide +kernel
theorem dX9_settle_28 : decode cX9_settle 28 = .ok (.iaload, 1) := by decide +kernel
theorem dX9_settle_29 : decode cX9_settle 29 = .ok (.invokevirtual 354, 3) := by decide +kernel
theorem dX9_settle_32 : decode cX9_settle 32 = .ok (.return_, 1) := by decide +kernel
theorem dX9_settleAll_0 : decode cX9_settleAll 0 = .ok (.iconst 0, 1) := by decide +kernel
theorem dX9_settleAll_1 : decode cX9_settleAll 1 = .ok (.istore_n 1, 1) := by decide +kernel
theorem dX9_settleAll_2 : decode cX9_settleAll 2 = .ok (.iload_n 1, 1) := by decide +kernel
theorem dX9_settleAll_3 : decode cX9_settleAll 3 = .ok (.aload_n 0, 1) := by decide +kernel
theorem dX9_settleAll_4 : decode cX9_settleAll 4 = .ok (.getfield 51, 3) := by decide +kernel
theorem dX9_settleAll_7 : decode cX9_settleAll 7 = .ok (.getfield 149, 3) := by decide +kernel
theorem dX9_settleAll_10 : decode cX9_settleAll 10 = .ok (.if_icmp .ge 22, 3) := by decide +kernel
theorem dX9_settleAll_13 : decode cX9_settleAll 13 = .ok (.aload_n 0, 1) := by decide +kernel
theorem dX9_settleAll_14 : decode cX9_settleAll 14 = .ok (.aload_n 0, 1) := by decide +kernel
theorem dX9_settleAll_15 : decode cX9_settleAll 15 = .ok (.getfield 51, 3) := by decide +kernel
theorem dX9_settleAll_18 : decode cX9_settleAll 18 = .ok (.getfield 356, 3) := by decide +kernel
theorem dX9_settleAll_21 : decode cX9_settleAll 21 = .ok (.iload_n 1, 1) := by decide +kernel
theorem dX9_settleAll_22 : decode cX9_settleAll 22 = .ok (.aaload, 1) := by decide +kernel
theorem dX9_settleAll_23 : decode cX9_settleAll 23 = .ok (.invokevirtual 293, 3) := by decide +kernel
theorem dX9_settleAll_26 : decode cX9_settleAll 26 = .ok (.iinc 1 1, 3) := by decide +kernel
theorem dX9_settleAll_29 : decode cX9_settleAll 29 = .ok (.goto (-27), 3) := by decide +kernel
theorem dX9_settleAll_32 : decode cX9_settleAll 32 = .ok (.return_, 1) := by decide +kernel
theorem dX9_openMatches_0 : decode cX9_openMatches 0 = .ok (.aload_n 0, 1) := by decide +kernel
theorem dX9_openMatches_1 : decode cX9_openMatches 1 = .ok (.invokevirtual 325, 3) := by decide +kernel
theorem dX9_openMatches_4 : decode cX9_openMatches 4 = .ok (.aload_n 0, 1) := by decide +kernel
theorem dX9_openMatches_5 : decode cX9_openMatches 5 = .ok (.getfield 51, 3) := by decide +kernel
theorem dX9_openMatches_8 : decode cX9_openMatches 8 = .ok (.invokevirtual 360, 3) := by decide +kernel
theorem dX9_openMatches_11 : decode cX9_openMatches 11 = .ok (.ireturn, 1) := by decide +kernel
theorem dX9_within_0 : decode cX9_within 0 = .ok (.iload_n 0, 1) := by decide +kernel
theorem dX9_within_1 : decode cX9_within 1 = .ok (.iload_n 1, 1) := by decide +kernel
theorem dX9_within_2 : decode cX9_within 2 = .ok (.if_icmp .lt 12, 3) := by decide +kernel
theorem dX9_within_5 : decode cX9_within 5 = .ok (.iload_n 0, 1) := by decide +kernel
theorem dX9_within_6 : decode cX9_within 6 = .ok (.iload_n 2, 1) := by decide +kernel
theorem dX9_within_7 : decode cX9_within 7 = .ok (.if_icmp .gt 7, 3) := by decide +kernel
theorem dX9_within_10 : decode cX9_within 10 = .ok (.iconst 1, 1) := by decide +kernel
theorem dX9_within_11 : decode cX9_within 11 = .ok (.goto 4, 3) := by decide +kernel
theorem dX9_within_14 : decode cX9_within 14 = .ok (.iconst 0, 1) := by decide +kernel
theorem dX9_within_15 : decode cX9_within 15 = .ok (.ireturn, 1) := by decide +kernel
theorem dX9_isVillage_0 : decode cX9_isVillage 0 = .ok (.iload_n 0, 1) := by decide +kernel
theorem dX9_isVillage_1 : decode cX9_isVillage 1 = .ok (.iconst 0, 1) := by decide +kernel
theorem dX9_isVillage_2 : decode cX9_isVillage 2 = .ok (.iconst 5, 1) := by decide +kernel
theorem dX9_isVillage_3 : decode cX9_isVillage 3 = .ok (.invokestatic 66, 3) := by decide +kernel
theorem dX9_isVillage_6 : decode cX9_isVillage 6 = .ok (.ireturn, 1) := by decide +kernel
theorem dX9_isPlace_0 : decode cX9_isPlace 0 = .ok (.iload_n 0, 1) := by decide +kernel
theorem dX9_isPlace_1 : decode cX9_isPlace 1 = .ok (.sipush (-600), 3) := by decide +kernel
theorem dX9_isPlace_4 : decode cX9_isPlace 4 = .ok (.sipush 600, 3) := by decide +kernel
theorem dX9_isPlace_7 : decode cX9_isPlace 7 = .ok (.invokestatic 66, 3) := by decide +kernel
theorem dX9_isPlace_10 : decode cX9_isPlace 10 = .ok (.ifCond .eq 20, 3) := by decide +kernel
theorem dX9_isPlace_13 : decode cX9_isPlace 13 = .ok (.iload_n 1, 1) := by decide +kernel
theorem dX9_isPlace_14 : decode cX9_isPlace 14 = .ok (.sipush (-600), 3) := by decide +kernel
theorem dX9_isPlace_17 : decode cX9_isPlace 17 = .ok (.sipush 600, 3) := by decide +kernel
theorem dX9_isPlace_20 : decode cX9_isPlace 20 = .ok (.invokestatic 66, 3) := by decide +kernel
theorem dX9_isPlace_23 : decode cX9_isPlace 23 = .ok (.ifCond .eq 7, 3) := by decide +kernel
theorem dX9_isPlace_26 : decode cX9_isPlace 26 = .ok (.iconst 1, 1) := by decide +kernel
theorem dX9_isPlace_27 : decode cX9_isPlace 27 = .ok (.goto 4, 3) := by decide +kernel
theorem dX9_isPlace_30 : decode cX9_isPlace 30 = .ok (.iconst 0, 1) := by decide +kernel
theorem dX9_isPlace_31 : decode cX9_isPlace 31 = .ok (.ireturn, 1) := by decide +kernel
theorem dX9_isWeight_0 : decode cX9_isWeight 0 = .ok (.iload_n 0, 1) := by decide +kernel
theorem dX9_isWeight_1 : decode cX9_isWeight 1 = .ok (.iconst 0, 1) := by decide +kernel
theorem dX9_isWeight_2 : decode cX9_isWeight 2 = .ok (.bipush 60, 2) := by decide +kernel
theorem dX9_isWeight_4 : decode cX9_isWeight 4 = .ok (.invokestatic 66, 3) := by decide +kernel
theorem dX9_isWeight_7 : decode cX9_isWeight 7 = .ok (.ireturn, 1) := by decide +kernel
theorem dX9_isEndScore_0 : decode cX9_isEndScore 0 = .ok (.iload_n 0, 1) := by decide +kernel
theorem dX9_isEndScore_1 : decode cX9_isEndScore 1 = .ok (.bipush (-99), 2) := by decide +kernel
theorem dX9_isEndScore_3 : decode cX9_isEndScore 3 = .ok (.bipush 99, 2) := by decide +kernel
theorem dX9_isEndScore_5 : decode cX9_isEndScore 5 = .ok (.invokestatic 66, 3) := by decide +kernel
theorem dX9_isEndScore_8 : decode cX9_isEndScore 8 = .ok (.ireturn, 1) := by decide +kernel
theorem dX9_asNumber_0 : decode cX9_asNumber 0 = .ok (.iload_n 0, 1) := by decide +kernel
theorem dX9_asNumber_1 : decode cX9_asNumber 1 = .ok (.ifCond .eq 7, 3) := by decide +kernel
theorem dX9_asNumber_4 : decode cX9_asNumber 4 = .ok (.iconst 1, 1) := by decide +kernel
theorem dX9_asNumber_5 : decode cX9_asNumber 5 = .ok (.goto 4, 3) := by decide +kernel
theorem dX9_asNumber_8 : decode cX9_asNumber 8 = .ok (.iconst 0, 1) := by decide +kernel
theorem dX9_asNumber_9 : decode cX9_asNumber 9 = .ok (.ireturn, 1) := by decide +kernel
theorem dX9_commonDivisor_0 : decode cX9_commonDivisor 0 = .ok (.lload_n 0, 1) := by decide +kernel
theorem dX9_commonDivisor_1 : decode cX9_commonDivisor 1 = .ok (.lstore 4, 2) := by decide +kernel
theorem dX9_commonDivisor_3 : decode cX9_commonDivisor 3 = .ok (.lload_n 2, 1) := by decide +kernel
theorem dX9_commonDivisor_4 : decode cX9_commonDivisor 4 = .ok (.lstore 6, 2) := by decide +kernel
theorem dX9_commonDivisor_6 : decode cX9_commonDivisor 6 = .ok (.iconst 0, 1) := by decide +kernel
theorem dX9_commonDivisor_7 : decode cX9_commonDivisor 7 = .ok (.istore 8, 2) := by decide +kernel
theorem dX9_commonDivisor_9 : decode cX9_commonDivisor 9 = .ok (.iload 8, 2) := by decide +kernel
theorem dX9_commonDivisor_11 : decode cX9_commonDivisor 11 = .ok (.bipush 100, 2) := by decide +kernel
theorem dX9_commonDivisor_13 : decode cX9_commonDivisor 13 = .ok (.if_icmp .ge 31, 3) := by decide +kernel
theorem dX9_commonDivisor_16 : decode cX9_commonDivisor 16 = .ok (.lload 6, 2) := by decide +kernel
theorem dX9_commonDivisor_18 : decode cX9_commonDivisor 18 = .ok (.lconst 0, 1) := by decide +kernel
theorem dX9_commonDivisor_19 : decode cX9_commonDivisor 19 = .ok (.lcmp, 1) := by decide +kernel
theorem dX9_commonDivisor_20 : decode cX9_commonDivisor 20 = .ok (.ifCond .eq 24, 3) := by decide +kernel
theorem dX9_commonDivisor_23 : decode cX9_commonDivisor 23 = .ok (.lload 4, 2) := by decide +kernel
theorem dX9_commonDivisor_25 : decode cX9_commonDivisor 25 = .ok (.lload 6, 2) := by decide +kernel
theorem dX9_commonDivisor_27 : decode cX9_commonDivisor 27 = .ok (.lrem, 1) := by decide +kernel
theorem dX9_commonDivisor_28 : decode cX9_commonDivisor 28 = .ok (.lstore 9, 2) := by decide +kernel
theorem dX9_commonDivisor_30 : decode cX9_commonDivisor 30 = .ok (.lload 6, 2) := by decide +kernel
theorem dX9_commonDivisor_32 : decode cX9_commonDivisor 32 = .ok (.lstore 4, 2) := by decide +kernel
theorem dX9_commonDivisor_34 : decode cX9_commonDivisor 34 = .ok (.lload 9, 2) := by decide +kernel
theorem dX9_commonDivisor_36 : decode cX9_commonDivisor 36 = .ok (.lstore 6, 2) := by decide +kernel
theorem dX9_commonDivisor_38 : decode cX9_commonDivisor 38 = .ok (.iinc 8 1, 3) := by decide +kernel
theorem dX9_commonDivisor_41 : decode cX9_commonDivisor 41 = .ok (.goto (-32), 3) := by decide +kernel
theorem dX9_commonDivisor_44 : decode cX9_commonDivisor 44 = .ok (.lload 4, 2) := by decide +kernel
theorem dX9_commonDivisor_46 : decode cX9_commonDivisor 46 = .ok (.lreturn, 1) := by decide +kernel
theorem dX9_wholeRoot_0 : decode cX9_wholeRoot 0 = .ok (.iconst 0, 1) := by decide +kernel
theorem dX9_wholeRoot_1 : decode cX9_wholeRoot 1 = .ok (.istore_n 1, 1) := by decide +kernel
theorem dX9_wholeRoot_2 : decode cX9_wholeRoot 2 = .ok (.sipush 512, 3) := by decide +kernel
theorem dX9_wholeRoot_5 : decode cX9_wholeRoot 5 = .ok (.istore_n 2, 1) := by decide +kernel
theorem dX9_wholeRoot_6 : decode cX9_wholeRoot 6 = .ok (.iload_n 2, 1) := by decide +kernel
theorem dX9_wholeRoot_7 : decode cX9_wholeRoot 7 = .ok (.ifCond .le 23, 3) := by decide +kernel
theorem dX9_wholeRoot_10 : decode cX9_wholeRoot 10 = .ok (.iload_n 1, 1) := by decide +kernel
theorem dX9_wholeRoot_11 : decode cX9_wholeRoot 11 = .ok (.iload_n 2, 1) := by decide +kernel
theorem dX9_wholeRoot_12 : decode cX9_wholeRoot 12 = .ok (.iadd, 1) := by decide +kernel
theorem dX9_wholeRoot_13 : decode cX9_wholeRoot 13 = .ok (.istore_n 3, 1) := by decide +kernel
theorem dX9_wholeRoot_14 : decode cX9_wholeRoot 14 = .ok (.iload_n 3, 1) := by decide +kernel
theorem dX9_wholeRoot_15 : decode cX9_wholeRoot 15 = .ok (.iload_n 3, 1) := by decide +kernel
theorem dX9_wholeRoot_16 : decode cX9_wholeRoot 16 = .ok (.imul, 1) := by decide +kernel
theorem dX9_wholeRoot_17 : decode cX9_wholeRoot 17 = .ok (.iload_n 0, 1) := by decide +kernel
theorem dX9_wholeRoot_18 : decode cX9_wholeRoot 18 = .ok (.if_icmp .gt 5, 3) := by decide +kernel
theorem dX9_wholeRoot_21 : decode cX9_wholeRoot 21 = .ok (.iload_n 3, 1) := by decide +kernel
theorem dX9_wholeRoot_22 : decode cX9_wholeRoot 22 = .ok (.istore_n 1, 1) := by decide +kernel
theorem dX9_wholeRoot_23 : decode cX9_wholeRoot 23 = .ok (.iload_n 2, 1) := by decide +kernel
theorem dX9_wholeRoot_24 : decode cX9_wholeRoot 24 = .ok (.iconst 2, 1) := by decide +kernel
theorem dX9_wholeRoot_25 : decode cX9_wholeRoot 25 = .ok (.idiv, 1) := by decide +kernel
theorem dX9_wholeRoot_26 : decode cX9_wholeRoot 26 = .ok (.istore_n 2, 1) := by decide +kernel
theorem dX9_wholeRoot_27 : decode cX9_wholeRoot 27 = .ok (.goto (-21), 3) := by decide +kernel
theorem dX9_wholeRoot_30 : decode cX9_wholeRoot 30 = .ok (.iload_n 1, 1) := by decide +kernel
theorem dX9_wholeRoot_31 : decode cX9_wholeRoot 31 = .ok (.ireturn, 1) := by decide +kernel
theorem dX9_compareSums_0 : decode cX9_compareSums 0 = .ok (.lload 6, 2) := by decide +kernel
theorem dX9_compareSums_2 : decode cX9_compareSums 2 = .ok (.lload_n 2, 1) := by decide +kernel
theorem dX9_compareSums_3 : decode cX9_compareSums 3 = .ok (.lcmp, 1) := by decide +kernel
theorem dX9_compareSums_4 : decode cX9_compareSums 4 = .ok (.ifCond .lt 16, 3) := by decide +kernel
theorem dX9_compareSums_7 : decode cX9_compareSums 7 = .ok (.lload_n 0, 1) := by decide +kernel
theorem dX9_compareSums_8 : decode cX9_compareSums 8 = .ok (.lload 4, 2) := by decide +kernel
theorem dX9_compareSums_10 : decode cX9_compareSums 10 = .ok (.lload 6, 2) := by decide +kernel
theorem dX9_compareSums_12 : decode cX9_compareSums 12 = .ok (.lload_n 2, 1) := by decide +kernel
theorem dX9_compareSums_13 : decode cX9_compareSums 13 = .ok (.lsub, 1) := by decide +kernel
theorem dX9_compareSums_14 : decode cX9_compareSums 14 = .ok (.invokestatic 363, 3) := by decide +kernel
theorem dX9_compareSums_17 : decode cX9_compareSums 17 = .ok (.goto 14, 3) := by decide +kernel
theorem dX9_compareSums_20 : decode cX9_compareSums 20 = .ok (.lload 4, 2) := by decide +kernel
theorem dX9_compareSums_22 : decode cX9_compareSums 22 = .ok (.lload_n 0, 1) := by decide +kernel
theorem dX9_compareSums_23 : decode cX9_compareSums 23 = .ok (.lload_n 2, 1) := by decide +kernel
theorem dX9_compareSums_24 : decode cX9_compareSums 24 = .ok (.lload 6, 2) := by decide +kernel
theorem dX9_compareSums_26 : decode cX9_compareSums 26 = .ok (.lsub, 1) := by decide +kernel
theorem dX9_compareSums_27 : decode cX9_compareSums 27 = .ok (.invokestatic 363, 3) := by decide +kernel
theorem dX9_compareSums_30 : decode cX9_compareSums 30 = .ok (.ineg, 1) := by decide +kernel
theorem dX9_compareSums_31 : decode cX9_compareSums 31 = .ok (.ireturn, 1) := by decide +kernel
theorem dX9_compareRoots_0 : decode cX9_compareRoots 0 = .ok (.lload_n 0, 1) := by decide +kernel
theorem dX9_compareRoots_1 : decode cX9_compareRoots 1 = .ok (.lload_n 2, 1) := by decide +kernel
theorem dX9_compareRoots_2 : decode cX9_compareRoots 2 = .ok (.lsub, 1) := by decide +kernel
theorem dX9_compareRoots_3 : decode cX9_compareRoots 3 = .ok (.lload 4, 2) := by decide +kernel
theorem dX9_compareRoots_5 : decode cX9_compareRoots 5 = .ok (.lload 4, 2) := by decide +kernel
theorem dX9_compareRoots_7 : decode cX9_compareRoots 7 = .ok (.lmul, 1) := by decide +kernel
theorem dX9_compareRoots_8 : decode cX9_compareRoots 8 = .ok (.lsub, 1) := by decide +kernel
theorem dX9_compareRoots_9 : decode cX9_compareRoots 9 = .ok (.lstore 6, 2) := by decide +kernel
theorem dX9_compareRoots_11 : decode cX9_compareRoots 11 = .ok (.lload 6, 2) := by decide +kernel
theorem dX9_compareRoots_13 : decode cX9_compareRoots 13 = .ok (.lconst 0, 1) := by decide +kernel
theorem dX9_compareRoots_14 : decode cX9_compareRoots 14 = .ok (.lcmp, 1) := by decide +kernel
theorem dX9_compareRoots_15 : decode cX9_compareRoots 15 = .ok (.ifCond .ge 5, 3) := by decide +kernel
theorem dX9_compareRoots_18 : decode cX9_compareRoots 18 = .ok (.iconst (-1), 1) := by decide +kernel
theorem dX9_compareRoots_19 : decode cX9_compareRoots 19 = .ok (.ireturn, 1) := by decide +kernel
theorem dX9_compareRoots_20 : decode cX9_compareRoots 20 = .ok (.lload 6, 2) := by decide +kernel
theorem dX9_compareRoots_22 : decode cX9_compareRoots 22 = .ok (.lload 6, 2) := by decide +kernel
theorem dX9_compareRoots_24 : decode cX9_compareRoots 24 = .ok (.lmul, 1) := by decide +kernel
theorem dX9_compareRoots_25 : decode cX9_compareRoots 25 = .ok (.ldc2_w 367, 3) := by decide +kernel
theorem dX9_compareRoots_28 : decode cX9_compareRoots 28 = .ok (.lload 4, 2) := by decide +kernel
theorem dX9_compareRoots_30 : decode cX9_compareRoots 30 = .ok (.lmul, 1) := by decide +kernel
theorem dX9_compareRoots_31 : decode cX9_compareRoots 31 = .ok (.lload 4, 2) := by decide +kernel
theorem dX9_compareRoots_33 : decode cX9_compareRoots 33 = .ok (.lmul, 1) := by decide +kernel
theorem dX9_compareRoots_34 : decode cX9_compareRoots 34 = .ok (.lload_n 2, 1) := by decide +kernel
theorem dX9_compareRoots_35 : decode cX9_compareRoots 35 = .ok (.lmul, 1) := by decide +kernel
theorem dX9_compareRoots_36 : decode cX9_compareRoots 36 = .ok (.invokestatic 369, 3) := by decide +kernel
theorem dX9_compareRoots_39 : decode cX9_compareRoots 39 = .ok (.ireturn, 1) := by decide +kernel
theorem dJ6_bitCount_0f7a4_0 : decode cJ6_bitCount_0f7a4 0 = .ok (.iload_n 0, 1) := by decide +kernel
theorem dJ6_bitCount_0f7a4_1 : decode cJ6_bitCount_0f7a4 1 = .ok (.iload_n 0, 1) := by decide +kernel
theorem dJ6_bitCount_0f7a4_2 : decode cJ6_bitCount_0f7a4 2 = .ok (.iconst 1, 1) := by decide +kernel
theorem dJ6_bitCount_0f7a4_3 : decode cJ6_bitCount_0f7a4 3 = .ok (.iushr, 1) := by decide +kernel
theorem dJ6_bitCount_0f7a4_4 : decode cJ6_bitCount_0f7a4 4 = .ok (.ldc_w 265, 3) := by decide +kernel
theorem dJ6_bitCount_0f7a4_7 : decode cJ6_bitCount_0f7a4 7 = .ok (.iand, 1) := by decide +kernel
theorem dJ6_bitCount_0f7a4_8 : decode cJ6_bitCount_0f7a4 8 = .ok (.isub, 1) := by decide +kernel
theorem dJ6_bitCount_0f7a4_9 : decode cJ6_bitCount_0f7a4 9 = .ok (.istore_n 0, 1) := by decide +kernel
theorem dJ6_bitCount_0f7a4_10 : decode cJ6_bitCount_0f7a4 10 = .ok (.iload_n 0, 1) := by decide +kernel
theorem dJ6_bitCount_0f7a4_11 : decode cJ6_bitCount_0f7a4 11 = .ok (.ldc_w 266, 3) := by decide +kernel
theorem dJ6_bitCount_0f7a4_14 : decode cJ6_bitCount_0f7a4 14 = .ok (.iand, 1) := by decide +kernel
theorem dJ6_bitCount_0f7a4_15 : decode cJ6_bitCount_0f7a4 15 = .ok (.iload_n 0, 1) := by decide +kernel
theorem dJ6_bitCount_0f7a4_16 : decode cJ6_bitCount_0f7a4 16 = .ok (.iconst 2, 1) := by decide +kernel
theorem dJ6_bitCount_0f7a4_17 : decode cJ6_bitCount_0f7a4 17 = .ok (.iushr, 1) := by decide +kernel
theorem dJ6_bitCount_0f7a4_18 : decode cJ6_bitCount_0f7a4 18 = .ok (.ldc_w 266, 3) := by decide +kernel
theorem dJ6_bitCount_0f7a4_21 : decode cJ6_bitCount_0f7a4 21 = .ok (.iand, 1) := by decide +kernel
theorem dJ6_bitCount_0f7a4_22 : decode cJ6_bitCount_0f7a4 22 = .ok (.iadd, 1) := by decide +kernel
theorem dJ6_bitCount_0f7a4_23 : decode cJ6_bitCount_0f7a4 23 = .ok (.istore_n 0, 1) := by decide +kernel
theorem dJ6_bitCount_0f7a4_24 : decode cJ6_bitCount_0f7a4 24 = .ok (.iload_n 0, 1) := by decide +kernel
theorem dJ6_bitCount_0f7a4_25 : decode cJ6_bitCount_0f7a4 25 = .ok (.iload_n 0, 1) := by decide +kernel
theorem dJ6_bitCount_0f7a4_26 : decode cJ6_bitCount_0f7a4 26 = .ok (.iconst 4, 1) := by decide +kernel
theorem dJ6_bitCount_0f7a4_27 : decode cJ6_bitCount_0f7a4 27 = .ok (.iushr, 1) := by decide +kernel
theorem dJ6_bitCount_0f7a4_28 : decode cJ6_bitCount_0f7a4 28 = .ok (.iadd, 1) := by decide +kernel
theorem dJ6_bitCount_0f7a4_29 : decode cJ6_bitCount_0f7a4 29 = .ok (.ldc_w 267, 3) := by decide +kernel
theorem dJ6_bitCount_0f7a4_32 : decode cJ6_bitCount_0f7a4 32 = .ok (.iand, 1) := by decide +kernel
theorem dJ6_bitCount_0f7a4_33 : decode cJ6_bitCount_0f7a4 33 = .ok (.istore_n 0, 1) := by decide +kernel
theorem dJ6_bitCount_0f7a4_34 : decode cJ6_bitCount_0f7a4 34 = .ok (.iload_n 0, 1) := by decide +kernel
theorem dJ6_bitCount_0f7a4_35 : decode cJ6_bitCount_0f7a4 35 = .ok (.iload_n 0, 1) := by decide +kernel
theorem dJ6_bitCount_0f7a4_36 : decode cJ6_bitCount_0f7a4 36 = .ok (.bipush 8, 2) := by decide +kernel
theorem dJ6_bitCount_0f7a4_38 : decode cJ6_bitCount_0f7a4 38 = .ok (.iushr, 1) := by decide +kernel
theorem dJ6_bitCount_0f7a4_39 : decode cJ6_bitCount_0f7a4 39 = .ok (.iadd, 1) := by decide +kernel
theorem dJ6_bitCount_0f7a4_40 : decode cJ6_bitCount_0f7a4 40 = .ok (.istore_n 0, 1) := by decide +kernel
theorem dJ6_bitCount_0f7a4_41 : decode cJ6_bitCount_0f7a4 41 = .ok (.iload_n 0, 1) := by decide +kernel
theorem dJ6_bitCount_0f7a4_42 : decode cJ6_bitCount_0f7a4 42 = .ok (.iload_n 0, 1) := by decide +kernel
theorem dJ6_bitCount_0f7a4_43 : decode cJ6_bitCount_0f7a4 43 = .ok (.bipush 16, 2) := by decide +kernel
theorem dJ6_bitCount_0f7a4_45 : decode cJ6_bitCount_0f7a4 45 = .ok (.iushr, 1) := by decide +kernel
theorem dJ6_bitCount_0f7a4_46 : decode cJ6_bitCount_0f7a4 46 = .ok (.iadd, 1) := by decide +kernel
theorem dJ6_bitCount_0f7a4_47 : decode cJ6_bitCount_0f7a4 47 = .ok (.istore_n 0, 1) := by decide +kernel
theorem dJ6_bitCount_0f7a4_48 : decode cJ6_bitCount_0f7a4 48 = .ok (.iload_n 0, 1) := by decide +kernel
theorem dJ6_bitCount_0f7a4_49 : decode cJ6_bitCount_0f7a4 49 = .ok (.bipush 63, 2) := by decide +kernel
theorem dJ6_bitCount_0f7a4_51 : decode cJ6_bitCount_0f7a4 51 = .ok (.iand, 1) := by decide +kernel
theorem dJ6_bitCount_0f7a4_52 : decode cJ6_bitCount_0f7a4 52 = .ok (.ireturn, 1) := by decide +kernel
theorem dJ13_compare_74951_0 : decode cJ13_compare_74951 0 = .ok (.lload_n 0, 1) := by decide +kernel
theorem dJ13_compare_74951_1 : decode cJ13_compare_74951 1 = .ok (.lload_n 2, 1) := by decide +kernel
theorem dJ13_compare_74951_2 : decode cJ13_compare_74951 2 = .ok (.lcmp, 1) := by decide +kernel
theorem dJ13_compare_74951_3 : decode cJ13_compare_74951 3 = .ok (.ifCond .ge 7, 3) := by decide +kernel
theorem dJ13_compare_74951_6 : decode cJ13_compare_74951 6 = .ok (.iconst (-1), 1) := by decide +kernel
theorem dJ13_compare_74951_7 : decode cJ13_compare_74951 7 = .ok (.goto 14, 3) := by decide +kernel
theorem dJ13_compare_74951_10 : decode cJ13_compare_74951 10 = .ok (.lload_n 0, 1) := by decide +kernel
theorem dJ13_compare_74951_11 : decode cJ13_compare_74951 11 = .ok (.lload_n 2, 1) := by decide +kernel
theorem dJ13_compare_74951_12 : decode cJ13_compare_74951 12 = .ok (.lcmp, 1) := by decide +kernel
theorem dJ13_compare_74951_13 : decode cJ13_compare_74951 13 = .ok (.ifCond .ne 7, 3) := by decide +kernel
theorem dJ13_compare_74951_16 : decode cJ13_compare_74951 16 = .ok (.iconst 0, 1) := by decide +kernel
theorem dJ13_compare_74951_17 : decode cJ13_compare_74951 17 = .ok (.goto 4, 3) := by decide +kernel
theorem dJ13_compare_74951_20 : decode cJ13_compare_74951 20 = .ok (.iconst 1, 1) := by decide +kernel
theorem dJ13_compare_74951_21 : decode cJ13_compare_74951 21 = .ok (.ireturn, 1) := by decide +kernel
theorem dJ9_max_7cf53_0 : decode cJ9_max_7cf53 0 = .ok (.iload_n 0, 1) := by decide +kernel
theorem dJ9_max_7cf53_1 : decode cJ9_max_7cf53 1 = .ok (.iload_n 1, 1) := by decide +kernel
theorem dJ9_max_7cf53_2 : decode cJ9_max_7cf53 2 = .ok (.if_icmp .lt 7, 3) := by decide +kernel
theorem dJ9_max_7cf53_5 : decode cJ9_max_7cf53 5 = .ok (.iload_n 0, 1) := by decide +kernel
theorem dJ9_max_7cf53_6 : decode cJ9_max_7cf53 6 = .ok (.goto 4, 3) := by decide +kernel
theorem dJ9_max_7cf53_9 : decode cJ9_max_7cf53 9 = .ok (.iload_n 1, 1) := by decide +kernel
theorem dJ9_max_7cf53_10 : decode cJ9_max_7cf53 10 = .ok (.ireturn, 1) := by decide +kernel
theorem dJ9_max_f86c9_0 : decode cJ9_max_f86c9 0 = .ok (.lload_n 0, 1) := by decide +kernel
theorem dJ9_max_f86c9_1 : decode cJ9_max_f86c9 1 = .ok (.lload_n 2, 1) := by decide +kernel
theorem dJ9_max_f86c9_2 : decode cJ9_max_f86c9 2 = .ok (.lcmp, 1) := by decide +kernel
theorem dJ9_max_f86c9_3 : decode cJ9_max_f86c9 3 = .ok (.ifCond .lt 7, 3) := by decide +kernel
theorem dJ9_max_f86c9_6 : decode cJ9_max_f86c9 6 = .ok (.lload_n 0, 1) := by decide +kernel
theorem dJ9_max_f86c9_7 : decode cJ9_max_f86c9 7 = .ok (.goto 4, 3) := by decide +kernel
theorem dJ9_max_f86c9_10 : decode cJ9_max_f86c9 10 = .ok (.lload_n 2, 1) := by decide +kernel
theorem dJ9_max_f86c9_11 : decode cJ9_max_f86c9 11 = .ok (.lreturn, 1) := by decide +kernel
theorem dJ9_min_7cf53_0 : decode cJ9_min_7cf53 0 = .ok (.iload_n 0, 1) := by decide +kernel
theorem dJ9_min_7cf53_1 : decode cJ9_min_7cf53 1 = .ok (.iload_n 1, 1) := by decide +kernel
theorem dJ9_min_7cf53_2 : decode cJ9_min_7cf53 2 = .ok (.if_icmp .gt 7, 3) := by decide +kernel
theorem dJ9_min_7cf53_5 : decode cJ9_min_7cf53 5 = .ok (.iload_n 0, 1) := by decide +kernel
theorem dJ9_min_7cf53_6 : decode cJ9_min_7cf53 6 = .ok (.goto 4, 3) := by decide +kernel
theorem dJ9_min_7cf53_9 : decode cJ9_min_7cf53 9 = .ok (.iload_n 1, 1) := by decide +kernel
theorem dJ9_min_7cf53_10 : decode cJ9_min_7cf53 10 = .ok (.ireturn, 1) := by decide +kernel
theorem dJ0_length_8abf5_0 : decode cJ0_length_8abf5 0 = .ok (.aload_n 0, 1) := by decide +kernel
theorem dJ0_length_8abf5_1 : decode cJ0_length_8abf5 1 = .ok (.getfield 9, 3) := by decide +kernel
theorem dJ0_length_8abf5_4 : decode cJ0_length_8abf5 4 = .ok (.arraylength, 1) := by decide +kernel
theorem dJ0_length_8abf5_5 : decode cJ0_length_8abf5 5 = .ok (.aload_n 0, 1) := by decide +kernel
theorem dJ0_length_8abf5_6 : decode cJ0_length_8abf5 6 = .ok (.invokevirtual 335, 3) := by decide +kernel
theorem dJ0_length_8abf5_9 : decode cJ0_length_8abf5 9 = .ok (.ishr, 1) := by decide +kernel
theorem dJ0_length_8abf5_10 : decode cJ0_length_8abf5 10 = .ok (.ireturn, 1) := by decide +kernel
theorem dJ0_charAt_5068e_0 : decode cJ0_charAt_5068e 0 = .ok (.aload_n 0, 1) := by decide +kernel
theorem dJ0_charAt_5068e_1 : decode cJ0_charAt_5068e 1 = .ok (.invokevirtual 492, 3) := by decide +kernel
theorem dJ0_charAt_5068e_4 : decode cJ0_charAt_5068e 4 = .ok (.ifCond .eq 12, 3) := by decide +kernel
theorem dJ0_charAt_5068e_7 : decode cJ0_charAt_5068e 7 = .ok (.aload_n 0, 1) := by decide +kernel
theorem dJ0_charAt_5068e_8 : decode cJ0_charAt_5068e 8 = .ok (.getfield 9, 3) := by decide +kernel
theorem dJ0_charAt_5068e_11 : decode cJ0_charAt_5068e 11 = .ok (.iload_n 1, 1) := by decide +kernel
theorem dJ0_charAt_5068e_12 : decode cJ0_charAt_5068e 12 = .ok (.invokestatic 495, 3) := by decide +kernel
theorem dJ0_charAt_5068e_15 : decode cJ0_charAt_5068e 15 = .ok (.ireturn, 1) := by decide +kernel
theorem dJ0_charAt_5068e_16 : decode cJ0_charAt_5068e 16 = .ok (.aload_n 0, 1) := by decide +kernel
theorem dJ0_charAt_5068e_17 : decode cJ0_charAt_5068e 17 = .ok (.getfield 9, 3) := by decide +kernel
theorem dJ0_charAt_5068e_20 : decode cJ0_charAt_5068e 20 = .ok (.iload_n 1, 1) := by decide +kernel
theorem dJ0_charAt_5068e_21 : decode cJ0_charAt_5068e 21 = .ok (.invokestatic 498, 3) := by decide +kernel
theorem dJ0_charAt_5068e_24 : decode cJ0_charAt_5068e 24 = .ok (.ireturn, 1) := by decide +kernel
theorem dJ0_coder_7d493_0 : decode cJ0_coder_7d493 0 = .ok (.getstatic 38, 3) := by decide +kernel
theorem dJ0_coder_7d493_3 : decode cJ0_coder_7d493 3 = .ok (.ifCond .eq 10, 3) := by decide +kernel
theorem dJ0_coder_7d493_6 : decode cJ0_coder_7d493 6 = .ok (.aload_n 0, 1) := by decide +kernel
theorem dJ0_coder_7d493_7 : decode cJ0_coder_7d493 7 = .ok (.getfield 15, 3) := by decide +kernel
theorem dJ0_coder_7d493_10 : decode cJ0_coder_7d493 10 = .ok (.goto 4, 3) := by decide +kernel
theorem dJ0_coder_7d493_13 : decode cJ0_coder_7d493 13 = .ok (.iconst 1, 1) := by decide +kernel
theorem dJ0_coder_7d493_14 : decode cJ0_coder_7d493 14 = .ok (.ireturn, 1) := by decide +kernel
theorem dJ0_isLatin1_aae02_0 : decode cJ0_isLatin1_aae02 0 = .ok (.getstatic 38, 3) := by decide +kernel
theorem dJ0_isLatin1_aae02_3 : decode cJ0_isLatin1_aae02 3 = .ok (.ifCond .eq 14, 3) := by decide +kernel
theorem dJ0_isLatin1_aae02_6 : decode cJ0_isLatin1_aae02 6 = .ok (.aload_n 0, 1) := by decide +kernel
theorem dJ0_isLatin1_aae02_7 : decode cJ0_isLatin1_aae02 7 = .ok (.getfield 15, 3) := by decide +kernel
theorem dJ0_isLatin1_aae02_10 : decode cJ0_isLatin1_aae02 10 = .ok (.ifCond .ne 7, 3) := by decide +kernel
theorem dJ0_isLatin1_aae02_13 : decode cJ0_isLatin1_aae02 13 = .ok (.iconst 1, 1) := by decide +kernel
theorem dJ0_isLatin1_aae02_14 : decode cJ0_isLatin1_aae02 14 = .ok (.goto 4, 3) := by decide +kernel
theorem dJ0_isLatin1_aae02_17 : decode cJ0_isLatin1_aae02 17 = .ok (.iconst 0, 1) := by decide +kernel
theorem dJ0_isLatin1_aae02_18 : decode cJ0_isLatin1_aae02 18 = .ok (.ireturn, 1) := by decide +kernel
theorem dJ0_checkIndex_df160_0 : decode cJ0_checkIndex_df160 0 = .ok (.iload_n 0, 1) := by decide +kernel
theorem dJ0_checkIndex_df160_1 : decode cJ0_checkIndex_df160 1 = .ok (.iload_n 1, 1) := by decide +kernel
theorem dJ0_checkIndex_df160_2 : decode cJ0_checkIndex_df160 2 = .ok (.getstatic 1053, 3) := by decide +kernel
theorem dJ0_checkIndex_df160_5 : decode cJ0_checkIndex_df160 5 = .ok (.invokestatic 1059, 3) := by decide +kernel
theorem dJ0_checkIndex_df160_8 : decode cJ0_checkIndex_df160 8 = .ok (.pop, 1) := by decide +kernel
theorem dJ0_checkIndex_df160_9 : decode cJ0_checkIndex_df160 9 = .ok (.return_, 1) := by decide +kernel
theorem dJ1_charAt_3b067_0 : decode cJ1_charAt_3b067 0 = .ok (.iload_n 1, 1) := by decide +kernel
theorem dJ1_charAt_3b067_1 : decode cJ1_charAt_3b067 1 = .ok (.aload_n 0, 1) := by decide +kernel
theorem dJ1_charAt_3b067_2 : decode cJ1_charAt_3b067 2 = .ok (.arraylength, 1) := by decide +kernel
theorem dJ1_charAt_3b067_3 : decode cJ1_charAt_3b067 3 = .ok (.invokestatic 9, 3) := by decide +kernel
theorem dJ1_charAt_3b067_6 : decode cJ1_charAt_3b067 6 = .ok (.aload_n 0, 1) := by decide +kernel
theorem dJ1_charAt_3b067_7 : decode cJ1_charAt_3b067 7 = .ok (.iload_n 1, 1) := by decide +kernel
theorem dJ1_charAt_3b067_8 : decode cJ1_charAt_3b067 8 = .ok (.baload, 1) := by decide +kernel
theorem dJ1_charAt_3b067_9 : decode cJ1_charAt_3b067 9 = .ok (.sipush 255, 3) := by decide +kernel
theorem dJ1_charAt_3b067_12 : decode cJ1_charAt_3b067 12 = .ok (.iand, 1) := by decide +kernel
theorem dJ1_charAt_3b067_13 : decode cJ1_charAt_3b067 13 = .ok (.i2c, 1) := by decide +kernel
theorem dJ1_charAt_3b067_14 : decode cJ1_charAt_3b067 14 = .ok (.ireturn, 1) := by decide +kernel
theorem dJ2_getChar_3b067_0 : decode cJ2_getChar_3b067 0 = .ok (.getstatic 44, 3) := by decide +kernel
theorem dJ2_getChar_3b067_3 : decode cJ2_getChar_3b067 3 = .ok (.ifCond .ne 25, 3) := by decide +kernel
theorem dJ2_getChar_3b067_6 : decode cJ2_getChar_3b067 6 = .ok (.iload_n 1, 1) := by decide +kernel
theorem dJ2_getChar_3b067_7 : decode cJ2_getChar_3b067 7 = .ok (.ifCond .lt 11, 3) := by decide +kernel
theorem dJ2_getChar_3b067_10 : decode cJ2_getChar_3b067 10 = .ok (.iload_n 1, 1) := by decide +kernel
theorem dJ2_getChar_3b067_11 : decode cJ2_getChar_3b067 11 = .ok (.aload_n 0, 1) := by decide +kernel
theorem dJ2_getChar_3b067_12 : decode cJ2_getChar_3b067 12 = .ok (.invokestatic 48, 3) := by decide +kernel
theorem dJ2_getChar_3b067_15 : decode cJ2_getChar_3b067 15 = .ok (.if_icmp .lt 13, 3) := by decide +kernel
theorem dJ2_getChar_3b067_18 : decode cJ2_getChar_3b067 18 = .ok (.new 52, 3) := by decide +kernel
theorem dJ2_getChar_3b067_21 : decode cJ2_getChar_3b067 21 = .ok (.dup, 1) := by decide +kernel
theorem dJ2_getChar_3b067_22 : decode cJ2_getChar_3b067 22 = .ok (.ldc 54, 2) := by decide +kernel
theorem dJ2_getChar_3b067_24 : decode cJ2_getChar_3b067 24 = .ok (.invokespecial 56, 3) := by decide +kernel
theorem dJ2_getChar_3b067_27 : decode cJ2_getChar_3b067 27 = .ok (.athrow, 1) := by decide +kernel
theorem dJ2_getChar_3b067_28 : decode cJ2_getChar_3b067 28 = .ok (.iload_n 1, 1) := by decide +kernel
theorem dJ2_getChar_3b067_29 : decode cJ2_getChar_3b067 29 = .ok (.iconst 1, 1) := by decide +kernel
theorem dJ2_getChar_3b067_30 : decode cJ2_getChar_3b067 30 = .ok (.ishl, 1) := by decide +kernel
theorem dJ2_getChar_3b067_31 : decode cJ2_getChar_3b067 31 = .ok (.istore_n 1, 1) := by decide +kernel
theorem dJ2_getChar_3b067_32 : decode cJ2_getChar_3b067 32 = .ok (.aload_n 0, 1) := by decide +kernel
theorem dJ2_getChar_3b067_33 : decode cJ2_getChar_3b067 33 = .ok (.iload_n 1, 1) := by decide +kernel
theorem dJ2_getChar_3b067_34 : decode cJ2_getChar_3b067 34 = .ok (.iinc 1 1, 3) := by decide +kernel
theorem dJ2_getChar_3b067_37 : decode cJ2_getChar_3b067 37 = .ok (.baload, 1) := by decide +kernel
theorem dJ2_getChar_3b067_38 : decode cJ2_getChar_3b067 38 = .ok (.sipush 255, 3) := by decide +kernel
theorem dJ2_getChar_3b067_41 : decode cJ2_getChar_3b067 41 = .ok (.iand, 1) := by decide +kernel
theorem dJ2_getChar_3b067_42 : decode cJ2_getChar_3b067 42 = .ok (.getstatic 59, 3) := by decide +kernel
theorem dJ2_getChar_3b067_45 : decode cJ2_getChar_3b067 45 = .ok (.ishl, 1) := by decide +kernel
theorem dJ2_getChar_3b067_46 : decode cJ2_getChar_3b067 46 = .ok (.aload_n 0, 1) := by decide +kernel
theorem dJ2_getChar_3b067_47 : decode cJ2_getChar_3b067 47 = .ok (.iload_n 1, 1) := by decide +kernel
theorem dJ2_getChar_3b067_48 : decode cJ2_getChar_3b067 48 = .ok (.baload, 1) := by decide +kernel
theorem dJ2_getChar_3b067_49 : decode cJ2_getChar_3b067 49 = .ok (.sipush 255, 3) := by decide +kernel
theorem dJ2_getChar_3b067_52 : decode cJ2_getChar_3b067 52 = .ok (.iand, 1) := by decide +kernel
theorem dJ2_getChar_3b067_53 : decode cJ2_getChar_3b067 53 = .ok (.getstatic 63, 3) := by decide +kernel
theorem dJ2_getChar_3b067_56 : decode cJ2_getChar_3b067 56 = .ok (.ishl, 1) := by decide +kernel
theorem dJ2_getChar_3b067_57 : decode cJ2_getChar_3b067 57 = .ok (.ior, 1) := by decide +kernel
theorem dJ2_getChar_3b067_58 : decode cJ2_getChar_3b067 58 = .ok (.i2c, 1) := by decide +kernel
theorem dJ2_getChar_3b067_59 : decode cJ2_getChar_3b067 59 = .ok (.ireturn, 1) := by decide +kernel
theorem dJ2_length_9d52b_0 : decode cJ2_length_9d52b 0 = .ok (.aload_n 0, 1) := by decide +kernel
theorem dJ2_length_9d52b_1 : decode cJ2_length_9d52b 1 = .ok (.arraylength, 1) := by decide +kernel
theorem dJ2_length_9d52b_2 : decode cJ2_length_9d52b 2 = .ok (.iconst 1, 1) := by decide +kernel
theorem dJ2_length_9d52b_3 : decode cJ2_length_9d52b 3 = .ok (.ishr, 1) := by decide +kernel
theorem dJ2_length_9d52b_4 : decode cJ2_length_9d52b 4 = .ok (.ireturn, 1) := by decide +kernel
theorem dJ2_charAt_3b067_0 : decode cJ2_charAt_3b067 0 = .ok (.iload_n 1, 1) := by decide +kernel
theorem dJ2_charAt_3b067_1 : decode cJ2_charAt_3b067 1 = .ok (.aload_n 0, 1) := by decide +kernel
theorem dJ2_charAt_3b067_2 : decode cJ2_charAt_3b067 2 = .ok (.invokestatic 67, 3) := by decide +kernel
theorem dJ2_charAt_3b067_5 : decode cJ2_charAt_3b067 5 = .ok (.aload_n 0, 1) := by decide +kernel
theorem dJ2_charAt_3b067_6 : decode cJ2_charAt_3b067 6 = .ok (.iload_n 1, 1) := by decide +kernel
theorem dJ2_charAt_3b067_7 : decode cJ2_charAt_3b067 7 = .ok (.invokestatic 71, 3) := by decide +kernel
theorem dJ2_charAt_3b067_10 : decode cJ2_charAt_3b067 10 = .ok (.ireturn, 1) := by decide +kernel
theorem dJ2_checkIndex_2214a_0 : decode cJ2_checkIndex_2214a 0 = .ok (.iload_n 0, 1) := by decide +kernel
theorem dJ2_checkIndex_2214a_1 : decode cJ2_checkIndex_2214a 1 = .ok (.aload_n 1, 1) := by decide +kernel
theorem dJ2_checkIndex_2214a_2 : decode cJ2_checkIndex_2214a 2 = .ok (.invokestatic 48, 3) := by decide +kernel
theorem dJ2_checkIndex_2214a_5 : decode cJ2_checkIndex_2214a 5 = .ok (.invokestatic 414, 3) := by decide +kernel
theorem dJ2_checkIndex_2214a_8 : decode cJ2_checkIndex_2214a 8 = .ok (.return_, 1) := by decide +kernel
theorem dJ3_checkIndex_8e157_0 : decode cJ3_checkIndex_8e157 0 = .ok (.iload_n 0, 1) := by decide +kernel
theorem dJ3_checkIndex_8e157_1 : decode cJ3_checkIndex_8e157 1 = .ok (.ifCond .lt 8, 3) := by decide +kernel
theorem dJ3_checkIndex_8e157_4 : decode cJ3_checkIndex_8e157 4 = .ok (.iload_n 0, 1) := by decide +kernel
theorem dJ3_checkIndex_8e157_5 : decode cJ3_checkIndex_8e157 5 = .ok (.iload_n 1, 1) := by decide +kernel
theorem dJ3_checkIndex_8e157_6 : decode cJ3_checkIndex_8e157 6 = .ok (.if_icmp .lt 10, 3) := by decide +kernel
theorem dJ3_checkIndex_8e157_9 : decode cJ3_checkIndex_8e157 9 = .ok (.aload_n 2, 1) := by decide +kernel
theorem dJ3_checkIndex_8e157_10 : decode cJ3_checkIndex_8e157 10 = .ok (.iload_n 0, 1) := by decide +kernel
theorem dJ3_checkIndex_8e157_11 : decode cJ3_checkIndex_8e157 11 = .ok (.iload_n 1, 1) := by decide +kernel
theorem dJ3_checkIndex_8e157_12 : decode cJ3_checkIndex_8e157 12 = .ok (.invokestatic 95, 3) := by decide +kernel
theorem dJ3_checkIndex_8e157_15 : decode cJ3_checkIndex_8e157 15 = .ok (.athrow, 1) := by decide +kernel
theorem dJ3_checkIndex_8e157_16 : decode cJ3_checkIndex_8e157 16 = .ok (.iload_n 0, 1) := by decide +kernel
theorem dJ3_checkIndex_8e157_17 : decode cJ3_checkIndex_8e157 17 = .ok (.ireturn, 1) := by decide +kernel
