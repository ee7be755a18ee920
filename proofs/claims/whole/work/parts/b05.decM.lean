/-! decode rows (written by wip/gen/names.py) -/
theorem dM_bring_0 : decode bM_bring 0 = .ok (.aload_n 0, 1) := by decide +kernel
theorem dM_bring_1 : decode bM_bring 1 = .ok (.getfield 26, 3) := by decide +kernel
theorem dM_bring_4 : decode bM_bring 4 = .ok (.iload_n 1, 1) := by decide +kernel
theorem dM_bring_5 : decode bM_bring 5 = .ok (.iaload, 1) := by decide +kernel
theorem dM_bring_6 : decode bM_bring 6 = .ok (.istore_n 3, 1) := by decide +kernel
theorem dM_bring_7 : decode bM_bring 7 = .ok (.aload_n 0, 1) := by decide +kernel
theorem dM_bring_8 : decode bM_bring 8 = .ok (.getfield 16, 3) := by decide +kernel
theorem dM_bring_11 : decode bM_bring 11 = .ok (.iload_n 1, 1) := by decide +kernel
theorem dM_bring_12 : decode bM_bring 12 = .ok (.iaload, 1) := by decide +kernel
theorem dM_bring_13 : decode bM_bring 13 = .ok (.istore 4, 2) := by decide +kernel
theorem dM_bring_15 : decode bM_bring 15 = .ok (.aload_n 0, 1) := by decide +kernel
theorem dM_bring_16 : decode bM_bring 16 = .ok (.getfield 20, 3) := by decide +kernel
theorem dM_bring_19 : decode bM_bring 19 = .ok (.iload_n 1, 1) := by decide +kernel
theorem dM_bring_20 : decode bM_bring 20 = .ok (.iaload, 1) := by decide +kernel
theorem dM_bring_21 : decode bM_bring 21 = .ok (.istore 5, 2) := by decide +kernel
theorem dM_bring_23 : decode bM_bring 23 = .ok (.aload_n 0, 1) := by decide +kernel
theorem dM_bring_24 : decode bM_bring 24 = .ok (.getfield 23, 3) := by decide +kernel
theorem dM_bring_27 : decode bM_bring 27 = .ok (.iload_n 1, 1) := by decide +kernel
theorem dM_bring_28 : decode bM_bring 28 = .ok (.iaload, 1) := by decide +kernel
theorem dM_bring_29 : decode bM_bring 29 = .ok (.istore 6, 2) := by decide +kernel
theorem dM_bring_31 : decode bM_bring 31 = .ok (.aload_n 0, 1) := by decide +kernel
theorem dM_bring_32 : decode bM_bring 32 = .ok (.getfield 16, 3) := by decide +kernel
theorem dM_bring_35 : decode bM_bring 35 = .ok (.iload_n 1, 1) := by decide +kernel
theorem dM_bring_36 : decode bM_bring 36 = .ok (.iconst 0, 1) := by decide +kernel
theorem dM_bring_37 : decode bM_bring 37 = .ok (.iastore, 1) := by decide +kernel
theorem dM_bring_38 : decode bM_bring 38 = .ok (.aload_n 0, 1) := by decide +kernel
theorem dM_bring_39 : decode bM_bring 39 = .ok (.getfield 20, 3) := by decide +kernel
theorem dM_bring_42 : decode bM_bring 42 = .ok (.iload_n 1, 1) := by decide +kernel
theorem dM_bring_43 : decode bM_bring 43 = .ok (.iconst 0, 1) := by decide +kernel
theorem dM_bring_44 : decode bM_bring 44 = .ok (.iastore, 1) := by decide +kernel
theorem dM_bring_45 : decode bM_bring 45 = .ok (.aload_n 0, 1) := by decide +kernel
theorem dM_bring_46 : decode bM_bring 46 = .ok (.getfield 23, 3) := by decide +kernel
theorem dM_bring_49 : decode bM_bring 49 = .ok (.iload_n 1, 1) := by decide +kernel
theorem dM_bring_50 : decode bM_bring 50 = .ok (.iconst 0, 1) := by decide +kernel
theorem dM_bring_51 : decode bM_bring 51 = .ok (.iastore, 1) := by decide +kernel
theorem dM_bring_52 : decode bM_bring 52 = .ok (.iconst 0, 1) := by decide +kernel
theorem dM_bring_53 : decode bM_bring 53 = .ok (.istore 7, 2) := by decide +kernel
theorem dM_bring_55 : decode bM_bring 55 = .ok (.iload 7, 2) := by decide +kernel
theorem dM_bring_57 : decode bM_bring 57 = .ok (.iload_n 2, 1) := by decide +kernel
theorem dM_bring_58 : decode bM_bring 58 = .ok (.if_icmp .ge 27, 3) := by decide +kernel
theorem dM_bring_61 : decode bM_bring 61 = .ok (.aload_n 0, 1) := by decide +kernel
theorem dM_bring_62 : decode bM_bring 62 = .ok (.getfield 33, 3) := by decide +kernel
theorem dM_bring_65 : decode bM_bring 65 = .ok (.iload_n 3, 1) := by decide +kernel
theorem dM_bring_66 : decode bM_bring 66 = .ok (.iload 7, 2) := by decide +kernel
theorem dM_bring_68 : decode bM_bring 68 = .ok (.iadd, 1) := by decide +kernel
theorem dM_bring_69 : decode bM_bring 69 = .ok (.aload_n 0, 1) := by decide +kernel
theorem dM_bring_70 : decode bM_bring 70 = .ok (.getfield 33, 3) := by decide +kernel
theorem dM_bring_73 : decode bM_bring 73 = .ok (.iload_n 1, 1) := by decide +kernel
theorem dM_bring_74 : decode bM_bring 74 = .ok (.iload 7, 2) := by decide +kernel
theorem dM_bring_76 : decode bM_bring 76 = .ok (.iadd, 1) := by decide +kernel
theorem dM_bring_77 : decode bM_bring 77 = .ok (.iaload, 1) := by decide +kernel
theorem dM_bring_78 : decode bM_bring 78 = .ok (.iastore, 1) := by decide +kernel
theorem dM_bring_79 : decode bM_bring 79 = .ok (.iinc 7 1, 3) := by decide +kernel
theorem dM_bring_82 : decode bM_bring 82 = .ok (.goto (-27), 3) := by decide +kernel
theorem dM_bring_85 : decode bM_bring 85 = .ok (.aload_n 0, 1) := by decide +kernel
theorem dM_bring_86 : decode bM_bring 86 = .ok (.getfield 16, 3) := by decide +kernel
theorem dM_bring_89 : decode bM_bring 89 = .ok (.iload_n 3, 1) := by decide +kernel
theorem dM_bring_90 : decode bM_bring 90 = .ok (.iload 4, 2) := by decide +kernel
theorem dM_bring_92 : decode bM_bring 92 = .ok (.iastore, 1) := by decide +kernel
theorem dM_bring_93 : decode bM_bring 93 = .ok (.aload_n 0, 1) := by decide +kernel
theorem dM_bring_94 : decode bM_bring 94 = .ok (.getfield 20, 3) := by decide +kernel
theorem dM_bring_97 : decode bM_bring 97 = .ok (.iload_n 3, 1) := by decide +kernel
theorem dM_bring_98 : decode bM_bring 98 = .ok (.iload 5, 2) := by decide +kernel
theorem dM_bring_100 : decode bM_bring 100 = .ok (.iastore, 1) := by decide +kernel
theorem dM_bring_101 : decode bM_bring 101 = .ok (.aload_n 0, 1) := by decide +kernel
theorem dM_bring_102 : decode bM_bring 102 = .ok (.getfield 23, 3) := by decide +kernel
theorem dM_bring_105 : decode bM_bring 105 = .ok (.iload_n 3, 1) := by decide +kernel
theorem dM_bring_106 : decode bM_bring 106 = .ok (.iload 6, 2) := by decide +kernel
theorem dM_bring_108 : decode bM_bring 108 = .ok (.iastore, 1) := by decide +kernel
theorem dM_bring_109 : decode bM_bring 109 = .ok (.return_, 1) := by decide +kernel
theorem dM_count_0 : decode bM_count 0 = .ok (.aload_n 0, 1) := by decide +kernel
theorem dM_count_1 : decode bM_count 1 = .ok (.iload_n 1, 1) := by decide +kernel
theorem dM_count_2 : decode bM_count 2 = .ok (.ifCond .lt 13, 3) := by decide +kernel
theorem dM_count_5 : decode bM_count 5 = .ok (.iload_n 1, 1) := by decide +kernel
theorem dM_count_6 : decode bM_count 6 = .ok (.bipush 6, 2) := by decide +kernel
theorem dM_count_8 : decode bM_count 8 = .ok (.if_icmp .gt 7, 3) := by decide +kernel
theorem dM_count_11 : decode bM_count 11 = .ok (.iconst 1, 1) := by decide +kernel
theorem dM_count_12 : decode bM_count 12 = .ok (.goto 4, 3) := by decide +kernel
theorem dM_count_15 : decode bM_count 15 = .ok (.iconst 0, 1) := by decide +kernel
theorem dM_count_16 : decode bM_count 16 = .ok (.invokevirtual 42, 3) := by decide +kernel
theorem dM_count_19 : decode bM_count 19 = .ok (.ifCond .ne 5, 3) := by decide +kernel
theorem dM_count_22 : decode bM_count 22 = .ok (.iconst 0, 1) := by decide +kernel
theorem dM_count_23 : decode bM_count 23 = .ok (.ireturn, 1) := by decide +kernel
theorem dM_count_24 : decode bM_count 24 = .ok (.iload_n 1, 1) := by decide +kernel
theorem dM_count_25 : decode bM_count 25 = .ok (.tableswitch 71 0 5 #[39, 44, 51, 56, 61, 66], 39) := by decide +kernel
theorem dM_count_64 : decode bM_count 64 = .ok (.aload_n 0, 1) := by decide +kernel
theorem dM_count_65 : decode bM_count 65 = .ok (.invokevirtual 77, 3) := by decide +kernel
theorem dM_count_68 : decode bM_count 68 = .ok (.ireturn, 1) := by decide +kernel
theorem dM_count_69 : decode bM_count 69 = .ok (.aload_n 0, 1) := by decide +kernel
theorem dM_count_70 : decode bM_count 70 = .ok (.getfield 13, 3) := by decide +kernel
theorem dM_count_73 : decode bM_count 73 = .ok (.iconst 1, 1) := by decide +kernel
theorem dM_count_74 : decode bM_count 74 = .ok (.isub, 1) := by decide +kernel
theorem dM_count_75 : decode bM_count 75 = .ok (.ireturn, 1) := by decide +kernel
theorem dM_count_76 : decode bM_count 76 = .ok (.aload_n 0, 1) := by decide +kernel
theorem dM_count_77 : decode bM_count 77 = .ok (.invokevirtual 73, 3) := by decide +kernel
theorem dM_count_80 : decode bM_count 80 = .ok (.ireturn, 1) := by decide +kernel
theorem dM_count_81 : decode bM_count 81 = .ok (.aload_n 0, 1) := by decide +kernel
theorem dM_count_82 : decode bM_count 82 = .ok (.getfield 46, 3) := by decide +kernel
theorem dM_count_85 : decode bM_count 85 = .ok (.ireturn, 1) := by decide +kernel
theorem dM_count_86 : decode bM_count 86 = .ok (.aload_n 0, 1) := by decide +kernel
theorem dM_count_87 : decode bM_count 87 = .ok (.getfield 49, 3) := by decide +kernel
theorem dM_count_90 : decode bM_count 90 = .ok (.ireturn, 1) := by decide +kernel
theorem dM_count_91 : decode bM_count 91 = .ok (.aload_n 0, 1) := by decide +kernel
theorem dM_count_92 : decode bM_count 92 = .ok (.getfield 52, 3) := by decide +kernel
theorem dM_count_95 : decode bM_count 95 = .ok (.ireturn, 1) := by decide +kernel
theorem dM_count_96 : decode bM_count 96 = .ok (.aload_n 0, 1) := by decide +kernel
theorem dM_count_97 : decode bM_count 97 = .ok (.getfield 7, 3) := by decide +kernel
theorem dM_count_100 : decode bM_count 100 = .ok (.ireturn, 1) := by decide +kernel
theorem dM_find_0 : decode bM_find 0 = .ok (.aload_n 0, 1) := by decide +kernel
theorem dM_find_1 : decode bM_find 1 = .ok (.iconst 0, 1) := by decide +kernel
theorem dM_find_2 : decode bM_find 2 = .ok (.putfield 39, 3) := by decide +kernel
theorem dM_find_5 : decode bM_find 5 = .ok (.iconst 1, 1) := by decide +kernel
theorem dM_find_6 : decode bM_find 6 = .ok (.istore_n 2, 1) := by decide +kernel
theorem dM_find_7 : decode bM_find 7 = .ok (.iload_n 2, 1) := by decide +kernel
theorem dM_find_8 : decode bM_find 8 = .ok (.aload_n 0, 1) := by decide +kernel
theorem dM_find_9 : decode bM_find 9 = .ok (.getfield 13, 3) := by decide +kernel
theorem dM_find_12 : decode bM_find 12 = .ok (.if_icmp .ge 40, 3) := by decide +kernel
theorem dM_find_15 : decode bM_find 15 = .ok (.iload_n 1, 1) := by decide +kernel
theorem dM_find_16 : decode bM_find 16 = .ok (.ifCond .lt 36, 3) := by decide +kernel
theorem dM_find_19 : decode bM_find 19 = .ok (.iload_n 1, 1) := by decide +kernel
theorem dM_find_20 : decode bM_find 20 = .ok (.aload_n 0, 1) := by decide +kernel
theorem dM_find_21 : decode bM_find 21 = .ok (.getfield 52, 3) := by decide +kernel
theorem dM_find_24 : decode bM_find 24 = .ok (.if_icmp .ge 28, 3) := by decide +kernel
theorem dM_find_27 : decode bM_find 27 = .ok (.aload_n 0, 1) := by decide +kernel
theorem dM_find_28 : decode bM_find 28 = .ok (.getfield 23, 3) := by decide +kernel
theorem dM_find_31 : decode bM_find 31 = .ok (.iload_n 2, 1) := by decide +kernel
theorem dM_find_32 : decode bM_find 32 = .ok (.iaload, 1) := by decide +kernel
theorem dM_find_33 : decode bM_find 33 = .ok (.iload_n 1, 1) := by decide +kernel
theorem dM_find_34 : decode bM_find 34 = .ok (.iconst 1, 1) := by decide +kernel
theorem dM_find_35 : decode bM_find 35 = .ok (.iadd, 1) := by decide +kernel
theorem dM_find_36 : decode bM_find 36 = .ok (.if_icmp .ne 5, 3) := by decide +kernel
theorem dM_find_39 : decode bM_find 39 = .ok (.iload_n 2, 1) := by decide +kernel
theorem dM_find_40 : decode bM_find 40 = .ok (.ireturn, 1) := by decide +kernel
theorem dM_find_41 : decode bM_find 41 = .ok (.iload_n 2, 1) := by decide +kernel
theorem dM_find_42 : decode bM_find 42 = .ok (.aload_n 0, 1) := by decide +kernel
theorem dM_find_43 : decode bM_find 43 = .ok (.iload_n 2, 1) := by decide +kernel
theorem dM_find_44 : decode bM_find 44 = .ok (.invokevirtual 69, 3) := by decide +kernel
theorem dM_find_47 : decode bM_find 47 = .ok (.iadd, 1) := by decide +kernel
theorem dM_find_48 : decode bM_find 48 = .ok (.istore_n 2, 1) := by decide +kernel
theorem dM_find_49 : decode bM_find 49 = .ok (.goto (-42), 3) := by decide +kernel
theorem dM_find_52 : decode bM_find 52 = .ok (.iconst 0, 1) := by decide +kernel
theorem dM_find_53 : decode bM_find 53 = .ok (.ireturn, 1) := by decide +kernel
theorem dM_get_0 : decode bM_get 0 = .ok (.aload_n 0, 1) := by decide +kernel
theorem dM_get_1 : decode bM_get 1 = .ok (.aload_n 0, 1) := by decide +kernel
theorem dM_get_2 : decode bM_get 2 = .ok (.iload_n 1, 1) := by decide +kernel
theorem dM_get_3 : decode bM_get 3 = .ok (.iload_n 2, 1) := by decide +kernel
theorem dM_get_4 : decode bM_get 4 = .ok (.invokevirtual 59, 3) := by decide +kernel
theorem dM_get_7 : decode bM_get 7 = .ok (.invokevirtual 42, 3) := by decide +kernel
theorem dM_get_10 : decode bM_get 10 = .ok (.ifCond .eq 16, 3) := by decide +kernel
theorem dM_get_13 : decode bM_get 13 = .ok (.aload_n 0, 1) := by decide +kernel
theorem dM_get_14 : decode bM_get 14 = .ok (.getfield 33, 3) := by decide +kernel
theorem dM_get_17 : decode bM_get 17 = .ok (.iload_n 1, 1) := by decide +kernel
theorem dM_get_18 : decode bM_get 18 = .ok (.iconst 3, 1) := by decide +kernel
theorem dM_get_19 : decode bM_get 19 = .ok (.iadd, 1) := by decide +kernel
theorem dM_get_20 : decode bM_get 20 = .ok (.iload_n 2, 1) := by decide +kernel
theorem dM_get_21 : decode bM_get 21 = .ok (.iadd, 1) := by decide +kernel
theorem dM_get_22 : decode bM_get 22 = .ok (.iaload, 1) := by decide +kernel
theorem dM_get_23 : decode bM_get 23 = .ok (.goto 4, 3) := by decide +kernel
theorem dM_get_26 : decode bM_get 26 = .ok (.iconst 0, 1) := by decide +kernel
theorem dM_get_27 : decode bM_get 27 = .ok (.ireturn, 1) := by decide +kernel
theorem dM_goes_0 : decode bM_goes 0 = .ok (.aload_n 0, 1) := by decide +kernel
theorem dM_goes_1 : decode bM_goes 1 = .ok (.iload_n 1, 1) := by decide +kernel
theorem dM_goes_2 : decode bM_goes 2 = .ok (.ifCond .eq 7, 3) := by decide +kernel
theorem dM_goes_5 : decode bM_goes 5 = .ok (.iconst 0, 1) := by decide +kernel
theorem dM_goes_6 : decode bM_goes 6 = .ok (.goto 4, 3) := by decide +kernel
theorem dM_goes_9 : decode bM_goes 9 = .ok (.iconst 1, 1) := by decide +kernel
theorem dM_goes_10 : decode bM_goes 10 = .ok (.putfield 39, 3) := by decide +kernel
theorem dM_goes_13 : decode bM_goes 13 = .ok (.iload_n 1, 1) := by decide +kernel
theorem dM_goes_14 : decode bM_goes 14 = .ok (.ireturn, 1) := by decide +kernel
theorem dM_init_0 : decode bM_init 0 = .ok (.aload_n 0, 1) := by decide +kernel
theorem dM_init_1 : decode bM_init 1 = .ok (.invokespecial 1, 3) := by decide +kernel
theorem dM_init_4 : decode bM_init 4 = .ok (.aload_n 0, 1) := by decide +kernel
theorem dM_init_5 : decode bM_init 5 = .ok (.sipush 2048, 3) := by decide +kernel
theorem dM_init_8 : decode bM_init 8 = .ok (.putfield 7, 3) := by decide +kernel
theorem dM_init_11 : decode bM_init 11 = .ok (.aload_n 0, 1) := by decide +kernel
theorem dM_init_12 : decode bM_init 12 = .ok (.iconst 1, 1) := by decide +kernel
theorem dM_init_13 : decode bM_init 13 = .ok (.putfield 13, 3) := by decide +kernel
theorem dM_init_16 : decode bM_init 16 = .ok (.aload_n 0, 1) := by decide +kernel
theorem dM_init_17 : decode bM_init 17 = .ok (.sipush 16386, 3) := by decide +kernel
theorem dM_init_20 : decode bM_init 20 = .ok (.newarray .int, 2) := by decide +kernel
theorem dM_init_22 : decode bM_init 22 = .ok (.putfield 16, 3) := by decide +kernel
theorem dM_init_25 : decode bM_init 25 = .ok (.aload_n 0, 1) := by decide +kernel
theorem dM_init_26 : decode bM_init 26 = .ok (.sipush 16386, 3) := by decide +kernel
theorem dM_init_29 : decode bM_init 29 = .ok (.newarray .int, 2) := by decide +kernel
theorem dM_init_31 : decode bM_init 31 = .ok (.putfield 20, 3) := by decide +kernel
theorem dM_init_34 : decode bM_init 34 = .ok (.aload_n 0, 1) := by decide +kernel
theorem dM_init_35 : decode bM_init 35 = .ok (.sipush 16386, 3) := by decide +kernel
theorem dM_init_38 : decode bM_init 38 = .ok (.newarray .int, 2) := by decide +kernel
theorem dM_init_40 : decode bM_init 40 = .ok (.putfield 23, 3) := by decide +kernel
theorem dM_init_43 : decode bM_init 43 = .ok (.aload_n 0, 1) := by decide +kernel
theorem dM_init_44 : decode bM_init 44 = .ok (.sipush 16386, 3) := by decide +kernel
theorem dM_init_47 : decode bM_init 47 = .ok (.newarray .int, 2) := by decide +kernel
theorem dM_init_49 : decode bM_init 49 = .ok (.putfield 26, 3) := by decide +kernel
theorem dM_init_52 : decode bM_init 52 = .ok (.aload_n 0, 1) := by decide +kernel
theorem dM_init_53 : decode bM_init 53 = .ok (.sipush 16386, 3) := by decide +kernel
theorem dM_init_56 : decode bM_init 56 = .ok (.newarray .boolean, 2) := by decide +kernel
theorem dM_init_58 : decode bM_init 58 = .ok (.putfield 29, 3) := by decide +kernel
theorem dM_init_61 : decode bM_init 61 = .ok (.aload_n 0, 1) := by decide +kernel
theorem dM_init_62 : decode bM_init 62 = .ok (.sipush 16386, 3) := by decide +kernel
theorem dM_init_65 : decode bM_init 65 = .ok (.newarray .int, 2) := by decide +kernel
theorem dM_init_67 : decode bM_init 67 = .ok (.putfield 33, 3) := by decide +kernel
theorem dM_init_70 : decode bM_init 70 = .ok (.aload_n 0, 1) := by decide +kernel
theorem dM_init_71 : decode bM_init 71 = .ok (.bipush 16, 2) := by decide +kernel
theorem dM_init_73 : decode bM_init 73 = .ok (.newarray .int, 2) := by decide +kernel
theorem dM_init_75 : decode bM_init 75 = .ok (.putfield 36, 3) := by decide +kernel
theorem dM_init_78 : decode bM_init 78 = .ok (.return_, 1) := by decide +kernel
theorem dM_isField_0 : decode bM_isField 0 = .ok (.aload_n 0, 1) := by decide +kernel
theorem dM_isField_1 : decode bM_isField 1 = .ok (.iload_n 1, 1) := by decide +kernel
theorem dM_isField_2 : decode bM_isField 2 = .ok (.invokevirtual 55, 3) := by decide +kernel
theorem dM_isField_5 : decode bM_isField 5 = .ok (.ifCond .eq 23, 3) := by decide +kernel
theorem dM_isField_8 : decode bM_isField 8 = .ok (.iload_n 2, 1) := by decide +kernel
theorem dM_isField_9 : decode bM_isField 9 = .ok (.ifCond .lt 19, 3) := by decide +kernel
theorem dM_isField_12 : decode bM_isField 12 = .ok (.iload_n 2, 1) := by decide +kernel
theorem dM_isField_13 : decode bM_isField 13 = .ok (.aload_n 0, 1) := by decide +kernel
theorem dM_isField_14 : decode bM_isField 14 = .ok (.getfield 16, 3) := by decide +kernel
theorem dM_isField_17 : decode bM_isField 17 = .ok (.iload_n 1, 1) := by decide +kernel
theorem dM_isField_18 : decode bM_isField 18 = .ok (.iaload, 1) := by decide +kernel
theorem dM_isField_19 : decode bM_isField 19 = .ok (.iconst 1, 1) := by decide +kernel
theorem dM_isField_20 : decode bM_isField 20 = .ok (.isub, 1) := by decide +kernel
theorem dM_isField_21 : decode bM_isField 21 = .ok (.if_icmp .ge 7, 3) := by decide +kernel
theorem dM_isField_24 : decode bM_isField 24 = .ok (.iconst 1, 1) := by decide +kernel
theorem dM_isField_25 : decode bM_isField 25 = .ok (.goto 4, 3) := by decide +kernel
theorem dM_isField_28 : decode bM_isField 28 = .ok (.iconst 0, 1) := by decide +kernel
theorem dM_isField_29 : decode bM_isField 29 = .ok (.ireturn, 1) := by decide +kernel
theorem dM_isObject_0 : decode bM_isObject 0 = .ok (.iload_n 1, 1) := by decide +kernel
theorem dM_isObject_1 : decode bM_isObject 1 = .ok (.iconst 1, 1) := by decide +kernel
theorem dM_isObject_2 : decode bM_isObject 2 = .ok (.if_icmp .lt 24, 3) := by decide +kernel
theorem dM_isObject_5 : decode bM_isObject 5 = .ok (.iload_n 1, 1) := by decide +kernel
theorem dM_isObject_6 : decode bM_isObject 6 = .ok (.aload_n 0, 1) := by decide +kernel
theorem dM_isObject_7 : decode bM_isObject 7 = .ok (.getfield 13, 3) := by decide +kernel
theorem dM_isObject_10 : decode bM_isObject 10 = .ok (.if_icmp .ge 16, 3) := by decide +kernel
theorem dM_isObject_13 : decode bM_isObject 13 = .ok (.aload_n 0, 1) := by decide +kernel
theorem dM_isObject_14 : decode bM_isObject 14 = .ok (.getfield 16, 3) := by decide +kernel
theorem dM_isObject_17 : decode bM_isObject 17 = .ok (.iload_n 1, 1) := by decide +kernel
theorem dM_isObject_18 : decode bM_isObject 18 = .ok (.iaload, 1) := by decide +kernel
theorem dM_isObject_19 : decode bM_isObject 19 = .ok (.ifCond .le 7, 3) := by decide +kernel
theorem dM_isObject_22 : decode bM_isObject 22 = .ok (.iconst 1, 1) := by decide +kernel
theorem dM_isObject_23 : decode bM_isObject 23 = .ok (.goto 4, 3) := by decide +kernel
theorem dM_isObject_26 : decode bM_isObject 26 = .ok (.iconst 0, 1) := by decide +kernel
theorem dM_isObject_27 : decode bM_isObject 27 = .ok (.ireturn, 1) := by decide +kernel
theorem dM_isRoot_0 : decode bM_isRoot 0 = .ok (.iload_n 0, 1) := by decide +kernel
theorem dM_isRoot_1 : decode bM_isRoot 1 = .ok (.ifCond .lt 13, 3) := by decide +kernel
theorem dM_isRoot_4 : decode bM_isRoot 4 = .ok (.iload_n 0, 1) := by decide +kernel
theorem dM_isRoot_5 : decode bM_isRoot 5 = .ok (.bipush 15, 2) := by decide +kernel
theorem dM_isRoot_7 : decode bM_isRoot 7 = .ok (.if_icmp .gt 7, 3) := by decide +kernel
theorem dM_isRoot_10 : decode bM_isRoot 10 = .ok (.iconst 1, 1) := by decide +kernel
theorem dM_isRoot_11 : decode bM_isRoot 11 = .ok (.goto 4, 3) := by decide +kernel
theorem dM_isRoot_14 : decode bM_isRoot 14 = .ok (.iconst 0, 1) := by decide +kernel
theorem dM_isRoot_15 : decode bM_isRoot 15 = .ok (.ireturn, 1) := by decide +kernel
theorem dM_isWord_0 : decode bM_isWord 0 = .ok (.aload_n 0, 1) := by decide +kernel
theorem dM_isWord_1 : decode bM_isWord 1 = .ok (.iload_n 1, 1) := by decide +kernel
theorem dM_isWord_2 : decode bM_isWord 2 = .ok (.invokevirtual 55, 3) := by decide +kernel
theorem dM_isWord_5 : decode bM_isWord 5 = .ok (.ifCond .eq 21, 3) := by decide +kernel
theorem dM_isWord_8 : decode bM_isWord 8 = .ok (.iload_n 2, 1) := by decide +kernel
theorem dM_isWord_9 : decode bM_isWord 9 = .ok (.ifCond .lt 17, 3) := by decide +kernel
theorem dM_isWord_12 : decode bM_isWord 12 = .ok (.iload_n 2, 1) := by decide +kernel
theorem dM_isWord_13 : decode bM_isWord 13 = .ok (.aload_n 0, 1) := by decide +kernel
theorem dM_isWord_14 : decode bM_isWord 14 = .ok (.getfield 20, 3) := by decide +kernel
theorem dM_isWord_17 : decode bM_isWord 17 = .ok (.iload_n 1, 1) := by decide +kernel
theorem dM_isWord_18 : decode bM_isWord 18 = .ok (.iaload, 1) := by decide +kernel
theorem dM_isWord_19 : decode bM_isWord 19 = .ok (.if_icmp .ge 7, 3) := by decide +kernel
theorem dM_isWord_22 : decode bM_isWord 22 = .ok (.iconst 1, 1) := by decide +kernel
theorem dM_isWord_23 : decode bM_isWord 23 = .ok (.goto 4, 3) := by decide +kernel
theorem dM_isWord_26 : decode bM_isWord 26 = .ok (.iconst 0, 1) := by decide +kernel
theorem dM_isWord_27 : decode bM_isWord 27 = .ok (.ireturn, 1) := by decide +kernel
theorem dM_make_0 : decode bM_make 0 = .ok (.aload_n 0, 1) := by decide +kernel
theorem dM_make_1 : decode bM_make 1 = .ok (.iload_n 1, 1) := by decide +kernel
theorem dM_make_2 : decode bM_make 2 = .ok (.ifCond .lt 25, 3) := by decide +kernel
theorem dM_make_5 : decode bM_make 5 = .ok (.iload_n 1, 1) := by decide +kernel
theorem dM_make_6 : decode bM_make 6 = .ok (.sipush 2000, 3) := by decide +kernel
theorem dM_make_9 : decode bM_make 9 = .ok (.if_icmp .gt 18, 3) := by decide +kernel
theorem dM_make_12 : decode bM_make 12 = .ok (.iload_n 2, 1) := by decide +kernel
theorem dM_make_13 : decode bM_make 13 = .ok (.ifCond .lt 14, 3) := by decide +kernel
theorem dM_make_16 : decode bM_make 16 = .ok (.iload_n 2, 1) := by decide +kernel
theorem dM_make_17 : decode bM_make 17 = .ok (.sipush 2000, 3) := by decide +kernel
theorem dM_make_20 : decode bM_make 20 = .ok (.if_icmp .gt 7, 3) := by decide +kernel
theorem dM_make_23 : decode bM_make 23 = .ok (.iconst 1, 1) := by decide +kernel
theorem dM_make_24 : decode bM_make 24 = .ok (.goto 4, 3) := by decide +kernel
theorem dM_make_27 : decode bM_make 27 = .ok (.iconst 0, 1) := by decide +kernel
theorem dM_make_28 : decode bM_make 28 = .ok (.invokevirtual 42, 3) := by decide +kernel
theorem dM_make_31 : decode bM_make 31 = .ok (.ifCond .ne 5, 3) := by decide +kernel
theorem dM_make_34 : decode bM_make 34 = .ok (.iconst 0, 1) := by decide +kernel
theorem dM_make_35 : decode bM_make 35 = .ok (.ireturn, 1) := by decide +kernel
theorem dM_make_36 : decode bM_make 36 = .ok (.iconst 3, 1) := by decide +kernel
theorem dM_make_37 : decode bM_make 37 = .ok (.iload_n 1, 1) := by decide +kernel
theorem dM_make_38 : decode bM_make 38 = .ok (.iadd, 1) := by decide +kernel
theorem dM_make_39 : decode bM_make 39 = .ok (.iload_n 2, 1) := by decide +kernel
theorem dM_make_40 : decode bM_make 40 = .ok (.iadd, 1) := by decide +kernel
theorem dM_make_41 : decode bM_make 41 = .ok (.istore_n 3, 1) := by decide +kernel
theorem dM_make_42 : decode bM_make 42 = .ok (.aload_n 0, 1) := by decide +kernel
theorem dM_make_43 : decode bM_make 43 = .ok (.getfield 13, 3) := by decide +kernel
theorem dM_make_46 : decode bM_make 46 = .ok (.iload_n 3, 1) := by decide +kernel
theorem dM_make_47 : decode bM_make 47 = .ok (.iadd, 1) := by decide +kernel
theorem dM_make_48 : decode bM_make 48 = .ok (.iconst 1, 1) := by decide +kernel
theorem dM_make_49 : decode bM_make 49 = .ok (.isub, 1) := by decide +kernel
theorem dM_make_50 : decode bM_make 50 = .ok (.aload_n 0, 1) := by decide +kernel
theorem dM_make_51 : decode bM_make 51 = .ok (.getfield 7, 3) := by decide +kernel
theorem dM_make_54 : decode bM_make 54 = .ok (.if_icmp .le 5, 3) := by decide +kernel
theorem dM_make_57 : decode bM_make 57 = .ok (.iconst 0, 1) := by decide +kernel
theorem dM_make_58 : decode bM_make 58 = .ok (.ireturn, 1) := by decide +kernel
theorem dM_make_59 : decode bM_make 59 = .ok (.aload_n 0, 1) := by decide +kernel
theorem dM_make_60 : decode bM_make 60 = .ok (.getfield 13, 3) := by decide +kernel
theorem dM_make_63 : decode bM_make 63 = .ok (.istore 4, 2) := by decide +kernel
theorem dM_make_65 : decode bM_make 65 = .ok (.aload_n 0, 1) := by decide +kernel
theorem dM_make_66 : decode bM_make 66 = .ok (.aload_n 0, 1) := by decide +kernel
theorem dM_make_67 : decode bM_make 67 = .ok (.getfield 13, 3) := by decide +kernel
theorem dM_make_70 : decode bM_make 70 = .ok (.iload_n 3, 1) := by decide +kernel
theorem dM_make_71 : decode bM_make 71 = .ok (.iadd, 1) := by decide +kernel
theorem dM_make_72 : decode bM_make 72 = .ok (.putfield 13, 3) := by decide +kernel
theorem dM_make_75 : decode bM_make 75 = .ok (.aload_n 0, 1) := by decide +kernel
theorem dM_make_76 : decode bM_make 76 = .ok (.getfield 16, 3) := by decide +kernel
theorem dM_make_79 : decode bM_make 79 = .ok (.iload 4, 2) := by decide +kernel
theorem dM_make_81 : decode bM_make 81 = .ok (.iload_n 1, 1) := by decide +kernel
theorem dM_make_82 : decode bM_make 82 = .ok (.iconst 1, 1) := by decide +kernel
theorem dM_make_83 : decode bM_make 83 = .ok (.iadd, 1) := by decide +kernel
theorem dM_make_84 : decode bM_make 84 = .ok (.iastore, 1) := by decide +kernel
theorem dM_make_85 : decode bM_make 85 = .ok (.aload_n 0, 1) := by decide +kernel
theorem dM_make_86 : decode bM_make 86 = .ok (.getfield 20, 3) := by decide +kernel
theorem dM_make_89 : decode bM_make 89 = .ok (.iload 4, 2) := by decide +kernel
theorem dM_make_91 : decode bM_make 91 = .ok (.iload_n 2, 1) := by decide +kernel
theorem dM_make_92 : decode bM_make 92 = .ok (.iastore, 1) := by decide +kernel
theorem dM_make_93 : decode bM_make 93 = .ok (.aload_n 0, 1) := by decide +kernel
theorem dM_make_94 : decode bM_make 94 = .ok (.getfield 23, 3) := by decide +kernel
theorem dM_make_97 : decode bM_make 97 = .ok (.iload 4, 2) := by decide +kernel
theorem dM_make_99 : decode bM_make 99 = .ok (.iconst 0, 1) := by decide +kernel
theorem dM_make_100 : decode bM_make 100 = .ok (.iastore, 1) := by decide +kernel
theorem dM_make_101 : decode bM_make 101 = .ok (.iconst 0, 1) := by decide +kernel
theorem dM_make_102 : decode bM_make 102 = .ok (.istore 5, 2) := by decide +kernel
theorem dM_make_104 : decode bM_make 104 = .ok (.iload 5, 2) := by decide +kernel
theorem dM_make_106 : decode bM_make 106 = .ok (.iload_n 3, 1) := by decide +kernel
theorem dM_make_107 : decode bM_make 107 = .ok (.if_icmp .ge 20, 3) := by decide +kernel
theorem dM_make_110 : decode bM_make 110 = .ok (.aload_n 0, 1) := by decide +kernel
theorem dM_make_111 : decode bM_make 111 = .ok (.getfield 33, 3) := by decide +kernel
theorem dM_make_114 : decode bM_make 114 = .ok (.iload 4, 2) := by decide +kernel
theorem dM_make_116 : decode bM_make 116 = .ok (.iload 5, 2) := by decide +kernel
theorem dM_make_118 : decode bM_make 118 = .ok (.iadd, 1) := by decide +kernel
theorem dM_make_119 : decode bM_make 119 = .ok (.iconst 0, 1) := by decide +kernel
theorem dM_make_120 : decode bM_make 120 = .ok (.iastore, 1) := by decide +kernel
theorem dM_make_121 : decode bM_make 121 = .ok (.iinc 5 1, 3) := by decide +kernel
theorem dM_make_124 : decode bM_make 124 = .ok (.goto (-20), 3) := by decide +kernel
theorem dM_make_127 : decode bM_make 127 = .ok (.iload 4, 2) := by decide +kernel
theorem dM_make_129 : decode bM_make 129 = .ok (.ireturn, 1) := by decide +kernel
theorem dM_next_0 : decode bM_next 0 = .ok (.aload_n 0, 1) := by decide +kernel
theorem dM_next_1 : decode bM_next 1 = .ok (.iload_n 1, 1) := by decide +kernel
theorem dM_next_2 : decode bM_next 2 = .ok (.ifCond .eq 11, 3) := by decide +kernel
theorem dM_next_5 : decode bM_next 5 = .ok (.aload_n 0, 1) := by decide +kernel
theorem dM_next_6 : decode bM_next 6 = .ok (.iload_n 1, 1) := by decide +kernel
theorem dM_next_7 : decode bM_next 7 = .ok (.invokevirtual 55, 3) := by decide +kernel
theorem dM_next_10 : decode bM_next 10 = .ok (.ifCond .eq 7, 3) := by decide +kernel
theorem dM_next_13 : decode bM_next 13 = .ok (.iconst 1, 1) := by decide +kernel
theorem dM_next_14 : decode bM_next 14 = .ok (.goto 4, 3) := by decide +kernel
theorem dM_next_17 : decode bM_next 17 = .ok (.iconst 0, 1) := by decide +kernel
theorem dM_next_18 : decode bM_next 18 = .ok (.invokevirtual 42, 3) := by decide +kernel
theorem dM_next_21 : decode bM_next 21 = .ok (.ifCond .ne 5, 3) := by decide +kernel
theorem dM_next_24 : decode bM_next 24 = .ok (.iconst 0, 1) := by decide +kernel
theorem dM_next_25 : decode bM_next 25 = .ok (.ireturn, 1) := by decide +kernel
theorem dM_next_26 : decode bM_next 26 = .ok (.iload_n 1, 1) := by decide +kernel
theorem dM_next_27 : decode bM_next 27 = .ok (.ifCond .ne 7, 3) := by decide +kernel
theorem dM_next_30 : decode bM_next 30 = .ok (.iconst 1, 1) := by decide +kernel
theorem dM_next_31 : decode bM_next 31 = .ok (.goto 10, 3) := by decide +kernel
theorem dM_next_34 : decode bM_next 34 = .ok (.iload_n 1, 1) := by decide +kernel
theorem dM_next_35 : decode bM_next 35 = .ok (.aload_n 0, 1) := by decide +kernel
theorem dM_next_36 : decode bM_next 36 = .ok (.iload_n 1, 1) := by decide +kernel
theorem dM_next_37 : decode bM_next 37 = .ok (.invokevirtual 69, 3) := by decide +kernel
theorem dM_next_40 : decode bM_next 40 = .ok (.iadd, 1) := by decide +kernel
theorem dM_next_41 : decode bM_next 41 = .ok (.istore_n 2, 1) := by decide +kernel
theorem dM_next_42 : decode bM_next 42 = .ok (.iload_n 2, 1) := by decide +kernel
theorem dM_next_43 : decode bM_next 43 = .ok (.aload_n 0, 1) := by decide +kernel
theorem dM_next_44 : decode bM_next 44 = .ok (.getfield 13, 3) := by decide +kernel
theorem dM_next_47 : decode bM_next 47 = .ok (.if_icmp .ge 7, 3) := by decide +kernel
theorem dM_next_50 : decode bM_next 50 = .ok (.iload_n 2, 1) := by decide +kernel
theorem dM_next_51 : decode bM_next 51 = .ok (.goto 4, 3) := by decide +kernel
theorem dM_next_54 : decode bM_next 54 = .ok (.iconst 0, 1) := by decide +kernel
theorem dM_next_55 : decode bM_next 55 = .ok (.ireturn, 1) := by decide +kernel
theorem dM_number_0 : decode bM_number 0 = .ok (.aload_n 0, 1) := by decide +kernel
theorem dM_number_1 : decode bM_number 1 = .ok (.aload_n 0, 1) := by decide +kernel
theorem dM_number_2 : decode bM_number 2 = .ok (.iload_n 1, 1) := by decide +kernel
theorem dM_number_3 : decode bM_number 3 = .ok (.invokevirtual 55, 3) := by decide +kernel
theorem dM_number_6 : decode bM_number 6 = .ok (.invokevirtual 42, 3) := by decide +kernel
theorem dM_number_9 : decode bM_number 9 = .ok (.ifCond .ne 5, 3) := by decide +kernel
theorem dM_number_12 : decode bM_number 12 = .ok (.iconst 0, 1) := by decide +kernel
theorem dM_number_13 : decode bM_number 13 = .ok (.ireturn, 1) := by decide +kernel
theorem dM_number_14 : decode bM_number 14 = .ok (.aload_n 0, 1) := by decide +kernel
theorem dM_number_15 : decode bM_number 15 = .ok (.getfield 23, 3) := by decide +kernel
theorem dM_number_18 : decode bM_number 18 = .ok (.iload_n 1, 1) := by decide +kernel
theorem dM_number_19 : decode bM_number 19 = .ok (.iaload, 1) := by decide +kernel
theorem dM_number_20 : decode bM_number 20 = .ok (.ifCond .ne 23, 3) := by decide +kernel
theorem dM_number_23 : decode bM_number 23 = .ok (.aload_n 0, 1) := by decide +kernel
theorem dM_number_24 : decode bM_number 24 = .ok (.dup, 1) := by decide +kernel
theorem dM_number_25 : decode bM_number 25 = .ok (.getfield 52, 3) := by decide +kernel
theorem dM_number_28 : decode bM_number 28 = .ok (.iconst 1, 1) := by decide +kernel
theorem dM_number_29 : decode bM_number 29 = .ok (.iadd, 1) := by decide +kernel
theorem dM_number_30 : decode bM_number 30 = .ok (.putfield 52, 3) := by decide +kernel
theorem dM_number_33 : decode bM_number 33 = .ok (.aload_n 0, 1) := by decide +kernel
theorem dM_number_34 : decode bM_number 34 = .ok (.getfield 23, 3) := by decide +kernel
theorem dM_number_37 : decode bM_number 37 = .ok (.iload_n 1, 1) := by decide +kernel
theorem dM_number_38 : decode bM_number 38 = .ok (.aload_n 0, 1) := by decide +kernel
theorem dM_number_39 : decode bM_number 39 = .ok (.getfield 52, 3) := by decide +kernel
theorem dM_number_42 : decode bM_number 42 = .ok (.iastore, 1) := by decide +kernel
theorem dM_number_43 : decode bM_number 43 = .ok (.aload_n 0, 1) := by decide +kernel
theorem dM_number_44 : decode bM_number 44 = .ok (.getfield 23, 3) := by decide +kernel
theorem dM_number_47 : decode bM_number 47 = .ok (.iload_n 1, 1) := by decide +kernel
theorem dM_number_48 : decode bM_number 48 = .ok (.iaload, 1) := by decide +kernel
theorem dM_number_49 : decode bM_number 49 = .ok (.iconst 1, 1) := by decide +kernel
theorem dM_number_50 : decode bM_number 50 = .ok (.isub, 1) := by decide +kernel
theorem dM_number_51 : decode bM_number 51 = .ok (.ireturn, 1) := by decide +kernel
theorem dM_objects_0 : decode bM_objects 0 = .ok (.iconst 0, 1) := by decide +kernel
theorem dM_objects_1 : decode bM_objects 1 = .ok (.istore_n 1, 1) := by decide +kernel
theorem dM_objects_2 : decode bM_objects 2 = .ok (.iconst 1, 1) := by decide +kernel
theorem dM_objects_3 : decode bM_objects 3 = .ok (.istore_n 2, 1) := by decide +kernel
theorem dM_objects_4 : decode bM_objects 4 = .ok (.iload_n 2, 1) := by decide +kernel
theorem dM_objects_5 : decode bM_objects 5 = .ok (.aload_n 0, 1) := by decide +kernel
theorem dM_objects_6 : decode bM_objects 6 = .ok (.getfield 13, 3) := by decide +kernel
theorem dM_objects_9 : decode bM_objects 9 = .ok (.if_icmp .ge 17, 3) := by decide +kernel
theorem dM_objects_12 : decode bM_objects 12 = .ok (.iinc 1 1, 3) := by decide +kernel
theorem dM_objects_15 : decode bM_objects 15 = .ok (.iload_n 2, 1) := by decide +kernel
theorem dM_objects_16 : decode bM_objects 16 = .ok (.aload_n 0, 1) := by decide +kernel
theorem dM_objects_17 : decode bM_objects 17 = .ok (.iload_n 2, 1) := by decide +kernel
theorem dM_objects_18 : decode bM_objects 18 = .ok (.invokevirtual 69, 3) := by decide +kernel
theorem dM_objects_21 : decode bM_objects 21 = .ok (.iadd, 1) := by decide +kernel
theorem dM_objects_22 : decode bM_objects 22 = .ok (.istore_n 2, 1) := by decide +kernel
theorem dM_objects_23 : decode bM_objects 23 = .ok (.goto (-19), 3) := by decide +kernel
theorem dM_objects_26 : decode bM_objects 26 = .ok (.iload_n 1, 1) := by decide +kernel
theorem dM_objects_27 : decode bM_objects 27 = .ok (.ireturn, 1) := by decide +kernel
theorem dM_put_0 : decode bM_put 0 = .ok (.aload_n 0, 1) := by decide +kernel
theorem dM_put_1 : decode bM_put 1 = .ok (.aload_n 0, 1) := by decide +kernel
theorem dM_put_2 : decode bM_put 2 = .ok (.iload_n 1, 1) := by decide +kernel
theorem dM_put_3 : decode bM_put 3 = .ok (.iload_n 2, 1) := by decide +kernel
theorem dM_put_4 : decode bM_put 4 = .ok (.invokevirtual 63, 3) := by decide +kernel
theorem dM_put_7 : decode bM_put 7 = .ok (.invokevirtual 42, 3) := by decide +kernel
theorem dM_put_10 : decode bM_put 10 = .ok (.ifCond .ne 5, 3) := by decide +kernel
theorem dM_put_13 : decode bM_put 13 = .ok (.iconst 0, 1) := by decide +kernel
theorem dM_put_14 : decode bM_put 14 = .ok (.ireturn, 1) := by decide +kernel
theorem dM_put_15 : decode bM_put 15 = .ok (.iload_n 1, 1) := by decide +kernel
theorem dM_put_16 : decode bM_put 16 = .ok (.iconst 2, 1) := by decide +kernel
theorem dM_put_17 : decode bM_put 17 = .ok (.iadd, 1) := by decide +kernel
theorem dM_put_18 : decode bM_put 18 = .ok (.aload_n 0, 1) := by decide +kernel
theorem dM_put_19 : decode bM_put 19 = .ok (.getfield 16, 3) := by decide +kernel
theorem dM_put_22 : decode bM_put 22 = .ok (.iload_n 1, 1) := by decide +kernel
theorem dM_put_23 : decode bM_put 23 = .ok (.iaload, 1) := by decide +kernel
theorem dM_put_24 : decode bM_put 24 = .ok (.iadd, 1) := by decide +kernel
theorem dM_put_25 : decode bM_put 25 = .ok (.iload_n 2, 1) := by decide +kernel
theorem dM_put_26 : decode bM_put 26 = .ok (.iadd, 1) := by decide +kernel
theorem dM_put_27 : decode bM_put 27 = .ok (.istore 4, 2) := by decide +kernel
theorem dM_put_29 : decode bM_put 29 = .ok (.aload_n 0, 1) := by decide +kernel
theorem dM_put_30 : decode bM_put 30 = .ok (.getfield 33, 3) := by decide +kernel
theorem dM_put_33 : decode bM_put 33 = .ok (.iload 4, 2) := by decide +kernel
theorem dM_put_35 : decode bM_put 35 = .ok (.iaload, 1) := by decide +kernel
theorem dM_put_36 : decode bM_put 36 = .ok (.istore 5, 2) := by decide +kernel
theorem dM_put_38 : decode bM_put 38 = .ok (.aload_n 0, 1) := by decide +kernel
theorem dM_put_39 : decode bM_put 39 = .ok (.getfield 33, 3) := by decide +kernel
theorem dM_put_42 : decode bM_put 42 = .ok (.iload 4, 2) := by decide +kernel
theorem dM_put_44 : decode bM_put 44 = .ok (.iload_n 3, 1) := by decide +kernel
theorem dM_put_45 : decode bM_put 45 = .ok (.iastore, 1) := by decide +kernel
theorem dM_put_46 : decode bM_put 46 = .ok (.iload 5, 2) := by decide +kernel
theorem dM_put_48 : decode bM_put 48 = .ok (.ireturn, 1) := by decide +kernel
theorem dM_reach_0 : decode bM_reach 0 = .ok (.iconst 0, 1) := by decide +kernel
theorem dM_reach_1 : decode bM_reach 1 = .ok (.istore_n 1, 1) := by decide +kernel
theorem dM_reach_2 : decode bM_reach 2 = .ok (.iload_n 1, 1) := by decide +kernel
theorem dM_reach_3 : decode bM_reach 3 = .ok (.aload_n 0, 1) := by decide +kernel
theorem dM_reach_4 : decode bM_reach 4 = .ok (.getfield 13, 3) := by decide +kernel
theorem dM_reach_7 : decode bM_reach 7 = .ok (.if_icmp .gt 16, 3) := by decide +kernel
theorem dM_reach_10 : decode bM_reach 10 = .ok (.aload_n 0, 1) := by decide +kernel
theorem dM_reach_11 : decode bM_reach 11 = .ok (.getfield 29, 3) := by decide +kernel
theorem dM_reach_14 : decode bM_reach 14 = .ok (.iload_n 1, 1) := by decide +kernel
theorem dM_reach_15 : decode bM_reach 15 = .ok (.iconst 0, 1) := by decide +kernel
theorem dM_reach_16 : decode bM_reach 16 = .ok (.bastore, 1) := by decide +kernel
theorem dM_reach_17 : decode bM_reach 17 = .ok (.iinc 1 1, 3) := by decide +kernel
theorem dM_reach_20 : decode bM_reach 20 = .ok (.goto (-18), 3) := by decide +kernel
theorem dM_reach_23 : decode bM_reach 23 = .ok (.iconst 0, 1) := by decide +kernel
theorem dM_reach_24 : decode bM_reach 24 = .ok (.istore_n 1, 1) := by decide +kernel
theorem dM_reach_25 : decode bM_reach 25 = .ok (.iload_n 1, 1) := by decide +kernel
theorem dM_reach_26 : decode bM_reach 26 = .ok (.bipush 16, 2) := by decide +kernel
theorem dM_reach_28 : decode bM_reach 28 = .ok (.if_icmp .ge 21, 3) := by decide +kernel
theorem dM_reach_31 : decode bM_reach 31 = .ok (.aload_n 0, 1) := by decide +kernel
theorem dM_reach_32 : decode bM_reach 32 = .ok (.getfield 29, 3) := by decide +kernel
theorem dM_reach_35 : decode bM_reach 35 = .ok (.aload_n 0, 1) := by decide +kernel
theorem dM_reach_36 : decode bM_reach 36 = .ok (.getfield 36, 3) := by decide +kernel
theorem dM_reach_39 : decode bM_reach 39 = .ok (.iload_n 1, 1) := by decide +kernel
theorem dM_reach_40 : decode bM_reach 40 = .ok (.iaload, 1) := by decide +kernel
theorem dM_reach_41 : decode bM_reach 41 = .ok (.iconst 1, 1) := by decide +kernel
theorem dM_reach_42 : decode bM_reach 42 = .ok (.bastore, 1) := by decide +kernel
theorem dM_reach_43 : decode bM_reach 43 = .ok (.iinc 1 1, 3) := by decide +kernel
theorem dM_reach_46 : decode bM_reach 46 = .ok (.goto (-21), 3) := by decide +kernel
theorem dM_reach_49 : decode bM_reach 49 = .ok (.aload_n 0, 1) := by decide +kernel
theorem dM_reach_50 : decode bM_reach 50 = .ok (.getfield 29, 3) := by decide +kernel
theorem dM_reach_53 : decode bM_reach 53 = .ok (.iconst 0, 1) := by decide +kernel
theorem dM_reach_54 : decode bM_reach 54 = .ok (.iconst 0, 1) := by decide +kernel
theorem dM_reach_55 : decode bM_reach 55 = .ok (.bastore, 1) := by decide +kernel
theorem dM_reach_56 : decode bM_reach 56 = .ok (.iconst 1, 1) := by decide +kernel
theorem dM_reach_57 : decode bM_reach 57 = .ok (.istore_n 1, 1) := by decide +kernel
theorem dM_reach_58 : decode bM_reach 58 = .ok (.iconst 0, 1) := by decide +kernel
theorem dM_reach_59 : decode bM_reach 59 = .ok (.istore_n 2, 1) := by decide +kernel
theorem dM_reach_60 : decode bM_reach 60 = .ok (.iload_n 2, 1) := by decide +kernel
theorem dM_reach_61 : decode bM_reach 61 = .ok (.sipush 6000, 3) := by decide +kernel
theorem dM_reach_64 : decode bM_reach 64 = .ok (.if_icmp .ge 105, 3) := by decide +kernel
theorem dM_reach_67 : decode bM_reach 67 = .ok (.iload_n 1, 1) := by decide +kernel
theorem dM_reach_68 : decode bM_reach 68 = .ok (.ifCond .eq 101, 3) := by decide +kernel
theorem dM_reach_71 : decode bM_reach 71 = .ok (.iconst 0, 1) := by decide +kernel
theorem dM_reach_72 : decode bM_reach 72 = .ok (.istore_n 1, 1) := by decide +kernel
theorem dM_reach_73 : decode bM_reach 73 = .ok (.iconst 1, 1) := by decide +kernel
theorem dM_reach_74 : decode bM_reach 74 = .ok (.istore_n 3, 1) := by decide +kernel
theorem dM_reach_75 : decode bM_reach 75 = .ok (.iload_n 3, 1) := by decide +kernel
theorem dM_reach_76 : decode bM_reach 76 = .ok (.aload_n 0, 1) := by decide +kernel
theorem dM_reach_77 : decode bM_reach 77 = .ok (.getfield 13, 3) := by decide +kernel
theorem dM_reach_80 : decode bM_reach 80 = .ok (.if_icmp .ge 83, 3) := by decide +kernel
theorem dM_reach_83 : decode bM_reach 83 = .ok (.iconst 0, 1) := by decide +kernel
theorem dM_reach_84 : decode bM_reach 84 = .ok (.istore 4, 2) := by decide +kernel
theorem dM_reach_86 : decode bM_reach 86 = .ok (.iload 4, 2) := by decide +kernel
theorem dM_reach_88 : decode bM_reach 88 = .ok (.aload_n 0, 1) := by decide +kernel
theorem dM_reach_89 : decode bM_reach 89 = .ok (.getfield 16, 3) := by decide +kernel
theorem dM_reach_92 : decode bM_reach 92 = .ok (.iload_n 3, 1) := by decide +kernel
theorem dM_reach_93 : decode bM_reach 93 = .ok (.iaload, 1) := by decide +kernel
theorem dM_reach_94 : decode bM_reach 94 = .ok (.iconst 1, 1) := by decide +kernel
theorem dM_reach_95 : decode bM_reach 95 = .ok (.isub, 1) := by decide +kernel
theorem dM_reach_96 : decode bM_reach 96 = .ok (.if_icmp .ge 56, 3) := by decide +kernel
theorem dM_reach_99 : decode bM_reach 99 = .ok (.aload_n 0, 1) := by decide +kernel
theorem dM_reach_100 : decode bM_reach 100 = .ok (.getfield 29, 3) := by decide +kernel
theorem dM_reach_103 : decode bM_reach 103 = .ok (.iload_n 3, 1) := by decide +kernel
theorem dM_reach_104 : decode bM_reach 104 = .ok (.baload, 1) := by decide +kernel
theorem dM_reach_105 : decode bM_reach 105 = .ok (.ifCond .eq 47, 3) := by decide +kernel
theorem dM_reach_108 : decode bM_reach 108 = .ok (.aload_n 0, 1) := by decide +kernel
theorem dM_reach_109 : decode bM_reach 109 = .ok (.getfield 33, 3) := by decide +kernel
theorem dM_reach_112 : decode bM_reach 112 = .ok (.iload_n 3, 1) := by decide +kernel
theorem dM_reach_113 : decode bM_reach 113 = .ok (.iconst 3, 1) := by decide +kernel
theorem dM_reach_114 : decode bM_reach 114 = .ok (.iadd, 1) := by decide +kernel
theorem dM_reach_115 : decode bM_reach 115 = .ok (.iload 4, 2) := by decide +kernel
theorem dM_reach_117 : decode bM_reach 117 = .ok (.iadd, 1) := by decide +kernel
theorem dM_reach_118 : decode bM_reach 118 = .ok (.iaload, 1) := by decide +kernel
theorem dM_reach_119 : decode bM_reach 119 = .ok (.istore 5, 2) := by decide +kernel
theorem dM_reach_121 : decode bM_reach 121 = .ok (.iload 5, 2) := by decide +kernel
theorem dM_reach_123 : decode bM_reach 123 = .ok (.ifCond .le 23, 3) := by decide +kernel
theorem dM_reach_126 : decode bM_reach 126 = .ok (.aload_n 0, 1) := by decide +kernel
theorem dM_reach_127 : decode bM_reach 127 = .ok (.getfield 29, 3) := by decide +kernel
theorem dM_reach_130 : decode bM_reach 130 = .ok (.iload 5, 2) := by decide +kernel
theorem dM_reach_132 : decode bM_reach 132 = .ok (.baload, 1) := by decide +kernel
theorem dM_reach_133 : decode bM_reach 133 = .ok (.ifCond .ne 13, 3) := by decide +kernel
theorem dM_reach_136 : decode bM_reach 136 = .ok (.aload_n 0, 1) := by decide +kernel
theorem dM_reach_137 : decode bM_reach 137 = .ok (.getfield 29, 3) := by decide +kernel
theorem dM_reach_140 : decode bM_reach 140 = .ok (.iload 5, 2) := by decide +kernel
theorem dM_reach_142 : decode bM_reach 142 = .ok (.iconst 1, 1) := by decide +kernel
theorem dM_reach_143 : decode bM_reach 143 = .ok (.bastore, 1) := by decide +kernel
theorem dM_reach_144 : decode bM_reach 144 = .ok (.iconst 1, 1) := by decide +kernel
theorem dM_reach_145 : decode bM_reach 145 = .ok (.istore_n 1, 1) := by decide +kernel
theorem dM_reach_146 : decode bM_reach 146 = .ok (.iinc 4 1, 3) := by decide +kernel
theorem dM_reach_149 : decode bM_reach 149 = .ok (.goto (-63), 3) := by decide +kernel
theorem dM_reach_152 : decode bM_reach 152 = .ok (.iload_n 3, 1) := by decide +kernel
theorem dM_reach_153 : decode bM_reach 153 = .ok (.aload_n 0, 1) := by decide +kernel
theorem dM_reach_154 : decode bM_reach 154 = .ok (.iload_n 3, 1) := by decide +kernel
theorem dM_reach_155 : decode bM_reach 155 = .ok (.invokevirtual 69, 3) := by decide +kernel
theorem dM_reach_158 : decode bM_reach 158 = .ok (.iadd, 1) := by decide +kernel
theorem dM_reach_159 : decode bM_reach 159 = .ok (.istore_n 3, 1) := by decide +kernel
theorem dM_reach_160 : decode bM_reach 160 = .ok (.goto (-85), 3) := by decide +kernel
theorem dM_reach_163 : decode bM_reach 163 = .ok (.iinc 2 1, 3) := by decide +kernel
theorem dM_reach_166 : decode bM_reach 166 = .ok (.goto (-106), 3) := by decide +kernel
theorem dM_reach_169 : decode bM_reach 169 = .ok (.iconst 0, 1) := by decide +kernel
theorem dM_reach_170 : decode bM_reach 170 = .ok (.istore_n 2, 1) := by decide +kernel
theorem dM_reach_171 : decode bM_reach 171 = .ok (.iconst 1, 1) := by decide +kernel
theorem dM_reach_172 : decode bM_reach 172 = .ok (.istore_n 3, 1) := by decide +kernel
theorem dM_reach_173 : decode bM_reach 173 = .ok (.iload_n 3, 1) := by decide +kernel
theorem dM_reach_174 : decode bM_reach 174 = .ok (.aload_n 0, 1) := by decide +kernel
theorem dM_reach_175 : decode bM_reach 175 = .ok (.getfield 13, 3) := by decide +kernel
theorem dM_reach_178 : decode bM_reach 178 = .ok (.if_icmp .ge 31, 3) := by decide +kernel
theorem dM_reach_181 : decode bM_reach 181 = .ok (.aload_n 0, 1) := by decide +kernel
theorem dM_reach_182 : decode bM_reach 182 = .ok (.getfield 29, 3) := by decide +kernel
theorem dM_reach_185 : decode bM_reach 185 = .ok (.iload_n 3, 1) := by decide +kernel
theorem dM_reach_186 : decode bM_reach 186 = .ok (.baload, 1) := by decide +kernel
theorem dM_reach_187 : decode bM_reach 187 = .ok (.ifCond .eq 9, 3) := by decide +kernel
theorem dM_reach_190 : decode bM_reach 190 = .ok (.iload_n 2, 1) := by decide +kernel
theorem dM_reach_191 : decode bM_reach 191 = .ok (.iconst 1, 1) := by decide +kernel
theorem dM_reach_192 : decode bM_reach 192 = .ok (.iadd, 1) := by decide +kernel
theorem dM_reach_193 : decode bM_reach 193 = .ok (.goto 4, 3) := by decide +kernel
theorem dM_reach_196 : decode bM_reach 196 = .ok (.iload_n 2, 1) := by decide +kernel
theorem dM_reach_197 : decode bM_reach 197 = .ok (.istore_n 2, 1) := by decide +kernel
theorem dM_reach_198 : decode bM_reach 198 = .ok (.iload_n 3, 1) := by decide +kernel
theorem dM_reach_199 : decode bM_reach 199 = .ok (.aload_n 0, 1) := by decide +kernel
theorem dM_reach_200 : decode bM_reach 200 = .ok (.iload_n 3, 1) := by decide +kernel
theorem dM_reach_201 : decode bM_reach 201 = .ok (.invokevirtual 69, 3) := by decide +kernel
theorem dM_reach_204 : decode bM_reach 204 = .ok (.iadd, 1) := by decide +kernel
theorem dM_reach_205 : decode bM_reach 205 = .ok (.istore_n 3, 1) := by decide +kernel
theorem dM_reach_206 : decode bM_reach 206 = .ok (.goto (-33), 3) := by decide +kernel
theorem dM_reach_209 : decode bM_reach 209 = .ok (.iload_n 2, 1) := by decide +kernel
theorem dM_reach_210 : decode bM_reach 210 = .ok (.ireturn, 1) := by decide +kernel
theorem dM_root_0 : decode bM_root 0 = .ok (.aload_n 0, 1) := by decide +kernel
theorem dM_root_1 : decode bM_root 1 = .ok (.iload_n 1, 1) := by decide +kernel
theorem dM_root_2 : decode bM_root 2 = .ok (.invokestatic 66, 3) := by decide +kernel
theorem dM_root_5 : decode bM_root 5 = .ok (.ifCond .eq 19, 3) := by decide +kernel
theorem dM_root_8 : decode bM_root 8 = .ok (.iload_n 2, 1) := by decide +kernel
theorem dM_root_9 : decode bM_root 9 = .ok (.ifCond .eq 11, 3) := by decide +kernel
theorem dM_root_12 : decode bM_root 12 = .ok (.aload_n 0, 1) := by decide +kernel
theorem dM_root_13 : decode bM_root 13 = .ok (.iload_n 2, 1) := by decide +kernel
theorem dM_root_14 : decode bM_root 14 = .ok (.invokevirtual 55, 3) := by decide +kernel
theorem dM_root_17 : decode bM_root 17 = .ok (.ifCond .eq 7, 3) := by decide +kernel
theorem dM_root_20 : decode bM_root 20 = .ok (.iconst 1, 1) := by decide +kernel
theorem dM_root_21 : decode bM_root 21 = .ok (.goto 4, 3) := by decide +kernel
theorem dM_root_24 : decode bM_root 24 = .ok (.iconst 0, 1) := by decide +kernel
theorem dM_root_25 : decode bM_root 25 = .ok (.invokevirtual 42, 3) := by decide +kernel
theorem dM_root_28 : decode bM_root 28 = .ok (.ifCond .ne 5, 3) := by decide +kernel
theorem dM_root_31 : decode bM_root 31 = .ok (.iconst 0, 1) := by decide +kernel
theorem dM_root_32 : decode bM_root 32 = .ok (.ireturn, 1) := by decide +kernel
theorem dM_root_33 : decode bM_root 33 = .ok (.aload_n 0, 1) := by decide +kernel
theorem dM_root_34 : decode bM_root 34 = .ok (.getfield 36, 3) := by decide +kernel
theorem dM_root_37 : decode bM_root 37 = .ok (.iload_n 1, 1) := by decide +kernel
theorem dM_root_38 : decode bM_root 38 = .ok (.iaload, 1) := by decide +kernel
theorem dM_root_39 : decode bM_root 39 = .ok (.istore_n 3, 1) := by decide +kernel
theorem dM_root_40 : decode bM_root 40 = .ok (.aload_n 0, 1) := by decide +kernel
theorem dM_root_41 : decode bM_root 41 = .ok (.getfield 36, 3) := by decide +kernel
theorem dM_root_44 : decode bM_root 44 = .ok (.iload_n 1, 1) := by decide +kernel
theorem dM_root_45 : decode bM_root 45 = .ok (.iload_n 2, 1) := by decide +kernel
theorem dM_root_46 : decode bM_root 46 = .ok (.iastore, 1) := by decide +kernel
theorem dM_root_47 : decode bM_root 47 = .ok (.iload_n 3, 1) := by decide +kernel
theorem dM_root_48 : decode bM_root 48 = .ok (.ireturn, 1) := by decide +kernel
theorem dM_rooted_0 : decode bM_rooted 0 = .ok (.aload_n 0, 1) := by decide +kernel
theorem dM_rooted_1 : decode bM_rooted 1 = .ok (.iload_n 1, 1) := by decide +kernel
theorem dM_rooted_2 : decode bM_rooted 2 = .ok (.invokestatic 66, 3) := by decide +kernel
theorem dM_rooted_5 : decode bM_rooted 5 = .ok (.invokevirtual 42, 3) := by decide +kernel
theorem dM_rooted_8 : decode bM_rooted 8 = .ok (.ifCond .eq 12, 3) := by decide +kernel
theorem dM_rooted_11 : decode bM_rooted 11 = .ok (.aload_n 0, 1) := by decide +kernel
theorem dM_rooted_12 : decode bM_rooted 12 = .ok (.getfield 36, 3) := by decide +kernel
theorem dM_rooted_15 : decode bM_rooted 15 = .ok (.iload_n 1, 1) := by decide +kernel
theorem dM_rooted_16 : decode bM_rooted 16 = .ok (.iaload, 1) := by decide +kernel
theorem dM_rooted_17 : decode bM_rooted 17 = .ok (.goto 4, 3) := by decide +kernel
theorem dM_rooted_20 : decode bM_rooted 20 = .ok (.iconst 0, 1) := by decide +kernel
theorem dM_rooted_21 : decode bM_rooted 21 = .ok (.ireturn, 1) := by decide +kernel
theorem dM_set_0 : decode bM_set 0 = .ok (.aload_n 0, 1) := by decide +kernel
theorem dM_set_1 : decode bM_set 1 = .ok (.aload_n 0, 1) := by decide +kernel
theorem dM_set_2 : decode bM_set 2 = .ok (.iload_n 1, 1) := by decide +kernel
theorem dM_set_3 : decode bM_set 3 = .ok (.iload_n 2, 1) := by decide +kernel
theorem dM_set_4 : decode bM_set 4 = .ok (.invokevirtual 59, 3) := by decide +kernel
theorem dM_set_7 : decode bM_set 7 = .ok (.ifCond .eq 19, 3) := by decide +kernel
theorem dM_set_10 : decode bM_set 10 = .ok (.iload_n 3, 1) := by decide +kernel
theorem dM_set_11 : decode bM_set 11 = .ok (.ifCond .eq 11, 3) := by decide +kernel
theorem dM_set_14 : decode bM_set 14 = .ok (.aload_n 0, 1) := by decide +kernel
theorem dM_set_15 : decode bM_set 15 = .ok (.iload_n 3, 1) := by decide +kernel
theorem dM_set_16 : decode bM_set 16 = .ok (.invokevirtual 55, 3) := by decide +kernel
theorem dM_set_19 : decode bM_set 19 = .ok (.ifCond .eq 7, 3) := by decide +kernel
theorem dM_set_22 : decode bM_set 22 = .ok (.iconst 1, 1) := by decide +kernel
theorem dM_set_23 : decode bM_set 23 = .ok (.goto 4, 3) := by decide +kernel
theorem dM_set_26 : decode bM_set 26 = .ok (.iconst 0, 1) := by decide +kernel
theorem dM_set_27 : decode bM_set 27 = .ok (.invokevirtual 42, 3) := by decide +kernel
theorem dM_set_30 : decode bM_set 30 = .ok (.ifCond .ne 5, 3) := by decide +kernel
theorem dM_set_33 : decode bM_set 33 = .ok (.iconst 0, 1) := by decide +kernel
theorem dM_set_34 : decode bM_set 34 = .ok (.ireturn, 1) := by decide +kernel
theorem dM_set_35 : decode bM_set 35 = .ok (.aload_n 0, 1) := by decide +kernel
theorem dM_set_36 : decode bM_set 36 = .ok (.getfield 33, 3) := by decide +kernel
theorem dM_set_39 : decode bM_set 39 = .ok (.iload_n 1, 1) := by decide +kernel
theorem dM_set_40 : decode bM_set 40 = .ok (.iconst 3, 1) := by decide +kernel
theorem dM_set_41 : decode bM_set 41 = .ok (.iadd, 1) := by decide +kernel
theorem dM_set_42 : decode bM_set 42 = .ok (.iload_n 2, 1) := by decide +kernel
theorem dM_set_43 : decode bM_set 43 = .ok (.iadd, 1) := by decide +kernel
theorem dM_set_44 : decode bM_set 44 = .ok (.iaload, 1) := by decide +kernel
theorem dM_set_45 : decode bM_set 45 = .ok (.istore 4, 2) := by decide +kernel
theorem dM_set_47 : decode bM_set 47 = .ok (.aload_n 0, 1) := by decide +kernel
theorem dM_set_48 : decode bM_set 48 = .ok (.getfield 33, 3) := by decide +kernel
theorem dM_set_51 : decode bM_set 51 = .ok (.iload_n 1, 1) := by decide +kernel
theorem dM_set_52 : decode bM_set 52 = .ok (.iconst 3, 1) := by decide +kernel
theorem dM_set_53 : decode bM_set 53 = .ok (.iadd, 1) := by decide +kernel
theorem dM_set_54 : decode bM_set 54 = .ok (.iload_n 2, 1) := by decide +kernel
theorem dM_set_55 : decode bM_set 55 = .ok (.iadd, 1) := by decide +kernel
theorem dM_set_56 : decode bM_set 56 = .ok (.iload_n 3, 1) := by decide +kernel
theorem dM_set_57 : decode bM_set 57 = .ok (.iastore, 1) := by decide +kernel
theorem dM_set_58 : decode bM_set 58 = .ok (.iload 4, 2) := by decide +kernel
theorem dM_set_60 : decode bM_set 60 = .ok (.ireturn, 1) := by decide +kernel
theorem dM_size_0 : decode bM_size 0 = .ok (.iconst 3, 1) := by decide +kernel
theorem dM_size_1 : decode bM_size 1 = .ok (.aload_n 0, 1) := by decide +kernel
theorem dM_size_2 : decode bM_size 2 = .ok (.getfield 16, 3) := by decide +kernel
theorem dM_size_5 : decode bM_size 5 = .ok (.iload_n 1, 1) := by decide +kernel
theorem dM_size_6 : decode bM_size 6 = .ok (.iaload, 1) := by decide +kernel
theorem dM_size_7 : decode bM_size 7 = .ok (.iadd, 1) := by decide +kernel
theorem dM_size_8 : decode bM_size 8 = .ok (.iconst 1, 1) := by decide +kernel
theorem dM_size_9 : decode bM_size 9 = .ok (.isub, 1) := by decide +kernel
theorem dM_size_10 : decode bM_size 10 = .ok (.aload_n 0, 1) := by decide +kernel
theorem dM_size_11 : decode bM_size 11 = .ok (.getfield 20, 3) := by decide +kernel
theorem dM_size_14 : decode bM_size 14 = .ok (.iload_n 1, 1) := by decide +kernel
theorem dM_size_15 : decode bM_size 15 = .ok (.iaload, 1) := by decide +kernel
theorem dM_size_16 : decode bM_size 16 = .ok (.iadd, 1) := by decide +kernel
theorem dM_size_17 : decode bM_size 17 = .ok (.ireturn, 1) := by decide +kernel
theorem dM_slide_0 : decode bM_slide 0 = .ok (.aload_n 0, 1) := by decide +kernel
theorem dM_slide_1 : decode bM_slide 1 = .ok (.iconst 0, 1) := by decide +kernel
theorem dM_slide_2 : decode bM_slide 2 = .ok (.putfield 39, 3) := by decide +kernel
theorem dM_slide_5 : decode bM_slide 5 = .ok (.aload_n 0, 1) := by decide +kernel
theorem dM_slide_6 : decode bM_slide 6 = .ok (.invokevirtual 73, 3) := by decide +kernel
theorem dM_slide_9 : decode bM_slide 9 = .ok (.istore_n 1, 1) := by decide +kernel
theorem dM_slide_10 : decode bM_slide 10 = .ok (.aload_n 0, 1) := by decide +kernel
theorem dM_slide_11 : decode bM_slide 11 = .ok (.invokevirtual 77, 3) := by decide +kernel
theorem dM_slide_14 : decode bM_slide 14 = .ok (.istore_n 2, 1) := by decide +kernel
theorem dM_slide_15 : decode bM_slide 15 = .ok (.iconst 1, 1) := by decide +kernel
theorem dM_slide_16 : decode bM_slide 16 = .ok (.istore_n 3, 1) := by decide +kernel
theorem dM_slide_17 : decode bM_slide 17 = .ok (.iconst 1, 1) := by decide +kernel
theorem dM_slide_18 : decode bM_slide 18 = .ok (.istore 4, 2) := by decide +kernel
theorem dM_slide_20 : decode bM_slide 20 = .ok (.iload 4, 2) := by decide +kernel
theorem dM_slide_22 : decode bM_slide 22 = .ok (.aload_n 0, 1) := by decide +kernel
theorem dM_slide_23 : decode bM_slide 23 = .ok (.getfield 13, 3) := by decide +kernel
theorem dM_slide_26 : decode bM_slide 26 = .ok (.if_icmp .ge 48, 3) := by decide +kernel
theorem dM_slide_29 : decode bM_slide 29 = .ok (.aload_n 0, 1) := by decide +kernel
theorem dM_slide_30 : decode bM_slide 30 = .ok (.getfield 26, 3) := by decide +kernel
theorem dM_slide_33 : decode bM_slide 33 = .ok (.iload 4, 2) := by decide +kernel
theorem dM_slide_35 : decode bM_slide 35 = .ok (.iload_n 3, 1) := by decide +kernel
theorem dM_slide_36 : decode bM_slide 36 = .ok (.iastore, 1) := by decide +kernel
theorem dM_slide_37 : decode bM_slide 37 = .ok (.aload_n 0, 1) := by decide +kernel
theorem dM_slide_38 : decode bM_slide 38 = .ok (.getfield 29, 3) := by decide +kernel
theorem dM_slide_41 : decode bM_slide 41 = .ok (.iload 4, 2) := by decide +kernel
theorem dM_slide_43 : decode bM_slide 43 = .ok (.baload, 1) := by decide +kernel
theorem dM_slide_44 : decode bM_slide 44 = .ok (.ifCond .eq 14, 3) := by decide +kernel
theorem dM_slide_47 : decode bM_slide 47 = .ok (.iload_n 3, 1) := by decide +kernel
theorem dM_slide_48 : decode bM_slide 48 = .ok (.aload_n 0, 1) := by decide +kernel
theorem dM_slide_49 : decode bM_slide 49 = .ok (.iload 4, 2) := by decide +kernel
theorem dM_slide_51 : decode bM_slide 51 = .ok (.invokevirtual 69, 3) := by decide +kernel
theorem dM_slide_54 : decode bM_slide 54 = .ok (.iadd, 1) := by decide +kernel
theorem dM_slide_55 : decode bM_slide 55 = .ok (.goto 4, 3) := by decide +kernel
theorem dM_slide_58 : decode bM_slide 58 = .ok (.iload_n 3, 1) := by decide +kernel
theorem dM_slide_59 : decode bM_slide 59 = .ok (.istore_n 3, 1) := by decide +kernel
theorem dM_slide_60 : decode bM_slide 60 = .ok (.iload 4, 2) := by decide +kernel
theorem dM_slide_62 : decode bM_slide 62 = .ok (.aload_n 0, 1) := by decide +kernel
theorem dM_slide_63 : decode bM_slide 63 = .ok (.iload 4, 2) := by decide +kernel
theorem dM_slide_65 : decode bM_slide 65 = .ok (.invokevirtual 69, 3) := by decide +kernel
theorem dM_slide_68 : decode bM_slide 68 = .ok (.iadd, 1) := by decide +kernel
theorem dM_slide_69 : decode bM_slide 69 = .ok (.istore 4, 2) := by decide +kernel
theorem dM_slide_71 : decode bM_slide 71 = .ok (.goto (-51), 3) := by decide +kernel
theorem dM_slide_74 : decode bM_slide 74 = .ok (.aload_n 0, 1) := by decide +kernel
theorem dM_slide_75 : decode bM_slide 75 = .ok (.getfield 26, 3) := by decide +kernel
theorem dM_slide_78 : decode bM_slide 78 = .ok (.iconst 0, 1) := by decide +kernel
theorem dM_slide_79 : decode bM_slide 79 = .ok (.iconst 0, 1) := by decide +kernel
theorem dM_slide_80 : decode bM_slide 80 = .ok (.iastore, 1) := by decide +kernel
theorem dM_slide_81 : decode bM_slide 81 = .ok (.iconst 0, 1) := by decide +kernel
theorem dM_slide_82 : decode bM_slide 82 = .ok (.istore 4, 2) := by decide +kernel
theorem dM_slide_84 : decode bM_slide 84 = .ok (.iload 4, 2) := by decide +kernel
theorem dM_slide_86 : decode bM_slide 86 = .ok (.bipush 16, 2) := by decide +kernel
theorem dM_slide_88 : decode bM_slide 88 = .ok (.if_icmp .ge 28, 3) := by decide +kernel
theorem dM_slide_91 : decode bM_slide 91 = .ok (.aload_n 0, 1) := by decide +kernel
theorem dM_slide_92 : decode bM_slide 92 = .ok (.getfield 36, 3) := by decide +kernel
theorem dM_slide_95 : decode bM_slide 95 = .ok (.iload 4, 2) := by decide +kernel
theorem dM_slide_97 : decode bM_slide 97 = .ok (.aload_n 0, 1) := by decide +kernel
theorem dM_slide_98 : decode bM_slide 98 = .ok (.getfield 26, 3) := by decide +kernel
theorem dM_slide_101 : decode bM_slide 101 = .ok (.aload_n 0, 1) := by decide +kernel
theorem dM_slide_102 : decode bM_slide 102 = .ok (.getfield 36, 3) := by decide +kernel
theorem dM_slide_105 : decode bM_slide 105 = .ok (.iload 4, 2) := by decide +kernel
theorem dM_slide_107 : decode bM_slide 107 = .ok (.iaload, 1) := by decide +kernel
theorem dM_slide_108 : decode bM_slide 108 = .ok (.iaload, 1) := by decide +kernel
theorem dM_slide_109 : decode bM_slide 109 = .ok (.iastore, 1) := by decide +kernel
theorem dM_slide_110 : decode bM_slide 110 = .ok (.iinc 4 1, 3) := by decide +kernel
theorem dM_slide_113 : decode bM_slide 113 = .ok (.goto (-29), 3) := by decide +kernel
theorem dM_slide_116 : decode bM_slide 116 = .ok (.iconst 1, 1) := by decide +kernel
theorem dM_slide_117 : decode bM_slide 117 = .ok (.istore 4, 2) := by decide +kernel
theorem dM_slide_119 : decode bM_slide 119 = .ok (.iload 4, 2) := by decide +kernel
theorem dM_slide_121 : decode bM_slide 121 = .ok (.aload_n 0, 1) := by decide +kernel
theorem dM_slide_122 : decode bM_slide 122 = .ok (.getfield 13, 3) := by decide +kernel
theorem dM_slide_125 : decode bM_slide 125 = .ok (.if_icmp .ge 79, 3) := by decide +kernel
theorem dM_slide_128 : decode bM_slide 128 = .ok (.iconst 0, 1) := by decide +kernel
theorem dM_slide_129 : decode bM_slide 129 = .ok (.istore 5, 2) := by decide +kernel
theorem dM_slide_131 : decode bM_slide 131 = .ok (.iload 5, 2) := by decide +kernel
theorem dM_slide_133 : decode bM_slide 133 = .ok (.aload_n 0, 1) := by decide +kernel
theorem dM_slide_134 : decode bM_slide 134 = .ok (.getfield 16, 3) := by decide +kernel
theorem dM_slide_137 : decode bM_slide 137 = .ok (.iload 4, 2) := by decide +kernel
theorem dM_slide_139 : decode bM_slide 139 = .ok (.iaload, 1) := by decide +kernel
theorem dM_slide_140 : decode bM_slide 140 = .ok (.iconst 1, 1) := by decide +kernel
theorem dM_slide_141 : decode bM_slide 141 = .ok (.isub, 1) := by decide +kernel
theorem dM_slide_142 : decode bM_slide 142 = .ok (.if_icmp .ge 48, 3) := by decide +kernel
theorem dM_slide_145 : decode bM_slide 145 = .ok (.aload_n 0, 1) := by decide +kernel
theorem dM_slide_146 : decode bM_slide 146 = .ok (.getfield 29, 3) := by decide +kernel
theorem dM_slide_149 : decode bM_slide 149 = .ok (.iload 4, 2) := by decide +kernel
theorem dM_slide_151 : decode bM_slide 151 = .ok (.baload, 1) := by decide +kernel
theorem dM_slide_152 : decode bM_slide 152 = .ok (.ifCond .eq 38, 3) := by decide +kernel
theorem dM_slide_155 : decode bM_slide 155 = .ok (.aload_n 0, 1) := by decide +kernel
theorem dM_slide_156 : decode bM_slide 156 = .ok (.getfield 33, 3) := by decide +kernel
theorem dM_slide_159 : decode bM_slide 159 = .ok (.iload 4, 2) := by decide +kernel
theorem dM_slide_161 : decode bM_slide 161 = .ok (.iconst 3, 1) := by decide +kernel
theorem dM_slide_162 : decode bM_slide 162 = .ok (.iadd, 1) := by decide +kernel
theorem dM_slide_163 : decode bM_slide 163 = .ok (.iload 5, 2) := by decide +kernel
theorem dM_slide_165 : decode bM_slide 165 = .ok (.iadd, 1) := by decide +kernel
theorem dM_slide_166 : decode bM_slide 166 = .ok (.aload_n 0, 1) := by decide +kernel
theorem dM_slide_167 : decode bM_slide 167 = .ok (.getfield 26, 3) := by decide +kernel
theorem dM_slide_170 : decode bM_slide 170 = .ok (.aload_n 0, 1) := by decide +kernel
theorem dM_slide_171 : decode bM_slide 171 = .ok (.getfield 33, 3) := by decide +kernel
theorem dM_slide_174 : decode bM_slide 174 = .ok (.iload 4, 2) := by decide +kernel
theorem dM_slide_176 : decode bM_slide 176 = .ok (.iconst 3, 1) := by decide +kernel
theorem dM_slide_177 : decode bM_slide 177 = .ok (.iadd, 1) := by decide +kernel
theorem dM_slide_178 : decode bM_slide 178 = .ok (.iload 5, 2) := by decide +kernel
theorem dM_slide_180 : decode bM_slide 180 = .ok (.iadd, 1) := by decide +kernel
theorem dM_slide_181 : decode bM_slide 181 = .ok (.iaload, 1) := by decide +kernel
theorem dM_slide_182 : decode bM_slide 182 = .ok (.iaload, 1) := by decide +kernel
theorem dM_slide_183 : decode bM_slide 183 = .ok (.iastore, 1) := by decide +kernel
theorem dM_slide_184 : decode bM_slide 184 = .ok (.iinc 5 1, 3) := by decide +kernel
theorem dM_slide_187 : decode bM_slide 187 = .ok (.goto (-56), 3) := by decide +kernel
theorem dM_slide_190 : decode bM_slide 190 = .ok (.iload 4, 2) := by decide +kernel
theorem dM_slide_192 : decode bM_slide 192 = .ok (.aload_n 0, 1) := by decide +kernel
theorem dM_slide_193 : decode bM_slide 193 = .ok (.iload 4, 2) := by decide +kernel
theorem dM_slide_195 : decode bM_slide 195 = .ok (.invokevirtual 69, 3) := by decide +kernel
theorem dM_slide_198 : decode bM_slide 198 = .ok (.iadd, 1) := by decide +kernel
theorem dM_slide_199 : decode bM_slide 199 = .ok (.istore 4, 2) := by decide +kernel
theorem dM_slide_201 : decode bM_slide 201 = .ok (.goto (-82), 3) := by decide +kernel
theorem dM_slide_204 : decode bM_slide 204 = .ok (.iconst 1, 1) := by decide +kernel
theorem dM_slide_205 : decode bM_slide 205 = .ok (.istore 4, 2) := by decide +kernel
theorem dM_slide_207 : decode bM_slide 207 = .ok (.iload 4, 2) := by decide +kernel
theorem dM_slide_209 : decode bM_slide 209 = .ok (.aload_n 0, 1) := by decide +kernel
theorem dM_slide_210 : decode bM_slide 210 = .ok (.getfield 13, 3) := by decide +kernel
theorem dM_slide_213 : decode bM_slide 213 = .ok (.if_icmp .ge 66, 3) := by decide +kernel
theorem dM_slide_216 : decode bM_slide 216 = .ok (.aload_n 0, 1) := by decide +kernel
theorem dM_slide_217 : decode bM_slide 217 = .ok (.iload 4, 2) := by decide +kernel
theorem dM_slide_219 : decode bM_slide 219 = .ok (.invokevirtual 69, 3) := by decide +kernel
theorem dM_slide_222 : decode bM_slide 222 = .ok (.istore 5, 2) := by decide +kernel
theorem dM_slide_224 : decode bM_slide 224 = .ok (.aload_n 0, 1) := by decide +kernel
theorem dM_slide_225 : decode bM_slide 225 = .ok (.getfield 29, 3) := by decide +kernel
theorem dM_slide_228 : decode bM_slide 228 = .ok (.iload 4, 2) := by decide +kernel
theorem dM_slide_230 : decode bM_slide 230 = .ok (.baload, 1) := by decide +kernel
theorem dM_slide_231 : decode bM_slide 231 = .ok (.ifCond .eq 14, 3) := by decide +kernel
theorem dM_slide_234 : decode bM_slide 234 = .ok (.aload_n 0, 1) := by decide +kernel
theorem dM_slide_235 : decode bM_slide 235 = .ok (.iload 4, 2) := by decide +kernel
theorem dM_slide_237 : decode bM_slide 237 = .ok (.iload 5, 2) := by decide +kernel
theorem dM_slide_239 : decode bM_slide 239 = .ok (.invokevirtual 80, 3) := by decide +kernel
theorem dM_slide_242 : decode bM_slide 242 = .ok (.goto 27, 3) := by decide +kernel
theorem dM_slide_245 : decode bM_slide 245 = .ok (.aload_n 0, 1) := by decide +kernel
theorem dM_slide_246 : decode bM_slide 246 = .ok (.getfield 16, 3) := by decide +kernel
theorem dM_slide_249 : decode bM_slide 249 = .ok (.iload 4, 2) := by decide +kernel
theorem dM_slide_251 : decode bM_slide 251 = .ok (.iconst 0, 1) := by decide +kernel
theorem dM_slide_252 : decode bM_slide 252 = .ok (.iastore, 1) := by decide +kernel
theorem dM_slide_253 : decode bM_slide 253 = .ok (.aload_n 0, 1) := by decide +kernel
theorem dM_slide_254 : decode bM_slide 254 = .ok (.getfield 20, 3) := by decide +kernel
theorem dM_slide_257 : decode bM_slide 257 = .ok (.iload 4, 2) := by decide +kernel
theorem dM_slide_259 : decode bM_slide 259 = .ok (.iconst 0, 1) := by decide +kernel
theorem dM_slide_260 : decode bM_slide 260 = .ok (.iastore, 1) := by decide +kernel
theorem dM_slide_261 : decode bM_slide 261 = .ok (.aload_n 0, 1) := by decide +kernel
theorem dM_slide_262 : decode bM_slide 262 = .ok (.getfield 23, 3) := by decide +kernel
theorem dM_slide_265 : decode bM_slide 265 = .ok (.iload 4, 2) := by decide +kernel
theorem dM_slide_267 : decode bM_slide 267 = .ok (.iconst 0, 1) := by decide +kernel
theorem dM_slide_268 : decode bM_slide 268 = .ok (.iastore, 1) := by decide +kernel
theorem dM_slide_269 : decode bM_slide 269 = .ok (.iload 4, 2) := by decide +kernel
theorem dM_slide_271 : decode bM_slide 271 = .ok (.iload 5, 2) := by decide +kernel
theorem dM_slide_273 : decode bM_slide 273 = .ok (.iadd, 1) := by decide +kernel
theorem dM_slide_274 : decode bM_slide 274 = .ok (.istore 4, 2) := by decide +kernel
theorem dM_slide_276 : decode bM_slide 276 = .ok (.goto (-69), 3) := by decide +kernel
theorem dM_slide_279 : decode bM_slide 279 = .ok (.aload_n 0, 1) := by decide +kernel
theorem dM_slide_280 : decode bM_slide 280 = .ok (.iload_n 3, 1) := by decide +kernel
theorem dM_slide_281 : decode bM_slide 281 = .ok (.putfield 13, 3) := by decide +kernel
theorem dM_slide_284 : decode bM_slide 284 = .ok (.aload_n 0, 1) := by decide +kernel
theorem dM_slide_285 : decode bM_slide 285 = .ok (.dup, 1) := by decide +kernel
theorem dM_slide_286 : decode bM_slide 286 = .ok (.getfield 46, 3) := by decide +kernel
theorem dM_slide_289 : decode bM_slide 289 = .ok (.iconst 1, 1) := by decide +kernel
theorem dM_slide_290 : decode bM_slide 290 = .ok (.iadd, 1) := by decide +kernel
theorem dM_slide_291 : decode bM_slide 291 = .ok (.putfield 46, 3) := by decide +kernel
theorem dM_slide_294 : decode bM_slide 294 = .ok (.aload_n 0, 1) := by decide +kernel
theorem dM_slide_295 : decode bM_slide 295 = .ok (.aload_n 0, 1) := by decide +kernel
theorem dM_slide_296 : decode bM_slide 296 = .ok (.getfield 49, 3) := by decide +kernel
theorem dM_slide_299 : decode bM_slide 299 = .ok (.iload_n 2, 1) := by decide +kernel
theorem dM_slide_300 : decode bM_slide 300 = .ok (.iadd, 1) := by decide +kernel
theorem dM_slide_301 : decode bM_slide 301 = .ok (.iload_n 1, 1) := by decide +kernel
theorem dM_slide_302 : decode bM_slide 302 = .ok (.isub, 1) := by decide +kernel
theorem dM_slide_303 : decode bM_slide 303 = .ok (.putfield 49, 3) := by decide +kernel
theorem dM_slide_306 : decode bM_slide 306 = .ok (.aload_n 0, 1) := by decide +kernel
theorem dM_slide_307 : decode bM_slide 307 = .ok (.getfield 13, 3) := by decide +kernel
theorem dM_slide_310 : decode bM_slide 310 = .ok (.iconst 1, 1) := by decide +kernel
theorem dM_slide_311 : decode bM_slide 311 = .ok (.isub, 1) := by decide +kernel
theorem dM_slide_312 : decode bM_slide 312 = .ok (.ireturn, 1) := by decide +kernel
theorem dM_space_0 : decode bM_space 0 = .ok (.aload_n 0, 1) := by decide +kernel
theorem dM_space_1 : decode bM_space 1 = .ok (.iload_n 1, 1) := by decide +kernel
theorem dM_space_2 : decode bM_space 2 = .ok (.bipush 16, 2) := by decide +kernel
theorem dM_space_4 : decode bM_space 4 = .ok (.if_icmp .lt 14, 3) := by decide +kernel
theorem dM_space_7 : decode bM_space 7 = .ok (.iload_n 1, 1) := by decide +kernel
theorem dM_space_8 : decode bM_space 8 = .ok (.sipush 16384, 3) := by decide +kernel
theorem dM_space_11 : decode bM_space 11 = .ok (.if_icmp .gt 7, 3) := by decide +kernel
theorem dM_space_14 : decode bM_space 14 = .ok (.iconst 1, 1) := by decide +kernel
theorem dM_space_15 : decode bM_space 15 = .ok (.goto 4, 3) := by decide +kernel
theorem dM_space_18 : decode bM_space 18 = .ok (.iconst 0, 1) := by decide +kernel
theorem dM_space_19 : decode bM_space 19 = .ok (.invokevirtual 42, 3) := by decide +kernel
theorem dM_space_22 : decode bM_space 22 = .ok (.ifCond .ne 5, 3) := by decide +kernel
theorem dM_space_25 : decode bM_space 25 = .ok (.iconst 0, 1) := by decide +kernel
theorem dM_space_26 : decode bM_space 26 = .ok (.ireturn, 1) := by decide +kernel
theorem dM_space_27 : decode bM_space 27 = .ok (.aload_n 0, 1) := by decide +kernel
theorem dM_space_28 : decode bM_space 28 = .ok (.getfield 7, 3) := by decide +kernel
theorem dM_space_31 : decode bM_space 31 = .ok (.istore_n 2, 1) := by decide +kernel
theorem dM_space_32 : decode bM_space 32 = .ok (.aload_n 0, 1) := by decide +kernel
theorem dM_space_33 : decode bM_space 33 = .ok (.iload_n 1, 1) := by decide +kernel
theorem dM_space_34 : decode bM_space 34 = .ok (.putfield 7, 3) := by decide +kernel
theorem dM_space_37 : decode bM_space 37 = .ok (.aload_n 0, 1) := by decide +kernel
theorem dM_space_38 : decode bM_space 38 = .ok (.iconst 1, 1) := by decide +kernel
theorem dM_space_39 : decode bM_space 39 = .ok (.putfield 13, 3) := by decide +kernel
theorem dM_space_42 : decode bM_space 42 = .ok (.iconst 0, 1) := by decide +kernel
theorem dM_space_43 : decode bM_space 43 = .ok (.istore_n 3, 1) := by decide +kernel
theorem dM_space_44 : decode bM_space 44 = .ok (.iload_n 3, 1) := by decide +kernel
theorem dM_space_45 : decode bM_space 45 = .ok (.sipush 16386, 3) := by decide +kernel
theorem dM_space_48 : decode bM_space 48 = .ok (.if_icmp .ge 37, 3) := by decide +kernel
theorem dM_space_51 : decode bM_space 51 = .ok (.aload_n 0, 1) := by decide +kernel
theorem dM_space_52 : decode bM_space 52 = .ok (.getfield 16, 3) := by decide +kernel
theorem dM_space_55 : decode bM_space 55 = .ok (.iload_n 3, 1) := by decide +kernel
theorem dM_space_56 : decode bM_space 56 = .ok (.iconst 0, 1) := by decide +kernel
theorem dM_space_57 : decode bM_space 57 = .ok (.iastore, 1) := by decide +kernel
theorem dM_space_58 : decode bM_space 58 = .ok (.aload_n 0, 1) := by decide +kernel
theorem dM_space_59 : decode bM_space 59 = .ok (.getfield 20, 3) := by decide +kernel
theorem dM_space_62 : decode bM_space 62 = .ok (.iload_n 3, 1) := by decide +kernel
theorem dM_space_63 : decode bM_space 63 = .ok (.iconst 0, 1) := by decide +kernel
theorem dM_space_64 : decode bM_space 64 = .ok (.iastore, 1) := by decide +kernel
theorem dM_space_65 : decode bM_space 65 = .ok (.aload_n 0, 1) := by decide +kernel
theorem dM_space_66 : decode bM_space 66 = .ok (.getfield 23, 3) := by decide +kernel
theorem dM_space_69 : decode bM_space 69 = .ok (.iload_n 3, 1) := by decide +kernel
theorem dM_space_70 : decode bM_space 70 = .ok (.iconst 0, 1) := by decide +kernel
theorem dM_space_71 : decode bM_space 71 = .ok (.iastore, 1) := by decide +kernel
theorem dM_space_72 : decode bM_space 72 = .ok (.aload_n 0, 1) := by decide +kernel
theorem dM_space_73 : decode bM_space 73 = .ok (.getfield 33, 3) := by decide +kernel
theorem dM_space_76 : decode bM_space 76 = .ok (.iload_n 3, 1) := by decide +kernel
theorem dM_space_77 : decode bM_space 77 = .ok (.iconst 0, 1) := by decide +kernel
theorem dM_space_78 : decode bM_space 78 = .ok (.iastore, 1) := by decide +kernel
theorem dM_space_79 : decode bM_space 79 = .ok (.iinc 3 1, 3) := by decide +kernel
theorem dM_space_82 : decode bM_space 82 = .ok (.goto (-38), 3) := by decide +kernel
theorem dM_space_85 : decode bM_space 85 = .ok (.iconst 0, 1) := by decide +kernel
theorem dM_space_86 : decode bM_space 86 = .ok (.istore_n 3, 1) := by decide +kernel
theorem dM_space_87 : decode bM_space 87 = .ok (.iload_n 3, 1) := by decide +kernel
theorem dM_space_88 : decode bM_space 88 = .ok (.bipush 16, 2) := by decide +kernel
theorem dM_space_90 : decode bM_space 90 = .ok (.if_icmp .ge 16, 3) := by decide +kernel
theorem dM_space_93 : decode bM_space 93 = .ok (.aload_n 0, 1) := by decide +kernel
theorem dM_space_94 : decode bM_space 94 = .ok (.getfield 36, 3) := by decide +kernel
theorem dM_space_97 : decode bM_space 97 = .ok (.iload_n 3, 1) := by decide +kernel
theorem dM_space_98 : decode bM_space 98 = .ok (.iconst 0, 1) := by decide +kernel
theorem dM_space_99 : decode bM_space 99 = .ok (.iastore, 1) := by decide +kernel
theorem dM_space_100 : decode bM_space 100 = .ok (.iinc 3 1, 3) := by decide +kernel
theorem dM_space_103 : decode bM_space 103 = .ok (.goto (-16), 3) := by decide +kernel
theorem dM_space_106 : decode bM_space 106 = .ok (.aload_n 0, 1) := by decide +kernel
theorem dM_space_107 : decode bM_space 107 = .ok (.iconst 0, 1) := by decide +kernel
theorem dM_space_108 : decode bM_space 108 = .ok (.putfield 46, 3) := by decide +kernel
theorem dM_space_111 : decode bM_space 111 = .ok (.aload_n 0, 1) := by decide +kernel
theorem dM_space_112 : decode bM_space 112 = .ok (.iconst 0, 1) := by decide +kernel
theorem dM_space_113 : decode bM_space 113 = .ok (.putfield 49, 3) := by decide +kernel
theorem dM_space_116 : decode bM_space 116 = .ok (.aload_n 0, 1) := by decide +kernel
theorem dM_space_117 : decode bM_space 117 = .ok (.iconst 0, 1) := by decide +kernel
theorem dM_space_118 : decode bM_space 118 = .ok (.putfield 52, 3) := by decide +kernel
theorem dM_space_121 : decode bM_space 121 = .ok (.iload_n 2, 1) := by decide +kernel
theorem dM_space_122 : decode bM_space 122 = .ok (.ireturn, 1) := by decide +kernel
theorem dM_thrown_0 : decode bM_thrown 0 = .ok (.aload_n 0, 1) := by decide +kernel
theorem dM_thrown_1 : decode bM_thrown 1 = .ok (.getfield 39, 3) := by decide +kernel
theorem dM_thrown_4 : decode bM_thrown 4 = .ok (.ireturn, 1) := by decide +kernel
theorem dM_word_0 : decode bM_word 0 = .ok (.aload_n 0, 1) := by decide +kernel
theorem dM_word_1 : decode bM_word 1 = .ok (.aload_n 0, 1) := by decide +kernel
theorem dM_word_2 : decode bM_word 2 = .ok (.iload_n 1, 1) := by decide +kernel
theorem dM_word_3 : decode bM_word 3 = .ok (.iload_n 2, 1) := by decide +kernel
theorem dM_word_4 : decode bM_word 4 = .ok (.invokevirtual 63, 3) := by decide +kernel
theorem dM_word_7 : decode bM_word 7 = .ok (.invokevirtual 42, 3) := by decide +kernel
theorem dM_word_10 : decode bM_word 10 = .ok (.ifCond .eq 23, 3) := by decide +kernel
theorem dM_word_13 : decode bM_word 13 = .ok (.aload_n 0, 1) := by decide +kernel
theorem dM_word_14 : decode bM_word 14 = .ok (.getfield 33, 3) := by decide +kernel
theorem dM_word_17 : decode bM_word 17 = .ok (.iload_n 1, 1) := by decide +kernel
theorem dM_word_18 : decode bM_word 18 = .ok (.iconst 2, 1) := by decide +kernel
theorem dM_word_19 : decode bM_word 19 = .ok (.iadd, 1) := by decide +kernel
theorem dM_word_20 : decode bM_word 20 = .ok (.aload_n 0, 1) := by decide +kernel
theorem dM_word_21 : decode bM_word 21 = .ok (.getfield 16, 3) := by decide +kernel
theorem dM_word_24 : decode bM_word 24 = .ok (.iload_n 1, 1) := by decide +kernel
theorem dM_word_25 : decode bM_word 25 = .ok (.iaload, 1) := by decide +kernel
theorem dM_word_26 : decode bM_word 26 = .ok (.iadd, 1) := by decide +kernel
theorem dM_word_27 : decode bM_word 27 = .ok (.iload_n 2, 1) := by decide +kernel
theorem dM_word_28 : decode bM_word 28 = .ok (.iadd, 1) := by decide +kernel
theorem dM_word_29 : decode bM_word 29 = .ok (.iaload, 1) := by decide +kernel
theorem dM_word_30 : decode bM_word 30 = .ok (.goto 4, 3) := by decide +kernel
theorem dM_word_33 : decode bM_word 33 = .ok (.iconst 0, 1) := by decide +kernel
theorem dM_word_34 : decode bM_word 34 = .ok (.ireturn, 1) := by decide +kernel
