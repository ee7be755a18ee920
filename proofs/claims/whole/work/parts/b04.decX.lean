/-! decode rows (written by wip/gen/names.py) -/
theorem dX_chainReached_0 : decode bX_chainReached 0 = .ok (.aload_n 0, 1) := by decide +kernel
theorem dX_chainReached_1 : decode bX_chainReached 1 = .ok (.invokevirtual 138, 3) := by decide +kernel
theorem dX_chainReached_4 : decode bX_chainReached 4 = .ok (.aload_n 0, 1) := by decide +kernel
theorem dX_chainReached_5 : decode bX_chainReached 5 = .ok (.iconst 0, 1) := by decide +kernel
theorem dX_chainReached_6 : decode bX_chainReached 6 = .ok (.putfield 141, 3) := by decide +kernel
theorem dX_chainReached_9 : decode bX_chainReached 9 = .ok (.aload_n 0, 1) := by decide +kernel
theorem dX_chainReached_10 : decode bX_chainReached 10 = .ok (.iconst 0, 1) := by decide +kernel
theorem dX_chainReached_11 : decode bX_chainReached 11 = .ok (.putfield 144, 3) := by decide +kernel
theorem dX_chainReached_14 : decode bX_chainReached 14 = .ok (.aload_n 0, 1) := by decide +kernel
theorem dX_chainReached_15 : decode bX_chainReached 15 = .ok (.iconst 0, 1) := by decide +kernel
theorem dX_chainReached_16 : decode bX_chainReached 16 = .ok (.putfield 92, 3) := by decide +kernel
theorem dX_chainReached_19 : decode bX_chainReached 19 = .ok (.iconst 0, 1) := by decide +kernel
theorem dX_chainReached_20 : decode bX_chainReached 20 = .ok (.istore_n 1, 1) := by decide +kernel
theorem dX_chainReached_21 : decode bX_chainReached 21 = .ok (.iload_n 1, 1) := by decide +kernel
theorem dX_chainReached_22 : decode bX_chainReached 22 = .ok (.aload_n 0, 1) := by decide +kernel
theorem dX_chainReached_23 : decode bX_chainReached 23 = .ok (.getfield 9, 3) := by decide +kernel
theorem dX_chainReached_26 : decode bX_chainReached 26 = .ok (.arraylength, 1) := by decide +kernel
theorem dX_chainReached_27 : decode bX_chainReached 27 = .ok (.if_icmp .ge 19, 3) := by decide +kernel
theorem dX_chainReached_30 : decode bX_chainReached 30 = .ok (.aload_n 0, 1) := by decide +kernel
theorem dX_chainReached_31 : decode bX_chainReached 31 = .ok (.aload_n 0, 1) := by decide +kernel
theorem dX_chainReached_32 : decode bX_chainReached 32 = .ok (.getfield 9, 3) := by decide +kernel
theorem dX_chainReached_35 : decode bX_chainReached 35 = .ok (.iload_n 1, 1) := by decide +kernel
theorem dX_chainReached_36 : decode bX_chainReached 36 = .ok (.iaload, 1) := by decide +kernel
theorem dX_chainReached_37 : decode bX_chainReached 37 = .ok (.invokevirtual 147, 3) := by decide +kernel
theorem dX_chainReached_40 : decode bX_chainReached 40 = .ok (.iinc 1 1, 3) := by decide +kernel
theorem dX_chainReached_43 : decode bX_chainReached 43 = .ok (.goto (-22), 3) := by decide +kernel
theorem dX_chainReached_46 : decode bX_chainReached 46 = .ok (.aload_n 0, 1) := by decide +kernel
theorem dX_chainReached_47 : decode bX_chainReached 47 = .ok (.getfield 141, 3) := by decide +kernel
theorem dX_chainReached_50 : decode bX_chainReached 50 = .ok (.istore_n 1, 1) := by decide +kernel
theorem dX_chainReached_51 : decode bX_chainReached 51 = .ok (.iconst 0, 1) := by decide +kernel
theorem dX_chainReached_52 : decode bX_chainReached 52 = .ok (.istore_n 2, 1) := by decide +kernel
theorem dX_chainReached_53 : decode bX_chainReached 53 = .ok (.iload_n 2, 1) := by decide +kernel
theorem dX_chainReached_54 : decode bX_chainReached 54 = .ok (.aload_n 0, 1) := by decide +kernel
theorem dX_chainReached_55 : decode bX_chainReached 55 = .ok (.getfield 46, 3) := by decide +kernel
theorem dX_chainReached_58 : decode bX_chainReached 58 = .ok (.if_icmp .ge 26, 3) := by decide +kernel
theorem dX_chainReached_61 : decode bX_chainReached 61 = .ok (.iload_n 1, 1) := by decide +kernel
theorem dX_chainReached_62 : decode bX_chainReached 62 = .ok (.ifCond .le 22, 3) := by decide +kernel
theorem dX_chainReached_65 : decode bX_chainReached 65 = .ok (.aload_n 0, 1) := by decide +kernel
theorem dX_chainReached_66 : decode bX_chainReached 66 = .ok (.iload_n 1, 1) := by decide +kernel
theorem dX_chainReached_67 : decode bX_chainReached 67 = .ok (.invokevirtual 150, 3) := by decide +kernel
theorem dX_chainReached_70 : decode bX_chainReached 70 = .ok (.aload_n 0, 1) := by decide +kernel
theorem dX_chainReached_71 : decode bX_chainReached 71 = .ok (.iload_n 1, 1) := by decide +kernel
theorem dX_chainReached_72 : decode bX_chainReached 72 = .ok (.iconst 2, 1) := by decide +kernel
theorem dX_chainReached_73 : decode bX_chainReached 73 = .ok (.iadd, 1) := by decide +kernel
theorem dX_chainReached_74 : decode bX_chainReached 74 = .ok (.invokevirtual 60, 3) := by decide +kernel
theorem dX_chainReached_77 : decode bX_chainReached 77 = .ok (.istore_n 1, 1) := by decide +kernel
theorem dX_chainReached_78 : decode bX_chainReached 78 = .ok (.iinc 2 1, 3) := by decide +kernel
theorem dX_chainReached_81 : decode bX_chainReached 81 = .ok (.goto (-28), 3) := by decide +kernel
theorem dX_chainReached_84 : decode bX_chainReached 84 = .ok (.return_, 1) := by decide +kernel
theorem dX_choosePlaces_0 : decode bX_choosePlaces 0 = .ok (.iconst 0, 1) := by decide +kernel
theorem dX_choosePlaces_1 : decode bX_choosePlaces 1 = .ok (.istore_n 1, 1) := by decide +kernel
theorem dX_choosePlaces_2 : decode bX_choosePlaces 2 = .ok (.iconst 1, 1) := by decide +kernel
theorem dX_choosePlaces_3 : decode bX_choosePlaces 3 = .ok (.istore_n 2, 1) := by decide +kernel
theorem dX_choosePlaces_4 : decode bX_choosePlaces 4 = .ok (.iconst 0, 1) := by decide +kernel
theorem dX_choosePlaces_5 : decode bX_choosePlaces 5 = .ok (.istore_n 3, 1) := by decide +kernel
theorem dX_choosePlaces_6 : decode bX_choosePlaces 6 = .ok (.iload_n 3, 1) := by decide +kernel
theorem dX_choosePlaces_7 : decode bX_choosePlaces 7 = .ok (.aload_n 0, 1) := by decide +kernel
theorem dX_choosePlaces_8 : decode bX_choosePlaces 8 = .ok (.getfield 46, 3) := by decide +kernel
theorem dX_choosePlaces_11 : decode bX_choosePlaces 11 = .ok (.if_icmp .ge 46, 3) := by decide +kernel
theorem dX_choosePlaces_14 : decode bX_choosePlaces 14 = .ok (.aload_n 0, 1) := by decide +kernel
theorem dX_choosePlaces_15 : decode bX_choosePlaces 15 = .ok (.iload_n 2, 1) := by decide +kernel
theorem dX_choosePlaces_16 : decode bX_choosePlaces 16 = .ok (.invokevirtual 101, 3) := by decide +kernel
theorem dX_choosePlaces_19 : decode bX_choosePlaces 19 = .ok (.istore 4, 2) := by decide +kernel
theorem dX_choosePlaces_21 : decode bX_choosePlaces 21 = .ok (.aload_n 0, 1) := by decide +kernel
theorem dX_choosePlaces_22 : decode bX_choosePlaces 22 = .ok (.iload_n 2, 1) := by decide +kernel
theorem dX_choosePlaces_23 : decode bX_choosePlaces 23 = .ok (.iconst 2, 1) := by decide +kernel
theorem dX_choosePlaces_24 : decode bX_choosePlaces 24 = .ok (.iadd, 1) := by decide +kernel
theorem dX_choosePlaces_25 : decode bX_choosePlaces 25 = .ok (.invokevirtual 60, 3) := by decide +kernel
theorem dX_choosePlaces_28 : decode bX_choosePlaces 28 = .ok (.ifCond .eq 18, 3) := by decide +kernel
theorem dX_choosePlaces_31 : decode bX_choosePlaces 31 = .ok (.aload_n 0, 1) := by decide +kernel
theorem dX_choosePlaces_32 : decode bX_choosePlaces 32 = .ok (.iload_n 2, 1) := by decide +kernel
theorem dX_choosePlaces_33 : decode bX_choosePlaces 33 = .ok (.iconst 2, 1) := by decide +kernel
theorem dX_choosePlaces_34 : decode bX_choosePlaces 34 = .ok (.iadd, 1) := by decide +kernel
theorem dX_choosePlaces_35 : decode bX_choosePlaces 35 = .ok (.iconst 1, 1) := by decide +kernel
theorem dX_choosePlaces_36 : decode bX_choosePlaces 36 = .ok (.iload_n 1, 1) := by decide +kernel
theorem dX_choosePlaces_37 : decode bX_choosePlaces 37 = .ok (.iadd, 1) := by decide +kernel
theorem dX_choosePlaces_38 : decode bX_choosePlaces 38 = .ok (.invokevirtual 43, 3) := by decide +kernel
theorem dX_choosePlaces_41 : decode bX_choosePlaces 41 = .ok (.iload_n 1, 1) := by decide +kernel
theorem dX_choosePlaces_42 : decode bX_choosePlaces 42 = .ok (.iload 4, 2) := by decide +kernel
theorem dX_choosePlaces_44 : decode bX_choosePlaces 44 = .ok (.iadd, 1) := by decide +kernel
theorem dX_choosePlaces_45 : decode bX_choosePlaces 45 = .ok (.istore_n 1, 1) := by decide +kernel
theorem dX_choosePlaces_46 : decode bX_choosePlaces 46 = .ok (.iload_n 2, 1) := by decide +kernel
theorem dX_choosePlaces_47 : decode bX_choosePlaces 47 = .ok (.iload 4, 2) := by decide +kernel
theorem dX_choosePlaces_49 : decode bX_choosePlaces 49 = .ok (.iadd, 1) := by decide +kernel
theorem dX_choosePlaces_50 : decode bX_choosePlaces 50 = .ok (.istore_n 2, 1) := by decide +kernel
theorem dX_choosePlaces_51 : decode bX_choosePlaces 51 = .ok (.iinc 3 1, 3) := by decide +kernel
theorem dX_choosePlaces_54 : decode bX_choosePlaces 54 = .ok (.goto (-48), 3) := by decide +kernel
theorem dX_choosePlaces_57 : decode bX_choosePlaces 57 = .ok (.iload_n 1, 1) := by decide +kernel
theorem dX_choosePlaces_58 : decode bX_choosePlaces 58 = .ok (.ireturn, 1) := by decide +kernel
theorem dX_clearCells_0 : decode bX_clearCells 0 = .ok (.iconst 0, 1) := by decide +kernel
theorem dX_clearCells_1 : decode bX_clearCells 1 = .ok (.istore_n 3, 1) := by decide +kernel
theorem dX_clearCells_2 : decode bX_clearCells 2 = .ok (.iload_n 3, 1) := by decide +kernel
theorem dX_clearCells_3 : decode bX_clearCells 3 = .ok (.iload_n 2, 1) := by decide +kernel
theorem dX_clearCells_4 : decode bX_clearCells 4 = .ok (.if_icmp .ge 17, 3) := by decide +kernel
theorem dX_clearCells_7 : decode bX_clearCells 7 = .ok (.aload_n 0, 1) := by decide +kernel
theorem dX_clearCells_8 : decode bX_clearCells 8 = .ok (.iload_n 1, 1) := by decide +kernel
theorem dX_clearCells_9 : decode bX_clearCells 9 = .ok (.iload_n 3, 1) := by decide +kernel
theorem dX_clearCells_10 : decode bX_clearCells 10 = .ok (.iadd, 1) := by decide +kernel
theorem dX_clearCells_11 : decode bX_clearCells 11 = .ok (.iconst 0, 1) := by decide +kernel
theorem dX_clearCells_12 : decode bX_clearCells 12 = .ok (.invokevirtual 43, 3) := by decide +kernel
theorem dX_clearCells_15 : decode bX_clearCells 15 = .ok (.iinc 3 1, 3) := by decide +kernel
theorem dX_clearCells_18 : decode bX_clearCells 18 = .ok (.goto (-16), 3) := by decide +kernel
theorem dX_clearCells_21 : decode bX_clearCells 21 = .ok (.return_, 1) := by decide +kernel
theorem dX_clearLinks_0 : decode bX_clearLinks 0 = .ok (.iconst 1, 1) := by decide +kernel
theorem dX_clearLinks_1 : decode bX_clearLinks 1 = .ok (.istore_n 1, 1) := by decide +kernel
theorem dX_clearLinks_2 : decode bX_clearLinks 2 = .ok (.iconst 0, 1) := by decide +kernel
theorem dX_clearLinks_3 : decode bX_clearLinks 3 = .ok (.istore_n 2, 1) := by decide +kernel
theorem dX_clearLinks_4 : decode bX_clearLinks 4 = .ok (.iload_n 2, 1) := by decide +kernel
theorem dX_clearLinks_5 : decode bX_clearLinks 5 = .ok (.aload_n 0, 1) := by decide +kernel
theorem dX_clearLinks_6 : decode bX_clearLinks 6 = .ok (.getfield 46, 3) := by decide +kernel
theorem dX_clearLinks_9 : decode bX_clearLinks 9 = .ok (.if_icmp .ge 25, 3) := by decide +kernel
theorem dX_clearLinks_12 : decode bX_clearLinks 12 = .ok (.aload_n 0, 1) := by decide +kernel
theorem dX_clearLinks_13 : decode bX_clearLinks 13 = .ok (.iload_n 1, 1) := by decide +kernel
theorem dX_clearLinks_14 : decode bX_clearLinks 14 = .ok (.iconst 2, 1) := by decide +kernel
theorem dX_clearLinks_15 : decode bX_clearLinks 15 = .ok (.iadd, 1) := by decide +kernel
theorem dX_clearLinks_16 : decode bX_clearLinks 16 = .ok (.iconst 0, 1) := by decide +kernel
theorem dX_clearLinks_17 : decode bX_clearLinks 17 = .ok (.invokevirtual 43, 3) := by decide +kernel
theorem dX_clearLinks_20 : decode bX_clearLinks 20 = .ok (.iload_n 1, 1) := by decide +kernel
theorem dX_clearLinks_21 : decode bX_clearLinks 21 = .ok (.aload_n 0, 1) := by decide +kernel
theorem dX_clearLinks_22 : decode bX_clearLinks 22 = .ok (.iload_n 1, 1) := by decide +kernel
theorem dX_clearLinks_23 : decode bX_clearLinks 23 = .ok (.invokevirtual 101, 3) := by decide +kernel
theorem dX_clearLinks_26 : decode bX_clearLinks 26 = .ok (.iadd, 1) := by decide +kernel
theorem dX_clearLinks_27 : decode bX_clearLinks 27 = .ok (.istore_n 1, 1) := by decide +kernel
theorem dX_clearLinks_28 : decode bX_clearLinks 28 = .ok (.iinc 2 1, 3) := by decide +kernel
theorem dX_clearLinks_31 : decode bX_clearLinks 31 = .ok (.goto (-27), 3) := by decide +kernel
theorem dX_clearLinks_34 : decode bX_clearLinks 34 = .ok (.return_, 1) := by decide +kernel
theorem dX_count_0 : decode bX_count 0 = .ok (.iload_n 1, 1) := by decide +kernel
theorem dX_count_1 : decode bX_count 1 = .ok (.tableswitch 82 0 6 #[43, 48, 53, 62, 67, 72, 77], 43) := by decide +kernel
theorem dX_count_44 : decode bX_count 44 = .ok (.aload_n 0, 1) := by decide +kernel
theorem dX_count_45 : decode bX_count 45 = .ok (.getfield 46, 3) := by decide +kernel
theorem dX_count_48 : decode bX_count 48 = .ok (.ireturn, 1) := by decide +kernel
theorem dX_count_49 : decode bX_count 49 = .ok (.aload_n 0, 1) := by decide +kernel
theorem dX_count_50 : decode bX_count 50 = .ok (.getfield 36, 3) := by decide +kernel
theorem dX_count_53 : decode bX_count 53 = .ok (.ireturn, 1) := by decide +kernel
theorem dX_count_54 : decode bX_count 54 = .ok (.aload_n 0, 1) := by decide +kernel
theorem dX_count_55 : decode bX_count 55 = .ok (.invokevirtual 70, 3) := by decide +kernel
theorem dX_count_58 : decode bX_count 58 = .ok (.aload_n 0, 1) := by decide +kernel
theorem dX_count_59 : decode bX_count 59 = .ok (.getfield 92, 3) := by decide +kernel
theorem dX_count_62 : decode bX_count 62 = .ok (.ireturn, 1) := by decide +kernel
theorem dX_count_63 : decode bX_count 63 = .ok (.aload_n 0, 1) := by decide +kernel
theorem dX_count_64 : decode bX_count 64 = .ok (.getfield 86, 3) := by decide +kernel
theorem dX_count_67 : decode bX_count 67 = .ok (.ireturn, 1) := by decide +kernel
theorem dX_count_68 : decode bX_count 68 = .ok (.aload_n 0, 1) := by decide +kernel
theorem dX_count_69 : decode bX_count 69 = .ok (.getfield 89, 3) := by decide +kernel
theorem dX_count_72 : decode bX_count 72 = .ok (.ireturn, 1) := by decide +kernel
theorem dX_count_73 : decode bX_count 73 = .ok (.aload_n 0, 1) := by decide +kernel
theorem dX_count_74 : decode bX_count 74 = .ok (.getfield 98, 3) := by decide +kernel
theorem dX_count_77 : decode bX_count 77 = .ok (.ireturn, 1) := by decide +kernel
theorem dX_count_78 : decode bX_count 78 = .ok (.aload_n 0, 1) := by decide +kernel
theorem dX_count_79 : decode bX_count 79 = .ok (.getfield 16, 3) := by decide +kernel
theorem dX_count_82 : decode bX_count 82 = .ok (.ireturn, 1) := by decide +kernel
theorem dX_count_83 : decode bX_count 83 = .ok (.new 20, 3) := by decide +kernel
theorem dX_count_86 : decode bX_count 86 = .ok (.dup, 1) := by decide +kernel
theorem dX_count_87 : decode bX_count 87 = .ok (.ldc 104, 2) := by decide +kernel
theorem dX_count_89 : decode bX_count 89 = .ok (.invokespecial 24, 3) := by decide +kernel
theorem dX_count_92 : decode bX_count 92 = .ok (.athrow, 1) := by decide +kernel
theorem dX_fieldCell_0 : decode bX_fieldCell 0 = .ok (.aload_n 0, 1) := by decide +kernel
theorem dX_fieldCell_1 : decode bX_fieldCell 1 = .ok (.iload_n 1, 1) := by decide +kernel
theorem dX_fieldCell_2 : decode bX_fieldCell 2 = .ok (.invokevirtual 95, 3) := by decide +kernel
theorem dX_fieldCell_5 : decode bX_fieldCell 5 = .ok (.iload_n 2, 1) := by decide +kernel
theorem dX_fieldCell_6 : decode bX_fieldCell 6 = .ok (.ifCond .lt 12, 3) := by decide +kernel
theorem dX_fieldCell_9 : decode bX_fieldCell 9 = .ok (.iload_n 2, 1) := by decide +kernel
theorem dX_fieldCell_10 : decode bX_fieldCell 10 = .ok (.aload_n 0, 1) := by decide +kernel
theorem dX_fieldCell_11 : decode bX_fieldCell 11 = .ok (.iload_n 1, 1) := by decide +kernel
theorem dX_fieldCell_12 : decode bX_fieldCell 12 = .ok (.invokevirtual 122, 3) := by decide +kernel
theorem dX_fieldCell_15 : decode bX_fieldCell 15 = .ok (.if_icmp .lt 13, 3) := by decide +kernel
theorem dX_fieldCell_18 : decode bX_fieldCell 18 = .ok (.new 112, 3) := by decide +kernel
theorem dX_fieldCell_21 : decode bX_fieldCell 21 = .ok (.dup, 1) := by decide +kernel
theorem dX_fieldCell_22 : decode bX_fieldCell 22 = .ok (.ldc 125, 2) := by decide +kernel
theorem dX_fieldCell_24 : decode bX_fieldCell 24 = .ok (.invokespecial 116, 3) := by decide +kernel
theorem dX_fieldCell_27 : decode bX_fieldCell 27 = .ok (.athrow, 1) := by decide +kernel
theorem dX_fieldCell_28 : decode bX_fieldCell 28 = .ok (.iload_n 1, 1) := by decide +kernel
theorem dX_fieldCell_29 : decode bX_fieldCell 29 = .ok (.iconst 3, 1) := by decide +kernel
theorem dX_fieldCell_30 : decode bX_fieldCell 30 = .ok (.iadd, 1) := by decide +kernel
theorem dX_fieldCell_31 : decode bX_fieldCell 31 = .ok (.iload_n 2, 1) := by decide +kernel
theorem dX_fieldCell_32 : decode bX_fieldCell 32 = .ok (.iadd, 1) := by decide +kernel
theorem dX_fieldCell_33 : decode bX_fieldCell 33 = .ok (.ireturn, 1) := by decide +kernel
theorem dX_fieldsOf_0 : decode bX_fieldsOf 0 = .ok (.aload_n 0, 1) := by decide +kernel
theorem dX_fieldsOf_1 : decode bX_fieldsOf 1 = .ok (.iload_n 1, 1) := by decide +kernel
theorem dX_fieldsOf_2 : decode bX_fieldsOf 2 = .ok (.iconst 0, 1) := by decide +kernel
theorem dX_fieldsOf_3 : decode bX_fieldsOf 3 = .ok (.iadd, 1) := by decide +kernel
theorem dX_fieldsOf_4 : decode bX_fieldsOf 4 = .ok (.invokevirtual 60, 3) := by decide +kernel
theorem dX_fieldsOf_7 : decode bX_fieldsOf 7 = .ok (.bipush 12, 2) := by decide +kernel
theorem dX_fieldsOf_9 : decode bX_fieldsOf 9 = .ok (.ishr, 1) := by decide +kernel
theorem dX_fieldsOf_10 : decode bX_fieldsOf 10 = .ok (.ireturn, 1) := by decide +kernel
theorem dX_find_0 : decode bX_find 0 = .ok (.iload_n 1, 1) := by decide +kernel
theorem dX_find_1 : decode bX_find 1 = .ok (.ifCond .lt 11, 3) := by decide +kernel
theorem dX_find_4 : decode bX_find 4 = .ok (.iload_n 1, 1) := by decide +kernel
theorem dX_find_5 : decode bX_find 5 = .ok (.aload_n 0, 1) := by decide +kernel
theorem dX_find_6 : decode bX_find 6 = .ok (.getfield 98, 3) := by decide +kernel
theorem dX_find_9 : decode bX_find 9 = .ok (.if_icmp .lt 5, 3) := by decide +kernel
theorem dX_find_12 : decode bX_find 12 = .ok (.iconst 0, 1) := by decide +kernel
theorem dX_find_13 : decode bX_find 13 = .ok (.ireturn, 1) := by decide +kernel
theorem dX_find_14 : decode bX_find 14 = .ok (.iconst 1, 1) := by decide +kernel
theorem dX_find_15 : decode bX_find 15 = .ok (.istore_n 2, 1) := by decide +kernel
theorem dX_find_16 : decode bX_find 16 = .ok (.iconst 0, 1) := by decide +kernel
theorem dX_find_17 : decode bX_find 17 = .ok (.istore_n 3, 1) := by decide +kernel
theorem dX_find_18 : decode bX_find 18 = .ok (.iload_n 3, 1) := by decide +kernel
theorem dX_find_19 : decode bX_find 19 = .ok (.aload_n 0, 1) := by decide +kernel
theorem dX_find_20 : decode bX_find 20 = .ok (.getfield 46, 3) := by decide +kernel
theorem dX_find_23 : decode bX_find 23 = .ok (.if_icmp .ge 32, 3) := by decide +kernel
theorem dX_find_26 : decode bX_find 26 = .ok (.aload_n 0, 1) := by decide +kernel
theorem dX_find_27 : decode bX_find 27 = .ok (.iload_n 2, 1) := by decide +kernel
theorem dX_find_28 : decode bX_find 28 = .ok (.iconst 1, 1) := by decide +kernel
theorem dX_find_29 : decode bX_find 29 = .ok (.iadd, 1) := by decide +kernel
theorem dX_find_30 : decode bX_find 30 = .ok (.invokevirtual 60, 3) := by decide +kernel
theorem dX_find_33 : decode bX_find 33 = .ok (.iconst 1, 1) := by decide +kernel
theorem dX_find_34 : decode bX_find 34 = .ok (.isub, 1) := by decide +kernel
theorem dX_find_35 : decode bX_find 35 = .ok (.iload_n 1, 1) := by decide +kernel
theorem dX_find_36 : decode bX_find 36 = .ok (.if_icmp .ne 5, 3) := by decide +kernel
theorem dX_find_39 : decode bX_find 39 = .ok (.iload_n 2, 1) := by decide +kernel
theorem dX_find_40 : decode bX_find 40 = .ok (.ireturn, 1) := by decide +kernel
theorem dX_find_41 : decode bX_find 41 = .ok (.iload_n 2, 1) := by decide +kernel
theorem dX_find_42 : decode bX_find 42 = .ok (.aload_n 0, 1) := by decide +kernel
theorem dX_find_43 : decode bX_find 43 = .ok (.iload_n 2, 1) := by decide +kernel
theorem dX_find_44 : decode bX_find 44 = .ok (.invokevirtual 101, 3) := by decide +kernel
theorem dX_find_47 : decode bX_find 47 = .ok (.iadd, 1) := by decide +kernel
theorem dX_find_48 : decode bX_find 48 = .ok (.istore_n 2, 1) := by decide +kernel
theorem dX_find_49 : decode bX_find 49 = .ok (.iinc 3 1, 3) := by decide +kernel
theorem dX_find_52 : decode bX_find 52 = .ok (.goto (-34), 3) := by decide +kernel
theorem dX_find_55 : decode bX_find 55 = .ok (.iconst 0, 1) := by decide +kernel
theorem dX_find_56 : decode bX_find 56 = .ok (.ireturn, 1) := by decide +kernel
theorem dX_forgetAll_0 : decode bX_forgetAll 0 = .ok (.aload_n 0, 1) := by decide +kernel
theorem dX_forgetAll_1 : decode bX_forgetAll 1 = .ok (.getfield 9, 3) := by decide +kernel
theorem dX_forgetAll_4 : decode bX_forgetAll 4 = .ok (.iconst 0, 1) := by decide +kernel
theorem dX_forgetAll_5 : decode bX_forgetAll 5 = .ok (.invokestatic 106, 3) := by decide +kernel
theorem dX_forgetAll_8 : decode bX_forgetAll 8 = .ok (.aload_n 0, 1) := by decide +kernel
theorem dX_forgetAll_9 : decode bX_forgetAll 9 = .ok (.iconst 0, 1) := by decide +kernel
theorem dX_forgetAll_10 : decode bX_forgetAll 10 = .ok (.putfield 36, 3) := by decide +kernel
theorem dX_forgetAll_13 : decode bX_forgetAll 13 = .ok (.aload_n 0, 1) := by decide +kernel
theorem dX_forgetAll_14 : decode bX_forgetAll 14 = .ok (.iconst 0, 1) := by decide +kernel
theorem dX_forgetAll_15 : decode bX_forgetAll 15 = .ok (.putfield 46, 3) := by decide +kernel
theorem dX_forgetAll_18 : decode bX_forgetAll 18 = .ok (.aload_n 0, 1) := by decide +kernel
theorem dX_forgetAll_19 : decode bX_forgetAll 19 = .ok (.iconst 0, 1) := by decide +kernel
theorem dX_forgetAll_20 : decode bX_forgetAll 20 = .ok (.putfield 86, 3) := by decide +kernel
theorem dX_forgetAll_23 : decode bX_forgetAll 23 = .ok (.aload_n 0, 1) := by decide +kernel
theorem dX_forgetAll_24 : decode bX_forgetAll 24 = .ok (.iconst 0, 1) := by decide +kernel
theorem dX_forgetAll_25 : decode bX_forgetAll 25 = .ok (.putfield 89, 3) := by decide +kernel
theorem dX_forgetAll_28 : decode bX_forgetAll 28 = .ok (.aload_n 0, 1) := by decide +kernel
theorem dX_forgetAll_29 : decode bX_forgetAll 29 = .ok (.iconst 0, 1) := by decide +kernel
theorem dX_forgetAll_30 : decode bX_forgetAll 30 = .ok (.putfield 98, 3) := by decide +kernel
theorem dX_forgetAll_33 : decode bX_forgetAll 33 = .ok (.return_, 1) := by decide +kernel
theorem dX_get_0 : decode bX_get 0 = .ok (.aload_n 0, 1) := by decide +kernel
theorem dX_get_1 : decode bX_get 1 = .ok (.aload_n 0, 1) := by decide +kernel
theorem dX_get_2 : decode bX_get 2 = .ok (.iload_n 1, 1) := by decide +kernel
theorem dX_get_3 : decode bX_get 3 = .ok (.iload_n 2, 1) := by decide +kernel
theorem dX_get_4 : decode bX_get 4 = .ok (.invokevirtual 49, 3) := by decide +kernel
theorem dX_get_7 : decode bX_get 7 = .ok (.invokevirtual 60, 3) := by decide +kernel
theorem dX_get_10 : decode bX_get 10 = .ok (.ireturn, 1) := by decide +kernel
theorem dX_init_0 : decode bX_init 0 = .ok (.aload_n 0, 1) := by decide +kernel
theorem dX_init_1 : decode bX_init 1 = .ok (.invokespecial 3, 3) := by decide +kernel
theorem dX_init_4 : decode bX_init 4 = .ok (.aload_n 0, 1) := by decide +kernel
theorem dX_init_5 : decode bX_init 5 = .ok (.bipush 16, 2) := by decide +kernel
theorem dX_init_7 : decode bX_init 7 = .ok (.newarray .int, 2) := by decide +kernel
theorem dX_init_9 : decode bX_init 9 = .ok (.putfield 9, 3) := by decide +kernel
theorem dX_init_12 : decode bX_init 12 = .ok (.aload_n 0, 1) := by decide +kernel
theorem dX_init_13 : decode bX_init 13 = .ok (.sipush 2049, 3) := by decide +kernel
theorem dX_init_16 : decode bX_init 16 = .ok (.newarray .int, 2) := by decide +kernel
theorem dX_init_18 : decode bX_init 18 = .ok (.putfield 13, 3) := by decide +kernel
theorem dX_init_21 : decode bX_init 21 = .ok (.aload_n 0, 1) := by decide +kernel
theorem dX_init_22 : decode bX_init 22 = .ok (.sipush 2048, 3) := by decide +kernel
theorem dX_init_25 : decode bX_init 25 = .ok (.putfield 16, 3) := by decide +kernel
theorem dX_init_28 : decode bX_init 28 = .ok (.return_, 1) := by decide +kernel
theorem dX_isObject_0 : decode bX_isObject 0 = .ok (.iconst 1, 1) := by decide +kernel
theorem dX_isObject_1 : decode bX_isObject 1 = .ok (.istore_n 2, 1) := by decide +kernel
theorem dX_isObject_2 : decode bX_isObject 2 = .ok (.iconst 0, 1) := by decide +kernel
theorem dX_isObject_3 : decode bX_isObject 3 = .ok (.istore_n 3, 1) := by decide +kernel
theorem dX_isObject_4 : decode bX_isObject 4 = .ok (.iload_n 3, 1) := by decide +kernel
theorem dX_isObject_5 : decode bX_isObject 5 = .ok (.aload_n 0, 1) := by decide +kernel
theorem dX_isObject_6 : decode bX_isObject 6 = .ok (.getfield 46, 3) := by decide +kernel
theorem dX_isObject_9 : decode bX_isObject 9 = .ok (.if_icmp .ge 29, 3) := by decide +kernel
theorem dX_isObject_12 : decode bX_isObject 12 = .ok (.iload_n 2, 1) := by decide +kernel
theorem dX_isObject_13 : decode bX_isObject 13 = .ok (.iload_n 1, 1) := by decide +kernel
theorem dX_isObject_14 : decode bX_isObject 14 = .ok (.if_icmp .gt 24, 3) := by decide +kernel
theorem dX_isObject_17 : decode bX_isObject 17 = .ok (.iload_n 2, 1) := by decide +kernel
theorem dX_isObject_18 : decode bX_isObject 18 = .ok (.iload_n 1, 1) := by decide +kernel
theorem dX_isObject_19 : decode bX_isObject 19 = .ok (.if_icmp .ne 5, 3) := by decide +kernel
theorem dX_isObject_22 : decode bX_isObject 22 = .ok (.iconst 1, 1) := by decide +kernel
theorem dX_isObject_23 : decode bX_isObject 23 = .ok (.ireturn, 1) := by decide +kernel
theorem dX_isObject_24 : decode bX_isObject 24 = .ok (.iload_n 2, 1) := by decide +kernel
theorem dX_isObject_25 : decode bX_isObject 25 = .ok (.aload_n 0, 1) := by decide +kernel
theorem dX_isObject_26 : decode bX_isObject 26 = .ok (.iload_n 2, 1) := by decide +kernel
theorem dX_isObject_27 : decode bX_isObject 27 = .ok (.invokevirtual 101, 3) := by decide +kernel
theorem dX_isObject_30 : decode bX_isObject 30 = .ok (.iadd, 1) := by decide +kernel
theorem dX_isObject_31 : decode bX_isObject 31 = .ok (.istore_n 2, 1) := by decide +kernel
theorem dX_isObject_32 : decode bX_isObject 32 = .ok (.iinc 3 1, 3) := by decide +kernel
theorem dX_isObject_35 : decode bX_isObject 35 = .ok (.goto (-31), 3) := by decide +kernel
theorem dX_isObject_38 : decode bX_isObject 38 = .ok (.iconst 0, 1) := by decide +kernel
theorem dX_isObject_39 : decode bX_isObject 39 = .ok (.ireturn, 1) := by decide +kernel
theorem dX_isPartCount_0 : decode bX_isPartCount 0 = .ok (.iload_n 0, 1) := by decide +kernel
theorem dX_isPartCount_1 : decode bX_isPartCount 1 = .ok (.ifCond .lt 14, 3) := by decide +kernel
theorem dX_isPartCount_4 : decode bX_isPartCount 4 = .ok (.iload_n 0, 1) := by decide +kernel
theorem dX_isPartCount_5 : decode bX_isPartCount 5 = .ok (.sipush 2000, 3) := by decide +kernel
theorem dX_isPartCount_8 : decode bX_isPartCount 8 = .ok (.if_icmp .gt 7, 3) := by decide +kernel
theorem dX_isPartCount_11 : decode bX_isPartCount 11 = .ok (.iconst 1, 1) := by decide +kernel
theorem dX_isPartCount_12 : decode bX_isPartCount 12 = .ok (.goto 4, 3) := by decide +kernel
theorem dX_isPartCount_15 : decode bX_isPartCount 15 = .ok (.iconst 0, 1) := by decide +kernel
theorem dX_isPartCount_16 : decode bX_isPartCount 16 = .ok (.ireturn, 1) := by decide +kernel
theorem dX_make_0 : decode bX_make 0 = .ok (.iload_n 1, 1) := by decide +kernel
theorem dX_make_1 : decode bX_make 1 = .ok (.invokestatic 30, 3) := by decide +kernel
theorem dX_make_4 : decode bX_make 4 = .ok (.ifCond .eq 10, 3) := by decide +kernel
theorem dX_make_7 : decode bX_make 7 = .ok (.iload_n 2, 1) := by decide +kernel
theorem dX_make_8 : decode bX_make 8 = .ok (.invokestatic 30, 3) := by decide +kernel
theorem dX_make_11 : decode bX_make 11 = .ok (.ifCond .ne 13, 3) := by decide +kernel
theorem dX_make_14 : decode bX_make 14 = .ok (.new 20, 3) := by decide +kernel
theorem dX_make_17 : decode bX_make 17 = .ok (.dup, 1) := by decide +kernel
theorem dX_make_18 : decode bX_make 18 = .ok (.ldc 34, 2) := by decide +kernel
theorem dX_make_20 : decode bX_make 20 = .ok (.invokespecial 24, 3) := by decide +kernel
theorem dX_make_23 : decode bX_make 23 = .ok (.athrow, 1) := by decide +kernel
theorem dX_make_24 : decode bX_make 24 = .ok (.iconst 3, 1) := by decide +kernel
theorem dX_make_25 : decode bX_make 25 = .ok (.iload_n 1, 1) := by decide +kernel
theorem dX_make_26 : decode bX_make 26 = .ok (.iadd, 1) := by decide +kernel
theorem dX_make_27 : decode bX_make 27 = .ok (.iload_n 2, 1) := by decide +kernel
theorem dX_make_28 : decode bX_make 28 = .ok (.iadd, 1) := by decide +kernel
theorem dX_make_29 : decode bX_make 29 = .ok (.istore_n 3, 1) := by decide +kernel
theorem dX_make_30 : decode bX_make 30 = .ok (.iload_n 3, 1) := by decide +kernel
theorem dX_make_31 : decode bX_make 31 = .ok (.aload_n 0, 1) := by decide +kernel
theorem dX_make_32 : decode bX_make 32 = .ok (.getfield 16, 3) := by decide +kernel
theorem dX_make_35 : decode bX_make 35 = .ok (.aload_n 0, 1) := by decide +kernel
theorem dX_make_36 : decode bX_make 36 = .ok (.getfield 36, 3) := by decide +kernel
theorem dX_make_39 : decode bX_make 39 = .ok (.isub, 1) := by decide +kernel
theorem dX_make_40 : decode bX_make 40 = .ok (.if_icmp .le 5, 3) := by decide +kernel
theorem dX_make_43 : decode bX_make 43 = .ok (.iconst 0, 1) := by decide +kernel
theorem dX_make_44 : decode bX_make 44 = .ok (.ireturn, 1) := by decide +kernel
theorem dX_make_45 : decode bX_make 45 = .ok (.aload_n 0, 1) := by decide +kernel
theorem dX_make_46 : decode bX_make 46 = .ok (.getfield 36, 3) := by decide +kernel
theorem dX_make_49 : decode bX_make 49 = .ok (.iconst 1, 1) := by decide +kernel
theorem dX_make_50 : decode bX_make 50 = .ok (.iadd, 1) := by decide +kernel
theorem dX_make_51 : decode bX_make 51 = .ok (.istore 4, 2) := by decide +kernel
theorem dX_make_53 : decode bX_make 53 = .ok (.aload_n 0, 1) := by decide +kernel
theorem dX_make_54 : decode bX_make 54 = .ok (.iload 4, 2) := by decide +kernel
theorem dX_make_56 : decode bX_make 56 = .ok (.iload_n 3, 1) := by decide +kernel
theorem dX_make_57 : decode bX_make 57 = .ok (.invokevirtual 39, 3) := by decide +kernel
theorem dX_make_60 : decode bX_make 60 = .ok (.aload_n 0, 1) := by decide +kernel
theorem dX_make_61 : decode bX_make 61 = .ok (.iload 4, 2) := by decide +kernel
theorem dX_make_63 : decode bX_make 63 = .ok (.iconst 0, 1) := by decide +kernel
theorem dX_make_64 : decode bX_make 64 = .ok (.iadd, 1) := by decide +kernel
theorem dX_make_65 : decode bX_make 65 = .ok (.iload_n 1, 1) := by decide +kernel
theorem dX_make_66 : decode bX_make 66 = .ok (.bipush 12, 2) := by decide +kernel
theorem dX_make_68 : decode bX_make 68 = .ok (.ishl, 1) := by decide +kernel
theorem dX_make_69 : decode bX_make 69 = .ok (.iload_n 2, 1) := by decide +kernel
theorem dX_make_70 : decode bX_make 70 = .ok (.ior, 1) := by decide +kernel
theorem dX_make_71 : decode bX_make 71 = .ok (.invokevirtual 43, 3) := by decide +kernel
theorem dX_make_74 : decode bX_make 74 = .ok (.aload_n 0, 1) := by decide +kernel
theorem dX_make_75 : decode bX_make 75 = .ok (.dup, 1) := by decide +kernel
theorem dX_make_76 : decode bX_make 76 = .ok (.getfield 36, 3) := by decide +kernel
theorem dX_make_79 : decode bX_make 79 = .ok (.iload_n 3, 1) := by decide +kernel
theorem dX_make_80 : decode bX_make 80 = .ok (.iadd, 1) := by decide +kernel
theorem dX_make_81 : decode bX_make 81 = .ok (.putfield 36, 3) := by decide +kernel
theorem dX_make_84 : decode bX_make 84 = .ok (.aload_n 0, 1) := by decide +kernel
theorem dX_make_85 : decode bX_make 85 = .ok (.dup, 1) := by decide +kernel
theorem dX_make_86 : decode bX_make 86 = .ok (.getfield 46, 3) := by decide +kernel
theorem dX_make_89 : decode bX_make 89 = .ok (.iconst 1, 1) := by decide +kernel
theorem dX_make_90 : decode bX_make 90 = .ok (.iadd, 1) := by decide +kernel
theorem dX_make_91 : decode bX_make 91 = .ok (.putfield 46, 3) := by decide +kernel
theorem dX_make_94 : decode bX_make 94 = .ok (.iload 4, 2) := by decide +kernel
theorem dX_make_96 : decode bX_make 96 = .ok (.ireturn, 1) := by decide +kernel
theorem dX_moveCells_0 : decode bX_moveCells 0 = .ok (.iload_n 2, 1) := by decide +kernel
theorem dX_moveCells_1 : decode bX_moveCells 1 = .ok (.iconst 1, 1) := by decide +kernel
theorem dX_moveCells_2 : decode bX_moveCells 2 = .ok (.if_icmp .lt 37, 3) := by decide +kernel
theorem dX_moveCells_5 : decode bX_moveCells 5 = .ok (.iload_n 2, 1) := by decide +kernel
theorem dX_moveCells_6 : decode bX_moveCells 6 = .ok (.iload_n 1, 1) := by decide +kernel
theorem dX_moveCells_7 : decode bX_moveCells 7 = .ok (.if_icmp .ge 32, 3) := by decide +kernel
theorem dX_moveCells_10 : decode bX_moveCells 10 = .ok (.iload_n 3, 1) := by decide +kernel
theorem dX_moveCells_11 : decode bX_moveCells 11 = .ok (.ifCond .le 28, 3) := by decide +kernel
theorem dX_moveCells_14 : decode bX_moveCells 14 = .ok (.iload_n 3, 1) := by decide +kernel
theorem dX_moveCells_15 : decode bX_moveCells 15 = .ok (.aload_n 0, 1) := by decide +kernel
theorem dX_moveCells_16 : decode bX_moveCells 16 = .ok (.getfield 13, 3) := by decide +kernel
theorem dX_moveCells_19 : decode bX_moveCells 19 = .ok (.arraylength, 1) := by decide +kernel
theorem dX_moveCells_20 : decode bX_moveCells 20 = .ok (.iload_n 1, 1) := by decide +kernel
theorem dX_moveCells_21 : decode bX_moveCells 21 = .ok (.isub, 1) := by decide +kernel
theorem dX_moveCells_22 : decode bX_moveCells 22 = .ok (.if_icmp .gt 17, 3) := by decide +kernel
theorem dX_moveCells_25 : decode bX_moveCells 25 = .ok (.aload_n 0, 1) := by decide +kernel
theorem dX_moveCells_26 : decode bX_moveCells 26 = .ok (.getfield 13, 3) := by decide +kernel
theorem dX_moveCells_29 : decode bX_moveCells 29 = .ok (.iload_n 1, 1) := by decide +kernel
theorem dX_moveCells_30 : decode bX_moveCells 30 = .ok (.aload_n 0, 1) := by decide +kernel
theorem dX_moveCells_31 : decode bX_moveCells 31 = .ok (.getfield 13, 3) := by decide +kernel
theorem dX_moveCells_34 : decode bX_moveCells 34 = .ok (.iload_n 2, 1) := by decide +kernel
theorem dX_moveCells_35 : decode bX_moveCells 35 = .ok (.iload_n 3, 1) := by decide +kernel
theorem dX_moveCells_36 : decode bX_moveCells 36 = .ok (.invokestatic 132, 3) := by decide +kernel
theorem dX_moveCells_39 : decode bX_moveCells 39 = .ok (.return_, 1) := by decide +kernel
theorem dX_moveReached_0 : decode bX_moveReached 0 = .ok (.iconst 1, 1) := by decide +kernel
theorem dX_moveReached_1 : decode bX_moveReached 1 = .ok (.istore_n 1, 1) := by decide +kernel
theorem dX_moveReached_2 : decode bX_moveReached 2 = .ok (.iconst 0, 1) := by decide +kernel
theorem dX_moveReached_3 : decode bX_moveReached 3 = .ok (.istore_n 2, 1) := by decide +kernel
theorem dX_moveReached_4 : decode bX_moveReached 4 = .ok (.iload_n 2, 1) := by decide +kernel
theorem dX_moveReached_5 : decode bX_moveReached 5 = .ok (.aload_n 0, 1) := by decide +kernel
theorem dX_moveReached_6 : decode bX_moveReached 6 = .ok (.getfield 46, 3) := by decide +kernel
theorem dX_moveReached_9 : decode bX_moveReached 9 = .ok (.if_icmp .ge 41, 3) := by decide +kernel
theorem dX_moveReached_12 : decode bX_moveReached 12 = .ok (.aload_n 0, 1) := by decide +kernel
theorem dX_moveReached_13 : decode bX_moveReached 13 = .ok (.iload_n 1, 1) := by decide +kernel
theorem dX_moveReached_14 : decode bX_moveReached 14 = .ok (.invokevirtual 101, 3) := by decide +kernel
theorem dX_moveReached_17 : decode bX_moveReached 17 = .ok (.istore_n 3, 1) := by decide +kernel
theorem dX_moveReached_18 : decode bX_moveReached 18 = .ok (.aload_n 0, 1) := by decide +kernel
theorem dX_moveReached_19 : decode bX_moveReached 19 = .ok (.iload_n 1, 1) := by decide +kernel
theorem dX_moveReached_20 : decode bX_moveReached 20 = .ok (.iconst 2, 1) := by decide +kernel
theorem dX_moveReached_21 : decode bX_moveReached 21 = .ok (.iadd, 1) := by decide +kernel
theorem dX_moveReached_22 : decode bX_moveReached 22 = .ok (.invokevirtual 60, 3) := by decide +kernel
theorem dX_moveReached_25 : decode bX_moveReached 25 = .ok (.istore 4, 2) := by decide +kernel
theorem dX_moveReached_27 : decode bX_moveReached 27 = .ok (.iload 4, 2) := by decide +kernel
theorem dX_moveReached_29 : decode bX_moveReached 29 = .ok (.ifCond .eq 11, 3) := by decide +kernel
theorem dX_moveReached_32 : decode bX_moveReached 32 = .ok (.aload_n 0, 1) := by decide +kernel
theorem dX_moveReached_33 : decode bX_moveReached 33 = .ok (.iload_n 1, 1) := by decide +kernel
theorem dX_moveReached_34 : decode bX_moveReached 34 = .ok (.iload 4, 2) := by decide +kernel
theorem dX_moveReached_36 : decode bX_moveReached 36 = .ok (.iload_n 3, 1) := by decide +kernel
theorem dX_moveReached_37 : decode bX_moveReached 37 = .ok (.invokevirtual 159, 3) := by decide +kernel
theorem dX_moveReached_40 : decode bX_moveReached 40 = .ok (.iload_n 1, 1) := by decide +kernel
theorem dX_moveReached_41 : decode bX_moveReached 41 = .ok (.iload_n 3, 1) := by decide +kernel
theorem dX_moveReached_42 : decode bX_moveReached 42 = .ok (.iadd, 1) := by decide +kernel
theorem dX_moveReached_43 : decode bX_moveReached 43 = .ok (.istore_n 1, 1) := by decide +kernel
theorem dX_moveReached_44 : decode bX_moveReached 44 = .ok (.iinc 2 1, 3) := by decide +kernel
theorem dX_moveReached_47 : decode bX_moveReached 47 = .ok (.goto (-43), 3) := by decide +kernel
theorem dX_moveReached_50 : decode bX_moveReached 50 = .ok (.return_, 1) := by decide +kernel
theorem dX_needObject_0 : decode bX_needObject 0 = .ok (.aload_n 0, 1) := by decide +kernel
theorem dX_needObject_1 : decode bX_needObject 1 = .ok (.iload_n 1, 1) := by decide +kernel
theorem dX_needObject_2 : decode bX_needObject 2 = .ok (.invokevirtual 117, 3) := by decide +kernel
theorem dX_needObject_5 : decode bX_needObject 5 = .ok (.ifCond .ne 13, 3) := by decide +kernel
theorem dX_needObject_8 : decode bX_needObject 8 = .ok (.new 112, 3) := by decide +kernel
theorem dX_needObject_11 : decode bX_needObject 11 = .ok (.dup, 1) := by decide +kernel
theorem dX_needObject_12 : decode bX_needObject 12 = .ok (.ldc 120, 2) := by decide +kernel
theorem dX_needObject_14 : decode bX_needObject 14 = .ok (.invokespecial 116, 3) := by decide +kernel
theorem dX_needObject_17 : decode bX_needObject 17 = .ok (.athrow, 1) := by decide +kernel
theorem dX_needObject_18 : decode bX_needObject 18 = .ok (.return_, 1) := by decide +kernel
theorem dX_needObjectOrNothing_0 : decode bX_needObjectOrNothing 0 = .ok (.iload_n 1, 1) := by decide +kernel
theorem dX_needObjectOrNothing_1 : decode bX_needObjectOrNothing 1 = .ok (.ifCond .eq 8, 3) := by decide +kernel
theorem dX_needObjectOrNothing_4 : decode bX_needObjectOrNothing 4 = .ok (.aload_n 0, 1) := by decide +kernel
theorem dX_needObjectOrNothing_5 : decode bX_needObjectOrNothing 5 = .ok (.iload_n 1, 1) := by decide +kernel
theorem dX_needObjectOrNothing_6 : decode bX_needObjectOrNothing 6 = .ok (.invokevirtual 95, 3) := by decide +kernel
theorem dX_needObjectOrNothing_9 : decode bX_needObjectOrNothing 9 = .ok (.return_, 1) := by decide +kernel
theorem dX_needRoot_0 : decode bX_needRoot 0 = .ok (.iload_n 1, 1) := by decide +kernel
theorem dX_needRoot_1 : decode bX_needRoot 1 = .ok (.ifCond .lt 12, 3) := by decide +kernel
theorem dX_needRoot_4 : decode bX_needRoot 4 = .ok (.iload_n 1, 1) := by decide +kernel
theorem dX_needRoot_5 : decode bX_needRoot 5 = .ok (.aload_n 0, 1) := by decide +kernel
theorem dX_needRoot_6 : decode bX_needRoot 6 = .ok (.getfield 9, 3) := by decide +kernel
theorem dX_needRoot_9 : decode bX_needRoot 9 = .ok (.arraylength, 1) := by decide +kernel
theorem dX_needRoot_10 : decode bX_needRoot 10 = .ok (.if_icmp .lt 13, 3) := by decide +kernel
theorem dX_needRoot_13 : decode bX_needRoot 13 = .ok (.new 112, 3) := by decide +kernel
theorem dX_needRoot_16 : decode bX_needRoot 16 = .ok (.dup, 1) := by decide +kernel
theorem dX_needRoot_17 : decode bX_needRoot 17 = .ok (.ldc 114, 2) := by decide +kernel
theorem dX_needRoot_19 : decode bX_needRoot 19 = .ok (.invokespecial 116, 3) := by decide +kernel
theorem dX_needRoot_22 : decode bX_needRoot 22 = .ok (.athrow, 1) := by decide +kernel
theorem dX_needRoot_23 : decode bX_needRoot 23 = .ok (.return_, 1) := by decide +kernel
theorem dX_next_0 : decode bX_next 0 = .ok (.aload_n 0, 1) := by decide +kernel
theorem dX_next_1 : decode bX_next 1 = .ok (.iload_n 1, 1) := by decide +kernel
theorem dX_next_2 : decode bX_next 2 = .ok (.invokevirtual 53, 3) := by decide +kernel
theorem dX_next_5 : decode bX_next 5 = .ok (.iload_n 1, 1) := by decide +kernel
theorem dX_next_6 : decode bX_next 6 = .ok (.ifCond .ne 7, 3) := by decide +kernel
theorem dX_next_9 : decode bX_next 9 = .ok (.iconst 1, 1) := by decide +kernel
theorem dX_next_10 : decode bX_next 10 = .ok (.goto 10, 3) := by decide +kernel
theorem dX_next_13 : decode bX_next 13 = .ok (.iload_n 1, 1) := by decide +kernel
theorem dX_next_14 : decode bX_next 14 = .ok (.aload_n 0, 1) := by decide +kernel
theorem dX_next_15 : decode bX_next 15 = .ok (.iload_n 1, 1) := by decide +kernel
theorem dX_next_16 : decode bX_next 16 = .ok (.invokevirtual 101, 3) := by decide +kernel
theorem dX_next_19 : decode bX_next 19 = .ok (.iadd, 1) := by decide +kernel
theorem dX_next_20 : decode bX_next 20 = .ok (.istore_n 2, 1) := by decide +kernel
theorem dX_next_21 : decode bX_next 21 = .ok (.iload_n 2, 1) := by decide +kernel
theorem dX_next_22 : decode bX_next 22 = .ok (.aload_n 0, 1) := by decide +kernel
theorem dX_next_23 : decode bX_next 23 = .ok (.getfield 36, 3) := by decide +kernel
theorem dX_next_26 : decode bX_next 26 = .ok (.if_icmp .gt 7, 3) := by decide +kernel
theorem dX_next_29 : decode bX_next 29 = .ok (.iload_n 2, 1) := by decide +kernel
theorem dX_next_30 : decode bX_next 30 = .ok (.goto 4, 3) := by decide +kernel
theorem dX_next_33 : decode bX_next 33 = .ok (.iconst 0, 1) := by decide +kernel
theorem dX_next_34 : decode bX_next 34 = .ok (.ireturn, 1) := by decide +kernel
theorem dX_number_0 : decode bX_number 0 = .ok (.aload_n 0, 1) := by decide +kernel
theorem dX_number_1 : decode bX_number 1 = .ok (.iload_n 1, 1) := by decide +kernel
theorem dX_number_2 : decode bX_number 2 = .ok (.invokevirtual 95, 3) := by decide +kernel
theorem dX_number_5 : decode bX_number 5 = .ok (.aload_n 0, 1) := by decide +kernel
theorem dX_number_6 : decode bX_number 6 = .ok (.iload_n 1, 1) := by decide +kernel
theorem dX_number_7 : decode bX_number 7 = .ok (.iconst 1, 1) := by decide +kernel
theorem dX_number_8 : decode bX_number 8 = .ok (.iadd, 1) := by decide +kernel
theorem dX_number_9 : decode bX_number 9 = .ok (.invokevirtual 60, 3) := by decide +kernel
theorem dX_number_12 : decode bX_number 12 = .ok (.ifCond .ne 24, 3) := by decide +kernel
theorem dX_number_15 : decode bX_number 15 = .ok (.aload_n 0, 1) := by decide +kernel
theorem dX_number_16 : decode bX_number 16 = .ok (.dup, 1) := by decide +kernel
theorem dX_number_17 : decode bX_number 17 = .ok (.getfield 98, 3) := by decide +kernel
theorem dX_number_20 : decode bX_number 20 = .ok (.iconst 1, 1) := by decide +kernel
theorem dX_number_21 : decode bX_number 21 = .ok (.iadd, 1) := by decide +kernel
theorem dX_number_22 : decode bX_number 22 = .ok (.putfield 98, 3) := by decide +kernel
theorem dX_number_25 : decode bX_number 25 = .ok (.aload_n 0, 1) := by decide +kernel
theorem dX_number_26 : decode bX_number 26 = .ok (.iload_n 1, 1) := by decide +kernel
theorem dX_number_27 : decode bX_number 27 = .ok (.iconst 1, 1) := by decide +kernel
theorem dX_number_28 : decode bX_number 28 = .ok (.iadd, 1) := by decide +kernel
theorem dX_number_29 : decode bX_number 29 = .ok (.aload_n 0, 1) := by decide +kernel
theorem dX_number_30 : decode bX_number 30 = .ok (.getfield 98, 3) := by decide +kernel
theorem dX_number_33 : decode bX_number 33 = .ok (.invokevirtual 43, 3) := by decide +kernel
theorem dX_number_36 : decode bX_number 36 = .ok (.aload_n 0, 1) := by decide +kernel
theorem dX_number_37 : decode bX_number 37 = .ok (.iload_n 1, 1) := by decide +kernel
theorem dX_number_38 : decode bX_number 38 = .ok (.iconst 1, 1) := by decide +kernel
theorem dX_number_39 : decode bX_number 39 = .ok (.iadd, 1) := by decide +kernel
theorem dX_number_40 : decode bX_number 40 = .ok (.invokevirtual 60, 3) := by decide +kernel
theorem dX_number_43 : decode bX_number 43 = .ok (.iconst 1, 1) := by decide +kernel
theorem dX_number_44 : decode bX_number 44 = .ok (.isub, 1) := by decide +kernel
theorem dX_number_45 : decode bX_number 45 = .ok (.ireturn, 1) := by decide +kernel
theorem dX_placeOf_0 : decode bX_placeOf 0 = .ok (.iload_n 1, 1) := by decide +kernel
theorem dX_placeOf_1 : decode bX_placeOf 1 = .ok (.ifCond .ne 7, 3) := by decide +kernel
theorem dX_placeOf_4 : decode bX_placeOf 4 = .ok (.iconst 0, 1) := by decide +kernel
theorem dX_placeOf_5 : decode bX_placeOf 5 = .ok (.goto 10, 3) := by decide +kernel
theorem dX_placeOf_8 : decode bX_placeOf 8 = .ok (.aload_n 0, 1) := by decide +kernel
theorem dX_placeOf_9 : decode bX_placeOf 9 = .ok (.iload_n 1, 1) := by decide +kernel
theorem dX_placeOf_10 : decode bX_placeOf 10 = .ok (.iconst 2, 1) := by decide +kernel
theorem dX_placeOf_11 : decode bX_placeOf 11 = .ok (.iadd, 1) := by decide +kernel
theorem dX_placeOf_12 : decode bX_placeOf 12 = .ok (.invokevirtual 60, 3) := by decide +kernel
theorem dX_placeOf_15 : decode bX_placeOf 15 = .ok (.ireturn, 1) := by decide +kernel
theorem dX_put_0 : decode bX_put 0 = .ok (.aload_n 0, 1) := by decide +kernel
theorem dX_put_1 : decode bX_put 1 = .ok (.aload_n 0, 1) := by decide +kernel
theorem dX_put_2 : decode bX_put 2 = .ok (.iload_n 1, 1) := by decide +kernel
theorem dX_put_3 : decode bX_put 3 = .ok (.iload_n 2, 1) := by decide +kernel
theorem dX_put_4 : decode bX_put 4 = .ok (.invokevirtual 64, 3) := by decide +kernel
theorem dX_put_7 : decode bX_put 7 = .ok (.iload_n 3, 1) := by decide +kernel
theorem dX_put_8 : decode bX_put 8 = .ok (.invokevirtual 57, 3) := by decide +kernel
theorem dX_put_11 : decode bX_put 11 = .ok (.ireturn, 1) := by decide +kernel
theorem dX_reach_0 : decode bX_reach 0 = .ok (.iload_n 1, 1) := by decide +kernel
theorem dX_reach_1 : decode bX_reach 1 = .ok (.ifCond .eq 13, 3) := by decide +kernel
theorem dX_reach_4 : decode bX_reach 4 = .ok (.aload_n 0, 1) := by decide +kernel
theorem dX_reach_5 : decode bX_reach 5 = .ok (.iload_n 1, 1) := by decide +kernel
theorem dX_reach_6 : decode bX_reach 6 = .ok (.iconst 2, 1) := by decide +kernel
theorem dX_reach_7 : decode bX_reach 7 = .ok (.iadd, 1) := by decide +kernel
theorem dX_reach_8 : decode bX_reach 8 = .ok (.invokevirtual 60, 3) := by decide +kernel
theorem dX_reach_11 : decode bX_reach 11 = .ok (.ifCond .eq 4, 3) := by decide +kernel
theorem dX_reach_14 : decode bX_reach 14 = .ok (.return_, 1) := by decide +kernel
theorem dX_reach_15 : decode bX_reach 15 = .ok (.aload_n 0, 1) := by decide +kernel
theorem dX_reach_16 : decode bX_reach 16 = .ok (.iload_n 1, 1) := by decide +kernel
theorem dX_reach_17 : decode bX_reach 17 = .ok (.iconst 2, 1) := by decide +kernel
theorem dX_reach_18 : decode bX_reach 18 = .ok (.iadd, 1) := by decide +kernel
theorem dX_reach_19 : decode bX_reach 19 = .ok (.iconst (-1), 1) := by decide +kernel
theorem dX_reach_20 : decode bX_reach 20 = .ok (.invokevirtual 43, 3) := by decide +kernel
theorem dX_reach_23 : decode bX_reach 23 = .ok (.aload_n 0, 1) := by decide +kernel
theorem dX_reach_24 : decode bX_reach 24 = .ok (.getfield 141, 3) := by decide +kernel
theorem dX_reach_27 : decode bX_reach 27 = .ok (.ifCond .ne 11, 3) := by decide +kernel
theorem dX_reach_30 : decode bX_reach 30 = .ok (.aload_n 0, 1) := by decide +kernel
theorem dX_reach_31 : decode bX_reach 31 = .ok (.iload_n 1, 1) := by decide +kernel
theorem dX_reach_32 : decode bX_reach 32 = .ok (.putfield 141, 3) := by decide +kernel
theorem dX_reach_35 : decode bX_reach 35 = .ok (.goto 14, 3) := by decide +kernel
theorem dX_reach_38 : decode bX_reach 38 = .ok (.aload_n 0, 1) := by decide +kernel
theorem dX_reach_39 : decode bX_reach 39 = .ok (.aload_n 0, 1) := by decide +kernel
theorem dX_reach_40 : decode bX_reach 40 = .ok (.getfield 144, 3) := by decide +kernel
theorem dX_reach_43 : decode bX_reach 43 = .ok (.iconst 2, 1) := by decide +kernel
theorem dX_reach_44 : decode bX_reach 44 = .ok (.iadd, 1) := by decide +kernel
theorem dX_reach_45 : decode bX_reach 45 = .ok (.iload_n 1, 1) := by decide +kernel
theorem dX_reach_46 : decode bX_reach 46 = .ok (.invokevirtual 43, 3) := by decide +kernel
theorem dX_reach_49 : decode bX_reach 49 = .ok (.aload_n 0, 1) := by decide +kernel
theorem dX_reach_50 : decode bX_reach 50 = .ok (.iload_n 1, 1) := by decide +kernel
theorem dX_reach_51 : decode bX_reach 51 = .ok (.putfield 144, 3) := by decide +kernel
theorem dX_reach_54 : decode bX_reach 54 = .ok (.aload_n 0, 1) := by decide +kernel
theorem dX_reach_55 : decode bX_reach 55 = .ok (.dup, 1) := by decide +kernel
theorem dX_reach_56 : decode bX_reach 56 = .ok (.getfield 92, 3) := by decide +kernel
theorem dX_reach_59 : decode bX_reach 59 = .ok (.iconst 1, 1) := by decide +kernel
theorem dX_reach_60 : decode bX_reach 60 = .ok (.iadd, 1) := by decide +kernel
theorem dX_reach_61 : decode bX_reach 61 = .ok (.putfield 92, 3) := by decide +kernel
theorem dX_reach_64 : decode bX_reach 64 = .ok (.return_, 1) := by decide +kernel
theorem dX_reachFieldsOf_0 : decode bX_reachFieldsOf 0 = .ok (.aload_n 0, 1) := by decide +kernel
theorem dX_reachFieldsOf_1 : decode bX_reachFieldsOf 1 = .ok (.iload_n 1, 1) := by decide +kernel
theorem dX_reachFieldsOf_2 : decode bX_reachFieldsOf 2 = .ok (.invokevirtual 122, 3) := by decide +kernel
theorem dX_reachFieldsOf_5 : decode bX_reachFieldsOf 5 = .ok (.istore_n 2, 1) := by decide +kernel
theorem dX_reachFieldsOf_6 : decode bX_reachFieldsOf 6 = .ok (.iconst 0, 1) := by decide +kernel
theorem dX_reachFieldsOf_7 : decode bX_reachFieldsOf 7 = .ok (.istore_n 3, 1) := by decide +kernel
theorem dX_reachFieldsOf_8 : decode bX_reachFieldsOf 8 = .ok (.iload_n 3, 1) := by decide +kernel
theorem dX_reachFieldsOf_9 : decode bX_reachFieldsOf 9 = .ok (.iload_n 2, 1) := by decide +kernel
theorem dX_reachFieldsOf_10 : decode bX_reachFieldsOf 10 = .ok (.if_icmp .ge 22, 3) := by decide +kernel
theorem dX_reachFieldsOf_13 : decode bX_reachFieldsOf 13 = .ok (.aload_n 0, 1) := by decide +kernel
theorem dX_reachFieldsOf_14 : decode bX_reachFieldsOf 14 = .ok (.aload_n 0, 1) := by decide +kernel
theorem dX_reachFieldsOf_15 : decode bX_reachFieldsOf 15 = .ok (.iload_n 1, 1) := by decide +kernel
theorem dX_reachFieldsOf_16 : decode bX_reachFieldsOf 16 = .ok (.iconst 3, 1) := by decide +kernel
theorem dX_reachFieldsOf_17 : decode bX_reachFieldsOf 17 = .ok (.iadd, 1) := by decide +kernel
theorem dX_reachFieldsOf_18 : decode bX_reachFieldsOf 18 = .ok (.iload_n 3, 1) := by decide +kernel
theorem dX_reachFieldsOf_19 : decode bX_reachFieldsOf 19 = .ok (.iadd, 1) := by decide +kernel
theorem dX_reachFieldsOf_20 : decode bX_reachFieldsOf 20 = .ok (.invokevirtual 60, 3) := by decide +kernel
theorem dX_reachFieldsOf_23 : decode bX_reachFieldsOf 23 = .ok (.invokevirtual 147, 3) := by decide +kernel
theorem dX_reachFieldsOf_26 : decode bX_reachFieldsOf 26 = .ok (.iinc 3 1, 3) := by decide +kernel
theorem dX_reachFieldsOf_29 : decode bX_reachFieldsOf 29 = .ok (.goto (-21), 3) := by decide +kernel
theorem dX_reachFieldsOf_32 : decode bX_reachFieldsOf 32 = .ok (.return_, 1) := by decide +kernel
theorem dX_read_0 : decode bX_read 0 = .ok (.iload_n 1, 1) := by decide +kernel
theorem dX_read_1 : decode bX_read 1 = .ok (.iconst 1, 1) := by decide +kernel
theorem dX_read_2 : decode bX_read 2 = .ok (.if_icmp .lt 21, 3) := by decide +kernel
theorem dX_read_5 : decode bX_read 5 = .ok (.iload_n 1, 1) := by decide +kernel
theorem dX_read_6 : decode bX_read 6 = .ok (.aload_n 0, 1) := by decide +kernel
theorem dX_read_7 : decode bX_read 7 = .ok (.getfield 13, 3) := by decide +kernel
theorem dX_read_10 : decode bX_read 10 = .ok (.arraylength, 1) := by decide +kernel
theorem dX_read_11 : decode bX_read 11 = .ok (.if_icmp .ge 12, 3) := by decide +kernel
theorem dX_read_14 : decode bX_read 14 = .ok (.aload_n 0, 1) := by decide +kernel
theorem dX_read_15 : decode bX_read 15 = .ok (.getfield 13, 3) := by decide +kernel
theorem dX_read_18 : decode bX_read 18 = .ok (.iload_n 1, 1) := by decide +kernel
theorem dX_read_19 : decode bX_read 19 = .ok (.iaload, 1) := by decide +kernel
theorem dX_read_20 : decode bX_read 20 = .ok (.goto 4, 3) := by decide +kernel
theorem dX_read_23 : decode bX_read 23 = .ok (.iconst 0, 1) := by decide +kernel
theorem dX_read_24 : decode bX_read 24 = .ok (.ireturn, 1) := by decide +kernel
theorem dX_redirectFields_0 : decode bX_redirectFields 0 = .ok (.iconst 1, 1) := by decide +kernel
theorem dX_redirectFields_1 : decode bX_redirectFields 1 = .ok (.istore_n 1, 1) := by decide +kernel
theorem dX_redirectFields_2 : decode bX_redirectFields 2 = .ok (.iconst 0, 1) := by decide +kernel
theorem dX_redirectFields_3 : decode bX_redirectFields 3 = .ok (.istore_n 2, 1) := by decide +kernel
theorem dX_redirectFields_4 : decode bX_redirectFields 4 = .ok (.iload_n 2, 1) := by decide +kernel
theorem dX_redirectFields_5 : decode bX_redirectFields 5 = .ok (.aload_n 0, 1) := by decide +kernel
theorem dX_redirectFields_6 : decode bX_redirectFields 6 = .ok (.getfield 46, 3) := by decide +kernel
theorem dX_redirectFields_9 : decode bX_redirectFields 9 = .ok (.if_icmp .ge 32, 3) := by decide +kernel
theorem dX_redirectFields_12 : decode bX_redirectFields 12 = .ok (.aload_n 0, 1) := by decide +kernel
theorem dX_redirectFields_13 : decode bX_redirectFields 13 = .ok (.iload_n 1, 1) := by decide +kernel
theorem dX_redirectFields_14 : decode bX_redirectFields 14 = .ok (.iconst 2, 1) := by decide +kernel
theorem dX_redirectFields_15 : decode bX_redirectFields 15 = .ok (.iadd, 1) := by decide +kernel
theorem dX_redirectFields_16 : decode bX_redirectFields 16 = .ok (.invokevirtual 60, 3) := by decide +kernel
theorem dX_redirectFields_19 : decode bX_redirectFields 19 = .ok (.ifCond .eq 8, 3) := by decide +kernel
theorem dX_redirectFields_22 : decode bX_redirectFields 22 = .ok (.aload_n 0, 1) := by decide +kernel
theorem dX_redirectFields_23 : decode bX_redirectFields 23 = .ok (.iload_n 1, 1) := by decide +kernel
theorem dX_redirectFields_24 : decode bX_redirectFields 24 = .ok (.invokevirtual 156, 3) := by decide +kernel
theorem dX_redirectFields_27 : decode bX_redirectFields 27 = .ok (.iload_n 1, 1) := by decide +kernel
theorem dX_redirectFields_28 : decode bX_redirectFields 28 = .ok (.aload_n 0, 1) := by decide +kernel
theorem dX_redirectFields_29 : decode bX_redirectFields 29 = .ok (.iload_n 1, 1) := by decide +kernel
theorem dX_redirectFields_30 : decode bX_redirectFields 30 = .ok (.invokevirtual 101, 3) := by decide +kernel
theorem dX_redirectFields_33 : decode bX_redirectFields 33 = .ok (.iadd, 1) := by decide +kernel
theorem dX_redirectFields_34 : decode bX_redirectFields 34 = .ok (.istore_n 1, 1) := by decide +kernel
theorem dX_redirectFields_35 : decode bX_redirectFields 35 = .ok (.iinc 2 1, 3) := by decide +kernel
theorem dX_redirectFields_38 : decode bX_redirectFields 38 = .ok (.goto (-34), 3) := by decide +kernel
theorem dX_redirectFields_41 : decode bX_redirectFields 41 = .ok (.return_, 1) := by decide +kernel
theorem dX_redirectFieldsOf_0 : decode bX_redirectFieldsOf 0 = .ok (.aload_n 0, 1) := by decide +kernel
theorem dX_redirectFieldsOf_1 : decode bX_redirectFieldsOf 1 = .ok (.iload_n 1, 1) := by decide +kernel
theorem dX_redirectFieldsOf_2 : decode bX_redirectFieldsOf 2 = .ok (.invokevirtual 122, 3) := by decide +kernel
theorem dX_redirectFieldsOf_5 : decode bX_redirectFieldsOf 5 = .ok (.istore_n 2, 1) := by decide +kernel
theorem dX_redirectFieldsOf_6 : decode bX_redirectFieldsOf 6 = .ok (.iconst 0, 1) := by decide +kernel
theorem dX_redirectFieldsOf_7 : decode bX_redirectFieldsOf 7 = .ok (.istore_n 3, 1) := by decide +kernel
theorem dX_redirectFieldsOf_8 : decode bX_redirectFieldsOf 8 = .ok (.iload_n 3, 1) := by decide +kernel
theorem dX_redirectFieldsOf_9 : decode bX_redirectFieldsOf 9 = .ok (.iload_n 2, 1) := by decide +kernel
theorem dX_redirectFieldsOf_10 : decode bX_redirectFieldsOf 10 = .ok (.if_icmp .ge 32, 3) := by decide +kernel
theorem dX_redirectFieldsOf_13 : decode bX_redirectFieldsOf 13 = .ok (.iload_n 1, 1) := by decide +kernel
theorem dX_redirectFieldsOf_14 : decode bX_redirectFieldsOf 14 = .ok (.iconst 3, 1) := by decide +kernel
theorem dX_redirectFieldsOf_15 : decode bX_redirectFieldsOf 15 = .ok (.iadd, 1) := by decide +kernel
theorem dX_redirectFieldsOf_16 : decode bX_redirectFieldsOf 16 = .ok (.iload_n 3, 1) := by decide +kernel
theorem dX_redirectFieldsOf_17 : decode bX_redirectFieldsOf 17 = .ok (.iadd, 1) := by decide +kernel
theorem dX_redirectFieldsOf_18 : decode bX_redirectFieldsOf 18 = .ok (.istore 4, 2) := by decide +kernel
theorem dX_redirectFieldsOf_20 : decode bX_redirectFieldsOf 20 = .ok (.aload_n 0, 1) := by decide +kernel
theorem dX_redirectFieldsOf_21 : decode bX_redirectFieldsOf 21 = .ok (.iload 4, 2) := by decide +kernel
theorem dX_redirectFieldsOf_23 : decode bX_redirectFieldsOf 23 = .ok (.aload_n 0, 1) := by decide +kernel
theorem dX_redirectFieldsOf_24 : decode bX_redirectFieldsOf 24 = .ok (.aload_n 0, 1) := by decide +kernel
theorem dX_redirectFieldsOf_25 : decode bX_redirectFieldsOf 25 = .ok (.iload 4, 2) := by decide +kernel
theorem dX_redirectFieldsOf_27 : decode bX_redirectFieldsOf 27 = .ok (.invokevirtual 60, 3) := by decide +kernel
theorem dX_redirectFieldsOf_30 : decode bX_redirectFieldsOf 30 = .ok (.invokevirtual 153, 3) := by decide +kernel
theorem dX_redirectFieldsOf_33 : decode bX_redirectFieldsOf 33 = .ok (.invokevirtual 43, 3) := by decide +kernel
theorem dX_redirectFieldsOf_36 : decode bX_redirectFieldsOf 36 = .ok (.iinc 3 1, 3) := by decide +kernel
theorem dX_redirectFieldsOf_39 : decode bX_redirectFieldsOf 39 = .ok (.goto (-31), 3) := by decide +kernel
theorem dX_redirectFieldsOf_42 : decode bX_redirectFieldsOf 42 = .ok (.return_, 1) := by decide +kernel
theorem dX_redirectRoots_0 : decode bX_redirectRoots 0 = .ok (.iconst 0, 1) := by decide +kernel
theorem dX_redirectRoots_1 : decode bX_redirectRoots 1 = .ok (.istore_n 1, 1) := by decide +kernel
theorem dX_redirectRoots_2 : decode bX_redirectRoots 2 = .ok (.iload_n 1, 1) := by decide +kernel
theorem dX_redirectRoots_3 : decode bX_redirectRoots 3 = .ok (.aload_n 0, 1) := by decide +kernel
theorem dX_redirectRoots_4 : decode bX_redirectRoots 4 = .ok (.getfield 9, 3) := by decide +kernel
theorem dX_redirectRoots_7 : decode bX_redirectRoots 7 = .ok (.arraylength, 1) := by decide +kernel
theorem dX_redirectRoots_8 : decode bX_redirectRoots 8 = .ok (.if_icmp .ge 25, 3) := by decide +kernel
theorem dX_redirectRoots_11 : decode bX_redirectRoots 11 = .ok (.aload_n 0, 1) := by decide +kernel
theorem dX_redirectRoots_12 : decode bX_redirectRoots 12 = .ok (.getfield 9, 3) := by decide +kernel
theorem dX_redirectRoots_15 : decode bX_redirectRoots 15 = .ok (.iload_n 1, 1) := by decide +kernel
theorem dX_redirectRoots_16 : decode bX_redirectRoots 16 = .ok (.aload_n 0, 1) := by decide +kernel
theorem dX_redirectRoots_17 : decode bX_redirectRoots 17 = .ok (.aload_n 0, 1) := by decide +kernel
theorem dX_redirectRoots_18 : decode bX_redirectRoots 18 = .ok (.getfield 9, 3) := by decide +kernel
theorem dX_redirectRoots_21 : decode bX_redirectRoots 21 = .ok (.iload_n 1, 1) := by decide +kernel
theorem dX_redirectRoots_22 : decode bX_redirectRoots 22 = .ok (.iaload, 1) := by decide +kernel
theorem dX_redirectRoots_23 : decode bX_redirectRoots 23 = .ok (.invokevirtual 153, 3) := by decide +kernel
theorem dX_redirectRoots_26 : decode bX_redirectRoots 26 = .ok (.iastore, 1) := by decide +kernel
theorem dX_redirectRoots_27 : decode bX_redirectRoots 27 = .ok (.iinc 1 1, 3) := by decide +kernel
theorem dX_redirectRoots_30 : decode bX_redirectRoots 30 = .ok (.goto (-28), 3) := by decide +kernel
theorem dX_redirectRoots_33 : decode bX_redirectRoots 33 = .ok (.return_, 1) := by decide +kernel
theorem dX_replace_0 : decode bX_replace 0 = .ok (.aload_n 0, 1) := by decide +kernel
theorem dX_replace_1 : decode bX_replace 1 = .ok (.iload_n 1, 1) := by decide +kernel
theorem dX_replace_2 : decode bX_replace 2 = .ok (.invokevirtual 60, 3) := by decide +kernel
theorem dX_replace_5 : decode bX_replace 5 = .ok (.istore_n 3, 1) := by decide +kernel
theorem dX_replace_6 : decode bX_replace 6 = .ok (.aload_n 0, 1) := by decide +kernel
theorem dX_replace_7 : decode bX_replace 7 = .ok (.iload_n 1, 1) := by decide +kernel
theorem dX_replace_8 : decode bX_replace 8 = .ok (.iload_n 2, 1) := by decide +kernel
theorem dX_replace_9 : decode bX_replace 9 = .ok (.invokevirtual 43, 3) := by decide +kernel
theorem dX_replace_12 : decode bX_replace 12 = .ok (.iload_n 3, 1) := by decide +kernel
theorem dX_replace_13 : decode bX_replace 13 = .ok (.ireturn, 1) := by decide +kernel
theorem dX_root_0 : decode bX_root 0 = .ok (.aload_n 0, 1) := by decide +kernel
theorem dX_root_1 : decode bX_root 1 = .ok (.iload_n 1, 1) := by decide +kernel
theorem dX_root_2 : decode bX_root 2 = .ok (.invokevirtual 67, 3) := by decide +kernel
theorem dX_root_5 : decode bX_root 5 = .ok (.aload_n 0, 1) := by decide +kernel
theorem dX_root_6 : decode bX_root 6 = .ok (.iload_n 2, 1) := by decide +kernel
theorem dX_root_7 : decode bX_root 7 = .ok (.invokevirtual 53, 3) := by decide +kernel
theorem dX_root_10 : decode bX_root 10 = .ok (.aload_n 0, 1) := by decide +kernel
theorem dX_root_11 : decode bX_root 11 = .ok (.getfield 9, 3) := by decide +kernel
theorem dX_root_14 : decode bX_root 14 = .ok (.iload_n 1, 1) := by decide +kernel
theorem dX_root_15 : decode bX_root 15 = .ok (.iaload, 1) := by decide +kernel
theorem dX_root_16 : decode bX_root 16 = .ok (.istore_n 3, 1) := by decide +kernel
theorem dX_root_17 : decode bX_root 17 = .ok (.aload_n 0, 1) := by decide +kernel
theorem dX_root_18 : decode bX_root 18 = .ok (.getfield 9, 3) := by decide +kernel
theorem dX_root_21 : decode bX_root 21 = .ok (.iload_n 1, 1) := by decide +kernel
theorem dX_root_22 : decode bX_root 22 = .ok (.iload_n 2, 1) := by decide +kernel
theorem dX_root_23 : decode bX_root 23 = .ok (.iastore, 1) := by decide +kernel
theorem dX_root_24 : decode bX_root 24 = .ok (.iload_n 3, 1) := by decide +kernel
theorem dX_root_25 : decode bX_root 25 = .ok (.ireturn, 1) := by decide +kernel
theorem dX_rooted_0 : decode bX_rooted 0 = .ok (.aload_n 0, 1) := by decide +kernel
theorem dX_rooted_1 : decode bX_rooted 1 = .ok (.iload_n 1, 1) := by decide +kernel
theorem dX_rooted_2 : decode bX_rooted 2 = .ok (.invokevirtual 67, 3) := by decide +kernel
theorem dX_rooted_5 : decode bX_rooted 5 = .ok (.aload_n 0, 1) := by decide +kernel
theorem dX_rooted_6 : decode bX_rooted 6 = .ok (.getfield 9, 3) := by decide +kernel
theorem dX_rooted_9 : decode bX_rooted 9 = .ok (.iload_n 1, 1) := by decide +kernel
theorem dX_rooted_10 : decode bX_rooted 10 = .ok (.iaload, 1) := by decide +kernel
theorem dX_rooted_11 : decode bX_rooted 11 = .ok (.ireturn, 1) := by decide +kernel
theorem dX_set_0 : decode bX_set 0 = .ok (.aload_n 0, 1) := by decide +kernel
theorem dX_set_1 : decode bX_set 1 = .ok (.iload_n 1, 1) := by decide +kernel
theorem dX_set_2 : decode bX_set 2 = .ok (.iload_n 2, 1) := by decide +kernel
theorem dX_set_3 : decode bX_set 3 = .ok (.invokevirtual 49, 3) := by decide +kernel
theorem dX_set_6 : decode bX_set 6 = .ok (.istore 4, 2) := by decide +kernel
theorem dX_set_8 : decode bX_set 8 = .ok (.aload_n 0, 1) := by decide +kernel
theorem dX_set_9 : decode bX_set 9 = .ok (.iload_n 3, 1) := by decide +kernel
theorem dX_set_10 : decode bX_set 10 = .ok (.invokevirtual 53, 3) := by decide +kernel
theorem dX_set_13 : decode bX_set 13 = .ok (.aload_n 0, 1) := by decide +kernel
theorem dX_set_14 : decode bX_set 14 = .ok (.iload 4, 2) := by decide +kernel
theorem dX_set_16 : decode bX_set 16 = .ok (.iload_n 3, 1) := by decide +kernel
theorem dX_set_17 : decode bX_set 17 = .ok (.invokevirtual 57, 3) := by decide +kernel
theorem dX_set_20 : decode bX_set 20 = .ok (.ireturn, 1) := by decide +kernel
theorem dX_sizeOf_0 : decode bX_sizeOf 0 = .ok (.aload_n 0, 1) := by decide +kernel
theorem dX_sizeOf_1 : decode bX_sizeOf 1 = .ok (.iload_n 1, 1) := by decide +kernel
theorem dX_sizeOf_2 : decode bX_sizeOf 2 = .ok (.iconst 0, 1) := by decide +kernel
theorem dX_sizeOf_3 : decode bX_sizeOf 3 = .ok (.iadd, 1) := by decide +kernel
theorem dX_sizeOf_4 : decode bX_sizeOf 4 = .ok (.invokevirtual 60, 3) := by decide +kernel
theorem dX_sizeOf_7 : decode bX_sizeOf 7 = .ok (.istore_n 2, 1) := by decide +kernel
theorem dX_sizeOf_8 : decode bX_sizeOf 8 = .ok (.iconst 3, 1) := by decide +kernel
theorem dX_sizeOf_9 : decode bX_sizeOf 9 = .ok (.iload_n 2, 1) := by decide +kernel
theorem dX_sizeOf_10 : decode bX_sizeOf 10 = .ok (.bipush 12, 2) := by decide +kernel
theorem dX_sizeOf_12 : decode bX_sizeOf 12 = .ok (.ishr, 1) := by decide +kernel
theorem dX_sizeOf_13 : decode bX_sizeOf 13 = .ok (.iadd, 1) := by decide +kernel
theorem dX_sizeOf_14 : decode bX_sizeOf 14 = .ok (.iload_n 2, 1) := by decide +kernel
theorem dX_sizeOf_15 : decode bX_sizeOf 15 = .ok (.sipush 4095, 3) := by decide +kernel
theorem dX_sizeOf_18 : decode bX_sizeOf 18 = .ok (.iand, 1) := by decide +kernel
theorem dX_sizeOf_19 : decode bX_sizeOf 19 = .ok (.iadd, 1) := by decide +kernel
theorem dX_sizeOf_20 : decode bX_sizeOf 20 = .ok (.ireturn, 1) := by decide +kernel
theorem dX_slide_0 : decode bX_slide 0 = .ok (.aload_n 0, 1) := by decide +kernel
theorem dX_slide_1 : decode bX_slide 1 = .ok (.invokevirtual 70, 3) := by decide +kernel
theorem dX_slide_4 : decode bX_slide 4 = .ok (.aload_n 0, 1) := by decide +kernel
theorem dX_slide_5 : decode bX_slide 5 = .ok (.invokevirtual 73, 3) := by decide +kernel
theorem dX_slide_8 : decode bX_slide 8 = .ok (.istore_n 1, 1) := by decide +kernel
theorem dX_slide_9 : decode bX_slide 9 = .ok (.aload_n 0, 1) := by decide +kernel
theorem dX_slide_10 : decode bX_slide 10 = .ok (.invokevirtual 77, 3) := by decide +kernel
theorem dX_slide_13 : decode bX_slide 13 = .ok (.aload_n 0, 1) := by decide +kernel
theorem dX_slide_14 : decode bX_slide 14 = .ok (.invokevirtual 80, 3) := by decide +kernel
theorem dX_slide_17 : decode bX_slide 17 = .ok (.aload_n 0, 1) := by decide +kernel
theorem dX_slide_18 : decode bX_slide 18 = .ok (.invokevirtual 83, 3) := by decide +kernel
theorem dX_slide_21 : decode bX_slide 21 = .ok (.aload_n 0, 1) := by decide +kernel
theorem dX_slide_22 : decode bX_slide 22 = .ok (.dup, 1) := by decide +kernel
theorem dX_slide_23 : decode bX_slide 23 = .ok (.getfield 86, 3) := by decide +kernel
theorem dX_slide_26 : decode bX_slide 26 = .ok (.iconst 1, 1) := by decide +kernel
theorem dX_slide_27 : decode bX_slide 27 = .ok (.iadd, 1) := by decide +kernel
theorem dX_slide_28 : decode bX_slide 28 = .ok (.putfield 86, 3) := by decide +kernel
theorem dX_slide_31 : decode bX_slide 31 = .ok (.aload_n 0, 1) := by decide +kernel
theorem dX_slide_32 : decode bX_slide 32 = .ok (.dup, 1) := by decide +kernel
theorem dX_slide_33 : decode bX_slide 33 = .ok (.getfield 89, 3) := by decide +kernel
theorem dX_slide_36 : decode bX_slide 36 = .ok (.aload_n 0, 1) := by decide +kernel
theorem dX_slide_37 : decode bX_slide 37 = .ok (.getfield 46, 3) := by decide +kernel
theorem dX_slide_40 : decode bX_slide 40 = .ok (.aload_n 0, 1) := by decide +kernel
theorem dX_slide_41 : decode bX_slide 41 = .ok (.getfield 92, 3) := by decide +kernel
theorem dX_slide_44 : decode bX_slide 44 = .ok (.isub, 1) := by decide +kernel
theorem dX_slide_45 : decode bX_slide 45 = .ok (.iadd, 1) := by decide +kernel
theorem dX_slide_46 : decode bX_slide 46 = .ok (.putfield 89, 3) := by decide +kernel
theorem dX_slide_49 : decode bX_slide 49 = .ok (.aload_n 0, 1) := by decide +kernel
theorem dX_slide_50 : decode bX_slide 50 = .ok (.aload_n 0, 1) := by decide +kernel
theorem dX_slide_51 : decode bX_slide 51 = .ok (.getfield 92, 3) := by decide +kernel
theorem dX_slide_54 : decode bX_slide 54 = .ok (.putfield 46, 3) := by decide +kernel
theorem dX_slide_57 : decode bX_slide 57 = .ok (.aload_n 0, 1) := by decide +kernel
theorem dX_slide_58 : decode bX_slide 58 = .ok (.iload_n 1, 1) := by decide +kernel
theorem dX_slide_59 : decode bX_slide 59 = .ok (.putfield 36, 3) := by decide +kernel
theorem dX_slide_62 : decode bX_slide 62 = .ok (.aload_n 0, 1) := by decide +kernel
theorem dX_slide_63 : decode bX_slide 63 = .ok (.getfield 36, 3) := by decide +kernel
theorem dX_slide_66 : decode bX_slide 66 = .ok (.ireturn, 1) := by decide +kernel
theorem dX_space_0 : decode bX_space 0 = .ok (.iload_n 1, 1) := by decide +kernel
theorem dX_space_1 : decode bX_space 1 = .ok (.bipush 16, 2) := by decide +kernel
theorem dX_space_3 : decode bX_space 3 = .ok (.if_icmp .lt 10, 3) := by decide +kernel
theorem dX_space_6 : decode bX_space 6 = .ok (.iload_n 1, 1) := by decide +kernel
theorem dX_space_7 : decode bX_space 7 = .ok (.sipush 16384, 3) := by decide +kernel
theorem dX_space_10 : decode bX_space 10 = .ok (.if_icmp .le 13, 3) := by decide +kernel
theorem dX_space_13 : decode bX_space 13 = .ok (.new 20, 3) := by decide +kernel
theorem dX_space_16 : decode bX_space 16 = .ok (.dup, 1) := by decide +kernel
theorem dX_space_17 : decode bX_space 17 = .ok (.ldc 22, 2) := by decide +kernel
theorem dX_space_19 : decode bX_space 19 = .ok (.invokespecial 24, 3) := by decide +kernel
theorem dX_space_22 : decode bX_space 22 = .ok (.athrow, 1) := by decide +kernel
theorem dX_space_23 : decode bX_space 23 = .ok (.aload_n 0, 1) := by decide +kernel
theorem dX_space_24 : decode bX_space 24 = .ok (.getfield 16, 3) := by decide +kernel
theorem dX_space_27 : decode bX_space 27 = .ok (.istore_n 2, 1) := by decide +kernel
theorem dX_space_28 : decode bX_space 28 = .ok (.iload_n 1, 1) := by decide +kernel
theorem dX_space_29 : decode bX_space 29 = .ok (.aload_n 0, 1) := by decide +kernel
theorem dX_space_30 : decode bX_space 30 = .ok (.getfield 13, 3) := by decide +kernel
theorem dX_space_33 : decode bX_space 33 = .ok (.arraylength, 1) := by decide +kernel
theorem dX_space_34 : decode bX_space 34 = .ok (.if_icmp .lt 12, 3) := by decide +kernel
theorem dX_space_37 : decode bX_space 37 = .ok (.aload_n 0, 1) := by decide +kernel
theorem dX_space_38 : decode bX_space 38 = .ok (.sipush 16385, 3) := by decide +kernel
theorem dX_space_41 : decode bX_space 41 = .ok (.newarray .int, 2) := by decide +kernel
theorem dX_space_43 : decode bX_space 43 = .ok (.putfield 13, 3) := by decide +kernel
theorem dX_space_46 : decode bX_space 46 = .ok (.aload_n 0, 1) := by decide +kernel
theorem dX_space_47 : decode bX_space 47 = .ok (.iload_n 1, 1) := by decide +kernel
theorem dX_space_48 : decode bX_space 48 = .ok (.putfield 16, 3) := by decide +kernel
theorem dX_space_51 : decode bX_space 51 = .ok (.aload_n 0, 1) := by decide +kernel
theorem dX_space_52 : decode bX_space 52 = .ok (.invokevirtual 27, 3) := by decide +kernel
theorem dX_space_55 : decode bX_space 55 = .ok (.iload_n 2, 1) := by decide +kernel
theorem dX_space_56 : decode bX_space 56 = .ok (.ireturn, 1) := by decide +kernel
theorem dX_word_0 : decode bX_word 0 = .ok (.aload_n 0, 1) := by decide +kernel
theorem dX_word_1 : decode bX_word 1 = .ok (.aload_n 0, 1) := by decide +kernel
theorem dX_word_2 : decode bX_word 2 = .ok (.iload_n 1, 1) := by decide +kernel
theorem dX_word_3 : decode bX_word 3 = .ok (.iload_n 2, 1) := by decide +kernel
theorem dX_word_4 : decode bX_word 4 = .ok (.invokevirtual 64, 3) := by decide +kernel
theorem dX_word_7 : decode bX_word 7 = .ok (.invokevirtual 60, 3) := by decide +kernel
theorem dX_word_10 : decode bX_word 10 = .ok (.ireturn, 1) := by decide +kernel
theorem dX_wordCell_0 : decode bX_wordCell 0 = .ok (.aload_n 0, 1) := by decide +kernel
theorem dX_wordCell_1 : decode bX_wordCell 1 = .ok (.iload_n 1, 1) := by decide +kernel
theorem dX_wordCell_2 : decode bX_wordCell 2 = .ok (.invokevirtual 95, 3) := by decide +kernel
theorem dX_wordCell_5 : decode bX_wordCell 5 = .ok (.iload_n 2, 1) := by decide +kernel
theorem dX_wordCell_6 : decode bX_wordCell 6 = .ok (.ifCond .lt 12, 3) := by decide +kernel
theorem dX_wordCell_9 : decode bX_wordCell 9 = .ok (.iload_n 2, 1) := by decide +kernel
theorem dX_wordCell_10 : decode bX_wordCell 10 = .ok (.aload_n 0, 1) := by decide +kernel
theorem dX_wordCell_11 : decode bX_wordCell 11 = .ok (.iload_n 1, 1) := by decide +kernel
theorem dX_wordCell_12 : decode bX_wordCell 12 = .ok (.invokevirtual 127, 3) := by decide +kernel
theorem dX_wordCell_15 : decode bX_wordCell 15 = .ok (.if_icmp .lt 13, 3) := by decide +kernel
theorem dX_wordCell_18 : decode bX_wordCell 18 = .ok (.new 112, 3) := by decide +kernel
theorem dX_wordCell_21 : decode bX_wordCell 21 = .ok (.dup, 1) := by decide +kernel
theorem dX_wordCell_22 : decode bX_wordCell 22 = .ok (.ldc 130, 2) := by decide +kernel
theorem dX_wordCell_24 : decode bX_wordCell 24 = .ok (.invokespecial 116, 3) := by decide +kernel
theorem dX_wordCell_27 : decode bX_wordCell 27 = .ok (.athrow, 1) := by decide +kernel
theorem dX_wordCell_28 : decode bX_wordCell 28 = .ok (.iload_n 1, 1) := by decide +kernel
theorem dX_wordCell_29 : decode bX_wordCell 29 = .ok (.iconst 3, 1) := by decide +kernel
theorem dX_wordCell_30 : decode bX_wordCell 30 = .ok (.iadd, 1) := by decide +kernel
theorem dX_wordCell_31 : decode bX_wordCell 31 = .ok (.aload_n 0, 1) := by decide +kernel
theorem dX_wordCell_32 : decode bX_wordCell 32 = .ok (.iload_n 1, 1) := by decide +kernel
theorem dX_wordCell_33 : decode bX_wordCell 33 = .ok (.invokevirtual 122, 3) := by decide +kernel
theorem dX_wordCell_36 : decode bX_wordCell 36 = .ok (.iadd, 1) := by decide +kernel
theorem dX_wordCell_37 : decode bX_wordCell 37 = .ok (.iload_n 2, 1) := by decide +kernel
theorem dX_wordCell_38 : decode bX_wordCell 38 = .ok (.iadd, 1) := by decide +kernel
theorem dX_wordCell_39 : decode bX_wordCell 39 = .ok (.ireturn, 1) := by decide +kernel
theorem dX_wordsOf_0 : decode bX_wordsOf 0 = .ok (.aload_n 0, 1) := by decide +kernel
theorem dX_wordsOf_1 : decode bX_wordsOf 1 = .ok (.iload_n 1, 1) := by decide +kernel
theorem dX_wordsOf_2 : decode bX_wordsOf 2 = .ok (.iconst 0, 1) := by decide +kernel
theorem dX_wordsOf_3 : decode bX_wordsOf 3 = .ok (.iadd, 1) := by decide +kernel
theorem dX_wordsOf_4 : decode bX_wordsOf 4 = .ok (.invokevirtual 60, 3) := by decide +kernel
theorem dX_wordsOf_7 : decode bX_wordsOf 7 = .ok (.sipush 4095, 3) := by decide +kernel
theorem dX_wordsOf_10 : decode bX_wordsOf 10 = .ok (.iand, 1) := by decide +kernel
theorem dX_wordsOf_11 : decode bX_wordsOf 11 = .ok (.ireturn, 1) := by decide +kernel
theorem dX_write_0 : decode bX_write 0 = .ok (.iload_n 1, 1) := by decide +kernel
theorem dX_write_1 : decode bX_write 1 = .ok (.iconst 1, 1) := by decide +kernel
theorem dX_write_2 : decode bX_write 2 = .ok (.if_icmp .lt 19, 3) := by decide +kernel
theorem dX_write_5 : decode bX_write 5 = .ok (.iload_n 1, 1) := by decide +kernel
theorem dX_write_6 : decode bX_write 6 = .ok (.aload_n 0, 1) := by decide +kernel
theorem dX_write_7 : decode bX_write 7 = .ok (.getfield 13, 3) := by decide +kernel
theorem dX_write_10 : decode bX_write 10 = .ok (.arraylength, 1) := by decide +kernel
theorem dX_write_11 : decode bX_write 11 = .ok (.if_icmp .ge 10, 3) := by decide +kernel
theorem dX_write_14 : decode bX_write 14 = .ok (.aload_n 0, 1) := by decide +kernel
theorem dX_write_15 : decode bX_write 15 = .ok (.getfield 13, 3) := by decide +kernel
theorem dX_write_18 : decode bX_write 18 = .ok (.iload_n 1, 1) := by decide +kernel
theorem dX_write_19 : decode bX_write 19 = .ok (.iload_n 2, 1) := by decide +kernel
theorem dX_write_20 : decode bX_write 20 = .ok (.iastore, 1) := by decide +kernel
theorem dX_write_21 : decode bX_write 21 = .ok (.return_, 1) := by decide +kernel
/-! decode rows (written by wip/gen/names.py) -/
theorem dJ_fill_0 : decode bJ_fill 0 = .ok (.iconst 0, 1) := by decide +kernel
theorem dJ_fill_1 : decode bJ_fill 1 = .ok (.istore_n 2, 1) := by decide +kernel
theorem dJ_fill_2 : decode bJ_fill 2 = .ok (.aload_n 0, 1) := by decide +kernel
theorem dJ_fill_3 : decode bJ_fill 3 = .ok (.arraylength, 1) := by decide +kernel
theorem dJ_fill_4 : decode bJ_fill 4 = .ok (.istore_n 3, 1) := by decide +kernel
theorem dJ_fill_5 : decode bJ_fill 5 = .ok (.iload_n 2, 1) := by decide +kernel
theorem dJ_fill_6 : decode bJ_fill 6 = .ok (.iload_n 3, 1) := by decide +kernel
theorem dJ_fill_7 : decode bJ_fill 7 = .ok (.if_icmp .ge 13, 3) := by decide +kernel
theorem dJ_fill_10 : decode bJ_fill 10 = .ok (.aload_n 0, 1) := by decide +kernel
theorem dJ_fill_11 : decode bJ_fill 11 = .ok (.iload_n 2, 1) := by decide +kernel
theorem dJ_fill_12 : decode bJ_fill 12 = .ok (.iload_n 1, 1) := by decide +kernel
theorem dJ_fill_13 : decode bJ_fill 13 = .ok (.iastore, 1) := by decide +kernel
theorem dJ_fill_14 : decode bJ_fill 14 = .ok (.iinc 2 1, 3) := by decide +kernel
theorem dJ_fill_17 : decode bJ_fill 17 = .ok (.goto (-12), 3) := by decide +kernel
theorem dJ_fill_20 : decode bJ_fill 20 = .ok (.return_, 1) := by decide +kernel
