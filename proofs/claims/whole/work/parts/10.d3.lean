/-! Decode rows (by program, wip/whole/gen.py). -/
theorem dM_init_0 : decode M_M_init.2.1 0 = .ok (.aload_n 0, 1) := by decide +kernel
theorem dM_init_1 : decode M_M_init.2.1 1 = .ok (.invokespecial 1, 3) := by decide +kernel
theorem dM_init_4 : decode M_M_init.2.1 4 = .ok (.aload_n 0, 1) := by decide +kernel
theorem dM_init_5 : decode M_M_init.2.1 5 = .ok (.sipush 200, 3) := by decide +kernel
theorem dM_init_8 : decode M_M_init.2.1 8 = .ok (.newarray .int, 2) := by decide +kernel
theorem dM_init_10 : decode M_M_init.2.1 10 = .ok (.putfield 7, 3) := by decide +kernel
theorem dM_init_13 : decode M_M_init.2.1 13 = .ok (.aload_n 0, 1) := by decide +kernel
theorem dM_init_14 : decode M_M_init.2.1 14 = .ok (.sipush 200, 3) := by decide +kernel
theorem dM_init_17 : decode M_M_init.2.1 17 = .ok (.newarray .int, 2) := by decide +kernel
theorem dM_init_19 : decode M_M_init.2.1 19 = .ok (.putfield 13, 3) := by decide +kernel
theorem dM_init_22 : decode M_M_init.2.1 22 = .ok (.aload_n 0, 1) := by decide +kernel
theorem dM_init_23 : decode M_M_init.2.1 23 = .ok (.sipush 200, 3) := by decide +kernel
theorem dM_init_26 : decode M_M_init.2.1 26 = .ok (.newarray .int, 2) := by decide +kernel
theorem dM_init_28 : decode M_M_init.2.1 28 = .ok (.putfield 16, 3) := by decide +kernel
theorem dM_init_31 : decode M_M_init.2.1 31 = .ok (.aload_n 0, 1) := by decide +kernel
theorem dM_init_32 : decode M_M_init.2.1 32 = .ok (.sipush 200, 3) := by decide +kernel
theorem dM_init_35 : decode M_M_init.2.1 35 = .ok (.newarray .int, 2) := by decide +kernel
theorem dM_init_37 : decode M_M_init.2.1 37 = .ok (.putfield 19, 3) := by decide +kernel
theorem dM_init_40 : decode M_M_init.2.1 40 = .ok (.aload_n 0, 1) := by decide +kernel
theorem dM_init_41 : decode M_M_init.2.1 41 = .ok (.sipush 200, 3) := by decide +kernel
theorem dM_init_44 : decode M_M_init.2.1 44 = .ok (.newarray .boolean, 2) := by decide +kernel
theorem dM_init_46 : decode M_M_init.2.1 46 = .ok (.putfield 22, 3) := by decide +kernel
theorem dM_init_49 : decode M_M_init.2.1 49 = .ok (.aload_n 0, 1) := by decide +kernel
theorem dM_init_50 : decode M_M_init.2.1 50 = .ok (.sipush 2400, 3) := by decide +kernel
theorem dM_init_53 : decode M_M_init.2.1 53 = .ok (.newarray .boolean, 2) := by decide +kernel
theorem dM_init_55 : decode M_M_init.2.1 55 = .ok (.putfield 26, 3) := by decide +kernel
theorem dM_init_58 : decode M_M_init.2.1 58 = .ok (.aload_n 0, 1) := by decide +kernel
theorem dM_init_59 : decode M_M_init.2.1 59 = .ok (.bipush 12, 2) := by decide +kernel
theorem dM_init_61 : decode M_M_init.2.1 61 = .ok (.newarray .int, 2) := by decide +kernel
theorem dM_init_63 : decode M_M_init.2.1 63 = .ok (.putfield 29, 3) := by decide +kernel
theorem dM_init_66 : decode M_M_init.2.1 66 = .ok (.aload_n 0, 1) := by decide +kernel
theorem dM_init_67 : decode M_M_init.2.1 67 = .ok (.bipush 12, 2) := by decide +kernel
theorem dM_init_69 : decode M_M_init.2.1 69 = .ok (.newarray .int, 2) := by decide +kernel
theorem dM_init_71 : decode M_M_init.2.1 71 = .ok (.putfield 32, 3) := by decide +kernel
theorem dM_init_74 : decode M_M_init.2.1 74 = .ok (.aload_n 0, 1) := by decide +kernel
theorem dM_init_75 : decode M_M_init.2.1 75 = .ok (.bipush 12, 2) := by decide +kernel
theorem dM_init_77 : decode M_M_init.2.1 77 = .ok (.newarray .int, 2) := by decide +kernel
theorem dM_init_79 : decode M_M_init.2.1 79 = .ok (.putfield 35, 3) := by decide +kernel
theorem dM_init_82 : decode M_M_init.2.1 82 = .ok (.aload_n 0, 1) := by decide +kernel
theorem dM_init_83 : decode M_M_init.2.1 83 = .ok (.bipush 61, 2) := by decide +kernel
theorem dM_init_85 : decode M_M_init.2.1 85 = .ok (.newarray .boolean, 2) := by decide +kernel
theorem dM_init_87 : decode M_M_init.2.1 87 = .ok (.putfield 38, 3) := by decide +kernel
theorem dM_init_90 : decode M_M_init.2.1 90 = .ok (.aload_n 0, 1) := by decide +kernel
theorem dM_init_91 : decode M_M_init.2.1 91 = .ok (.bipush 32, 2) := by decide +kernel
theorem dM_init_93 : decode M_M_init.2.1 93 = .ok (.newarray .int, 2) := by decide +kernel
theorem dM_init_95 : decode M_M_init.2.1 95 = .ok (.putfield 41, 3) := by decide +kernel
theorem dM_init_98 : decode M_M_init.2.1 98 = .ok (.aload_n 0, 1) := by decide +kernel
theorem dM_init_99 : decode M_M_init.2.1 99 = .ok (.iconst 4, 1) := by decide +kernel
theorem dM_init_100 : decode M_M_init.2.1 100 = .ok (.newarray .int, 2) := by decide +kernel
theorem dM_init_102 : decode M_M_init.2.1 102 = .ok (.putfield 44, 3) := by decide +kernel
theorem dM_init_105 : decode M_M_init.2.1 105 = .ok (.aload_n 0, 1) := by decide +kernel
theorem dM_init_106 : decode M_M_init.2.1 106 = .ok (.iconst 2, 1) := by decide +kernel
theorem dM_init_107 : decode M_M_init.2.1 107 = .ok (.newarray .int, 2) := by decide +kernel
theorem dM_init_109 : decode M_M_init.2.1 109 = .ok (.putfield 47, 3) := by decide +kernel
theorem dM_init_112 : decode M_M_init.2.1 112 = .ok (.return_, 1) := by decide +kernel
theorem dM_isKey_0 : decode M_M_isKey.2.1 0 = .ok (.iload_n 0, 1) := by decide +kernel
theorem dM_isKey_1 : decode M_M_isKey.2.1 1 = .ok (.ifCond .lt 13, 3) := by decide +kernel
theorem dM_isKey_4 : decode M_M_isKey.2.1 4 = .ok (.iload_n 0, 1) := by decide +kernel
theorem dM_isKey_5 : decode M_M_isKey.2.1 5 = .ok (.bipush 31, 2) := by decide +kernel
theorem dM_isKey_7 : decode M_M_isKey.2.1 7 = .ok (.if_icmp .gt 7, 3) := by decide +kernel
theorem dM_isKey_10 : decode M_M_isKey.2.1 10 = .ok (.iconst 1, 1) := by decide +kernel
theorem dM_isKey_11 : decode M_M_isKey.2.1 11 = .ok (.goto 4, 3) := by decide +kernel
theorem dM_isKey_14 : decode M_M_isKey.2.1 14 = .ok (.iconst 0, 1) := by decide +kernel
theorem dM_isKey_15 : decode M_M_isKey.2.1 15 = .ok (.ireturn, 1) := by decide +kernel
theorem dM_isCopy_0 : decode M_M_isCopy.2.1 0 = .ok (.iload_n 0, 1) := by decide +kernel
theorem dM_isCopy_1 : decode M_M_isCopy.2.1 1 = .ok (.ifCond .eq 8, 3) := by decide +kernel
theorem dM_isCopy_4 : decode M_M_isCopy.2.1 4 = .ok (.iload_n 0, 1) := by decide +kernel
theorem dM_isCopy_5 : decode M_M_isCopy.2.1 5 = .ok (.iconst 1, 1) := by decide +kernel
theorem dM_isCopy_6 : decode M_M_isCopy.2.1 6 = .ok (.if_icmp .ne 16, 3) := by decide +kernel
theorem dM_isCopy_9 : decode M_M_isCopy.2.1 9 = .ok (.iload_n 1, 1) := by decide +kernel
theorem dM_isCopy_10 : decode M_M_isCopy.2.1 10 = .ok (.ifCond .lt 12, 3) := by decide +kernel
theorem dM_isCopy_13 : decode M_M_isCopy.2.1 13 = .ok (.iload_n 1, 1) := by decide +kernel
theorem dM_isCopy_14 : decode M_M_isCopy.2.1 14 = .ok (.iconst 5, 1) := by decide +kernel
theorem dM_isCopy_15 : decode M_M_isCopy.2.1 15 = .ok (.if_icmp .gt 7, 3) := by decide +kernel
theorem dM_isCopy_18 : decode M_M_isCopy.2.1 18 = .ok (.iconst 1, 1) := by decide +kernel
theorem dM_isCopy_19 : decode M_M_isCopy.2.1 19 = .ok (.goto 4, 3) := by decide +kernel
theorem dM_isCopy_22 : decode M_M_isCopy.2.1 22 = .ok (.iconst 0, 1) := by decide +kernel
theorem dM_isCopy_23 : decode M_M_isCopy.2.1 23 = .ok (.ireturn, 1) := by decide +kernel
theorem dM_groupOf_0 : decode M_M_groupOf.2.1 0 = .ok (.aload_n 0, 1) := by decide +kernel
theorem dM_groupOf_1 : decode M_M_groupOf.2.1 1 = .ok (.getfield 19, 3) := by decide +kernel
theorem dM_groupOf_4 : decode M_M_groupOf.2.1 4 = .ok (.iload_n 1, 1) := by decide +kernel
theorem dM_groupOf_5 : decode M_M_groupOf.2.1 5 = .ok (.iaload, 1) := by decide +kernel
theorem dM_groupOf_6 : decode M_M_groupOf.2.1 6 = .ok (.ifCond .le 14, 3) := by decide +kernel
theorem dM_groupOf_9 : decode M_M_groupOf.2.1 9 = .ok (.aload_n 0, 1) := by decide +kernel
theorem dM_groupOf_10 : decode M_M_groupOf.2.1 10 = .ok (.getfield 7, 3) := by decide +kernel
theorem dM_groupOf_13 : decode M_M_groupOf.2.1 13 = .ok (.iload_n 1, 1) := by decide +kernel
theorem dM_groupOf_14 : decode M_M_groupOf.2.1 14 = .ok (.iaload, 1) := by decide +kernel
theorem dM_groupOf_15 : decode M_M_groupOf.2.1 15 = .ok (.iconst 2, 1) := by decide +kernel
theorem dM_groupOf_16 : decode M_M_groupOf.2.1 16 = .ok (.irem, 1) := by decide +kernel
theorem dM_groupOf_17 : decode M_M_groupOf.2.1 17 = .ok (.goto 13, 3) := by decide +kernel
theorem dM_groupOf_20 : decode M_M_groupOf.2.1 20 = .ok (.aload_n 0, 1) := by decide +kernel
theorem dM_groupOf_21 : decode M_M_groupOf.2.1 21 = .ok (.getfield 13, 3) := by decide +kernel
theorem dM_groupOf_24 : decode M_M_groupOf.2.1 24 = .ok (.iload_n 1, 1) := by decide +kernel
theorem dM_groupOf_25 : decode M_M_groupOf.2.1 25 = .ok (.iaload, 1) := by decide +kernel
theorem dM_groupOf_26 : decode M_M_groupOf.2.1 26 = .ok (.iconst 4, 1) := by decide +kernel
theorem dM_groupOf_27 : decode M_M_groupOf.2.1 27 = .ok (.idiv, 1) := by decide +kernel
theorem dM_groupOf_28 : decode M_M_groupOf.2.1 28 = .ok (.iconst 2, 1) := by decide +kernel
theorem dM_groupOf_29 : decode M_M_groupOf.2.1 29 = .ok (.irem, 1) := by decide +kernel
theorem dM_groupOf_30 : decode M_M_groupOf.2.1 30 = .ok (.ireturn, 1) := by decide +kernel
theorem dM_isActive_0 : decode M_M_isActive.2.1 0 = .ok (.iload_n 1, 1) := by decide +kernel
theorem dM_isActive_1 : decode M_M_isActive.2.1 1 = .ok (.iconst 1, 1) := by decide +kernel
theorem dM_isActive_2 : decode M_M_isActive.2.1 2 = .ok (.if_icmp .lt 24, 3) := by decide +kernel
theorem dM_isActive_5 : decode M_M_isActive.2.1 5 = .ok (.iload_n 1, 1) := by decide +kernel
theorem dM_isActive_6 : decode M_M_isActive.2.1 6 = .ok (.aload_n 0, 1) := by decide +kernel
theorem dM_isActive_7 : decode M_M_isActive.2.1 7 = .ok (.getfield 50, 3) := by decide +kernel
theorem dM_isActive_10 : decode M_M_isActive.2.1 10 = .ok (.if_icmp .gt 16, 3) := by decide +kernel
theorem dM_isActive_13 : decode M_M_isActive.2.1 13 = .ok (.aload_n 0, 1) := by decide +kernel
theorem dM_isActive_14 : decode M_M_isActive.2.1 14 = .ok (.getfield 38, 3) := by decide +kernel
theorem dM_isActive_17 : decode M_M_isActive.2.1 17 = .ok (.iload_n 1, 1) := by decide +kernel
theorem dM_isActive_18 : decode M_M_isActive.2.1 18 = .ok (.baload, 1) := by decide +kernel
theorem dM_isActive_19 : decode M_M_isActive.2.1 19 = .ok (.ifCond .eq 7, 3) := by decide +kernel
theorem dM_isActive_22 : decode M_M_isActive.2.1 22 = .ok (.iconst 1, 1) := by decide +kernel
theorem dM_isActive_23 : decode M_M_isActive.2.1 23 = .ok (.goto 4, 3) := by decide +kernel
theorem dM_isActive_26 : decode M_M_isActive.2.1 26 = .ok (.iconst 0, 1) := by decide +kernel
theorem dM_isActive_27 : decode M_M_isActive.2.1 27 = .ok (.ireturn, 1) := by decide +kernel
theorem dM_changeUpTo_0 : decode M_M_changeUpTo.2.1 0 = .ok (.iconst 0, 1) := by decide +kernel
theorem dM_changeUpTo_1 : decode M_M_changeUpTo.2.1 1 = .ok (.istore_n 3, 1) := by decide +kernel
theorem dM_changeUpTo_2 : decode M_M_changeUpTo.2.1 2 = .ok (.iconst 1, 1) := by decide +kernel
theorem dM_changeUpTo_3 : decode M_M_changeUpTo.2.1 3 = .ok (.istore 4, 2) := by decide +kernel
theorem dM_changeUpTo_5 : decode M_M_changeUpTo.2.1 5 = .ok (.iload 4, 2) := by decide +kernel
theorem dM_changeUpTo_7 : decode M_M_changeUpTo.2.1 7 = .ok (.iload_n 2, 1) := by decide +kernel
theorem dM_changeUpTo_8 : decode M_M_changeUpTo.2.1 8 = .ok (.if_icmp .gt 46, 3) := by decide +kernel
theorem dM_changeUpTo_11 : decode M_M_changeUpTo.2.1 11 = .ok (.iload 4, 2) := by decide +kernel
theorem dM_changeUpTo_13 : decode M_M_changeUpTo.2.1 13 = .ok (.aload_n 0, 1) := by decide +kernel
theorem dM_changeUpTo_14 : decode M_M_changeUpTo.2.1 14 = .ok (.getfield 54, 3) := by decide +kernel
theorem dM_changeUpTo_17 : decode M_M_changeUpTo.2.1 17 = .ok (.if_icmp .gt 37, 3) := by decide +kernel
theorem dM_changeUpTo_20 : decode M_M_changeUpTo.2.1 20 = .ok (.aload_n 0, 1) := by decide +kernel
theorem dM_changeUpTo_21 : decode M_M_changeUpTo.2.1 21 = .ok (.getfield 19, 3) := by decide +kernel
theorem dM_changeUpTo_24 : decode M_M_changeUpTo.2.1 24 = .ok (.iload 4, 2) := by decide +kernel
theorem dM_changeUpTo_26 : decode M_M_changeUpTo.2.1 26 = .ok (.iaload, 1) := by decide +kernel
theorem dM_changeUpTo_27 : decode M_M_changeUpTo.2.1 27 = .ok (.ifCond .ne 19, 3) := by decide +kernel
theorem dM_changeUpTo_30 : decode M_M_changeUpTo.2.1 30 = .ok (.aload_n 0, 1) := by decide +kernel
theorem dM_changeUpTo_31 : decode M_M_changeUpTo.2.1 31 = .ok (.getfield 13, 3) := by decide +kernel
theorem dM_changeUpTo_34 : decode M_M_changeUpTo.2.1 34 = .ok (.iload 4, 2) := by decide +kernel
theorem dM_changeUpTo_36 : decode M_M_changeUpTo.2.1 36 = .ok (.iaload, 1) := by decide +kernel
theorem dM_changeUpTo_37 : decode M_M_changeUpTo.2.1 37 = .ok (.iload_n 1, 1) := by decide +kernel
theorem dM_changeUpTo_38 : decode M_M_changeUpTo.2.1 38 = .ok (.if_icmp .ne 8, 3) := by decide +kernel
theorem dM_changeUpTo_41 : decode M_M_changeUpTo.2.1 41 = .ok (.iload 4, 2) := by decide +kernel
theorem dM_changeUpTo_43 : decode M_M_changeUpTo.2.1 43 = .ok (.goto 4, 3) := by decide +kernel
theorem dM_changeUpTo_46 : decode M_M_changeUpTo.2.1 46 = .ok (.iload_n 3, 1) := by decide +kernel
theorem dM_changeUpTo_47 : decode M_M_changeUpTo.2.1 47 = .ok (.istore_n 3, 1) := by decide +kernel
theorem dM_changeUpTo_48 : decode M_M_changeUpTo.2.1 48 = .ok (.iinc 4 1, 3) := by decide +kernel
theorem dM_changeUpTo_51 : decode M_M_changeUpTo.2.1 51 = .ok (.goto (-46), 3) := by decide +kernel
theorem dM_changeUpTo_54 : decode M_M_changeUpTo.2.1 54 = .ok (.iload_n 3, 1) := by decide +kernel
theorem dM_changeUpTo_55 : decode M_M_changeUpTo.2.1 55 = .ok (.ireturn, 1) := by decide +kernel
theorem dM_valueUpTo_0 : decode M_M_valueUpTo.2.1 0 = .ok (.aload_n 0, 1) := by decide +kernel
theorem dM_valueUpTo_1 : decode M_M_valueUpTo.2.1 1 = .ok (.iload_n 1, 1) := by decide +kernel
theorem dM_valueUpTo_2 : decode M_M_valueUpTo.2.1 2 = .ok (.iload_n 2, 1) := by decide +kernel
theorem dM_valueUpTo_3 : decode M_M_valueUpTo.2.1 3 = .ok (.invokevirtual 57, 3) := by decide +kernel
theorem dM_valueUpTo_6 : decode M_M_valueUpTo.2.1 6 = .ok (.istore_n 3, 1) := by decide +kernel
theorem dM_valueUpTo_7 : decode M_M_valueUpTo.2.1 7 = .ok (.iload_n 3, 1) := by decide +kernel
theorem dM_valueUpTo_8 : decode M_M_valueUpTo.2.1 8 = .ok (.ifCond .ne 7, 3) := by decide +kernel
theorem dM_valueUpTo_11 : decode M_M_valueUpTo.2.1 11 = .ok (.iconst 0, 1) := by decide +kernel
theorem dM_valueUpTo_12 : decode M_M_valueUpTo.2.1 12 = .ok (.goto 9, 3) := by decide +kernel
theorem dM_valueUpTo_15 : decode M_M_valueUpTo.2.1 15 = .ok (.aload_n 0, 1) := by decide +kernel
theorem dM_valueUpTo_16 : decode M_M_valueUpTo.2.1 16 = .ok (.getfield 16, 3) := by decide +kernel
theorem dM_valueUpTo_19 : decode M_M_valueUpTo.2.1 19 = .ok (.iload_n 3, 1) := by decide +kernel
theorem dM_valueUpTo_20 : decode M_M_valueUpTo.2.1 20 = .ok (.iaload, 1) := by decide +kernel
theorem dM_valueUpTo_21 : decode M_M_valueUpTo.2.1 21 = .ok (.ireturn, 1) := by decide +kernel
theorem dM_latest_0 : decode M_M_latest.2.1 0 = .ok (.iconst 0, 1) := by decide +kernel
theorem dM_latest_1 : decode M_M_latest.2.1 1 = .ok (.istore_n 2, 1) := by decide +kernel
theorem dM_latest_2 : decode M_M_latest.2.1 2 = .ok (.iconst 4, 1) := by decide +kernel
theorem dM_latest_3 : decode M_M_latest.2.1 3 = .ok (.iload_n 1, 1) := by decide +kernel
theorem dM_latest_4 : decode M_M_latest.2.1 4 = .ok (.imul, 1) := by decide +kernel
theorem dM_latest_5 : decode M_M_latest.2.1 5 = .ok (.istore_n 3, 1) := by decide +kernel
theorem dM_latest_6 : decode M_M_latest.2.1 6 = .ok (.iload_n 3, 1) := by decide +kernel
theorem dM_latest_7 : decode M_M_latest.2.1 7 = .ok (.iconst 4, 1) := by decide +kernel
theorem dM_latest_8 : decode M_M_latest.2.1 8 = .ok (.iload_n 1, 1) := by decide +kernel
theorem dM_latest_9 : decode M_M_latest.2.1 9 = .ok (.imul, 1) := by decide +kernel
theorem dM_latest_10 : decode M_M_latest.2.1 10 = .ok (.iconst 4, 1) := by decide +kernel
theorem dM_latest_11 : decode M_M_latest.2.1 11 = .ok (.iadd, 1) := by decide +kernel
theorem dM_latest_12 : decode M_M_latest.2.1 12 = .ok (.if_icmp .ge 33, 3) := by decide +kernel
theorem dM_latest_15 : decode M_M_latest.2.1 15 = .ok (.aload_n 0, 1) := by decide +kernel
theorem dM_latest_16 : decode M_M_latest.2.1 16 = .ok (.iload_n 3, 1) := by decide +kernel
theorem dM_latest_17 : decode M_M_latest.2.1 17 = .ok (.aload_n 0, 1) := by decide +kernel
theorem dM_latest_18 : decode M_M_latest.2.1 18 = .ok (.getfield 54, 3) := by decide +kernel
theorem dM_latest_21 : decode M_M_latest.2.1 21 = .ok (.invokevirtual 57, 3) := by decide +kernel
theorem dM_latest_24 : decode M_M_latest.2.1 24 = .ok (.istore 4, 2) := by decide +kernel
theorem dM_latest_26 : decode M_M_latest.2.1 26 = .ok (.iload 4, 2) := by decide +kernel
theorem dM_latest_28 : decode M_M_latest.2.1 28 = .ok (.iload_n 2, 1) := by decide +kernel
theorem dM_latest_29 : decode M_M_latest.2.1 29 = .ok (.if_icmp .le 8, 3) := by decide +kernel
theorem dM_latest_32 : decode M_M_latest.2.1 32 = .ok (.iload 4, 2) := by decide +kernel
theorem dM_latest_34 : decode M_M_latest.2.1 34 = .ok (.goto 4, 3) := by decide +kernel
theorem dM_latest_37 : decode M_M_latest.2.1 37 = .ok (.iload_n 2, 1) := by decide +kernel
theorem dM_latest_38 : decode M_M_latest.2.1 38 = .ok (.istore_n 2, 1) := by decide +kernel
theorem dM_latest_39 : decode M_M_latest.2.1 39 = .ok (.iinc 3 1, 3) := by decide +kernel
theorem dM_latest_42 : decode M_M_latest.2.1 42 = .ok (.goto (-36), 3) := by decide +kernel
theorem dM_latest_45 : decode M_M_latest.2.1 45 = .ok (.iload_n 2, 1) := by decide +kernel
theorem dM_latest_46 : decode M_M_latest.2.1 46 = .ok (.ireturn, 1) := by decide +kernel
theorem dM_add_0 : decode M_M_add.2.1 0 = .ok (.aload_n 0, 1) := by decide +kernel
theorem dM_add_1 : decode M_M_add.2.1 1 = .ok (.dup, 1) := by decide +kernel
theorem dM_add_2 : decode M_M_add.2.1 2 = .ok (.getfield 54, 3) := by decide +kernel
theorem dM_add_5 : decode M_M_add.2.1 5 = .ok (.iconst 1, 1) := by decide +kernel
theorem dM_add_6 : decode M_M_add.2.1 6 = .ok (.iadd, 1) := by decide +kernel
theorem dM_add_7 : decode M_M_add.2.1 7 = .ok (.putfield 54, 3) := by decide +kernel
theorem dM_add_10 : decode M_M_add.2.1 10 = .ok (.aload_n 0, 1) := by decide +kernel
theorem dM_add_11 : decode M_M_add.2.1 11 = .ok (.getfield 7, 3) := by decide +kernel
theorem dM_add_14 : decode M_M_add.2.1 14 = .ok (.aload_n 0, 1) := by decide +kernel
theorem dM_add_15 : decode M_M_add.2.1 15 = .ok (.getfield 54, 3) := by decide +kernel
theorem dM_add_18 : decode M_M_add.2.1 18 = .ok (.iload_n 1, 1) := by decide +kernel
theorem dM_add_19 : decode M_M_add.2.1 19 = .ok (.iastore, 1) := by decide +kernel
theorem dM_add_20 : decode M_M_add.2.1 20 = .ok (.aload_n 0, 1) := by decide +kernel
theorem dM_add_21 : decode M_M_add.2.1 21 = .ok (.getfield 13, 3) := by decide +kernel
theorem dM_add_24 : decode M_M_add.2.1 24 = .ok (.aload_n 0, 1) := by decide +kernel
theorem dM_add_25 : decode M_M_add.2.1 25 = .ok (.getfield 54, 3) := by decide +kernel
theorem dM_add_28 : decode M_M_add.2.1 28 = .ok (.iload_n 2, 1) := by decide +kernel
theorem dM_add_29 : decode M_M_add.2.1 29 = .ok (.iastore, 1) := by decide +kernel
theorem dM_add_30 : decode M_M_add.2.1 30 = .ok (.aload_n 0, 1) := by decide +kernel
theorem dM_add_31 : decode M_M_add.2.1 31 = .ok (.getfield 16, 3) := by decide +kernel
theorem dM_add_34 : decode M_M_add.2.1 34 = .ok (.aload_n 0, 1) := by decide +kernel
theorem dM_add_35 : decode M_M_add.2.1 35 = .ok (.getfield 54, 3) := by decide +kernel
theorem dM_add_38 : decode M_M_add.2.1 38 = .ok (.iload_n 3, 1) := by decide +kernel
theorem dM_add_39 : decode M_M_add.2.1 39 = .ok (.iastore, 1) := by decide +kernel
theorem dM_add_40 : decode M_M_add.2.1 40 = .ok (.aload_n 0, 1) := by decide +kernel
theorem dM_add_41 : decode M_M_add.2.1 41 = .ok (.getfield 19, 3) := by decide +kernel
theorem dM_add_44 : decode M_M_add.2.1 44 = .ok (.aload_n 0, 1) := by decide +kernel
theorem dM_add_45 : decode M_M_add.2.1 45 = .ok (.getfield 54, 3) := by decide +kernel
theorem dM_add_48 : decode M_M_add.2.1 48 = .ok (.iload 4, 2) := by decide +kernel
theorem dM_add_50 : decode M_M_add.2.1 50 = .ok (.iastore, 1) := by decide +kernel
theorem dM_add_51 : decode M_M_add.2.1 51 = .ok (.aload_n 0, 1) := by decide +kernel
theorem dM_add_52 : decode M_M_add.2.1 52 = .ok (.getfield 22, 3) := by decide +kernel
theorem dM_add_55 : decode M_M_add.2.1 55 = .ok (.aload_n 0, 1) := by decide +kernel
theorem dM_add_56 : decode M_M_add.2.1 56 = .ok (.getfield 54, 3) := by decide +kernel
theorem dM_add_59 : decode M_M_add.2.1 59 = .ok (.iload 5, 2) := by decide +kernel
theorem dM_add_61 : decode M_M_add.2.1 61 = .ok (.bastore, 1) := by decide +kernel
theorem dM_add_62 : decode M_M_add.2.1 62 = .ok (.iconst 0, 1) := by decide +kernel
theorem dM_add_63 : decode M_M_add.2.1 63 = .ok (.istore 6, 2) := by decide +kernel
theorem dM_add_65 : decode M_M_add.2.1 65 = .ok (.iload 6, 2) := by decide +kernel
theorem dM_add_67 : decode M_M_add.2.1 67 = .ok (.bipush 12, 2) := by decide +kernel
theorem dM_add_69 : decode M_M_add.2.1 69 = .ok (.if_icmp .ge 26, 3) := by decide +kernel
theorem dM_add_72 : decode M_M_add.2.1 72 = .ok (.aload_n 0, 1) := by decide +kernel
theorem dM_add_73 : decode M_M_add.2.1 73 = .ok (.getfield 26, 3) := by decide +kernel
theorem dM_add_76 : decode M_M_add.2.1 76 = .ok (.sipush 200, 3) := by decide +kernel
theorem dM_add_79 : decode M_M_add.2.1 79 = .ok (.iload 6, 2) := by decide +kernel
theorem dM_add_81 : decode M_M_add.2.1 81 = .ok (.imul, 1) := by decide +kernel
theorem dM_add_82 : decode M_M_add.2.1 82 = .ok (.aload_n 0, 1) := by decide +kernel
theorem dM_add_83 : decode M_M_add.2.1 83 = .ok (.getfield 54, 3) := by decide +kernel
theorem dM_add_86 : decode M_M_add.2.1 86 = .ok (.iadd, 1) := by decide +kernel
theorem dM_add_87 : decode M_M_add.2.1 87 = .ok (.iconst 0, 1) := by decide +kernel
theorem dM_add_88 : decode M_M_add.2.1 88 = .ok (.bastore, 1) := by decide +kernel
theorem dM_add_89 : decode M_M_add.2.1 89 = .ok (.iinc 6 1, 3) := by decide +kernel
theorem dM_add_92 : decode M_M_add.2.1 92 = .ok (.goto (-27), 3) := by decide +kernel
theorem dM_add_95 : decode M_M_add.2.1 95 = .ok (.aload_n 0, 1) := by decide +kernel
theorem dM_add_96 : decode M_M_add.2.1 96 = .ok (.getfield 54, 3) := by decide +kernel
theorem dM_add_99 : decode M_M_add.2.1 99 = .ok (.ireturn, 1) := by decide +kernel
theorem dM_finish_0 : decode M_M_finish.2.1 0 = .ok (.aload_n 0, 1) := by decide +kernel
theorem dM_finish_1 : decode M_M_finish.2.1 1 = .ok (.getfield 38, 3) := by decide +kernel
theorem dM_finish_4 : decode M_M_finish.2.1 4 = .ok (.iload_n 1, 1) := by decide +kernel
theorem dM_finish_5 : decode M_M_finish.2.1 5 = .ok (.iconst 0, 1) := by decide +kernel
theorem dM_finish_6 : decode M_M_finish.2.1 6 = .ok (.bastore, 1) := by decide +kernel
theorem dM_finish_7 : decode M_M_finish.2.1 7 = .ok (.iconst 0, 1) := by decide +kernel
theorem dM_finish_8 : decode M_M_finish.2.1 8 = .ok (.istore_n 3, 1) := by decide +kernel
theorem dM_finish_9 : decode M_M_finish.2.1 9 = .ok (.iload_n 3, 1) := by decide +kernel
theorem dM_finish_10 : decode M_M_finish.2.1 10 = .ok (.bipush 32, 2) := by decide +kernel
theorem dM_finish_12 : decode M_M_finish.2.1 12 = .ok (.if_icmp .ge 35, 3) := by decide +kernel
theorem dM_finish_15 : decode M_M_finish.2.1 15 = .ok (.aload_n 0, 1) := by decide +kernel
theorem dM_finish_16 : decode M_M_finish.2.1 16 = .ok (.getfield 41, 3) := by decide +kernel
theorem dM_finish_19 : decode M_M_finish.2.1 19 = .ok (.iload_n 3, 1) := by decide +kernel
theorem dM_finish_20 : decode M_M_finish.2.1 20 = .ok (.aload_n 0, 1) := by decide +kernel
theorem dM_finish_21 : decode M_M_finish.2.1 21 = .ok (.getfield 41, 3) := by decide +kernel
theorem dM_finish_24 : decode M_M_finish.2.1 24 = .ok (.iload_n 3, 1) := by decide +kernel
theorem dM_finish_25 : decode M_M_finish.2.1 25 = .ok (.iaload, 1) := by decide +kernel
theorem dM_finish_26 : decode M_M_finish.2.1 26 = .ok (.iload_n 1, 1) := by decide +kernel
theorem dM_finish_27 : decode M_M_finish.2.1 27 = .ok (.if_icmp .ne 7, 3) := by decide +kernel
theorem dM_finish_30 : decode M_M_finish.2.1 30 = .ok (.iconst 0, 1) := by decide +kernel
theorem dM_finish_31 : decode M_M_finish.2.1 31 = .ok (.goto 9, 3) := by decide +kernel
theorem dM_finish_34 : decode M_M_finish.2.1 34 = .ok (.aload_n 0, 1) := by decide +kernel
theorem dM_finish_35 : decode M_M_finish.2.1 35 = .ok (.getfield 41, 3) := by decide +kernel
theorem dM_finish_38 : decode M_M_finish.2.1 38 = .ok (.iload_n 3, 1) := by decide +kernel
theorem dM_finish_39 : decode M_M_finish.2.1 39 = .ok (.iaload, 1) := by decide +kernel
theorem dM_finish_40 : decode M_M_finish.2.1 40 = .ok (.iastore, 1) := by decide +kernel
theorem dM_finish_41 : decode M_M_finish.2.1 41 = .ok (.iinc 3 1, 3) := by decide +kernel
theorem dM_finish_44 : decode M_M_finish.2.1 44 = .ok (.goto (-35), 3) := by decide +kernel
theorem dM_finish_47 : decode M_M_finish.2.1 47 = .ok (.aload_n 0, 1) := by decide +kernel
theorem dM_finish_48 : decode M_M_finish.2.1 48 = .ok (.iload_n 1, 1) := by decide +kernel
theorem dM_finish_49 : decode M_M_finish.2.1 49 = .ok (.iconst 0, 1) := by decide +kernel
theorem dM_finish_50 : decode M_M_finish.2.1 50 = .ok (.iconst 0, 1) := by decide +kernel
theorem dM_finish_51 : decode M_M_finish.2.1 51 = .ok (.iload_n 2, 1) := by decide +kernel
theorem dM_finish_52 : decode M_M_finish.2.1 52 = .ok (.iconst 1, 1) := by decide +kernel
theorem dM_finish_53 : decode M_M_finish.2.1 53 = .ok (.invokevirtual 61, 3) := by decide +kernel
theorem dM_finish_56 : decode M_M_finish.2.1 56 = .ok (.ireturn, 1) := by decide +kernel
theorem dM_firstChange_0 : decode M_M_firstChange.2.1 0 = .ok (.iconst 1, 1) := by decide +kernel
theorem dM_firstChange_1 : decode M_M_firstChange.2.1 1 = .ok (.istore_n 3, 1) := by decide +kernel
theorem dM_firstChange_2 : decode M_M_firstChange.2.1 2 = .ok (.iload_n 3, 1) := by decide +kernel
theorem dM_firstChange_3 : decode M_M_firstChange.2.1 3 = .ok (.aload_n 0, 1) := by decide +kernel
theorem dM_firstChange_4 : decode M_M_firstChange.2.1 4 = .ok (.getfield 54, 3) := by decide +kernel
theorem dM_firstChange_7 : decode M_M_firstChange.2.1 7 = .ok (.if_icmp .gt 40, 3) := by decide +kernel
theorem dM_firstChange_10 : decode M_M_firstChange.2.1 10 = .ok (.aload_n 0, 1) := by decide +kernel
theorem dM_firstChange_11 : decode M_M_firstChange.2.1 11 = .ok (.getfield 7, 3) := by decide +kernel
theorem dM_firstChange_14 : decode M_M_firstChange.2.1 14 = .ok (.iload_n 3, 1) := by decide +kernel
theorem dM_firstChange_15 : decode M_M_firstChange.2.1 15 = .ok (.iaload, 1) := by decide +kernel
theorem dM_firstChange_16 : decode M_M_firstChange.2.1 16 = .ok (.iload_n 1, 1) := by decide +kernel
theorem dM_firstChange_17 : decode M_M_firstChange.2.1 17 = .ok (.if_icmp .ne 24, 3) := by decide +kernel
theorem dM_firstChange_20 : decode M_M_firstChange.2.1 20 = .ok (.aload_n 0, 1) := by decide +kernel
theorem dM_firstChange_21 : decode M_M_firstChange.2.1 21 = .ok (.getfield 19, 3) := by decide +kernel
theorem dM_firstChange_24 : decode M_M_firstChange.2.1 24 = .ok (.iload_n 3, 1) := by decide +kernel
theorem dM_firstChange_25 : decode M_M_firstChange.2.1 25 = .ok (.iaload, 1) := by decide +kernel
theorem dM_firstChange_26 : decode M_M_firstChange.2.1 26 = .ok (.ifCond .ne 15, 3) := by decide +kernel
theorem dM_firstChange_29 : decode M_M_firstChange.2.1 29 = .ok (.aload_n 0, 1) := by decide +kernel
theorem dM_firstChange_30 : decode M_M_firstChange.2.1 30 = .ok (.getfield 13, 3) := by decide +kernel
theorem dM_firstChange_33 : decode M_M_firstChange.2.1 33 = .ok (.iload_n 3, 1) := by decide +kernel
theorem dM_firstChange_34 : decode M_M_firstChange.2.1 34 = .ok (.iaload, 1) := by decide +kernel
theorem dM_firstChange_35 : decode M_M_firstChange.2.1 35 = .ok (.iload_n 2, 1) := by decide +kernel
theorem dM_firstChange_36 : decode M_M_firstChange.2.1 36 = .ok (.if_icmp .ne 5, 3) := by decide +kernel
theorem dM_firstChange_39 : decode M_M_firstChange.2.1 39 = .ok (.iload_n 3, 1) := by decide +kernel
theorem dM_firstChange_40 : decode M_M_firstChange.2.1 40 = .ok (.ireturn, 1) := by decide +kernel
theorem dM_firstChange_41 : decode M_M_firstChange.2.1 41 = .ok (.iinc 3 1, 3) := by decide +kernel
theorem dM_firstChange_44 : decode M_M_firstChange.2.1 44 = .ok (.goto (-42), 3) := by decide +kernel
theorem dM_firstChange_47 : decode M_M_firstChange.2.1 47 = .ok (.iconst 0, 1) := by decide +kernel
theorem dM_firstChange_48 : decode M_M_firstChange.2.1 48 = .ok (.ireturn, 1) := by decide +kernel
theorem dM_rollBack_0 : decode M_M_rollBack.2.1 0 = .ok (.aload_n 0, 1) := by decide +kernel
theorem dM_rollBack_1 : decode M_M_rollBack.2.1 1 = .ok (.getfield 54, 3) := by decide +kernel
theorem dM_rollBack_4 : decode M_M_rollBack.2.1 4 = .ok (.istore_n 2, 1) := by decide +kernel
theorem dM_rollBack_5 : decode M_M_rollBack.2.1 5 = .ok (.iconst 0, 1) := by decide +kernel
theorem dM_rollBack_6 : decode M_M_rollBack.2.1 6 = .ok (.istore_n 3, 1) := by decide +kernel
theorem dM_rollBack_7 : decode M_M_rollBack.2.1 7 = .ok (.iload_n 3, 1) := by decide +kernel
theorem dM_rollBack_8 : decode M_M_rollBack.2.1 8 = .ok (.bipush 32, 2) := by decide +kernel
theorem dM_rollBack_10 : decode M_M_rollBack.2.1 10 = .ok (.if_icmp .ge 50, 3) := by decide +kernel
theorem dM_rollBack_13 : decode M_M_rollBack.2.1 13 = .ok (.aload_n 0, 1) := by decide +kernel
theorem dM_rollBack_14 : decode M_M_rollBack.2.1 14 = .ok (.iload_n 1, 1) := by decide +kernel
theorem dM_rollBack_15 : decode M_M_rollBack.2.1 15 = .ok (.iload_n 3, 1) := by decide +kernel
theorem dM_rollBack_16 : decode M_M_rollBack.2.1 16 = .ok (.invokevirtual 65, 3) := by decide +kernel
theorem dM_rollBack_19 : decode M_M_rollBack.2.1 19 = .ok (.istore 4, 2) := by decide +kernel
theorem dM_rollBack_21 : decode M_M_rollBack.2.1 21 = .ok (.iload 4, 2) := by decide +kernel
theorem dM_rollBack_23 : decode M_M_rollBack.2.1 23 = .ok (.ifCond .le 31, 3) := by decide +kernel
theorem dM_rollBack_26 : decode M_M_rollBack.2.1 26 = .ok (.iload 4, 2) := by decide +kernel
theorem dM_rollBack_28 : decode M_M_rollBack.2.1 28 = .ok (.iload_n 2, 1) := by decide +kernel
theorem dM_rollBack_29 : decode M_M_rollBack.2.1 29 = .ok (.if_icmp .gt 25, 3) := by decide +kernel
theorem dM_rollBack_32 : decode M_M_rollBack.2.1 32 = .ok (.aload_n 0, 1) := by decide +kernel
theorem dM_rollBack_33 : decode M_M_rollBack.2.1 33 = .ok (.iload_n 3, 1) := by decide +kernel
theorem dM_rollBack_34 : decode M_M_rollBack.2.1 34 = .ok (.iload 4, 2) := by decide +kernel
theorem dM_rollBack_36 : decode M_M_rollBack.2.1 36 = .ok (.iconst 1, 1) := by decide +kernel
theorem dM_rollBack_37 : decode M_M_rollBack.2.1 37 = .ok (.isub, 1) := by decide +kernel
theorem dM_rollBack_38 : decode M_M_rollBack.2.1 38 = .ok (.invokevirtual 68, 3) := by decide +kernel
theorem dM_rollBack_41 : decode M_M_rollBack.2.1 41 = .ok (.istore 5, 2) := by decide +kernel
theorem dM_rollBack_43 : decode M_M_rollBack.2.1 43 = .ok (.aload_n 0, 1) := by decide +kernel
theorem dM_rollBack_44 : decode M_M_rollBack.2.1 44 = .ok (.iload_n 1, 1) := by decide +kernel
theorem dM_rollBack_45 : decode M_M_rollBack.2.1 45 = .ok (.iload_n 3, 1) := by decide +kernel
theorem dM_rollBack_46 : decode M_M_rollBack.2.1 46 = .ok (.iload 5, 2) := by decide +kernel
theorem dM_rollBack_48 : decode M_M_rollBack.2.1 48 = .ok (.iconst 0, 1) := by decide +kernel
theorem dM_rollBack_49 : decode M_M_rollBack.2.1 49 = .ok (.iconst 0, 1) := by decide +kernel
theorem dM_rollBack_50 : decode M_M_rollBack.2.1 50 = .ok (.invokevirtual 61, 3) := by decide +kernel
theorem dM_rollBack_53 : decode M_M_rollBack.2.1 53 = .ok (.pop, 1) := by decide +kernel
theorem dM_rollBack_54 : decode M_M_rollBack.2.1 54 = .ok (.iinc 3 1, 3) := by decide +kernel
theorem dM_rollBack_57 : decode M_M_rollBack.2.1 57 = .ok (.goto (-50), 3) := by decide +kernel
theorem dM_rollBack_60 : decode M_M_rollBack.2.1 60 = .ok (.aload_n 0, 1) := by decide +kernel
theorem dM_rollBack_61 : decode M_M_rollBack.2.1 61 = .ok (.iload_n 1, 1) := by decide +kernel
theorem dM_rollBack_62 : decode M_M_rollBack.2.1 62 = .ok (.iconst 2, 1) := by decide +kernel
theorem dM_rollBack_63 : decode M_M_rollBack.2.1 63 = .ok (.invokevirtual 71, 3) := by decide +kernel
theorem dM_rollBack_66 : decode M_M_rollBack.2.1 66 = .ok (.ireturn, 1) := by decide +kernel
theorem dM_endOf_0 : decode M_M_endOf.2.1 0 = .ok (.iconst 1, 1) := by decide +kernel
theorem dM_endOf_1 : decode M_M_endOf.2.1 1 = .ok (.istore_n 3, 1) := by decide +kernel
theorem dM_endOf_2 : decode M_M_endOf.2.1 2 = .ok (.iload_n 3, 1) := by decide +kernel
theorem dM_endOf_3 : decode M_M_endOf.2.1 3 = .ok (.iload_n 2, 1) := by decide +kernel
theorem dM_endOf_4 : decode M_M_endOf.2.1 4 = .ok (.if_icmp .gt 38, 3) := by decide +kernel
theorem dM_endOf_7 : decode M_M_endOf.2.1 7 = .ok (.iload_n 3, 1) := by decide +kernel
theorem dM_endOf_8 : decode M_M_endOf.2.1 8 = .ok (.aload_n 0, 1) := by decide +kernel
theorem dM_endOf_9 : decode M_M_endOf.2.1 9 = .ok (.getfield 54, 3) := by decide +kernel
theorem dM_endOf_12 : decode M_M_endOf.2.1 12 = .ok (.if_icmp .gt 30, 3) := by decide +kernel
theorem dM_endOf_15 : decode M_M_endOf.2.1 15 = .ok (.aload_n 0, 1) := by decide +kernel
theorem dM_endOf_16 : decode M_M_endOf.2.1 16 = .ok (.getfield 7, 3) := by decide +kernel
theorem dM_endOf_19 : decode M_M_endOf.2.1 19 = .ok (.iload_n 3, 1) := by decide +kernel
theorem dM_endOf_20 : decode M_M_endOf.2.1 20 = .ok (.iaload, 1) := by decide +kernel
theorem dM_endOf_21 : decode M_M_endOf.2.1 21 = .ok (.iload_n 1, 1) := by decide +kernel
theorem dM_endOf_22 : decode M_M_endOf.2.1 22 = .ok (.if_icmp .ne 14, 3) := by decide +kernel
theorem dM_endOf_25 : decode M_M_endOf.2.1 25 = .ok (.aload_n 0, 1) := by decide +kernel
theorem dM_endOf_26 : decode M_M_endOf.2.1 26 = .ok (.getfield 19, 3) := by decide +kernel
theorem dM_endOf_29 : decode M_M_endOf.2.1 29 = .ok (.iload_n 3, 1) := by decide +kernel
theorem dM_endOf_30 : decode M_M_endOf.2.1 30 = .ok (.iaload, 1) := by decide +kernel
theorem dM_endOf_31 : decode M_M_endOf.2.1 31 = .ok (.ifCond .le 5, 3) := by decide +kernel
theorem dM_endOf_34 : decode M_M_endOf.2.1 34 = .ok (.iload_n 3, 1) := by decide +kernel
theorem dM_endOf_35 : decode M_M_endOf.2.1 35 = .ok (.ireturn, 1) := by decide +kernel
theorem dM_endOf_36 : decode M_M_endOf.2.1 36 = .ok (.iinc 3 1, 3) := by decide +kernel
theorem dM_endOf_39 : decode M_M_endOf.2.1 39 = .ok (.goto (-37), 3) := by decide +kernel
theorem dM_endOf_42 : decode M_M_endOf.2.1 42 = .ok (.iconst 0, 1) := by decide +kernel
theorem dM_endOf_43 : decode M_M_endOf.2.1 43 = .ok (.ireturn, 1) := by decide +kernel
theorem dM_pointOf_0 : decode M_M_pointOf.2.1 0 = .ok (.iconst 0, 1) := by decide +kernel
theorem dM_pointOf_1 : decode M_M_pointOf.2.1 1 = .ok (.istore_n 2, 1) := by decide +kernel
theorem dM_pointOf_2 : decode M_M_pointOf.2.1 2 = .ok (.iconst 1, 1) := by decide +kernel
theorem dM_pointOf_3 : decode M_M_pointOf.2.1 3 = .ok (.istore_n 3, 1) := by decide +kernel
theorem dM_pointOf_4 : decode M_M_pointOf.2.1 4 = .ok (.iconst 1, 1) := by decide +kernel
theorem dM_pointOf_5 : decode M_M_pointOf.2.1 5 = .ok (.istore 4, 2) := by decide +kernel
theorem dM_pointOf_7 : decode M_M_pointOf.2.1 7 = .ok (.iload 4, 2) := by decide +kernel
theorem dM_pointOf_9 : decode M_M_pointOf.2.1 9 = .ok (.aload_n 0, 1) := by decide +kernel
theorem dM_pointOf_10 : decode M_M_pointOf.2.1 10 = .ok (.getfield 54, 3) := by decide +kernel
theorem dM_pointOf_13 : decode M_M_pointOf.2.1 13 = .ok (.if_icmp .gt 51, 3) := by decide +kernel
theorem dM_pointOf_16 : decode M_M_pointOf.2.1 16 = .ok (.iload_n 3, 1) := by decide +kernel
theorem dM_pointOf_17 : decode M_M_pointOf.2.1 17 = .ok (.ifCond .eq 47, 3) := by decide +kernel
theorem dM_pointOf_20 : decode M_M_pointOf.2.1 20 = .ok (.aload_n 0, 1) := by decide +kernel
theorem dM_pointOf_21 : decode M_M_pointOf.2.1 21 = .ok (.iload 4, 2) := by decide +kernel
theorem dM_pointOf_23 : decode M_M_pointOf.2.1 23 = .ok (.invokevirtual 74, 3) := by decide +kernel
theorem dM_pointOf_26 : decode M_M_pointOf.2.1 26 = .ok (.iload_n 1, 1) := by decide +kernel
theorem dM_pointOf_27 : decode M_M_pointOf.2.1 27 = .ok (.bipush 6, 2) := by decide +kernel
theorem dM_pointOf_29 : decode M_M_pointOf.2.1 29 = .ok (.idiv, 1) := by decide +kernel
theorem dM_pointOf_30 : decode M_M_pointOf.2.1 30 = .ok (.if_icmp .ne 28, 3) := by decide +kernel
theorem dM_pointOf_33 : decode M_M_pointOf.2.1 33 = .ok (.aload_n 0, 1) := by decide +kernel
theorem dM_pointOf_34 : decode M_M_pointOf.2.1 34 = .ok (.getfield 26, 3) := by decide +kernel
theorem dM_pointOf_37 : decode M_M_pointOf.2.1 37 = .ok (.sipush 200, 3) := by decide +kernel
theorem dM_pointOf_40 : decode M_M_pointOf.2.1 40 = .ok (.iload_n 1, 1) := by decide +kernel
theorem dM_pointOf_41 : decode M_M_pointOf.2.1 41 = .ok (.imul, 1) := by decide +kernel
theorem dM_pointOf_42 : decode M_M_pointOf.2.1 42 = .ok (.iload 4, 2) := by decide +kernel
theorem dM_pointOf_44 : decode M_M_pointOf.2.1 44 = .ok (.iadd, 1) := by decide +kernel
theorem dM_pointOf_45 : decode M_M_pointOf.2.1 45 = .ok (.baload, 1) := by decide +kernel
theorem dM_pointOf_46 : decode M_M_pointOf.2.1 46 = .ok (.istore_n 3, 1) := by decide +kernel
theorem dM_pointOf_47 : decode M_M_pointOf.2.1 47 = .ok (.iload_n 3, 1) := by decide +kernel
theorem dM_pointOf_48 : decode M_M_pointOf.2.1 48 = .ok (.ifCond .eq 8, 3) := by decide +kernel
theorem dM_pointOf_51 : decode M_M_pointOf.2.1 51 = .ok (.iload 4, 2) := by decide +kernel
theorem dM_pointOf_53 : decode M_M_pointOf.2.1 53 = .ok (.goto 4, 3) := by decide +kernel
theorem dM_pointOf_56 : decode M_M_pointOf.2.1 56 = .ok (.iload_n 2, 1) := by decide +kernel
theorem dM_pointOf_57 : decode M_M_pointOf.2.1 57 = .ok (.istore_n 2, 1) := by decide +kernel
theorem dM_pointOf_58 : decode M_M_pointOf.2.1 58 = .ok (.iinc 4 1, 3) := by decide +kernel
theorem dM_pointOf_61 : decode M_M_pointOf.2.1 61 = .ok (.goto (-54), 3) := by decide +kernel
theorem dM_pointOf_64 : decode M_M_pointOf.2.1 64 = .ok (.iload_n 2, 1) := by decide +kernel
theorem dM_pointOf_65 : decode M_M_pointOf.2.1 65 = .ok (.ireturn, 1) := by decide +kernel
theorem dM_groupPoint_0 : decode M_M_groupPoint.2.1 0 = .ok (.iconst 0, 1) := by decide +kernel
theorem dM_groupPoint_1 : decode M_M_groupPoint.2.1 1 = .ok (.istore_n 2, 1) := by decide +kernel
theorem dM_groupPoint_2 : decode M_M_groupPoint.2.1 2 = .ok (.bipush 6, 2) := by decide +kernel
theorem dM_groupPoint_4 : decode M_M_groupPoint.2.1 4 = .ok (.iload_n 1, 1) := by decide +kernel
theorem dM_groupPoint_5 : decode M_M_groupPoint.2.1 5 = .ok (.imul, 1) := by decide +kernel
theorem dM_groupPoint_6 : decode M_M_groupPoint.2.1 6 = .ok (.istore_n 3, 1) := by decide +kernel
theorem dM_groupPoint_7 : decode M_M_groupPoint.2.1 7 = .ok (.iload_n 3, 1) := by decide +kernel
theorem dM_groupPoint_8 : decode M_M_groupPoint.2.1 8 = .ok (.bipush 6, 2) := by decide +kernel
theorem dM_groupPoint_10 : decode M_M_groupPoint.2.1 10 = .ok (.iload_n 1, 1) := by decide +kernel
theorem dM_groupPoint_11 : decode M_M_groupPoint.2.1 11 = .ok (.imul, 1) := by decide +kernel
theorem dM_groupPoint_12 : decode M_M_groupPoint.2.1 12 = .ok (.bipush 6, 2) := by decide +kernel
theorem dM_groupPoint_14 : decode M_M_groupPoint.2.1 14 = .ok (.iadd, 1) := by decide +kernel
theorem dM_groupPoint_15 : decode M_M_groupPoint.2.1 15 = .ok (.if_icmp .ge 89, 3) := by decide +kernel
theorem dM_groupPoint_18 : decode M_M_groupPoint.2.1 18 = .ok (.iconst 0, 1) := by decide +kernel
theorem dM_groupPoint_19 : decode M_M_groupPoint.2.1 19 = .ok (.istore 4, 2) := by decide +kernel
theorem dM_groupPoint_21 : decode M_M_groupPoint.2.1 21 = .ok (.bipush 6, 2) := by decide +kernel
theorem dM_groupPoint_23 : decode M_M_groupPoint.2.1 23 = .ok (.iload_n 1, 1) := by decide +kernel
theorem dM_groupPoint_24 : decode M_M_groupPoint.2.1 24 = .ok (.imul, 1) := by decide +kernel
theorem dM_groupPoint_25 : decode M_M_groupPoint.2.1 25 = .ok (.istore 5, 2) := by decide +kernel
theorem dM_groupPoint_27 : decode M_M_groupPoint.2.1 27 = .ok (.iload 5, 2) := by decide +kernel
theorem dM_groupPoint_29 : decode M_M_groupPoint.2.1 29 = .ok (.bipush 6, 2) := by decide +kernel
theorem dM_groupPoint_31 : decode M_M_groupPoint.2.1 31 = .ok (.iload_n 1, 1) := by decide +kernel
theorem dM_groupPoint_32 : decode M_M_groupPoint.2.1 32 = .ok (.imul, 1) := by decide +kernel
theorem dM_groupPoint_33 : decode M_M_groupPoint.2.1 33 = .ok (.bipush 6, 2) := by decide +kernel
theorem dM_groupPoint_35 : decode M_M_groupPoint.2.1 35 = .ok (.iadd, 1) := by decide +kernel
theorem dM_groupPoint_36 : decode M_M_groupPoint.2.1 36 = .ok (.if_icmp .ge 35, 3) := by decide +kernel
theorem dM_groupPoint_39 : decode M_M_groupPoint.2.1 39 = .ok (.iload 4, 2) := by decide +kernel
theorem dM_groupPoint_41 : decode M_M_groupPoint.2.1 41 = .ok (.aload_n 0, 1) := by decide +kernel
theorem dM_groupPoint_42 : decode M_M_groupPoint.2.1 42 = .ok (.getfield 35, 3) := by decide +kernel
theorem dM_groupPoint_45 : decode M_M_groupPoint.2.1 45 = .ok (.iload 5, 2) := by decide +kernel
theorem dM_groupPoint_47 : decode M_M_groupPoint.2.1 47 = .ok (.iaload, 1) := by decide +kernel
theorem dM_groupPoint_48 : decode M_M_groupPoint.2.1 48 = .ok (.aload_n 0, 1) := by decide +kernel
theorem dM_groupPoint_49 : decode M_M_groupPoint.2.1 49 = .ok (.getfield 35, 3) := by decide +kernel
theorem dM_groupPoint_52 : decode M_M_groupPoint.2.1 52 = .ok (.iload_n 3, 1) := by decide +kernel
theorem dM_groupPoint_53 : decode M_M_groupPoint.2.1 53 = .ok (.iaload, 1) := by decide +kernel
theorem dM_groupPoint_54 : decode M_M_groupPoint.2.1 54 = .ok (.if_icmp .lt 7, 3) := by decide +kernel
theorem dM_groupPoint_57 : decode M_M_groupPoint.2.1 57 = .ok (.iconst 1, 1) := by decide +kernel
theorem dM_groupPoint_58 : decode M_M_groupPoint.2.1 58 = .ok (.goto 4, 3) := by decide +kernel
theorem dM_groupPoint_61 : decode M_M_groupPoint.2.1 61 = .ok (.iconst 0, 1) := by decide +kernel
theorem dM_groupPoint_62 : decode M_M_groupPoint.2.1 62 = .ok (.iadd, 1) := by decide +kernel
theorem dM_groupPoint_63 : decode M_M_groupPoint.2.1 63 = .ok (.istore 4, 2) := by decide +kernel
theorem dM_groupPoint_65 : decode M_M_groupPoint.2.1 65 = .ok (.iinc 5 1, 3) := by decide +kernel
theorem dM_groupPoint_68 : decode M_M_groupPoint.2.1 68 = .ok (.goto (-41), 3) := by decide +kernel
theorem dM_groupPoint_71 : decode M_M_groupPoint.2.1 71 = .ok (.iload 4, 2) := by decide +kernel
theorem dM_groupPoint_73 : decode M_M_groupPoint.2.1 73 = .ok (.iconst 4, 1) := by decide +kernel
theorem dM_groupPoint_74 : decode M_M_groupPoint.2.1 74 = .ok (.if_icmp .lt 22, 3) := by decide +kernel
theorem dM_groupPoint_77 : decode M_M_groupPoint.2.1 77 = .ok (.aload_n 0, 1) := by decide +kernel
theorem dM_groupPoint_78 : decode M_M_groupPoint.2.1 78 = .ok (.getfield 35, 3) := by decide +kernel
theorem dM_groupPoint_81 : decode M_M_groupPoint.2.1 81 = .ok (.iload_n 3, 1) := by decide +kernel
theorem dM_groupPoint_82 : decode M_M_groupPoint.2.1 82 = .ok (.iaload, 1) := by decide +kernel
theorem dM_groupPoint_83 : decode M_M_groupPoint.2.1 83 = .ok (.iload_n 2, 1) := by decide +kernel
theorem dM_groupPoint_84 : decode M_M_groupPoint.2.1 84 = .ok (.if_icmp .le 12, 3) := by decide +kernel
theorem dM_groupPoint_87 : decode M_M_groupPoint.2.1 87 = .ok (.aload_n 0, 1) := by decide +kernel
theorem dM_groupPoint_88 : decode M_M_groupPoint.2.1 88 = .ok (.getfield 35, 3) := by decide +kernel
theorem dM_groupPoint_91 : decode M_M_groupPoint.2.1 91 = .ok (.iload_n 3, 1) := by decide +kernel
theorem dM_groupPoint_92 : decode M_M_groupPoint.2.1 92 = .ok (.iaload, 1) := by decide +kernel
theorem dM_groupPoint_93 : decode M_M_groupPoint.2.1 93 = .ok (.goto 4, 3) := by decide +kernel
theorem dM_groupPoint_96 : decode M_M_groupPoint.2.1 96 = .ok (.iload_n 2, 1) := by decide +kernel
theorem dM_groupPoint_97 : decode M_M_groupPoint.2.1 97 = .ok (.istore_n 2, 1) := by decide +kernel
theorem dM_groupPoint_98 : decode M_M_groupPoint.2.1 98 = .ok (.iinc 3 1, 3) := by decide +kernel
theorem dM_groupPoint_101 : decode M_M_groupPoint.2.1 101 = .ok (.goto (-94), 3) := by decide +kernel
theorem dM_groupPoint_104 : decode M_M_groupPoint.2.1 104 = .ok (.iload_n 2, 1) := by decide +kernel
theorem dM_groupPoint_105 : decode M_M_groupPoint.2.1 105 = .ok (.ireturn, 1) := by decide +kernel
theorem dM_complete_0 : decode M_M_complete.2.1 0 = .ok (.aload_n 0, 1) := by decide +kernel
theorem dM_complete_1 : decode M_M_complete.2.1 1 = .ok (.iconst 0, 1) := by decide +kernel
theorem dM_complete_2 : decode M_M_complete.2.1 2 = .ok (.invokevirtual 78, 3) := by decide +kernel
theorem dM_complete_5 : decode M_M_complete.2.1 5 = .ok (.istore_n 1, 1) := by decide +kernel
theorem dM_complete_6 : decode M_M_complete.2.1 6 = .ok (.aload_n 0, 1) := by decide +kernel
theorem dM_complete_7 : decode M_M_complete.2.1 7 = .ok (.iconst 1, 1) := by decide +kernel
theorem dM_complete_8 : decode M_M_complete.2.1 8 = .ok (.invokevirtual 78, 3) := by decide +kernel
theorem dM_complete_11 : decode M_M_complete.2.1 11 = .ok (.istore_n 2, 1) := by decide +kernel
theorem dM_complete_12 : decode M_M_complete.2.1 12 = .ok (.iconst 0, 1) := by decide +kernel
theorem dM_complete_13 : decode M_M_complete.2.1 13 = .ok (.istore_n 3, 1) := by decide +kernel
theorem dM_complete_14 : decode M_M_complete.2.1 14 = .ok (.iload_n 3, 1) := by decide +kernel
theorem dM_complete_15 : decode M_M_complete.2.1 15 = .ok (.aload_n 0, 1) := by decide +kernel
theorem dM_complete_16 : decode M_M_complete.2.1 16 = .ok (.getfield 54, 3) := by decide +kernel
theorem dM_complete_19 : decode M_M_complete.2.1 19 = .ok (.if_icmp .ge 30, 3) := by decide +kernel
theorem dM_complete_22 : decode M_M_complete.2.1 22 = .ok (.iload_n 3, 1) := by decide +kernel
theorem dM_complete_23 : decode M_M_complete.2.1 23 = .ok (.iconst 1, 1) := by decide +kernel
theorem dM_complete_24 : decode M_M_complete.2.1 24 = .ok (.iadd, 1) := by decide +kernel
theorem dM_complete_25 : decode M_M_complete.2.1 25 = .ok (.aload_n 0, 1) := by decide +kernel
theorem dM_complete_26 : decode M_M_complete.2.1 26 = .ok (.iload_n 3, 1) := by decide +kernel
theorem dM_complete_27 : decode M_M_complete.2.1 27 = .ok (.iconst 1, 1) := by decide +kernel
theorem dM_complete_28 : decode M_M_complete.2.1 28 = .ok (.iadd, 1) := by decide +kernel
theorem dM_complete_29 : decode M_M_complete.2.1 29 = .ok (.invokevirtual 74, 3) := by decide +kernel
theorem dM_complete_32 : decode M_M_complete.2.1 32 = .ok (.ifCond .ne 7, 3) := by decide +kernel
theorem dM_complete_35 : decode M_M_complete.2.1 35 = .ok (.iload_n 1, 1) := by decide +kernel
theorem dM_complete_36 : decode M_M_complete.2.1 36 = .ok (.goto 4, 3) := by decide +kernel
theorem dM_complete_39 : decode M_M_complete.2.1 39 = .ok (.iload_n 2, 1) := by decide +kernel
theorem dM_complete_40 : decode M_M_complete.2.1 40 = .ok (.if_icmp .gt 9, 3) := by decide +kernel
theorem dM_complete_43 : decode M_M_complete.2.1 43 = .ok (.iinc 3 1, 3) := by decide +kernel
theorem dM_complete_46 : decode M_M_complete.2.1 46 = .ok (.goto (-32), 3) := by decide +kernel
theorem dM_complete_49 : decode M_M_complete.2.1 49 = .ok (.iload_n 3, 1) := by decide +kernel
theorem dM_complete_50 : decode M_M_complete.2.1 50 = .ok (.ireturn, 1) := by decide +kernel
theorem dM_closeUpTo_0 : decode M_M_closeUpTo.2.1 0 = .ok (.iconst 0, 1) := by decide +kernel
theorem dM_closeUpTo_1 : decode M_M_closeUpTo.2.1 1 = .ok (.istore_n 2, 1) := by decide +kernel
theorem dM_closeUpTo_2 : decode M_M_closeUpTo.2.1 2 = .ok (.iconst 1, 1) := by decide +kernel
theorem dM_closeUpTo_3 : decode M_M_closeUpTo.2.1 3 = .ok (.istore_n 3, 1) := by decide +kernel
theorem dM_closeUpTo_4 : decode M_M_closeUpTo.2.1 4 = .ok (.iload_n 3, 1) := by decide +kernel
theorem dM_closeUpTo_5 : decode M_M_closeUpTo.2.1 5 = .ok (.iload_n 1, 1) := by decide +kernel
theorem dM_closeUpTo_6 : decode M_M_closeUpTo.2.1 6 = .ok (.if_icmp .gt 24, 3) := by decide +kernel
theorem dM_closeUpTo_9 : decode M_M_closeUpTo.2.1 9 = .ok (.aload_n 0, 1) := by decide +kernel
theorem dM_closeUpTo_10 : decode M_M_closeUpTo.2.1 10 = .ok (.getfield 22, 3) := by decide +kernel
theorem dM_closeUpTo_13 : decode M_M_closeUpTo.2.1 13 = .ok (.iload_n 3, 1) := by decide +kernel
theorem dM_closeUpTo_14 : decode M_M_closeUpTo.2.1 14 = .ok (.baload, 1) := by decide +kernel
theorem dM_closeUpTo_15 : decode M_M_closeUpTo.2.1 15 = .ok (.ifCond .eq 7, 3) := by decide +kernel
theorem dM_closeUpTo_18 : decode M_M_closeUpTo.2.1 18 = .ok (.iload_n 3, 1) := by decide +kernel
theorem dM_closeUpTo_19 : decode M_M_closeUpTo.2.1 19 = .ok (.goto 4, 3) := by decide +kernel
theorem dM_closeUpTo_22 : decode M_M_closeUpTo.2.1 22 = .ok (.iload_n 2, 1) := by decide +kernel
theorem dM_closeUpTo_23 : decode M_M_closeUpTo.2.1 23 = .ok (.istore_n 2, 1) := by decide +kernel
theorem dM_closeUpTo_24 : decode M_M_closeUpTo.2.1 24 = .ok (.iinc 3 1, 3) := by decide +kernel
theorem dM_closeUpTo_27 : decode M_M_closeUpTo.2.1 27 = .ok (.goto (-23), 3) := by decide +kernel
theorem dM_closeUpTo_30 : decode M_M_closeUpTo.2.1 30 = .ok (.iload_n 2, 1) := by decide +kernel
theorem dM_closeUpTo_31 : decode M_M_closeUpTo.2.1 31 = .ok (.ireturn, 1) := by decide +kernel
theorem dM_reportPoint_0 : decode M_M_reportPoint.2.1 0 = .ok (.aload_n 0, 1) := by decide +kernel
theorem dM_reportPoint_1 : decode M_M_reportPoint.2.1 1 = .ok (.getfield 35, 3) := by decide +kernel
theorem dM_reportPoint_4 : decode M_M_reportPoint.2.1 4 = .ok (.iload_n 1, 1) := by decide +kernel
theorem dM_reportPoint_5 : decode M_M_reportPoint.2.1 5 = .ok (.aload_n 0, 1) := by decide +kernel
theorem dM_reportPoint_6 : decode M_M_reportPoint.2.1 6 = .ok (.iload_n 1, 1) := by decide +kernel
theorem dM_reportPoint_7 : decode M_M_reportPoint.2.1 7 = .ok (.invokevirtual 81, 3) := by decide +kernel
theorem dM_reportPoint_10 : decode M_M_reportPoint.2.1 10 = .ok (.iastore, 1) := by decide +kernel
theorem dM_reportPoint_11 : decode M_M_reportPoint.2.1 11 = .ok (.aload_n 0, 1) := by decide +kernel
theorem dM_reportPoint_12 : decode M_M_reportPoint.2.1 12 = .ok (.invokevirtual 84, 3) := by decide +kernel
theorem dM_reportPoint_15 : decode M_M_reportPoint.2.1 15 = .ok (.return_, 1) := by decide +kernel
theorem dM_advance_0 : decode M_M_advance.2.1 0 = .ok (.aload_n 0, 1) := by decide +kernel
theorem dM_advance_1 : decode M_M_advance.2.1 1 = .ok (.aload_n 0, 1) := by decide +kernel
theorem dM_advance_2 : decode M_M_advance.2.1 2 = .ok (.invokevirtual 87, 3) := by decide +kernel
theorem dM_advance_5 : decode M_M_advance.2.1 5 = .ok (.invokevirtual 91, 3) := by decide +kernel
theorem dM_advance_8 : decode M_M_advance.2.1 8 = .ok (.istore_n 1, 1) := by decide +kernel
theorem dM_advance_9 : decode M_M_advance.2.1 9 = .ok (.aload_n 0, 1) := by decide +kernel
theorem dM_advance_10 : decode M_M_advance.2.1 10 = .ok (.iload_n 1, 1) := by decide +kernel
theorem dM_advance_11 : decode M_M_advance.2.1 11 = .ok (.aload_n 0, 1) := by decide +kernel
theorem dM_advance_12 : decode M_M_advance.2.1 12 = .ok (.getfield 94, 3) := by decide +kernel
theorem dM_advance_15 : decode M_M_advance.2.1 15 = .ok (.if_icmp .le 7, 3) := by decide +kernel
theorem dM_advance_18 : decode M_M_advance.2.1 18 = .ok (.iload_n 1, 1) := by decide +kernel
theorem dM_advance_19 : decode M_M_advance.2.1 19 = .ok (.goto 7, 3) := by decide +kernel
theorem dM_advance_22 : decode M_M_advance.2.1 22 = .ok (.aload_n 0, 1) := by decide +kernel
theorem dM_advance_23 : decode M_M_advance.2.1 23 = .ok (.getfield 94, 3) := by decide +kernel
theorem dM_advance_26 : decode M_M_advance.2.1 26 = .ok (.putfield 94, 3) := by decide +kernel
theorem dM_advance_29 : decode M_M_advance.2.1 29 = .ok (.return_, 1) := by decide +kernel
theorem dM_served_0 : decode M_M_served.2.1 0 = .ok (.bipush 6, 2) := by decide +kernel
theorem dM_served_2 : decode M_M_served.2.1 2 = .ok (.iload_n 1, 1) := by decide +kernel
theorem dM_served_3 : decode M_M_served.2.1 3 = .ok (.imul, 1) := by decide +kernel
theorem dM_served_4 : decode M_M_served.2.1 4 = .ok (.istore_n 3, 1) := by decide +kernel
theorem dM_served_5 : decode M_M_served.2.1 5 = .ok (.iload_n 3, 1) := by decide +kernel
theorem dM_served_6 : decode M_M_served.2.1 6 = .ok (.bipush 6, 2) := by decide +kernel
theorem dM_served_8 : decode M_M_served.2.1 8 = .ok (.iload_n 1, 1) := by decide +kernel
theorem dM_served_9 : decode M_M_served.2.1 9 = .ok (.imul, 1) := by decide +kernel
theorem dM_served_10 : decode M_M_served.2.1 10 = .ok (.bipush 6, 2) := by decide +kernel
theorem dM_served_12 : decode M_M_served.2.1 12 = .ok (.iadd, 1) := by decide +kernel
theorem dM_served_13 : decode M_M_served.2.1 13 = .ok (.if_icmp .ge 94, 3) := by decide +kernel
theorem dM_served_16 : decode M_M_served.2.1 16 = .ok (.aload_n 0, 1) := by decide +kernel
theorem dM_served_17 : decode M_M_served.2.1 17 = .ok (.getfield 29, 3) := by decide +kernel
theorem dM_served_20 : decode M_M_served.2.1 20 = .ok (.iload_n 3, 1) := by decide +kernel
theorem dM_served_21 : decode M_M_served.2.1 21 = .ok (.iaload, 1) := by decide +kernel
theorem dM_served_22 : decode M_M_served.2.1 22 = .ok (.ifCond .ne 7, 3) := by decide +kernel
theorem dM_served_25 : decode M_M_served.2.1 25 = .ok (.iconst 1, 1) := by decide +kernel
theorem dM_served_26 : decode M_M_served.2.1 26 = .ok (.goto 4, 3) := by decide +kernel
theorem dM_served_29 : decode M_M_served.2.1 29 = .ok (.iconst 0, 1) := by decide +kernel
theorem dM_served_30 : decode M_M_served.2.1 30 = .ok (.istore 4, 2) := by decide +kernel
theorem dM_served_32 : decode M_M_served.2.1 32 = .ok (.iconst 1, 1) := by decide +kernel
theorem dM_served_33 : decode M_M_served.2.1 33 = .ok (.istore 5, 2) := by decide +kernel
theorem dM_served_35 : decode M_M_served.2.1 35 = .ok (.iload 5, 2) := by decide +kernel
theorem dM_served_37 : decode M_M_served.2.1 37 = .ok (.iload_n 2, 1) := by decide +kernel
theorem dM_served_38 : decode M_M_served.2.1 38 = .ok (.if_icmp .gt 56, 3) := by decide +kernel
theorem dM_served_41 : decode M_M_served.2.1 41 = .ok (.iload 5, 2) := by decide +kernel
theorem dM_served_43 : decode M_M_served.2.1 43 = .ok (.aload_n 0, 1) := by decide +kernel
theorem dM_served_44 : decode M_M_served.2.1 44 = .ok (.getfield 54, 3) := by decide +kernel
theorem dM_served_47 : decode M_M_served.2.1 47 = .ok (.if_icmp .gt 47, 3) := by decide +kernel
theorem dM_served_50 : decode M_M_served.2.1 50 = .ok (.iload 4, 2) := by decide +kernel
theorem dM_served_52 : decode M_M_served.2.1 52 = .ok (.ifCond .eq 33, 3) := by decide +kernel
theorem dM_served_55 : decode M_M_served.2.1 55 = .ok (.aload_n 0, 1) := by decide +kernel
theorem dM_served_56 : decode M_M_served.2.1 56 = .ok (.iload 5, 2) := by decide +kernel
theorem dM_served_58 : decode M_M_served.2.1 58 = .ok (.invokevirtual 74, 3) := by decide +kernel
theorem dM_served_61 : decode M_M_served.2.1 61 = .ok (.iload_n 1, 1) := by decide +kernel
theorem dM_served_62 : decode M_M_served.2.1 62 = .ok (.if_icmp .ne 19, 3) := by decide +kernel
theorem dM_served_65 : decode M_M_served.2.1 65 = .ok (.aload_n 0, 1) := by decide +kernel
theorem dM_served_66 : decode M_M_served.2.1 66 = .ok (.getfield 26, 3) := by decide +kernel
theorem dM_served_69 : decode M_M_served.2.1 69 = .ok (.sipush 200, 3) := by decide +kernel
theorem dM_served_72 : decode M_M_served.2.1 72 = .ok (.iload_n 3, 1) := by decide +kernel
theorem dM_served_73 : decode M_M_served.2.1 73 = .ok (.imul, 1) := by decide +kernel
theorem dM_served_74 : decode M_M_served.2.1 74 = .ok (.iload 5, 2) := by decide +kernel
theorem dM_served_76 : decode M_M_served.2.1 76 = .ok (.iadd, 1) := by decide +kernel
theorem dM_served_77 : decode M_M_served.2.1 77 = .ok (.baload, 1) := by decide +kernel
theorem dM_served_78 : decode M_M_served.2.1 78 = .ok (.ifCond .eq 7, 3) := by decide +kernel
theorem dM_served_81 : decode M_M_served.2.1 81 = .ok (.iconst 1, 1) := by decide +kernel
theorem dM_served_82 : decode M_M_served.2.1 82 = .ok (.goto 4, 3) := by decide +kernel
theorem dM_served_85 : decode M_M_served.2.1 85 = .ok (.iconst 0, 1) := by decide +kernel
theorem dM_served_86 : decode M_M_served.2.1 86 = .ok (.istore 4, 2) := by decide +kernel
theorem dM_served_88 : decode M_M_served.2.1 88 = .ok (.iinc 5 1, 3) := by decide +kernel
theorem dM_served_91 : decode M_M_served.2.1 91 = .ok (.goto (-56), 3) := by decide +kernel
theorem dM_served_94 : decode M_M_served.2.1 94 = .ok (.iload 4, 2) := by decide +kernel
theorem dM_served_96 : decode M_M_served.2.1 96 = .ok (.ifCond .eq 5, 3) := by decide +kernel
theorem dM_served_99 : decode M_M_served.2.1 99 = .ok (.iconst 1, 1) := by decide +kernel
theorem dM_served_100 : decode M_M_served.2.1 100 = .ok (.ireturn, 1) := by decide +kernel
theorem dM_served_101 : decode M_M_served.2.1 101 = .ok (.iinc 3 1, 3) := by decide +kernel
theorem dM_served_104 : decode M_M_served.2.1 104 = .ok (.goto (-99), 3) := by decide +kernel
theorem dM_served_107 : decode M_M_served.2.1 107 = .ok (.iconst 0, 1) := by decide +kernel
theorem dM_served_108 : decode M_M_served.2.1 108 = .ok (.ireturn, 1) := by decide +kernel
theorem dM_placeOf_0 : decode M_M_placeOf.2.1 0 = .ok (.iconst 0, 1) := by decide +kernel
theorem dM_placeOf_1 : decode M_M_placeOf.2.1 1 = .ok (.istore_n 2, 1) := by decide +kernel
theorem dM_placeOf_2 : decode M_M_placeOf.2.1 2 = .ok (.iload_n 2, 1) := by decide +kernel
theorem dM_placeOf_3 : decode M_M_placeOf.2.1 3 = .ok (.aload_n 0, 1) := by decide +kernel
theorem dM_placeOf_4 : decode M_M_placeOf.2.1 4 = .ok (.getfield 97, 3) := by decide +kernel
theorem dM_placeOf_7 : decode M_M_placeOf.2.1 7 = .ok (.if_icmp .ge 21, 3) := by decide +kernel
theorem dM_placeOf_10 : decode M_M_placeOf.2.1 10 = .ok (.aload_n 0, 1) := by decide +kernel
theorem dM_placeOf_11 : decode M_M_placeOf.2.1 11 = .ok (.getfield 44, 3) := by decide +kernel
theorem dM_placeOf_14 : decode M_M_placeOf.2.1 14 = .ok (.iload_n 2, 1) := by decide +kernel
theorem dM_placeOf_15 : decode M_M_placeOf.2.1 15 = .ok (.iaload, 1) := by decide +kernel
theorem dM_placeOf_16 : decode M_M_placeOf.2.1 16 = .ok (.iload_n 1, 1) := by decide +kernel
theorem dM_placeOf_17 : decode M_M_placeOf.2.1 17 = .ok (.if_icmp .ne 5, 3) := by decide +kernel
theorem dM_placeOf_20 : decode M_M_placeOf.2.1 20 = .ok (.iload_n 2, 1) := by decide +kernel
theorem dM_placeOf_21 : decode M_M_placeOf.2.1 21 = .ok (.ireturn, 1) := by decide +kernel
theorem dM_placeOf_22 : decode M_M_placeOf.2.1 22 = .ok (.iinc 2 1, 3) := by decide +kernel
theorem dM_placeOf_25 : decode M_M_placeOf.2.1 25 = .ok (.goto (-23), 3) := by decide +kernel
theorem dM_placeOf_28 : decode M_M_placeOf.2.1 28 = .ok (.iconst (-1), 1) := by decide +kernel
theorem dM_placeOf_29 : decode M_M_placeOf.2.1 29 = .ok (.ireturn, 1) := by decide +kernel
theorem dM_drop_0 : decode M_M_drop.2.1 0 = .ok (.aload_n 0, 1) := by decide +kernel
theorem dM_drop_1 : decode M_M_drop.2.1 1 = .ok (.dup, 1) := by decide +kernel
theorem dM_drop_2 : decode M_M_drop.2.1 2 = .ok (.getfield 97, 3) := by decide +kernel
theorem dM_drop_5 : decode M_M_drop.2.1 5 = .ok (.iconst 1, 1) := by decide +kernel
theorem dM_drop_6 : decode M_M_drop.2.1 6 = .ok (.isub, 1) := by decide +kernel
theorem dM_drop_7 : decode M_M_drop.2.1 7 = .ok (.putfield 97, 3) := by decide +kernel
theorem dM_drop_10 : decode M_M_drop.2.1 10 = .ok (.iload_n 1, 1) := by decide +kernel
theorem dM_drop_11 : decode M_M_drop.2.1 11 = .ok (.istore_n 2, 1) := by decide +kernel
theorem dM_drop_12 : decode M_M_drop.2.1 12 = .ok (.iload_n 2, 1) := by decide +kernel
theorem dM_drop_13 : decode M_M_drop.2.1 13 = .ok (.aload_n 0, 1) := by decide +kernel
theorem dM_drop_14 : decode M_M_drop.2.1 14 = .ok (.getfield 97, 3) := by decide +kernel
theorem dM_drop_17 : decode M_M_drop.2.1 17 = .ok (.if_icmp .ge 23, 3) := by decide +kernel
theorem dM_drop_20 : decode M_M_drop.2.1 20 = .ok (.aload_n 0, 1) := by decide +kernel
theorem dM_drop_21 : decode M_M_drop.2.1 21 = .ok (.getfield 44, 3) := by decide +kernel
theorem dM_drop_24 : decode M_M_drop.2.1 24 = .ok (.iload_n 2, 1) := by decide +kernel
theorem dM_drop_25 : decode M_M_drop.2.1 25 = .ok (.aload_n 0, 1) := by decide +kernel
theorem dM_drop_26 : decode M_M_drop.2.1 26 = .ok (.getfield 44, 3) := by decide +kernel
theorem dM_drop_29 : decode M_M_drop.2.1 29 = .ok (.iload_n 2, 1) := by decide +kernel
theorem dM_drop_30 : decode M_M_drop.2.1 30 = .ok (.iconst 1, 1) := by decide +kernel
theorem dM_drop_31 : decode M_M_drop.2.1 31 = .ok (.iadd, 1) := by decide +kernel
theorem dM_drop_32 : decode M_M_drop.2.1 32 = .ok (.iaload, 1) := by decide +kernel
theorem dM_drop_33 : decode M_M_drop.2.1 33 = .ok (.iastore, 1) := by decide +kernel
theorem dM_drop_34 : decode M_M_drop.2.1 34 = .ok (.iinc 2 1, 3) := by decide +kernel
theorem dM_drop_37 : decode M_M_drop.2.1 37 = .ok (.goto (-25), 3) := by decide +kernel
theorem dM_drop_40 : decode M_M_drop.2.1 40 = .ok (.return_, 1) := by decide +kernel
theorem dM_goes_0 : decode M_M_goes.2.1 0 = .ok (.iconst 0, 1) := by decide +kernel
theorem dM_goes_1 : decode M_M_goes.2.1 1 = .ok (.istore_n 2, 1) := by decide +kernel
theorem dM_goes_2 : decode M_M_goes.2.1 2 = .ok (.iload_n 2, 1) := by decide +kernel
theorem dM_goes_3 : decode M_M_goes.2.1 3 = .ok (.aload_n 0, 1) := by decide +kernel
theorem dM_goes_4 : decode M_M_goes.2.1 4 = .ok (.getfield 97, 3) := by decide +kernel
theorem dM_goes_7 : decode M_M_goes.2.1 7 = .ok (.if_icmp .ge 38, 3) := by decide +kernel
theorem dM_goes_10 : decode M_M_goes.2.1 10 = .ok (.aload_n 0, 1) := by decide +kernel
theorem dM_goes_11 : decode M_M_goes.2.1 11 = .ok (.getfield 44, 3) := by decide +kernel
theorem dM_goes_14 : decode M_M_goes.2.1 14 = .ok (.iload_n 2, 1) := by decide +kernel
theorem dM_goes_15 : decode M_M_goes.2.1 15 = .ok (.iaload, 1) := by decide +kernel
theorem dM_goes_16 : decode M_M_goes.2.1 16 = .ok (.iload_n 1, 1) := by decide +kernel
theorem dM_goes_17 : decode M_M_goes.2.1 17 = .ok (.if_icmp .eq 22, 3) := by decide +kernel
theorem dM_goes_20 : decode M_M_goes.2.1 20 = .ok (.aload_n 0, 1) := by decide +kernel
theorem dM_goes_21 : decode M_M_goes.2.1 21 = .ok (.aload_n 0, 1) := by decide +kernel
theorem dM_goes_22 : decode M_M_goes.2.1 22 = .ok (.getfield 44, 3) := by decide +kernel
theorem dM_goes_25 : decode M_M_goes.2.1 25 = .ok (.iload_n 2, 1) := by decide +kernel
theorem dM_goes_26 : decode M_M_goes.2.1 26 = .ok (.iaload, 1) := by decide +kernel
theorem dM_goes_27 : decode M_M_goes.2.1 27 = .ok (.invokevirtual 100, 3) := by decide +kernel
theorem dM_goes_30 : decode M_M_goes.2.1 30 = .ok (.aload_n 0, 1) := by decide +kernel
theorem dM_goes_31 : decode M_M_goes.2.1 31 = .ok (.getfield 94, 3) := by decide +kernel
theorem dM_goes_34 : decode M_M_goes.2.1 34 = .ok (.if_icmp .gt 5, 3) := by decide +kernel
theorem dM_goes_37 : decode M_M_goes.2.1 37 = .ok (.iload_n 2, 1) := by decide +kernel
theorem dM_goes_38 : decode M_M_goes.2.1 38 = .ok (.ireturn, 1) := by decide +kernel
theorem dM_goes_39 : decode M_M_goes.2.1 39 = .ok (.iinc 2 1, 3) := by decide +kernel
theorem dM_goes_42 : decode M_M_goes.2.1 42 = .ok (.goto (-40), 3) := by decide +kernel
theorem dM_goes_45 : decode M_M_goes.2.1 45 = .ok (.iconst (-1), 1) := by decide +kernel
theorem dM_goes_46 : decode M_M_goes.2.1 46 = .ok (.ireturn, 1) := by decide +kernel
theorem dM_touch_0 : decode M_M_touch.2.1 0 = .ok (.aload_n 0, 1) := by decide +kernel
theorem dM_touch_1 : decode M_M_touch.2.1 1 = .ok (.iload_n 1, 1) := by decide +kernel
theorem dM_touch_2 : decode M_M_touch.2.1 2 = .ok (.invokevirtual 103, 3) := by decide +kernel
theorem dM_touch_5 : decode M_M_touch.2.1 5 = .ok (.istore_n 3, 1) := by decide +kernel
theorem dM_touch_6 : decode M_M_touch.2.1 6 = .ok (.iload_n 3, 1) := by decide +kernel
theorem dM_touch_7 : decode M_M_touch.2.1 7 = .ok (.ifCond .ge 76, 3) := by decide +kernel
theorem dM_touch_10 : decode M_M_touch.2.1 10 = .ok (.aload_n 0, 1) := by decide +kernel
theorem dM_touch_11 : decode M_M_touch.2.1 11 = .ok (.getfield 97, 3) := by decide +kernel
theorem dM_touch_14 : decode M_M_touch.2.1 14 = .ok (.iconst 4, 1) := by decide +kernel
theorem dM_touch_15 : decode M_M_touch.2.1 15 = .ok (.if_icmp .ne 11, 3) := by decide +kernel
theorem dM_touch_18 : decode M_M_touch.2.1 18 = .ok (.aload_n 0, 1) := by decide +kernel
theorem dM_touch_19 : decode M_M_touch.2.1 19 = .ok (.iload_n 2, 1) := by decide +kernel
theorem dM_touch_20 : decode M_M_touch.2.1 20 = .ok (.invokevirtual 106, 3) := by decide +kernel
theorem dM_touch_23 : decode M_M_touch.2.1 23 = .ok (.goto 4, 3) := by decide +kernel
theorem dM_touch_26 : decode M_M_touch.2.1 26 = .ok (.iconst 4, 1) := by decide +kernel
theorem dM_touch_27 : decode M_M_touch.2.1 27 = .ok (.istore 4, 2) := by decide +kernel
theorem dM_touch_29 : decode M_M_touch.2.1 29 = .ok (.aload_n 0, 1) := by decide +kernel
theorem dM_touch_30 : decode M_M_touch.2.1 30 = .ok (.iload_n 1, 1) := by decide +kernel
theorem dM_touch_31 : decode M_M_touch.2.1 31 = .ok (.invokevirtual 100, 3) := by decide +kernel
theorem dM_touch_34 : decode M_M_touch.2.1 34 = .ok (.aload_n 0, 1) := by decide +kernel
theorem dM_touch_35 : decode M_M_touch.2.1 35 = .ok (.getfield 94, 3) := by decide +kernel
theorem dM_touch_38 : decode M_M_touch.2.1 38 = .ok (.if_icmp .gt 8, 3) := by decide +kernel
theorem dM_touch_41 : decode M_M_touch.2.1 41 = .ok (.iload 4, 2) := by decide +kernel
theorem dM_touch_43 : decode M_M_touch.2.1 43 = .ok (.ifCond .ge 6, 3) := by decide +kernel
theorem dM_touch_46 : decode M_M_touch.2.1 46 = .ok (.bipush (-6), 2) := by decide +kernel
theorem dM_touch_48 : decode M_M_touch.2.1 48 = .ok (.ireturn, 1) := by decide +kernel
theorem dM_touch_49 : decode M_M_touch.2.1 49 = .ok (.aload_n 0, 1) := by decide +kernel
theorem dM_touch_50 : decode M_M_touch.2.1 50 = .ok (.iload_n 1, 1) := by decide +kernel
theorem dM_touch_51 : decode M_M_touch.2.1 51 = .ok (.iconst 2, 1) := by decide +kernel
theorem dM_touch_52 : decode M_M_touch.2.1 52 = .ok (.irem, 1) := by decide +kernel
theorem dM_touch_53 : decode M_M_touch.2.1 53 = .ok (.aload_n 0, 1) := by decide +kernel
theorem dM_touch_54 : decode M_M_touch.2.1 54 = .ok (.getfield 94, 3) := by decide +kernel
theorem dM_touch_57 : decode M_M_touch.2.1 57 = .ok (.invokevirtual 109, 3) := by decide +kernel
theorem dM_touch_60 : decode M_M_touch.2.1 60 = .ok (.ifCond .ne 6, 3) := by decide +kernel
theorem dM_touch_63 : decode M_M_touch.2.1 63 = .ok (.bipush (-7), 2) := by decide +kernel
theorem dM_touch_65 : decode M_M_touch.2.1 65 = .ok (.ireturn, 1) := by decide +kernel
theorem dM_touch_66 : decode M_M_touch.2.1 66 = .ok (.aload_n 0, 1) := by decide +kernel
theorem dM_touch_67 : decode M_M_touch.2.1 67 = .ok (.getfield 97, 3) := by decide +kernel
theorem dM_touch_70 : decode M_M_touch.2.1 70 = .ok (.iconst 4, 1) := by decide +kernel
theorem dM_touch_71 : decode M_M_touch.2.1 71 = .ok (.if_icmp .ne 9, 3) := by decide +kernel
theorem dM_touch_74 : decode M_M_touch.2.1 74 = .ok (.aload_n 0, 1) := by decide +kernel
theorem dM_touch_75 : decode M_M_touch.2.1 75 = .ok (.iload 4, 2) := by decide +kernel
theorem dM_touch_77 : decode M_M_touch.2.1 77 = .ok (.invokevirtual 113, 3) := by decide +kernel
theorem dM_touch_80 : decode M_M_touch.2.1 80 = .ok (.goto 8, 3) := by decide +kernel
theorem dM_touch_83 : decode M_M_touch.2.1 83 = .ok (.aload_n 0, 1) := by decide +kernel
theorem dM_touch_84 : decode M_M_touch.2.1 84 = .ok (.iload_n 3, 1) := by decide +kernel
theorem dM_touch_85 : decode M_M_touch.2.1 85 = .ok (.invokevirtual 113, 3) := by decide +kernel
theorem dM_touch_88 : decode M_M_touch.2.1 88 = .ok (.aload_n 0, 1) := by decide +kernel
theorem dM_touch_89 : decode M_M_touch.2.1 89 = .ok (.getfield 44, 3) := by decide +kernel
theorem dM_touch_92 : decode M_M_touch.2.1 92 = .ok (.aload_n 0, 1) := by decide +kernel
theorem dM_touch_93 : decode M_M_touch.2.1 93 = .ok (.getfield 97, 3) := by decide +kernel
theorem dM_touch_96 : decode M_M_touch.2.1 96 = .ok (.iload_n 1, 1) := by decide +kernel
theorem dM_touch_97 : decode M_M_touch.2.1 97 = .ok (.iastore, 1) := by decide +kernel
theorem dM_touch_98 : decode M_M_touch.2.1 98 = .ok (.aload_n 0, 1) := by decide +kernel
theorem dM_touch_99 : decode M_M_touch.2.1 99 = .ok (.dup, 1) := by decide +kernel
theorem dM_touch_100 : decode M_M_touch.2.1 100 = .ok (.getfield 97, 3) := by decide +kernel
theorem dM_touch_103 : decode M_M_touch.2.1 103 = .ok (.iconst 1, 1) := by decide +kernel
theorem dM_touch_104 : decode M_M_touch.2.1 104 = .ok (.iadd, 1) := by decide +kernel
theorem dM_touch_105 : decode M_M_touch.2.1 105 = .ok (.putfield 97, 3) := by decide +kernel
theorem dM_touch_108 : decode M_M_touch.2.1 108 = .ok (.iconst 0, 1) := by decide +kernel
theorem dM_touch_109 : decode M_M_touch.2.1 109 = .ok (.ireturn, 1) := by decide +kernel
theorem dM_cached_0 : decode M_M_cached.2.1 0 = .ok (.aload_n 0, 1) := by decide +kernel
theorem dM_cached_1 : decode M_M_cached.2.1 1 = .ok (.iload_n 1, 1) := by decide +kernel
theorem dM_cached_2 : decode M_M_cached.2.1 2 = .ok (.invokevirtual 103, 3) := by decide +kernel
theorem dM_cached_5 : decode M_M_cached.2.1 5 = .ok (.istore_n 2, 1) := by decide +kernel
theorem dM_cached_6 : decode M_M_cached.2.1 6 = .ok (.iload_n 2, 1) := by decide +kernel
theorem dM_cached_7 : decode M_M_cached.2.1 7 = .ok (.ifCond .ge 7, 3) := by decide +kernel
theorem dM_cached_10 : decode M_M_cached.2.1 10 = .ok (.iconst 0, 1) := by decide +kernel
theorem dM_cached_11 : decode M_M_cached.2.1 11 = .ok (.goto 9, 3) := by decide +kernel
theorem dM_cached_14 : decode M_M_cached.2.1 14 = .ok (.aload_n 0, 1) := by decide +kernel
theorem dM_cached_15 : decode M_M_cached.2.1 15 = .ok (.getfield 97, 3) := by decide +kernel
theorem dM_cached_18 : decode M_M_cached.2.1 18 = .ok (.iload_n 2, 1) := by decide +kernel
theorem dM_cached_19 : decode M_M_cached.2.1 19 = .ok (.isub, 1) := by decide +kernel
theorem dM_cached_20 : decode M_M_cached.2.1 20 = .ok (.ireturn, 1) := by decide +kernel
theorem dM_begin_0 : decode M_M_begin.2.1 0 = .ok (.aload_n 0, 1) := by decide +kernel
theorem dM_begin_1 : decode M_M_begin.2.1 1 = .ok (.getfield 117, 3) := by decide +kernel
theorem dM_begin_4 : decode M_M_begin.2.1 4 = .ok (.ifCond .eq 6, 3) := by decide +kernel
theorem dM_begin_7 : decode M_M_begin.2.1 7 = .ok (.bipush (-2), 2) := by decide +kernel
theorem dM_begin_9 : decode M_M_begin.2.1 9 = .ok (.ireturn, 1) := by decide +kernel
theorem dM_begin_10 : decode M_M_begin.2.1 10 = .ok (.iconst 0, 1) := by decide +kernel
theorem dM_begin_11 : decode M_M_begin.2.1 11 = .ok (.istore_n 1, 1) := by decide +kernel
theorem dM_begin_12 : decode M_M_begin.2.1 12 = .ok (.iconst 1, 1) := by decide +kernel
theorem dM_begin_13 : decode M_M_begin.2.1 13 = .ok (.istore_n 2, 1) := by decide +kernel
theorem dM_begin_14 : decode M_M_begin.2.1 14 = .ok (.iload_n 2, 1) := by decide +kernel
theorem dM_begin_15 : decode M_M_begin.2.1 15 = .ok (.aload_n 0, 1) := by decide +kernel
theorem dM_begin_16 : decode M_M_begin.2.1 16 = .ok (.getfield 50, 3) := by decide +kernel
theorem dM_begin_19 : decode M_M_begin.2.1 19 = .ok (.if_icmp .gt 26, 3) := by decide +kernel
theorem dM_begin_22 : decode M_M_begin.2.1 22 = .ok (.iload_n 1, 1) := by decide +kernel
theorem dM_begin_23 : decode M_M_begin.2.1 23 = .ok (.aload_n 0, 1) := by decide +kernel
theorem dM_begin_24 : decode M_M_begin.2.1 24 = .ok (.getfield 38, 3) := by decide +kernel
theorem dM_begin_27 : decode M_M_begin.2.1 27 = .ok (.iload_n 2, 1) := by decide +kernel
theorem dM_begin_28 : decode M_M_begin.2.1 28 = .ok (.baload, 1) := by decide +kernel
theorem dM_begin_29 : decode M_M_begin.2.1 29 = .ok (.ifCond .eq 7, 3) := by decide +kernel
theorem dM_begin_32 : decode M_M_begin.2.1 32 = .ok (.iconst 1, 1) := by decide +kernel
theorem dM_begin_33 : decode M_M_begin.2.1 33 = .ok (.goto 4, 3) := by decide +kernel
theorem dM_begin_36 : decode M_M_begin.2.1 36 = .ok (.iconst 0, 1) := by decide +kernel
theorem dM_begin_37 : decode M_M_begin.2.1 37 = .ok (.iadd, 1) := by decide +kernel
theorem dM_begin_38 : decode M_M_begin.2.1 38 = .ok (.istore_n 1, 1) := by decide +kernel
theorem dM_begin_39 : decode M_M_begin.2.1 39 = .ok (.iinc 2 1, 3) := by decide +kernel
theorem dM_begin_42 : decode M_M_begin.2.1 42 = .ok (.goto (-28), 3) := by decide +kernel
theorem dM_begin_45 : decode M_M_begin.2.1 45 = .ok (.iload_n 1, 1) := by decide +kernel
theorem dM_begin_46 : decode M_M_begin.2.1 46 = .ok (.iconst 4, 1) := by decide +kernel
theorem dM_begin_47 : decode M_M_begin.2.1 47 = .ok (.if_icmp .eq 22, 3) := by decide +kernel
theorem dM_begin_50 : decode M_M_begin.2.1 50 = .ok (.aload_n 0, 1) := by decide +kernel
theorem dM_begin_51 : decode M_M_begin.2.1 51 = .ok (.getfield 50, 3) := by decide +kernel
theorem dM_begin_54 : decode M_M_begin.2.1 54 = .ok (.bipush 60, 2) := by decide +kernel
theorem dM_begin_56 : decode M_M_begin.2.1 56 = .ok (.if_icmp .eq 13, 3) := by decide +kernel
theorem dM_begin_59 : decode M_M_begin.2.1 59 = .ok (.aload_n 0, 1) := by decide +kernel
theorem dM_begin_60 : decode M_M_begin.2.1 60 = .ok (.getfield 54, 3) := by decide +kernel
theorem dM_begin_63 : decode M_M_begin.2.1 63 = .ok (.sipush 150, 3) := by decide +kernel
theorem dM_begin_66 : decode M_M_begin.2.1 66 = .ok (.if_icmp .lt 6, 3) := by decide +kernel
theorem dM_begin_69 : decode M_M_begin.2.1 69 = .ok (.bipush (-5), 2) := by decide +kernel
theorem dM_begin_71 : decode M_M_begin.2.1 71 = .ok (.ireturn, 1) := by decide +kernel
theorem dM_begin_72 : decode M_M_begin.2.1 72 = .ok (.aload_n 0, 1) := by decide +kernel
theorem dM_begin_73 : decode M_M_begin.2.1 73 = .ok (.dup, 1) := by decide +kernel
theorem dM_begin_74 : decode M_M_begin.2.1 74 = .ok (.getfield 50, 3) := by decide +kernel
theorem dM_begin_77 : decode M_M_begin.2.1 77 = .ok (.iconst 1, 1) := by decide +kernel
theorem dM_begin_78 : decode M_M_begin.2.1 78 = .ok (.iadd, 1) := by decide +kernel
theorem dM_begin_79 : decode M_M_begin.2.1 79 = .ok (.putfield 50, 3) := by decide +kernel
theorem dM_begin_82 : decode M_M_begin.2.1 82 = .ok (.aload_n 0, 1) := by decide +kernel
theorem dM_begin_83 : decode M_M_begin.2.1 83 = .ok (.getfield 38, 3) := by decide +kernel
theorem dM_begin_86 : decode M_M_begin.2.1 86 = .ok (.aload_n 0, 1) := by decide +kernel
theorem dM_begin_87 : decode M_M_begin.2.1 87 = .ok (.getfield 50, 3) := by decide +kernel
theorem dM_begin_90 : decode M_M_begin.2.1 90 = .ok (.iconst 1, 1) := by decide +kernel
theorem dM_begin_91 : decode M_M_begin.2.1 91 = .ok (.bastore, 1) := by decide +kernel
theorem dM_begin_92 : decode M_M_begin.2.1 92 = .ok (.aload_n 0, 1) := by decide +kernel
theorem dM_begin_93 : decode M_M_begin.2.1 93 = .ok (.getfield 50, 3) := by decide +kernel
theorem dM_begin_96 : decode M_M_begin.2.1 96 = .ok (.ireturn, 1) := by decide +kernel
