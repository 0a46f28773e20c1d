/-! Decode rows (by program, wip/whole/gen.py). -/
theorem dM_locked_0 : decode M_M_locked.2.1 0 = .ok (.aload_n 0, 1) := by decide +kernel
theorem dM_locked_1 : decode M_M_locked.2.1 1 = .ok (.getfield 41, 3) := by decide +kernel
theorem dM_locked_4 : decode M_M_locked.2.1 4 = .ok (.iload_n 2, 1) := by decide +kernel
theorem dM_locked_5 : decode M_M_locked.2.1 5 = .ok (.iaload, 1) := by decide +kernel
theorem dM_locked_6 : decode M_M_locked.2.1 6 = .ok (.ifCond .eq 17, 3) := by decide +kernel
theorem dM_locked_9 : decode M_M_locked.2.1 9 = .ok (.aload_n 0, 1) := by decide +kernel
theorem dM_locked_10 : decode M_M_locked.2.1 10 = .ok (.getfield 41, 3) := by decide +kernel
theorem dM_locked_13 : decode M_M_locked.2.1 13 = .ok (.iload_n 2, 1) := by decide +kernel
theorem dM_locked_14 : decode M_M_locked.2.1 14 = .ok (.iaload, 1) := by decide +kernel
theorem dM_locked_15 : decode M_M_locked.2.1 15 = .ok (.iload_n 1, 1) := by decide +kernel
theorem dM_locked_16 : decode M_M_locked.2.1 16 = .ok (.if_icmp .eq 7, 3) := by decide +kernel
theorem dM_locked_19 : decode M_M_locked.2.1 19 = .ok (.iconst 1, 1) := by decide +kernel
theorem dM_locked_20 : decode M_M_locked.2.1 20 = .ok (.goto 4, 3) := by decide +kernel
theorem dM_locked_23 : decode M_M_locked.2.1 23 = .ok (.iconst 0, 1) := by decide +kernel
theorem dM_locked_24 : decode M_M_locked.2.1 24 = .ok (.ireturn, 1) := by decide +kernel
theorem dM_read_0 : decode M_M_read.2.1 0 = .ok (.iload_n 2, 1) := by decide +kernel
theorem dM_read_1 : decode M_M_read.2.1 1 = .ok (.invokestatic 121, 3) := by decide +kernel
theorem dM_read_4 : decode M_M_read.2.1 4 = .ok (.ifCond .ne 5, 3) := by decide +kernel
theorem dM_read_7 : decode M_M_read.2.1 7 = .ok (.iconst (-1), 1) := by decide +kernel
theorem dM_read_8 : decode M_M_read.2.1 8 = .ok (.ireturn, 1) := by decide +kernel
theorem dM_read_9 : decode M_M_read.2.1 9 = .ok (.aload_n 0, 1) := by decide +kernel
theorem dM_read_10 : decode M_M_read.2.1 10 = .ok (.getfield 117, 3) := by decide +kernel
theorem dM_read_13 : decode M_M_read.2.1 13 = .ok (.ifCond .eq 6, 3) := by decide +kernel
theorem dM_read_16 : decode M_M_read.2.1 16 = .ok (.bipush (-2), 2) := by decide +kernel
theorem dM_read_18 : decode M_M_read.2.1 18 = .ok (.ireturn, 1) := by decide +kernel
theorem dM_read_19 : decode M_M_read.2.1 19 = .ok (.aload_n 0, 1) := by decide +kernel
theorem dM_read_20 : decode M_M_read.2.1 20 = .ok (.iload_n 1, 1) := by decide +kernel
theorem dM_read_21 : decode M_M_read.2.1 21 = .ok (.invokevirtual 125, 3) := by decide +kernel
theorem dM_read_24 : decode M_M_read.2.1 24 = .ok (.ifCond .ne 6, 3) := by decide +kernel
theorem dM_read_27 : decode M_M_read.2.1 27 = .ok (.bipush (-3), 2) := by decide +kernel
theorem dM_read_29 : decode M_M_read.2.1 29 = .ok (.ireturn, 1) := by decide +kernel
theorem dM_read_30 : decode M_M_read.2.1 30 = .ok (.aload_n 0, 1) := by decide +kernel
theorem dM_read_31 : decode M_M_read.2.1 31 = .ok (.iload_n 1, 1) := by decide +kernel
theorem dM_read_32 : decode M_M_read.2.1 32 = .ok (.iload_n 2, 1) := by decide +kernel
theorem dM_read_33 : decode M_M_read.2.1 33 = .ok (.invokevirtual 128, 3) := by decide +kernel
theorem dM_read_36 : decode M_M_read.2.1 36 = .ok (.ifCond .eq 6, 3) := by decide +kernel
theorem dM_read_39 : decode M_M_read.2.1 39 = .ok (.bipush (-4), 2) := by decide +kernel
theorem dM_read_41 : decode M_M_read.2.1 41 = .ok (.ireturn, 1) := by decide +kernel
theorem dM_read_42 : decode M_M_read.2.1 42 = .ok (.aload_n 0, 1) := by decide +kernel
theorem dM_read_43 : decode M_M_read.2.1 43 = .ok (.iload_n 2, 1) := by decide +kernel
theorem dM_read_44 : decode M_M_read.2.1 44 = .ok (.iconst 4, 1) := by decide +kernel
theorem dM_read_45 : decode M_M_read.2.1 45 = .ok (.idiv, 1) := by decide +kernel
theorem dM_read_46 : decode M_M_read.2.1 46 = .ok (.iconst (-1), 1) := by decide +kernel
theorem dM_read_47 : decode M_M_read.2.1 47 = .ok (.invokevirtual 131, 3) := by decide +kernel
theorem dM_read_50 : decode M_M_read.2.1 50 = .ok (.istore_n 3, 1) := by decide +kernel
theorem dM_read_51 : decode M_M_read.2.1 51 = .ok (.iload_n 3, 1) := by decide +kernel
theorem dM_read_52 : decode M_M_read.2.1 52 = .ok (.ifCond .ge 5, 3) := by decide +kernel
theorem dM_read_55 : decode M_M_read.2.1 55 = .ok (.iload_n 3, 1) := by decide +kernel
theorem dM_read_56 : decode M_M_read.2.1 56 = .ok (.ireturn, 1) := by decide +kernel
theorem dM_read_57 : decode M_M_read.2.1 57 = .ok (.aload_n 0, 1) := by decide +kernel
theorem dM_read_58 : decode M_M_read.2.1 58 = .ok (.getfield 41, 3) := by decide +kernel
theorem dM_read_61 : decode M_M_read.2.1 61 = .ok (.iload_n 2, 1) := by decide +kernel
theorem dM_read_62 : decode M_M_read.2.1 62 = .ok (.iload_n 1, 1) := by decide +kernel
theorem dM_read_63 : decode M_M_read.2.1 63 = .ok (.iastore, 1) := by decide +kernel
theorem dM_read_64 : decode M_M_read.2.1 64 = .ok (.aload_n 0, 1) := by decide +kernel
theorem dM_read_65 : decode M_M_read.2.1 65 = .ok (.iload_n 2, 1) := by decide +kernel
theorem dM_read_66 : decode M_M_read.2.1 66 = .ok (.aload_n 0, 1) := by decide +kernel
theorem dM_read_67 : decode M_M_read.2.1 67 = .ok (.getfield 54, 3) := by decide +kernel
theorem dM_read_70 : decode M_M_read.2.1 70 = .ok (.invokevirtual 68, 3) := by decide +kernel
theorem dM_read_73 : decode M_M_read.2.1 73 = .ok (.ireturn, 1) := by decide +kernel
theorem dM_write_0 : decode M_M_write.2.1 0 = .ok (.iload_n 2, 1) := by decide +kernel
theorem dM_write_1 : decode M_M_write.2.1 1 = .ok (.invokestatic 121, 3) := by decide +kernel
theorem dM_write_4 : decode M_M_write.2.1 4 = .ok (.ifCond .eq 14, 3) := by decide +kernel
theorem dM_write_7 : decode M_M_write.2.1 7 = .ok (.iload_n 3, 1) := by decide +kernel
theorem dM_write_8 : decode M_M_write.2.1 8 = .ok (.ifCond .lt 10, 3) := by decide +kernel
theorem dM_write_11 : decode M_M_write.2.1 11 = .ok (.iload_n 3, 1) := by decide +kernel
theorem dM_write_12 : decode M_M_write.2.1 12 = .ok (.sipush 9999, 3) := by decide +kernel
theorem dM_write_15 : decode M_M_write.2.1 15 = .ok (.if_icmp .le 5, 3) := by decide +kernel
theorem dM_write_18 : decode M_M_write.2.1 18 = .ok (.iconst (-1), 1) := by decide +kernel
theorem dM_write_19 : decode M_M_write.2.1 19 = .ok (.ireturn, 1) := by decide +kernel
theorem dM_write_20 : decode M_M_write.2.1 20 = .ok (.aload_n 0, 1) := by decide +kernel
theorem dM_write_21 : decode M_M_write.2.1 21 = .ok (.getfield 117, 3) := by decide +kernel
theorem dM_write_24 : decode M_M_write.2.1 24 = .ok (.ifCond .eq 6, 3) := by decide +kernel
theorem dM_write_27 : decode M_M_write.2.1 27 = .ok (.bipush (-2), 2) := by decide +kernel
theorem dM_write_29 : decode M_M_write.2.1 29 = .ok (.ireturn, 1) := by decide +kernel
theorem dM_write_30 : decode M_M_write.2.1 30 = .ok (.aload_n 0, 1) := by decide +kernel
theorem dM_write_31 : decode M_M_write.2.1 31 = .ok (.iload_n 1, 1) := by decide +kernel
theorem dM_write_32 : decode M_M_write.2.1 32 = .ok (.invokevirtual 125, 3) := by decide +kernel
theorem dM_write_35 : decode M_M_write.2.1 35 = .ok (.ifCond .ne 6, 3) := by decide +kernel
theorem dM_write_38 : decode M_M_write.2.1 38 = .ok (.bipush (-3), 2) := by decide +kernel
theorem dM_write_40 : decode M_M_write.2.1 40 = .ok (.ireturn, 1) := by decide +kernel
theorem dM_write_41 : decode M_M_write.2.1 41 = .ok (.aload_n 0, 1) := by decide +kernel
theorem dM_write_42 : decode M_M_write.2.1 42 = .ok (.iload_n 1, 1) := by decide +kernel
theorem dM_write_43 : decode M_M_write.2.1 43 = .ok (.iload_n 2, 1) := by decide +kernel
theorem dM_write_44 : decode M_M_write.2.1 44 = .ok (.invokevirtual 128, 3) := by decide +kernel
theorem dM_write_47 : decode M_M_write.2.1 47 = .ok (.ifCond .eq 6, 3) := by decide +kernel
theorem dM_write_50 : decode M_M_write.2.1 50 = .ok (.bipush (-4), 2) := by decide +kernel
theorem dM_write_52 : decode M_M_write.2.1 52 = .ok (.ireturn, 1) := by decide +kernel
theorem dM_write_53 : decode M_M_write.2.1 53 = .ok (.aload_n 0, 1) := by decide +kernel
theorem dM_write_54 : decode M_M_write.2.1 54 = .ok (.getfield 54, 3) := by decide +kernel
theorem dM_write_57 : decode M_M_write.2.1 57 = .ok (.sipush 150, 3) := by decide +kernel
theorem dM_write_60 : decode M_M_write.2.1 60 = .ok (.if_icmp .lt 6, 3) := by decide +kernel
theorem dM_write_63 : decode M_M_write.2.1 63 = .ok (.bipush (-5), 2) := by decide +kernel
theorem dM_write_65 : decode M_M_write.2.1 65 = .ok (.ireturn, 1) := by decide +kernel
theorem dM_write_66 : decode M_M_write.2.1 66 = .ok (.aload_n 0, 1) := by decide +kernel
theorem dM_write_67 : decode M_M_write.2.1 67 = .ok (.iload_n 2, 1) := by decide +kernel
theorem dM_write_68 : decode M_M_write.2.1 68 = .ok (.iconst 4, 1) := by decide +kernel
theorem dM_write_69 : decode M_M_write.2.1 69 = .ok (.idiv, 1) := by decide +kernel
theorem dM_write_70 : decode M_M_write.2.1 70 = .ok (.iconst (-1), 1) := by decide +kernel
theorem dM_write_71 : decode M_M_write.2.1 71 = .ok (.invokevirtual 131, 3) := by decide +kernel
theorem dM_write_74 : decode M_M_write.2.1 74 = .ok (.istore 4, 2) := by decide +kernel
theorem dM_write_76 : decode M_M_write.2.1 76 = .ok (.iload 4, 2) := by decide +kernel
theorem dM_write_78 : decode M_M_write.2.1 78 = .ok (.ifCond .ge 6, 3) := by decide +kernel
theorem dM_write_81 : decode M_M_write.2.1 81 = .ok (.iload 4, 2) := by decide +kernel
theorem dM_write_83 : decode M_M_write.2.1 83 = .ok (.ireturn, 1) := by decide +kernel
theorem dM_write_84 : decode M_M_write.2.1 84 = .ok (.aload_n 0, 1) := by decide +kernel
theorem dM_write_85 : decode M_M_write.2.1 85 = .ok (.getfield 41, 3) := by decide +kernel
theorem dM_write_88 : decode M_M_write.2.1 88 = .ok (.iload_n 2, 1) := by decide +kernel
theorem dM_write_89 : decode M_M_write.2.1 89 = .ok (.iload_n 1, 1) := by decide +kernel
theorem dM_write_90 : decode M_M_write.2.1 90 = .ok (.iastore, 1) := by decide +kernel
theorem dM_write_91 : decode M_M_write.2.1 91 = .ok (.aload_n 0, 1) := by decide +kernel
theorem dM_write_92 : decode M_M_write.2.1 92 = .ok (.iload_n 1, 1) := by decide +kernel
theorem dM_write_93 : decode M_M_write.2.1 93 = .ok (.iload_n 2, 1) := by decide +kernel
theorem dM_write_94 : decode M_M_write.2.1 94 = .ok (.iload_n 3, 1) := by decide +kernel
theorem dM_write_95 : decode M_M_write.2.1 95 = .ok (.iconst 0, 1) := by decide +kernel
theorem dM_write_96 : decode M_M_write.2.1 96 = .ok (.iconst 1, 1) := by decide +kernel
theorem dM_write_97 : decode M_M_write.2.1 97 = .ok (.invokevirtual 61, 3) := by decide +kernel
theorem dM_write_100 : decode M_M_write.2.1 100 = .ok (.ireturn, 1) := by decide +kernel
theorem dM_shift_0 : decode M_M_shift.2.1 0 = .ok (.iload_n 2, 1) := by decide +kernel
theorem dM_shift_1 : decode M_M_shift.2.1 1 = .ok (.invokestatic 121, 3) := by decide +kernel
theorem dM_shift_4 : decode M_M_shift.2.1 4 = .ok (.ifCond .eq 29, 3) := by decide +kernel
theorem dM_shift_7 : decode M_M_shift.2.1 7 = .ok (.iload_n 3, 1) := by decide +kernel
theorem dM_shift_8 : decode M_M_shift.2.1 8 = .ok (.invokestatic 121, 3) := by decide +kernel
theorem dM_shift_11 : decode M_M_shift.2.1 11 = .ok (.ifCond .eq 22, 3) := by decide +kernel
theorem dM_shift_14 : decode M_M_shift.2.1 14 = .ok (.iload_n 2, 1) := by decide +kernel
theorem dM_shift_15 : decode M_M_shift.2.1 15 = .ok (.iload_n 3, 1) := by decide +kernel
theorem dM_shift_16 : decode M_M_shift.2.1 16 = .ok (.if_icmp .eq 17, 3) := by decide +kernel
theorem dM_shift_19 : decode M_M_shift.2.1 19 = .ok (.iload 4, 2) := by decide +kernel
theorem dM_shift_21 : decode M_M_shift.2.1 21 = .ok (.iconst 1, 1) := by decide +kernel
theorem dM_shift_22 : decode M_M_shift.2.1 22 = .ok (.if_icmp .lt 11, 3) := by decide +kernel
theorem dM_shift_25 : decode M_M_shift.2.1 25 = .ok (.iload 4, 2) := by decide +kernel
theorem dM_shift_27 : decode M_M_shift.2.1 27 = .ok (.sipush 9999, 3) := by decide +kernel
theorem dM_shift_30 : decode M_M_shift.2.1 30 = .ok (.if_icmp .le 5, 3) := by decide +kernel
theorem dM_shift_33 : decode M_M_shift.2.1 33 = .ok (.iconst (-1), 1) := by decide +kernel
theorem dM_shift_34 : decode M_M_shift.2.1 34 = .ok (.ireturn, 1) := by decide +kernel
theorem dM_shift_35 : decode M_M_shift.2.1 35 = .ok (.aload_n 0, 1) := by decide +kernel
theorem dM_shift_36 : decode M_M_shift.2.1 36 = .ok (.getfield 117, 3) := by decide +kernel
theorem dM_shift_39 : decode M_M_shift.2.1 39 = .ok (.ifCond .eq 6, 3) := by decide +kernel
theorem dM_shift_42 : decode M_M_shift.2.1 42 = .ok (.bipush (-2), 2) := by decide +kernel
theorem dM_shift_44 : decode M_M_shift.2.1 44 = .ok (.ireturn, 1) := by decide +kernel
theorem dM_shift_45 : decode M_M_shift.2.1 45 = .ok (.aload_n 0, 1) := by decide +kernel
theorem dM_shift_46 : decode M_M_shift.2.1 46 = .ok (.iload_n 1, 1) := by decide +kernel
theorem dM_shift_47 : decode M_M_shift.2.1 47 = .ok (.invokevirtual 125, 3) := by decide +kernel
theorem dM_shift_50 : decode M_M_shift.2.1 50 = .ok (.ifCond .ne 6, 3) := by decide +kernel
theorem dM_shift_53 : decode M_M_shift.2.1 53 = .ok (.bipush (-3), 2) := by decide +kernel
theorem dM_shift_55 : decode M_M_shift.2.1 55 = .ok (.ireturn, 1) := by decide +kernel
theorem dM_shift_56 : decode M_M_shift.2.1 56 = .ok (.aload_n 0, 1) := by decide +kernel
theorem dM_shift_57 : decode M_M_shift.2.1 57 = .ok (.iload_n 1, 1) := by decide +kernel
theorem dM_shift_58 : decode M_M_shift.2.1 58 = .ok (.iload_n 2, 1) := by decide +kernel
theorem dM_shift_59 : decode M_M_shift.2.1 59 = .ok (.invokevirtual 128, 3) := by decide +kernel
theorem dM_shift_62 : decode M_M_shift.2.1 62 = .ok (.ifCond .ne 12, 3) := by decide +kernel
theorem dM_shift_65 : decode M_M_shift.2.1 65 = .ok (.aload_n 0, 1) := by decide +kernel
theorem dM_shift_66 : decode M_M_shift.2.1 66 = .ok (.iload_n 1, 1) := by decide +kernel
theorem dM_shift_67 : decode M_M_shift.2.1 67 = .ok (.iload_n 3, 1) := by decide +kernel
theorem dM_shift_68 : decode M_M_shift.2.1 68 = .ok (.invokevirtual 128, 3) := by decide +kernel
theorem dM_shift_71 : decode M_M_shift.2.1 71 = .ok (.ifCond .eq 6, 3) := by decide +kernel
theorem dM_shift_74 : decode M_M_shift.2.1 74 = .ok (.bipush (-4), 2) := by decide +kernel
theorem dM_shift_76 : decode M_M_shift.2.1 76 = .ok (.ireturn, 1) := by decide +kernel
theorem dM_shift_77 : decode M_M_shift.2.1 77 = .ok (.aload_n 0, 1) := by decide +kernel
theorem dM_shift_78 : decode M_M_shift.2.1 78 = .ok (.getfield 54, 3) := by decide +kernel
theorem dM_shift_81 : decode M_M_shift.2.1 81 = .ok (.sipush 150, 3) := by decide +kernel
theorem dM_shift_84 : decode M_M_shift.2.1 84 = .ok (.if_icmp .lt 6, 3) := by decide +kernel
theorem dM_shift_87 : decode M_M_shift.2.1 87 = .ok (.bipush (-5), 2) := by decide +kernel
theorem dM_shift_89 : decode M_M_shift.2.1 89 = .ok (.ireturn, 1) := by decide +kernel
theorem dM_shift_90 : decode M_M_shift.2.1 90 = .ok (.aload_n 0, 1) := by decide +kernel
theorem dM_shift_91 : decode M_M_shift.2.1 91 = .ok (.iload_n 2, 1) := by decide +kernel
theorem dM_shift_92 : decode M_M_shift.2.1 92 = .ok (.iconst 4, 1) := by decide +kernel
theorem dM_shift_93 : decode M_M_shift.2.1 93 = .ok (.idiv, 1) := by decide +kernel
theorem dM_shift_94 : decode M_M_shift.2.1 94 = .ok (.iload_n 3, 1) := by decide +kernel
theorem dM_shift_95 : decode M_M_shift.2.1 95 = .ok (.iconst 4, 1) := by decide +kernel
theorem dM_shift_96 : decode M_M_shift.2.1 96 = .ok (.idiv, 1) := by decide +kernel
theorem dM_shift_97 : decode M_M_shift.2.1 97 = .ok (.invokevirtual 131, 3) := by decide +kernel
theorem dM_shift_100 : decode M_M_shift.2.1 100 = .ok (.istore 5, 2) := by decide +kernel
theorem dM_shift_102 : decode M_M_shift.2.1 102 = .ok (.iload 5, 2) := by decide +kernel
theorem dM_shift_104 : decode M_M_shift.2.1 104 = .ok (.ifCond .ne 15, 3) := by decide +kernel
theorem dM_shift_107 : decode M_M_shift.2.1 107 = .ok (.aload_n 0, 1) := by decide +kernel
theorem dM_shift_108 : decode M_M_shift.2.1 108 = .ok (.iload_n 3, 1) := by decide +kernel
theorem dM_shift_109 : decode M_M_shift.2.1 109 = .ok (.iconst 4, 1) := by decide +kernel
theorem dM_shift_110 : decode M_M_shift.2.1 110 = .ok (.idiv, 1) := by decide +kernel
theorem dM_shift_111 : decode M_M_shift.2.1 111 = .ok (.iload_n 2, 1) := by decide +kernel
theorem dM_shift_112 : decode M_M_shift.2.1 112 = .ok (.iconst 4, 1) := by decide +kernel
theorem dM_shift_113 : decode M_M_shift.2.1 113 = .ok (.idiv, 1) := by decide +kernel
theorem dM_shift_114 : decode M_M_shift.2.1 114 = .ok (.invokevirtual 131, 3) := by decide +kernel
theorem dM_shift_117 : decode M_M_shift.2.1 117 = .ok (.istore 5, 2) := by decide +kernel
theorem dM_shift_119 : decode M_M_shift.2.1 119 = .ok (.iload 5, 2) := by decide +kernel
theorem dM_shift_121 : decode M_M_shift.2.1 121 = .ok (.ifCond .ge 6, 3) := by decide +kernel
theorem dM_shift_124 : decode M_M_shift.2.1 124 = .ok (.iload 5, 2) := by decide +kernel
theorem dM_shift_126 : decode M_M_shift.2.1 126 = .ok (.ireturn, 1) := by decide +kernel
theorem dM_shift_127 : decode M_M_shift.2.1 127 = .ok (.aload_n 0, 1) := by decide +kernel
theorem dM_shift_128 : decode M_M_shift.2.1 128 = .ok (.iload_n 2, 1) := by decide +kernel
theorem dM_shift_129 : decode M_M_shift.2.1 129 = .ok (.aload_n 0, 1) := by decide +kernel
theorem dM_shift_130 : decode M_M_shift.2.1 130 = .ok (.getfield 54, 3) := by decide +kernel
theorem dM_shift_133 : decode M_M_shift.2.1 133 = .ok (.invokevirtual 68, 3) := by decide +kernel
theorem dM_shift_136 : decode M_M_shift.2.1 136 = .ok (.istore 6, 2) := by decide +kernel
theorem dM_shift_138 : decode M_M_shift.2.1 138 = .ok (.aload_n 0, 1) := by decide +kernel
theorem dM_shift_139 : decode M_M_shift.2.1 139 = .ok (.iload_n 3, 1) := by decide +kernel
theorem dM_shift_140 : decode M_M_shift.2.1 140 = .ok (.aload_n 0, 1) := by decide +kernel
theorem dM_shift_141 : decode M_M_shift.2.1 141 = .ok (.getfield 54, 3) := by decide +kernel
theorem dM_shift_144 : decode M_M_shift.2.1 144 = .ok (.invokevirtual 68, 3) := by decide +kernel
theorem dM_shift_147 : decode M_M_shift.2.1 147 = .ok (.istore 7, 2) := by decide +kernel
theorem dM_shift_149 : decode M_M_shift.2.1 149 = .ok (.iload 6, 2) := by decide +kernel
theorem dM_shift_151 : decode M_M_shift.2.1 151 = .ok (.iload 4, 2) := by decide +kernel
theorem dM_shift_153 : decode M_M_shift.2.1 153 = .ok (.if_icmp .lt 14, 3) := by decide +kernel
theorem dM_shift_156 : decode M_M_shift.2.1 156 = .ok (.iload 7, 2) := by decide +kernel
theorem dM_shift_158 : decode M_M_shift.2.1 158 = .ok (.sipush 9999, 3) := by decide +kernel
theorem dM_shift_161 : decode M_M_shift.2.1 161 = .ok (.iload 4, 2) := by decide +kernel
theorem dM_shift_163 : decode M_M_shift.2.1 163 = .ok (.isub, 1) := by decide +kernel
theorem dM_shift_164 : decode M_M_shift.2.1 164 = .ok (.if_icmp .le 6, 3) := by decide +kernel
theorem dM_shift_167 : decode M_M_shift.2.1 167 = .ok (.bipush (-8), 2) := by decide +kernel
theorem dM_shift_169 : decode M_M_shift.2.1 169 = .ok (.ireturn, 1) := by decide +kernel
theorem dM_shift_170 : decode M_M_shift.2.1 170 = .ok (.aload_n 0, 1) := by decide +kernel
theorem dM_shift_171 : decode M_M_shift.2.1 171 = .ok (.getfield 41, 3) := by decide +kernel
theorem dM_shift_174 : decode M_M_shift.2.1 174 = .ok (.iload_n 2, 1) := by decide +kernel
theorem dM_shift_175 : decode M_M_shift.2.1 175 = .ok (.iload_n 1, 1) := by decide +kernel
theorem dM_shift_176 : decode M_M_shift.2.1 176 = .ok (.iastore, 1) := by decide +kernel
theorem dM_shift_177 : decode M_M_shift.2.1 177 = .ok (.aload_n 0, 1) := by decide +kernel
theorem dM_shift_178 : decode M_M_shift.2.1 178 = .ok (.getfield 41, 3) := by decide +kernel
theorem dM_shift_181 : decode M_M_shift.2.1 181 = .ok (.iload_n 3, 1) := by decide +kernel
theorem dM_shift_182 : decode M_M_shift.2.1 182 = .ok (.iload_n 1, 1) := by decide +kernel
theorem dM_shift_183 : decode M_M_shift.2.1 183 = .ok (.iastore, 1) := by decide +kernel
theorem dM_shift_184 : decode M_M_shift.2.1 184 = .ok (.aload_n 0, 1) := by decide +kernel
theorem dM_shift_185 : decode M_M_shift.2.1 185 = .ok (.iload_n 1, 1) := by decide +kernel
theorem dM_shift_186 : decode M_M_shift.2.1 186 = .ok (.iload_n 2, 1) := by decide +kernel
theorem dM_shift_187 : decode M_M_shift.2.1 187 = .ok (.iload 6, 2) := by decide +kernel
theorem dM_shift_189 : decode M_M_shift.2.1 189 = .ok (.iload 4, 2) := by decide +kernel
theorem dM_shift_191 : decode M_M_shift.2.1 191 = .ok (.isub, 1) := by decide +kernel
theorem dM_shift_192 : decode M_M_shift.2.1 192 = .ok (.iconst 0, 1) := by decide +kernel
theorem dM_shift_193 : decode M_M_shift.2.1 193 = .ok (.iconst 0, 1) := by decide +kernel
theorem dM_shift_194 : decode M_M_shift.2.1 194 = .ok (.invokevirtual 61, 3) := by decide +kernel
theorem dM_shift_197 : decode M_M_shift.2.1 197 = .ok (.pop, 1) := by decide +kernel
theorem dM_shift_198 : decode M_M_shift.2.1 198 = .ok (.aload_n 0, 1) := by decide +kernel
theorem dM_shift_199 : decode M_M_shift.2.1 199 = .ok (.iload_n 1, 1) := by decide +kernel
theorem dM_shift_200 : decode M_M_shift.2.1 200 = .ok (.iload_n 3, 1) := by decide +kernel
theorem dM_shift_201 : decode M_M_shift.2.1 201 = .ok (.iload 7, 2) := by decide +kernel
theorem dM_shift_203 : decode M_M_shift.2.1 203 = .ok (.iload 4, 2) := by decide +kernel
theorem dM_shift_205 : decode M_M_shift.2.1 205 = .ok (.iadd, 1) := by decide +kernel
theorem dM_shift_206 : decode M_M_shift.2.1 206 = .ok (.iconst 0, 1) := by decide +kernel
theorem dM_shift_207 : decode M_M_shift.2.1 207 = .ok (.iconst 1, 1) := by decide +kernel
theorem dM_shift_208 : decode M_M_shift.2.1 208 = .ok (.invokevirtual 61, 3) := by decide +kernel
theorem dM_shift_211 : decode M_M_shift.2.1 211 = .ok (.ireturn, 1) := by decide +kernel
theorem dM_commit_0 : decode M_M_commit.2.1 0 = .ok (.aload_n 0, 1) := by decide +kernel
theorem dM_commit_1 : decode M_M_commit.2.1 1 = .ok (.getfield 117, 3) := by decide +kernel
theorem dM_commit_4 : decode M_M_commit.2.1 4 = .ok (.ifCond .eq 6, 3) := by decide +kernel
theorem dM_commit_7 : decode M_M_commit.2.1 7 = .ok (.bipush (-2), 2) := by decide +kernel
theorem dM_commit_9 : decode M_M_commit.2.1 9 = .ok (.ireturn, 1) := by decide +kernel
theorem dM_commit_10 : decode M_M_commit.2.1 10 = .ok (.aload_n 0, 1) := by decide +kernel
theorem dM_commit_11 : decode M_M_commit.2.1 11 = .ok (.iload_n 1, 1) := by decide +kernel
theorem dM_commit_12 : decode M_M_commit.2.1 12 = .ok (.invokevirtual 125, 3) := by decide +kernel
theorem dM_commit_15 : decode M_M_commit.2.1 15 = .ok (.ifCond .eq 12, 3) := by decide +kernel
theorem dM_commit_18 : decode M_M_commit.2.1 18 = .ok (.aload_n 0, 1) := by decide +kernel
theorem dM_commit_19 : decode M_M_commit.2.1 19 = .ok (.iload_n 1, 1) := by decide +kernel
theorem dM_commit_20 : decode M_M_commit.2.1 20 = .ok (.iconst 1, 1) := by decide +kernel
theorem dM_commit_21 : decode M_M_commit.2.1 21 = .ok (.invokevirtual 71, 3) := by decide +kernel
theorem dM_commit_24 : decode M_M_commit.2.1 24 = .ok (.goto 5, 3) := by decide +kernel
theorem dM_commit_27 : decode M_M_commit.2.1 27 = .ok (.bipush (-3), 2) := by decide +kernel
theorem dM_commit_29 : decode M_M_commit.2.1 29 = .ok (.ireturn, 1) := by decide +kernel
theorem dM_abort_0 : decode M_M_abort.2.1 0 = .ok (.aload_n 0, 1) := by decide +kernel
theorem dM_abort_1 : decode M_M_abort.2.1 1 = .ok (.getfield 117, 3) := by decide +kernel
theorem dM_abort_4 : decode M_M_abort.2.1 4 = .ok (.ifCond .eq 6, 3) := by decide +kernel
theorem dM_abort_7 : decode M_M_abort.2.1 7 = .ok (.bipush (-2), 2) := by decide +kernel
theorem dM_abort_9 : decode M_M_abort.2.1 9 = .ok (.ireturn, 1) := by decide +kernel
theorem dM_abort_10 : decode M_M_abort.2.1 10 = .ok (.aload_n 0, 1) := by decide +kernel
theorem dM_abort_11 : decode M_M_abort.2.1 11 = .ok (.iload_n 1, 1) := by decide +kernel
theorem dM_abort_12 : decode M_M_abort.2.1 12 = .ok (.invokevirtual 125, 3) := by decide +kernel
theorem dM_abort_15 : decode M_M_abort.2.1 15 = .ok (.ifCond .eq 11, 3) := by decide +kernel
theorem dM_abort_18 : decode M_M_abort.2.1 18 = .ok (.aload_n 0, 1) := by decide +kernel
theorem dM_abort_19 : decode M_M_abort.2.1 19 = .ok (.iload_n 1, 1) := by decide +kernel
theorem dM_abort_20 : decode M_M_abort.2.1 20 = .ok (.invokevirtual 134, 3) := by decide +kernel
theorem dM_abort_23 : decode M_M_abort.2.1 23 = .ok (.goto 5, 3) := by decide +kernel
theorem dM_abort_26 : decode M_M_abort.2.1 26 = .ok (.bipush (-3), 2) := by decide +kernel
theorem dM_abort_28 : decode M_M_abort.2.1 28 = .ok (.ireturn, 1) := by decide +kernel
theorem dM_status_0 : decode M_M_status.2.1 0 = .ok (.iload_n 1, 1) := by decide +kernel
theorem dM_status_1 : decode M_M_status.2.1 1 = .ok (.iconst 1, 1) := by decide +kernel
theorem dM_status_2 : decode M_M_status.2.1 2 = .ok (.if_icmp .lt 11, 3) := by decide +kernel
theorem dM_status_5 : decode M_M_status.2.1 5 = .ok (.iload_n 1, 1) := by decide +kernel
theorem dM_status_6 : decode M_M_status.2.1 6 = .ok (.aload_n 0, 1) := by decide +kernel
theorem dM_status_7 : decode M_M_status.2.1 7 = .ok (.getfield 50, 3) := by decide +kernel
theorem dM_status_10 : decode M_M_status.2.1 10 = .ok (.if_icmp .le 5, 3) := by decide +kernel
theorem dM_status_13 : decode M_M_status.2.1 13 = .ok (.iconst 0, 1) := by decide +kernel
theorem dM_status_14 : decode M_M_status.2.1 14 = .ok (.ireturn, 1) := by decide +kernel
theorem dM_status_15 : decode M_M_status.2.1 15 = .ok (.aload_n 0, 1) := by decide +kernel
theorem dM_status_16 : decode M_M_status.2.1 16 = .ok (.getfield 38, 3) := by decide +kernel
theorem dM_status_19 : decode M_M_status.2.1 19 = .ok (.iload_n 1, 1) := by decide +kernel
theorem dM_status_20 : decode M_M_status.2.1 20 = .ok (.baload, 1) := by decide +kernel
theorem dM_status_21 : decode M_M_status.2.1 21 = .ok (.ifCond .eq 5, 3) := by decide +kernel
theorem dM_status_24 : decode M_M_status.2.1 24 = .ok (.iconst 1, 1) := by decide +kernel
theorem dM_status_25 : decode M_M_status.2.1 25 = .ok (.ireturn, 1) := by decide +kernel
theorem dM_status_26 : decode M_M_status.2.1 26 = .ok (.aload_n 0, 1) := by decide +kernel
theorem dM_status_27 : decode M_M_status.2.1 27 = .ok (.iload_n 1, 1) := by decide +kernel
theorem dM_status_28 : decode M_M_status.2.1 28 = .ok (.aload_n 0, 1) := by decide +kernel
theorem dM_status_29 : decode M_M_status.2.1 29 = .ok (.getfield 54, 3) := by decide +kernel
theorem dM_status_32 : decode M_M_status.2.1 32 = .ok (.invokevirtual 137, 3) := by decide +kernel
theorem dM_status_35 : decode M_M_status.2.1 35 = .ok (.istore_n 2, 1) := by decide +kernel
theorem dM_status_36 : decode M_M_status.2.1 36 = .ok (.iload_n 2, 1) := by decide +kernel
theorem dM_status_37 : decode M_M_status.2.1 37 = .ok (.ifCond .ne 7, 3) := by decide +kernel
theorem dM_status_40 : decode M_M_status.2.1 40 = .ok (.iconst 5, 1) := by decide +kernel
theorem dM_status_41 : decode M_M_status.2.1 41 = .ok (.goto 30, 3) := by decide +kernel
theorem dM_status_44 : decode M_M_status.2.1 44 = .ok (.aload_n 0, 1) := by decide +kernel
theorem dM_status_45 : decode M_M_status.2.1 45 = .ok (.getfield 19, 3) := by decide +kernel
theorem dM_status_48 : decode M_M_status.2.1 48 = .ok (.iload_n 2, 1) := by decide +kernel
theorem dM_status_49 : decode M_M_status.2.1 49 = .ok (.iaload, 1) := by decide +kernel
theorem dM_status_50 : decode M_M_status.2.1 50 = .ok (.iconst 2, 1) := by decide +kernel
theorem dM_status_51 : decode M_M_status.2.1 51 = .ok (.if_icmp .ne 7, 3) := by decide +kernel
theorem dM_status_54 : decode M_M_status.2.1 54 = .ok (.iconst 4, 1) := by decide +kernel
theorem dM_status_55 : decode M_M_status.2.1 55 = .ok (.goto 16, 3) := by decide +kernel
theorem dM_status_58 : decode M_M_status.2.1 58 = .ok (.iload_n 2, 1) := by decide +kernel
theorem dM_status_59 : decode M_M_status.2.1 59 = .ok (.aload_n 0, 1) := by decide +kernel
theorem dM_status_60 : decode M_M_status.2.1 60 = .ok (.getfield 94, 3) := by decide +kernel
theorem dM_status_63 : decode M_M_status.2.1 63 = .ok (.if_icmp .le 7, 3) := by decide +kernel
theorem dM_status_66 : decode M_M_status.2.1 66 = .ok (.iconst 2, 1) := by decide +kernel
theorem dM_status_67 : decode M_M_status.2.1 67 = .ok (.goto 4, 3) := by decide +kernel
theorem dM_status_70 : decode M_M_status.2.1 70 = .ok (.iconst 3, 1) := by decide +kernel
theorem dM_status_71 : decode M_M_status.2.1 71 = .ok (.ireturn, 1) := by decide +kernel
theorem dM_deliver_0 : decode M_M_deliver.2.1 0 = .ok (.iload_n 1, 1) := by decide +kernel
theorem dM_deliver_1 : decode M_M_deliver.2.1 1 = .ok (.iconst 1, 1) := by decide +kernel
theorem dM_deliver_2 : decode M_M_deliver.2.1 2 = .ok (.if_icmp .lt 20, 3) := by decide +kernel
theorem dM_deliver_5 : decode M_M_deliver.2.1 5 = .ok (.iload_n 1, 1) := by decide +kernel
theorem dM_deliver_6 : decode M_M_deliver.2.1 6 = .ok (.aload_n 0, 1) := by decide +kernel
theorem dM_deliver_7 : decode M_M_deliver.2.1 7 = .ok (.getfield 54, 3) := by decide +kernel
theorem dM_deliver_10 : decode M_M_deliver.2.1 10 = .ok (.if_icmp .gt 12, 3) := by decide +kernel
theorem dM_deliver_13 : decode M_M_deliver.2.1 13 = .ok (.iload_n 2, 1) := by decide +kernel
theorem dM_deliver_14 : decode M_M_deliver.2.1 14 = .ok (.ifCond .lt 8, 3) := by decide +kernel
theorem dM_deliver_17 : decode M_M_deliver.2.1 17 = .ok (.iload_n 2, 1) := by decide +kernel
theorem dM_deliver_18 : decode M_M_deliver.2.1 18 = .ok (.iconst 5, 1) := by decide +kernel
theorem dM_deliver_19 : decode M_M_deliver.2.1 19 = .ok (.if_icmp .le 5, 3) := by decide +kernel
theorem dM_deliver_22 : decode M_M_deliver.2.1 22 = .ok (.iconst (-1), 1) := by decide +kernel
theorem dM_deliver_23 : decode M_M_deliver.2.1 23 = .ok (.ireturn, 1) := by decide +kernel
theorem dM_deliver_24 : decode M_M_deliver.2.1 24 = .ok (.bipush 6, 2) := by decide +kernel
theorem dM_deliver_26 : decode M_M_deliver.2.1 26 = .ok (.aload_n 0, 1) := by decide +kernel
theorem dM_deliver_27 : decode M_M_deliver.2.1 27 = .ok (.iload_n 1, 1) := by decide +kernel
theorem dM_deliver_28 : decode M_M_deliver.2.1 28 = .ok (.invokevirtual 74, 3) := by decide +kernel
theorem dM_deliver_31 : decode M_M_deliver.2.1 31 = .ok (.imul, 1) := by decide +kernel
theorem dM_deliver_32 : decode M_M_deliver.2.1 32 = .ok (.iload_n 2, 1) := by decide +kernel
theorem dM_deliver_33 : decode M_M_deliver.2.1 33 = .ok (.iadd, 1) := by decide +kernel
theorem dM_deliver_34 : decode M_M_deliver.2.1 34 = .ok (.istore_n 3, 1) := by decide +kernel
theorem dM_deliver_35 : decode M_M_deliver.2.1 35 = .ok (.aload_n 0, 1) := by decide +kernel
theorem dM_deliver_36 : decode M_M_deliver.2.1 36 = .ok (.getfield 29, 3) := by decide +kernel
theorem dM_deliver_39 : decode M_M_deliver.2.1 39 = .ok (.iload_n 3, 1) := by decide +kernel
theorem dM_deliver_40 : decode M_M_deliver.2.1 40 = .ok (.iaload, 1) := by decide +kernel
theorem dM_deliver_41 : decode M_M_deliver.2.1 41 = .ok (.ifCond .eq 5, 3) := by decide +kernel
theorem dM_deliver_44 : decode M_M_deliver.2.1 44 = .ok (.iconst 0, 1) := by decide +kernel
theorem dM_deliver_45 : decode M_M_deliver.2.1 45 = .ok (.ireturn, 1) := by decide +kernel
theorem dM_deliver_46 : decode M_M_deliver.2.1 46 = .ok (.aload_n 0, 1) := by decide +kernel
theorem dM_deliver_47 : decode M_M_deliver.2.1 47 = .ok (.getfield 26, 3) := by decide +kernel
theorem dM_deliver_50 : decode M_M_deliver.2.1 50 = .ok (.sipush 200, 3) := by decide +kernel
theorem dM_deliver_53 : decode M_M_deliver.2.1 53 = .ok (.iload_n 3, 1) := by decide +kernel
theorem dM_deliver_54 : decode M_M_deliver.2.1 54 = .ok (.imul, 1) := by decide +kernel
theorem dM_deliver_55 : decode M_M_deliver.2.1 55 = .ok (.iload_n 1, 1) := by decide +kernel
theorem dM_deliver_56 : decode M_M_deliver.2.1 56 = .ok (.iadd, 1) := by decide +kernel
theorem dM_deliver_57 : decode M_M_deliver.2.1 57 = .ok (.baload, 1) := by decide +kernel
theorem dM_deliver_58 : decode M_M_deliver.2.1 58 = .ok (.istore 4, 2) := by decide +kernel
theorem dM_deliver_60 : decode M_M_deliver.2.1 60 = .ok (.aload_n 0, 1) := by decide +kernel
theorem dM_deliver_61 : decode M_M_deliver.2.1 61 = .ok (.getfield 26, 3) := by decide +kernel
theorem dM_deliver_64 : decode M_M_deliver.2.1 64 = .ok (.sipush 200, 3) := by decide +kernel
theorem dM_deliver_67 : decode M_M_deliver.2.1 67 = .ok (.iload_n 3, 1) := by decide +kernel
theorem dM_deliver_68 : decode M_M_deliver.2.1 68 = .ok (.imul, 1) := by decide +kernel
theorem dM_deliver_69 : decode M_M_deliver.2.1 69 = .ok (.iload_n 1, 1) := by decide +kernel
theorem dM_deliver_70 : decode M_M_deliver.2.1 70 = .ok (.iadd, 1) := by decide +kernel
theorem dM_deliver_71 : decode M_M_deliver.2.1 71 = .ok (.iconst 1, 1) := by decide +kernel
theorem dM_deliver_72 : decode M_M_deliver.2.1 72 = .ok (.bastore, 1) := by decide +kernel
theorem dM_deliver_73 : decode M_M_deliver.2.1 73 = .ok (.aload_n 0, 1) := by decide +kernel
theorem dM_deliver_74 : decode M_M_deliver.2.1 74 = .ok (.getfield 117, 3) := by decide +kernel
theorem dM_deliver_77 : decode M_M_deliver.2.1 77 = .ok (.ifCond .ne 8, 3) := by decide +kernel
theorem dM_deliver_80 : decode M_M_deliver.2.1 80 = .ok (.aload_n 0, 1) := by decide +kernel
theorem dM_deliver_81 : decode M_M_deliver.2.1 81 = .ok (.iload_n 3, 1) := by decide +kernel
theorem dM_deliver_82 : decode M_M_deliver.2.1 82 = .ok (.invokevirtual 140, 3) := by decide +kernel
theorem dM_deliver_85 : decode M_M_deliver.2.1 85 = .ok (.iload 4, 2) := by decide +kernel
theorem dM_deliver_87 : decode M_M_deliver.2.1 87 = .ok (.ifCond .eq 7, 3) := by decide +kernel
theorem dM_deliver_90 : decode M_M_deliver.2.1 90 = .ok (.iconst 1, 1) := by decide +kernel
theorem dM_deliver_91 : decode M_M_deliver.2.1 91 = .ok (.goto 4, 3) := by decide +kernel
theorem dM_deliver_94 : decode M_M_deliver.2.1 94 = .ok (.iconst 2, 1) := by decide +kernel
theorem dM_deliver_95 : decode M_M_deliver.2.1 95 = .ok (.ireturn, 1) := by decide +kernel
theorem dM_join_0 : decode M_M_join.2.1 0 = .ok (.iconst 0, 1) := by decide +kernel
theorem dM_join_1 : decode M_M_join.2.1 1 = .ok (.istore_n 3, 1) := by decide +kernel
theorem dM_join_2 : decode M_M_join.2.1 2 = .ok (.iconst 1, 1) := by decide +kernel
theorem dM_join_3 : decode M_M_join.2.1 3 = .ok (.istore 4, 2) := by decide +kernel
theorem dM_join_5 : decode M_M_join.2.1 5 = .ok (.iload 4, 2) := by decide +kernel
theorem dM_join_7 : decode M_M_join.2.1 7 = .ok (.aload_n 0, 1) := by decide +kernel
theorem dM_join_8 : decode M_M_join.2.1 8 = .ok (.getfield 54, 3) := by decide +kernel
theorem dM_join_11 : decode M_M_join.2.1 11 = .ok (.if_icmp .gt 58, 3) := by decide +kernel
theorem dM_join_14 : decode M_M_join.2.1 14 = .ok (.aload_n 0, 1) := by decide +kernel
theorem dM_join_15 : decode M_M_join.2.1 15 = .ok (.getfield 26, 3) := by decide +kernel
theorem dM_join_18 : decode M_M_join.2.1 18 = .ok (.sipush 200, 3) := by decide +kernel
theorem dM_join_21 : decode M_M_join.2.1 21 = .ok (.iload_n 1, 1) := by decide +kernel
theorem dM_join_22 : decode M_M_join.2.1 22 = .ok (.imul, 1) := by decide +kernel
theorem dM_join_23 : decode M_M_join.2.1 23 = .ok (.iload 4, 2) := by decide +kernel
theorem dM_join_25 : decode M_M_join.2.1 25 = .ok (.iadd, 1) := by decide +kernel
theorem dM_join_26 : decode M_M_join.2.1 26 = .ok (.baload, 1) := by decide +kernel
theorem dM_join_27 : decode M_M_join.2.1 27 = .ok (.ifCond .eq 36, 3) := by decide +kernel
theorem dM_join_30 : decode M_M_join.2.1 30 = .ok (.aload_n 0, 1) := by decide +kernel
theorem dM_join_31 : decode M_M_join.2.1 31 = .ok (.getfield 26, 3) := by decide +kernel
theorem dM_join_34 : decode M_M_join.2.1 34 = .ok (.sipush 200, 3) := by decide +kernel
theorem dM_join_37 : decode M_M_join.2.1 37 = .ok (.iload_n 2, 1) := by decide +kernel
theorem dM_join_38 : decode M_M_join.2.1 38 = .ok (.imul, 1) := by decide +kernel
theorem dM_join_39 : decode M_M_join.2.1 39 = .ok (.iload 4, 2) := by decide +kernel
theorem dM_join_41 : decode M_M_join.2.1 41 = .ok (.iadd, 1) := by decide +kernel
theorem dM_join_42 : decode M_M_join.2.1 42 = .ok (.baload, 1) := by decide +kernel
theorem dM_join_43 : decode M_M_join.2.1 43 = .ok (.ifCond .ne 20, 3) := by decide +kernel
theorem dM_join_46 : decode M_M_join.2.1 46 = .ok (.aload_n 0, 1) := by decide +kernel
theorem dM_join_47 : decode M_M_join.2.1 47 = .ok (.getfield 26, 3) := by decide +kernel
theorem dM_join_50 : decode M_M_join.2.1 50 = .ok (.sipush 200, 3) := by decide +kernel
theorem dM_join_53 : decode M_M_join.2.1 53 = .ok (.iload_n 2, 1) := by decide +kernel
theorem dM_join_54 : decode M_M_join.2.1 54 = .ok (.imul, 1) := by decide +kernel
theorem dM_join_55 : decode M_M_join.2.1 55 = .ok (.iload 4, 2) := by decide +kernel
theorem dM_join_57 : decode M_M_join.2.1 57 = .ok (.iadd, 1) := by decide +kernel
theorem dM_join_58 : decode M_M_join.2.1 58 = .ok (.iconst 1, 1) := by decide +kernel
theorem dM_join_59 : decode M_M_join.2.1 59 = .ok (.bastore, 1) := by decide +kernel
theorem dM_join_60 : decode M_M_join.2.1 60 = .ok (.iinc 3 1, 3) := by decide +kernel
theorem dM_join_63 : decode M_M_join.2.1 63 = .ok (.iinc 4 1, 3) := by decide +kernel
theorem dM_join_66 : decode M_M_join.2.1 66 = .ok (.goto (-61), 3) := by decide +kernel
theorem dM_join_69 : decode M_M_join.2.1 69 = .ok (.aload_n 0, 1) := by decide +kernel
theorem dM_join_70 : decode M_M_join.2.1 70 = .ok (.getfield 32, 3) := by decide +kernel
theorem dM_join_73 : decode M_M_join.2.1 73 = .ok (.iload_n 2, 1) := by decide +kernel
theorem dM_join_74 : decode M_M_join.2.1 74 = .ok (.aload_n 0, 1) := by decide +kernel
theorem dM_join_75 : decode M_M_join.2.1 75 = .ok (.getfield 32, 3) := by decide +kernel
theorem dM_join_78 : decode M_M_join.2.1 78 = .ok (.iload_n 1, 1) := by decide +kernel
theorem dM_join_79 : decode M_M_join.2.1 79 = .ok (.iaload, 1) := by decide +kernel
theorem dM_join_80 : decode M_M_join.2.1 80 = .ok (.aload_n 0, 1) := by decide +kernel
theorem dM_join_81 : decode M_M_join.2.1 81 = .ok (.getfield 32, 3) := by decide +kernel
theorem dM_join_84 : decode M_M_join.2.1 84 = .ok (.iload_n 2, 1) := by decide +kernel
theorem dM_join_85 : decode M_M_join.2.1 85 = .ok (.iaload, 1) := by decide +kernel
theorem dM_join_86 : decode M_M_join.2.1 86 = .ok (.if_icmp .le 12, 3) := by decide +kernel
theorem dM_join_89 : decode M_M_join.2.1 89 = .ok (.aload_n 0, 1) := by decide +kernel
theorem dM_join_90 : decode M_M_join.2.1 90 = .ok (.getfield 32, 3) := by decide +kernel
theorem dM_join_93 : decode M_M_join.2.1 93 = .ok (.iload_n 1, 1) := by decide +kernel
theorem dM_join_94 : decode M_M_join.2.1 94 = .ok (.iaload, 1) := by decide +kernel
theorem dM_join_95 : decode M_M_join.2.1 95 = .ok (.goto 9, 3) := by decide +kernel
theorem dM_join_98 : decode M_M_join.2.1 98 = .ok (.aload_n 0, 1) := by decide +kernel
theorem dM_join_99 : decode M_M_join.2.1 99 = .ok (.getfield 32, 3) := by decide +kernel
theorem dM_join_102 : decode M_M_join.2.1 102 = .ok (.iload_n 2, 1) := by decide +kernel
theorem dM_join_103 : decode M_M_join.2.1 103 = .ok (.iaload, 1) := by decide +kernel
theorem dM_join_104 : decode M_M_join.2.1 104 = .ok (.iastore, 1) := by decide +kernel
theorem dM_join_105 : decode M_M_join.2.1 105 = .ok (.iload_n 3, 1) := by decide +kernel
theorem dM_join_106 : decode M_M_join.2.1 106 = .ok (.ireturn, 1) := by decide +kernel
theorem dM_gossip_0 : decode M_M_gossip.2.1 0 = .ok (.iload_n 1, 1) := by decide +kernel
theorem dM_gossip_1 : decode M_M_gossip.2.1 1 = .ok (.iload_n 2, 1) := by decide +kernel
theorem dM_gossip_2 : decode M_M_gossip.2.1 2 = .ok (.invokestatic 143, 3) := by decide +kernel
theorem dM_gossip_5 : decode M_M_gossip.2.1 5 = .ok (.ifCond .eq 16, 3) := by decide +kernel
theorem dM_gossip_8 : decode M_M_gossip.2.1 8 = .ok (.iload_n 1, 1) := by decide +kernel
theorem dM_gossip_9 : decode M_M_gossip.2.1 9 = .ok (.iload_n 3, 1) := by decide +kernel
theorem dM_gossip_10 : decode M_M_gossip.2.1 10 = .ok (.invokestatic 143, 3) := by decide +kernel
theorem dM_gossip_13 : decode M_M_gossip.2.1 13 = .ok (.ifCond .eq 8, 3) := by decide +kernel
theorem dM_gossip_16 : decode M_M_gossip.2.1 16 = .ok (.iload_n 2, 1) := by decide +kernel
theorem dM_gossip_17 : decode M_M_gossip.2.1 17 = .ok (.iload_n 3, 1) := by decide +kernel
theorem dM_gossip_18 : decode M_M_gossip.2.1 18 = .ok (.if_icmp .ne 5, 3) := by decide +kernel
theorem dM_gossip_21 : decode M_M_gossip.2.1 21 = .ok (.iconst (-1), 1) := by decide +kernel
theorem dM_gossip_22 : decode M_M_gossip.2.1 22 = .ok (.ireturn, 1) := by decide +kernel
theorem dM_gossip_23 : decode M_M_gossip.2.1 23 = .ok (.aload_n 0, 1) := by decide +kernel
theorem dM_gossip_24 : decode M_M_gossip.2.1 24 = .ok (.getfield 29, 3) := by decide +kernel
theorem dM_gossip_27 : decode M_M_gossip.2.1 27 = .ok (.bipush 6, 2) := by decide +kernel
theorem dM_gossip_29 : decode M_M_gossip.2.1 29 = .ok (.iload_n 1, 1) := by decide +kernel
theorem dM_gossip_30 : decode M_M_gossip.2.1 30 = .ok (.imul, 1) := by decide +kernel
theorem dM_gossip_31 : decode M_M_gossip.2.1 31 = .ok (.iload_n 2, 1) := by decide +kernel
theorem dM_gossip_32 : decode M_M_gossip.2.1 32 = .ok (.iadd, 1) := by decide +kernel
theorem dM_gossip_33 : decode M_M_gossip.2.1 33 = .ok (.iaload, 1) := by decide +kernel
theorem dM_gossip_34 : decode M_M_gossip.2.1 34 = .ok (.ifCond .ne 17, 3) := by decide +kernel
theorem dM_gossip_37 : decode M_M_gossip.2.1 37 = .ok (.aload_n 0, 1) := by decide +kernel
theorem dM_gossip_38 : decode M_M_gossip.2.1 38 = .ok (.getfield 29, 3) := by decide +kernel
theorem dM_gossip_41 : decode M_M_gossip.2.1 41 = .ok (.bipush 6, 2) := by decide +kernel
theorem dM_gossip_43 : decode M_M_gossip.2.1 43 = .ok (.iload_n 1, 1) := by decide +kernel
theorem dM_gossip_44 : decode M_M_gossip.2.1 44 = .ok (.imul, 1) := by decide +kernel
theorem dM_gossip_45 : decode M_M_gossip.2.1 45 = .ok (.iload_n 3, 1) := by decide +kernel
theorem dM_gossip_46 : decode M_M_gossip.2.1 46 = .ok (.iadd, 1) := by decide +kernel
theorem dM_gossip_47 : decode M_M_gossip.2.1 47 = .ok (.iaload, 1) := by decide +kernel
theorem dM_gossip_48 : decode M_M_gossip.2.1 48 = .ok (.ifCond .eq 6, 3) := by decide +kernel
theorem dM_gossip_51 : decode M_M_gossip.2.1 51 = .ok (.bipush (-7), 2) := by decide +kernel
theorem dM_gossip_53 : decode M_M_gossip.2.1 53 = .ok (.ireturn, 1) := by decide +kernel
theorem dM_gossip_54 : decode M_M_gossip.2.1 54 = .ok (.aload_n 0, 1) := by decide +kernel
theorem dM_gossip_55 : decode M_M_gossip.2.1 55 = .ok (.bipush 6, 2) := by decide +kernel
theorem dM_gossip_57 : decode M_M_gossip.2.1 57 = .ok (.iload_n 1, 1) := by decide +kernel
theorem dM_gossip_58 : decode M_M_gossip.2.1 58 = .ok (.imul, 1) := by decide +kernel
theorem dM_gossip_59 : decode M_M_gossip.2.1 59 = .ok (.iload_n 2, 1) := by decide +kernel
theorem dM_gossip_60 : decode M_M_gossip.2.1 60 = .ok (.iadd, 1) := by decide +kernel
theorem dM_gossip_61 : decode M_M_gossip.2.1 61 = .ok (.bipush 6, 2) := by decide +kernel
theorem dM_gossip_63 : decode M_M_gossip.2.1 63 = .ok (.iload_n 1, 1) := by decide +kernel
theorem dM_gossip_64 : decode M_M_gossip.2.1 64 = .ok (.imul, 1) := by decide +kernel
theorem dM_gossip_65 : decode M_M_gossip.2.1 65 = .ok (.iload_n 3, 1) := by decide +kernel
theorem dM_gossip_66 : decode M_M_gossip.2.1 66 = .ok (.iadd, 1) := by decide +kernel
theorem dM_gossip_67 : decode M_M_gossip.2.1 67 = .ok (.invokevirtual 146, 3) := by decide +kernel
theorem dM_gossip_70 : decode M_M_gossip.2.1 70 = .ok (.ireturn, 1) := by decide +kernel
theorem dM_report_0 : decode M_M_report.2.1 0 = .ok (.iload_n 1, 1) := by decide +kernel
theorem dM_report_1 : decode M_M_report.2.1 1 = .ok (.iload_n 2, 1) := by decide +kernel
theorem dM_report_2 : decode M_M_report.2.1 2 = .ok (.invokestatic 143, 3) := by decide +kernel
theorem dM_report_5 : decode M_M_report.2.1 5 = .ok (.ifCond .ne 5, 3) := by decide +kernel
theorem dM_report_8 : decode M_M_report.2.1 8 = .ok (.iconst (-1), 1) := by decide +kernel
theorem dM_report_9 : decode M_M_report.2.1 9 = .ok (.ireturn, 1) := by decide +kernel
theorem dM_report_10 : decode M_M_report.2.1 10 = .ok (.aload_n 0, 1) := by decide +kernel
theorem dM_report_11 : decode M_M_report.2.1 11 = .ok (.getfield 117, 3) := by decide +kernel
theorem dM_report_14 : decode M_M_report.2.1 14 = .ok (.ifCond .eq 6, 3) := by decide +kernel
theorem dM_report_17 : decode M_M_report.2.1 17 = .ok (.bipush (-2), 2) := by decide +kernel
theorem dM_report_19 : decode M_M_report.2.1 19 = .ok (.ireturn, 1) := by decide +kernel
theorem dM_report_20 : decode M_M_report.2.1 20 = .ok (.aload_n 0, 1) := by decide +kernel
theorem dM_report_21 : decode M_M_report.2.1 21 = .ok (.getfield 29, 3) := by decide +kernel
theorem dM_report_24 : decode M_M_report.2.1 24 = .ok (.bipush 6, 2) := by decide +kernel
theorem dM_report_26 : decode M_M_report.2.1 26 = .ok (.iload_n 1, 1) := by decide +kernel
theorem dM_report_27 : decode M_M_report.2.1 27 = .ok (.imul, 1) := by decide +kernel
theorem dM_report_28 : decode M_M_report.2.1 28 = .ok (.iload_n 2, 1) := by decide +kernel
theorem dM_report_29 : decode M_M_report.2.1 29 = .ok (.iadd, 1) := by decide +kernel
theorem dM_report_30 : decode M_M_report.2.1 30 = .ok (.iaload, 1) := by decide +kernel
theorem dM_report_31 : decode M_M_report.2.1 31 = .ok (.ifCond .eq 6, 3) := by decide +kernel
theorem dM_report_34 : decode M_M_report.2.1 34 = .ok (.bipush (-7), 2) := by decide +kernel
theorem dM_report_36 : decode M_M_report.2.1 36 = .ok (.ireturn, 1) := by decide +kernel
theorem dM_report_37 : decode M_M_report.2.1 37 = .ok (.aload_n 0, 1) := by decide +kernel
theorem dM_report_38 : decode M_M_report.2.1 38 = .ok (.bipush 6, 2) := by decide +kernel
theorem dM_report_40 : decode M_M_report.2.1 40 = .ok (.iload_n 1, 1) := by decide +kernel
theorem dM_report_41 : decode M_M_report.2.1 41 = .ok (.imul, 1) := by decide +kernel
theorem dM_report_42 : decode M_M_report.2.1 42 = .ok (.iload_n 2, 1) := by decide +kernel
theorem dM_report_43 : decode M_M_report.2.1 43 = .ok (.iadd, 1) := by decide +kernel
theorem dM_report_44 : decode M_M_report.2.1 44 = .ok (.invokevirtual 140, 3) := by decide +kernel
theorem dM_report_47 : decode M_M_report.2.1 47 = .ok (.aload_n 0, 1) := by decide +kernel
theorem dM_report_48 : decode M_M_report.2.1 48 = .ok (.getfield 35, 3) := by decide +kernel
theorem dM_report_51 : decode M_M_report.2.1 51 = .ok (.bipush 6, 2) := by decide +kernel
theorem dM_report_53 : decode M_M_report.2.1 53 = .ok (.iload_n 1, 1) := by decide +kernel
theorem dM_report_54 : decode M_M_report.2.1 54 = .ok (.imul, 1) := by decide +kernel
theorem dM_report_55 : decode M_M_report.2.1 55 = .ok (.iload_n 2, 1) := by decide +kernel
theorem dM_report_56 : decode M_M_report.2.1 56 = .ok (.iadd, 1) := by decide +kernel
theorem dM_report_57 : decode M_M_report.2.1 57 = .ok (.iaload, 1) := by decide +kernel
theorem dM_report_58 : decode M_M_report.2.1 58 = .ok (.ireturn, 1) := by decide +kernel
theorem dM_live_0 : decode M_M_live.2.1 0 = .ok (.iconst 0, 1) := by decide +kernel
theorem dM_live_1 : decode M_M_live.2.1 1 = .ok (.istore_n 2, 1) := by decide +kernel
theorem dM_live_2 : decode M_M_live.2.1 2 = .ok (.bipush 6, 2) := by decide +kernel
theorem dM_live_4 : decode M_M_live.2.1 4 = .ok (.iload_n 1, 1) := by decide +kernel
theorem dM_live_5 : decode M_M_live.2.1 5 = .ok (.imul, 1) := by decide +kernel
theorem dM_live_6 : decode M_M_live.2.1 6 = .ok (.istore_n 3, 1) := by decide +kernel
theorem dM_live_7 : decode M_M_live.2.1 7 = .ok (.iload_n 3, 1) := by decide +kernel
theorem dM_live_8 : decode M_M_live.2.1 8 = .ok (.bipush 6, 2) := by decide +kernel
theorem dM_live_10 : decode M_M_live.2.1 10 = .ok (.iload_n 1, 1) := by decide +kernel
theorem dM_live_11 : decode M_M_live.2.1 11 = .ok (.imul, 1) := by decide +kernel
theorem dM_live_12 : decode M_M_live.2.1 12 = .ok (.bipush 6, 2) := by decide +kernel
theorem dM_live_14 : decode M_M_live.2.1 14 = .ok (.iadd, 1) := by decide +kernel
theorem dM_live_15 : decode M_M_live.2.1 15 = .ok (.if_icmp .ge 26, 3) := by decide +kernel
theorem dM_live_18 : decode M_M_live.2.1 18 = .ok (.iload_n 2, 1) := by decide +kernel
theorem dM_live_19 : decode M_M_live.2.1 19 = .ok (.aload_n 0, 1) := by decide +kernel
theorem dM_live_20 : decode M_M_live.2.1 20 = .ok (.getfield 29, 3) := by decide +kernel
theorem dM_live_23 : decode M_M_live.2.1 23 = .ok (.iload_n 3, 1) := by decide +kernel
theorem dM_live_24 : decode M_M_live.2.1 24 = .ok (.iaload, 1) := by decide +kernel
theorem dM_live_25 : decode M_M_live.2.1 25 = .ok (.ifCond .ne 7, 3) := by decide +kernel
theorem dM_live_28 : decode M_M_live.2.1 28 = .ok (.iconst 1, 1) := by decide +kernel
theorem dM_live_29 : decode M_M_live.2.1 29 = .ok (.goto 4, 3) := by decide +kernel
theorem dM_live_32 : decode M_M_live.2.1 32 = .ok (.iconst 0, 1) := by decide +kernel
theorem dM_live_33 : decode M_M_live.2.1 33 = .ok (.iadd, 1) := by decide +kernel
theorem dM_live_34 : decode M_M_live.2.1 34 = .ok (.istore_n 2, 1) := by decide +kernel
theorem dM_live_35 : decode M_M_live.2.1 35 = .ok (.iinc 3 1, 3) := by decide +kernel
theorem dM_live_38 : decode M_M_live.2.1 38 = .ok (.goto (-31), 3) := by decide +kernel
theorem dM_live_41 : decode M_M_live.2.1 41 = .ok (.iload_n 2, 1) := by decide +kernel
theorem dM_live_42 : decode M_M_live.2.1 42 = .ok (.ireturn, 1) := by decide +kernel
theorem dM_fault_0 : decode M_M_fault.2.1 0 = .ok (.iload_n 1, 1) := by decide +kernel
theorem dM_fault_1 : decode M_M_fault.2.1 1 = .ok (.iload_n 2, 1) := by decide +kernel
theorem dM_fault_2 : decode M_M_fault.2.1 2 = .ok (.invokestatic 143, 3) := by decide +kernel
theorem dM_fault_5 : decode M_M_fault.2.1 5 = .ok (.ifCond .eq 12, 3) := by decide +kernel
theorem dM_fault_8 : decode M_M_fault.2.1 8 = .ok (.iload_n 3, 1) := by decide +kernel
theorem dM_fault_9 : decode M_M_fault.2.1 9 = .ok (.ifCond .lt 8, 3) := by decide +kernel
theorem dM_fault_12 : decode M_M_fault.2.1 12 = .ok (.iload_n 3, 1) := by decide +kernel
theorem dM_fault_13 : decode M_M_fault.2.1 13 = .ok (.iconst 3, 1) := by decide +kernel
theorem dM_fault_14 : decode M_M_fault.2.1 14 = .ok (.if_icmp .le 5, 3) := by decide +kernel
theorem dM_fault_17 : decode M_M_fault.2.1 17 = .ok (.iconst 0, 1) := by decide +kernel
theorem dM_fault_18 : decode M_M_fault.2.1 18 = .ok (.ireturn, 1) := by decide +kernel
theorem dM_fault_19 : decode M_M_fault.2.1 19 = .ok (.bipush 6, 2) := by decide +kernel
theorem dM_fault_21 : decode M_M_fault.2.1 21 = .ok (.iload_n 1, 1) := by decide +kernel
theorem dM_fault_22 : decode M_M_fault.2.1 22 = .ok (.imul, 1) := by decide +kernel
theorem dM_fault_23 : decode M_M_fault.2.1 23 = .ok (.iload_n 2, 1) := by decide +kernel
theorem dM_fault_24 : decode M_M_fault.2.1 24 = .ok (.iadd, 1) := by decide +kernel
theorem dM_fault_25 : decode M_M_fault.2.1 25 = .ok (.istore 4, 2) := by decide +kernel
theorem dM_fault_27 : decode M_M_fault.2.1 27 = .ok (.aload_n 0, 1) := by decide +kernel
theorem dM_fault_28 : decode M_M_fault.2.1 28 = .ok (.getfield 29, 3) := by decide +kernel
theorem dM_fault_31 : decode M_M_fault.2.1 31 = .ok (.iload 4, 2) := by decide +kernel
theorem dM_fault_33 : decode M_M_fault.2.1 33 = .ok (.iaload, 1) := by decide +kernel
theorem dM_fault_34 : decode M_M_fault.2.1 34 = .ok (.istore 5, 2) := by decide +kernel
theorem dM_fault_36 : decode M_M_fault.2.1 36 = .ok (.iload_n 3, 1) := by decide +kernel
theorem dM_fault_37 : decode M_M_fault.2.1 37 = .ok (.ifCond .ne 16, 3) := by decide +kernel
theorem dM_fault_40 : decode M_M_fault.2.1 40 = .ok (.iload 5, 2) := by decide +kernel
theorem dM_fault_42 : decode M_M_fault.2.1 42 = .ok (.ifCond .ne 7, 3) := by decide +kernel
theorem dM_fault_45 : decode M_M_fault.2.1 45 = .ok (.iconst 1, 1) := by decide +kernel
theorem dM_fault_46 : decode M_M_fault.2.1 46 = .ok (.goto 65, 3) := by decide +kernel
theorem dM_fault_49 : decode M_M_fault.2.1 49 = .ok (.iconst 0, 1) := by decide +kernel
theorem dM_fault_50 : decode M_M_fault.2.1 50 = .ok (.goto 61, 3) := by decide +kernel
theorem dM_fault_53 : decode M_M_fault.2.1 53 = .ok (.iload_n 3, 1) := by decide +kernel
theorem dM_fault_54 : decode M_M_fault.2.1 54 = .ok (.iconst 1, 1) := by decide +kernel
theorem dM_fault_55 : decode M_M_fault.2.1 55 = .ok (.if_icmp .ne 17, 3) := by decide +kernel
theorem dM_fault_58 : decode M_M_fault.2.1 58 = .ok (.iload 5, 2) := by decide +kernel
theorem dM_fault_60 : decode M_M_fault.2.1 60 = .ok (.iconst 1, 1) := by decide +kernel
theorem dM_fault_61 : decode M_M_fault.2.1 61 = .ok (.if_icmp .ne 7, 3) := by decide +kernel
theorem dM_fault_64 : decode M_M_fault.2.1 64 = .ok (.iconst 1, 1) := by decide +kernel
theorem dM_fault_65 : decode M_M_fault.2.1 65 = .ok (.goto 46, 3) := by decide +kernel
theorem dM_fault_68 : decode M_M_fault.2.1 68 = .ok (.iconst 0, 1) := by decide +kernel
theorem dM_fault_69 : decode M_M_fault.2.1 69 = .ok (.goto 42, 3) := by decide +kernel
theorem dM_fault_72 : decode M_M_fault.2.1 72 = .ok (.iload_n 3, 1) := by decide +kernel
theorem dM_fault_73 : decode M_M_fault.2.1 73 = .ok (.iconst 2, 1) := by decide +kernel
theorem dM_fault_74 : decode M_M_fault.2.1 74 = .ok (.if_icmp .ne 17, 3) := by decide +kernel
theorem dM_fault_77 : decode M_M_fault.2.1 77 = .ok (.iload 5, 2) := by decide +kernel
theorem dM_fault_79 : decode M_M_fault.2.1 79 = .ok (.iconst 2, 1) := by decide +kernel
theorem dM_fault_80 : decode M_M_fault.2.1 80 = .ok (.if_icmp .eq 7, 3) := by decide +kernel
theorem dM_fault_83 : decode M_M_fault.2.1 83 = .ok (.iconst 1, 1) := by decide +kernel
theorem dM_fault_84 : decode M_M_fault.2.1 84 = .ok (.goto 27, 3) := by decide +kernel
theorem dM_fault_87 : decode M_M_fault.2.1 87 = .ok (.iconst 0, 1) := by decide +kernel
theorem dM_fault_88 : decode M_M_fault.2.1 88 = .ok (.goto 23, 3) := by decide +kernel
theorem dM_fault_91 : decode M_M_fault.2.1 91 = .ok (.iload 5, 2) := by decide +kernel
theorem dM_fault_93 : decode M_M_fault.2.1 93 = .ok (.iconst 2, 1) := by decide +kernel
theorem dM_fault_94 : decode M_M_fault.2.1 94 = .ok (.if_icmp .ne 16, 3) := by decide +kernel
theorem dM_fault_97 : decode M_M_fault.2.1 97 = .ok (.aload_n 0, 1) := by decide +kernel
theorem dM_fault_98 : decode M_M_fault.2.1 98 = .ok (.iload_n 1, 1) := by decide +kernel
theorem dM_fault_99 : decode M_M_fault.2.1 99 = .ok (.invokevirtual 149, 3) := by decide +kernel
theorem dM_fault_102 : decode M_M_fault.2.1 102 = .ok (.iconst 3, 1) := by decide +kernel
theorem dM_fault_103 : decode M_M_fault.2.1 103 = .ok (.if_icmp .lt 7, 3) := by decide +kernel
theorem dM_fault_106 : decode M_M_fault.2.1 106 = .ok (.iconst 1, 1) := by decide +kernel
theorem dM_fault_107 : decode M_M_fault.2.1 107 = .ok (.goto 4, 3) := by decide +kernel
theorem dM_fault_110 : decode M_M_fault.2.1 110 = .ok (.iconst 0, 1) := by decide +kernel
theorem dM_fault_111 : decode M_M_fault.2.1 111 = .ok (.istore 6, 2) := by decide +kernel
theorem dM_fault_113 : decode M_M_fault.2.1 113 = .ok (.iload 6, 2) := by decide +kernel
theorem dM_fault_115 : decode M_M_fault.2.1 115 = .ok (.ifCond .ne 5, 3) := by decide +kernel
theorem dM_fault_118 : decode M_M_fault.2.1 118 = .ok (.iconst 0, 1) := by decide +kernel
theorem dM_fault_119 : decode M_M_fault.2.1 119 = .ok (.ireturn, 1) := by decide +kernel
theorem dM_fault_120 : decode M_M_fault.2.1 120 = .ok (.iload_n 3, 1) := by decide +kernel
theorem dM_fault_121 : decode M_M_fault.2.1 121 = .ok (.iconst 2, 1) := by decide +kernel
theorem dM_fault_122 : decode M_M_fault.2.1 122 = .ok (.if_icmp .ne 52, 3) := by decide +kernel
theorem dM_fault_125 : decode M_M_fault.2.1 125 = .ok (.iconst 1, 1) := by decide +kernel
theorem dM_fault_126 : decode M_M_fault.2.1 126 = .ok (.istore 7, 2) := by decide +kernel
theorem dM_fault_128 : decode M_M_fault.2.1 128 = .ok (.iload 7, 2) := by decide +kernel
theorem dM_fault_130 : decode M_M_fault.2.1 130 = .ok (.aload_n 0, 1) := by decide +kernel
theorem dM_fault_131 : decode M_M_fault.2.1 131 = .ok (.getfield 54, 3) := by decide +kernel
theorem dM_fault_134 : decode M_M_fault.2.1 134 = .ok (.if_icmp .gt 24, 3) := by decide +kernel
theorem dM_fault_137 : decode M_M_fault.2.1 137 = .ok (.aload_n 0, 1) := by decide +kernel
theorem dM_fault_138 : decode M_M_fault.2.1 138 = .ok (.getfield 26, 3) := by decide +kernel
theorem dM_fault_141 : decode M_M_fault.2.1 141 = .ok (.sipush 200, 3) := by decide +kernel
theorem dM_fault_144 : decode M_M_fault.2.1 144 = .ok (.iload 4, 2) := by decide +kernel
theorem dM_fault_146 : decode M_M_fault.2.1 146 = .ok (.imul, 1) := by decide +kernel
theorem dM_fault_147 : decode M_M_fault.2.1 147 = .ok (.iload 7, 2) := by decide +kernel
theorem dM_fault_149 : decode M_M_fault.2.1 149 = .ok (.iadd, 1) := by decide +kernel
theorem dM_fault_150 : decode M_M_fault.2.1 150 = .ok (.iconst 0, 1) := by decide +kernel
theorem dM_fault_151 : decode M_M_fault.2.1 151 = .ok (.bastore, 1) := by decide +kernel
theorem dM_fault_152 : decode M_M_fault.2.1 152 = .ok (.iinc 7 1, 3) := by decide +kernel
theorem dM_fault_155 : decode M_M_fault.2.1 155 = .ok (.goto (-27), 3) := by decide +kernel
theorem dM_fault_158 : decode M_M_fault.2.1 158 = .ok (.aload_n 0, 1) := by decide +kernel
theorem dM_fault_159 : decode M_M_fault.2.1 159 = .ok (.getfield 32, 3) := by decide +kernel
theorem dM_fault_162 : decode M_M_fault.2.1 162 = .ok (.iload 4, 2) := by decide +kernel
theorem dM_fault_164 : decode M_M_fault.2.1 164 = .ok (.iconst 0, 1) := by decide +kernel
theorem dM_fault_165 : decode M_M_fault.2.1 165 = .ok (.iastore, 1) := by decide +kernel
theorem dM_fault_166 : decode M_M_fault.2.1 166 = .ok (.aload_n 0, 1) := by decide +kernel
theorem dM_fault_167 : decode M_M_fault.2.1 167 = .ok (.getfield 35, 3) := by decide +kernel
theorem dM_fault_170 : decode M_M_fault.2.1 170 = .ok (.iload 4, 2) := by decide +kernel
theorem dM_fault_172 : decode M_M_fault.2.1 172 = .ok (.iconst 0, 1) := by decide +kernel
theorem dM_fault_173 : decode M_M_fault.2.1 173 = .ok (.iastore, 1) := by decide +kernel
theorem dM_fault_174 : decode M_M_fault.2.1 174 = .ok (.iload_n 3, 1) := by decide +kernel
theorem dM_fault_175 : decode M_M_fault.2.1 175 = .ok (.iconst 3, 1) := by decide +kernel
theorem dM_fault_176 : decode M_M_fault.2.1 176 = .ok (.if_icmp .ne 46, 3) := by decide +kernel
theorem dM_fault_179 : decode M_M_fault.2.1 179 = .ok (.bipush 6, 2) := by decide +kernel
theorem dM_fault_181 : decode M_M_fault.2.1 181 = .ok (.iload_n 1, 1) := by decide +kernel
theorem dM_fault_182 : decode M_M_fault.2.1 182 = .ok (.imul, 1) := by decide +kernel
theorem dM_fault_183 : decode M_M_fault.2.1 183 = .ok (.istore 7, 2) := by decide +kernel
theorem dM_fault_185 : decode M_M_fault.2.1 185 = .ok (.iload 7, 2) := by decide +kernel
theorem dM_fault_187 : decode M_M_fault.2.1 187 = .ok (.bipush 6, 2) := by decide +kernel
theorem dM_fault_189 : decode M_M_fault.2.1 189 = .ok (.iload_n 1, 1) := by decide +kernel
theorem dM_fault_190 : decode M_M_fault.2.1 190 = .ok (.imul, 1) := by decide +kernel
theorem dM_fault_191 : decode M_M_fault.2.1 191 = .ok (.bipush 6, 2) := by decide +kernel
theorem dM_fault_193 : decode M_M_fault.2.1 193 = .ok (.iadd, 1) := by decide +kernel
theorem dM_fault_194 : decode M_M_fault.2.1 194 = .ok (.if_icmp .ge 28, 3) := by decide +kernel
theorem dM_fault_197 : decode M_M_fault.2.1 197 = .ok (.aload_n 0, 1) := by decide +kernel
theorem dM_fault_198 : decode M_M_fault.2.1 198 = .ok (.getfield 29, 3) := by decide +kernel
theorem dM_fault_201 : decode M_M_fault.2.1 201 = .ok (.iload 7, 2) := by decide +kernel
theorem dM_fault_203 : decode M_M_fault.2.1 203 = .ok (.iaload, 1) := by decide +kernel
theorem dM_fault_204 : decode M_M_fault.2.1 204 = .ok (.ifCond .ne 12, 3) := by decide +kernel
theorem dM_fault_207 : decode M_M_fault.2.1 207 = .ok (.aload_n 0, 1) := by decide +kernel
theorem dM_fault_208 : decode M_M_fault.2.1 208 = .ok (.iload 7, 2) := by decide +kernel
theorem dM_fault_210 : decode M_M_fault.2.1 210 = .ok (.iload 4, 2) := by decide +kernel
theorem dM_fault_212 : decode M_M_fault.2.1 212 = .ok (.invokevirtual 146, 3) := by decide +kernel
theorem dM_fault_215 : decode M_M_fault.2.1 215 = .ok (.pop, 1) := by decide +kernel
theorem dM_fault_216 : decode M_M_fault.2.1 216 = .ok (.iinc 7 1, 3) := by decide +kernel
theorem dM_fault_219 : decode M_M_fault.2.1 219 = .ok (.goto (-34), 3) := by decide +kernel
theorem dM_fault_222 : decode M_M_fault.2.1 222 = .ok (.aload_n 0, 1) := by decide +kernel
theorem dM_fault_223 : decode M_M_fault.2.1 223 = .ok (.getfield 29, 3) := by decide +kernel
theorem dM_fault_226 : decode M_M_fault.2.1 226 = .ok (.iload 4, 2) := by decide +kernel
theorem dM_fault_228 : decode M_M_fault.2.1 228 = .ok (.iload_n 3, 1) := by decide +kernel
theorem dM_fault_229 : decode M_M_fault.2.1 229 = .ok (.ifCond .ne 7, 3) := by decide +kernel
theorem dM_fault_232 : decode M_M_fault.2.1 232 = .ok (.iconst 1, 1) := by decide +kernel
theorem dM_fault_233 : decode M_M_fault.2.1 233 = .ok (.goto 13, 3) := by decide +kernel
theorem dM_fault_236 : decode M_M_fault.2.1 236 = .ok (.iload_n 3, 1) := by decide +kernel
theorem dM_fault_237 : decode M_M_fault.2.1 237 = .ok (.iconst 2, 1) := by decide +kernel
theorem dM_fault_238 : decode M_M_fault.2.1 238 = .ok (.if_icmp .ne 7, 3) := by decide +kernel
theorem dM_fault_241 : decode M_M_fault.2.1 241 = .ok (.iconst 2, 1) := by decide +kernel
theorem dM_fault_242 : decode M_M_fault.2.1 242 = .ok (.goto 4, 3) := by decide +kernel
theorem dM_fault_245 : decode M_M_fault.2.1 245 = .ok (.iconst 0, 1) := by decide +kernel
theorem dM_fault_246 : decode M_M_fault.2.1 246 = .ok (.iastore, 1) := by decide +kernel
theorem dM_fault_247 : decode M_M_fault.2.1 247 = .ok (.iconst 1, 1) := by decide +kernel
theorem dM_fault_248 : decode M_M_fault.2.1 248 = .ok (.ireturn, 1) := by decide +kernel
theorem dM_crash_0 : decode M_M_crash.2.1 0 = .ok (.aload_n 0, 1) := by decide +kernel
theorem dM_crash_1 : decode M_M_crash.2.1 1 = .ok (.getfield 117, 3) := by decide +kernel
theorem dM_crash_4 : decode M_M_crash.2.1 4 = .ok (.ifCond .eq 5, 3) := by decide +kernel
theorem dM_crash_7 : decode M_M_crash.2.1 7 = .ok (.iconst 0, 1) := by decide +kernel
theorem dM_crash_8 : decode M_M_crash.2.1 8 = .ok (.ireturn, 1) := by decide +kernel
theorem dM_crash_9 : decode M_M_crash.2.1 9 = .ok (.aload_n 0, 1) := by decide +kernel
theorem dM_crash_10 : decode M_M_crash.2.1 10 = .ok (.iconst 1, 1) := by decide +kernel
theorem dM_crash_11 : decode M_M_crash.2.1 11 = .ok (.putfield 117, 3) := by decide +kernel
theorem dM_crash_14 : decode M_M_crash.2.1 14 = .ok (.aload_n 0, 1) := by decide +kernel
theorem dM_crash_15 : decode M_M_crash.2.1 15 = .ok (.iconst 0, 1) := by decide +kernel
theorem dM_crash_16 : decode M_M_crash.2.1 16 = .ok (.putfield 97, 3) := by decide +kernel
theorem dM_crash_19 : decode M_M_crash.2.1 19 = .ok (.iconst 0, 1) := by decide +kernel
theorem dM_crash_20 : decode M_M_crash.2.1 20 = .ok (.istore_n 1, 1) := by decide +kernel
theorem dM_crash_21 : decode M_M_crash.2.1 21 = .ok (.iload_n 1, 1) := by decide +kernel
theorem dM_crash_22 : decode M_M_crash.2.1 22 = .ok (.bipush 12, 2) := by decide +kernel
theorem dM_crash_24 : decode M_M_crash.2.1 24 = .ok (.if_icmp .ge 16, 3) := by decide +kernel
theorem dM_crash_27 : decode M_M_crash.2.1 27 = .ok (.aload_n 0, 1) := by decide +kernel
theorem dM_crash_28 : decode M_M_crash.2.1 28 = .ok (.getfield 35, 3) := by decide +kernel
theorem dM_crash_31 : decode M_M_crash.2.1 31 = .ok (.iload_n 1, 1) := by decide +kernel
theorem dM_crash_32 : decode M_M_crash.2.1 32 = .ok (.iconst 0, 1) := by decide +kernel
theorem dM_crash_33 : decode M_M_crash.2.1 33 = .ok (.iastore, 1) := by decide +kernel
theorem dM_crash_34 : decode M_M_crash.2.1 34 = .ok (.iinc 1 1, 3) := by decide +kernel
theorem dM_crash_37 : decode M_M_crash.2.1 37 = .ok (.goto (-16), 3) := by decide +kernel
theorem dM_crash_40 : decode M_M_crash.2.1 40 = .ok (.iconst 1, 1) := by decide +kernel
theorem dM_crash_41 : decode M_M_crash.2.1 41 = .ok (.ireturn, 1) := by decide +kernel
theorem dM_survives_0 : decode M_M_survives.2.1 0 = .ok (.iconst 0, 1) := by decide +kernel
theorem dM_survives_1 : decode M_M_survives.2.1 1 = .ok (.istore_n 2, 1) := by decide +kernel
theorem dM_survives_2 : decode M_M_survives.2.1 2 = .ok (.aload_n 0, 1) := by decide +kernel
theorem dM_survives_3 : decode M_M_survives.2.1 3 = .ok (.iload_n 1, 1) := by decide +kernel
theorem dM_survives_4 : decode M_M_survives.2.1 4 = .ok (.invokevirtual 74, 3) := by decide +kernel
theorem dM_survives_7 : decode M_M_survives.2.1 7 = .ok (.istore_n 3, 1) := by decide +kernel
theorem dM_survives_8 : decode M_M_survives.2.1 8 = .ok (.bipush 6, 2) := by decide +kernel
theorem dM_survives_10 : decode M_M_survives.2.1 10 = .ok (.iload_n 3, 1) := by decide +kernel
theorem dM_survives_11 : decode M_M_survives.2.1 11 = .ok (.imul, 1) := by decide +kernel
theorem dM_survives_12 : decode M_M_survives.2.1 12 = .ok (.istore 4, 2) := by decide +kernel
theorem dM_survives_14 : decode M_M_survives.2.1 14 = .ok (.iload 4, 2) := by decide +kernel
theorem dM_survives_16 : decode M_M_survives.2.1 16 = .ok (.bipush 6, 2) := by decide +kernel
theorem dM_survives_18 : decode M_M_survives.2.1 18 = .ok (.iload_n 3, 1) := by decide +kernel
theorem dM_survives_19 : decode M_M_survives.2.1 19 = .ok (.imul, 1) := by decide +kernel
theorem dM_survives_20 : decode M_M_survives.2.1 20 = .ok (.bipush 6, 2) := by decide +kernel
theorem dM_survives_22 : decode M_M_survives.2.1 22 = .ok (.iadd, 1) := by decide +kernel
theorem dM_survives_23 : decode M_M_survives.2.1 23 = .ok (.if_icmp .ge 45, 3) := by decide +kernel
theorem dM_survives_26 : decode M_M_survives.2.1 26 = .ok (.iload_n 2, 1) := by decide +kernel
theorem dM_survives_27 : decode M_M_survives.2.1 27 = .ok (.ifCond .ne 29, 3) := by decide +kernel
theorem dM_survives_30 : decode M_M_survives.2.1 30 = .ok (.aload_n 0, 1) := by decide +kernel
theorem dM_survives_31 : decode M_M_survives.2.1 31 = .ok (.getfield 29, 3) := by decide +kernel
theorem dM_survives_34 : decode M_M_survives.2.1 34 = .ok (.iload 4, 2) := by decide +kernel
theorem dM_survives_36 : decode M_M_survives.2.1 36 = .ok (.iaload, 1) := by decide +kernel
theorem dM_survives_37 : decode M_M_survives.2.1 37 = .ok (.ifCond .ne 23, 3) := by decide +kernel
theorem dM_survives_40 : decode M_M_survives.2.1 40 = .ok (.aload_n 0, 1) := by decide +kernel
theorem dM_survives_41 : decode M_M_survives.2.1 41 = .ok (.getfield 26, 3) := by decide +kernel
theorem dM_survives_44 : decode M_M_survives.2.1 44 = .ok (.sipush 200, 3) := by decide +kernel
theorem dM_survives_47 : decode M_M_survives.2.1 47 = .ok (.iload 4, 2) := by decide +kernel
theorem dM_survives_49 : decode M_M_survives.2.1 49 = .ok (.imul, 1) := by decide +kernel
theorem dM_survives_50 : decode M_M_survives.2.1 50 = .ok (.iload_n 1, 1) := by decide +kernel
theorem dM_survives_51 : decode M_M_survives.2.1 51 = .ok (.iadd, 1) := by decide +kernel
theorem dM_survives_52 : decode M_M_survives.2.1 52 = .ok (.baload, 1) := by decide +kernel
theorem dM_survives_53 : decode M_M_survives.2.1 53 = .ok (.ifCond .eq 7, 3) := by decide +kernel
theorem dM_survives_56 : decode M_M_survives.2.1 56 = .ok (.iconst 1, 1) := by decide +kernel
theorem dM_survives_57 : decode M_M_survives.2.1 57 = .ok (.goto 4, 3) := by decide +kernel
theorem dM_survives_60 : decode M_M_survives.2.1 60 = .ok (.iconst 0, 1) := by decide +kernel
theorem dM_survives_61 : decode M_M_survives.2.1 61 = .ok (.istore_n 2, 1) := by decide +kernel
theorem dM_survives_62 : decode M_M_survives.2.1 62 = .ok (.iinc 4 1, 3) := by decide +kernel
theorem dM_survives_65 : decode M_M_survives.2.1 65 = .ok (.goto (-51), 3) := by decide +kernel
theorem dM_survives_68 : decode M_M_survives.2.1 68 = .ok (.iload_n 2, 1) := by decide +kernel
theorem dM_survives_69 : decode M_M_survives.2.1 69 = .ok (.ireturn, 1) := by decide +kernel
theorem dM_recover_0 : decode M_M_recover.2.1 0 = .ok (.aload_n 0, 1) := by decide +kernel
theorem dM_recover_1 : decode M_M_recover.2.1 1 = .ok (.getfield 117, 3) := by decide +kernel
theorem dM_recover_4 : decode M_M_recover.2.1 4 = .ok (.ifCond .ne 5, 3) := by decide +kernel
theorem dM_recover_7 : decode M_M_recover.2.1 7 = .ok (.iconst (-1), 1) := by decide +kernel
theorem dM_recover_8 : decode M_M_recover.2.1 8 = .ok (.ireturn, 1) := by decide +kernel
theorem dM_recover_9 : decode M_M_recover.2.1 9 = .ok (.aload_n 0, 1) := by decide +kernel
theorem dM_recover_10 : decode M_M_recover.2.1 10 = .ok (.iconst 0, 1) := by decide +kernel
theorem dM_recover_11 : decode M_M_recover.2.1 11 = .ok (.invokevirtual 149, 3) := by decide +kernel
theorem dM_recover_14 : decode M_M_recover.2.1 14 = .ok (.iconst 3, 1) := by decide +kernel
theorem dM_recover_15 : decode M_M_recover.2.1 15 = .ok (.if_icmp .lt 12, 3) := by decide +kernel
theorem dM_recover_18 : decode M_M_recover.2.1 18 = .ok (.aload_n 0, 1) := by decide +kernel
theorem dM_recover_19 : decode M_M_recover.2.1 19 = .ok (.iconst 1, 1) := by decide +kernel
theorem dM_recover_20 : decode M_M_recover.2.1 20 = .ok (.invokevirtual 149, 3) := by decide +kernel
theorem dM_recover_23 : decode M_M_recover.2.1 23 = .ok (.iconst 3, 1) := by decide +kernel
theorem dM_recover_24 : decode M_M_recover.2.1 24 = .ok (.if_icmp .ge 6, 3) := by decide +kernel
theorem dM_recover_27 : decode M_M_recover.2.1 27 = .ok (.bipush (-7), 2) := by decide +kernel
theorem dM_recover_29 : decode M_M_recover.2.1 29 = .ok (.ireturn, 1) := by decide +kernel
theorem dM_recover_30 : decode M_M_recover.2.1 30 = .ok (.iconst 0, 1) := by decide +kernel
theorem dM_recover_31 : decode M_M_recover.2.1 31 = .ok (.istore_n 1, 1) := by decide +kernel
theorem dM_recover_32 : decode M_M_recover.2.1 32 = .ok (.iload_n 1, 1) := by decide +kernel
theorem dM_recover_33 : decode M_M_recover.2.1 33 = .ok (.aload_n 0, 1) := by decide +kernel
theorem dM_recover_34 : decode M_M_recover.2.1 34 = .ok (.getfield 54, 3) := by decide +kernel
theorem dM_recover_37 : decode M_M_recover.2.1 37 = .ok (.if_icmp .ge 19, 3) := by decide +kernel
theorem dM_recover_40 : decode M_M_recover.2.1 40 = .ok (.aload_n 0, 1) := by decide +kernel
theorem dM_recover_41 : decode M_M_recover.2.1 41 = .ok (.iload_n 1, 1) := by decide +kernel
theorem dM_recover_42 : decode M_M_recover.2.1 42 = .ok (.iconst 1, 1) := by decide +kernel
theorem dM_recover_43 : decode M_M_recover.2.1 43 = .ok (.iadd, 1) := by decide +kernel
theorem dM_recover_44 : decode M_M_recover.2.1 44 = .ok (.invokevirtual 152, 3) := by decide +kernel
theorem dM_recover_47 : decode M_M_recover.2.1 47 = .ok (.ifCond .eq 9, 3) := by decide +kernel
theorem dM_recover_50 : decode M_M_recover.2.1 50 = .ok (.iinc 1 1, 3) := by decide +kernel
theorem dM_recover_53 : decode M_M_recover.2.1 53 = .ok (.goto (-21), 3) := by decide +kernel
theorem dM_recover_56 : decode M_M_recover.2.1 56 = .ok (.aload_n 0, 1) := by decide +kernel
theorem dM_recover_57 : decode M_M_recover.2.1 57 = .ok (.iload_n 1, 1) := by decide +kernel
theorem dM_recover_58 : decode M_M_recover.2.1 58 = .ok (.invokevirtual 91, 3) := by decide +kernel
theorem dM_recover_61 : decode M_M_recover.2.1 61 = .ok (.istore_n 2, 1) := by decide +kernel
theorem dM_recover_62 : decode M_M_recover.2.1 62 = .ok (.aload_n 0, 1) := by decide +kernel
theorem dM_recover_63 : decode M_M_recover.2.1 63 = .ok (.iload_n 2, 1) := by decide +kernel
theorem dM_recover_64 : decode M_M_recover.2.1 64 = .ok (.putfield 54, 3) := by decide +kernel
theorem dM_recover_67 : decode M_M_recover.2.1 67 = .ok (.aload_n 0, 1) := by decide +kernel
theorem dM_recover_68 : decode M_M_recover.2.1 68 = .ok (.iconst 0, 1) := by decide +kernel
theorem dM_recover_69 : decode M_M_recover.2.1 69 = .ok (.putfield 117, 3) := by decide +kernel
theorem dM_recover_72 : decode M_M_recover.2.1 72 = .ok (.iconst 0, 1) := by decide +kernel
theorem dM_recover_73 : decode M_M_recover.2.1 73 = .ok (.istore_n 3, 1) := by decide +kernel
theorem dM_recover_74 : decode M_M_recover.2.1 74 = .ok (.iload_n 3, 1) := by decide +kernel
theorem dM_recover_75 : decode M_M_recover.2.1 75 = .ok (.bipush 12, 2) := by decide +kernel
theorem dM_recover_77 : decode M_M_recover.2.1 77 = .ok (.if_icmp .ge 38, 3) := by decide +kernel
theorem dM_recover_80 : decode M_M_recover.2.1 80 = .ok (.aload_n 0, 1) := by decide +kernel
theorem dM_recover_81 : decode M_M_recover.2.1 81 = .ok (.getfield 35, 3) := by decide +kernel
theorem dM_recover_84 : decode M_M_recover.2.1 84 = .ok (.iload_n 3, 1) := by decide +kernel
theorem dM_recover_85 : decode M_M_recover.2.1 85 = .ok (.aload_n 0, 1) := by decide +kernel
theorem dM_recover_86 : decode M_M_recover.2.1 86 = .ok (.getfield 29, 3) := by decide +kernel
theorem dM_recover_89 : decode M_M_recover.2.1 89 = .ok (.iload_n 3, 1) := by decide +kernel
theorem dM_recover_90 : decode M_M_recover.2.1 90 = .ok (.iaload, 1) := by decide +kernel
theorem dM_recover_91 : decode M_M_recover.2.1 91 = .ok (.ifCond .ne 11, 3) := by decide +kernel
theorem dM_recover_94 : decode M_M_recover.2.1 94 = .ok (.aload_n 0, 1) := by decide +kernel
theorem dM_recover_95 : decode M_M_recover.2.1 95 = .ok (.iload_n 3, 1) := by decide +kernel
theorem dM_recover_96 : decode M_M_recover.2.1 96 = .ok (.invokevirtual 81, 3) := by decide +kernel
theorem dM_recover_99 : decode M_M_recover.2.1 99 = .ok (.goto 9, 3) := by decide +kernel
theorem dM_recover_102 : decode M_M_recover.2.1 102 = .ok (.aload_n 0, 1) := by decide +kernel
theorem dM_recover_103 : decode M_M_recover.2.1 103 = .ok (.getfield 35, 3) := by decide +kernel
theorem dM_recover_106 : decode M_M_recover.2.1 106 = .ok (.iload_n 3, 1) := by decide +kernel
theorem dM_recover_107 : decode M_M_recover.2.1 107 = .ok (.iaload, 1) := by decide +kernel
theorem dM_recover_108 : decode M_M_recover.2.1 108 = .ok (.iastore, 1) := by decide +kernel
theorem dM_recover_109 : decode M_M_recover.2.1 109 = .ok (.iinc 3 1, 3) := by decide +kernel
theorem dM_recover_112 : decode M_M_recover.2.1 112 = .ok (.goto (-38), 3) := by decide +kernel
theorem dM_recover_115 : decode M_M_recover.2.1 115 = .ok (.aload_n 0, 1) := by decide +kernel
theorem dM_recover_116 : decode M_M_recover.2.1 116 = .ok (.invokevirtual 84, 3) := by decide +kernel
theorem dM_recover_119 : decode M_M_recover.2.1 119 = .ok (.iconst 0, 1) := by decide +kernel
theorem dM_recover_120 : decode M_M_recover.2.1 120 = .ok (.istore_n 3, 1) := by decide +kernel
theorem dM_recover_121 : decode M_M_recover.2.1 121 = .ok (.iload_n 3, 1) := by decide +kernel
theorem dM_recover_122 : decode M_M_recover.2.1 122 = .ok (.bipush 32, 2) := by decide +kernel
theorem dM_recover_124 : decode M_M_recover.2.1 124 = .ok (.if_icmp .ge 16, 3) := by decide +kernel
theorem dM_recover_127 : decode M_M_recover.2.1 127 = .ok (.aload_n 0, 1) := by decide +kernel
theorem dM_recover_128 : decode M_M_recover.2.1 128 = .ok (.getfield 41, 3) := by decide +kernel
theorem dM_recover_131 : decode M_M_recover.2.1 131 = .ok (.iload_n 3, 1) := by decide +kernel
theorem dM_recover_132 : decode M_M_recover.2.1 132 = .ok (.iconst 0, 1) := by decide +kernel
theorem dM_recover_133 : decode M_M_recover.2.1 133 = .ok (.iastore, 1) := by decide +kernel
theorem dM_recover_134 : decode M_M_recover.2.1 134 = .ok (.iinc 3 1, 3) := by decide +kernel
theorem dM_recover_137 : decode M_M_recover.2.1 137 = .ok (.goto (-16), 3) := by decide +kernel
theorem dM_recover_140 : decode M_M_recover.2.1 140 = .ok (.iconst 1, 1) := by decide +kernel
theorem dM_recover_141 : decode M_M_recover.2.1 141 = .ok (.istore_n 3, 1) := by decide +kernel
theorem dM_recover_142 : decode M_M_recover.2.1 142 = .ok (.iload_n 3, 1) := by decide +kernel
theorem dM_recover_143 : decode M_M_recover.2.1 143 = .ok (.aload_n 0, 1) := by decide +kernel
theorem dM_recover_144 : decode M_M_recover.2.1 144 = .ok (.getfield 50, 3) := by decide +kernel
theorem dM_recover_147 : decode M_M_recover.2.1 147 = .ok (.if_icmp .gt 16, 3) := by decide +kernel
theorem dM_recover_150 : decode M_M_recover.2.1 150 = .ok (.aload_n 0, 1) := by decide +kernel
theorem dM_recover_151 : decode M_M_recover.2.1 151 = .ok (.getfield 38, 3) := by decide +kernel
theorem dM_recover_154 : decode M_M_recover.2.1 154 = .ok (.iload_n 3, 1) := by decide +kernel
theorem dM_recover_155 : decode M_M_recover.2.1 155 = .ok (.iconst 0, 1) := by decide +kernel
theorem dM_recover_156 : decode M_M_recover.2.1 156 = .ok (.bastore, 1) := by decide +kernel
theorem dM_recover_157 : decode M_M_recover.2.1 157 = .ok (.iinc 3 1, 3) := by decide +kernel
theorem dM_recover_160 : decode M_M_recover.2.1 160 = .ok (.goto (-18), 3) := by decide +kernel
theorem dM_recover_163 : decode M_M_recover.2.1 163 = .ok (.iconst 1, 1) := by decide +kernel
theorem dM_recover_164 : decode M_M_recover.2.1 164 = .ok (.istore_n 3, 1) := by decide +kernel
theorem dM_recover_165 : decode M_M_recover.2.1 165 = .ok (.iload_n 3, 1) := by decide +kernel
theorem dM_recover_166 : decode M_M_recover.2.1 166 = .ok (.aload_n 0, 1) := by decide +kernel
theorem dM_recover_167 : decode M_M_recover.2.1 167 = .ok (.getfield 50, 3) := by decide +kernel
theorem dM_recover_170 : decode M_M_recover.2.1 170 = .ok (.if_icmp .gt 80, 3) := by decide +kernel
theorem dM_recover_173 : decode M_M_recover.2.1 173 = .ok (.iconst 0, 1) := by decide +kernel
theorem dM_recover_174 : decode M_M_recover.2.1 174 = .ok (.istore 4, 2) := by decide +kernel
theorem dM_recover_176 : decode M_M_recover.2.1 176 = .ok (.iconst 1, 1) := by decide +kernel
theorem dM_recover_177 : decode M_M_recover.2.1 177 = .ok (.istore 5, 2) := by decide +kernel
theorem dM_recover_179 : decode M_M_recover.2.1 179 = .ok (.iload 5, 2) := by decide +kernel
theorem dM_recover_181 : decode M_M_recover.2.1 181 = .ok (.iload_n 2, 1) := by decide +kernel
theorem dM_recover_182 : decode M_M_recover.2.1 182 = .ok (.if_icmp .gt 42, 3) := by decide +kernel
theorem dM_recover_185 : decode M_M_recover.2.1 185 = .ok (.iload 4, 2) := by decide +kernel
theorem dM_recover_187 : decode M_M_recover.2.1 187 = .ok (.ifCond .ne 24, 3) := by decide +kernel
theorem dM_recover_190 : decode M_M_recover.2.1 190 = .ok (.aload_n 0, 1) := by decide +kernel
theorem dM_recover_191 : decode M_M_recover.2.1 191 = .ok (.getfield 7, 3) := by decide +kernel
theorem dM_recover_194 : decode M_M_recover.2.1 194 = .ok (.iload 5, 2) := by decide +kernel
theorem dM_recover_196 : decode M_M_recover.2.1 196 = .ok (.iaload, 1) := by decide +kernel
theorem dM_recover_197 : decode M_M_recover.2.1 197 = .ok (.iload_n 3, 1) := by decide +kernel
theorem dM_recover_198 : decode M_M_recover.2.1 198 = .ok (.if_icmp .ne 17, 3) := by decide +kernel
theorem dM_recover_201 : decode M_M_recover.2.1 201 = .ok (.aload_n 0, 1) := by decide +kernel
theorem dM_recover_202 : decode M_M_recover.2.1 202 = .ok (.getfield 19, 3) := by decide +kernel
theorem dM_recover_205 : decode M_M_recover.2.1 205 = .ok (.iload 5, 2) := by decide +kernel
theorem dM_recover_207 : decode M_M_recover.2.1 207 = .ok (.iaload, 1) := by decide +kernel
theorem dM_recover_208 : decode M_M_recover.2.1 208 = .ok (.ifCond .ne 7, 3) := by decide +kernel
theorem dM_recover_211 : decode M_M_recover.2.1 211 = .ok (.iconst 1, 1) := by decide +kernel
theorem dM_recover_212 : decode M_M_recover.2.1 212 = .ok (.goto 4, 3) := by decide +kernel
theorem dM_recover_215 : decode M_M_recover.2.1 215 = .ok (.iconst 0, 1) := by decide +kernel
theorem dM_recover_216 : decode M_M_recover.2.1 216 = .ok (.istore 4, 2) := by decide +kernel
theorem dM_recover_218 : decode M_M_recover.2.1 218 = .ok (.iinc 5 1, 3) := by decide +kernel
theorem dM_recover_221 : decode M_M_recover.2.1 221 = .ok (.goto (-42), 3) := by decide +kernel
theorem dM_recover_224 : decode M_M_recover.2.1 224 = .ok (.iload 4, 2) := by decide +kernel
theorem dM_recover_226 : decode M_M_recover.2.1 226 = .ok (.ifCond .eq 18, 3) := by decide +kernel
theorem dM_recover_229 : decode M_M_recover.2.1 229 = .ok (.aload_n 0, 1) := by decide +kernel
theorem dM_recover_230 : decode M_M_recover.2.1 230 = .ok (.iload_n 3, 1) := by decide +kernel
theorem dM_recover_231 : decode M_M_recover.2.1 231 = .ok (.iload_n 2, 1) := by decide +kernel
theorem dM_recover_232 : decode M_M_recover.2.1 232 = .ok (.invokevirtual 137, 3) := by decide +kernel
theorem dM_recover_235 : decode M_M_recover.2.1 235 = .ok (.ifCond .ne 9, 3) := by decide +kernel
theorem dM_recover_238 : decode M_M_recover.2.1 238 = .ok (.aload_n 0, 1) := by decide +kernel
theorem dM_recover_239 : decode M_M_recover.2.1 239 = .ok (.iload_n 3, 1) := by decide +kernel
theorem dM_recover_240 : decode M_M_recover.2.1 240 = .ok (.invokevirtual 134, 3) := by decide +kernel
theorem dM_recover_243 : decode M_M_recover.2.1 243 = .ok (.pop, 1) := by decide +kernel
theorem dM_recover_244 : decode M_M_recover.2.1 244 = .ok (.iinc 3 1, 3) := by decide +kernel
theorem dM_recover_247 : decode M_M_recover.2.1 247 = .ok (.goto (-82), 3) := by decide +kernel
theorem dM_recover_250 : decode M_M_recover.2.1 250 = .ok (.iload_n 2, 1) := by decide +kernel
theorem dM_recover_251 : decode M_M_recover.2.1 251 = .ok (.ireturn, 1) := by decide +kernel
theorem dM_point_0 : decode M_M_point.2.1 0 = .ok (.iload_n 1, 1) := by decide +kernel
theorem dM_point_1 : decode M_M_point.2.1 1 = .ok (.iconst 1, 1) := by decide +kernel
theorem dM_point_2 : decode M_M_point.2.1 2 = .ok (.if_icmp .ne 13, 3) := by decide +kernel
theorem dM_point_5 : decode M_M_point.2.1 5 = .ok (.aload_n 0, 1) := by decide +kernel
theorem dM_point_6 : decode M_M_point.2.1 6 = .ok (.getfield 117, 3) := by decide +kernel
theorem dM_point_9 : decode M_M_point.2.1 9 = .ok (.ifCond .eq 6, 3) := by decide +kernel
theorem dM_point_12 : decode M_M_point.2.1 12 = .ok (.bipush (-2), 2) := by decide +kernel
theorem dM_point_14 : decode M_M_point.2.1 14 = .ok (.ireturn, 1) := by decide +kernel
theorem dM_point_15 : decode M_M_point.2.1 15 = .ok (.iload_n 1, 1) := by decide +kernel
theorem dM_point_16 : decode M_M_point.2.1 16 = .ok (.ifCond .ne 10, 3) := by decide +kernel
theorem dM_point_19 : decode M_M_point.2.1 19 = .ok (.aload_n 0, 1) := by decide +kernel
theorem dM_point_20 : decode M_M_point.2.1 20 = .ok (.getfield 54, 3) := by decide +kernel
theorem dM_point_23 : decode M_M_point.2.1 23 = .ok (.goto 28, 3) := by decide +kernel
theorem dM_point_26 : decode M_M_point.2.1 26 = .ok (.iload_n 1, 1) := by decide +kernel
theorem dM_point_27 : decode M_M_point.2.1 27 = .ok (.iconst 1, 1) := by decide +kernel
theorem dM_point_28 : decode M_M_point.2.1 28 = .ok (.if_icmp .ne 10, 3) := by decide +kernel
theorem dM_point_31 : decode M_M_point.2.1 31 = .ok (.aload_n 0, 1) := by decide +kernel
theorem dM_point_32 : decode M_M_point.2.1 32 = .ok (.invokevirtual 87, 3) := by decide +kernel
theorem dM_point_35 : decode M_M_point.2.1 35 = .ok (.goto 16, 3) := by decide +kernel
theorem dM_point_38 : decode M_M_point.2.1 38 = .ok (.iload_n 1, 1) := by decide +kernel
theorem dM_point_39 : decode M_M_point.2.1 39 = .ok (.iconst 2, 1) := by decide +kernel
theorem dM_point_40 : decode M_M_point.2.1 40 = .ok (.if_icmp .ne 10, 3) := by decide +kernel
theorem dM_point_43 : decode M_M_point.2.1 43 = .ok (.aload_n 0, 1) := by decide +kernel
theorem dM_point_44 : decode M_M_point.2.1 44 = .ok (.getfield 94, 3) := by decide +kernel
theorem dM_point_47 : decode M_M_point.2.1 47 = .ok (.goto 4, 3) := by decide +kernel
theorem dM_point_50 : decode M_M_point.2.1 50 = .ok (.iconst (-1), 1) := by decide +kernel
theorem dM_point_51 : decode M_M_point.2.1 51 = .ok (.ireturn, 1) := by decide +kernel
theorem dM_copy_0 : decode M_M_copy.2.1 0 = .ok (.iload_n 1, 1) := by decide +kernel
theorem dM_copy_1 : decode M_M_copy.2.1 1 = .ok (.iload_n 2, 1) := by decide +kernel
theorem dM_copy_2 : decode M_M_copy.2.1 2 = .ok (.invokestatic 143, 3) := by decide +kernel
theorem dM_copy_5 : decode M_M_copy.2.1 5 = .ok (.ifCond .eq 30, 3) := by decide +kernel
theorem dM_copy_8 : decode M_M_copy.2.1 8 = .ok (.iload_n 3, 1) := by decide +kernel
theorem dM_copy_9 : decode M_M_copy.2.1 9 = .ok (.ifCond .lt 26, 3) := by decide +kernel
theorem dM_copy_12 : decode M_M_copy.2.1 12 = .ok (.iload_n 3, 1) := by decide +kernel
theorem dM_copy_13 : decode M_M_copy.2.1 13 = .ok (.iconst 2, 1) := by decide +kernel
theorem dM_copy_14 : decode M_M_copy.2.1 14 = .ok (.if_icmp .gt 21, 3) := by decide +kernel
theorem dM_copy_17 : decode M_M_copy.2.1 17 = .ok (.iload_n 3, 1) := by decide +kernel
theorem dM_copy_18 : decode M_M_copy.2.1 18 = .ok (.ifCond .eq 19, 3) := by decide +kernel
theorem dM_copy_21 : decode M_M_copy.2.1 21 = .ok (.aload_n 0, 1) := by decide +kernel
theorem dM_copy_22 : decode M_M_copy.2.1 22 = .ok (.getfield 29, 3) := by decide +kernel
theorem dM_copy_25 : decode M_M_copy.2.1 25 = .ok (.bipush 6, 2) := by decide +kernel
theorem dM_copy_27 : decode M_M_copy.2.1 27 = .ok (.iload_n 1, 1) := by decide +kernel
theorem dM_copy_28 : decode M_M_copy.2.1 28 = .ok (.imul, 1) := by decide +kernel
theorem dM_copy_29 : decode M_M_copy.2.1 29 = .ok (.iload_n 2, 1) := by decide +kernel
theorem dM_copy_30 : decode M_M_copy.2.1 30 = .ok (.iadd, 1) := by decide +kernel
theorem dM_copy_31 : decode M_M_copy.2.1 31 = .ok (.iaload, 1) := by decide +kernel
theorem dM_copy_32 : decode M_M_copy.2.1 32 = .ok (.ifCond .eq 5, 3) := by decide +kernel
theorem dM_copy_35 : decode M_M_copy.2.1 35 = .ok (.iconst (-1), 1) := by decide +kernel
theorem dM_copy_36 : decode M_M_copy.2.1 36 = .ok (.ireturn, 1) := by decide +kernel
theorem dM_copy_37 : decode M_M_copy.2.1 37 = .ok (.bipush 6, 2) := by decide +kernel
theorem dM_copy_39 : decode M_M_copy.2.1 39 = .ok (.iload_n 1, 1) := by decide +kernel
theorem dM_copy_40 : decode M_M_copy.2.1 40 = .ok (.imul, 1) := by decide +kernel
theorem dM_copy_41 : decode M_M_copy.2.1 41 = .ok (.iload_n 2, 1) := by decide +kernel
theorem dM_copy_42 : decode M_M_copy.2.1 42 = .ok (.iadd, 1) := by decide +kernel
theorem dM_copy_43 : decode M_M_copy.2.1 43 = .ok (.istore 4, 2) := by decide +kernel
theorem dM_copy_45 : decode M_M_copy.2.1 45 = .ok (.iconst 0, 1) := by decide +kernel
theorem dM_copy_46 : decode M_M_copy.2.1 46 = .ok (.istore 5, 2) := by decide +kernel
theorem dM_copy_48 : decode M_M_copy.2.1 48 = .ok (.iconst 1, 1) := by decide +kernel
theorem dM_copy_49 : decode M_M_copy.2.1 49 = .ok (.istore 6, 2) := by decide +kernel
theorem dM_copy_51 : decode M_M_copy.2.1 51 = .ok (.iload 6, 2) := by decide +kernel
theorem dM_copy_53 : decode M_M_copy.2.1 53 = .ok (.aload_n 0, 1) := by decide +kernel
theorem dM_copy_54 : decode M_M_copy.2.1 54 = .ok (.getfield 54, 3) := by decide +kernel
theorem dM_copy_57 : decode M_M_copy.2.1 57 = .ok (.if_icmp .gt 48, 3) := by decide +kernel
theorem dM_copy_60 : decode M_M_copy.2.1 60 = .ok (.iload 5, 2) := by decide +kernel
theorem dM_copy_62 : decode M_M_copy.2.1 62 = .ok (.aload_n 0, 1) := by decide +kernel
theorem dM_copy_63 : decode M_M_copy.2.1 63 = .ok (.getfield 26, 3) := by decide +kernel
theorem dM_copy_66 : decode M_M_copy.2.1 66 = .ok (.sipush 200, 3) := by decide +kernel
theorem dM_copy_69 : decode M_M_copy.2.1 69 = .ok (.iload 4, 2) := by decide +kernel
theorem dM_copy_71 : decode M_M_copy.2.1 71 = .ok (.imul, 1) := by decide +kernel
theorem dM_copy_72 : decode M_M_copy.2.1 72 = .ok (.iload 6, 2) := by decide +kernel
theorem dM_copy_74 : decode M_M_copy.2.1 74 = .ok (.iadd, 1) := by decide +kernel
theorem dM_copy_75 : decode M_M_copy.2.1 75 = .ok (.baload, 1) := by decide +kernel
theorem dM_copy_76 : decode M_M_copy.2.1 76 = .ok (.ifCond .eq 19, 3) := by decide +kernel
theorem dM_copy_79 : decode M_M_copy.2.1 79 = .ok (.iload 6, 2) := by decide +kernel
theorem dM_copy_81 : decode M_M_copy.2.1 81 = .ok (.aload_n 0, 1) := by decide +kernel
theorem dM_copy_82 : decode M_M_copy.2.1 82 = .ok (.getfield 32, 3) := by decide +kernel
theorem dM_copy_85 : decode M_M_copy.2.1 85 = .ok (.iload 4, 2) := by decide +kernel
theorem dM_copy_87 : decode M_M_copy.2.1 87 = .ok (.iaload, 1) := by decide +kernel
theorem dM_copy_88 : decode M_M_copy.2.1 88 = .ok (.if_icmp .le 7, 3) := by decide +kernel
theorem dM_copy_91 : decode M_M_copy.2.1 91 = .ok (.iconst 1, 1) := by decide +kernel
theorem dM_copy_92 : decode M_M_copy.2.1 92 = .ok (.goto 4, 3) := by decide +kernel
theorem dM_copy_95 : decode M_M_copy.2.1 95 = .ok (.iconst 0, 1) := by decide +kernel
theorem dM_copy_96 : decode M_M_copy.2.1 96 = .ok (.iadd, 1) := by decide +kernel
theorem dM_copy_97 : decode M_M_copy.2.1 97 = .ok (.istore 5, 2) := by decide +kernel
theorem dM_copy_99 : decode M_M_copy.2.1 99 = .ok (.iinc 6 1, 3) := by decide +kernel
theorem dM_copy_102 : decode M_M_copy.2.1 102 = .ok (.goto (-51), 3) := by decide +kernel
theorem dM_copy_105 : decode M_M_copy.2.1 105 = .ok (.iload_n 3, 1) := by decide +kernel
theorem dM_copy_106 : decode M_M_copy.2.1 106 = .ok (.ifCond .ne 13, 3) := by decide +kernel
theorem dM_copy_109 : decode M_M_copy.2.1 109 = .ok (.aload_n 0, 1) := by decide +kernel
theorem dM_copy_110 : decode M_M_copy.2.1 110 = .ok (.getfield 29, 3) := by decide +kernel
theorem dM_copy_113 : decode M_M_copy.2.1 113 = .ok (.iload 4, 2) := by decide +kernel
theorem dM_copy_115 : decode M_M_copy.2.1 115 = .ok (.iaload, 1) := by decide +kernel
theorem dM_copy_116 : decode M_M_copy.2.1 116 = .ok (.goto 19, 3) := by decide +kernel
theorem dM_copy_119 : decode M_M_copy.2.1 119 = .ok (.iload_n 3, 1) := by decide +kernel
theorem dM_copy_120 : decode M_M_copy.2.1 120 = .ok (.iconst 1, 1) := by decide +kernel
theorem dM_copy_121 : decode M_M_copy.2.1 121 = .ok (.if_icmp .ne 12, 3) := by decide +kernel
theorem dM_copy_124 : decode M_M_copy.2.1 124 = .ok (.aload_n 0, 1) := by decide +kernel
theorem dM_copy_125 : decode M_M_copy.2.1 125 = .ok (.iload 4, 2) := by decide +kernel
theorem dM_copy_127 : decode M_M_copy.2.1 127 = .ok (.invokevirtual 81, 3) := by decide +kernel
theorem dM_copy_130 : decode M_M_copy.2.1 130 = .ok (.goto 5, 3) := by decide +kernel
theorem dM_copy_133 : decode M_M_copy.2.1 133 = .ok (.iload 5, 2) := by decide +kernel
theorem dM_copy_135 : decode M_M_copy.2.1 135 = .ok (.ireturn, 1) := by decide +kernel
theorem dM_follow_0 : decode M_M_follow.2.1 0 = .ok (.iload_n 1, 1) := by decide +kernel
theorem dM_follow_1 : decode M_M_follow.2.1 1 = .ok (.ifCond .eq 10, 3) := by decide +kernel
theorem dM_follow_4 : decode M_M_follow.2.1 4 = .ok (.iload_n 1, 1) := by decide +kernel
theorem dM_follow_5 : decode M_M_follow.2.1 5 = .ok (.iconst 1, 1) := by decide +kernel
theorem dM_follow_6 : decode M_M_follow.2.1 6 = .ok (.if_icmp .eq 5, 3) := by decide +kernel
theorem dM_follow_9 : decode M_M_follow.2.1 9 = .ok (.iconst (-1), 1) := by decide +kernel
theorem dM_follow_10 : decode M_M_follow.2.1 10 = .ok (.ireturn, 1) := by decide +kernel
theorem dM_follow_11 : decode M_M_follow.2.1 11 = .ok (.aload_n 0, 1) := by decide +kernel
theorem dM_follow_12 : decode M_M_follow.2.1 12 = .ok (.getfield 117, 3) := by decide +kernel
theorem dM_follow_15 : decode M_M_follow.2.1 15 = .ok (.ifCond .eq 6, 3) := by decide +kernel
theorem dM_follow_18 : decode M_M_follow.2.1 18 = .ok (.bipush (-2), 2) := by decide +kernel
theorem dM_follow_20 : decode M_M_follow.2.1 20 = .ok (.ireturn, 1) := by decide +kernel
theorem dM_follow_21 : decode M_M_follow.2.1 21 = .ok (.aload_n 0, 1) := by decide +kernel
theorem dM_follow_22 : decode M_M_follow.2.1 22 = .ok (.getfield 47, 3) := by decide +kernel
theorem dM_follow_25 : decode M_M_follow.2.1 25 = .ok (.iload_n 1, 1) := by decide +kernel
theorem dM_follow_26 : decode M_M_follow.2.1 26 = .ok (.aload_n 0, 1) := by decide +kernel
theorem dM_follow_27 : decode M_M_follow.2.1 27 = .ok (.getfield 94, 3) := by decide +kernel
theorem dM_follow_30 : decode M_M_follow.2.1 30 = .ok (.iastore, 1) := by decide +kernel
theorem dM_follow_31 : decode M_M_follow.2.1 31 = .ok (.aload_n 0, 1) := by decide +kernel
theorem dM_follow_32 : decode M_M_follow.2.1 32 = .ok (.getfield 94, 3) := by decide +kernel
theorem dM_follow_35 : decode M_M_follow.2.1 35 = .ok (.ireturn, 1) := by decide +kernel
theorem dM_view_0 : decode M_M_view.2.1 0 = .ok (.iload_n 1, 1) := by decide +kernel
theorem dM_view_1 : decode M_M_view.2.1 1 = .ok (.ifCond .eq 8, 3) := by decide +kernel
theorem dM_view_4 : decode M_M_view.2.1 4 = .ok (.iload_n 1, 1) := by decide +kernel
theorem dM_view_5 : decode M_M_view.2.1 5 = .ok (.iconst 1, 1) := by decide +kernel
theorem dM_view_6 : decode M_M_view.2.1 6 = .ok (.if_icmp .ne 10, 3) := by decide +kernel
theorem dM_view_9 : decode M_M_view.2.1 9 = .ok (.iload_n 2, 1) := by decide +kernel
theorem dM_view_10 : decode M_M_view.2.1 10 = .ok (.invokestatic 121, 3) := by decide +kernel
theorem dM_view_13 : decode M_M_view.2.1 13 = .ok (.ifCond .ne 5, 3) := by decide +kernel
theorem dM_view_16 : decode M_M_view.2.1 16 = .ok (.iconst (-1), 1) := by decide +kernel
theorem dM_view_17 : decode M_M_view.2.1 17 = .ok (.ireturn, 1) := by decide +kernel
theorem dM_view_18 : decode M_M_view.2.1 18 = .ok (.aload_n 0, 1) := by decide +kernel
theorem dM_view_19 : decode M_M_view.2.1 19 = .ok (.iload_n 2, 1) := by decide +kernel
theorem dM_view_20 : decode M_M_view.2.1 20 = .ok (.iconst 4, 1) := by decide +kernel
theorem dM_view_21 : decode M_M_view.2.1 21 = .ok (.idiv, 1) := by decide +kernel
theorem dM_view_22 : decode M_M_view.2.1 22 = .ok (.iconst 2, 1) := by decide +kernel
theorem dM_view_23 : decode M_M_view.2.1 23 = .ok (.irem, 1) := by decide +kernel
theorem dM_view_24 : decode M_M_view.2.1 24 = .ok (.aload_n 0, 1) := by decide +kernel
theorem dM_view_25 : decode M_M_view.2.1 25 = .ok (.getfield 47, 3) := by decide +kernel
theorem dM_view_28 : decode M_M_view.2.1 28 = .ok (.iload_n 1, 1) := by decide +kernel
theorem dM_view_29 : decode M_M_view.2.1 29 = .ok (.iaload, 1) := by decide +kernel
theorem dM_view_30 : decode M_M_view.2.1 30 = .ok (.invokevirtual 109, 3) := by decide +kernel
theorem dM_view_33 : decode M_M_view.2.1 33 = .ok (.ifCond .ne 6, 3) := by decide +kernel
theorem dM_view_36 : decode M_M_view.2.1 36 = .ok (.bipush (-7), 2) := by decide +kernel
theorem dM_view_38 : decode M_M_view.2.1 38 = .ok (.ireturn, 1) := by decide +kernel
theorem dM_view_39 : decode M_M_view.2.1 39 = .ok (.iconst 0, 1) := by decide +kernel
theorem dM_view_40 : decode M_M_view.2.1 40 = .ok (.istore_n 3, 1) := by decide +kernel
theorem dM_view_41 : decode M_M_view.2.1 41 = .ok (.iconst 1, 1) := by decide +kernel
theorem dM_view_42 : decode M_M_view.2.1 42 = .ok (.istore 4, 2) := by decide +kernel
theorem dM_view_44 : decode M_M_view.2.1 44 = .ok (.iload 4, 2) := by decide +kernel
theorem dM_view_46 : decode M_M_view.2.1 46 = .ok (.aload_n 0, 1) := by decide +kernel
theorem dM_view_47 : decode M_M_view.2.1 47 = .ok (.getfield 47, 3) := by decide +kernel
theorem dM_view_50 : decode M_M_view.2.1 50 = .ok (.iload_n 1, 1) := by decide +kernel
theorem dM_view_51 : decode M_M_view.2.1 51 = .ok (.iaload, 1) := by decide +kernel
theorem dM_view_52 : decode M_M_view.2.1 52 = .ok (.if_icmp .gt 83, 3) := by decide +kernel
theorem dM_view_55 : decode M_M_view.2.1 55 = .ok (.iload 4, 2) := by decide +kernel
theorem dM_view_57 : decode M_M_view.2.1 57 = .ok (.aload_n 0, 1) := by decide +kernel
theorem dM_view_58 : decode M_M_view.2.1 58 = .ok (.getfield 54, 3) := by decide +kernel
theorem dM_view_61 : decode M_M_view.2.1 61 = .ok (.if_icmp .gt 74, 3) := by decide +kernel
theorem dM_view_64 : decode M_M_view.2.1 64 = .ok (.aload_n 0, 1) := by decide +kernel
theorem dM_view_65 : decode M_M_view.2.1 65 = .ok (.getfield 19, 3) := by decide +kernel
theorem dM_view_68 : decode M_M_view.2.1 68 = .ok (.iload 4, 2) := by decide +kernel
theorem dM_view_70 : decode M_M_view.2.1 70 = .ok (.iaload, 1) := by decide +kernel
theorem dM_view_71 : decode M_M_view.2.1 71 = .ok (.ifCond .ne 38, 3) := by decide +kernel
theorem dM_view_74 : decode M_M_view.2.1 74 = .ok (.aload_n 0, 1) := by decide +kernel
theorem dM_view_75 : decode M_M_view.2.1 75 = .ok (.getfield 13, 3) := by decide +kernel
theorem dM_view_78 : decode M_M_view.2.1 78 = .ok (.iload 4, 2) := by decide +kernel
theorem dM_view_80 : decode M_M_view.2.1 80 = .ok (.iaload, 1) := by decide +kernel
theorem dM_view_81 : decode M_M_view.2.1 81 = .ok (.iload_n 2, 1) := by decide +kernel
theorem dM_view_82 : decode M_M_view.2.1 82 = .ok (.if_icmp .ne 27, 3) := by decide +kernel
theorem dM_view_85 : decode M_M_view.2.1 85 = .ok (.aload_n 0, 1) := by decide +kernel
theorem dM_view_86 : decode M_M_view.2.1 86 = .ok (.aload_n 0, 1) := by decide +kernel
theorem dM_view_87 : decode M_M_view.2.1 87 = .ok (.getfield 7, 3) := by decide +kernel
theorem dM_view_90 : decode M_M_view.2.1 90 = .ok (.iload 4, 2) := by decide +kernel
theorem dM_view_92 : decode M_M_view.2.1 92 = .ok (.iaload, 1) := by decide +kernel
theorem dM_view_93 : decode M_M_view.2.1 93 = .ok (.aload_n 0, 1) := by decide +kernel
theorem dM_view_94 : decode M_M_view.2.1 94 = .ok (.getfield 47, 3) := by decide +kernel
theorem dM_view_97 : decode M_M_view.2.1 97 = .ok (.iload_n 1, 1) := by decide +kernel
theorem dM_view_98 : decode M_M_view.2.1 98 = .ok (.iaload, 1) := by decide +kernel
theorem dM_view_99 : decode M_M_view.2.1 99 = .ok (.invokevirtual 137, 3) := by decide +kernel
theorem dM_view_102 : decode M_M_view.2.1 102 = .ok (.ifCond .le 7, 3) := by decide +kernel
theorem dM_view_105 : decode M_M_view.2.1 105 = .ok (.iconst 1, 1) := by decide +kernel
theorem dM_view_106 : decode M_M_view.2.1 106 = .ok (.goto 4, 3) := by decide +kernel
theorem dM_view_109 : decode M_M_view.2.1 109 = .ok (.iconst 0, 1) := by decide +kernel
theorem dM_view_110 : decode M_M_view.2.1 110 = .ok (.istore 5, 2) := by decide +kernel
theorem dM_view_112 : decode M_M_view.2.1 112 = .ok (.iload 5, 2) := by decide +kernel
theorem dM_view_114 : decode M_M_view.2.1 114 = .ok (.ifCond .eq 13, 3) := by decide +kernel
theorem dM_view_117 : decode M_M_view.2.1 117 = .ok (.aload_n 0, 1) := by decide +kernel
theorem dM_view_118 : decode M_M_view.2.1 118 = .ok (.getfield 16, 3) := by decide +kernel
theorem dM_view_121 : decode M_M_view.2.1 121 = .ok (.iload 4, 2) := by decide +kernel
theorem dM_view_123 : decode M_M_view.2.1 123 = .ok (.iaload, 1) := by decide +kernel
theorem dM_view_124 : decode M_M_view.2.1 124 = .ok (.goto 4, 3) := by decide +kernel
theorem dM_view_127 : decode M_M_view.2.1 127 = .ok (.iload_n 3, 1) := by decide +kernel
theorem dM_view_128 : decode M_M_view.2.1 128 = .ok (.istore_n 3, 1) := by decide +kernel
theorem dM_view_129 : decode M_M_view.2.1 129 = .ok (.iinc 4 1, 3) := by decide +kernel
theorem dM_view_132 : decode M_M_view.2.1 132 = .ok (.goto (-88), 3) := by decide +kernel
theorem dM_view_135 : decode M_M_view.2.1 135 = .ok (.iload_n 3, 1) := by decide +kernel
theorem dM_view_136 : decode M_M_view.2.1 136 = .ok (.ireturn, 1) := by decide +kernel
theorem dM_low_0 : decode M_M_low.2.1 0 = .ok (.iload_n 1, 1) := by decide +kernel
theorem dM_low_1 : decode M_M_low.2.1 1 = .ok (.istore_n 2, 1) := by decide +kernel
theorem dM_low_2 : decode M_M_low.2.1 2 = .ok (.iconst 1, 1) := by decide +kernel
theorem dM_low_3 : decode M_M_low.2.1 3 = .ok (.istore_n 3, 1) := by decide +kernel
theorem dM_low_4 : decode M_M_low.2.1 4 = .ok (.iload_n 3, 1) := by decide +kernel
theorem dM_low_5 : decode M_M_low.2.1 5 = .ok (.iload_n 1, 1) := by decide +kernel
theorem dM_low_6 : decode M_M_low.2.1 6 = .ok (.if_icmp .gt 46, 3) := by decide +kernel
theorem dM_low_9 : decode M_M_low.2.1 9 = .ok (.iload_n 3, 1) := by decide +kernel
theorem dM_low_10 : decode M_M_low.2.1 10 = .ok (.aload_n 0, 1) := by decide +kernel
theorem dM_low_11 : decode M_M_low.2.1 11 = .ok (.getfield 54, 3) := by decide +kernel
theorem dM_low_14 : decode M_M_low.2.1 14 = .ok (.if_icmp .gt 38, 3) := by decide +kernel
theorem dM_low_17 : decode M_M_low.2.1 17 = .ok (.aload_n 0, 1) := by decide +kernel
theorem dM_low_18 : decode M_M_low.2.1 18 = .ok (.aload_n 0, 1) := by decide +kernel
theorem dM_low_19 : decode M_M_low.2.1 19 = .ok (.getfield 7, 3) := by decide +kernel
theorem dM_low_22 : decode M_M_low.2.1 22 = .ok (.iload_n 3, 1) := by decide +kernel
theorem dM_low_23 : decode M_M_low.2.1 23 = .ok (.iaload, 1) := by decide +kernel
theorem dM_low_24 : decode M_M_low.2.1 24 = .ok (.iload_n 1, 1) := by decide +kernel
theorem dM_low_25 : decode M_M_low.2.1 25 = .ok (.invokevirtual 137, 3) := by decide +kernel
theorem dM_low_28 : decode M_M_low.2.1 28 = .ok (.ifCond .ne 18, 3) := by decide +kernel
theorem dM_low_31 : decode M_M_low.2.1 31 = .ok (.iload_n 3, 1) := by decide +kernel
theorem dM_low_32 : decode M_M_low.2.1 32 = .ok (.iconst 1, 1) := by decide +kernel
theorem dM_low_33 : decode M_M_low.2.1 33 = .ok (.isub, 1) := by decide +kernel
theorem dM_low_34 : decode M_M_low.2.1 34 = .ok (.iload_n 2, 1) := by decide +kernel
theorem dM_low_35 : decode M_M_low.2.1 35 = .ok (.if_icmp .ge 9, 3) := by decide +kernel
theorem dM_low_38 : decode M_M_low.2.1 38 = .ok (.iload_n 3, 1) := by decide +kernel
theorem dM_low_39 : decode M_M_low.2.1 39 = .ok (.iconst 1, 1) := by decide +kernel
theorem dM_low_40 : decode M_M_low.2.1 40 = .ok (.isub, 1) := by decide +kernel
theorem dM_low_41 : decode M_M_low.2.1 41 = .ok (.goto 4, 3) := by decide +kernel
theorem dM_low_44 : decode M_M_low.2.1 44 = .ok (.iload_n 2, 1) := by decide +kernel
theorem dM_low_45 : decode M_M_low.2.1 45 = .ok (.istore_n 2, 1) := by decide +kernel
theorem dM_low_46 : decode M_M_low.2.1 46 = .ok (.iinc 3 1, 3) := by decide +kernel
theorem dM_low_49 : decode M_M_low.2.1 49 = .ok (.goto (-45), 3) := by decide +kernel
theorem dM_low_52 : decode M_M_low.2.1 52 = .ok (.iload_n 2, 1) := by decide +kernel
theorem dM_low_53 : decode M_M_low.2.1 53 = .ok (.ireturn, 1) := by decide +kernel
theorem dM_collect_0 : decode M_M_collect.2.1 0 = .ok (.iload_n 1, 1) := by decide +kernel
theorem dM_collect_1 : decode M_M_collect.2.1 1 = .ok (.iload_n 2, 1) := by decide +kernel
theorem dM_collect_2 : decode M_M_collect.2.1 2 = .ok (.invokestatic 143, 3) := by decide +kernel
theorem dM_collect_5 : decode M_M_collect.2.1 5 = .ok (.ifCond .ne 5, 3) := by decide +kernel
theorem dM_collect_8 : decode M_M_collect.2.1 8 = .ok (.iconst (-1), 1) := by decide +kernel
theorem dM_collect_9 : decode M_M_collect.2.1 9 = .ok (.ireturn, 1) := by decide +kernel
theorem dM_collect_10 : decode M_M_collect.2.1 10 = .ok (.aload_n 0, 1) := by decide +kernel
theorem dM_collect_11 : decode M_M_collect.2.1 11 = .ok (.getfield 117, 3) := by decide +kernel
theorem dM_collect_14 : decode M_M_collect.2.1 14 = .ok (.ifCond .eq 6, 3) := by decide +kernel
theorem dM_collect_17 : decode M_M_collect.2.1 17 = .ok (.bipush (-2), 2) := by decide +kernel
theorem dM_collect_19 : decode M_M_collect.2.1 19 = .ok (.ireturn, 1) := by decide +kernel
theorem dM_collect_20 : decode M_M_collect.2.1 20 = .ok (.aload_n 0, 1) := by decide +kernel
theorem dM_collect_21 : decode M_M_collect.2.1 21 = .ok (.getfield 29, 3) := by decide +kernel
theorem dM_collect_24 : decode M_M_collect.2.1 24 = .ok (.bipush 6, 2) := by decide +kernel
theorem dM_collect_26 : decode M_M_collect.2.1 26 = .ok (.iload_n 1, 1) := by decide +kernel
theorem dM_collect_27 : decode M_M_collect.2.1 27 = .ok (.imul, 1) := by decide +kernel
theorem dM_collect_28 : decode M_M_collect.2.1 28 = .ok (.iload_n 2, 1) := by decide +kernel
theorem dM_collect_29 : decode M_M_collect.2.1 29 = .ok (.iadd, 1) := by decide +kernel
theorem dM_collect_30 : decode M_M_collect.2.1 30 = .ok (.iaload, 1) := by decide +kernel
theorem dM_collect_31 : decode M_M_collect.2.1 31 = .ok (.ifCond .eq 6, 3) := by decide +kernel
theorem dM_collect_34 : decode M_M_collect.2.1 34 = .ok (.bipush (-7), 2) := by decide +kernel
theorem dM_collect_36 : decode M_M_collect.2.1 36 = .ok (.ireturn, 1) := by decide +kernel
theorem dM_collect_37 : decode M_M_collect.2.1 37 = .ok (.bipush 6, 2) := by decide +kernel
theorem dM_collect_39 : decode M_M_collect.2.1 39 = .ok (.iload_n 1, 1) := by decide +kernel
theorem dM_collect_40 : decode M_M_collect.2.1 40 = .ok (.imul, 1) := by decide +kernel
theorem dM_collect_41 : decode M_M_collect.2.1 41 = .ok (.iload_n 2, 1) := by decide +kernel
theorem dM_collect_42 : decode M_M_collect.2.1 42 = .ok (.iadd, 1) := by decide +kernel
theorem dM_collect_43 : decode M_M_collect.2.1 43 = .ok (.istore_n 3, 1) := by decide +kernel
theorem dM_collect_44 : decode M_M_collect.2.1 44 = .ok (.aload_n 0, 1) := by decide +kernel
theorem dM_collect_45 : decode M_M_collect.2.1 45 = .ok (.iload_n 3, 1) := by decide +kernel
theorem dM_collect_46 : decode M_M_collect.2.1 46 = .ok (.invokevirtual 81, 3) := by decide +kernel
theorem dM_collect_49 : decode M_M_collect.2.1 49 = .ok (.istore 4, 2) := by decide +kernel
theorem dM_collect_51 : decode M_M_collect.2.1 51 = .ok (.aload_n 0, 1) := by decide +kernel
theorem dM_collect_52 : decode M_M_collect.2.1 52 = .ok (.aload_n 0, 1) := by decide +kernel
theorem dM_collect_53 : decode M_M_collect.2.1 53 = .ok (.getfield 47, 3) := by decide +kernel
theorem dM_collect_56 : decode M_M_collect.2.1 56 = .ok (.iconst 0, 1) := by decide +kernel
theorem dM_collect_57 : decode M_M_collect.2.1 57 = .ok (.iaload, 1) := by decide +kernel
theorem dM_collect_58 : decode M_M_collect.2.1 58 = .ok (.invokevirtual 155, 3) := by decide +kernel
theorem dM_collect_61 : decode M_M_collect.2.1 61 = .ok (.istore 5, 2) := by decide +kernel
theorem dM_collect_63 : decode M_M_collect.2.1 63 = .ok (.aload_n 0, 1) := by decide +kernel
theorem dM_collect_64 : decode M_M_collect.2.1 64 = .ok (.aload_n 0, 1) := by decide +kernel
theorem dM_collect_65 : decode M_M_collect.2.1 65 = .ok (.getfield 47, 3) := by decide +kernel
theorem dM_collect_68 : decode M_M_collect.2.1 68 = .ok (.iconst 1, 1) := by decide +kernel
theorem dM_collect_69 : decode M_M_collect.2.1 69 = .ok (.iaload, 1) := by decide +kernel
theorem dM_collect_70 : decode M_M_collect.2.1 70 = .ok (.invokevirtual 155, 3) := by decide +kernel
theorem dM_collect_73 : decode M_M_collect.2.1 73 = .ok (.istore 6, 2) := by decide +kernel
theorem dM_collect_75 : decode M_M_collect.2.1 75 = .ok (.aload_n 0, 1) := by decide +kernel
theorem dM_collect_76 : decode M_M_collect.2.1 76 = .ok (.aload_n 0, 1) := by decide +kernel
theorem dM_collect_77 : decode M_M_collect.2.1 77 = .ok (.getfield 94, 3) := by decide +kernel
theorem dM_collect_80 : decode M_M_collect.2.1 80 = .ok (.invokevirtual 155, 3) := by decide +kernel
theorem dM_collect_83 : decode M_M_collect.2.1 83 = .ok (.istore 7, 2) := by decide +kernel
theorem dM_collect_85 : decode M_M_collect.2.1 85 = .ok (.iload 5, 2) := by decide +kernel
theorem dM_collect_87 : decode M_M_collect.2.1 87 = .ok (.iload 4, 2) := by decide +kernel
theorem dM_collect_89 : decode M_M_collect.2.1 89 = .ok (.if_icmp .ge 8, 3) := by decide +kernel
theorem dM_collect_92 : decode M_M_collect.2.1 92 = .ok (.iload 5, 2) := by decide +kernel
theorem dM_collect_94 : decode M_M_collect.2.1 94 = .ok (.goto 5, 3) := by decide +kernel
theorem dM_collect_97 : decode M_M_collect.2.1 97 = .ok (.iload 4, 2) := by decide +kernel
theorem dM_collect_99 : decode M_M_collect.2.1 99 = .ok (.istore 4, 2) := by decide +kernel
theorem dM_collect_101 : decode M_M_collect.2.1 101 = .ok (.iload 6, 2) := by decide +kernel
theorem dM_collect_103 : decode M_M_collect.2.1 103 = .ok (.iload 4, 2) := by decide +kernel
theorem dM_collect_105 : decode M_M_collect.2.1 105 = .ok (.if_icmp .ge 8, 3) := by decide +kernel
theorem dM_collect_108 : decode M_M_collect.2.1 108 = .ok (.iload 6, 2) := by decide +kernel
theorem dM_collect_110 : decode M_M_collect.2.1 110 = .ok (.goto 5, 3) := by decide +kernel
theorem dM_collect_113 : decode M_M_collect.2.1 113 = .ok (.iload 4, 2) := by decide +kernel
theorem dM_collect_115 : decode M_M_collect.2.1 115 = .ok (.istore 4, 2) := by decide +kernel
theorem dM_collect_117 : decode M_M_collect.2.1 117 = .ok (.iload 7, 2) := by decide +kernel
theorem dM_collect_119 : decode M_M_collect.2.1 119 = .ok (.iload 4, 2) := by decide +kernel
theorem dM_collect_121 : decode M_M_collect.2.1 121 = .ok (.if_icmp .ge 8, 3) := by decide +kernel
theorem dM_collect_124 : decode M_M_collect.2.1 124 = .ok (.iload 7, 2) := by decide +kernel
theorem dM_collect_126 : decode M_M_collect.2.1 126 = .ok (.goto 5, 3) := by decide +kernel
theorem dM_collect_129 : decode M_M_collect.2.1 129 = .ok (.iload 4, 2) := by decide +kernel
theorem dM_collect_131 : decode M_M_collect.2.1 131 = .ok (.istore 4, 2) := by decide +kernel
theorem dM_collect_133 : decode M_M_collect.2.1 133 = .ok (.iconst 0, 1) := by decide +kernel
theorem dM_collect_134 : decode M_M_collect.2.1 134 = .ok (.istore 8, 2) := by decide +kernel
theorem dM_collect_136 : decode M_M_collect.2.1 136 = .ok (.aload_n 0, 1) := by decide +kernel
theorem dM_collect_137 : decode M_M_collect.2.1 137 = .ok (.getfield 32, 3) := by decide +kernel
theorem dM_collect_140 : decode M_M_collect.2.1 140 = .ok (.iload_n 3, 1) := by decide +kernel
theorem dM_collect_141 : decode M_M_collect.2.1 141 = .ok (.iaload, 1) := by decide +kernel
theorem dM_collect_142 : decode M_M_collect.2.1 142 = .ok (.iconst 1, 1) := by decide +kernel
theorem dM_collect_143 : decode M_M_collect.2.1 143 = .ok (.iadd, 1) := by decide +kernel
theorem dM_collect_144 : decode M_M_collect.2.1 144 = .ok (.istore 9, 2) := by decide +kernel
theorem dM_collect_146 : decode M_M_collect.2.1 146 = .ok (.iload 9, 2) := by decide +kernel
theorem dM_collect_148 : decode M_M_collect.2.1 148 = .ok (.iload 4, 2) := by decide +kernel
theorem dM_collect_150 : decode M_M_collect.2.1 150 = .ok (.if_icmp .gt 35, 3) := by decide +kernel
theorem dM_collect_153 : decode M_M_collect.2.1 153 = .ok (.iload 8, 2) := by decide +kernel
theorem dM_collect_155 : decode M_M_collect.2.1 155 = .ok (.aload_n 0, 1) := by decide +kernel
theorem dM_collect_156 : decode M_M_collect.2.1 156 = .ok (.getfield 26, 3) := by decide +kernel
theorem dM_collect_159 : decode M_M_collect.2.1 159 = .ok (.sipush 200, 3) := by decide +kernel
theorem dM_collect_162 : decode M_M_collect.2.1 162 = .ok (.iload_n 3, 1) := by decide +kernel
theorem dM_collect_163 : decode M_M_collect.2.1 163 = .ok (.imul, 1) := by decide +kernel
theorem dM_collect_164 : decode M_M_collect.2.1 164 = .ok (.iload 9, 2) := by decide +kernel
theorem dM_collect_166 : decode M_M_collect.2.1 166 = .ok (.iadd, 1) := by decide +kernel
theorem dM_collect_167 : decode M_M_collect.2.1 167 = .ok (.baload, 1) := by decide +kernel
theorem dM_collect_168 : decode M_M_collect.2.1 168 = .ok (.ifCond .eq 7, 3) := by decide +kernel
theorem dM_collect_171 : decode M_M_collect.2.1 171 = .ok (.iconst 1, 1) := by decide +kernel
theorem dM_collect_172 : decode M_M_collect.2.1 172 = .ok (.goto 4, 3) := by decide +kernel
theorem dM_collect_175 : decode M_M_collect.2.1 175 = .ok (.iconst 0, 1) := by decide +kernel
theorem dM_collect_176 : decode M_M_collect.2.1 176 = .ok (.iadd, 1) := by decide +kernel
theorem dM_collect_177 : decode M_M_collect.2.1 177 = .ok (.istore 8, 2) := by decide +kernel
theorem dM_collect_179 : decode M_M_collect.2.1 179 = .ok (.iinc 9 1, 3) := by decide +kernel
theorem dM_collect_182 : decode M_M_collect.2.1 182 = .ok (.goto (-36), 3) := by decide +kernel
theorem dM_collect_185 : decode M_M_collect.2.1 185 = .ok (.aload_n 0, 1) := by decide +kernel
theorem dM_collect_186 : decode M_M_collect.2.1 186 = .ok (.getfield 32, 3) := by decide +kernel
theorem dM_collect_189 : decode M_M_collect.2.1 189 = .ok (.iload_n 3, 1) := by decide +kernel
theorem dM_collect_190 : decode M_M_collect.2.1 190 = .ok (.iload 4, 2) := by decide +kernel
theorem dM_collect_192 : decode M_M_collect.2.1 192 = .ok (.aload_n 0, 1) := by decide +kernel
theorem dM_collect_193 : decode M_M_collect.2.1 193 = .ok (.getfield 32, 3) := by decide +kernel
theorem dM_collect_196 : decode M_M_collect.2.1 196 = .ok (.iload_n 3, 1) := by decide +kernel
theorem dM_collect_197 : decode M_M_collect.2.1 197 = .ok (.iaload, 1) := by decide +kernel
theorem dM_collect_198 : decode M_M_collect.2.1 198 = .ok (.if_icmp .le 8, 3) := by decide +kernel
theorem dM_collect_201 : decode M_M_collect.2.1 201 = .ok (.iload 4, 2) := by decide +kernel
theorem dM_collect_203 : decode M_M_collect.2.1 203 = .ok (.goto 9, 3) := by decide +kernel
theorem dM_collect_206 : decode M_M_collect.2.1 206 = .ok (.aload_n 0, 1) := by decide +kernel
theorem dM_collect_207 : decode M_M_collect.2.1 207 = .ok (.getfield 32, 3) := by decide +kernel
theorem dM_collect_210 : decode M_M_collect.2.1 210 = .ok (.iload_n 3, 1) := by decide +kernel
theorem dM_collect_211 : decode M_M_collect.2.1 211 = .ok (.iaload, 1) := by decide +kernel
theorem dM_collect_212 : decode M_M_collect.2.1 212 = .ok (.iastore, 1) := by decide +kernel
theorem dM_collect_213 : decode M_M_collect.2.1 213 = .ok (.iload 8, 2) := by decide +kernel
theorem dM_collect_215 : decode M_M_collect.2.1 215 = .ok (.ireturn, 1) := by decide +kernel
