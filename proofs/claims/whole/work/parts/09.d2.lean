/-! Decode rows (by program, wip/whole/gen.py). -/
theorem dQ_init_0 : decode M_Q_init.2.1 0 = .ok (.aload_n 0, 1) := by decide +kernel
theorem dQ_init_1 : decode M_Q_init.2.1 1 = .ok (.invokespecial 1, 3) := by decide +kernel
theorem dQ_init_4 : decode M_Q_init.2.1 4 = .ok (.aload_n 0, 1) := by decide +kernel
theorem dQ_init_5 : decode M_Q_init.2.1 5 = .ok (.new 7, 3) := by decide +kernel
theorem dQ_init_8 : decode M_Q_init.2.1 8 = .ok (.dup, 1) := by decide +kernel
theorem dQ_init_9 : decode M_Q_init.2.1 9 = .ok (.invokespecial 9, 3) := by decide +kernel
theorem dQ_init_12 : decode M_Q_init.2.1 12 = .ok (.putfield 10, 3) := by decide +kernel
theorem dQ_init_15 : decode M_Q_init.2.1 15 = .ok (.aload_n 0, 1) := by decide +kernel
theorem dQ_init_16 : decode M_Q_init.2.1 16 = .ok (.new 16, 3) := by decide +kernel
theorem dQ_init_19 : decode M_Q_init.2.1 19 = .ok (.dup, 1) := by decide +kernel
theorem dQ_init_20 : decode M_Q_init.2.1 20 = .ok (.invokespecial 18, 3) := by decide +kernel
theorem dQ_init_23 : decode M_Q_init.2.1 23 = .ok (.putfield 19, 3) := by decide +kernel
theorem dQ_init_26 : decode M_Q_init.2.1 26 = .ok (.aload_n 0, 1) := by decide +kernel
theorem dQ_init_27 : decode M_Q_init.2.1 27 = .ok (.iconst 2, 1) := by decide +kernel
theorem dQ_init_28 : decode M_Q_init.2.1 28 = .ok (.anewarray 23, 3) := by decide +kernel
theorem dQ_init_31 : decode M_Q_init.2.1 31 = .ok (.putfield 25, 3) := by decide +kernel
theorem dQ_init_34 : decode M_Q_init.2.1 34 = .ok (.iconst 0, 1) := by decide +kernel
theorem dQ_init_35 : decode M_Q_init.2.1 35 = .ok (.istore_n 1, 1) := by decide +kernel
theorem dQ_init_36 : decode M_Q_init.2.1 36 = .ok (.iload_n 1, 1) := by decide +kernel
theorem dQ_init_37 : decode M_Q_init.2.1 37 = .ok (.iconst 2, 1) := by decide +kernel
theorem dQ_init_38 : decode M_Q_init.2.1 38 = .ok (.if_icmp .ge 23, 3) := by decide +kernel
theorem dQ_init_41 : decode M_Q_init.2.1 41 = .ok (.aload_n 0, 1) := by decide +kernel
theorem dQ_init_42 : decode M_Q_init.2.1 42 = .ok (.getfield 25, 3) := by decide +kernel
theorem dQ_init_45 : decode M_Q_init.2.1 45 = .ok (.iload_n 1, 1) := by decide +kernel
theorem dQ_init_46 : decode M_Q_init.2.1 46 = .ok (.new 23, 3) := by decide +kernel
theorem dQ_init_49 : decode M_Q_init.2.1 49 = .ok (.dup, 1) := by decide +kernel
theorem dQ_init_50 : decode M_Q_init.2.1 50 = .ok (.iload_n 1, 1) := by decide +kernel
theorem dQ_init_51 : decode M_Q_init.2.1 51 = .ok (.invokespecial 29, 3) := by decide +kernel
theorem dQ_init_54 : decode M_Q_init.2.1 54 = .ok (.aastore, 1) := by decide +kernel
theorem dQ_init_55 : decode M_Q_init.2.1 55 = .ok (.iinc 1 1, 3) := by decide +kernel
theorem dQ_init_58 : decode M_Q_init.2.1 58 = .ok (.goto (-22), 3) := by decide +kernel
theorem dQ_init_61 : decode M_Q_init.2.1 61 = .ok (.aload_n 0, 1) := by decide +kernel
theorem dQ_init_62 : decode M_Q_init.2.1 62 = .ok (.new 32, 3) := by decide +kernel
theorem dQ_init_65 : decode M_Q_init.2.1 65 = .ok (.dup, 1) := by decide +kernel
theorem dQ_init_66 : decode M_Q_init.2.1 66 = .ok (.invokespecial 34, 3) := by decide +kernel
theorem dQ_init_69 : decode M_Q_init.2.1 69 = .ok (.putfield 35, 3) := by decide +kernel
theorem dQ_init_72 : decode M_Q_init.2.1 72 = .ok (.aload_n 0, 1) := by decide +kernel
theorem dQ_init_73 : decode M_Q_init.2.1 73 = .ok (.iconst 2, 1) := by decide +kernel
theorem dQ_init_74 : decode M_Q_init.2.1 74 = .ok (.newarray .int, 2) := by decide +kernel
theorem dQ_init_76 : decode M_Q_init.2.1 76 = .ok (.putfield 39, 3) := by decide +kernel
theorem dQ_init_79 : decode M_Q_init.2.1 79 = .ok (.aload_n 0, 1) := by decide +kernel
theorem dQ_init_80 : decode M_Q_init.2.1 80 = .ok (.iconst 1, 1) := by decide +kernel
theorem dQ_init_81 : decode M_Q_init.2.1 81 = .ok (.putfield 43, 3) := by decide +kernel
theorem dQ_init_84 : decode M_Q_init.2.1 84 = .ok (.aload_n 0, 1) := by decide +kernel
theorem dQ_init_85 : decode M_Q_init.2.1 85 = .ok (.iconst 0, 1) := by decide +kernel
theorem dQ_init_86 : decode M_Q_init.2.1 86 = .ok (.putfield 47, 3) := by decide +kernel
theorem dQ_init_89 : decode M_Q_init.2.1 89 = .ok (.return_, 1) := by decide +kernel
theorem dQ_begin_0 : decode M_Q_begin.2.1 0 = .ok (.aload_n 0, 1) := by decide +kernel
theorem dQ_begin_1 : decode M_Q_begin.2.1 1 = .ok (.getfield 43, 3) := by decide +kernel
theorem dQ_begin_4 : decode M_Q_begin.2.1 4 = .ok (.ifCond .ne 6, 3) := by decide +kernel
theorem dQ_begin_7 : decode M_Q_begin.2.1 7 = .ok (.bipush (-2), 2) := by decide +kernel
theorem dQ_begin_9 : decode M_Q_begin.2.1 9 = .ok (.ireturn, 1) := by decide +kernel
theorem dQ_begin_10 : decode M_Q_begin.2.1 10 = .ok (.aload_n 0, 1) := by decide +kernel
theorem dQ_begin_11 : decode M_Q_begin.2.1 11 = .ok (.getfield 19, 3) := by decide +kernel
theorem dQ_begin_14 : decode M_Q_begin.2.1 14 = .ok (.invokevirtual 51, 3) := by decide +kernel
theorem dQ_begin_17 : decode M_Q_begin.2.1 17 = .ok (.ifCond .ne 16, 3) := by decide +kernel
theorem dQ_begin_20 : decode M_Q_begin.2.1 20 = .ok (.aload_n 0, 1) := by decide +kernel
theorem dQ_begin_21 : decode M_Q_begin.2.1 21 = .ok (.getfield 10, 3) := by decide +kernel
theorem dQ_begin_24 : decode M_Q_begin.2.1 24 = .ok (.getfield 55, 3) := by decide +kernel
theorem dQ_begin_27 : decode M_Q_begin.2.1 27 = .ok (.sipush 150, 3) := by decide +kernel
theorem dQ_begin_30 : decode M_Q_begin.2.1 30 = .ok (.if_icmp .lt 6, 3) := by decide +kernel
theorem dQ_begin_33 : decode M_Q_begin.2.1 33 = .ok (.bipush (-5), 2) := by decide +kernel
theorem dQ_begin_35 : decode M_Q_begin.2.1 35 = .ok (.ireturn, 1) := by decide +kernel
theorem dQ_begin_36 : decode M_Q_begin.2.1 36 = .ok (.aload_n 0, 1) := by decide +kernel
theorem dQ_begin_37 : decode M_Q_begin.2.1 37 = .ok (.getfield 19, 3) := by decide +kernel
theorem dQ_begin_40 : decode M_Q_begin.2.1 40 = .ok (.invokevirtual 58, 3) := by decide +kernel
theorem dQ_begin_43 : decode M_Q_begin.2.1 43 = .ok (.ireturn, 1) := by decide +kernel
theorem dQ_read_0 : decode M_Q_read.2.1 0 = .ok (.iload_n 2, 1) := by decide +kernel
theorem dQ_read_1 : decode M_Q_read.2.1 1 = .ok (.invokestatic 62, 3) := by decide +kernel
theorem dQ_read_4 : decode M_Q_read.2.1 4 = .ok (.ifCond .ne 5, 3) := by decide +kernel
theorem dQ_read_7 : decode M_Q_read.2.1 7 = .ok (.iconst (-1), 1) := by decide +kernel
theorem dQ_read_8 : decode M_Q_read.2.1 8 = .ok (.ireturn, 1) := by decide +kernel
theorem dQ_read_9 : decode M_Q_read.2.1 9 = .ok (.aload_n 0, 1) := by decide +kernel
theorem dQ_read_10 : decode M_Q_read.2.1 10 = .ok (.iload_n 1, 1) := by decide +kernel
theorem dQ_read_11 : decode M_Q_read.2.1 11 = .ok (.iload_n 2, 1) := by decide +kernel
theorem dQ_read_12 : decode M_Q_read.2.1 12 = .ok (.iload_n 2, 1) := by decide +kernel
theorem dQ_read_13 : decode M_Q_read.2.1 13 = .ok (.invokevirtual 66, 3) := by decide +kernel
theorem dQ_read_16 : decode M_Q_read.2.1 16 = .ok (.istore_n 3, 1) := by decide +kernel
theorem dQ_read_17 : decode M_Q_read.2.1 17 = .ok (.iload_n 3, 1) := by decide +kernel
theorem dQ_read_18 : decode M_Q_read.2.1 18 = .ok (.ifCond .ne 13, 3) := by decide +kernel
theorem dQ_read_21 : decode M_Q_read.2.1 21 = .ok (.aload_n 0, 1) := by decide +kernel
theorem dQ_read_22 : decode M_Q_read.2.1 22 = .ok (.iload_n 2, 1) := by decide +kernel
theorem dQ_read_23 : decode M_Q_read.2.1 23 = .ok (.invokestatic 70, 3) := by decide +kernel
theorem dQ_read_26 : decode M_Q_read.2.1 26 = .ok (.iconst (-1), 1) := by decide +kernel
theorem dQ_read_27 : decode M_Q_read.2.1 27 = .ok (.invokevirtual 74, 3) := by decide +kernel
theorem dQ_read_30 : decode M_Q_read.2.1 30 = .ok (.istore_n 3, 1) := by decide +kernel
theorem dQ_read_31 : decode M_Q_read.2.1 31 = .ok (.iload_n 3, 1) := by decide +kernel
theorem dQ_read_32 : decode M_Q_read.2.1 32 = .ok (.ifCond .eq 5, 3) := by decide +kernel
theorem dQ_read_35 : decode M_Q_read.2.1 35 = .ok (.iload_n 3, 1) := by decide +kernel
theorem dQ_read_36 : decode M_Q_read.2.1 36 = .ok (.ireturn, 1) := by decide +kernel
theorem dQ_read_37 : decode M_Q_read.2.1 37 = .ok (.aload_n 0, 1) := by decide +kernel
theorem dQ_read_38 : decode M_Q_read.2.1 38 = .ok (.getfield 19, 3) := by decide +kernel
theorem dQ_read_41 : decode M_Q_read.2.1 41 = .ok (.iload_n 1, 1) := by decide +kernel
theorem dQ_read_42 : decode M_Q_read.2.1 42 = .ok (.iload_n 2, 1) := by decide +kernel
theorem dQ_read_43 : decode M_Q_read.2.1 43 = .ok (.invokevirtual 78, 3) := by decide +kernel
theorem dQ_read_46 : decode M_Q_read.2.1 46 = .ok (.aload_n 0, 1) := by decide +kernel
theorem dQ_read_47 : decode M_Q_read.2.1 47 = .ok (.getfield 10, 3) := by decide +kernel
theorem dQ_read_50 : decode M_Q_read.2.1 50 = .ok (.iload_n 2, 1) := by decide +kernel
theorem dQ_read_51 : decode M_Q_read.2.1 51 = .ok (.aload_n 0, 1) := by decide +kernel
theorem dQ_read_52 : decode M_Q_read.2.1 52 = .ok (.getfield 10, 3) := by decide +kernel
theorem dQ_read_55 : decode M_Q_read.2.1 55 = .ok (.getfield 55, 3) := by decide +kernel
theorem dQ_read_58 : decode M_Q_read.2.1 58 = .ok (.invokevirtual 82, 3) := by decide +kernel
theorem dQ_read_61 : decode M_Q_read.2.1 61 = .ok (.ireturn, 1) := by decide +kernel
theorem dQ_write_0 : decode M_Q_write.2.1 0 = .ok (.iload_n 2, 1) := by decide +kernel
theorem dQ_write_1 : decode M_Q_write.2.1 1 = .ok (.invokestatic 62, 3) := by decide +kernel
theorem dQ_write_4 : decode M_Q_write.2.1 4 = .ok (.ifCond .eq 14, 3) := by decide +kernel
theorem dQ_write_7 : decode M_Q_write.2.1 7 = .ok (.iload_n 3, 1) := by decide +kernel
theorem dQ_write_8 : decode M_Q_write.2.1 8 = .ok (.ifCond .lt 10, 3) := by decide +kernel
theorem dQ_write_11 : decode M_Q_write.2.1 11 = .ok (.iload_n 3, 1) := by decide +kernel
theorem dQ_write_12 : decode M_Q_write.2.1 12 = .ok (.sipush 9999, 3) := by decide +kernel
theorem dQ_write_15 : decode M_Q_write.2.1 15 = .ok (.if_icmp .le 5, 3) := by decide +kernel
theorem dQ_write_18 : decode M_Q_write.2.1 18 = .ok (.iconst (-1), 1) := by decide +kernel
theorem dQ_write_19 : decode M_Q_write.2.1 19 = .ok (.ireturn, 1) := by decide +kernel
theorem dQ_write_20 : decode M_Q_write.2.1 20 = .ok (.aload_n 0, 1) := by decide +kernel
theorem dQ_write_21 : decode M_Q_write.2.1 21 = .ok (.iload_n 1, 1) := by decide +kernel
theorem dQ_write_22 : decode M_Q_write.2.1 22 = .ok (.iload_n 2, 1) := by decide +kernel
theorem dQ_write_23 : decode M_Q_write.2.1 23 = .ok (.iload_n 2, 1) := by decide +kernel
theorem dQ_write_24 : decode M_Q_write.2.1 24 = .ok (.invokevirtual 85, 3) := by decide +kernel
theorem dQ_write_27 : decode M_Q_write.2.1 27 = .ok (.istore 4, 2) := by decide +kernel
theorem dQ_write_29 : decode M_Q_write.2.1 29 = .ok (.iload 4, 2) := by decide +kernel
theorem dQ_write_31 : decode M_Q_write.2.1 31 = .ok (.ifCond .ne 14, 3) := by decide +kernel
theorem dQ_write_34 : decode M_Q_write.2.1 34 = .ok (.aload_n 0, 1) := by decide +kernel
theorem dQ_write_35 : decode M_Q_write.2.1 35 = .ok (.iload_n 2, 1) := by decide +kernel
theorem dQ_write_36 : decode M_Q_write.2.1 36 = .ok (.invokestatic 70, 3) := by decide +kernel
theorem dQ_write_39 : decode M_Q_write.2.1 39 = .ok (.iconst (-1), 1) := by decide +kernel
theorem dQ_write_40 : decode M_Q_write.2.1 40 = .ok (.invokevirtual 74, 3) := by decide +kernel
theorem dQ_write_43 : decode M_Q_write.2.1 43 = .ok (.istore 4, 2) := by decide +kernel
theorem dQ_write_45 : decode M_Q_write.2.1 45 = .ok (.iload 4, 2) := by decide +kernel
theorem dQ_write_47 : decode M_Q_write.2.1 47 = .ok (.ifCond .eq 6, 3) := by decide +kernel
theorem dQ_write_50 : decode M_Q_write.2.1 50 = .ok (.iload 4, 2) := by decide +kernel
theorem dQ_write_52 : decode M_Q_write.2.1 52 = .ok (.ireturn, 1) := by decide +kernel
theorem dQ_write_53 : decode M_Q_write.2.1 53 = .ok (.aload_n 0, 1) := by decide +kernel
theorem dQ_write_54 : decode M_Q_write.2.1 54 = .ok (.getfield 19, 3) := by decide +kernel
theorem dQ_write_57 : decode M_Q_write.2.1 57 = .ok (.iload_n 1, 1) := by decide +kernel
theorem dQ_write_58 : decode M_Q_write.2.1 58 = .ok (.iload_n 2, 1) := by decide +kernel
theorem dQ_write_59 : decode M_Q_write.2.1 59 = .ok (.invokevirtual 78, 3) := by decide +kernel
theorem dQ_write_62 : decode M_Q_write.2.1 62 = .ok (.aload_n 0, 1) := by decide +kernel
theorem dQ_write_63 : decode M_Q_write.2.1 63 = .ok (.getfield 10, 3) := by decide +kernel
theorem dQ_write_66 : decode M_Q_write.2.1 66 = .ok (.iload_n 1, 1) := by decide +kernel
theorem dQ_write_67 : decode M_Q_write.2.1 67 = .ok (.iload_n 2, 1) := by decide +kernel
theorem dQ_write_68 : decode M_Q_write.2.1 68 = .ok (.iload_n 3, 1) := by decide +kernel
theorem dQ_write_69 : decode M_Q_write.2.1 69 = .ok (.iconst 1, 1) := by decide +kernel
theorem dQ_write_70 : decode M_Q_write.2.1 70 = .ok (.invokevirtual 88, 3) := by decide +kernel
theorem dQ_write_73 : decode M_Q_write.2.1 73 = .ok (.ireturn, 1) := by decide +kernel
theorem dQ_shift_0 : decode M_Q_shift.2.1 0 = .ok (.iload_n 2, 1) := by decide +kernel
theorem dQ_shift_1 : decode M_Q_shift.2.1 1 = .ok (.invokestatic 62, 3) := by decide +kernel
theorem dQ_shift_4 : decode M_Q_shift.2.1 4 = .ok (.ifCond .eq 29, 3) := by decide +kernel
theorem dQ_shift_7 : decode M_Q_shift.2.1 7 = .ok (.iload_n 3, 1) := by decide +kernel
theorem dQ_shift_8 : decode M_Q_shift.2.1 8 = .ok (.invokestatic 62, 3) := by decide +kernel
theorem dQ_shift_11 : decode M_Q_shift.2.1 11 = .ok (.ifCond .eq 22, 3) := by decide +kernel
theorem dQ_shift_14 : decode M_Q_shift.2.1 14 = .ok (.iload_n 2, 1) := by decide +kernel
theorem dQ_shift_15 : decode M_Q_shift.2.1 15 = .ok (.iload_n 3, 1) := by decide +kernel
theorem dQ_shift_16 : decode M_Q_shift.2.1 16 = .ok (.if_icmp .eq 17, 3) := by decide +kernel
theorem dQ_shift_19 : decode M_Q_shift.2.1 19 = .ok (.iload 4, 2) := by decide +kernel
theorem dQ_shift_21 : decode M_Q_shift.2.1 21 = .ok (.iconst 1, 1) := by decide +kernel
theorem dQ_shift_22 : decode M_Q_shift.2.1 22 = .ok (.if_icmp .lt 11, 3) := by decide +kernel
theorem dQ_shift_25 : decode M_Q_shift.2.1 25 = .ok (.iload 4, 2) := by decide +kernel
theorem dQ_shift_27 : decode M_Q_shift.2.1 27 = .ok (.sipush 9999, 3) := by decide +kernel
theorem dQ_shift_30 : decode M_Q_shift.2.1 30 = .ok (.if_icmp .le 5, 3) := by decide +kernel
theorem dQ_shift_33 : decode M_Q_shift.2.1 33 = .ok (.iconst (-1), 1) := by decide +kernel
theorem dQ_shift_34 : decode M_Q_shift.2.1 34 = .ok (.ireturn, 1) := by decide +kernel
theorem dQ_shift_35 : decode M_Q_shift.2.1 35 = .ok (.aload_n 0, 1) := by decide +kernel
theorem dQ_shift_36 : decode M_Q_shift.2.1 36 = .ok (.iload_n 1, 1) := by decide +kernel
theorem dQ_shift_37 : decode M_Q_shift.2.1 37 = .ok (.iload_n 2, 1) := by decide +kernel
theorem dQ_shift_38 : decode M_Q_shift.2.1 38 = .ok (.iload_n 3, 1) := by decide +kernel
theorem dQ_shift_39 : decode M_Q_shift.2.1 39 = .ok (.invokevirtual 85, 3) := by decide +kernel
theorem dQ_shift_42 : decode M_Q_shift.2.1 42 = .ok (.istore 5, 2) := by decide +kernel
theorem dQ_shift_44 : decode M_Q_shift.2.1 44 = .ok (.iload 5, 2) := by decide +kernel
theorem dQ_shift_46 : decode M_Q_shift.2.1 46 = .ok (.ifCond .ne 17, 3) := by decide +kernel
theorem dQ_shift_49 : decode M_Q_shift.2.1 49 = .ok (.aload_n 0, 1) := by decide +kernel
theorem dQ_shift_50 : decode M_Q_shift.2.1 50 = .ok (.iload_n 2, 1) := by decide +kernel
theorem dQ_shift_51 : decode M_Q_shift.2.1 51 = .ok (.invokestatic 70, 3) := by decide +kernel
theorem dQ_shift_54 : decode M_Q_shift.2.1 54 = .ok (.iload_n 3, 1) := by decide +kernel
theorem dQ_shift_55 : decode M_Q_shift.2.1 55 = .ok (.invokestatic 70, 3) := by decide +kernel
theorem dQ_shift_58 : decode M_Q_shift.2.1 58 = .ok (.invokevirtual 74, 3) := by decide +kernel
theorem dQ_shift_61 : decode M_Q_shift.2.1 61 = .ok (.istore 5, 2) := by decide +kernel
theorem dQ_shift_63 : decode M_Q_shift.2.1 63 = .ok (.iload 5, 2) := by decide +kernel
theorem dQ_shift_65 : decode M_Q_shift.2.1 65 = .ok (.ifCond .ne 17, 3) := by decide +kernel
theorem dQ_shift_68 : decode M_Q_shift.2.1 68 = .ok (.aload_n 0, 1) := by decide +kernel
theorem dQ_shift_69 : decode M_Q_shift.2.1 69 = .ok (.iload_n 3, 1) := by decide +kernel
theorem dQ_shift_70 : decode M_Q_shift.2.1 70 = .ok (.invokestatic 70, 3) := by decide +kernel
theorem dQ_shift_73 : decode M_Q_shift.2.1 73 = .ok (.iload_n 2, 1) := by decide +kernel
theorem dQ_shift_74 : decode M_Q_shift.2.1 74 = .ok (.invokestatic 70, 3) := by decide +kernel
theorem dQ_shift_77 : decode M_Q_shift.2.1 77 = .ok (.invokevirtual 74, 3) := by decide +kernel
theorem dQ_shift_80 : decode M_Q_shift.2.1 80 = .ok (.istore 5, 2) := by decide +kernel
theorem dQ_shift_82 : decode M_Q_shift.2.1 82 = .ok (.iload 5, 2) := by decide +kernel
theorem dQ_shift_84 : decode M_Q_shift.2.1 84 = .ok (.ifCond .eq 6, 3) := by decide +kernel
theorem dQ_shift_87 : decode M_Q_shift.2.1 87 = .ok (.iload 5, 2) := by decide +kernel
theorem dQ_shift_89 : decode M_Q_shift.2.1 89 = .ok (.ireturn, 1) := by decide +kernel
theorem dQ_shift_90 : decode M_Q_shift.2.1 90 = .ok (.aload_n 0, 1) := by decide +kernel
theorem dQ_shift_91 : decode M_Q_shift.2.1 91 = .ok (.getfield 10, 3) := by decide +kernel
theorem dQ_shift_94 : decode M_Q_shift.2.1 94 = .ok (.iload_n 2, 1) := by decide +kernel
theorem dQ_shift_95 : decode M_Q_shift.2.1 95 = .ok (.aload_n 0, 1) := by decide +kernel
theorem dQ_shift_96 : decode M_Q_shift.2.1 96 = .ok (.getfield 10, 3) := by decide +kernel
theorem dQ_shift_99 : decode M_Q_shift.2.1 99 = .ok (.getfield 55, 3) := by decide +kernel
theorem dQ_shift_102 : decode M_Q_shift.2.1 102 = .ok (.invokevirtual 82, 3) := by decide +kernel
theorem dQ_shift_105 : decode M_Q_shift.2.1 105 = .ok (.iload 4, 2) := by decide +kernel
theorem dQ_shift_107 : decode M_Q_shift.2.1 107 = .ok (.isub, 1) := by decide +kernel
theorem dQ_shift_108 : decode M_Q_shift.2.1 108 = .ok (.istore 6, 2) := by decide +kernel
theorem dQ_shift_110 : decode M_Q_shift.2.1 110 = .ok (.aload_n 0, 1) := by decide +kernel
theorem dQ_shift_111 : decode M_Q_shift.2.1 111 = .ok (.getfield 10, 3) := by decide +kernel
theorem dQ_shift_114 : decode M_Q_shift.2.1 114 = .ok (.iload_n 3, 1) := by decide +kernel
theorem dQ_shift_115 : decode M_Q_shift.2.1 115 = .ok (.aload_n 0, 1) := by decide +kernel
theorem dQ_shift_116 : decode M_Q_shift.2.1 116 = .ok (.getfield 10, 3) := by decide +kernel
theorem dQ_shift_119 : decode M_Q_shift.2.1 119 = .ok (.getfield 55, 3) := by decide +kernel
theorem dQ_shift_122 : decode M_Q_shift.2.1 122 = .ok (.invokevirtual 82, 3) := by decide +kernel
theorem dQ_shift_125 : decode M_Q_shift.2.1 125 = .ok (.iload 4, 2) := by decide +kernel
theorem dQ_shift_127 : decode M_Q_shift.2.1 127 = .ok (.iadd, 1) := by decide +kernel
theorem dQ_shift_128 : decode M_Q_shift.2.1 128 = .ok (.istore 7, 2) := by decide +kernel
theorem dQ_shift_130 : decode M_Q_shift.2.1 130 = .ok (.iload 6, 2) := by decide +kernel
theorem dQ_shift_132 : decode M_Q_shift.2.1 132 = .ok (.ifCond .lt 11, 3) := by decide +kernel
theorem dQ_shift_135 : decode M_Q_shift.2.1 135 = .ok (.iload 7, 2) := by decide +kernel
theorem dQ_shift_137 : decode M_Q_shift.2.1 137 = .ok (.sipush 9999, 3) := by decide +kernel
theorem dQ_shift_140 : decode M_Q_shift.2.1 140 = .ok (.if_icmp .le 6, 3) := by decide +kernel
theorem dQ_shift_143 : decode M_Q_shift.2.1 143 = .ok (.bipush (-8), 2) := by decide +kernel
theorem dQ_shift_145 : decode M_Q_shift.2.1 145 = .ok (.ireturn, 1) := by decide +kernel
theorem dQ_shift_146 : decode M_Q_shift.2.1 146 = .ok (.aload_n 0, 1) := by decide +kernel
theorem dQ_shift_147 : decode M_Q_shift.2.1 147 = .ok (.getfield 19, 3) := by decide +kernel
theorem dQ_shift_150 : decode M_Q_shift.2.1 150 = .ok (.iload_n 1, 1) := by decide +kernel
theorem dQ_shift_151 : decode M_Q_shift.2.1 151 = .ok (.iload_n 2, 1) := by decide +kernel
theorem dQ_shift_152 : decode M_Q_shift.2.1 152 = .ok (.invokevirtual 78, 3) := by decide +kernel
theorem dQ_shift_155 : decode M_Q_shift.2.1 155 = .ok (.aload_n 0, 1) := by decide +kernel
theorem dQ_shift_156 : decode M_Q_shift.2.1 156 = .ok (.getfield 19, 3) := by decide +kernel
theorem dQ_shift_159 : decode M_Q_shift.2.1 159 = .ok (.iload_n 1, 1) := by decide +kernel
theorem dQ_shift_160 : decode M_Q_shift.2.1 160 = .ok (.iload_n 3, 1) := by decide +kernel
theorem dQ_shift_161 : decode M_Q_shift.2.1 161 = .ok (.invokevirtual 78, 3) := by decide +kernel
theorem dQ_shift_164 : decode M_Q_shift.2.1 164 = .ok (.aload_n 0, 1) := by decide +kernel
theorem dQ_shift_165 : decode M_Q_shift.2.1 165 = .ok (.getfield 10, 3) := by decide +kernel
theorem dQ_shift_168 : decode M_Q_shift.2.1 168 = .ok (.iload_n 1, 1) := by decide +kernel
theorem dQ_shift_169 : decode M_Q_shift.2.1 169 = .ok (.iload_n 2, 1) := by decide +kernel
theorem dQ_shift_170 : decode M_Q_shift.2.1 170 = .ok (.iload 6, 2) := by decide +kernel
theorem dQ_shift_172 : decode M_Q_shift.2.1 172 = .ok (.iconst 0, 1) := by decide +kernel
theorem dQ_shift_173 : decode M_Q_shift.2.1 173 = .ok (.invokevirtual 88, 3) := by decide +kernel
theorem dQ_shift_176 : decode M_Q_shift.2.1 176 = .ok (.pop, 1) := by decide +kernel
theorem dQ_shift_177 : decode M_Q_shift.2.1 177 = .ok (.aload_n 0, 1) := by decide +kernel
theorem dQ_shift_178 : decode M_Q_shift.2.1 178 = .ok (.getfield 10, 3) := by decide +kernel
theorem dQ_shift_181 : decode M_Q_shift.2.1 181 = .ok (.iload_n 1, 1) := by decide +kernel
theorem dQ_shift_182 : decode M_Q_shift.2.1 182 = .ok (.iload_n 3, 1) := by decide +kernel
theorem dQ_shift_183 : decode M_Q_shift.2.1 183 = .ok (.iload 7, 2) := by decide +kernel
theorem dQ_shift_185 : decode M_Q_shift.2.1 185 = .ok (.iconst 1, 1) := by decide +kernel
theorem dQ_shift_186 : decode M_Q_shift.2.1 186 = .ok (.invokevirtual 88, 3) := by decide +kernel
theorem dQ_shift_189 : decode M_Q_shift.2.1 189 = .ok (.ireturn, 1) := by decide +kernel
theorem dQ_commit_0 : decode M_Q_commit.2.1 0 = .ok (.aload_n 0, 1) := by decide +kernel
theorem dQ_commit_1 : decode M_Q_commit.2.1 1 = .ok (.iload_n 1, 1) := by decide +kernel
theorem dQ_commit_2 : decode M_Q_commit.2.1 2 = .ok (.invokevirtual 92, 3) := by decide +kernel
theorem dQ_commit_5 : decode M_Q_commit.2.1 5 = .ok (.istore_n 2, 1) := by decide +kernel
theorem dQ_commit_6 : decode M_Q_commit.2.1 6 = .ok (.iload_n 2, 1) := by decide +kernel
theorem dQ_commit_7 : decode M_Q_commit.2.1 7 = .ok (.ifCond .eq 5, 3) := by decide +kernel
theorem dQ_commit_10 : decode M_Q_commit.2.1 10 = .ok (.iload_n 2, 1) := by decide +kernel
theorem dQ_commit_11 : decode M_Q_commit.2.1 11 = .ok (.ireturn, 1) := by decide +kernel
theorem dQ_commit_12 : decode M_Q_commit.2.1 12 = .ok (.aload_n 0, 1) := by decide +kernel
theorem dQ_commit_13 : decode M_Q_commit.2.1 13 = .ok (.getfield 19, 3) := by decide +kernel
theorem dQ_commit_16 : decode M_Q_commit.2.1 16 = .ok (.iload_n 1, 1) := by decide +kernel
theorem dQ_commit_17 : decode M_Q_commit.2.1 17 = .ok (.invokevirtual 95, 3) := by decide +kernel
theorem dQ_commit_20 : decode M_Q_commit.2.1 20 = .ok (.aload_n 0, 1) := by decide +kernel
theorem dQ_commit_21 : decode M_Q_commit.2.1 21 = .ok (.getfield 10, 3) := by decide +kernel
theorem dQ_commit_24 : decode M_Q_commit.2.1 24 = .ok (.iload_n 1, 1) := by decide +kernel
theorem dQ_commit_25 : decode M_Q_commit.2.1 25 = .ok (.iconst 1, 1) := by decide +kernel
theorem dQ_commit_26 : decode M_Q_commit.2.1 26 = .ok (.invokevirtual 98, 3) := by decide +kernel
theorem dQ_commit_29 : decode M_Q_commit.2.1 29 = .ok (.ireturn, 1) := by decide +kernel
theorem dQ_abort_0 : decode M_Q_abort.2.1 0 = .ok (.aload_n 0, 1) := by decide +kernel
theorem dQ_abort_1 : decode M_Q_abort.2.1 1 = .ok (.iload_n 1, 1) := by decide +kernel
theorem dQ_abort_2 : decode M_Q_abort.2.1 2 = .ok (.invokevirtual 92, 3) := by decide +kernel
theorem dQ_abort_5 : decode M_Q_abort.2.1 5 = .ok (.istore_n 2, 1) := by decide +kernel
theorem dQ_abort_6 : decode M_Q_abort.2.1 6 = .ok (.iload_n 2, 1) := by decide +kernel
theorem dQ_abort_7 : decode M_Q_abort.2.1 7 = .ok (.ifCond .eq 5, 3) := by decide +kernel
theorem dQ_abort_10 : decode M_Q_abort.2.1 10 = .ok (.iload_n 2, 1) := by decide +kernel
theorem dQ_abort_11 : decode M_Q_abort.2.1 11 = .ok (.ireturn, 1) := by decide +kernel
theorem dQ_abort_12 : decode M_Q_abort.2.1 12 = .ok (.aload_n 0, 1) := by decide +kernel
theorem dQ_abort_13 : decode M_Q_abort.2.1 13 = .ok (.getfield 19, 3) := by decide +kernel
theorem dQ_abort_16 : decode M_Q_abort.2.1 16 = .ok (.iload_n 1, 1) := by decide +kernel
theorem dQ_abort_17 : decode M_Q_abort.2.1 17 = .ok (.invokevirtual 95, 3) := by decide +kernel
theorem dQ_abort_20 : decode M_Q_abort.2.1 20 = .ok (.aload_n 0, 1) := by decide +kernel
theorem dQ_abort_21 : decode M_Q_abort.2.1 21 = .ok (.getfield 10, 3) := by decide +kernel
theorem dQ_abort_24 : decode M_Q_abort.2.1 24 = .ok (.iload_n 1, 1) := by decide +kernel
theorem dQ_abort_25 : decode M_Q_abort.2.1 25 = .ok (.invokevirtual 102, 3) := by decide +kernel
theorem dQ_abort_28 : decode M_Q_abort.2.1 28 = .ok (.ireturn, 1) := by decide +kernel
theorem dQ_status_0 : decode M_Q_status.2.1 0 = .ok (.iload_n 1, 1) := by decide +kernel
theorem dQ_status_1 : decode M_Q_status.2.1 1 = .ok (.iconst 1, 1) := by decide +kernel
theorem dQ_status_2 : decode M_Q_status.2.1 2 = .ok (.if_icmp .lt 14, 3) := by decide +kernel
theorem dQ_status_5 : decode M_Q_status.2.1 5 = .ok (.iload_n 1, 1) := by decide +kernel
theorem dQ_status_6 : decode M_Q_status.2.1 6 = .ok (.aload_n 0, 1) := by decide +kernel
theorem dQ_status_7 : decode M_Q_status.2.1 7 = .ok (.getfield 19, 3) := by decide +kernel
theorem dQ_status_10 : decode M_Q_status.2.1 10 = .ok (.getfield 105, 3) := by decide +kernel
theorem dQ_status_13 : decode M_Q_status.2.1 13 = .ok (.if_icmp .le 5, 3) := by decide +kernel
theorem dQ_status_16 : decode M_Q_status.2.1 16 = .ok (.iconst 0, 1) := by decide +kernel
theorem dQ_status_17 : decode M_Q_status.2.1 17 = .ok (.ireturn, 1) := by decide +kernel
theorem dQ_status_18 : decode M_Q_status.2.1 18 = .ok (.aload_n 0, 1) := by decide +kernel
theorem dQ_status_19 : decode M_Q_status.2.1 19 = .ok (.getfield 19, 3) := by decide +kernel
theorem dQ_status_22 : decode M_Q_status.2.1 22 = .ok (.iload_n 1, 1) := by decide +kernel
theorem dQ_status_23 : decode M_Q_status.2.1 23 = .ok (.invokevirtual 108, 3) := by decide +kernel
theorem dQ_status_26 : decode M_Q_status.2.1 26 = .ok (.ifCond .eq 5, 3) := by decide +kernel
theorem dQ_status_29 : decode M_Q_status.2.1 29 = .ok (.iconst 1, 1) := by decide +kernel
theorem dQ_status_30 : decode M_Q_status.2.1 30 = .ok (.ireturn, 1) := by decide +kernel
theorem dQ_status_31 : decode M_Q_status.2.1 31 = .ok (.aload_n 0, 1) := by decide +kernel
theorem dQ_status_32 : decode M_Q_status.2.1 32 = .ok (.getfield 10, 3) := by decide +kernel
theorem dQ_status_35 : decode M_Q_status.2.1 35 = .ok (.getfield 111, 3) := by decide +kernel
theorem dQ_status_38 : decode M_Q_status.2.1 38 = .ok (.iload_n 1, 1) := by decide +kernel
theorem dQ_status_39 : decode M_Q_status.2.1 39 = .ok (.iaload, 1) := by decide +kernel
theorem dQ_status_40 : decode M_Q_status.2.1 40 = .ok (.istore_n 2, 1) := by decide +kernel
theorem dQ_status_41 : decode M_Q_status.2.1 41 = .ok (.iload_n 2, 1) := by decide +kernel
theorem dQ_status_42 : decode M_Q_status.2.1 42 = .ok (.ifCond .ne 5, 3) := by decide +kernel
theorem dQ_status_45 : decode M_Q_status.2.1 45 = .ok (.iconst 5, 1) := by decide +kernel
theorem dQ_status_46 : decode M_Q_status.2.1 46 = .ok (.ireturn, 1) := by decide +kernel
theorem dQ_status_47 : decode M_Q_status.2.1 47 = .ok (.aload_n 0, 1) := by decide +kernel
theorem dQ_status_48 : decode M_Q_status.2.1 48 = .ok (.getfield 10, 3) := by decide +kernel
theorem dQ_status_51 : decode M_Q_status.2.1 51 = .ok (.iload_n 2, 1) := by decide +kernel
theorem dQ_status_52 : decode M_Q_status.2.1 52 = .ok (.invokevirtual 114, 3) := by decide +kernel
theorem dQ_status_55 : decode M_Q_status.2.1 55 = .ok (.ifCond .ne 5, 3) := by decide +kernel
theorem dQ_status_58 : decode M_Q_status.2.1 58 = .ok (.iconst 4, 1) := by decide +kernel
theorem dQ_status_59 : decode M_Q_status.2.1 59 = .ok (.ireturn, 1) := by decide +kernel
theorem dQ_status_60 : decode M_Q_status.2.1 60 = .ok (.iload_n 2, 1) := by decide +kernel
theorem dQ_status_61 : decode M_Q_status.2.1 61 = .ok (.aload_n 0, 1) := by decide +kernel
theorem dQ_status_62 : decode M_Q_status.2.1 62 = .ok (.getfield 47, 3) := by decide +kernel
theorem dQ_status_65 : decode M_Q_status.2.1 65 = .ok (.if_icmp .le 7, 3) := by decide +kernel
theorem dQ_status_68 : decode M_Q_status.2.1 68 = .ok (.iconst 2, 1) := by decide +kernel
theorem dQ_status_69 : decode M_Q_status.2.1 69 = .ok (.goto 4, 3) := by decide +kernel
theorem dQ_status_72 : decode M_Q_status.2.1 72 = .ok (.iconst 3, 1) := by decide +kernel
theorem dQ_status_73 : decode M_Q_status.2.1 73 = .ok (.ireturn, 1) := by decide +kernel
theorem dQ_deliver_0 : decode M_Q_deliver.2.1 0 = .ok (.aload_n 0, 1) := by decide +kernel
theorem dQ_deliver_1 : decode M_Q_deliver.2.1 1 = .ok (.getfield 10, 3) := by decide +kernel
theorem dQ_deliver_4 : decode M_Q_deliver.2.1 4 = .ok (.iload_n 1, 1) := by decide +kernel
theorem dQ_deliver_5 : decode M_Q_deliver.2.1 5 = .ok (.invokevirtual 117, 3) := by decide +kernel
theorem dQ_deliver_8 : decode M_Q_deliver.2.1 8 = .ok (.ifCond .eq 13, 3) := by decide +kernel
theorem dQ_deliver_11 : decode M_Q_deliver.2.1 11 = .ok (.iload_n 2, 1) := by decide +kernel
theorem dQ_deliver_12 : decode M_Q_deliver.2.1 12 = .ok (.ifCond .lt 9, 3) := by decide +kernel
theorem dQ_deliver_15 : decode M_Q_deliver.2.1 15 = .ok (.iload_n 2, 1) := by decide +kernel
theorem dQ_deliver_16 : decode M_Q_deliver.2.1 16 = .ok (.bipush 6, 2) := by decide +kernel
theorem dQ_deliver_18 : decode M_Q_deliver.2.1 18 = .ok (.if_icmp .lt 5, 3) := by decide +kernel
theorem dQ_deliver_21 : decode M_Q_deliver.2.1 21 = .ok (.iconst (-1), 1) := by decide +kernel
theorem dQ_deliver_22 : decode M_Q_deliver.2.1 22 = .ok (.ireturn, 1) := by decide +kernel
theorem dQ_deliver_23 : decode M_Q_deliver.2.1 23 = .ok (.aload_n 0, 1) := by decide +kernel
theorem dQ_deliver_24 : decode M_Q_deliver.2.1 24 = .ok (.getfield 25, 3) := by decide +kernel
theorem dQ_deliver_27 : decode M_Q_deliver.2.1 27 = .ok (.aload_n 0, 1) := by decide +kernel
theorem dQ_deliver_28 : decode M_Q_deliver.2.1 28 = .ok (.getfield 10, 3) := by decide +kernel
theorem dQ_deliver_31 : decode M_Q_deliver.2.1 31 = .ok (.getfield 120, 3) := by decide +kernel
theorem dQ_deliver_34 : decode M_Q_deliver.2.1 34 = .ok (.iload_n 1, 1) := by decide +kernel
theorem dQ_deliver_35 : decode M_Q_deliver.2.1 35 = .ok (.iaload, 1) := by decide +kernel
theorem dQ_deliver_36 : decode M_Q_deliver.2.1 36 = .ok (.aaload, 1) := by decide +kernel
theorem dQ_deliver_37 : decode M_Q_deliver.2.1 37 = .ok (.getfield 123, 3) := by decide +kernel
theorem dQ_deliver_40 : decode M_Q_deliver.2.1 40 = .ok (.iload_n 2, 1) := by decide +kernel
theorem dQ_deliver_41 : decode M_Q_deliver.2.1 41 = .ok (.aaload, 1) := by decide +kernel
theorem dQ_deliver_42 : decode M_Q_deliver.2.1 42 = .ok (.astore_n 3, 1) := by decide +kernel
theorem dQ_deliver_43 : decode M_Q_deliver.2.1 43 = .ok (.aload_n 3, 1) := by decide +kernel
theorem dQ_deliver_44 : decode M_Q_deliver.2.1 44 = .ok (.invokevirtual 127, 3) := by decide +kernel
theorem dQ_deliver_47 : decode M_Q_deliver.2.1 47 = .ok (.ifCond .ne 5, 3) := by decide +kernel
theorem dQ_deliver_50 : decode M_Q_deliver.2.1 50 = .ok (.iconst 0, 1) := by decide +kernel
theorem dQ_deliver_51 : decode M_Q_deliver.2.1 51 = .ok (.ireturn, 1) := by decide +kernel
theorem dQ_deliver_52 : decode M_Q_deliver.2.1 52 = .ok (.aload_n 3, 1) := by decide +kernel
theorem dQ_deliver_53 : decode M_Q_deliver.2.1 53 = .ok (.iload_n 1, 1) := by decide +kernel
theorem dQ_deliver_54 : decode M_Q_deliver.2.1 54 = .ok (.invokevirtual 132, 3) := by decide +kernel
theorem dQ_deliver_57 : decode M_Q_deliver.2.1 57 = .ok (.istore 4, 2) := by decide +kernel
theorem dQ_deliver_59 : decode M_Q_deliver.2.1 59 = .ok (.aload_n 0, 1) := by decide +kernel
theorem dQ_deliver_60 : decode M_Q_deliver.2.1 60 = .ok (.getfield 43, 3) := by decide +kernel
theorem dQ_deliver_63 : decode M_Q_deliver.2.1 63 = .ok (.ifCond .eq 15, 3) := by decide +kernel
theorem dQ_deliver_66 : decode M_Q_deliver.2.1 66 = .ok (.aload_n 3, 1) := by decide +kernel
theorem dQ_deliver_67 : decode M_Q_deliver.2.1 67 = .ok (.aload_n 0, 1) := by decide +kernel
theorem dQ_deliver_68 : decode M_Q_deliver.2.1 68 = .ok (.getfield 10, 3) := by decide +kernel
theorem dQ_deliver_71 : decode M_Q_deliver.2.1 71 = .ok (.invokevirtual 135, 3) := by decide +kernel
theorem dQ_deliver_74 : decode M_Q_deliver.2.1 74 = .ok (.aload_n 0, 1) := by decide +kernel
theorem dQ_deliver_75 : decode M_Q_deliver.2.1 75 = .ok (.invokevirtual 139, 3) := by decide +kernel
theorem dQ_deliver_78 : decode M_Q_deliver.2.1 78 = .ok (.iload 4, 2) := by decide +kernel
theorem dQ_deliver_80 : decode M_Q_deliver.2.1 80 = .ok (.ifCond .eq 7, 3) := by decide +kernel
theorem dQ_deliver_83 : decode M_Q_deliver.2.1 83 = .ok (.iconst 2, 1) := by decide +kernel
theorem dQ_deliver_84 : decode M_Q_deliver.2.1 84 = .ok (.goto 4, 3) := by decide +kernel
theorem dQ_deliver_87 : decode M_Q_deliver.2.1 87 = .ok (.iconst 1, 1) := by decide +kernel
theorem dQ_deliver_88 : decode M_Q_deliver.2.1 88 = .ok (.ireturn, 1) := by decide +kernel
theorem dQ_gossip_0 : decode M_Q_gossip.2.1 0 = .ok (.iload_n 1, 1) := by decide +kernel
theorem dQ_gossip_1 : decode M_Q_gossip.2.1 1 = .ok (.iload_n 2, 1) := by decide +kernel
theorem dQ_gossip_2 : decode M_Q_gossip.2.1 2 = .ok (.invokestatic 142, 3) := by decide +kernel
theorem dQ_gossip_5 : decode M_Q_gossip.2.1 5 = .ok (.ifCond .eq 16, 3) := by decide +kernel
theorem dQ_gossip_8 : decode M_Q_gossip.2.1 8 = .ok (.iload_n 1, 1) := by decide +kernel
theorem dQ_gossip_9 : decode M_Q_gossip.2.1 9 = .ok (.iload_n 3, 1) := by decide +kernel
theorem dQ_gossip_10 : decode M_Q_gossip.2.1 10 = .ok (.invokestatic 142, 3) := by decide +kernel
theorem dQ_gossip_13 : decode M_Q_gossip.2.1 13 = .ok (.ifCond .eq 8, 3) := by decide +kernel
theorem dQ_gossip_16 : decode M_Q_gossip.2.1 16 = .ok (.iload_n 2, 1) := by decide +kernel
theorem dQ_gossip_17 : decode M_Q_gossip.2.1 17 = .ok (.iload_n 3, 1) := by decide +kernel
theorem dQ_gossip_18 : decode M_Q_gossip.2.1 18 = .ok (.if_icmp .ne 5, 3) := by decide +kernel
theorem dQ_gossip_21 : decode M_Q_gossip.2.1 21 = .ok (.iconst (-1), 1) := by decide +kernel
theorem dQ_gossip_22 : decode M_Q_gossip.2.1 22 = .ok (.ireturn, 1) := by decide +kernel
theorem dQ_gossip_23 : decode M_Q_gossip.2.1 23 = .ok (.aload_n 0, 1) := by decide +kernel
theorem dQ_gossip_24 : decode M_Q_gossip.2.1 24 = .ok (.getfield 25, 3) := by decide +kernel
theorem dQ_gossip_27 : decode M_Q_gossip.2.1 27 = .ok (.iload_n 1, 1) := by decide +kernel
theorem dQ_gossip_28 : decode M_Q_gossip.2.1 28 = .ok (.aaload, 1) := by decide +kernel
theorem dQ_gossip_29 : decode M_Q_gossip.2.1 29 = .ok (.getfield 123, 3) := by decide +kernel
theorem dQ_gossip_32 : decode M_Q_gossip.2.1 32 = .ok (.iload_n 2, 1) := by decide +kernel
theorem dQ_gossip_33 : decode M_Q_gossip.2.1 33 = .ok (.aaload, 1) := by decide +kernel
theorem dQ_gossip_34 : decode M_Q_gossip.2.1 34 = .ok (.astore 4, 2) := by decide +kernel
theorem dQ_gossip_36 : decode M_Q_gossip.2.1 36 = .ok (.aload_n 0, 1) := by decide +kernel
theorem dQ_gossip_37 : decode M_Q_gossip.2.1 37 = .ok (.getfield 25, 3) := by decide +kernel
theorem dQ_gossip_40 : decode M_Q_gossip.2.1 40 = .ok (.iload_n 1, 1) := by decide +kernel
theorem dQ_gossip_41 : decode M_Q_gossip.2.1 41 = .ok (.aaload, 1) := by decide +kernel
theorem dQ_gossip_42 : decode M_Q_gossip.2.1 42 = .ok (.getfield 123, 3) := by decide +kernel
theorem dQ_gossip_45 : decode M_Q_gossip.2.1 45 = .ok (.iload_n 3, 1) := by decide +kernel
theorem dQ_gossip_46 : decode M_Q_gossip.2.1 46 = .ok (.aaload, 1) := by decide +kernel
theorem dQ_gossip_47 : decode M_Q_gossip.2.1 47 = .ok (.astore 5, 2) := by decide +kernel
theorem dQ_gossip_49 : decode M_Q_gossip.2.1 49 = .ok (.aload 4, 2) := by decide +kernel
theorem dQ_gossip_51 : decode M_Q_gossip.2.1 51 = .ok (.invokevirtual 127, 3) := by decide +kernel
theorem dQ_gossip_54 : decode M_Q_gossip.2.1 54 = .ok (.ifCond .eq 11, 3) := by decide +kernel
theorem dQ_gossip_57 : decode M_Q_gossip.2.1 57 = .ok (.aload 5, 2) := by decide +kernel
theorem dQ_gossip_59 : decode M_Q_gossip.2.1 59 = .ok (.invokevirtual 127, 3) := by decide +kernel
theorem dQ_gossip_62 : decode M_Q_gossip.2.1 62 = .ok (.ifCond .ne 6, 3) := by decide +kernel
theorem dQ_gossip_65 : decode M_Q_gossip.2.1 65 = .ok (.bipush (-7), 2) := by decide +kernel
theorem dQ_gossip_67 : decode M_Q_gossip.2.1 67 = .ok (.ireturn, 1) := by decide +kernel
theorem dQ_gossip_68 : decode M_Q_gossip.2.1 68 = .ok (.aload 5, 2) := by decide +kernel
theorem dQ_gossip_70 : decode M_Q_gossip.2.1 70 = .ok (.aload 4, 2) := by decide +kernel
theorem dQ_gossip_72 : decode M_Q_gossip.2.1 72 = .ok (.invokevirtual 146, 3) := by decide +kernel
theorem dQ_gossip_75 : decode M_Q_gossip.2.1 75 = .ok (.ireturn, 1) := by decide +kernel
theorem dQ_report_0 : decode M_Q_report.2.1 0 = .ok (.aload_n 0, 1) := by decide +kernel
theorem dQ_report_1 : decode M_Q_report.2.1 1 = .ok (.iload_n 1, 1) := by decide +kernel
theorem dQ_report_2 : decode M_Q_report.2.1 2 = .ok (.iload_n 2, 1) := by decide +kernel
theorem dQ_report_3 : decode M_Q_report.2.1 3 = .ok (.invokevirtual 150, 3) := by decide +kernel
theorem dQ_report_6 : decode M_Q_report.2.1 6 = .ok (.istore_n 3, 1) := by decide +kernel
theorem dQ_report_7 : decode M_Q_report.2.1 7 = .ok (.iload_n 3, 1) := by decide +kernel
theorem dQ_report_8 : decode M_Q_report.2.1 8 = .ok (.ifCond .eq 5, 3) := by decide +kernel
theorem dQ_report_11 : decode M_Q_report.2.1 11 = .ok (.iload_n 3, 1) := by decide +kernel
theorem dQ_report_12 : decode M_Q_report.2.1 12 = .ok (.ireturn, 1) := by decide +kernel
theorem dQ_report_13 : decode M_Q_report.2.1 13 = .ok (.aload_n 0, 1) := by decide +kernel
theorem dQ_report_14 : decode M_Q_report.2.1 14 = .ok (.getfield 25, 3) := by decide +kernel
theorem dQ_report_17 : decode M_Q_report.2.1 17 = .ok (.iload_n 1, 1) := by decide +kernel
theorem dQ_report_18 : decode M_Q_report.2.1 18 = .ok (.aaload, 1) := by decide +kernel
theorem dQ_report_19 : decode M_Q_report.2.1 19 = .ok (.getfield 123, 3) := by decide +kernel
theorem dQ_report_22 : decode M_Q_report.2.1 22 = .ok (.iload_n 2, 1) := by decide +kernel
theorem dQ_report_23 : decode M_Q_report.2.1 23 = .ok (.aaload, 1) := by decide +kernel
theorem dQ_report_24 : decode M_Q_report.2.1 24 = .ok (.astore 4, 2) := by decide +kernel
theorem dQ_report_26 : decode M_Q_report.2.1 26 = .ok (.aload 4, 2) := by decide +kernel
theorem dQ_report_28 : decode M_Q_report.2.1 28 = .ok (.aload_n 0, 1) := by decide +kernel
theorem dQ_report_29 : decode M_Q_report.2.1 29 = .ok (.getfield 10, 3) := by decide +kernel
theorem dQ_report_32 : decode M_Q_report.2.1 32 = .ok (.invokevirtual 135, 3) := by decide +kernel
theorem dQ_report_35 : decode M_Q_report.2.1 35 = .ok (.aload_n 0, 1) := by decide +kernel
theorem dQ_report_36 : decode M_Q_report.2.1 36 = .ok (.invokevirtual 139, 3) := by decide +kernel
theorem dQ_report_39 : decode M_Q_report.2.1 39 = .ok (.aload 4, 2) := by decide +kernel
theorem dQ_report_41 : decode M_Q_report.2.1 41 = .ok (.getfield 153, 3) := by decide +kernel
theorem dQ_report_44 : decode M_Q_report.2.1 44 = .ok (.ireturn, 1) := by decide +kernel
theorem dQ_fault_0 : decode M_Q_fault.2.1 0 = .ok (.iload_n 1, 1) := by decide +kernel
theorem dQ_fault_1 : decode M_Q_fault.2.1 1 = .ok (.iload_n 2, 1) := by decide +kernel
theorem dQ_fault_2 : decode M_Q_fault.2.1 2 = .ok (.invokestatic 142, 3) := by decide +kernel
theorem dQ_fault_5 : decode M_Q_fault.2.1 5 = .ok (.ifCond .ne 5, 3) := by decide +kernel
theorem dQ_fault_8 : decode M_Q_fault.2.1 8 = .ok (.iconst 0, 1) := by decide +kernel
theorem dQ_fault_9 : decode M_Q_fault.2.1 9 = .ok (.ireturn, 1) := by decide +kernel
theorem dQ_fault_10 : decode M_Q_fault.2.1 10 = .ok (.aload_n 0, 1) := by decide +kernel
theorem dQ_fault_11 : decode M_Q_fault.2.1 11 = .ok (.getfield 25, 3) := by decide +kernel
theorem dQ_fault_14 : decode M_Q_fault.2.1 14 = .ok (.iload_n 1, 1) := by decide +kernel
theorem dQ_fault_15 : decode M_Q_fault.2.1 15 = .ok (.aaload, 1) := by decide +kernel
theorem dQ_fault_16 : decode M_Q_fault.2.1 16 = .ok (.getfield 123, 3) := by decide +kernel
theorem dQ_fault_19 : decode M_Q_fault.2.1 19 = .ok (.iload_n 2, 1) := by decide +kernel
theorem dQ_fault_20 : decode M_Q_fault.2.1 20 = .ok (.aaload, 1) := by decide +kernel
theorem dQ_fault_21 : decode M_Q_fault.2.1 21 = .ok (.astore 4, 2) := by decide +kernel
theorem dQ_fault_23 : decode M_Q_fault.2.1 23 = .ok (.iload_n 3, 1) := by decide +kernel
theorem dQ_fault_24 : decode M_Q_fault.2.1 24 = .ok (.tableswitch 66 0 3 #[32, 40, 48, 54], 32) := by decide +kernel
theorem dQ_fault_56 : decode M_Q_fault.2.1 56 = .ok (.aload 4, 2) := by decide +kernel
theorem dQ_fault_58 : decode M_Q_fault.2.1 58 = .ok (.iconst 0, 1) := by decide +kernel
theorem dQ_fault_59 : decode M_Q_fault.2.1 59 = .ok (.iconst 1, 1) := by decide +kernel
theorem dQ_fault_60 : decode M_Q_fault.2.1 60 = .ok (.invokevirtual 156, 3) := by decide +kernel
theorem dQ_fault_63 : decode M_Q_fault.2.1 63 = .ok (.ireturn, 1) := by decide +kernel
theorem dQ_fault_64 : decode M_Q_fault.2.1 64 = .ok (.aload 4, 2) := by decide +kernel
theorem dQ_fault_66 : decode M_Q_fault.2.1 66 = .ok (.iconst 1, 1) := by decide +kernel
theorem dQ_fault_67 : decode M_Q_fault.2.1 67 = .ok (.iconst 0, 1) := by decide +kernel
theorem dQ_fault_68 : decode M_Q_fault.2.1 68 = .ok (.invokevirtual 156, 3) := by decide +kernel
theorem dQ_fault_71 : decode M_Q_fault.2.1 71 = .ok (.ireturn, 1) := by decide +kernel
theorem dQ_fault_72 : decode M_Q_fault.2.1 72 = .ok (.aload 4, 2) := by decide +kernel
theorem dQ_fault_74 : decode M_Q_fault.2.1 74 = .ok (.invokevirtual 159, 3) := by decide +kernel
theorem dQ_fault_77 : decode M_Q_fault.2.1 77 = .ok (.ireturn, 1) := by decide +kernel
theorem dQ_fault_78 : decode M_Q_fault.2.1 78 = .ok (.aload_n 0, 1) := by decide +kernel
theorem dQ_fault_79 : decode M_Q_fault.2.1 79 = .ok (.getfield 25, 3) := by decide +kernel
theorem dQ_fault_82 : decode M_Q_fault.2.1 82 = .ok (.iload_n 1, 1) := by decide +kernel
theorem dQ_fault_83 : decode M_Q_fault.2.1 83 = .ok (.aaload, 1) := by decide +kernel
theorem dQ_fault_84 : decode M_Q_fault.2.1 84 = .ok (.aload 4, 2) := by decide +kernel
theorem dQ_fault_86 : decode M_Q_fault.2.1 86 = .ok (.invokevirtual 162, 3) := by decide +kernel
theorem dQ_fault_89 : decode M_Q_fault.2.1 89 = .ok (.ireturn, 1) := by decide +kernel
theorem dQ_fault_90 : decode M_Q_fault.2.1 90 = .ok (.iconst 0, 1) := by decide +kernel
theorem dQ_fault_91 : decode M_Q_fault.2.1 91 = .ok (.ireturn, 1) := by decide +kernel
theorem dQ_crash_0 : decode M_Q_crash.2.1 0 = .ok (.aload_n 0, 1) := by decide +kernel
theorem dQ_crash_1 : decode M_Q_crash.2.1 1 = .ok (.getfield 43, 3) := by decide +kernel
theorem dQ_crash_4 : decode M_Q_crash.2.1 4 = .ok (.ifCond .ne 5, 3) := by decide +kernel
theorem dQ_crash_7 : decode M_Q_crash.2.1 7 = .ok (.iconst 0, 1) := by decide +kernel
theorem dQ_crash_8 : decode M_Q_crash.2.1 8 = .ok (.ireturn, 1) := by decide +kernel
theorem dQ_crash_9 : decode M_Q_crash.2.1 9 = .ok (.aload_n 0, 1) := by decide +kernel
theorem dQ_crash_10 : decode M_Q_crash.2.1 10 = .ok (.iconst 0, 1) := by decide +kernel
theorem dQ_crash_11 : decode M_Q_crash.2.1 11 = .ok (.putfield 43, 3) := by decide +kernel
theorem dQ_crash_14 : decode M_Q_crash.2.1 14 = .ok (.aload_n 0, 1) := by decide +kernel
theorem dQ_crash_15 : decode M_Q_crash.2.1 15 = .ok (.getfield 35, 3) := by decide +kernel
theorem dQ_crash_18 : decode M_Q_crash.2.1 18 = .ok (.invokevirtual 166, 3) := by decide +kernel
theorem dQ_crash_21 : decode M_Q_crash.2.1 21 = .ok (.iconst 0, 1) := by decide +kernel
theorem dQ_crash_22 : decode M_Q_crash.2.1 22 = .ok (.istore_n 1, 1) := by decide +kernel
theorem dQ_crash_23 : decode M_Q_crash.2.1 23 = .ok (.iload_n 1, 1) := by decide +kernel
theorem dQ_crash_24 : decode M_Q_crash.2.1 24 = .ok (.iconst 2, 1) := by decide +kernel
theorem dQ_crash_25 : decode M_Q_crash.2.1 25 = .ok (.if_icmp .ge 18, 3) := by decide +kernel
theorem dQ_crash_28 : decode M_Q_crash.2.1 28 = .ok (.aload_n 0, 1) := by decide +kernel
theorem dQ_crash_29 : decode M_Q_crash.2.1 29 = .ok (.getfield 25, 3) := by decide +kernel
theorem dQ_crash_32 : decode M_Q_crash.2.1 32 = .ok (.iload_n 1, 1) := by decide +kernel
theorem dQ_crash_33 : decode M_Q_crash.2.1 33 = .ok (.aaload, 1) := by decide +kernel
theorem dQ_crash_34 : decode M_Q_crash.2.1 34 = .ok (.invokevirtual 169, 3) := by decide +kernel
theorem dQ_crash_37 : decode M_Q_crash.2.1 37 = .ok (.iinc 1 1, 3) := by decide +kernel
theorem dQ_crash_40 : decode M_Q_crash.2.1 40 = .ok (.goto (-17), 3) := by decide +kernel
theorem dQ_crash_43 : decode M_Q_crash.2.1 43 = .ok (.iconst 1, 1) := by decide +kernel
theorem dQ_crash_44 : decode M_Q_crash.2.1 44 = .ok (.ireturn, 1) := by decide +kernel
theorem dQ_recover_0 : decode M_Q_recover.2.1 0 = .ok (.aload_n 0, 1) := by decide +kernel
theorem dQ_recover_1 : decode M_Q_recover.2.1 1 = .ok (.getfield 43, 3) := by decide +kernel
theorem dQ_recover_4 : decode M_Q_recover.2.1 4 = .ok (.ifCond .eq 5, 3) := by decide +kernel
theorem dQ_recover_7 : decode M_Q_recover.2.1 7 = .ok (.iconst (-1), 1) := by decide +kernel
theorem dQ_recover_8 : decode M_Q_recover.2.1 8 = .ok (.ireturn, 1) := by decide +kernel
theorem dQ_recover_9 : decode M_Q_recover.2.1 9 = .ok (.iconst 0, 1) := by decide +kernel
theorem dQ_recover_10 : decode M_Q_recover.2.1 10 = .ok (.istore_n 1, 1) := by decide +kernel
theorem dQ_recover_11 : decode M_Q_recover.2.1 11 = .ok (.iload_n 1, 1) := by decide +kernel
theorem dQ_recover_12 : decode M_Q_recover.2.1 12 = .ok (.iconst 2, 1) := by decide +kernel
theorem dQ_recover_13 : decode M_Q_recover.2.1 13 = .ok (.if_icmp .ge 25, 3) := by decide +kernel
theorem dQ_recover_16 : decode M_Q_recover.2.1 16 = .ok (.aload_n 0, 1) := by decide +kernel
theorem dQ_recover_17 : decode M_Q_recover.2.1 17 = .ok (.getfield 25, 3) := by decide +kernel
theorem dQ_recover_20 : decode M_Q_recover.2.1 20 = .ok (.iload_n 1, 1) := by decide +kernel
theorem dQ_recover_21 : decode M_Q_recover.2.1 21 = .ok (.aaload, 1) := by decide +kernel
theorem dQ_recover_22 : decode M_Q_recover.2.1 22 = .ok (.invokevirtual 172, 3) := by decide +kernel
theorem dQ_recover_25 : decode M_Q_recover.2.1 25 = .ok (.iconst 3, 1) := by decide +kernel
theorem dQ_recover_26 : decode M_Q_recover.2.1 26 = .ok (.if_icmp .ge 6, 3) := by decide +kernel
theorem dQ_recover_29 : decode M_Q_recover.2.1 29 = .ok (.bipush (-7), 2) := by decide +kernel
theorem dQ_recover_31 : decode M_Q_recover.2.1 31 = .ok (.ireturn, 1) := by decide +kernel
theorem dQ_recover_32 : decode M_Q_recover.2.1 32 = .ok (.iinc 1 1, 3) := by decide +kernel
theorem dQ_recover_35 : decode M_Q_recover.2.1 35 = .ok (.goto (-24), 3) := by decide +kernel
theorem dQ_recover_38 : decode M_Q_recover.2.1 38 = .ok (.aload_n 0, 1) := by decide +kernel
theorem dQ_recover_39 : decode M_Q_recover.2.1 39 = .ok (.getfield 10, 3) := by decide +kernel
theorem dQ_recover_42 : decode M_Q_recover.2.1 42 = .ok (.aload_n 0, 1) := by decide +kernel
theorem dQ_recover_43 : decode M_Q_recover.2.1 43 = .ok (.invokevirtual 175, 3) := by decide +kernel
theorem dQ_recover_46 : decode M_Q_recover.2.1 46 = .ok (.invokevirtual 178, 3) := by decide +kernel
theorem dQ_recover_49 : decode M_Q_recover.2.1 49 = .ok (.istore_n 1, 1) := by decide +kernel
theorem dQ_recover_50 : decode M_Q_recover.2.1 50 = .ok (.iconst 0, 1) := by decide +kernel
theorem dQ_recover_51 : decode M_Q_recover.2.1 51 = .ok (.istore_n 2, 1) := by decide +kernel
theorem dQ_recover_52 : decode M_Q_recover.2.1 52 = .ok (.iload_n 2, 1) := by decide +kernel
theorem dQ_recover_53 : decode M_Q_recover.2.1 53 = .ok (.iconst 2, 1) := by decide +kernel
theorem dQ_recover_54 : decode M_Q_recover.2.1 54 = .ok (.if_icmp .ge 19, 3) := by decide +kernel
theorem dQ_recover_57 : decode M_Q_recover.2.1 57 = .ok (.aload_n 0, 1) := by decide +kernel
theorem dQ_recover_58 : decode M_Q_recover.2.1 58 = .ok (.getfield 25, 3) := by decide +kernel
theorem dQ_recover_61 : decode M_Q_recover.2.1 61 = .ok (.iload_n 2, 1) := by decide +kernel
theorem dQ_recover_62 : decode M_Q_recover.2.1 62 = .ok (.aaload, 1) := by decide +kernel
theorem dQ_recover_63 : decode M_Q_recover.2.1 63 = .ok (.iload_n 1, 1) := by decide +kernel
theorem dQ_recover_64 : decode M_Q_recover.2.1 64 = .ok (.invokevirtual 181, 3) := by decide +kernel
theorem dQ_recover_67 : decode M_Q_recover.2.1 67 = .ok (.iinc 2 1, 3) := by decide +kernel
theorem dQ_recover_70 : decode M_Q_recover.2.1 70 = .ok (.goto (-18), 3) := by decide +kernel
theorem dQ_recover_73 : decode M_Q_recover.2.1 73 = .ok (.aload_n 0, 1) := by decide +kernel
theorem dQ_recover_74 : decode M_Q_recover.2.1 74 = .ok (.getfield 10, 3) := by decide +kernel
theorem dQ_recover_77 : decode M_Q_recover.2.1 77 = .ok (.iload_n 1, 1) := by decide +kernel
theorem dQ_recover_78 : decode M_Q_recover.2.1 78 = .ok (.invokevirtual 184, 3) := by decide +kernel
theorem dQ_recover_81 : decode M_Q_recover.2.1 81 = .ok (.aload_n 0, 1) := by decide +kernel
theorem dQ_recover_82 : decode M_Q_recover.2.1 82 = .ok (.iconst 1, 1) := by decide +kernel
theorem dQ_recover_83 : decode M_Q_recover.2.1 83 = .ok (.putfield 43, 3) := by decide +kernel
theorem dQ_recover_86 : decode M_Q_recover.2.1 86 = .ok (.iconst 0, 1) := by decide +kernel
theorem dQ_recover_87 : decode M_Q_recover.2.1 87 = .ok (.istore_n 2, 1) := by decide +kernel
theorem dQ_recover_88 : decode M_Q_recover.2.1 88 = .ok (.iload_n 2, 1) := by decide +kernel
theorem dQ_recover_89 : decode M_Q_recover.2.1 89 = .ok (.iconst 2, 1) := by decide +kernel
theorem dQ_recover_90 : decode M_Q_recover.2.1 90 = .ok (.if_icmp .ge 22, 3) := by decide +kernel
theorem dQ_recover_93 : decode M_Q_recover.2.1 93 = .ok (.aload_n 0, 1) := by decide +kernel
theorem dQ_recover_94 : decode M_Q_recover.2.1 94 = .ok (.getfield 25, 3) := by decide +kernel
theorem dQ_recover_97 : decode M_Q_recover.2.1 97 = .ok (.iload_n 2, 1) := by decide +kernel
theorem dQ_recover_98 : decode M_Q_recover.2.1 98 = .ok (.aaload, 1) := by decide +kernel
theorem dQ_recover_99 : decode M_Q_recover.2.1 99 = .ok (.aload_n 0, 1) := by decide +kernel
theorem dQ_recover_100 : decode M_Q_recover.2.1 100 = .ok (.getfield 10, 3) := by decide +kernel
theorem dQ_recover_103 : decode M_Q_recover.2.1 103 = .ok (.invokevirtual 187, 3) := by decide +kernel
theorem dQ_recover_106 : decode M_Q_recover.2.1 106 = .ok (.iinc 2 1, 3) := by decide +kernel
theorem dQ_recover_109 : decode M_Q_recover.2.1 109 = .ok (.goto (-21), 3) := by decide +kernel
theorem dQ_recover_112 : decode M_Q_recover.2.1 112 = .ok (.aload_n 0, 1) := by decide +kernel
theorem dQ_recover_113 : decode M_Q_recover.2.1 113 = .ok (.invokevirtual 139, 3) := by decide +kernel
theorem dQ_recover_116 : decode M_Q_recover.2.1 116 = .ok (.aload_n 0, 1) := by decide +kernel
theorem dQ_recover_117 : decode M_Q_recover.2.1 117 = .ok (.getfield 19, 3) := by decide +kernel
theorem dQ_recover_120 : decode M_Q_recover.2.1 120 = .ok (.invokevirtual 190, 3) := by decide +kernel
theorem dQ_recover_123 : decode M_Q_recover.2.1 123 = .ok (.aload_n 0, 1) := by decide +kernel
theorem dQ_recover_124 : decode M_Q_recover.2.1 124 = .ok (.invokevirtual 193, 3) := by decide +kernel
theorem dQ_recover_127 : decode M_Q_recover.2.1 127 = .ok (.iload_n 1, 1) := by decide +kernel
theorem dQ_recover_128 : decode M_Q_recover.2.1 128 = .ok (.ireturn, 1) := by decide +kernel
theorem dQ_point_0 : decode M_Q_point.2.1 0 = .ok (.iload_n 1, 1) := by decide +kernel
theorem dQ_point_1 : decode M_Q_point.2.1 1 = .ok (.tableswitch 57 0 2 #[27, 35, 52], 27) := by decide +kernel
theorem dQ_point_28 : decode M_Q_point.2.1 28 = .ok (.aload_n 0, 1) := by decide +kernel
theorem dQ_point_29 : decode M_Q_point.2.1 29 = .ok (.getfield 10, 3) := by decide +kernel
theorem dQ_point_32 : decode M_Q_point.2.1 32 = .ok (.getfield 55, 3) := by decide +kernel
theorem dQ_point_35 : decode M_Q_point.2.1 35 = .ok (.ireturn, 1) := by decide +kernel
theorem dQ_point_36 : decode M_Q_point.2.1 36 = .ok (.aload_n 0, 1) := by decide +kernel
theorem dQ_point_37 : decode M_Q_point.2.1 37 = .ok (.getfield 43, 3) := by decide +kernel
theorem dQ_point_40 : decode M_Q_point.2.1 40 = .ok (.ifCond .eq 10, 3) := by decide +kernel
theorem dQ_point_43 : decode M_Q_point.2.1 43 = .ok (.aload_n 0, 1) := by decide +kernel
theorem dQ_point_44 : decode M_Q_point.2.1 44 = .ok (.invokevirtual 196, 3) := by decide +kernel
theorem dQ_point_47 : decode M_Q_point.2.1 47 = .ok (.goto 5, 3) := by decide +kernel
theorem dQ_point_50 : decode M_Q_point.2.1 50 = .ok (.bipush (-2), 2) := by decide +kernel
theorem dQ_point_52 : decode M_Q_point.2.1 52 = .ok (.ireturn, 1) := by decide +kernel
theorem dQ_point_53 : decode M_Q_point.2.1 53 = .ok (.aload_n 0, 1) := by decide +kernel
theorem dQ_point_54 : decode M_Q_point.2.1 54 = .ok (.getfield 47, 3) := by decide +kernel
theorem dQ_point_57 : decode M_Q_point.2.1 57 = .ok (.ireturn, 1) := by decide +kernel
theorem dQ_point_58 : decode M_Q_point.2.1 58 = .ok (.iconst (-1), 1) := by decide +kernel
theorem dQ_point_59 : decode M_Q_point.2.1 59 = .ok (.ireturn, 1) := by decide +kernel
theorem dQ_copy_0 : decode M_Q_copy.2.1 0 = .ok (.iload_n 1, 1) := by decide +kernel
theorem dQ_copy_1 : decode M_Q_copy.2.1 1 = .ok (.iload_n 2, 1) := by decide +kernel
theorem dQ_copy_2 : decode M_Q_copy.2.1 2 = .ok (.invokestatic 142, 3) := by decide +kernel
theorem dQ_copy_5 : decode M_Q_copy.2.1 5 = .ok (.ifCond .ne 5, 3) := by decide +kernel
theorem dQ_copy_8 : decode M_Q_copy.2.1 8 = .ok (.iconst (-1), 1) := by decide +kernel
theorem dQ_copy_9 : decode M_Q_copy.2.1 9 = .ok (.ireturn, 1) := by decide +kernel
theorem dQ_copy_10 : decode M_Q_copy.2.1 10 = .ok (.aload_n 0, 1) := by decide +kernel
theorem dQ_copy_11 : decode M_Q_copy.2.1 11 = .ok (.getfield 25, 3) := by decide +kernel
theorem dQ_copy_14 : decode M_Q_copy.2.1 14 = .ok (.iload_n 1, 1) := by decide +kernel
theorem dQ_copy_15 : decode M_Q_copy.2.1 15 = .ok (.aaload, 1) := by decide +kernel
theorem dQ_copy_16 : decode M_Q_copy.2.1 16 = .ok (.getfield 123, 3) := by decide +kernel
theorem dQ_copy_19 : decode M_Q_copy.2.1 19 = .ok (.iload_n 2, 1) := by decide +kernel
theorem dQ_copy_20 : decode M_Q_copy.2.1 20 = .ok (.aaload, 1) := by decide +kernel
theorem dQ_copy_21 : decode M_Q_copy.2.1 21 = .ok (.astore 4, 2) := by decide +kernel
theorem dQ_copy_23 : decode M_Q_copy.2.1 23 = .ok (.iload_n 3, 1) := by decide +kernel
theorem dQ_copy_24 : decode M_Q_copy.2.1 24 = .ok (.ifCond .ne 9, 3) := by decide +kernel
theorem dQ_copy_27 : decode M_Q_copy.2.1 27 = .ok (.aload 4, 2) := by decide +kernel
theorem dQ_copy_29 : decode M_Q_copy.2.1 29 = .ok (.getfield 199, 3) := by decide +kernel
theorem dQ_copy_32 : decode M_Q_copy.2.1 32 = .ok (.ireturn, 1) := by decide +kernel
theorem dQ_copy_33 : decode M_Q_copy.2.1 33 = .ok (.aload 4, 2) := by decide +kernel
theorem dQ_copy_35 : decode M_Q_copy.2.1 35 = .ok (.invokevirtual 127, 3) := by decide +kernel
theorem dQ_copy_38 : decode M_Q_copy.2.1 38 = .ok (.ifCond .ne 5, 3) := by decide +kernel
theorem dQ_copy_41 : decode M_Q_copy.2.1 41 = .ok (.iconst (-1), 1) := by decide +kernel
theorem dQ_copy_42 : decode M_Q_copy.2.1 42 = .ok (.ireturn, 1) := by decide +kernel
theorem dQ_copy_43 : decode M_Q_copy.2.1 43 = .ok (.iload_n 3, 1) := by decide +kernel
theorem dQ_copy_44 : decode M_Q_copy.2.1 44 = .ok (.lookupswitch 51 #[(1, 28), (2, 38)], 28) := by decide +kernel
theorem dQ_copy_72 : decode M_Q_copy.2.1 72 = .ok (.aload 4, 2) := by decide +kernel
theorem dQ_copy_74 : decode M_Q_copy.2.1 74 = .ok (.aload_n 0, 1) := by decide +kernel
theorem dQ_copy_75 : decode M_Q_copy.2.1 75 = .ok (.getfield 10, 3) := by decide +kernel
theorem dQ_copy_78 : decode M_Q_copy.2.1 78 = .ok (.invokevirtual 202, 3) := by decide +kernel
theorem dQ_copy_81 : decode M_Q_copy.2.1 81 = .ok (.ireturn, 1) := by decide +kernel
theorem dQ_copy_82 : decode M_Q_copy.2.1 82 = .ok (.aload 4, 2) := by decide +kernel
theorem dQ_copy_84 : decode M_Q_copy.2.1 84 = .ok (.aload_n 0, 1) := by decide +kernel
theorem dQ_copy_85 : decode M_Q_copy.2.1 85 = .ok (.getfield 10, 3) := by decide +kernel
theorem dQ_copy_88 : decode M_Q_copy.2.1 88 = .ok (.getfield 55, 3) := by decide +kernel
theorem dQ_copy_91 : decode M_Q_copy.2.1 91 = .ok (.invokevirtual 206, 3) := by decide +kernel
theorem dQ_copy_94 : decode M_Q_copy.2.1 94 = .ok (.ireturn, 1) := by decide +kernel
theorem dQ_copy_95 : decode M_Q_copy.2.1 95 = .ok (.iconst (-1), 1) := by decide +kernel
theorem dQ_copy_96 : decode M_Q_copy.2.1 96 = .ok (.ireturn, 1) := by decide +kernel
theorem dQ_follow_0 : decode M_Q_follow.2.1 0 = .ok (.iload_n 1, 1) := by decide +kernel
theorem dQ_follow_1 : decode M_Q_follow.2.1 1 = .ok (.invokestatic 209, 3) := by decide +kernel
theorem dQ_follow_4 : decode M_Q_follow.2.1 4 = .ok (.ifCond .ne 5, 3) := by decide +kernel
theorem dQ_follow_7 : decode M_Q_follow.2.1 7 = .ok (.iconst (-1), 1) := by decide +kernel
theorem dQ_follow_8 : decode M_Q_follow.2.1 8 = .ok (.ireturn, 1) := by decide +kernel
theorem dQ_follow_9 : decode M_Q_follow.2.1 9 = .ok (.aload_n 0, 1) := by decide +kernel
theorem dQ_follow_10 : decode M_Q_follow.2.1 10 = .ok (.getfield 43, 3) := by decide +kernel
theorem dQ_follow_13 : decode M_Q_follow.2.1 13 = .ok (.ifCond .ne 6, 3) := by decide +kernel
theorem dQ_follow_16 : decode M_Q_follow.2.1 16 = .ok (.bipush (-2), 2) := by decide +kernel
theorem dQ_follow_18 : decode M_Q_follow.2.1 18 = .ok (.ireturn, 1) := by decide +kernel
theorem dQ_follow_19 : decode M_Q_follow.2.1 19 = .ok (.aload_n 0, 1) := by decide +kernel
theorem dQ_follow_20 : decode M_Q_follow.2.1 20 = .ok (.getfield 39, 3) := by decide +kernel
theorem dQ_follow_23 : decode M_Q_follow.2.1 23 = .ok (.iload_n 1, 1) := by decide +kernel
theorem dQ_follow_24 : decode M_Q_follow.2.1 24 = .ok (.aload_n 0, 1) := by decide +kernel
theorem dQ_follow_25 : decode M_Q_follow.2.1 25 = .ok (.getfield 47, 3) := by decide +kernel
theorem dQ_follow_28 : decode M_Q_follow.2.1 28 = .ok (.iastore, 1) := by decide +kernel
theorem dQ_follow_29 : decode M_Q_follow.2.1 29 = .ok (.aload_n 0, 1) := by decide +kernel
theorem dQ_follow_30 : decode M_Q_follow.2.1 30 = .ok (.getfield 47, 3) := by decide +kernel
theorem dQ_follow_33 : decode M_Q_follow.2.1 33 = .ok (.ireturn, 1) := by decide +kernel
theorem dQ_view_0 : decode M_Q_view.2.1 0 = .ok (.iload_n 1, 1) := by decide +kernel
theorem dQ_view_1 : decode M_Q_view.2.1 1 = .ok (.invokestatic 209, 3) := by decide +kernel
theorem dQ_view_4 : decode M_Q_view.2.1 4 = .ok (.ifCond .eq 10, 3) := by decide +kernel
theorem dQ_view_7 : decode M_Q_view.2.1 7 = .ok (.iload_n 2, 1) := by decide +kernel
theorem dQ_view_8 : decode M_Q_view.2.1 8 = .ok (.invokestatic 62, 3) := by decide +kernel
theorem dQ_view_11 : decode M_Q_view.2.1 11 = .ok (.ifCond .ne 5, 3) := by decide +kernel
theorem dQ_view_14 : decode M_Q_view.2.1 14 = .ok (.iconst (-1), 1) := by decide +kernel
theorem dQ_view_15 : decode M_Q_view.2.1 15 = .ok (.ireturn, 1) := by decide +kernel
theorem dQ_view_16 : decode M_Q_view.2.1 16 = .ok (.aload_n 0, 1) := by decide +kernel
theorem dQ_view_17 : decode M_Q_view.2.1 17 = .ok (.getfield 25, 3) := by decide +kernel
theorem dQ_view_20 : decode M_Q_view.2.1 20 = .ok (.iload_n 2, 1) := by decide +kernel
theorem dQ_view_21 : decode M_Q_view.2.1 21 = .ok (.invokestatic 70, 3) := by decide +kernel
theorem dQ_view_24 : decode M_Q_view.2.1 24 = .ok (.invokestatic 212, 3) := by decide +kernel
theorem dQ_view_27 : decode M_Q_view.2.1 27 = .ok (.aaload, 1) := by decide +kernel
theorem dQ_view_28 : decode M_Q_view.2.1 28 = .ok (.aload_n 0, 1) := by decide +kernel
theorem dQ_view_29 : decode M_Q_view.2.1 29 = .ok (.getfield 39, 3) := by decide +kernel
theorem dQ_view_32 : decode M_Q_view.2.1 32 = .ok (.iload_n 1, 1) := by decide +kernel
theorem dQ_view_33 : decode M_Q_view.2.1 33 = .ok (.iaload, 1) := by decide +kernel
theorem dQ_view_34 : decode M_Q_view.2.1 34 = .ok (.aload_n 0, 1) := by decide +kernel
theorem dQ_view_35 : decode M_Q_view.2.1 35 = .ok (.getfield 10, 3) := by decide +kernel
theorem dQ_view_38 : decode M_Q_view.2.1 38 = .ok (.invokevirtual 215, 3) := by decide +kernel
theorem dQ_view_41 : decode M_Q_view.2.1 41 = .ok (.ifCond .ne 6, 3) := by decide +kernel
theorem dQ_view_44 : decode M_Q_view.2.1 44 = .ok (.bipush (-7), 2) := by decide +kernel
theorem dQ_view_46 : decode M_Q_view.2.1 46 = .ok (.ireturn, 1) := by decide +kernel
theorem dQ_view_47 : decode M_Q_view.2.1 47 = .ok (.aload_n 0, 1) := by decide +kernel
theorem dQ_view_48 : decode M_Q_view.2.1 48 = .ok (.getfield 10, 3) := by decide +kernel
theorem dQ_view_51 : decode M_Q_view.2.1 51 = .ok (.iload_n 2, 1) := by decide +kernel
theorem dQ_view_52 : decode M_Q_view.2.1 52 = .ok (.aload_n 0, 1) := by decide +kernel
theorem dQ_view_53 : decode M_Q_view.2.1 53 = .ok (.getfield 39, 3) := by decide +kernel
theorem dQ_view_56 : decode M_Q_view.2.1 56 = .ok (.iload_n 1, 1) := by decide +kernel
theorem dQ_view_57 : decode M_Q_view.2.1 57 = .ok (.iaload, 1) := by decide +kernel
theorem dQ_view_58 : decode M_Q_view.2.1 58 = .ok (.invokevirtual 219, 3) := by decide +kernel
theorem dQ_view_61 : decode M_Q_view.2.1 61 = .ok (.ireturn, 1) := by decide +kernel
theorem dQ_collect_0 : decode M_Q_collect.2.1 0 = .ok (.aload_n 0, 1) := by decide +kernel
theorem dQ_collect_1 : decode M_Q_collect.2.1 1 = .ok (.iload_n 1, 1) := by decide +kernel
theorem dQ_collect_2 : decode M_Q_collect.2.1 2 = .ok (.iload_n 2, 1) := by decide +kernel
theorem dQ_collect_3 : decode M_Q_collect.2.1 3 = .ok (.invokevirtual 150, 3) := by decide +kernel
theorem dQ_collect_6 : decode M_Q_collect.2.1 6 = .ok (.istore_n 3, 1) := by decide +kernel
theorem dQ_collect_7 : decode M_Q_collect.2.1 7 = .ok (.iload_n 3, 1) := by decide +kernel
theorem dQ_collect_8 : decode M_Q_collect.2.1 8 = .ok (.ifCond .eq 5, 3) := by decide +kernel
theorem dQ_collect_11 : decode M_Q_collect.2.1 11 = .ok (.iload_n 3, 1) := by decide +kernel
theorem dQ_collect_12 : decode M_Q_collect.2.1 12 = .ok (.ireturn, 1) := by decide +kernel
theorem dQ_collect_13 : decode M_Q_collect.2.1 13 = .ok (.aload_n 0, 1) := by decide +kernel
theorem dQ_collect_14 : decode M_Q_collect.2.1 14 = .ok (.getfield 25, 3) := by decide +kernel
theorem dQ_collect_17 : decode M_Q_collect.2.1 17 = .ok (.iload_n 1, 1) := by decide +kernel
theorem dQ_collect_18 : decode M_Q_collect.2.1 18 = .ok (.aaload, 1) := by decide +kernel
theorem dQ_collect_19 : decode M_Q_collect.2.1 19 = .ok (.getfield 123, 3) := by decide +kernel
theorem dQ_collect_22 : decode M_Q_collect.2.1 22 = .ok (.iload_n 2, 1) := by decide +kernel
theorem dQ_collect_23 : decode M_Q_collect.2.1 23 = .ok (.aaload, 1) := by decide +kernel
theorem dQ_collect_24 : decode M_Q_collect.2.1 24 = .ok (.astore 4, 2) := by decide +kernel
theorem dQ_collect_26 : decode M_Q_collect.2.1 26 = .ok (.aload 4, 2) := by decide +kernel
theorem dQ_collect_28 : decode M_Q_collect.2.1 28 = .ok (.aload_n 0, 1) := by decide +kernel
theorem dQ_collect_29 : decode M_Q_collect.2.1 29 = .ok (.getfield 10, 3) := by decide +kernel
theorem dQ_collect_32 : decode M_Q_collect.2.1 32 = .ok (.invokevirtual 202, 3) := by decide +kernel
theorem dQ_collect_35 : decode M_Q_collect.2.1 35 = .ok (.aload_n 0, 1) := by decide +kernel
theorem dQ_collect_36 : decode M_Q_collect.2.1 36 = .ok (.getfield 10, 3) := by decide +kernel
theorem dQ_collect_39 : decode M_Q_collect.2.1 39 = .ok (.aload_n 0, 1) := by decide +kernel
theorem dQ_collect_40 : decode M_Q_collect.2.1 40 = .ok (.getfield 47, 3) := by decide +kernel
theorem dQ_collect_43 : decode M_Q_collect.2.1 43 = .ok (.invokevirtual 222, 3) := by decide +kernel
theorem dQ_collect_46 : decode M_Q_collect.2.1 46 = .ok (.invokestatic 225, 3) := by decide +kernel
theorem dQ_collect_49 : decode M_Q_collect.2.1 49 = .ok (.istore 5, 2) := by decide +kernel
theorem dQ_collect_51 : decode M_Q_collect.2.1 51 = .ok (.iconst 0, 1) := by decide +kernel
theorem dQ_collect_52 : decode M_Q_collect.2.1 52 = .ok (.istore 6, 2) := by decide +kernel
theorem dQ_collect_54 : decode M_Q_collect.2.1 54 = .ok (.iload 6, 2) := by decide +kernel
theorem dQ_collect_56 : decode M_Q_collect.2.1 56 = .ok (.iconst 2, 1) := by decide +kernel
theorem dQ_collect_57 : decode M_Q_collect.2.1 57 = .ok (.if_icmp .ge 30, 3) := by decide +kernel
theorem dQ_collect_60 : decode M_Q_collect.2.1 60 = .ok (.iload 5, 2) := by decide +kernel
theorem dQ_collect_62 : decode M_Q_collect.2.1 62 = .ok (.aload_n 0, 1) := by decide +kernel
theorem dQ_collect_63 : decode M_Q_collect.2.1 63 = .ok (.getfield 10, 3) := by decide +kernel
theorem dQ_collect_66 : decode M_Q_collect.2.1 66 = .ok (.aload_n 0, 1) := by decide +kernel
theorem dQ_collect_67 : decode M_Q_collect.2.1 67 = .ok (.getfield 39, 3) := by decide +kernel
theorem dQ_collect_70 : decode M_Q_collect.2.1 70 = .ok (.iload 6, 2) := by decide +kernel
theorem dQ_collect_72 : decode M_Q_collect.2.1 72 = .ok (.iaload, 1) := by decide +kernel
theorem dQ_collect_73 : decode M_Q_collect.2.1 73 = .ok (.invokevirtual 222, 3) := by decide +kernel
theorem dQ_collect_76 : decode M_Q_collect.2.1 76 = .ok (.invokestatic 225, 3) := by decide +kernel
theorem dQ_collect_79 : decode M_Q_collect.2.1 79 = .ok (.istore 5, 2) := by decide +kernel
theorem dQ_collect_81 : decode M_Q_collect.2.1 81 = .ok (.iinc 6 1, 3) := by decide +kernel
theorem dQ_collect_84 : decode M_Q_collect.2.1 84 = .ok (.goto (-30), 3) := by decide +kernel
theorem dQ_collect_87 : decode M_Q_collect.2.1 87 = .ok (.aload 4, 2) := by decide +kernel
theorem dQ_collect_89 : decode M_Q_collect.2.1 89 = .ok (.iload 5, 2) := by decide +kernel
theorem dQ_collect_91 : decode M_Q_collect.2.1 91 = .ok (.invokevirtual 230, 3) := by decide +kernel
theorem dQ_collect_94 : decode M_Q_collect.2.1 94 = .ok (.ireturn, 1) := by decide +kernel
theorem dQ_cached_0 : decode M_Q_cached.2.1 0 = .ok (.aload_n 0, 1) := by decide +kernel
theorem dQ_cached_1 : decode M_Q_cached.2.1 1 = .ok (.getfield 35, 3) := by decide +kernel
theorem dQ_cached_4 : decode M_Q_cached.2.1 4 = .ok (.iload_n 1, 1) := by decide +kernel
theorem dQ_cached_5 : decode M_Q_cached.2.1 5 = .ok (.invokevirtual 233, 3) := by decide +kernel
theorem dQ_cached_8 : decode M_Q_cached.2.1 8 = .ok (.ireturn, 1) := by decide +kernel
theorem dQ_isKey_0 : decode M_Q_isKey.2.1 0 = .ok (.iload_n 0, 1) := by decide +kernel
theorem dQ_isKey_1 : decode M_Q_isKey.2.1 1 = .ok (.ifCond .lt 13, 3) := by decide +kernel
theorem dQ_isKey_4 : decode M_Q_isKey.2.1 4 = .ok (.iload_n 0, 1) := by decide +kernel
theorem dQ_isKey_5 : decode M_Q_isKey.2.1 5 = .ok (.bipush 32, 2) := by decide +kernel
theorem dQ_isKey_7 : decode M_Q_isKey.2.1 7 = .ok (.if_icmp .ge 7, 3) := by decide +kernel
theorem dQ_isKey_10 : decode M_Q_isKey.2.1 10 = .ok (.iconst 1, 1) := by decide +kernel
theorem dQ_isKey_11 : decode M_Q_isKey.2.1 11 = .ok (.goto 4, 3) := by decide +kernel
theorem dQ_isKey_14 : decode M_Q_isKey.2.1 14 = .ok (.iconst 0, 1) := by decide +kernel
theorem dQ_isKey_15 : decode M_Q_isKey.2.1 15 = .ok (.ireturn, 1) := by decide +kernel
theorem dQ_isCopy_0 : decode M_Q_isCopy.2.1 0 = .ok (.iload_n 0, 1) := by decide +kernel
theorem dQ_isCopy_1 : decode M_Q_isCopy.2.1 1 = .ok (.ifCond .lt 22, 3) := by decide +kernel
theorem dQ_isCopy_4 : decode M_Q_isCopy.2.1 4 = .ok (.iload_n 0, 1) := by decide +kernel
theorem dQ_isCopy_5 : decode M_Q_isCopy.2.1 5 = .ok (.iconst 2, 1) := by decide +kernel
theorem dQ_isCopy_6 : decode M_Q_isCopy.2.1 6 = .ok (.if_icmp .ge 17, 3) := by decide +kernel
theorem dQ_isCopy_9 : decode M_Q_isCopy.2.1 9 = .ok (.iload_n 1, 1) := by decide +kernel
theorem dQ_isCopy_10 : decode M_Q_isCopy.2.1 10 = .ok (.ifCond .lt 13, 3) := by decide +kernel
theorem dQ_isCopy_13 : decode M_Q_isCopy.2.1 13 = .ok (.iload_n 1, 1) := by decide +kernel
theorem dQ_isCopy_14 : decode M_Q_isCopy.2.1 14 = .ok (.bipush 6, 2) := by decide +kernel
theorem dQ_isCopy_16 : decode M_Q_isCopy.2.1 16 = .ok (.if_icmp .ge 7, 3) := by decide +kernel
theorem dQ_isCopy_19 : decode M_Q_isCopy.2.1 19 = .ok (.iconst 1, 1) := by decide +kernel
theorem dQ_isCopy_20 : decode M_Q_isCopy.2.1 20 = .ok (.goto 4, 3) := by decide +kernel
theorem dQ_isCopy_23 : decode M_Q_isCopy.2.1 23 = .ok (.iconst 0, 1) := by decide +kernel
theorem dQ_isCopy_24 : decode M_Q_isCopy.2.1 24 = .ok (.ireturn, 1) := by decide +kernel
theorem dQ_isReplica_0 : decode M_Q_isReplica.2.1 0 = .ok (.iload_n 0, 1) := by decide +kernel
theorem dQ_isReplica_1 : decode M_Q_isReplica.2.1 1 = .ok (.ifCond .lt 12, 3) := by decide +kernel
theorem dQ_isReplica_4 : decode M_Q_isReplica.2.1 4 = .ok (.iload_n 0, 1) := by decide +kernel
theorem dQ_isReplica_5 : decode M_Q_isReplica.2.1 5 = .ok (.iconst 2, 1) := by decide +kernel
theorem dQ_isReplica_6 : decode M_Q_isReplica.2.1 6 = .ok (.if_icmp .ge 7, 3) := by decide +kernel
theorem dQ_isReplica_9 : decode M_Q_isReplica.2.1 9 = .ok (.iconst 1, 1) := by decide +kernel
theorem dQ_isReplica_10 : decode M_Q_isReplica.2.1 10 = .ok (.goto 4, 3) := by decide +kernel
theorem dQ_isReplica_13 : decode M_Q_isReplica.2.1 13 = .ok (.iconst 0, 1) := by decide +kernel
theorem dQ_isReplica_14 : decode M_Q_isReplica.2.1 14 = .ok (.ireturn, 1) := by decide +kernel
theorem dQ_pageOf_0 : decode M_Q_pageOf.2.1 0 = .ok (.iload_n 0, 1) := by decide +kernel
theorem dQ_pageOf_1 : decode M_Q_pageOf.2.1 1 = .ok (.iconst 4, 1) := by decide +kernel
theorem dQ_pageOf_2 : decode M_Q_pageOf.2.1 2 = .ok (.idiv, 1) := by decide +kernel
theorem dQ_pageOf_3 : decode M_Q_pageOf.2.1 3 = .ok (.ireturn, 1) := by decide +kernel
theorem dQ_groupOfPage_0 : decode M_Q_groupOfPage.2.1 0 = .ok (.iload_n 0, 1) := by decide +kernel
theorem dQ_groupOfPage_1 : decode M_Q_groupOfPage.2.1 1 = .ok (.iconst 2, 1) := by decide +kernel
theorem dQ_groupOfPage_2 : decode M_Q_groupOfPage.2.1 2 = .ok (.irem, 1) := by decide +kernel
theorem dQ_groupOfPage_3 : decode M_Q_groupOfPage.2.1 3 = .ok (.ireturn, 1) := by decide +kernel
theorem dQ_refusalOfTransaction_0 : decode M_Q_refusalOfTransaction.2.1 0 = .ok (.aload_n 0, 1) := by decide +kernel
theorem dQ_refusalOfTransaction_1 : decode M_Q_refusalOfTransaction.2.1 1 = .ok (.getfield 43, 3) := by decide +kernel
theorem dQ_refusalOfTransaction_4 : decode M_Q_refusalOfTransaction.2.1 4 = .ok (.ifCond .ne 6, 3) := by decide +kernel
theorem dQ_refusalOfTransaction_7 : decode M_Q_refusalOfTransaction.2.1 7 = .ok (.bipush (-2), 2) := by decide +kernel
theorem dQ_refusalOfTransaction_9 : decode M_Q_refusalOfTransaction.2.1 9 = .ok (.ireturn, 1) := by decide +kernel
theorem dQ_refusalOfTransaction_10 : decode M_Q_refusalOfTransaction.2.1 10 = .ok (.aload_n 0, 1) := by decide +kernel
theorem dQ_refusalOfTransaction_11 : decode M_Q_refusalOfTransaction.2.1 11 = .ok (.getfield 19, 3) := by decide +kernel
theorem dQ_refusalOfTransaction_14 : decode M_Q_refusalOfTransaction.2.1 14 = .ok (.iload_n 1, 1) := by decide +kernel
theorem dQ_refusalOfTransaction_15 : decode M_Q_refusalOfTransaction.2.1 15 = .ok (.invokevirtual 108, 3) := by decide +kernel
theorem dQ_refusalOfTransaction_18 : decode M_Q_refusalOfTransaction.2.1 18 = .ok (.ifCond .eq 7, 3) := by decide +kernel
theorem dQ_refusalOfTransaction_21 : decode M_Q_refusalOfTransaction.2.1 21 = .ok (.iconst 0, 1) := by decide +kernel
theorem dQ_refusalOfTransaction_22 : decode M_Q_refusalOfTransaction.2.1 22 = .ok (.goto 5, 3) := by decide +kernel
theorem dQ_refusalOfTransaction_25 : decode M_Q_refusalOfTransaction.2.1 25 = .ok (.bipush (-3), 2) := by decide +kernel
theorem dQ_refusalOfTransaction_27 : decode M_Q_refusalOfTransaction.2.1 27 = .ok (.ireturn, 1) := by decide +kernel
theorem dQ_refusalOfKeys_0 : decode M_Q_refusalOfKeys.2.1 0 = .ok (.aload_n 0, 1) := by decide +kernel
theorem dQ_refusalOfKeys_1 : decode M_Q_refusalOfKeys.2.1 1 = .ok (.iload_n 1, 1) := by decide +kernel
theorem dQ_refusalOfKeys_2 : decode M_Q_refusalOfKeys.2.1 2 = .ok (.invokevirtual 92, 3) := by decide +kernel
theorem dQ_refusalOfKeys_5 : decode M_Q_refusalOfKeys.2.1 5 = .ok (.istore 4, 2) := by decide +kernel
theorem dQ_refusalOfKeys_7 : decode M_Q_refusalOfKeys.2.1 7 = .ok (.iload 4, 2) := by decide +kernel
theorem dQ_refusalOfKeys_9 : decode M_Q_refusalOfKeys.2.1 9 = .ok (.ifCond .eq 6, 3) := by decide +kernel
theorem dQ_refusalOfKeys_12 : decode M_Q_refusalOfKeys.2.1 12 = .ok (.iload 4, 2) := by decide +kernel
theorem dQ_refusalOfKeys_14 : decode M_Q_refusalOfKeys.2.1 14 = .ok (.ireturn, 1) := by decide +kernel
theorem dQ_refusalOfKeys_15 : decode M_Q_refusalOfKeys.2.1 15 = .ok (.aload_n 0, 1) := by decide +kernel
theorem dQ_refusalOfKeys_16 : decode M_Q_refusalOfKeys.2.1 16 = .ok (.getfield 19, 3) := by decide +kernel
theorem dQ_refusalOfKeys_19 : decode M_Q_refusalOfKeys.2.1 19 = .ok (.iload_n 1, 1) := by decide +kernel
theorem dQ_refusalOfKeys_20 : decode M_Q_refusalOfKeys.2.1 20 = .ok (.iload_n 2, 1) := by decide +kernel
theorem dQ_refusalOfKeys_21 : decode M_Q_refusalOfKeys.2.1 21 = .ok (.invokevirtual 236, 3) := by decide +kernel
theorem dQ_refusalOfKeys_24 : decode M_Q_refusalOfKeys.2.1 24 = .ok (.ifCond .eq 19, 3) := by decide +kernel
theorem dQ_refusalOfKeys_27 : decode M_Q_refusalOfKeys.2.1 27 = .ok (.aload_n 0, 1) := by decide +kernel
theorem dQ_refusalOfKeys_28 : decode M_Q_refusalOfKeys.2.1 28 = .ok (.getfield 19, 3) := by decide +kernel
theorem dQ_refusalOfKeys_31 : decode M_Q_refusalOfKeys.2.1 31 = .ok (.iload_n 1, 1) := by decide +kernel
theorem dQ_refusalOfKeys_32 : decode M_Q_refusalOfKeys.2.1 32 = .ok (.iload_n 3, 1) := by decide +kernel
theorem dQ_refusalOfKeys_33 : decode M_Q_refusalOfKeys.2.1 33 = .ok (.invokevirtual 236, 3) := by decide +kernel
theorem dQ_refusalOfKeys_36 : decode M_Q_refusalOfKeys.2.1 36 = .ok (.ifCond .eq 7, 3) := by decide +kernel
theorem dQ_refusalOfKeys_39 : decode M_Q_refusalOfKeys.2.1 39 = .ok (.iconst 0, 1) := by decide +kernel
theorem dQ_refusalOfKeys_40 : decode M_Q_refusalOfKeys.2.1 40 = .ok (.goto 5, 3) := by decide +kernel
theorem dQ_refusalOfKeys_43 : decode M_Q_refusalOfKeys.2.1 43 = .ok (.bipush (-4), 2) := by decide +kernel
theorem dQ_refusalOfKeys_45 : decode M_Q_refusalOfKeys.2.1 45 = .ok (.ireturn, 1) := by decide +kernel
theorem dQ_refusalOfChanges_0 : decode M_Q_refusalOfChanges.2.1 0 = .ok (.aload_n 0, 1) := by decide +kernel
theorem dQ_refusalOfChanges_1 : decode M_Q_refusalOfChanges.2.1 1 = .ok (.iload_n 1, 1) := by decide +kernel
theorem dQ_refusalOfChanges_2 : decode M_Q_refusalOfChanges.2.1 2 = .ok (.iload_n 2, 1) := by decide +kernel
theorem dQ_refusalOfChanges_3 : decode M_Q_refusalOfChanges.2.1 3 = .ok (.iload_n 3, 1) := by decide +kernel
theorem dQ_refusalOfChanges_4 : decode M_Q_refusalOfChanges.2.1 4 = .ok (.invokevirtual 66, 3) := by decide +kernel
theorem dQ_refusalOfChanges_7 : decode M_Q_refusalOfChanges.2.1 7 = .ok (.istore 4, 2) := by decide +kernel
theorem dQ_refusalOfChanges_9 : decode M_Q_refusalOfChanges.2.1 9 = .ok (.iload 4, 2) := by decide +kernel
theorem dQ_refusalOfChanges_11 : decode M_Q_refusalOfChanges.2.1 11 = .ok (.ifCond .eq 6, 3) := by decide +kernel
theorem dQ_refusalOfChanges_14 : decode M_Q_refusalOfChanges.2.1 14 = .ok (.iload 4, 2) := by decide +kernel
theorem dQ_refusalOfChanges_16 : decode M_Q_refusalOfChanges.2.1 16 = .ok (.ireturn, 1) := by decide +kernel
theorem dQ_refusalOfChanges_17 : decode M_Q_refusalOfChanges.2.1 17 = .ok (.aload_n 0, 1) := by decide +kernel
theorem dQ_refusalOfChanges_18 : decode M_Q_refusalOfChanges.2.1 18 = .ok (.getfield 10, 3) := by decide +kernel
theorem dQ_refusalOfChanges_21 : decode M_Q_refusalOfChanges.2.1 21 = .ok (.getfield 55, 3) := by decide +kernel
theorem dQ_refusalOfChanges_24 : decode M_Q_refusalOfChanges.2.1 24 = .ok (.sipush 150, 3) := by decide +kernel
theorem dQ_refusalOfChanges_27 : decode M_Q_refusalOfChanges.2.1 27 = .ok (.if_icmp .lt 8, 3) := by decide +kernel
theorem dQ_refusalOfChanges_30 : decode M_Q_refusalOfChanges.2.1 30 = .ok (.bipush (-5), 2) := by decide +kernel
theorem dQ_refusalOfChanges_32 : decode M_Q_refusalOfChanges.2.1 32 = .ok (.goto 4, 3) := by decide +kernel
theorem dQ_refusalOfChanges_35 : decode M_Q_refusalOfChanges.2.1 35 = .ok (.iconst 0, 1) := by decide +kernel
theorem dQ_refusalOfChanges_36 : decode M_Q_refusalOfChanges.2.1 36 = .ok (.ireturn, 1) := by decide +kernel
theorem dQ_refusalOfCopy_0 : decode M_Q_refusalOfCopy.2.1 0 = .ok (.iload_n 1, 1) := by decide +kernel
theorem dQ_refusalOfCopy_1 : decode M_Q_refusalOfCopy.2.1 1 = .ok (.iload_n 2, 1) := by decide +kernel
theorem dQ_refusalOfCopy_2 : decode M_Q_refusalOfCopy.2.1 2 = .ok (.invokestatic 142, 3) := by decide +kernel
theorem dQ_refusalOfCopy_5 : decode M_Q_refusalOfCopy.2.1 5 = .ok (.ifCond .ne 5, 3) := by decide +kernel
theorem dQ_refusalOfCopy_8 : decode M_Q_refusalOfCopy.2.1 8 = .ok (.iconst (-1), 1) := by decide +kernel
theorem dQ_refusalOfCopy_9 : decode M_Q_refusalOfCopy.2.1 9 = .ok (.ireturn, 1) := by decide +kernel
theorem dQ_refusalOfCopy_10 : decode M_Q_refusalOfCopy.2.1 10 = .ok (.aload_n 0, 1) := by decide +kernel
theorem dQ_refusalOfCopy_11 : decode M_Q_refusalOfCopy.2.1 11 = .ok (.getfield 43, 3) := by decide +kernel
theorem dQ_refusalOfCopy_14 : decode M_Q_refusalOfCopy.2.1 14 = .ok (.ifCond .ne 6, 3) := by decide +kernel
theorem dQ_refusalOfCopy_17 : decode M_Q_refusalOfCopy.2.1 17 = .ok (.bipush (-2), 2) := by decide +kernel
theorem dQ_refusalOfCopy_19 : decode M_Q_refusalOfCopy.2.1 19 = .ok (.ireturn, 1) := by decide +kernel
theorem dQ_refusalOfCopy_20 : decode M_Q_refusalOfCopy.2.1 20 = .ok (.aload_n 0, 1) := by decide +kernel
theorem dQ_refusalOfCopy_21 : decode M_Q_refusalOfCopy.2.1 21 = .ok (.getfield 25, 3) := by decide +kernel
theorem dQ_refusalOfCopy_24 : decode M_Q_refusalOfCopy.2.1 24 = .ok (.iload_n 1, 1) := by decide +kernel
theorem dQ_refusalOfCopy_25 : decode M_Q_refusalOfCopy.2.1 25 = .ok (.aaload, 1) := by decide +kernel
theorem dQ_refusalOfCopy_26 : decode M_Q_refusalOfCopy.2.1 26 = .ok (.getfield 123, 3) := by decide +kernel
theorem dQ_refusalOfCopy_29 : decode M_Q_refusalOfCopy.2.1 29 = .ok (.iload_n 2, 1) := by decide +kernel
theorem dQ_refusalOfCopy_30 : decode M_Q_refusalOfCopy.2.1 30 = .ok (.aaload, 1) := by decide +kernel
theorem dQ_refusalOfCopy_31 : decode M_Q_refusalOfCopy.2.1 31 = .ok (.invokevirtual 127, 3) := by decide +kernel
theorem dQ_refusalOfCopy_34 : decode M_Q_refusalOfCopy.2.1 34 = .ok (.ifCond .eq 7, 3) := by decide +kernel
theorem dQ_refusalOfCopy_37 : decode M_Q_refusalOfCopy.2.1 37 = .ok (.iconst 0, 1) := by decide +kernel
theorem dQ_refusalOfCopy_38 : decode M_Q_refusalOfCopy.2.1 38 = .ok (.goto 5, 3) := by decide +kernel
theorem dQ_refusalOfCopy_41 : decode M_Q_refusalOfCopy.2.1 41 = .ok (.bipush (-7), 2) := by decide +kernel
theorem dQ_refusalOfCopy_43 : decode M_Q_refusalOfCopy.2.1 43 = .ok (.ireturn, 1) := by decide +kernel
theorem dQ_touch_0 : decode M_Q_touch.2.1 0 = .ok (.aload_n 0, 1) := by decide +kernel
theorem dQ_touch_1 : decode M_Q_touch.2.1 1 = .ok (.getfield 35, 3) := by decide +kernel
theorem dQ_touch_4 : decode M_Q_touch.2.1 4 = .ok (.iload_n 1, 1) := by decide +kernel
theorem dQ_touch_5 : decode M_Q_touch.2.1 5 = .ok (.invokevirtual 233, 3) := by decide +kernel
theorem dQ_touch_8 : decode M_Q_touch.2.1 8 = .ok (.ifCond .le 21, 3) := by decide +kernel
theorem dQ_touch_11 : decode M_Q_touch.2.1 11 = .ok (.aload_n 0, 1) := by decide +kernel
theorem dQ_touch_12 : decode M_Q_touch.2.1 12 = .ok (.getfield 35, 3) := by decide +kernel
theorem dQ_touch_15 : decode M_Q_touch.2.1 15 = .ok (.iload_n 1, 1) := by decide +kernel
theorem dQ_touch_16 : decode M_Q_touch.2.1 16 = .ok (.invokevirtual 239, 3) := by decide +kernel
theorem dQ_touch_19 : decode M_Q_touch.2.1 19 = .ok (.aload_n 0, 1) := by decide +kernel
theorem dQ_touch_20 : decode M_Q_touch.2.1 20 = .ok (.getfield 35, 3) := by decide +kernel
theorem dQ_touch_23 : decode M_Q_touch.2.1 23 = .ok (.iload_n 1, 1) := by decide +kernel
theorem dQ_touch_24 : decode M_Q_touch.2.1 24 = .ok (.invokevirtual 242, 3) := by decide +kernel
theorem dQ_touch_27 : decode M_Q_touch.2.1 27 = .ok (.iconst 0, 1) := by decide +kernel
theorem dQ_touch_28 : decode M_Q_touch.2.1 28 = .ok (.ireturn, 1) := by decide +kernel
theorem dQ_touch_29 : decode M_Q_touch.2.1 29 = .ok (.aload_n 0, 1) := by decide +kernel
theorem dQ_touch_30 : decode M_Q_touch.2.1 30 = .ok (.iload_n 2, 1) := by decide +kernel
theorem dQ_touch_31 : decode M_Q_touch.2.1 31 = .ok (.invokevirtual 245, 3) := by decide +kernel
theorem dQ_touch_34 : decode M_Q_touch.2.1 34 = .ok (.istore_n 3, 1) := by decide +kernel
theorem dQ_touch_35 : decode M_Q_touch.2.1 35 = .ok (.aload_n 0, 1) := by decide +kernel
theorem dQ_touch_36 : decode M_Q_touch.2.1 36 = .ok (.iload_n 1, 1) := by decide +kernel
theorem dQ_touch_37 : decode M_Q_touch.2.1 37 = .ok (.invokevirtual 248, 3) := by decide +kernel
theorem dQ_touch_40 : decode M_Q_touch.2.1 40 = .ok (.ifCond .ne 18, 3) := by decide +kernel
theorem dQ_touch_43 : decode M_Q_touch.2.1 43 = .ok (.aload_n 0, 1) := by decide +kernel
theorem dQ_touch_44 : decode M_Q_touch.2.1 44 = .ok (.getfield 35, 3) := by decide +kernel
theorem dQ_touch_47 : decode M_Q_touch.2.1 47 = .ok (.invokevirtual 251, 3) := by decide +kernel
theorem dQ_touch_50 : decode M_Q_touch.2.1 50 = .ok (.ifCond .eq 11, 3) := by decide +kernel
theorem dQ_touch_53 : decode M_Q_touch.2.1 53 = .ok (.iload_n 3, 1) := by decide +kernel
theorem dQ_touch_54 : decode M_Q_touch.2.1 54 = .ok (.iconst (-1), 1) := by decide +kernel
theorem dQ_touch_55 : decode M_Q_touch.2.1 55 = .ok (.if_icmp .ne 6, 3) := by decide +kernel
theorem dQ_touch_58 : decode M_Q_touch.2.1 58 = .ok (.bipush (-6), 2) := by decide +kernel
theorem dQ_touch_60 : decode M_Q_touch.2.1 60 = .ok (.ireturn, 1) := by decide +kernel
theorem dQ_touch_61 : decode M_Q_touch.2.1 61 = .ok (.aload_n 0, 1) := by decide +kernel
theorem dQ_touch_62 : decode M_Q_touch.2.1 62 = .ok (.getfield 25, 3) := by decide +kernel
theorem dQ_touch_65 : decode M_Q_touch.2.1 65 = .ok (.iload_n 1, 1) := by decide +kernel
theorem dQ_touch_66 : decode M_Q_touch.2.1 66 = .ok (.invokestatic 212, 3) := by decide +kernel
theorem dQ_touch_69 : decode M_Q_touch.2.1 69 = .ok (.aaload, 1) := by decide +kernel
theorem dQ_touch_70 : decode M_Q_touch.2.1 70 = .ok (.aload_n 0, 1) := by decide +kernel
theorem dQ_touch_71 : decode M_Q_touch.2.1 71 = .ok (.getfield 47, 3) := by decide +kernel
theorem dQ_touch_74 : decode M_Q_touch.2.1 74 = .ok (.aload_n 0, 1) := by decide +kernel
theorem dQ_touch_75 : decode M_Q_touch.2.1 75 = .ok (.getfield 10, 3) := by decide +kernel
theorem dQ_touch_78 : decode M_Q_touch.2.1 78 = .ok (.invokevirtual 215, 3) := by decide +kernel
theorem dQ_touch_81 : decode M_Q_touch.2.1 81 = .ok (.ifCond .ne 6, 3) := by decide +kernel
theorem dQ_touch_84 : decode M_Q_touch.2.1 84 = .ok (.bipush (-7), 2) := by decide +kernel
theorem dQ_touch_86 : decode M_Q_touch.2.1 86 = .ok (.ireturn, 1) := by decide +kernel
theorem dQ_touch_87 : decode M_Q_touch.2.1 87 = .ok (.aload_n 0, 1) := by decide +kernel
theorem dQ_touch_88 : decode M_Q_touch.2.1 88 = .ok (.getfield 35, 3) := by decide +kernel
theorem dQ_touch_91 : decode M_Q_touch.2.1 91 = .ok (.invokevirtual 251, 3) := by decide +kernel
theorem dQ_touch_94 : decode M_Q_touch.2.1 94 = .ok (.ifCond .eq 11, 3) := by decide +kernel
theorem dQ_touch_97 : decode M_Q_touch.2.1 97 = .ok (.aload_n 0, 1) := by decide +kernel
theorem dQ_touch_98 : decode M_Q_touch.2.1 98 = .ok (.getfield 35, 3) := by decide +kernel
theorem dQ_touch_101 : decode M_Q_touch.2.1 101 = .ok (.iload_n 3, 1) := by decide +kernel
theorem dQ_touch_102 : decode M_Q_touch.2.1 102 = .ok (.invokevirtual 239, 3) := by decide +kernel
theorem dQ_touch_105 : decode M_Q_touch.2.1 105 = .ok (.aload_n 0, 1) := by decide +kernel
theorem dQ_touch_106 : decode M_Q_touch.2.1 106 = .ok (.getfield 35, 3) := by decide +kernel
theorem dQ_touch_109 : decode M_Q_touch.2.1 109 = .ok (.iload_n 1, 1) := by decide +kernel
theorem dQ_touch_110 : decode M_Q_touch.2.1 110 = .ok (.invokevirtual 242, 3) := by decide +kernel
theorem dQ_touch_113 : decode M_Q_touch.2.1 113 = .ok (.iconst 0, 1) := by decide +kernel
theorem dQ_touch_114 : decode M_Q_touch.2.1 114 = .ok (.ireturn, 1) := by decide +kernel
theorem dQ_pageThatMayGo_0 : decode M_Q_pageThatMayGo.2.1 0 = .ok (.iconst 0, 1) := by decide +kernel
theorem dQ_pageThatMayGo_1 : decode M_Q_pageThatMayGo.2.1 1 = .ok (.istore_n 2, 1) := by decide +kernel
theorem dQ_pageThatMayGo_2 : decode M_Q_pageThatMayGo.2.1 2 = .ok (.iload_n 2, 1) := by decide +kernel
theorem dQ_pageThatMayGo_3 : decode M_Q_pageThatMayGo.2.1 3 = .ok (.aload_n 0, 1) := by decide +kernel
theorem dQ_pageThatMayGo_4 : decode M_Q_pageThatMayGo.2.1 4 = .ok (.getfield 35, 3) := by decide +kernel
theorem dQ_pageThatMayGo_7 : decode M_Q_pageThatMayGo.2.1 7 = .ok (.getfield 252, 3) := by decide +kernel
theorem dQ_pageThatMayGo_10 : decode M_Q_pageThatMayGo.2.1 10 = .ok (.if_icmp .ge 34, 3) := by decide +kernel
theorem dQ_pageThatMayGo_13 : decode M_Q_pageThatMayGo.2.1 13 = .ok (.aload_n 0, 1) := by decide +kernel
theorem dQ_pageThatMayGo_14 : decode M_Q_pageThatMayGo.2.1 14 = .ok (.getfield 35, 3) := by decide +kernel
theorem dQ_pageThatMayGo_17 : decode M_Q_pageThatMayGo.2.1 17 = .ok (.getfield 255, 3) := by decide +kernel
theorem dQ_pageThatMayGo_20 : decode M_Q_pageThatMayGo.2.1 20 = .ok (.iload_n 2, 1) := by decide +kernel
theorem dQ_pageThatMayGo_21 : decode M_Q_pageThatMayGo.2.1 21 = .ok (.iaload, 1) := by decide +kernel
theorem dQ_pageThatMayGo_22 : decode M_Q_pageThatMayGo.2.1 22 = .ok (.istore_n 3, 1) := by decide +kernel
theorem dQ_pageThatMayGo_23 : decode M_Q_pageThatMayGo.2.1 23 = .ok (.iload_n 3, 1) := by decide +kernel
theorem dQ_pageThatMayGo_24 : decode M_Q_pageThatMayGo.2.1 24 = .ok (.iload_n 1, 1) := by decide +kernel
theorem dQ_pageThatMayGo_25 : decode M_Q_pageThatMayGo.2.1 25 = .ok (.if_icmp .eq 13, 3) := by decide +kernel
theorem dQ_pageThatMayGo_28 : decode M_Q_pageThatMayGo.2.1 28 = .ok (.aload_n 0, 1) := by decide +kernel
theorem dQ_pageThatMayGo_29 : decode M_Q_pageThatMayGo.2.1 29 = .ok (.iload_n 3, 1) := by decide +kernel
theorem dQ_pageThatMayGo_30 : decode M_Q_pageThatMayGo.2.1 30 = .ok (.invokevirtual 248, 3) := by decide +kernel
theorem dQ_pageThatMayGo_33 : decode M_Q_pageThatMayGo.2.1 33 = .ok (.ifCond .ne 5, 3) := by decide +kernel
theorem dQ_pageThatMayGo_36 : decode M_Q_pageThatMayGo.2.1 36 = .ok (.iload_n 3, 1) := by decide +kernel
theorem dQ_pageThatMayGo_37 : decode M_Q_pageThatMayGo.2.1 37 = .ok (.ireturn, 1) := by decide +kernel
theorem dQ_pageThatMayGo_38 : decode M_Q_pageThatMayGo.2.1 38 = .ok (.iinc 2 1, 3) := by decide +kernel
theorem dQ_pageThatMayGo_41 : decode M_Q_pageThatMayGo.2.1 41 = .ok (.goto (-39), 3) := by decide +kernel
theorem dQ_pageThatMayGo_44 : decode M_Q_pageThatMayGo.2.1 44 = .ok (.iconst (-1), 1) := by decide +kernel
theorem dQ_pageThatMayGo_45 : decode M_Q_pageThatMayGo.2.1 45 = .ok (.ireturn, 1) := by decide +kernel
theorem dQ_isAheadOfDurable_0 : decode M_Q_isAheadOfDurable.2.1 0 = .ok (.aload_n 0, 1) := by decide +kernel
theorem dQ_isAheadOfDurable_1 : decode M_Q_isAheadOfDurable.2.1 1 = .ok (.getfield 10, 3) := by decide +kernel
theorem dQ_isAheadOfDurable_4 : decode M_Q_isAheadOfDurable.2.1 4 = .ok (.iload_n 1, 1) := by decide +kernel
theorem dQ_isAheadOfDurable_5 : decode M_Q_isAheadOfDurable.2.1 5 = .ok (.invokevirtual 258, 3) := by decide +kernel
theorem dQ_isAheadOfDurable_8 : decode M_Q_isAheadOfDurable.2.1 8 = .ok (.aload_n 0, 1) := by decide +kernel
theorem dQ_isAheadOfDurable_9 : decode M_Q_isAheadOfDurable.2.1 9 = .ok (.getfield 47, 3) := by decide +kernel
theorem dQ_isAheadOfDurable_12 : decode M_Q_isAheadOfDurable.2.1 12 = .ok (.if_icmp .le 7, 3) := by decide +kernel
theorem dQ_isAheadOfDurable_15 : decode M_Q_isAheadOfDurable.2.1 15 = .ok (.iconst 1, 1) := by decide +kernel
theorem dQ_isAheadOfDurable_16 : decode M_Q_isAheadOfDurable.2.1 16 = .ok (.goto 4, 3) := by decide +kernel
theorem dQ_isAheadOfDurable_19 : decode M_Q_isAheadOfDurable.2.1 19 = .ok (.iconst 0, 1) := by decide +kernel
theorem dQ_isAheadOfDurable_20 : decode M_Q_isAheadOfDurable.2.1 20 = .ok (.ireturn, 1) := by decide +kernel
theorem dQ_completePoint_0 : decode M_Q_completePoint.2.1 0 = .ok (.aload_n 0, 1) := by decide +kernel
theorem dQ_completePoint_1 : decode M_Q_completePoint.2.1 1 = .ok (.getfield 25, 3) := by decide +kernel
theorem dQ_completePoint_4 : decode M_Q_completePoint.2.1 4 = .ok (.iconst 0, 1) := by decide +kernel
theorem dQ_completePoint_5 : decode M_Q_completePoint.2.1 5 = .ok (.aaload, 1) := by decide +kernel
theorem dQ_completePoint_6 : decode M_Q_completePoint.2.1 6 = .ok (.invokevirtual 261, 3) := by decide +kernel
theorem dQ_completePoint_9 : decode M_Q_completePoint.2.1 9 = .ok (.istore_n 1, 1) := by decide +kernel
theorem dQ_completePoint_10 : decode M_Q_completePoint.2.1 10 = .ok (.aload_n 0, 1) := by decide +kernel
theorem dQ_completePoint_11 : decode M_Q_completePoint.2.1 11 = .ok (.getfield 25, 3) := by decide +kernel
theorem dQ_completePoint_14 : decode M_Q_completePoint.2.1 14 = .ok (.iconst 1, 1) := by decide +kernel
theorem dQ_completePoint_15 : decode M_Q_completePoint.2.1 15 = .ok (.aaload, 1) := by decide +kernel
theorem dQ_completePoint_16 : decode M_Q_completePoint.2.1 16 = .ok (.invokevirtual 261, 3) := by decide +kernel
theorem dQ_completePoint_19 : decode M_Q_completePoint.2.1 19 = .ok (.istore_n 2, 1) := by decide +kernel
theorem dQ_completePoint_20 : decode M_Q_completePoint.2.1 20 = .ok (.iconst 0, 1) := by decide +kernel
theorem dQ_completePoint_21 : decode M_Q_completePoint.2.1 21 = .ok (.istore_n 3, 1) := by decide +kernel
theorem dQ_completePoint_22 : decode M_Q_completePoint.2.1 22 = .ok (.iconst 1, 1) := by decide +kernel
theorem dQ_completePoint_23 : decode M_Q_completePoint.2.1 23 = .ok (.istore 4, 2) := by decide +kernel
theorem dQ_completePoint_25 : decode M_Q_completePoint.2.1 25 = .ok (.iload 4, 2) := by decide +kernel
theorem dQ_completePoint_27 : decode M_Q_completePoint.2.1 27 = .ok (.aload_n 0, 1) := by decide +kernel
theorem dQ_completePoint_28 : decode M_Q_completePoint.2.1 28 = .ok (.getfield 10, 3) := by decide +kernel
theorem dQ_completePoint_31 : decode M_Q_completePoint.2.1 31 = .ok (.getfield 55, 3) := by decide +kernel
theorem dQ_completePoint_34 : decode M_Q_completePoint.2.1 34 = .ok (.if_icmp .gt 38, 3) := by decide +kernel
theorem dQ_completePoint_37 : decode M_Q_completePoint.2.1 37 = .ok (.iload 4, 2) := by decide +kernel
theorem dQ_completePoint_39 : decode M_Q_completePoint.2.1 39 = .ok (.aload_n 0, 1) := by decide +kernel
theorem dQ_completePoint_40 : decode M_Q_completePoint.2.1 40 = .ok (.getfield 10, 3) := by decide +kernel
theorem dQ_completePoint_43 : decode M_Q_completePoint.2.1 43 = .ok (.getfield 120, 3) := by decide +kernel
theorem dQ_completePoint_46 : decode M_Q_completePoint.2.1 46 = .ok (.iload 4, 2) := by decide +kernel
theorem dQ_completePoint_48 : decode M_Q_completePoint.2.1 48 = .ok (.iaload, 1) := by decide +kernel
theorem dQ_completePoint_49 : decode M_Q_completePoint.2.1 49 = .ok (.ifCond .ne 7, 3) := by decide +kernel
theorem dQ_completePoint_52 : decode M_Q_completePoint.2.1 52 = .ok (.iload_n 1, 1) := by decide +kernel
theorem dQ_completePoint_53 : decode M_Q_completePoint.2.1 53 = .ok (.goto 4, 3) := by decide +kernel
theorem dQ_completePoint_56 : decode M_Q_completePoint.2.1 56 = .ok (.iload_n 2, 1) := by decide +kernel
theorem dQ_completePoint_57 : decode M_Q_completePoint.2.1 57 = .ok (.if_icmp .le 6, 3) := by decide +kernel
theorem dQ_completePoint_60 : decode M_Q_completePoint.2.1 60 = .ok (.goto 12, 3) := by decide +kernel
theorem dQ_completePoint_63 : decode M_Q_completePoint.2.1 63 = .ok (.iload 4, 2) := by decide +kernel
theorem dQ_completePoint_65 : decode M_Q_completePoint.2.1 65 = .ok (.istore_n 3, 1) := by decide +kernel
theorem dQ_completePoint_66 : decode M_Q_completePoint.2.1 66 = .ok (.iinc 4 1, 3) := by decide +kernel
theorem dQ_completePoint_69 : decode M_Q_completePoint.2.1 69 = .ok (.goto (-44), 3) := by decide +kernel
theorem dQ_completePoint_72 : decode M_Q_completePoint.2.1 72 = .ok (.iload_n 3, 1) := by decide +kernel
theorem dQ_completePoint_73 : decode M_Q_completePoint.2.1 73 = .ok (.ireturn, 1) := by decide +kernel
theorem dQ_raiseDurable_0 : decode M_Q_raiseDurable.2.1 0 = .ok (.aload_n 0, 1) := by decide +kernel
theorem dQ_raiseDurable_1 : decode M_Q_raiseDurable.2.1 1 = .ok (.aload_n 0, 1) := by decide +kernel
theorem dQ_raiseDurable_2 : decode M_Q_raiseDurable.2.1 2 = .ok (.getfield 47, 3) := by decide +kernel
theorem dQ_raiseDurable_5 : decode M_Q_raiseDurable.2.1 5 = .ok (.aload_n 0, 1) := by decide +kernel
theorem dQ_raiseDurable_6 : decode M_Q_raiseDurable.2.1 6 = .ok (.getfield 10, 3) := by decide +kernel
theorem dQ_raiseDurable_9 : decode M_Q_raiseDurable.2.1 9 = .ok (.aload_n 0, 1) := by decide +kernel
theorem dQ_raiseDurable_10 : decode M_Q_raiseDurable.2.1 10 = .ok (.invokevirtual 196, 3) := by decide +kernel
theorem dQ_raiseDurable_13 : decode M_Q_raiseDurable.2.1 13 = .ok (.invokevirtual 178, 3) := by decide +kernel
theorem dQ_raiseDurable_16 : decode M_Q_raiseDurable.2.1 16 = .ok (.invokestatic 264, 3) := by decide +kernel
theorem dQ_raiseDurable_19 : decode M_Q_raiseDurable.2.1 19 = .ok (.putfield 47, 3) := by decide +kernel
theorem dQ_raiseDurable_22 : decode M_Q_raiseDurable.2.1 22 = .ok (.return_, 1) := by decide +kernel
theorem dQ_reachOfLiveCopies_0 : decode M_Q_reachOfLiveCopies.2.1 0 = .ok (.iconst 0, 1) := by decide +kernel
theorem dQ_reachOfLiveCopies_1 : decode M_Q_reachOfLiveCopies.2.1 1 = .ok (.istore_n 1, 1) := by decide +kernel
theorem dQ_reachOfLiveCopies_2 : decode M_Q_reachOfLiveCopies.2.1 2 = .ok (.iconst 1, 1) := by decide +kernel
theorem dQ_reachOfLiveCopies_3 : decode M_Q_reachOfLiveCopies.2.1 3 = .ok (.istore_n 2, 1) := by decide +kernel
theorem dQ_reachOfLiveCopies_4 : decode M_Q_reachOfLiveCopies.2.1 4 = .ok (.iload_n 2, 1) := by decide +kernel
theorem dQ_reachOfLiveCopies_5 : decode M_Q_reachOfLiveCopies.2.1 5 = .ok (.aload_n 0, 1) := by decide +kernel
theorem dQ_reachOfLiveCopies_6 : decode M_Q_reachOfLiveCopies.2.1 6 = .ok (.getfield 10, 3) := by decide +kernel
theorem dQ_reachOfLiveCopies_9 : decode M_Q_reachOfLiveCopies.2.1 9 = .ok (.getfield 55, 3) := by decide +kernel
theorem dQ_reachOfLiveCopies_12 : decode M_Q_reachOfLiveCopies.2.1 12 = .ok (.if_icmp .gt 35, 3) := by decide +kernel
theorem dQ_reachOfLiveCopies_15 : decode M_Q_reachOfLiveCopies.2.1 15 = .ok (.aload_n 0, 1) := by decide +kernel
theorem dQ_reachOfLiveCopies_16 : decode M_Q_reachOfLiveCopies.2.1 16 = .ok (.getfield 25, 3) := by decide +kernel
theorem dQ_reachOfLiveCopies_19 : decode M_Q_reachOfLiveCopies.2.1 19 = .ok (.aload_n 0, 1) := by decide +kernel
theorem dQ_reachOfLiveCopies_20 : decode M_Q_reachOfLiveCopies.2.1 20 = .ok (.getfield 10, 3) := by decide +kernel
theorem dQ_reachOfLiveCopies_23 : decode M_Q_reachOfLiveCopies.2.1 23 = .ok (.getfield 120, 3) := by decide +kernel
theorem dQ_reachOfLiveCopies_26 : decode M_Q_reachOfLiveCopies.2.1 26 = .ok (.iload_n 2, 1) := by decide +kernel
theorem dQ_reachOfLiveCopies_27 : decode M_Q_reachOfLiveCopies.2.1 27 = .ok (.iaload, 1) := by decide +kernel
theorem dQ_reachOfLiveCopies_28 : decode M_Q_reachOfLiveCopies.2.1 28 = .ok (.aaload, 1) := by decide +kernel
theorem dQ_reachOfLiveCopies_29 : decode M_Q_reachOfLiveCopies.2.1 29 = .ok (.iload_n 2, 1) := by decide +kernel
theorem dQ_reachOfLiveCopies_30 : decode M_Q_reachOfLiveCopies.2.1 30 = .ok (.invokevirtual 267, 3) := by decide +kernel
theorem dQ_reachOfLiveCopies_33 : decode M_Q_reachOfLiveCopies.2.1 33 = .ok (.ifCond .ne 6, 3) := by decide +kernel
theorem dQ_reachOfLiveCopies_36 : decode M_Q_reachOfLiveCopies.2.1 36 = .ok (.goto 11, 3) := by decide +kernel
theorem dQ_reachOfLiveCopies_39 : decode M_Q_reachOfLiveCopies.2.1 39 = .ok (.iload_n 2, 1) := by decide +kernel
theorem dQ_reachOfLiveCopies_40 : decode M_Q_reachOfLiveCopies.2.1 40 = .ok (.istore_n 1, 1) := by decide +kernel
theorem dQ_reachOfLiveCopies_41 : decode M_Q_reachOfLiveCopies.2.1 41 = .ok (.iinc 2 1, 3) := by decide +kernel
theorem dQ_reachOfLiveCopies_44 : decode M_Q_reachOfLiveCopies.2.1 44 = .ok (.goto (-40), 3) := by decide +kernel
theorem dQ_reachOfLiveCopies_47 : decode M_Q_reachOfLiveCopies.2.1 47 = .ok (.iload_n 1, 1) := by decide +kernel
theorem dQ_reachOfLiveCopies_48 : decode M_Q_reachOfLiveCopies.2.1 48 = .ok (.ireturn, 1) := by decide +kernel
theorem dQ_rollBackUnended_0 : decode M_Q_rollBackUnended.2.1 0 = .ok (.iconst 1, 1) := by decide +kernel
theorem dQ_rollBackUnended_1 : decode M_Q_rollBackUnended.2.1 1 = .ok (.istore_n 1, 1) := by decide +kernel
theorem dQ_rollBackUnended_2 : decode M_Q_rollBackUnended.2.1 2 = .ok (.iload_n 1, 1) := by decide +kernel
theorem dQ_rollBackUnended_3 : decode M_Q_rollBackUnended.2.1 3 = .ok (.aload_n 0, 1) := by decide +kernel
theorem dQ_rollBackUnended_4 : decode M_Q_rollBackUnended.2.1 4 = .ok (.getfield 19, 3) := by decide +kernel
theorem dQ_rollBackUnended_7 : decode M_Q_rollBackUnended.2.1 7 = .ok (.getfield 105, 3) := by decide +kernel
theorem dQ_rollBackUnended_10 : decode M_Q_rollBackUnended.2.1 10 = .ok (.if_icmp .gt 41, 3) := by decide +kernel
theorem dQ_rollBackUnended_13 : decode M_Q_rollBackUnended.2.1 13 = .ok (.aload_n 0, 1) := by decide +kernel
theorem dQ_rollBackUnended_14 : decode M_Q_rollBackUnended.2.1 14 = .ok (.getfield 10, 3) := by decide +kernel
theorem dQ_rollBackUnended_17 : decode M_Q_rollBackUnended.2.1 17 = .ok (.getfield 111, 3) := by decide +kernel
theorem dQ_rollBackUnended_20 : decode M_Q_rollBackUnended.2.1 20 = .ok (.iload_n 1, 1) := by decide +kernel
theorem dQ_rollBackUnended_21 : decode M_Q_rollBackUnended.2.1 21 = .ok (.iaload, 1) := by decide +kernel
theorem dQ_rollBackUnended_22 : decode M_Q_rollBackUnended.2.1 22 = .ok (.ifCond .ne 23, 3) := by decide +kernel
theorem dQ_rollBackUnended_25 : decode M_Q_rollBackUnended.2.1 25 = .ok (.aload_n 0, 1) := by decide +kernel
theorem dQ_rollBackUnended_26 : decode M_Q_rollBackUnended.2.1 26 = .ok (.getfield 10, 3) := by decide +kernel
theorem dQ_rollBackUnended_29 : decode M_Q_rollBackUnended.2.1 29 = .ok (.iload_n 1, 1) := by decide +kernel
theorem dQ_rollBackUnended_30 : decode M_Q_rollBackUnended.2.1 30 = .ok (.invokevirtual 270, 3) := by decide +kernel
theorem dQ_rollBackUnended_33 : decode M_Q_rollBackUnended.2.1 33 = .ok (.ifCond .eq 12, 3) := by decide +kernel
theorem dQ_rollBackUnended_36 : decode M_Q_rollBackUnended.2.1 36 = .ok (.aload_n 0, 1) := by decide +kernel
theorem dQ_rollBackUnended_37 : decode M_Q_rollBackUnended.2.1 37 = .ok (.getfield 10, 3) := by decide +kernel
theorem dQ_rollBackUnended_40 : decode M_Q_rollBackUnended.2.1 40 = .ok (.iload_n 1, 1) := by decide +kernel
theorem dQ_rollBackUnended_41 : decode M_Q_rollBackUnended.2.1 41 = .ok (.invokevirtual 102, 3) := by decide +kernel
theorem dQ_rollBackUnended_44 : decode M_Q_rollBackUnended.2.1 44 = .ok (.pop, 1) := by decide +kernel
theorem dQ_rollBackUnended_45 : decode M_Q_rollBackUnended.2.1 45 = .ok (.iinc 1 1, 3) := by decide +kernel
theorem dQ_rollBackUnended_48 : decode M_Q_rollBackUnended.2.1 48 = .ok (.goto (-46), 3) := by decide +kernel
theorem dQ_rollBackUnended_51 : decode M_Q_rollBackUnended.2.1 51 = .ok (.return_, 1) := by decide +kernel
