/-! Decode rows (by program, wip/whole/gen.py). -/
theorem dH_init_0 : decode M_H_init.2.1 0 = .ok (.aload_n 0, 1) := by decide +kernel
theorem dH_init_1 : decode M_H_init.2.1 1 = .ok (.invokespecial 1, 3) := by decide +kernel
theorem dH_init_4 : decode M_H_init.2.1 4 = .ok (.aload_n 0, 1) := by decide +kernel
theorem dH_init_5 : decode M_H_init.2.1 5 = .ok (.iconst 4, 1) := by decide +kernel
theorem dH_init_6 : decode M_H_init.2.1 6 = .ok (.newarray .int, 2) := by decide +kernel
theorem dH_init_8 : decode M_H_init.2.1 8 = .ok (.putfield 9, 3) := by decide +kernel
theorem dH_init_11 : decode M_H_init.2.1 11 = .ok (.aload_n 0, 1) := by decide +kernel
theorem dH_init_12 : decode M_H_init.2.1 12 = .ok (.iconst 0, 1) := by decide +kernel
theorem dH_init_13 : decode M_H_init.2.1 13 = .ok (.putfield 13, 3) := by decide +kernel
theorem dH_init_16 : decode M_H_init.2.1 16 = .ok (.return_, 1) := by decide +kernel
theorem dH_isFull_0 : decode M_H_isFull.2.1 0 = .ok (.aload_n 0, 1) := by decide +kernel
theorem dH_isFull_1 : decode M_H_isFull.2.1 1 = .ok (.getfield 13, 3) := by decide +kernel
theorem dH_isFull_4 : decode M_H_isFull.2.1 4 = .ok (.iconst 4, 1) := by decide +kernel
theorem dH_isFull_5 : decode M_H_isFull.2.1 5 = .ok (.if_icmp .lt 7, 3) := by decide +kernel
theorem dH_isFull_8 : decode M_H_isFull.2.1 8 = .ok (.iconst 1, 1) := by decide +kernel
theorem dH_isFull_9 : decode M_H_isFull.2.1 9 = .ok (.goto 4, 3) := by decide +kernel
theorem dH_isFull_12 : decode M_H_isFull.2.1 12 = .ok (.iconst 0, 1) := by decide +kernel
theorem dH_isFull_13 : decode M_H_isFull.2.1 13 = .ok (.ireturn, 1) := by decide +kernel
theorem dH_rankOf_0 : decode M_H_rankOf.2.1 0 = .ok (.iconst 0, 1) := by decide +kernel
theorem dH_rankOf_1 : decode M_H_rankOf.2.1 1 = .ok (.istore_n 2, 1) := by decide +kernel
theorem dH_rankOf_2 : decode M_H_rankOf.2.1 2 = .ok (.iload_n 2, 1) := by decide +kernel
theorem dH_rankOf_3 : decode M_H_rankOf.2.1 3 = .ok (.aload_n 0, 1) := by decide +kernel
theorem dH_rankOf_4 : decode M_H_rankOf.2.1 4 = .ok (.getfield 13, 3) := by decide +kernel
theorem dH_rankOf_7 : decode M_H_rankOf.2.1 7 = .ok (.if_icmp .ge 26, 3) := by decide +kernel
theorem dH_rankOf_10 : decode M_H_rankOf.2.1 10 = .ok (.aload_n 0, 1) := by decide +kernel
theorem dH_rankOf_11 : decode M_H_rankOf.2.1 11 = .ok (.getfield 9, 3) := by decide +kernel
theorem dH_rankOf_14 : decode M_H_rankOf.2.1 14 = .ok (.iload_n 2, 1) := by decide +kernel
theorem dH_rankOf_15 : decode M_H_rankOf.2.1 15 = .ok (.iaload, 1) := by decide +kernel
theorem dH_rankOf_16 : decode M_H_rankOf.2.1 16 = .ok (.iload_n 1, 1) := by decide +kernel
theorem dH_rankOf_17 : decode M_H_rankOf.2.1 17 = .ok (.if_icmp .ne 10, 3) := by decide +kernel
theorem dH_rankOf_20 : decode M_H_rankOf.2.1 20 = .ok (.aload_n 0, 1) := by decide +kernel
theorem dH_rankOf_21 : decode M_H_rankOf.2.1 21 = .ok (.getfield 13, 3) := by decide +kernel
theorem dH_rankOf_24 : decode M_H_rankOf.2.1 24 = .ok (.iload_n 2, 1) := by decide +kernel
theorem dH_rankOf_25 : decode M_H_rankOf.2.1 25 = .ok (.isub, 1) := by decide +kernel
theorem dH_rankOf_26 : decode M_H_rankOf.2.1 26 = .ok (.ireturn, 1) := by decide +kernel
theorem dH_rankOf_27 : decode M_H_rankOf.2.1 27 = .ok (.iinc 2 1, 3) := by decide +kernel
theorem dH_rankOf_30 : decode M_H_rankOf.2.1 30 = .ok (.goto (-28), 3) := by decide +kernel
theorem dH_rankOf_33 : decode M_H_rankOf.2.1 33 = .ok (.iconst 0, 1) := by decide +kernel
theorem dH_rankOf_34 : decode M_H_rankOf.2.1 34 = .ok (.ireturn, 1) := by decide +kernel
theorem dH_append_0 : decode M_H_append.2.1 0 = .ok (.aload_n 0, 1) := by decide +kernel
theorem dH_append_1 : decode M_H_append.2.1 1 = .ok (.getfield 13, 3) := by decide +kernel
theorem dH_append_4 : decode M_H_append.2.1 4 = .ok (.iconst 4, 1) := by decide +kernel
theorem dH_append_5 : decode M_H_append.2.1 5 = .ok (.if_icmp .ge 23, 3) := by decide +kernel
theorem dH_append_8 : decode M_H_append.2.1 8 = .ok (.aload_n 0, 1) := by decide +kernel
theorem dH_append_9 : decode M_H_append.2.1 9 = .ok (.getfield 9, 3) := by decide +kernel
theorem dH_append_12 : decode M_H_append.2.1 12 = .ok (.aload_n 0, 1) := by decide +kernel
theorem dH_append_13 : decode M_H_append.2.1 13 = .ok (.getfield 13, 3) := by decide +kernel
theorem dH_append_16 : decode M_H_append.2.1 16 = .ok (.iload_n 1, 1) := by decide +kernel
theorem dH_append_17 : decode M_H_append.2.1 17 = .ok (.iastore, 1) := by decide +kernel
theorem dH_append_18 : decode M_H_append.2.1 18 = .ok (.aload_n 0, 1) := by decide +kernel
theorem dH_append_19 : decode M_H_append.2.1 19 = .ok (.dup, 1) := by decide +kernel
theorem dH_append_20 : decode M_H_append.2.1 20 = .ok (.getfield 13, 3) := by decide +kernel
theorem dH_append_23 : decode M_H_append.2.1 23 = .ok (.iconst 1, 1) := by decide +kernel
theorem dH_append_24 : decode M_H_append.2.1 24 = .ok (.iadd, 1) := by decide +kernel
theorem dH_append_25 : decode M_H_append.2.1 25 = .ok (.putfield 13, 3) := by decide +kernel
theorem dH_append_28 : decode M_H_append.2.1 28 = .ok (.return_, 1) := by decide +kernel
theorem dH_remove_0 : decode M_H_remove.2.1 0 = .ok (.iconst 0, 1) := by decide +kernel
theorem dH_remove_1 : decode M_H_remove.2.1 1 = .ok (.istore_n 2, 1) := by decide +kernel
theorem dH_remove_2 : decode M_H_remove.2.1 2 = .ok (.iconst 0, 1) := by decide +kernel
theorem dH_remove_3 : decode M_H_remove.2.1 3 = .ok (.istore_n 3, 1) := by decide +kernel
theorem dH_remove_4 : decode M_H_remove.2.1 4 = .ok (.iload_n 3, 1) := by decide +kernel
theorem dH_remove_5 : decode M_H_remove.2.1 5 = .ok (.aload_n 0, 1) := by decide +kernel
theorem dH_remove_6 : decode M_H_remove.2.1 6 = .ok (.getfield 13, 3) := by decide +kernel
theorem dH_remove_9 : decode M_H_remove.2.1 9 = .ok (.if_icmp .ge 34, 3) := by decide +kernel
theorem dH_remove_12 : decode M_H_remove.2.1 12 = .ok (.aload_n 0, 1) := by decide +kernel
theorem dH_remove_13 : decode M_H_remove.2.1 13 = .ok (.getfield 9, 3) := by decide +kernel
theorem dH_remove_16 : decode M_H_remove.2.1 16 = .ok (.iload_n 3, 1) := by decide +kernel
theorem dH_remove_17 : decode M_H_remove.2.1 17 = .ok (.iaload, 1) := by decide +kernel
theorem dH_remove_18 : decode M_H_remove.2.1 18 = .ok (.iload_n 1, 1) := by decide +kernel
theorem dH_remove_19 : decode M_H_remove.2.1 19 = .ok (.if_icmp .eq 18, 3) := by decide +kernel
theorem dH_remove_22 : decode M_H_remove.2.1 22 = .ok (.aload_n 0, 1) := by decide +kernel
theorem dH_remove_23 : decode M_H_remove.2.1 23 = .ok (.getfield 9, 3) := by decide +kernel
theorem dH_remove_26 : decode M_H_remove.2.1 26 = .ok (.iload_n 2, 1) := by decide +kernel
theorem dH_remove_27 : decode M_H_remove.2.1 27 = .ok (.aload_n 0, 1) := by decide +kernel
theorem dH_remove_28 : decode M_H_remove.2.1 28 = .ok (.getfield 9, 3) := by decide +kernel
theorem dH_remove_31 : decode M_H_remove.2.1 31 = .ok (.iload_n 3, 1) := by decide +kernel
theorem dH_remove_32 : decode M_H_remove.2.1 32 = .ok (.iaload, 1) := by decide +kernel
theorem dH_remove_33 : decode M_H_remove.2.1 33 = .ok (.iastore, 1) := by decide +kernel
theorem dH_remove_34 : decode M_H_remove.2.1 34 = .ok (.iinc 2 1, 3) := by decide +kernel
theorem dH_remove_37 : decode M_H_remove.2.1 37 = .ok (.iinc 3 1, 3) := by decide +kernel
theorem dH_remove_40 : decode M_H_remove.2.1 40 = .ok (.goto (-36), 3) := by decide +kernel
theorem dH_remove_43 : decode M_H_remove.2.1 43 = .ok (.aload_n 0, 1) := by decide +kernel
theorem dH_remove_44 : decode M_H_remove.2.1 44 = .ok (.iload_n 2, 1) := by decide +kernel
theorem dH_remove_45 : decode M_H_remove.2.1 45 = .ok (.putfield 13, 3) := by decide +kernel
theorem dH_remove_48 : decode M_H_remove.2.1 48 = .ok (.return_, 1) := by decide +kernel
theorem dH_clear_0 : decode M_H_clear.2.1 0 = .ok (.aload_n 0, 1) := by decide +kernel
theorem dH_clear_1 : decode M_H_clear.2.1 1 = .ok (.iconst 0, 1) := by decide +kernel
theorem dH_clear_2 : decode M_H_clear.2.1 2 = .ok (.putfield 13, 3) := by decide +kernel
theorem dH_clear_5 : decode M_H_clear.2.1 5 = .ok (.return_, 1) := by decide +kernel
theorem dG_init_0 : decode M_G_init.2.1 0 = .ok (.aload_n 0, 1) := by decide +kernel
theorem dG_init_1 : decode M_G_init.2.1 1 = .ok (.invokespecial 3, 3) := by decide +kernel
theorem dG_init_4 : decode M_G_init.2.1 4 = .ok (.aload_n 0, 1) := by decide +kernel
theorem dG_init_5 : decode M_G_init.2.1 5 = .ok (.bipush 6, 2) := by decide +kernel
theorem dG_init_7 : decode M_G_init.2.1 7 = .ok (.anewarray 9, 3) := by decide +kernel
theorem dG_init_10 : decode M_G_init.2.1 10 = .ok (.putfield 11, 3) := by decide +kernel
theorem dG_init_13 : decode M_G_init.2.1 13 = .ok (.iconst 0, 1) := by decide +kernel
theorem dG_init_14 : decode M_G_init.2.1 14 = .ok (.istore_n 2, 1) := by decide +kernel
theorem dG_init_15 : decode M_G_init.2.1 15 = .ok (.iload_n 2, 1) := by decide +kernel
theorem dG_init_16 : decode M_G_init.2.1 16 = .ok (.bipush 6, 2) := by decide +kernel
theorem dG_init_18 : decode M_G_init.2.1 18 = .ok (.if_icmp .ge 23, 3) := by decide +kernel
theorem dG_init_21 : decode M_G_init.2.1 21 = .ok (.aload_n 0, 1) := by decide +kernel
theorem dG_init_22 : decode M_G_init.2.1 22 = .ok (.getfield 11, 3) := by decide +kernel
theorem dG_init_25 : decode M_G_init.2.1 25 = .ok (.iload_n 2, 1) := by decide +kernel
theorem dG_init_26 : decode M_G_init.2.1 26 = .ok (.new 9, 3) := by decide +kernel
theorem dG_init_29 : decode M_G_init.2.1 29 = .ok (.dup, 1) := by decide +kernel
theorem dG_init_30 : decode M_G_init.2.1 30 = .ok (.iload_n 1, 1) := by decide +kernel
theorem dG_init_31 : decode M_G_init.2.1 31 = .ok (.invokespecial 17, 3) := by decide +kernel
theorem dG_init_34 : decode M_G_init.2.1 34 = .ok (.aastore, 1) := by decide +kernel
theorem dG_init_35 : decode M_G_init.2.1 35 = .ok (.iinc 2 1, 3) := by decide +kernel
theorem dG_init_38 : decode M_G_init.2.1 38 = .ok (.goto (-23), 3) := by decide +kernel
theorem dG_init_41 : decode M_G_init.2.1 41 = .ok (.return_, 1) := by decide +kernel
theorem dG_liveCopies_0 : decode M_G_liveCopies.2.1 0 = .ok (.iconst 0, 1) := by decide +kernel
theorem dG_liveCopies_1 : decode M_G_liveCopies.2.1 1 = .ok (.istore_n 1, 1) := by decide +kernel
theorem dG_liveCopies_2 : decode M_G_liveCopies.2.1 2 = .ok (.iconst 0, 1) := by decide +kernel
theorem dG_liveCopies_3 : decode M_G_liveCopies.2.1 3 = .ok (.istore_n 2, 1) := by decide +kernel
theorem dG_liveCopies_4 : decode M_G_liveCopies.2.1 4 = .ok (.iload_n 2, 1) := by decide +kernel
theorem dG_liveCopies_5 : decode M_G_liveCopies.2.1 5 = .ok (.bipush 6, 2) := by decide +kernel
theorem dG_liveCopies_7 : decode M_G_liveCopies.2.1 7 = .ok (.if_icmp .ge 24, 3) := by decide +kernel
theorem dG_liveCopies_10 : decode M_G_liveCopies.2.1 10 = .ok (.aload_n 0, 1) := by decide +kernel
theorem dG_liveCopies_11 : decode M_G_liveCopies.2.1 11 = .ok (.getfield 11, 3) := by decide +kernel
theorem dG_liveCopies_14 : decode M_G_liveCopies.2.1 14 = .ok (.iload_n 2, 1) := by decide +kernel
theorem dG_liveCopies_15 : decode M_G_liveCopies.2.1 15 = .ok (.aaload, 1) := by decide +kernel
theorem dG_liveCopies_16 : decode M_G_liveCopies.2.1 16 = .ok (.invokevirtual 20, 3) := by decide +kernel
theorem dG_liveCopies_19 : decode M_G_liveCopies.2.1 19 = .ok (.ifCond .eq 6, 3) := by decide +kernel
theorem dG_liveCopies_22 : decode M_G_liveCopies.2.1 22 = .ok (.iinc 1 1, 3) := by decide +kernel
theorem dG_liveCopies_25 : decode M_G_liveCopies.2.1 25 = .ok (.iinc 2 1, 3) := by decide +kernel
theorem dG_liveCopies_28 : decode M_G_liveCopies.2.1 28 = .ok (.goto (-24), 3) := by decide +kernel
theorem dG_liveCopies_31 : decode M_G_liveCopies.2.1 31 = .ok (.iload_n 1, 1) := by decide +kernel
theorem dG_liveCopies_32 : decode M_G_liveCopies.2.1 32 = .ok (.ireturn, 1) := by decide +kernel
theorem dG_liveCopyHolds_0 : decode M_G_liveCopyHolds.2.1 0 = .ok (.iconst 0, 1) := by decide +kernel
theorem dG_liveCopyHolds_1 : decode M_G_liveCopyHolds.2.1 1 = .ok (.istore_n 2, 1) := by decide +kernel
theorem dG_liveCopyHolds_2 : decode M_G_liveCopyHolds.2.1 2 = .ok (.iload_n 2, 1) := by decide +kernel
theorem dG_liveCopyHolds_3 : decode M_G_liveCopyHolds.2.1 3 = .ok (.bipush 6, 2) := by decide +kernel
theorem dG_liveCopyHolds_5 : decode M_G_liveCopyHolds.2.1 5 = .ok (.if_icmp .ge 37, 3) := by decide +kernel
theorem dG_liveCopyHolds_8 : decode M_G_liveCopyHolds.2.1 8 = .ok (.aload_n 0, 1) := by decide +kernel
theorem dG_liveCopyHolds_9 : decode M_G_liveCopyHolds.2.1 9 = .ok (.getfield 11, 3) := by decide +kernel
theorem dG_liveCopyHolds_12 : decode M_G_liveCopyHolds.2.1 12 = .ok (.iload_n 2, 1) := by decide +kernel
theorem dG_liveCopyHolds_13 : decode M_G_liveCopyHolds.2.1 13 = .ok (.aaload, 1) := by decide +kernel
theorem dG_liveCopyHolds_14 : decode M_G_liveCopyHolds.2.1 14 = .ok (.invokevirtual 20, 3) := by decide +kernel
theorem dG_liveCopyHolds_17 : decode M_G_liveCopyHolds.2.1 17 = .ok (.ifCond .eq 19, 3) := by decide +kernel
theorem dG_liveCopyHolds_20 : decode M_G_liveCopyHolds.2.1 20 = .ok (.aload_n 0, 1) := by decide +kernel
theorem dG_liveCopyHolds_21 : decode M_G_liveCopyHolds.2.1 21 = .ok (.getfield 11, 3) := by decide +kernel
theorem dG_liveCopyHolds_24 : decode M_G_liveCopyHolds.2.1 24 = .ok (.iload_n 2, 1) := by decide +kernel
theorem dG_liveCopyHolds_25 : decode M_G_liveCopyHolds.2.1 25 = .ok (.aaload, 1) := by decide +kernel
theorem dG_liveCopyHolds_26 : decode M_G_liveCopyHolds.2.1 26 = .ok (.getfield 24, 3) := by decide +kernel
theorem dG_liveCopyHolds_29 : decode M_G_liveCopyHolds.2.1 29 = .ok (.iload_n 1, 1) := by decide +kernel
theorem dG_liveCopyHolds_30 : decode M_G_liveCopyHolds.2.1 30 = .ok (.baload, 1) := by decide +kernel
theorem dG_liveCopyHolds_31 : decode M_G_liveCopyHolds.2.1 31 = .ok (.ifCond .eq 5, 3) := by decide +kernel
theorem dG_liveCopyHolds_34 : decode M_G_liveCopyHolds.2.1 34 = .ok (.iconst 1, 1) := by decide +kernel
theorem dG_liveCopyHolds_35 : decode M_G_liveCopyHolds.2.1 35 = .ok (.ireturn, 1) := by decide +kernel
theorem dG_liveCopyHolds_36 : decode M_G_liveCopyHolds.2.1 36 = .ok (.iinc 2 1, 3) := by decide +kernel
theorem dG_liveCopyHolds_39 : decode M_G_liveCopyHolds.2.1 39 = .ok (.goto (-37), 3) := by decide +kernel
theorem dG_liveCopyHolds_42 : decode M_G_liveCopyHolds.2.1 42 = .ok (.iconst 0, 1) := by decide +kernel
theorem dG_liveCopyHolds_43 : decode M_G_liveCopyHolds.2.1 43 = .ok (.ireturn, 1) := by decide +kernel
theorem dG_serves_0 : decode M_G_serves.2.1 0 = .ok (.iconst 0, 1) := by decide +kernel
theorem dG_serves_1 : decode M_G_serves.2.1 1 = .ok (.istore_n 3, 1) := by decide +kernel
theorem dG_serves_2 : decode M_G_serves.2.1 2 = .ok (.iload_n 3, 1) := by decide +kernel
theorem dG_serves_3 : decode M_G_serves.2.1 3 = .ok (.bipush 6, 2) := by decide +kernel
theorem dG_serves_5 : decode M_G_serves.2.1 5 = .ok (.if_icmp .ge 37, 3) := by decide +kernel
theorem dG_serves_8 : decode M_G_serves.2.1 8 = .ok (.aload_n 0, 1) := by decide +kernel
theorem dG_serves_9 : decode M_G_serves.2.1 9 = .ok (.getfield 11, 3) := by decide +kernel
theorem dG_serves_12 : decode M_G_serves.2.1 12 = .ok (.iload_n 3, 1) := by decide +kernel
theorem dG_serves_13 : decode M_G_serves.2.1 13 = .ok (.aaload, 1) := by decide +kernel
theorem dG_serves_14 : decode M_G_serves.2.1 14 = .ok (.invokevirtual 20, 3) := by decide +kernel
theorem dG_serves_17 : decode M_G_serves.2.1 17 = .ok (.ifCond .eq 19, 3) := by decide +kernel
theorem dG_serves_20 : decode M_G_serves.2.1 20 = .ok (.aload_n 0, 1) := by decide +kernel
theorem dG_serves_21 : decode M_G_serves.2.1 21 = .ok (.getfield 11, 3) := by decide +kernel
theorem dG_serves_24 : decode M_G_serves.2.1 24 = .ok (.iload_n 3, 1) := by decide +kernel
theorem dG_serves_25 : decode M_G_serves.2.1 25 = .ok (.aaload, 1) := by decide +kernel
theorem dG_serves_26 : decode M_G_serves.2.1 26 = .ok (.iload_n 1, 1) := by decide +kernel
theorem dG_serves_27 : decode M_G_serves.2.1 27 = .ok (.aload_n 2, 1) := by decide +kernel
theorem dG_serves_28 : decode M_G_serves.2.1 28 = .ok (.invokevirtual 28, 3) := by decide +kernel
theorem dG_serves_31 : decode M_G_serves.2.1 31 = .ok (.ifCond .eq 5, 3) := by decide +kernel
theorem dG_serves_34 : decode M_G_serves.2.1 34 = .ok (.iconst 1, 1) := by decide +kernel
theorem dG_serves_35 : decode M_G_serves.2.1 35 = .ok (.ireturn, 1) := by decide +kernel
theorem dG_serves_36 : decode M_G_serves.2.1 36 = .ok (.iinc 3 1, 3) := by decide +kernel
theorem dG_serves_39 : decode M_G_serves.2.1 39 = .ok (.goto (-37), 3) := by decide +kernel
theorem dG_serves_42 : decode M_G_serves.2.1 42 = .ok (.iconst 0, 1) := by decide +kernel
theorem dG_serves_43 : decode M_G_serves.2.1 43 = .ok (.ireturn, 1) := by decide +kernel
theorem dG_quorumPoint_0 : decode M_G_quorumPoint.2.1 0 = .ok (.iconst 0, 1) := by decide +kernel
theorem dG_quorumPoint_1 : decode M_G_quorumPoint.2.1 1 = .ok (.istore_n 1, 1) := by decide +kernel
theorem dG_quorumPoint_2 : decode M_G_quorumPoint.2.1 2 = .ok (.iconst 0, 1) := by decide +kernel
theorem dG_quorumPoint_3 : decode M_G_quorumPoint.2.1 3 = .ok (.istore_n 2, 1) := by decide +kernel
theorem dG_quorumPoint_4 : decode M_G_quorumPoint.2.1 4 = .ok (.iload_n 2, 1) := by decide +kernel
theorem dG_quorumPoint_5 : decode M_G_quorumPoint.2.1 5 = .ok (.bipush 6, 2) := by decide +kernel
theorem dG_quorumPoint_7 : decode M_G_quorumPoint.2.1 7 = .ok (.if_icmp .ge 35, 3) := by decide +kernel
theorem dG_quorumPoint_10 : decode M_G_quorumPoint.2.1 10 = .ok (.aload_n 0, 1) := by decide +kernel
theorem dG_quorumPoint_11 : decode M_G_quorumPoint.2.1 11 = .ok (.getfield 11, 3) := by decide +kernel
theorem dG_quorumPoint_14 : decode M_G_quorumPoint.2.1 14 = .ok (.iload_n 2, 1) := by decide +kernel
theorem dG_quorumPoint_15 : decode M_G_quorumPoint.2.1 15 = .ok (.aaload, 1) := by decide +kernel
theorem dG_quorumPoint_16 : decode M_G_quorumPoint.2.1 16 = .ok (.getfield 32, 3) := by decide +kernel
theorem dG_quorumPoint_19 : decode M_G_quorumPoint.2.1 19 = .ok (.istore_n 3, 1) := by decide +kernel
theorem dG_quorumPoint_20 : decode M_G_quorumPoint.2.1 20 = .ok (.iload_n 3, 1) := by decide +kernel
theorem dG_quorumPoint_21 : decode M_G_quorumPoint.2.1 21 = .ok (.iload_n 1, 1) := by decide +kernel
theorem dG_quorumPoint_22 : decode M_G_quorumPoint.2.1 22 = .ok (.if_icmp .le 14, 3) := by decide +kernel
theorem dG_quorumPoint_25 : decode M_G_quorumPoint.2.1 25 = .ok (.aload_n 0, 1) := by decide +kernel
theorem dG_quorumPoint_26 : decode M_G_quorumPoint.2.1 26 = .ok (.iload_n 3, 1) := by decide +kernel
theorem dG_quorumPoint_27 : decode M_G_quorumPoint.2.1 27 = .ok (.invokevirtual 36, 3) := by decide +kernel
theorem dG_quorumPoint_30 : decode M_G_quorumPoint.2.1 30 = .ok (.iconst 4, 1) := by decide +kernel
theorem dG_quorumPoint_31 : decode M_G_quorumPoint.2.1 31 = .ok (.if_icmp .lt 5, 3) := by decide +kernel
theorem dG_quorumPoint_34 : decode M_G_quorumPoint.2.1 34 = .ok (.iload_n 3, 1) := by decide +kernel
theorem dG_quorumPoint_35 : decode M_G_quorumPoint.2.1 35 = .ok (.istore_n 1, 1) := by decide +kernel
theorem dG_quorumPoint_36 : decode M_G_quorumPoint.2.1 36 = .ok (.iinc 2 1, 3) := by decide +kernel
theorem dG_quorumPoint_39 : decode M_G_quorumPoint.2.1 39 = .ok (.goto (-35), 3) := by decide +kernel
theorem dG_quorumPoint_42 : decode M_G_quorumPoint.2.1 42 = .ok (.iload_n 1, 1) := by decide +kernel
theorem dG_quorumPoint_43 : decode M_G_quorumPoint.2.1 43 = .ok (.ireturn, 1) := by decide +kernel
theorem dG_copiesThatReported_0 : decode M_G_copiesThatReported.2.1 0 = .ok (.iconst 0, 1) := by decide +kernel
theorem dG_copiesThatReported_1 : decode M_G_copiesThatReported.2.1 1 = .ok (.istore_n 2, 1) := by decide +kernel
theorem dG_copiesThatReported_2 : decode M_G_copiesThatReported.2.1 2 = .ok (.iconst 0, 1) := by decide +kernel
theorem dG_copiesThatReported_3 : decode M_G_copiesThatReported.2.1 3 = .ok (.istore_n 3, 1) := by decide +kernel
theorem dG_copiesThatReported_4 : decode M_G_copiesThatReported.2.1 4 = .ok (.iload_n 3, 1) := by decide +kernel
theorem dG_copiesThatReported_5 : decode M_G_copiesThatReported.2.1 5 = .ok (.bipush 6, 2) := by decide +kernel
theorem dG_copiesThatReported_7 : decode M_G_copiesThatReported.2.1 7 = .ok (.if_icmp .ge 25, 3) := by decide +kernel
theorem dG_copiesThatReported_10 : decode M_G_copiesThatReported.2.1 10 = .ok (.aload_n 0, 1) := by decide +kernel
theorem dG_copiesThatReported_11 : decode M_G_copiesThatReported.2.1 11 = .ok (.getfield 11, 3) := by decide +kernel
theorem dG_copiesThatReported_14 : decode M_G_copiesThatReported.2.1 14 = .ok (.iload_n 3, 1) := by decide +kernel
theorem dG_copiesThatReported_15 : decode M_G_copiesThatReported.2.1 15 = .ok (.aaload, 1) := by decide +kernel
theorem dG_copiesThatReported_16 : decode M_G_copiesThatReported.2.1 16 = .ok (.getfield 32, 3) := by decide +kernel
theorem dG_copiesThatReported_19 : decode M_G_copiesThatReported.2.1 19 = .ok (.iload_n 1, 1) := by decide +kernel
theorem dG_copiesThatReported_20 : decode M_G_copiesThatReported.2.1 20 = .ok (.if_icmp .lt 6, 3) := by decide +kernel
theorem dG_copiesThatReported_23 : decode M_G_copiesThatReported.2.1 23 = .ok (.iinc 2 1, 3) := by decide +kernel
theorem dG_copiesThatReported_26 : decode M_G_copiesThatReported.2.1 26 = .ok (.iinc 3 1, 3) := by decide +kernel
theorem dG_copiesThatReported_29 : decode M_G_copiesThatReported.2.1 29 = .ok (.goto (-25), 3) := by decide +kernel
theorem dG_copiesThatReported_32 : decode M_G_copiesThatReported.2.1 32 = .ok (.iload_n 2, 1) := by decide +kernel
theorem dG_copiesThatReported_33 : decode M_G_copiesThatReported.2.1 33 = .ok (.ireturn, 1) := by decide +kernel
theorem dG_repair_0 : decode M_G_repair.2.1 0 = .ok (.aload_n 1, 1) := by decide +kernel
theorem dG_repair_1 : decode M_G_repair.2.1 1 = .ok (.getfield 40, 3) := by decide +kernel
theorem dG_repair_4 : decode M_G_repair.2.1 4 = .ok (.iconst 2, 1) := by decide +kernel
theorem dG_repair_5 : decode M_G_repair.2.1 5 = .ok (.if_icmp .ne 11, 3) := by decide +kernel
theorem dG_repair_8 : decode M_G_repair.2.1 8 = .ok (.aload_n 0, 1) := by decide +kernel
theorem dG_repair_9 : decode M_G_repair.2.1 9 = .ok (.invokevirtual 43, 3) := by decide +kernel
theorem dG_repair_12 : decode M_G_repair.2.1 12 = .ok (.iconst 3, 1) := by decide +kernel
theorem dG_repair_13 : decode M_G_repair.2.1 13 = .ok (.if_icmp .ge 5, 3) := by decide +kernel
theorem dG_repair_16 : decode M_G_repair.2.1 16 = .ok (.iconst 0, 1) := by decide +kernel
theorem dG_repair_17 : decode M_G_repair.2.1 17 = .ok (.ireturn, 1) := by decide +kernel
theorem dG_repair_18 : decode M_G_repair.2.1 18 = .ok (.iconst 0, 1) := by decide +kernel
theorem dG_repair_19 : decode M_G_repair.2.1 19 = .ok (.istore_n 2, 1) := by decide +kernel
theorem dG_repair_20 : decode M_G_repair.2.1 20 = .ok (.iload_n 2, 1) := by decide +kernel
theorem dG_repair_21 : decode M_G_repair.2.1 21 = .ok (.bipush 6, 2) := by decide +kernel
theorem dG_repair_23 : decode M_G_repair.2.1 23 = .ok (.if_icmp .ge 32, 3) := by decide +kernel
theorem dG_repair_26 : decode M_G_repair.2.1 26 = .ok (.aload_n 0, 1) := by decide +kernel
theorem dG_repair_27 : decode M_G_repair.2.1 27 = .ok (.getfield 11, 3) := by decide +kernel
theorem dG_repair_30 : decode M_G_repair.2.1 30 = .ok (.iload_n 2, 1) := by decide +kernel
theorem dG_repair_31 : decode M_G_repair.2.1 31 = .ok (.aaload, 1) := by decide +kernel
theorem dG_repair_32 : decode M_G_repair.2.1 32 = .ok (.invokevirtual 20, 3) := by decide +kernel
theorem dG_repair_35 : decode M_G_repair.2.1 35 = .ok (.ifCond .eq 14, 3) := by decide +kernel
theorem dG_repair_38 : decode M_G_repair.2.1 38 = .ok (.aload_n 1, 1) := by decide +kernel
theorem dG_repair_39 : decode M_G_repair.2.1 39 = .ok (.aload_n 0, 1) := by decide +kernel
theorem dG_repair_40 : decode M_G_repair.2.1 40 = .ok (.getfield 11, 3) := by decide +kernel
theorem dG_repair_43 : decode M_G_repair.2.1 43 = .ok (.iload_n 2, 1) := by decide +kernel
theorem dG_repair_44 : decode M_G_repair.2.1 44 = .ok (.aaload, 1) := by decide +kernel
theorem dG_repair_45 : decode M_G_repair.2.1 45 = .ok (.invokevirtual 47, 3) := by decide +kernel
theorem dG_repair_48 : decode M_G_repair.2.1 48 = .ok (.pop, 1) := by decide +kernel
theorem dG_repair_49 : decode M_G_repair.2.1 49 = .ok (.iinc 2 1, 3) := by decide +kernel
theorem dG_repair_52 : decode M_G_repair.2.1 52 = .ok (.goto (-32), 3) := by decide +kernel
theorem dG_repair_55 : decode M_G_repair.2.1 55 = .ok (.aload_n 1, 1) := by decide +kernel
theorem dG_repair_56 : decode M_G_repair.2.1 56 = .ok (.iconst 0, 1) := by decide +kernel
theorem dG_repair_57 : decode M_G_repair.2.1 57 = .ok (.putfield 40, 3) := by decide +kernel
theorem dG_repair_60 : decode M_G_repair.2.1 60 = .ok (.iconst 1, 1) := by decide +kernel
theorem dG_repair_61 : decode M_G_repair.2.1 61 = .ok (.ireturn, 1) := by decide +kernel
theorem dG_dropAfter_0 : decode M_G_dropAfter.2.1 0 = .ok (.iconst 0, 1) := by decide +kernel
theorem dG_dropAfter_1 : decode M_G_dropAfter.2.1 1 = .ok (.istore_n 2, 1) := by decide +kernel
theorem dG_dropAfter_2 : decode M_G_dropAfter.2.1 2 = .ok (.iload_n 2, 1) := by decide +kernel
theorem dG_dropAfter_3 : decode M_G_dropAfter.2.1 3 = .ok (.bipush 6, 2) := by decide +kernel
theorem dG_dropAfter_5 : decode M_G_dropAfter.2.1 5 = .ok (.if_icmp .ge 19, 3) := by decide +kernel
theorem dG_dropAfter_8 : decode M_G_dropAfter.2.1 8 = .ok (.aload_n 0, 1) := by decide +kernel
theorem dG_dropAfter_9 : decode M_G_dropAfter.2.1 9 = .ok (.getfield 11, 3) := by decide +kernel
theorem dG_dropAfter_12 : decode M_G_dropAfter.2.1 12 = .ok (.iload_n 2, 1) := by decide +kernel
theorem dG_dropAfter_13 : decode M_G_dropAfter.2.1 13 = .ok (.aaload, 1) := by decide +kernel
theorem dG_dropAfter_14 : decode M_G_dropAfter.2.1 14 = .ok (.iload_n 1, 1) := by decide +kernel
theorem dG_dropAfter_15 : decode M_G_dropAfter.2.1 15 = .ok (.invokevirtual 51, 3) := by decide +kernel
theorem dG_dropAfter_18 : decode M_G_dropAfter.2.1 18 = .ok (.iinc 2 1, 3) := by decide +kernel
theorem dG_dropAfter_21 : decode M_G_dropAfter.2.1 21 = .ok (.goto (-19), 3) := by decide +kernel
theorem dG_dropAfter_24 : decode M_G_dropAfter.2.1 24 = .ok (.return_, 1) := by decide +kernel
theorem dG_forgetReports_0 : decode M_G_forgetReports.2.1 0 = .ok (.iconst 0, 1) := by decide +kernel
theorem dG_forgetReports_1 : decode M_G_forgetReports.2.1 1 = .ok (.istore_n 1, 1) := by decide +kernel
theorem dG_forgetReports_2 : decode M_G_forgetReports.2.1 2 = .ok (.iload_n 1, 1) := by decide +kernel
theorem dG_forgetReports_3 : decode M_G_forgetReports.2.1 3 = .ok (.bipush 6, 2) := by decide +kernel
theorem dG_forgetReports_5 : decode M_G_forgetReports.2.1 5 = .ok (.if_icmp .ge 19, 3) := by decide +kernel
theorem dG_forgetReports_8 : decode M_G_forgetReports.2.1 8 = .ok (.aload_n 0, 1) := by decide +kernel
theorem dG_forgetReports_9 : decode M_G_forgetReports.2.1 9 = .ok (.getfield 11, 3) := by decide +kernel
theorem dG_forgetReports_12 : decode M_G_forgetReports.2.1 12 = .ok (.iload_n 1, 1) := by decide +kernel
theorem dG_forgetReports_13 : decode M_G_forgetReports.2.1 13 = .ok (.aaload, 1) := by decide +kernel
theorem dG_forgetReports_14 : decode M_G_forgetReports.2.1 14 = .ok (.iconst 0, 1) := by decide +kernel
theorem dG_forgetReports_15 : decode M_G_forgetReports.2.1 15 = .ok (.putfield 32, 3) := by decide +kernel
theorem dG_forgetReports_18 : decode M_G_forgetReports.2.1 18 = .ok (.iinc 1 1, 3) := by decide +kernel
theorem dG_forgetReports_21 : decode M_G_forgetReports.2.1 21 = .ok (.goto (-19), 3) := by decide +kernel
theorem dG_forgetReports_24 : decode M_G_forgetReports.2.1 24 = .ok (.return_, 1) := by decide +kernel
theorem dG_tellReaches_0 : decode M_G_tellReaches.2.1 0 = .ok (.iconst 0, 1) := by decide +kernel
theorem dG_tellReaches_1 : decode M_G_tellReaches.2.1 1 = .ok (.istore_n 2, 1) := by decide +kernel
theorem dG_tellReaches_2 : decode M_G_tellReaches.2.1 2 = .ok (.iload_n 2, 1) := by decide +kernel
theorem dG_tellReaches_3 : decode M_G_tellReaches.2.1 3 = .ok (.bipush 6, 2) := by decide +kernel
theorem dG_tellReaches_5 : decode M_G_tellReaches.2.1 5 = .ok (.if_icmp .ge 31, 3) := by decide +kernel
theorem dG_tellReaches_8 : decode M_G_tellReaches.2.1 8 = .ok (.aload_n 0, 1) := by decide +kernel
theorem dG_tellReaches_9 : decode M_G_tellReaches.2.1 9 = .ok (.getfield 11, 3) := by decide +kernel
theorem dG_tellReaches_12 : decode M_G_tellReaches.2.1 12 = .ok (.iload_n 2, 1) := by decide +kernel
theorem dG_tellReaches_13 : decode M_G_tellReaches.2.1 13 = .ok (.aaload, 1) := by decide +kernel
theorem dG_tellReaches_14 : decode M_G_tellReaches.2.1 14 = .ok (.invokevirtual 20, 3) := by decide +kernel
theorem dG_tellReaches_17 : decode M_G_tellReaches.2.1 17 = .ok (.ifCond .eq 13, 3) := by decide +kernel
theorem dG_tellReaches_20 : decode M_G_tellReaches.2.1 20 = .ok (.aload_n 0, 1) := by decide +kernel
theorem dG_tellReaches_21 : decode M_G_tellReaches.2.1 21 = .ok (.getfield 11, 3) := by decide +kernel
theorem dG_tellReaches_24 : decode M_G_tellReaches.2.1 24 = .ok (.iload_n 2, 1) := by decide +kernel
theorem dG_tellReaches_25 : decode M_G_tellReaches.2.1 25 = .ok (.aaload, 1) := by decide +kernel
theorem dG_tellReaches_26 : decode M_G_tellReaches.2.1 26 = .ok (.aload_n 1, 1) := by decide +kernel
theorem dG_tellReaches_27 : decode M_G_tellReaches.2.1 27 = .ok (.invokevirtual 54, 3) := by decide +kernel
theorem dG_tellReaches_30 : decode M_G_tellReaches.2.1 30 = .ok (.iinc 2 1, 3) := by decide +kernel
theorem dG_tellReaches_33 : decode M_G_tellReaches.2.1 33 = .ok (.goto (-31), 3) := by decide +kernel
theorem dG_tellReaches_36 : decode M_G_tellReaches.2.1 36 = .ok (.return_, 1) := by decide +kernel
theorem dL_init_0 : decode M_L_init.2.1 0 = .ok (.aload_n 0, 1) := by decide +kernel
theorem dL_init_1 : decode M_L_init.2.1 1 = .ok (.invokespecial 3, 3) := by decide +kernel
theorem dL_init_4 : decode M_L_init.2.1 4 = .ok (.aload_n 0, 1) := by decide +kernel
theorem dL_init_5 : decode M_L_init.2.1 5 = .ok (.sipush 188, 3) := by decide +kernel
theorem dL_init_8 : decode M_L_init.2.1 8 = .ok (.newarray .int, 2) := by decide +kernel
theorem dL_init_10 : decode M_L_init.2.1 10 = .ok (.putfield 11, 3) := by decide +kernel
theorem dL_init_13 : decode M_L_init.2.1 13 = .ok (.aload_n 0, 1) := by decide +kernel
theorem dL_init_14 : decode M_L_init.2.1 14 = .ok (.sipush 188, 3) := by decide +kernel
theorem dL_init_17 : decode M_L_init.2.1 17 = .ok (.newarray .int, 2) := by decide +kernel
theorem dL_init_19 : decode M_L_init.2.1 19 = .ok (.putfield 15, 3) := by decide +kernel
theorem dL_init_22 : decode M_L_init.2.1 22 = .ok (.aload_n 0, 1) := by decide +kernel
theorem dL_init_23 : decode M_L_init.2.1 23 = .ok (.sipush 188, 3) := by decide +kernel
theorem dL_init_26 : decode M_L_init.2.1 26 = .ok (.newarray .int, 2) := by decide +kernel
theorem dL_init_28 : decode M_L_init.2.1 28 = .ok (.putfield 18, 3) := by decide +kernel
theorem dL_init_31 : decode M_L_init.2.1 31 = .ok (.aload_n 0, 1) := by decide +kernel
theorem dL_init_32 : decode M_L_init.2.1 32 = .ok (.sipush 188, 3) := by decide +kernel
theorem dL_init_35 : decode M_L_init.2.1 35 = .ok (.newarray .int, 2) := by decide +kernel
theorem dL_init_37 : decode M_L_init.2.1 37 = .ok (.putfield 21, 3) := by decide +kernel
theorem dL_init_40 : decode M_L_init.2.1 40 = .ok (.aload_n 0, 1) := by decide +kernel
theorem dL_init_41 : decode M_L_init.2.1 41 = .ok (.sipush 188, 3) := by decide +kernel
theorem dL_init_44 : decode M_L_init.2.1 44 = .ok (.newarray .int, 2) := by decide +kernel
theorem dL_init_46 : decode M_L_init.2.1 46 = .ok (.putfield 24, 3) := by decide +kernel
theorem dL_init_49 : decode M_L_init.2.1 49 = .ok (.aload_n 0, 1) := by decide +kernel
theorem dL_init_50 : decode M_L_init.2.1 50 = .ok (.bipush 61, 2) := by decide +kernel
theorem dL_init_52 : decode M_L_init.2.1 52 = .ok (.newarray .int, 2) := by decide +kernel
theorem dL_init_54 : decode M_L_init.2.1 54 = .ok (.putfield 27, 3) := by decide +kernel
theorem dL_init_57 : decode M_L_init.2.1 57 = .ok (.aload_n 0, 1) := by decide +kernel
theorem dL_init_58 : decode M_L_init.2.1 58 = .ok (.iconst 0, 1) := by decide +kernel
theorem dL_init_59 : decode M_L_init.2.1 59 = .ok (.putfield 30, 3) := by decide +kernel
theorem dL_init_62 : decode M_L_init.2.1 62 = .ok (.return_, 1) := by decide +kernel
theorem dL_has_0 : decode M_L_has.2.1 0 = .ok (.iload_n 1, 1) := by decide +kernel
theorem dL_has_1 : decode M_L_has.2.1 1 = .ok (.iconst 1, 1) := by decide +kernel
theorem dL_has_2 : decode M_L_has.2.1 2 = .ok (.if_icmp .lt 15, 3) := by decide +kernel
theorem dL_has_5 : decode M_L_has.2.1 5 = .ok (.iload_n 1, 1) := by decide +kernel
theorem dL_has_6 : decode M_L_has.2.1 6 = .ok (.aload_n 0, 1) := by decide +kernel
theorem dL_has_7 : decode M_L_has.2.1 7 = .ok (.getfield 30, 3) := by decide +kernel
theorem dL_has_10 : decode M_L_has.2.1 10 = .ok (.if_icmp .gt 7, 3) := by decide +kernel
theorem dL_has_13 : decode M_L_has.2.1 13 = .ok (.iconst 1, 1) := by decide +kernel
theorem dL_has_14 : decode M_L_has.2.1 14 = .ok (.goto 4, 3) := by decide +kernel
theorem dL_has_17 : decode M_L_has.2.1 17 = .ok (.iconst 0, 1) := by decide +kernel
theorem dL_has_18 : decode M_L_has.2.1 18 = .ok (.ireturn, 1) := by decide +kernel
theorem dL_addChange_0 : decode M_L_addChange.2.1 0 = .ok (.aload_n 0, 1) := by decide +kernel
theorem dL_addChange_1 : decode M_L_addChange.2.1 1 = .ok (.iload 4, 2) := by decide +kernel
theorem dL_addChange_3 : decode M_L_addChange.2.1 3 = .ok (.ifCond .eq 7, 3) := by decide +kernel
theorem dL_addChange_6 : decode M_L_addChange.2.1 6 = .ok (.iconst 1, 1) := by decide +kernel
theorem dL_addChange_7 : decode M_L_addChange.2.1 7 = .ok (.goto 4, 3) := by decide +kernel
theorem dL_addChange_10 : decode M_L_addChange.2.1 10 = .ok (.iconst 0, 1) := by decide +kernel
theorem dL_addChange_11 : decode M_L_addChange.2.1 11 = .ok (.iload_n 1, 1) := by decide +kernel
theorem dL_addChange_12 : decode M_L_addChange.2.1 12 = .ok (.iload_n 2, 1) := by decide +kernel
theorem dL_addChange_13 : decode M_L_addChange.2.1 13 = .ok (.iload_n 3, 1) := by decide +kernel
theorem dL_addChange_14 : decode M_L_addChange.2.1 14 = .ok (.iload_n 2, 1) := by decide +kernel
theorem dL_addChange_15 : decode M_L_addChange.2.1 15 = .ok (.invokestatic 34, 3) := by decide +kernel
theorem dL_addChange_18 : decode M_L_addChange.2.1 18 = .ok (.invokestatic 38, 3) := by decide +kernel
theorem dL_addChange_21 : decode M_L_addChange.2.1 21 = .ok (.invokevirtual 41, 3) := by decide +kernel
theorem dL_addChange_24 : decode M_L_addChange.2.1 24 = .ok (.ireturn, 1) := by decide +kernel
theorem dL_addEnd_0 : decode M_L_addEnd.2.1 0 = .ok (.aload_n 0, 1) := by decide +kernel
theorem dL_addEnd_1 : decode M_L_addEnd.2.1 1 = .ok (.iload_n 2, 1) := by decide +kernel
theorem dL_addEnd_2 : decode M_L_addEnd.2.1 2 = .ok (.ifCond .eq 7, 3) := by decide +kernel
theorem dL_addEnd_5 : decode M_L_addEnd.2.1 5 = .ok (.iconst 2, 1) := by decide +kernel
theorem dL_addEnd_6 : decode M_L_addEnd.2.1 6 = .ok (.goto 4, 3) := by decide +kernel
theorem dL_addEnd_9 : decode M_L_addEnd.2.1 9 = .ok (.iconst 3, 1) := by decide +kernel
theorem dL_addEnd_10 : decode M_L_addEnd.2.1 10 = .ok (.iload_n 1, 1) := by decide +kernel
theorem dL_addEnd_11 : decode M_L_addEnd.2.1 11 = .ok (.iconst (-1), 1) := by decide +kernel
theorem dL_addEnd_12 : decode M_L_addEnd.2.1 12 = .ok (.iconst 0, 1) := by decide +kernel
theorem dL_addEnd_13 : decode M_L_addEnd.2.1 13 = .ok (.iload_n 1, 1) := by decide +kernel
theorem dL_addEnd_14 : decode M_L_addEnd.2.1 14 = .ok (.iconst 2, 1) := by decide +kernel
theorem dL_addEnd_15 : decode M_L_addEnd.2.1 15 = .ok (.irem, 1) := by decide +kernel
theorem dL_addEnd_16 : decode M_L_addEnd.2.1 16 = .ok (.invokevirtual 41, 3) := by decide +kernel
theorem dL_addEnd_19 : decode M_L_addEnd.2.1 19 = .ok (.istore_n 3, 1) := by decide +kernel
theorem dL_addEnd_20 : decode M_L_addEnd.2.1 20 = .ok (.aload_n 0, 1) := by decide +kernel
theorem dL_addEnd_21 : decode M_L_addEnd.2.1 21 = .ok (.getfield 27, 3) := by decide +kernel
theorem dL_addEnd_24 : decode M_L_addEnd.2.1 24 = .ok (.iload_n 1, 1) := by decide +kernel
theorem dL_addEnd_25 : decode M_L_addEnd.2.1 25 = .ok (.iconst 0, 1) := by decide +kernel
theorem dL_addEnd_26 : decode M_L_addEnd.2.1 26 = .ok (.iload_n 3, 1) := by decide +kernel
theorem dL_addEnd_27 : decode M_L_addEnd.2.1 27 = .ok (.invokestatic 45, 3) := by decide +kernel
theorem dL_addEnd_30 : decode M_L_addEnd.2.1 30 = .ok (.iastore, 1) := by decide +kernel
theorem dL_addEnd_31 : decode M_L_addEnd.2.1 31 = .ok (.iload_n 3, 1) := by decide +kernel
theorem dL_addEnd_32 : decode M_L_addEnd.2.1 32 = .ok (.ireturn, 1) := by decide +kernel
theorem dL_add_0 : decode M_L_add.2.1 0 = .ok (.aload_n 0, 1) := by decide +kernel
theorem dL_add_1 : decode M_L_add.2.1 1 = .ok (.getfield 30, 3) := by decide +kernel
theorem dL_add_4 : decode M_L_add.2.1 4 = .ok (.sipush 187, 3) := by decide +kernel
theorem dL_add_7 : decode M_L_add.2.1 7 = .ok (.if_icmp .lt 6, 3) := by decide +kernel
theorem dL_add_10 : decode M_L_add.2.1 10 = .ok (.bipush (-5), 2) := by decide +kernel
theorem dL_add_12 : decode M_L_add.2.1 12 = .ok (.ireturn, 1) := by decide +kernel
theorem dL_add_13 : decode M_L_add.2.1 13 = .ok (.aload_n 0, 1) := by decide +kernel
theorem dL_add_14 : decode M_L_add.2.1 14 = .ok (.dup, 1) := by decide +kernel
theorem dL_add_15 : decode M_L_add.2.1 15 = .ok (.getfield 30, 3) := by decide +kernel
theorem dL_add_18 : decode M_L_add.2.1 18 = .ok (.iconst 1, 1) := by decide +kernel
theorem dL_add_19 : decode M_L_add.2.1 19 = .ok (.iadd, 1) := by decide +kernel
theorem dL_add_20 : decode M_L_add.2.1 20 = .ok (.putfield 30, 3) := by decide +kernel
theorem dL_add_23 : decode M_L_add.2.1 23 = .ok (.aload_n 0, 1) := by decide +kernel
theorem dL_add_24 : decode M_L_add.2.1 24 = .ok (.getfield 11, 3) := by decide +kernel
theorem dL_add_27 : decode M_L_add.2.1 27 = .ok (.aload_n 0, 1) := by decide +kernel
theorem dL_add_28 : decode M_L_add.2.1 28 = .ok (.getfield 30, 3) := by decide +kernel
theorem dL_add_31 : decode M_L_add.2.1 31 = .ok (.iload_n 1, 1) := by decide +kernel
theorem dL_add_32 : decode M_L_add.2.1 32 = .ok (.iastore, 1) := by decide +kernel
theorem dL_add_33 : decode M_L_add.2.1 33 = .ok (.aload_n 0, 1) := by decide +kernel
theorem dL_add_34 : decode M_L_add.2.1 34 = .ok (.getfield 15, 3) := by decide +kernel
theorem dL_add_37 : decode M_L_add.2.1 37 = .ok (.aload_n 0, 1) := by decide +kernel
theorem dL_add_38 : decode M_L_add.2.1 38 = .ok (.getfield 30, 3) := by decide +kernel
theorem dL_add_41 : decode M_L_add.2.1 41 = .ok (.iload_n 2, 1) := by decide +kernel
theorem dL_add_42 : decode M_L_add.2.1 42 = .ok (.iastore, 1) := by decide +kernel
theorem dL_add_43 : decode M_L_add.2.1 43 = .ok (.aload_n 0, 1) := by decide +kernel
theorem dL_add_44 : decode M_L_add.2.1 44 = .ok (.getfield 18, 3) := by decide +kernel
theorem dL_add_47 : decode M_L_add.2.1 47 = .ok (.aload_n 0, 1) := by decide +kernel
theorem dL_add_48 : decode M_L_add.2.1 48 = .ok (.getfield 30, 3) := by decide +kernel
theorem dL_add_51 : decode M_L_add.2.1 51 = .ok (.iload_n 3, 1) := by decide +kernel
theorem dL_add_52 : decode M_L_add.2.1 52 = .ok (.iastore, 1) := by decide +kernel
theorem dL_add_53 : decode M_L_add.2.1 53 = .ok (.aload_n 0, 1) := by decide +kernel
theorem dL_add_54 : decode M_L_add.2.1 54 = .ok (.getfield 21, 3) := by decide +kernel
theorem dL_add_57 : decode M_L_add.2.1 57 = .ok (.aload_n 0, 1) := by decide +kernel
theorem dL_add_58 : decode M_L_add.2.1 58 = .ok (.getfield 30, 3) := by decide +kernel
theorem dL_add_61 : decode M_L_add.2.1 61 = .ok (.iload 4, 2) := by decide +kernel
theorem dL_add_63 : decode M_L_add.2.1 63 = .ok (.iastore, 1) := by decide +kernel
theorem dL_add_64 : decode M_L_add.2.1 64 = .ok (.aload_n 0, 1) := by decide +kernel
theorem dL_add_65 : decode M_L_add.2.1 65 = .ok (.getfield 24, 3) := by decide +kernel
theorem dL_add_68 : decode M_L_add.2.1 68 = .ok (.aload_n 0, 1) := by decide +kernel
theorem dL_add_69 : decode M_L_add.2.1 69 = .ok (.getfield 30, 3) := by decide +kernel
theorem dL_add_72 : decode M_L_add.2.1 72 = .ok (.iload 5, 2) := by decide +kernel
theorem dL_add_74 : decode M_L_add.2.1 74 = .ok (.iastore, 1) := by decide +kernel
theorem dL_add_75 : decode M_L_add.2.1 75 = .ok (.aload_n 0, 1) := by decide +kernel
theorem dL_add_76 : decode M_L_add.2.1 76 = .ok (.getfield 30, 3) := by decide +kernel
theorem dL_add_79 : decode M_L_add.2.1 79 = .ok (.ireturn, 1) := by decide +kernel
theorem dL_rollBack_0 : decode M_L_rollBack.2.1 0 = .ok (.iconst 0, 1) := by decide +kernel
theorem dL_rollBack_1 : decode M_L_rollBack.2.1 1 = .ok (.istore_n 2, 1) := by decide +kernel
theorem dL_rollBack_2 : decode M_L_rollBack.2.1 2 = .ok (.iload_n 2, 1) := by decide +kernel
theorem dL_rollBack_3 : decode M_L_rollBack.2.1 3 = .ok (.bipush 32, 2) := by decide +kernel
theorem dL_rollBack_5 : decode M_L_rollBack.2.1 5 = .ok (.if_icmp .ge 36, 3) := by decide +kernel
theorem dL_rollBack_8 : decode M_L_rollBack.2.1 8 = .ok (.aload_n 0, 1) := by decide +kernel
theorem dL_rollBack_9 : decode M_L_rollBack.2.1 9 = .ok (.iload_n 1, 1) := by decide +kernel
theorem dL_rollBack_10 : decode M_L_rollBack.2.1 10 = .ok (.iload_n 2, 1) := by decide +kernel
theorem dL_rollBack_11 : decode M_L_rollBack.2.1 11 = .ok (.invokevirtual 51, 3) := by decide +kernel
theorem dL_rollBack_14 : decode M_L_rollBack.2.1 14 = .ok (.istore_n 3, 1) := by decide +kernel
theorem dL_rollBack_15 : decode M_L_rollBack.2.1 15 = .ok (.iload_n 3, 1) := by decide +kernel
theorem dL_rollBack_16 : decode M_L_rollBack.2.1 16 = .ok (.ifCond .le 19, 3) := by decide +kernel
theorem dL_rollBack_19 : decode M_L_rollBack.2.1 19 = .ok (.aload_n 0, 1) := by decide +kernel
theorem dL_rollBack_20 : decode M_L_rollBack.2.1 20 = .ok (.iload_n 1, 1) := by decide +kernel
theorem dL_rollBack_21 : decode M_L_rollBack.2.1 21 = .ok (.iload_n 2, 1) := by decide +kernel
theorem dL_rollBack_22 : decode M_L_rollBack.2.1 22 = .ok (.aload_n 0, 1) := by decide +kernel
theorem dL_rollBack_23 : decode M_L_rollBack.2.1 23 = .ok (.iload_n 2, 1) := by decide +kernel
theorem dL_rollBack_24 : decode M_L_rollBack.2.1 24 = .ok (.iload_n 3, 1) := by decide +kernel
theorem dL_rollBack_25 : decode M_L_rollBack.2.1 25 = .ok (.iconst 1, 1) := by decide +kernel
theorem dL_rollBack_26 : decode M_L_rollBack.2.1 26 = .ok (.isub, 1) := by decide +kernel
theorem dL_rollBack_27 : decode M_L_rollBack.2.1 27 = .ok (.invokevirtual 54, 3) := by decide +kernel
theorem dL_rollBack_30 : decode M_L_rollBack.2.1 30 = .ok (.iconst 0, 1) := by decide +kernel
theorem dL_rollBack_31 : decode M_L_rollBack.2.1 31 = .ok (.invokevirtual 57, 3) := by decide +kernel
theorem dL_rollBack_34 : decode M_L_rollBack.2.1 34 = .ok (.pop, 1) := by decide +kernel
theorem dL_rollBack_35 : decode M_L_rollBack.2.1 35 = .ok (.iinc 2 1, 3) := by decide +kernel
theorem dL_rollBack_38 : decode M_L_rollBack.2.1 38 = .ok (.goto (-36), 3) := by decide +kernel
theorem dL_rollBack_41 : decode M_L_rollBack.2.1 41 = .ok (.aload_n 0, 1) := by decide +kernel
theorem dL_rollBack_42 : decode M_L_rollBack.2.1 42 = .ok (.iload_n 1, 1) := by decide +kernel
theorem dL_rollBack_43 : decode M_L_rollBack.2.1 43 = .ok (.iconst 0, 1) := by decide +kernel
theorem dL_rollBack_44 : decode M_L_rollBack.2.1 44 = .ok (.invokevirtual 61, 3) := by decide +kernel
theorem dL_rollBack_47 : decode M_L_rollBack.2.1 47 = .ok (.ireturn, 1) := by decide +kernel
theorem dL_cutAfter_0 : decode M_L_cutAfter.2.1 0 = .ok (.aload_n 0, 1) := by decide +kernel
theorem dL_cutAfter_1 : decode M_L_cutAfter.2.1 1 = .ok (.aload_n 0, 1) := by decide +kernel
theorem dL_cutAfter_2 : decode M_L_cutAfter.2.1 2 = .ok (.getfield 30, 3) := by decide +kernel
theorem dL_cutAfter_5 : decode M_L_cutAfter.2.1 5 = .ok (.iload_n 1, 1) := by decide +kernel
theorem dL_cutAfter_6 : decode M_L_cutAfter.2.1 6 = .ok (.invokestatic 65, 3) := by decide +kernel
theorem dL_cutAfter_9 : decode M_L_cutAfter.2.1 9 = .ok (.putfield 30, 3) := by decide +kernel
theorem dL_cutAfter_12 : decode M_L_cutAfter.2.1 12 = .ok (.iconst 1, 1) := by decide +kernel
theorem dL_cutAfter_13 : decode M_L_cutAfter.2.1 13 = .ok (.istore_n 2, 1) := by decide +kernel
theorem dL_cutAfter_14 : decode M_L_cutAfter.2.1 14 = .ok (.iload_n 2, 1) := by decide +kernel
theorem dL_cutAfter_15 : decode M_L_cutAfter.2.1 15 = .ok (.bipush 60, 2) := by decide +kernel
theorem dL_cutAfter_17 : decode M_L_cutAfter.2.1 17 = .ok (.if_icmp .gt 29, 3) := by decide +kernel
theorem dL_cutAfter_20 : decode M_L_cutAfter.2.1 20 = .ok (.aload_n 0, 1) := by decide +kernel
theorem dL_cutAfter_21 : decode M_L_cutAfter.2.1 21 = .ok (.getfield 27, 3) := by decide +kernel
theorem dL_cutAfter_24 : decode M_L_cutAfter.2.1 24 = .ok (.iload_n 2, 1) := by decide +kernel
theorem dL_cutAfter_25 : decode M_L_cutAfter.2.1 25 = .ok (.iaload, 1) := by decide +kernel
theorem dL_cutAfter_26 : decode M_L_cutAfter.2.1 26 = .ok (.aload_n 0, 1) := by decide +kernel
theorem dL_cutAfter_27 : decode M_L_cutAfter.2.1 27 = .ok (.getfield 30, 3) := by decide +kernel
theorem dL_cutAfter_30 : decode M_L_cutAfter.2.1 30 = .ok (.if_icmp .le 10, 3) := by decide +kernel
theorem dL_cutAfter_33 : decode M_L_cutAfter.2.1 33 = .ok (.aload_n 0, 1) := by decide +kernel
theorem dL_cutAfter_34 : decode M_L_cutAfter.2.1 34 = .ok (.getfield 27, 3) := by decide +kernel
theorem dL_cutAfter_37 : decode M_L_cutAfter.2.1 37 = .ok (.iload_n 2, 1) := by decide +kernel
theorem dL_cutAfter_38 : decode M_L_cutAfter.2.1 38 = .ok (.iconst 0, 1) := by decide +kernel
theorem dL_cutAfter_39 : decode M_L_cutAfter.2.1 39 = .ok (.iastore, 1) := by decide +kernel
theorem dL_cutAfter_40 : decode M_L_cutAfter.2.1 40 = .ok (.iinc 2 1, 3) := by decide +kernel
theorem dL_cutAfter_43 : decode M_L_cutAfter.2.1 43 = .ok (.goto (-29), 3) := by decide +kernel
theorem dL_cutAfter_46 : decode M_L_cutAfter.2.1 46 = .ok (.return_, 1) := by decide +kernel
theorem dL_isEnd_0 : decode M_L_isEnd.2.1 0 = .ok (.aload_n 0, 1) := by decide +kernel
theorem dL_isEnd_1 : decode M_L_isEnd.2.1 1 = .ok (.getfield 11, 3) := by decide +kernel
theorem dL_isEnd_4 : decode M_L_isEnd.2.1 4 = .ok (.iload_n 1, 1) := by decide +kernel
theorem dL_isEnd_5 : decode M_L_isEnd.2.1 5 = .ok (.iaload, 1) := by decide +kernel
theorem dL_isEnd_6 : decode M_L_isEnd.2.1 6 = .ok (.iconst 2, 1) := by decide +kernel
theorem dL_isEnd_7 : decode M_L_isEnd.2.1 7 = .ok (.if_icmp .eq 13, 3) := by decide +kernel
theorem dL_isEnd_10 : decode M_L_isEnd.2.1 10 = .ok (.aload_n 0, 1) := by decide +kernel
theorem dL_isEnd_11 : decode M_L_isEnd.2.1 11 = .ok (.getfield 11, 3) := by decide +kernel
theorem dL_isEnd_14 : decode M_L_isEnd.2.1 14 = .ok (.iload_n 1, 1) := by decide +kernel
theorem dL_isEnd_15 : decode M_L_isEnd.2.1 15 = .ok (.iaload, 1) := by decide +kernel
theorem dL_isEnd_16 : decode M_L_isEnd.2.1 16 = .ok (.iconst 3, 1) := by decide +kernel
theorem dL_isEnd_17 : decode M_L_isEnd.2.1 17 = .ok (.if_icmp .ne 7, 3) := by decide +kernel
theorem dL_isEnd_20 : decode M_L_isEnd.2.1 20 = .ok (.iconst 1, 1) := by decide +kernel
theorem dL_isEnd_21 : decode M_L_isEnd.2.1 21 = .ok (.goto 4, 3) := by decide +kernel
theorem dL_isEnd_24 : decode M_L_isEnd.2.1 24 = .ok (.iconst 0, 1) := by decide +kernel
theorem dL_isEnd_25 : decode M_L_isEnd.2.1 25 = .ok (.ireturn, 1) := by decide +kernel
theorem dL_commits_0 : decode M_L_commits.2.1 0 = .ok (.aload_n 0, 1) := by decide +kernel
theorem dL_commits_1 : decode M_L_commits.2.1 1 = .ok (.getfield 11, 3) := by decide +kernel
theorem dL_commits_4 : decode M_L_commits.2.1 4 = .ok (.iload_n 1, 1) := by decide +kernel
theorem dL_commits_5 : decode M_L_commits.2.1 5 = .ok (.iaload, 1) := by decide +kernel
theorem dL_commits_6 : decode M_L_commits.2.1 6 = .ok (.iconst 2, 1) := by decide +kernel
theorem dL_commits_7 : decode M_L_commits.2.1 7 = .ok (.if_icmp .ne 7, 3) := by decide +kernel
theorem dL_commits_10 : decode M_L_commits.2.1 10 = .ok (.iconst 1, 1) := by decide +kernel
theorem dL_commits_11 : decode M_L_commits.2.1 11 = .ok (.goto 4, 3) := by decide +kernel
theorem dL_commits_14 : decode M_L_commits.2.1 14 = .ok (.iconst 0, 1) := by decide +kernel
theorem dL_commits_15 : decode M_L_commits.2.1 15 = .ok (.ireturn, 1) := by decide +kernel
theorem dL_lastCloseUpTo_0 : decode M_L_lastCloseUpTo.2.1 0 = .ok (.iload_n 1, 1) := by decide +kernel
theorem dL_lastCloseUpTo_1 : decode M_L_lastCloseUpTo.2.1 1 = .ok (.istore_n 2, 1) := by decide +kernel
theorem dL_lastCloseUpTo_2 : decode M_L_lastCloseUpTo.2.1 2 = .ok (.iload_n 2, 1) := by decide +kernel
theorem dL_lastCloseUpTo_3 : decode M_L_lastCloseUpTo.2.1 3 = .ok (.iconst 1, 1) := by decide +kernel
theorem dL_lastCloseUpTo_4 : decode M_L_lastCloseUpTo.2.1 4 = .ok (.if_icmp .lt 20, 3) := by decide +kernel
theorem dL_lastCloseUpTo_7 : decode M_L_lastCloseUpTo.2.1 7 = .ok (.aload_n 0, 1) := by decide +kernel
theorem dL_lastCloseUpTo_8 : decode M_L_lastCloseUpTo.2.1 8 = .ok (.getfield 11, 3) := by decide +kernel
theorem dL_lastCloseUpTo_11 : decode M_L_lastCloseUpTo.2.1 11 = .ok (.iload_n 2, 1) := by decide +kernel
theorem dL_lastCloseUpTo_12 : decode M_L_lastCloseUpTo.2.1 12 = .ok (.iaload, 1) := by decide +kernel
theorem dL_lastCloseUpTo_13 : decode M_L_lastCloseUpTo.2.1 13 = .ok (.ifCond .eq 5, 3) := by decide +kernel
theorem dL_lastCloseUpTo_16 : decode M_L_lastCloseUpTo.2.1 16 = .ok (.iload_n 2, 1) := by decide +kernel
theorem dL_lastCloseUpTo_17 : decode M_L_lastCloseUpTo.2.1 17 = .ok (.ireturn, 1) := by decide +kernel
theorem dL_lastCloseUpTo_18 : decode M_L_lastCloseUpTo.2.1 18 = .ok (.iinc 2 (-1), 3) := by decide +kernel
theorem dL_lastCloseUpTo_21 : decode M_L_lastCloseUpTo.2.1 21 = .ok (.goto (-19), 3) := by decide +kernel
theorem dL_lastCloseUpTo_24 : decode M_L_lastCloseUpTo.2.1 24 = .ok (.iconst 0, 1) := by decide +kernel
theorem dL_lastCloseUpTo_25 : decode M_L_lastCloseUpTo.2.1 25 = .ok (.ireturn, 1) := by decide +kernel
theorem dL_valueUpTo_0 : decode M_L_valueUpTo.2.1 0 = .ok (.iload_n 2, 1) := by decide +kernel
theorem dL_valueUpTo_1 : decode M_L_valueUpTo.2.1 1 = .ok (.istore_n 3, 1) := by decide +kernel
theorem dL_valueUpTo_2 : decode M_L_valueUpTo.2.1 2 = .ok (.iload_n 3, 1) := by decide +kernel
theorem dL_valueUpTo_3 : decode M_L_valueUpTo.2.1 3 = .ok (.iconst 1, 1) := by decide +kernel
theorem dL_valueUpTo_4 : decode M_L_valueUpTo.2.1 4 = .ok (.if_icmp .lt 26, 3) := by decide +kernel
theorem dL_valueUpTo_7 : decode M_L_valueUpTo.2.1 7 = .ok (.aload_n 0, 1) := by decide +kernel
theorem dL_valueUpTo_8 : decode M_L_valueUpTo.2.1 8 = .ok (.getfield 18, 3) := by decide +kernel
theorem dL_valueUpTo_11 : decode M_L_valueUpTo.2.1 11 = .ok (.iload_n 3, 1) := by decide +kernel
theorem dL_valueUpTo_12 : decode M_L_valueUpTo.2.1 12 = .ok (.iaload, 1) := by decide +kernel
theorem dL_valueUpTo_13 : decode M_L_valueUpTo.2.1 13 = .ok (.iload_n 1, 1) := by decide +kernel
theorem dL_valueUpTo_14 : decode M_L_valueUpTo.2.1 14 = .ok (.if_icmp .ne 10, 3) := by decide +kernel
theorem dL_valueUpTo_17 : decode M_L_valueUpTo.2.1 17 = .ok (.aload_n 0, 1) := by decide +kernel
theorem dL_valueUpTo_18 : decode M_L_valueUpTo.2.1 18 = .ok (.getfield 21, 3) := by decide +kernel
theorem dL_valueUpTo_21 : decode M_L_valueUpTo.2.1 21 = .ok (.iload_n 3, 1) := by decide +kernel
theorem dL_valueUpTo_22 : decode M_L_valueUpTo.2.1 22 = .ok (.iaload, 1) := by decide +kernel
theorem dL_valueUpTo_23 : decode M_L_valueUpTo.2.1 23 = .ok (.ireturn, 1) := by decide +kernel
theorem dL_valueUpTo_24 : decode M_L_valueUpTo.2.1 24 = .ok (.iinc 3 (-1), 3) := by decide +kernel
theorem dL_valueUpTo_27 : decode M_L_valueUpTo.2.1 27 = .ok (.goto (-25), 3) := by decide +kernel
theorem dL_valueUpTo_30 : decode M_L_valueUpTo.2.1 30 = .ok (.iconst 0, 1) := by decide +kernel
theorem dL_valueUpTo_31 : decode M_L_valueUpTo.2.1 31 = .ok (.ireturn, 1) := by decide +kernel
theorem dL_endedValueUpTo_0 : decode M_L_endedValueUpTo.2.1 0 = .ok (.iload_n 2, 1) := by decide +kernel
theorem dL_endedValueUpTo_1 : decode M_L_endedValueUpTo.2.1 1 = .ok (.istore_n 3, 1) := by decide +kernel
theorem dL_endedValueUpTo_2 : decode M_L_endedValueUpTo.2.1 2 = .ok (.iload_n 3, 1) := by decide +kernel
theorem dL_endedValueUpTo_3 : decode M_L_endedValueUpTo.2.1 3 = .ok (.iconst 1, 1) := by decide +kernel
theorem dL_endedValueUpTo_4 : decode M_L_endedValueUpTo.2.1 4 = .ok (.if_icmp .lt 40, 3) := by decide +kernel
theorem dL_endedValueUpTo_7 : decode M_L_endedValueUpTo.2.1 7 = .ok (.aload_n 0, 1) := by decide +kernel
theorem dL_endedValueUpTo_8 : decode M_L_endedValueUpTo.2.1 8 = .ok (.getfield 18, 3) := by decide +kernel
theorem dL_endedValueUpTo_11 : decode M_L_endedValueUpTo.2.1 11 = .ok (.iload_n 3, 1) := by decide +kernel
theorem dL_endedValueUpTo_12 : decode M_L_endedValueUpTo.2.1 12 = .ok (.iaload, 1) := by decide +kernel
theorem dL_endedValueUpTo_13 : decode M_L_endedValueUpTo.2.1 13 = .ok (.iload_n 1, 1) := by decide +kernel
theorem dL_endedValueUpTo_14 : decode M_L_endedValueUpTo.2.1 14 = .ok (.if_icmp .ne 24, 3) := by decide +kernel
theorem dL_endedValueUpTo_17 : decode M_L_endedValueUpTo.2.1 17 = .ok (.aload_n 0, 1) := by decide +kernel
theorem dL_endedValueUpTo_18 : decode M_L_endedValueUpTo.2.1 18 = .ok (.aload_n 0, 1) := by decide +kernel
theorem dL_endedValueUpTo_19 : decode M_L_endedValueUpTo.2.1 19 = .ok (.getfield 15, 3) := by decide +kernel
theorem dL_endedValueUpTo_22 : decode M_L_endedValueUpTo.2.1 22 = .ok (.iload_n 3, 1) := by decide +kernel
theorem dL_endedValueUpTo_23 : decode M_L_endedValueUpTo.2.1 23 = .ok (.iaload, 1) := by decide +kernel
theorem dL_endedValueUpTo_24 : decode M_L_endedValueUpTo.2.1 24 = .ok (.iload_n 2, 1) := by decide +kernel
theorem dL_endedValueUpTo_25 : decode M_L_endedValueUpTo.2.1 25 = .ok (.invokevirtual 68, 3) := by decide +kernel
theorem dL_endedValueUpTo_28 : decode M_L_endedValueUpTo.2.1 28 = .ok (.ifCond .eq 10, 3) := by decide +kernel
theorem dL_endedValueUpTo_31 : decode M_L_endedValueUpTo.2.1 31 = .ok (.aload_n 0, 1) := by decide +kernel
theorem dL_endedValueUpTo_32 : decode M_L_endedValueUpTo.2.1 32 = .ok (.getfield 21, 3) := by decide +kernel
theorem dL_endedValueUpTo_35 : decode M_L_endedValueUpTo.2.1 35 = .ok (.iload_n 3, 1) := by decide +kernel
theorem dL_endedValueUpTo_36 : decode M_L_endedValueUpTo.2.1 36 = .ok (.iaload, 1) := by decide +kernel
theorem dL_endedValueUpTo_37 : decode M_L_endedValueUpTo.2.1 37 = .ok (.ireturn, 1) := by decide +kernel
theorem dL_endedValueUpTo_38 : decode M_L_endedValueUpTo.2.1 38 = .ok (.iinc 3 (-1), 3) := by decide +kernel
theorem dL_endedValueUpTo_41 : decode M_L_endedValueUpTo.2.1 41 = .ok (.goto (-39), 3) := by decide +kernel
theorem dL_endedValueUpTo_44 : decode M_L_endedValueUpTo.2.1 44 = .ok (.iconst 0, 1) := by decide +kernel
theorem dL_endedValueUpTo_45 : decode M_L_endedValueUpTo.2.1 45 = .ok (.ireturn, 1) := by decide +kernel
theorem dL_latestOf_0 : decode M_L_latestOf.2.1 0 = .ok (.aload_n 0, 1) := by decide +kernel
theorem dL_latestOf_1 : decode M_L_latestOf.2.1 1 = .ok (.getfield 30, 3) := by decide +kernel
theorem dL_latestOf_4 : decode M_L_latestOf.2.1 4 = .ok (.istore_n 2, 1) := by decide +kernel
theorem dL_latestOf_5 : decode M_L_latestOf.2.1 5 = .ok (.iload_n 2, 1) := by decide +kernel
theorem dL_latestOf_6 : decode M_L_latestOf.2.1 6 = .ok (.iconst 1, 1) := by decide +kernel
theorem dL_latestOf_7 : decode M_L_latestOf.2.1 7 = .ok (.if_icmp .lt 32, 3) := by decide +kernel
theorem dL_latestOf_10 : decode M_L_latestOf.2.1 10 = .ok (.aload_n 0, 1) := by decide +kernel
theorem dL_latestOf_11 : decode M_L_latestOf.2.1 11 = .ok (.iload_n 2, 1) := by decide +kernel
theorem dL_latestOf_12 : decode M_L_latestOf.2.1 12 = .ok (.invokevirtual 72, 3) := by decide +kernel
theorem dL_latestOf_15 : decode M_L_latestOf.2.1 15 = .ok (.ifCond .ne 18, 3) := by decide +kernel
theorem dL_latestOf_18 : decode M_L_latestOf.2.1 18 = .ok (.aload_n 0, 1) := by decide +kernel
theorem dL_latestOf_19 : decode M_L_latestOf.2.1 19 = .ok (.getfield 18, 3) := by decide +kernel
theorem dL_latestOf_22 : decode M_L_latestOf.2.1 22 = .ok (.iload_n 2, 1) := by decide +kernel
theorem dL_latestOf_23 : decode M_L_latestOf.2.1 23 = .ok (.iaload, 1) := by decide +kernel
theorem dL_latestOf_24 : decode M_L_latestOf.2.1 24 = .ok (.invokestatic 34, 3) := by decide +kernel
theorem dL_latestOf_27 : decode M_L_latestOf.2.1 27 = .ok (.iload_n 1, 1) := by decide +kernel
theorem dL_latestOf_28 : decode M_L_latestOf.2.1 28 = .ok (.if_icmp .ne 5, 3) := by decide +kernel
theorem dL_latestOf_31 : decode M_L_latestOf.2.1 31 = .ok (.iload_n 2, 1) := by decide +kernel
theorem dL_latestOf_32 : decode M_L_latestOf.2.1 32 = .ok (.ireturn, 1) := by decide +kernel
theorem dL_latestOf_33 : decode M_L_latestOf.2.1 33 = .ok (.iinc 2 (-1), 3) := by decide +kernel
theorem dL_latestOf_36 : decode M_L_latestOf.2.1 36 = .ok (.goto (-31), 3) := by decide +kernel
theorem dL_latestOf_39 : decode M_L_latestOf.2.1 39 = .ok (.iconst 0, 1) := by decide +kernel
theorem dL_latestOf_40 : decode M_L_latestOf.2.1 40 = .ok (.ireturn, 1) := by decide +kernel
theorem dL_isEndedBy_0 : decode M_L_isEndedBy.2.1 0 = .ok (.aload_n 0, 1) := by decide +kernel
theorem dL_isEndedBy_1 : decode M_L_isEndedBy.2.1 1 = .ok (.getfield 27, 3) := by decide +kernel
theorem dL_isEndedBy_4 : decode M_L_isEndedBy.2.1 4 = .ok (.iload_n 1, 1) := by decide +kernel
theorem dL_isEndedBy_5 : decode M_L_isEndedBy.2.1 5 = .ok (.iaload, 1) := by decide +kernel
theorem dL_isEndedBy_6 : decode M_L_isEndedBy.2.1 6 = .ok (.ifCond .le 17, 3) := by decide +kernel
theorem dL_isEndedBy_9 : decode M_L_isEndedBy.2.1 9 = .ok (.aload_n 0, 1) := by decide +kernel
theorem dL_isEndedBy_10 : decode M_L_isEndedBy.2.1 10 = .ok (.getfield 27, 3) := by decide +kernel
theorem dL_isEndedBy_13 : decode M_L_isEndedBy.2.1 13 = .ok (.iload_n 1, 1) := by decide +kernel
theorem dL_isEndedBy_14 : decode M_L_isEndedBy.2.1 14 = .ok (.iaload, 1) := by decide +kernel
theorem dL_isEndedBy_15 : decode M_L_isEndedBy.2.1 15 = .ok (.iload_n 2, 1) := by decide +kernel
theorem dL_isEndedBy_16 : decode M_L_isEndedBy.2.1 16 = .ok (.if_icmp .gt 7, 3) := by decide +kernel
theorem dL_isEndedBy_19 : decode M_L_isEndedBy.2.1 19 = .ok (.iconst 1, 1) := by decide +kernel
theorem dL_isEndedBy_20 : decode M_L_isEndedBy.2.1 20 = .ok (.goto 4, 3) := by decide +kernel
theorem dL_isEndedBy_23 : decode M_L_isEndedBy.2.1 23 = .ok (.iconst 0, 1) := by decide +kernel
theorem dL_isEndedBy_24 : decode M_L_isEndedBy.2.1 24 = .ok (.ireturn, 1) := by decide +kernel
theorem dL_hasChangeOf_0 : decode M_L_hasChangeOf.2.1 0 = .ok (.iconst 1, 1) := by decide +kernel
theorem dL_hasChangeOf_1 : decode M_L_hasChangeOf.2.1 1 = .ok (.istore_n 2, 1) := by decide +kernel
theorem dL_hasChangeOf_2 : decode M_L_hasChangeOf.2.1 2 = .ok (.iload_n 2, 1) := by decide +kernel
theorem dL_hasChangeOf_3 : decode M_L_hasChangeOf.2.1 3 = .ok (.aload_n 0, 1) := by decide +kernel
theorem dL_hasChangeOf_4 : decode M_L_hasChangeOf.2.1 4 = .ok (.getfield 30, 3) := by decide +kernel
theorem dL_hasChangeOf_7 : decode M_L_hasChangeOf.2.1 7 = .ok (.if_icmp .gt 29, 3) := by decide +kernel
theorem dL_hasChangeOf_10 : decode M_L_hasChangeOf.2.1 10 = .ok (.aload_n 0, 1) := by decide +kernel
theorem dL_hasChangeOf_11 : decode M_L_hasChangeOf.2.1 11 = .ok (.getfield 15, 3) := by decide +kernel
theorem dL_hasChangeOf_14 : decode M_L_hasChangeOf.2.1 14 = .ok (.iload_n 2, 1) := by decide +kernel
theorem dL_hasChangeOf_15 : decode M_L_hasChangeOf.2.1 15 = .ok (.iaload, 1) := by decide +kernel
theorem dL_hasChangeOf_16 : decode M_L_hasChangeOf.2.1 16 = .ok (.iload_n 1, 1) := by decide +kernel
theorem dL_hasChangeOf_17 : decode M_L_hasChangeOf.2.1 17 = .ok (.if_icmp .ne 13, 3) := by decide +kernel
theorem dL_hasChangeOf_20 : decode M_L_hasChangeOf.2.1 20 = .ok (.aload_n 0, 1) := by decide +kernel
theorem dL_hasChangeOf_21 : decode M_L_hasChangeOf.2.1 21 = .ok (.iload_n 2, 1) := by decide +kernel
theorem dL_hasChangeOf_22 : decode M_L_hasChangeOf.2.1 22 = .ok (.invokevirtual 72, 3) := by decide +kernel
theorem dL_hasChangeOf_25 : decode M_L_hasChangeOf.2.1 25 = .ok (.ifCond .ne 5, 3) := by decide +kernel
theorem dL_hasChangeOf_28 : decode M_L_hasChangeOf.2.1 28 = .ok (.iconst 1, 1) := by decide +kernel
theorem dL_hasChangeOf_29 : decode M_L_hasChangeOf.2.1 29 = .ok (.ireturn, 1) := by decide +kernel
theorem dL_hasChangeOf_30 : decode M_L_hasChangeOf.2.1 30 = .ok (.iinc 2 1, 3) := by decide +kernel
theorem dL_hasChangeOf_33 : decode M_L_hasChangeOf.2.1 33 = .ok (.goto (-31), 3) := by decide +kernel
theorem dL_hasChangeOf_36 : decode M_L_hasChangeOf.2.1 36 = .ok (.iconst 0, 1) := by decide +kernel
theorem dL_hasChangeOf_37 : decode M_L_hasChangeOf.2.1 37 = .ok (.ireturn, 1) := by decide +kernel
theorem dL_firstChange_0 : decode M_L_firstChange.2.1 0 = .ok (.iconst 1, 1) := by decide +kernel
theorem dL_firstChange_1 : decode M_L_firstChange.2.1 1 = .ok (.istore_n 3, 1) := by decide +kernel
theorem dL_firstChange_2 : decode M_L_firstChange.2.1 2 = .ok (.iload_n 3, 1) := by decide +kernel
theorem dL_firstChange_3 : decode M_L_firstChange.2.1 3 = .ok (.aload_n 0, 1) := by decide +kernel
theorem dL_firstChange_4 : decode M_L_firstChange.2.1 4 = .ok (.getfield 30, 3) := by decide +kernel
theorem dL_firstChange_7 : decode M_L_firstChange.2.1 7 = .ok (.if_icmp .gt 31, 3) := by decide +kernel
theorem dL_firstChange_10 : decode M_L_firstChange.2.1 10 = .ok (.aload_n 0, 1) := by decide +kernel
theorem dL_firstChange_11 : decode M_L_firstChange.2.1 11 = .ok (.getfield 15, 3) := by decide +kernel
theorem dL_firstChange_14 : decode M_L_firstChange.2.1 14 = .ok (.iload_n 3, 1) := by decide +kernel
theorem dL_firstChange_15 : decode M_L_firstChange.2.1 15 = .ok (.iaload, 1) := by decide +kernel
theorem dL_firstChange_16 : decode M_L_firstChange.2.1 16 = .ok (.iload_n 1, 1) := by decide +kernel
theorem dL_firstChange_17 : decode M_L_firstChange.2.1 17 = .ok (.if_icmp .ne 15, 3) := by decide +kernel
theorem dL_firstChange_20 : decode M_L_firstChange.2.1 20 = .ok (.aload_n 0, 1) := by decide +kernel
theorem dL_firstChange_21 : decode M_L_firstChange.2.1 21 = .ok (.getfield 18, 3) := by decide +kernel
theorem dL_firstChange_24 : decode M_L_firstChange.2.1 24 = .ok (.iload_n 3, 1) := by decide +kernel
theorem dL_firstChange_25 : decode M_L_firstChange.2.1 25 = .ok (.iaload, 1) := by decide +kernel
theorem dL_firstChange_26 : decode M_L_firstChange.2.1 26 = .ok (.iload_n 2, 1) := by decide +kernel
theorem dL_firstChange_27 : decode M_L_firstChange.2.1 27 = .ok (.if_icmp .ne 5, 3) := by decide +kernel
theorem dL_firstChange_30 : decode M_L_firstChange.2.1 30 = .ok (.iload_n 3, 1) := by decide +kernel
theorem dL_firstChange_31 : decode M_L_firstChange.2.1 31 = .ok (.ireturn, 1) := by decide +kernel
theorem dL_firstChange_32 : decode M_L_firstChange.2.1 32 = .ok (.iinc 3 1, 3) := by decide +kernel
theorem dL_firstChange_35 : decode M_L_firstChange.2.1 35 = .ok (.goto (-33), 3) := by decide +kernel
theorem dL_firstChange_38 : decode M_L_firstChange.2.1 38 = .ok (.iconst 0, 1) := by decide +kernel
theorem dL_firstChange_39 : decode M_L_firstChange.2.1 39 = .ok (.ireturn, 1) := by decide +kernel
theorem dL_lowOf_0 : decode M_L_lowOf.2.1 0 = .ok (.iconst 1, 1) := by decide +kernel
theorem dL_lowOf_1 : decode M_L_lowOf.2.1 1 = .ok (.istore_n 2, 1) := by decide +kernel
theorem dL_lowOf_2 : decode M_L_lowOf.2.1 2 = .ok (.iload_n 2, 1) := by decide +kernel
theorem dL_lowOf_3 : decode M_L_lowOf.2.1 3 = .ok (.iload_n 1, 1) := by decide +kernel
theorem dL_lowOf_4 : decode M_L_lowOf.2.1 4 = .ok (.if_icmp .gt 27, 3) := by decide +kernel
theorem dL_lowOf_7 : decode M_L_lowOf.2.1 7 = .ok (.aload_n 0, 1) := by decide +kernel
theorem dL_lowOf_8 : decode M_L_lowOf.2.1 8 = .ok (.aload_n 0, 1) := by decide +kernel
theorem dL_lowOf_9 : decode M_L_lowOf.2.1 9 = .ok (.getfield 15, 3) := by decide +kernel
theorem dL_lowOf_12 : decode M_L_lowOf.2.1 12 = .ok (.iload_n 2, 1) := by decide +kernel
theorem dL_lowOf_13 : decode M_L_lowOf.2.1 13 = .ok (.iaload, 1) := by decide +kernel
theorem dL_lowOf_14 : decode M_L_lowOf.2.1 14 = .ok (.iload_n 1, 1) := by decide +kernel
theorem dL_lowOf_15 : decode M_L_lowOf.2.1 15 = .ok (.invokevirtual 68, 3) := by decide +kernel
theorem dL_lowOf_18 : decode M_L_lowOf.2.1 18 = .ok (.ifCond .ne 7, 3) := by decide +kernel
theorem dL_lowOf_21 : decode M_L_lowOf.2.1 21 = .ok (.iload_n 2, 1) := by decide +kernel
theorem dL_lowOf_22 : decode M_L_lowOf.2.1 22 = .ok (.iconst 1, 1) := by decide +kernel
theorem dL_lowOf_23 : decode M_L_lowOf.2.1 23 = .ok (.isub, 1) := by decide +kernel
theorem dL_lowOf_24 : decode M_L_lowOf.2.1 24 = .ok (.ireturn, 1) := by decide +kernel
theorem dL_lowOf_25 : decode M_L_lowOf.2.1 25 = .ok (.iinc 2 1, 3) := by decide +kernel
theorem dL_lowOf_28 : decode M_L_lowOf.2.1 28 = .ok (.goto (-26), 3) := by decide +kernel
theorem dL_lowOf_31 : decode M_L_lowOf.2.1 31 = .ok (.iload_n 1, 1) := by decide +kernel
theorem dL_lowOf_32 : decode M_L_lowOf.2.1 32 = .ok (.ireturn, 1) := by decide +kernel
theorem dC_init_0 : decode M_C_init.2.1 0 = .ok (.aload_n 0, 1) := by decide +kernel
theorem dC_init_1 : decode M_C_init.2.1 1 = .ok (.invokespecial 1, 3) := by decide +kernel
theorem dC_init_4 : decode M_C_init.2.1 4 = .ok (.aload_n 0, 1) := by decide +kernel
theorem dC_init_5 : decode M_C_init.2.1 5 = .ok (.sipush 188, 3) := by decide +kernel
theorem dC_init_8 : decode M_C_init.2.1 8 = .ok (.newarray .boolean, 2) := by decide +kernel
theorem dC_init_10 : decode M_C_init.2.1 10 = .ok (.putfield 9, 3) := by decide +kernel
theorem dC_init_13 : decode M_C_init.2.1 13 = .ok (.aload_n 0, 1) := by decide +kernel
theorem dC_init_14 : decode M_C_init.2.1 14 = .ok (.iconst 0, 1) := by decide +kernel
theorem dC_init_15 : decode M_C_init.2.1 15 = .ok (.putfield 15, 3) := by decide +kernel
theorem dC_init_18 : decode M_C_init.2.1 18 = .ok (.aload_n 0, 1) := by decide +kernel
theorem dC_init_19 : decode M_C_init.2.1 19 = .ok (.iconst 0, 1) := by decide +kernel
theorem dC_init_20 : decode M_C_init.2.1 20 = .ok (.putfield 19, 3) := by decide +kernel
theorem dC_init_23 : decode M_C_init.2.1 23 = .ok (.aload_n 0, 1) := by decide +kernel
theorem dC_init_24 : decode M_C_init.2.1 24 = .ok (.iconst 0, 1) := by decide +kernel
theorem dC_init_25 : decode M_C_init.2.1 25 = .ok (.putfield 22, 3) := by decide +kernel
theorem dC_init_28 : decode M_C_init.2.1 28 = .ok (.aload_n 0, 1) := by decide +kernel
theorem dC_init_29 : decode M_C_init.2.1 29 = .ok (.iload_n 1, 1) := by decide +kernel
theorem dC_init_30 : decode M_C_init.2.1 30 = .ok (.putfield 25, 3) := by decide +kernel
theorem dC_init_33 : decode M_C_init.2.1 33 = .ok (.return_, 1) := by decide +kernel
theorem dC_isLive_0 : decode M_C_isLive.2.1 0 = .ok (.aload_n 0, 1) := by decide +kernel
theorem dC_isLive_1 : decode M_C_isLive.2.1 1 = .ok (.getfield 15, 3) := by decide +kernel
theorem dC_isLive_4 : decode M_C_isLive.2.1 4 = .ok (.ifCond .ne 7, 3) := by decide +kernel
theorem dC_isLive_7 : decode M_C_isLive.2.1 7 = .ok (.iconst 1, 1) := by decide +kernel
theorem dC_isLive_8 : decode M_C_isLive.2.1 8 = .ok (.goto 4, 3) := by decide +kernel
theorem dC_isLive_11 : decode M_C_isLive.2.1 11 = .ok (.iconst 0, 1) := by decide +kernel
theorem dC_isLive_12 : decode M_C_isLive.2.1 12 = .ok (.ireturn, 1) := by decide +kernel
theorem dC_change_0 : decode M_C_change.2.1 0 = .ok (.aload_n 0, 1) := by decide +kernel
theorem dC_change_1 : decode M_C_change.2.1 1 = .ok (.getfield 15, 3) := by decide +kernel
theorem dC_change_4 : decode M_C_change.2.1 4 = .ok (.iload_n 1, 1) := by decide +kernel
theorem dC_change_5 : decode M_C_change.2.1 5 = .ok (.if_icmp .eq 5, 3) := by decide +kernel
theorem dC_change_8 : decode M_C_change.2.1 8 = .ok (.iconst 0, 1) := by decide +kernel
theorem dC_change_9 : decode M_C_change.2.1 9 = .ok (.ireturn, 1) := by decide +kernel
theorem dC_change_10 : decode M_C_change.2.1 10 = .ok (.aload_n 0, 1) := by decide +kernel
theorem dC_change_11 : decode M_C_change.2.1 11 = .ok (.iload_n 2, 1) := by decide +kernel
theorem dC_change_12 : decode M_C_change.2.1 12 = .ok (.putfield 15, 3) := by decide +kernel
theorem dC_change_15 : decode M_C_change.2.1 15 = .ok (.iconst 1, 1) := by decide +kernel
theorem dC_change_16 : decode M_C_change.2.1 16 = .ok (.ireturn, 1) := by decide +kernel
theorem dC_lose_0 : decode M_C_lose.2.1 0 = .ok (.aload_n 0, 1) := by decide +kernel
theorem dC_lose_1 : decode M_C_lose.2.1 1 = .ok (.getfield 15, 3) := by decide +kernel
theorem dC_lose_4 : decode M_C_lose.2.1 4 = .ok (.iconst 2, 1) := by decide +kernel
theorem dC_lose_5 : decode M_C_lose.2.1 5 = .ok (.if_icmp .ne 5, 3) := by decide +kernel
theorem dC_lose_8 : decode M_C_lose.2.1 8 = .ok (.iconst 0, 1) := by decide +kernel
theorem dC_lose_9 : decode M_C_lose.2.1 9 = .ok (.ireturn, 1) := by decide +kernel
theorem dC_lose_10 : decode M_C_lose.2.1 10 = .ok (.aload_n 0, 1) := by decide +kernel
theorem dC_lose_11 : decode M_C_lose.2.1 11 = .ok (.iconst 2, 1) := by decide +kernel
theorem dC_lose_12 : decode M_C_lose.2.1 12 = .ok (.putfield 15, 3) := by decide +kernel
theorem dC_lose_15 : decode M_C_lose.2.1 15 = .ok (.aload_n 0, 1) := by decide +kernel
theorem dC_lose_16 : decode M_C_lose.2.1 16 = .ok (.iconst 0, 1) := by decide +kernel
theorem dC_lose_17 : decode M_C_lose.2.1 17 = .ok (.invokevirtual 28, 3) := by decide +kernel
theorem dC_lose_20 : decode M_C_lose.2.1 20 = .ok (.aload_n 0, 1) := by decide +kernel
theorem dC_lose_21 : decode M_C_lose.2.1 21 = .ok (.iconst 0, 1) := by decide +kernel
theorem dC_lose_22 : decode M_C_lose.2.1 22 = .ok (.putfield 19, 3) := by decide +kernel
theorem dC_lose_25 : decode M_C_lose.2.1 25 = .ok (.aload_n 0, 1) := by decide +kernel
theorem dC_lose_26 : decode M_C_lose.2.1 26 = .ok (.iconst 0, 1) := by decide +kernel
theorem dC_lose_27 : decode M_C_lose.2.1 27 = .ok (.putfield 22, 3) := by decide +kernel
theorem dC_lose_30 : decode M_C_lose.2.1 30 = .ok (.iconst 1, 1) := by decide +kernel
theorem dC_lose_31 : decode M_C_lose.2.1 31 = .ok (.ireturn, 1) := by decide +kernel
theorem dC_take_0 : decode M_C_take.2.1 0 = .ok (.aload_n 0, 1) := by decide +kernel
theorem dC_take_1 : decode M_C_take.2.1 1 = .ok (.getfield 9, 3) := by decide +kernel
theorem dC_take_4 : decode M_C_take.2.1 4 = .ok (.iload_n 1, 1) := by decide +kernel
theorem dC_take_5 : decode M_C_take.2.1 5 = .ok (.baload, 1) := by decide +kernel
theorem dC_take_6 : decode M_C_take.2.1 6 = .ok (.ifCond .ne 7, 3) := by decide +kernel
theorem dC_take_9 : decode M_C_take.2.1 9 = .ok (.iconst 1, 1) := by decide +kernel
theorem dC_take_10 : decode M_C_take.2.1 10 = .ok (.goto 4, 3) := by decide +kernel
theorem dC_take_13 : decode M_C_take.2.1 13 = .ok (.iconst 0, 1) := by decide +kernel
theorem dC_take_14 : decode M_C_take.2.1 14 = .ok (.istore_n 2, 1) := by decide +kernel
theorem dC_take_15 : decode M_C_take.2.1 15 = .ok (.aload_n 0, 1) := by decide +kernel
theorem dC_take_16 : decode M_C_take.2.1 16 = .ok (.getfield 9, 3) := by decide +kernel
theorem dC_take_19 : decode M_C_take.2.1 19 = .ok (.iload_n 1, 1) := by decide +kernel
theorem dC_take_20 : decode M_C_take.2.1 20 = .ok (.iconst 1, 1) := by decide +kernel
theorem dC_take_21 : decode M_C_take.2.1 21 = .ok (.bastore, 1) := by decide +kernel
theorem dC_take_22 : decode M_C_take.2.1 22 = .ok (.iload_n 2, 1) := by decide +kernel
theorem dC_take_23 : decode M_C_take.2.1 23 = .ok (.ireturn, 1) := by decide +kernel
theorem dC_takeAllOf_0 : decode M_C_takeAllOf.2.1 0 = .ok (.iconst 0, 1) := by decide +kernel
theorem dC_takeAllOf_1 : decode M_C_takeAllOf.2.1 1 = .ok (.istore_n 2, 1) := by decide +kernel
theorem dC_takeAllOf_2 : decode M_C_takeAllOf.2.1 2 = .ok (.iconst 1, 1) := by decide +kernel
theorem dC_takeAllOf_3 : decode M_C_takeAllOf.2.1 3 = .ok (.istore_n 3, 1) := by decide +kernel
theorem dC_takeAllOf_4 : decode M_C_takeAllOf.2.1 4 = .ok (.iload_n 3, 1) := by decide +kernel
theorem dC_takeAllOf_5 : decode M_C_takeAllOf.2.1 5 = .ok (.sipush 187, 3) := by decide +kernel
theorem dC_takeAllOf_8 : decode M_C_takeAllOf.2.1 8 = .ok (.if_icmp .gt 29, 3) := by decide +kernel
theorem dC_takeAllOf_11 : decode M_C_takeAllOf.2.1 11 = .ok (.aload_n 1, 1) := by decide +kernel
theorem dC_takeAllOf_12 : decode M_C_takeAllOf.2.1 12 = .ok (.getfield 9, 3) := by decide +kernel
theorem dC_takeAllOf_15 : decode M_C_takeAllOf.2.1 15 = .ok (.iload_n 3, 1) := by decide +kernel
theorem dC_takeAllOf_16 : decode M_C_takeAllOf.2.1 16 = .ok (.baload, 1) := by decide +kernel
theorem dC_takeAllOf_17 : decode M_C_takeAllOf.2.1 17 = .ok (.ifCond .eq 14, 3) := by decide +kernel
theorem dC_takeAllOf_20 : decode M_C_takeAllOf.2.1 20 = .ok (.aload_n 0, 1) := by decide +kernel
theorem dC_takeAllOf_21 : decode M_C_takeAllOf.2.1 21 = .ok (.iload_n 3, 1) := by decide +kernel
theorem dC_takeAllOf_22 : decode M_C_takeAllOf.2.1 22 = .ok (.invokevirtual 32, 3) := by decide +kernel
theorem dC_takeAllOf_25 : decode M_C_takeAllOf.2.1 25 = .ok (.ifCond .eq 6, 3) := by decide +kernel
theorem dC_takeAllOf_28 : decode M_C_takeAllOf.2.1 28 = .ok (.iinc 2 1, 3) := by decide +kernel
theorem dC_takeAllOf_31 : decode M_C_takeAllOf.2.1 31 = .ok (.iinc 3 1, 3) := by decide +kernel
theorem dC_takeAllOf_34 : decode M_C_takeAllOf.2.1 34 = .ok (.goto (-30), 3) := by decide +kernel
theorem dC_takeAllOf_37 : decode M_C_takeAllOf.2.1 37 = .ok (.aload_n 0, 1) := by decide +kernel
theorem dC_takeAllOf_38 : decode M_C_takeAllOf.2.1 38 = .ok (.aload_n 0, 1) := by decide +kernel
theorem dC_takeAllOf_39 : decode M_C_takeAllOf.2.1 39 = .ok (.getfield 19, 3) := by decide +kernel
theorem dC_takeAllOf_42 : decode M_C_takeAllOf.2.1 42 = .ok (.aload_n 1, 1) := by decide +kernel
theorem dC_takeAllOf_43 : decode M_C_takeAllOf.2.1 43 = .ok (.getfield 19, 3) := by decide +kernel
theorem dC_takeAllOf_46 : decode M_C_takeAllOf.2.1 46 = .ok (.invokestatic 36, 3) := by decide +kernel
theorem dC_takeAllOf_49 : decode M_C_takeAllOf.2.1 49 = .ok (.putfield 19, 3) := by decide +kernel
theorem dC_takeAllOf_52 : decode M_C_takeAllOf.2.1 52 = .ok (.iload_n 2, 1) := by decide +kernel
theorem dC_takeAllOf_53 : decode M_C_takeAllOf.2.1 53 = .ok (.ireturn, 1) := by decide +kernel
theorem dC_dropAfter_0 : decode M_C_dropAfter.2.1 0 = .ok (.iload_n 1, 1) := by decide +kernel
theorem dC_dropAfter_1 : decode M_C_dropAfter.2.1 1 = .ok (.iconst 1, 1) := by decide +kernel
theorem dC_dropAfter_2 : decode M_C_dropAfter.2.1 2 = .ok (.iadd, 1) := by decide +kernel
theorem dC_dropAfter_3 : decode M_C_dropAfter.2.1 3 = .ok (.istore_n 2, 1) := by decide +kernel
theorem dC_dropAfter_4 : decode M_C_dropAfter.2.1 4 = .ok (.iload_n 2, 1) := by decide +kernel
theorem dC_dropAfter_5 : decode M_C_dropAfter.2.1 5 = .ok (.sipush 187, 3) := by decide +kernel
theorem dC_dropAfter_8 : decode M_C_dropAfter.2.1 8 = .ok (.if_icmp .gt 16, 3) := by decide +kernel
theorem dC_dropAfter_11 : decode M_C_dropAfter.2.1 11 = .ok (.aload_n 0, 1) := by decide +kernel
theorem dC_dropAfter_12 : decode M_C_dropAfter.2.1 12 = .ok (.getfield 9, 3) := by decide +kernel
theorem dC_dropAfter_15 : decode M_C_dropAfter.2.1 15 = .ok (.iload_n 2, 1) := by decide +kernel
theorem dC_dropAfter_16 : decode M_C_dropAfter.2.1 16 = .ok (.iconst 0, 1) := by decide +kernel
theorem dC_dropAfter_17 : decode M_C_dropAfter.2.1 17 = .ok (.bastore, 1) := by decide +kernel
theorem dC_dropAfter_18 : decode M_C_dropAfter.2.1 18 = .ok (.iinc 2 1, 3) := by decide +kernel
theorem dC_dropAfter_21 : decode M_C_dropAfter.2.1 21 = .ok (.goto (-17), 3) := by decide +kernel
theorem dC_dropAfter_24 : decode M_C_dropAfter.2.1 24 = .ok (.return_, 1) := by decide +kernel
theorem dC_reach_0 : decode M_C_reach.2.1 0 = .ok (.iconst 0, 1) := by decide +kernel
theorem dC_reach_1 : decode M_C_reach.2.1 1 = .ok (.istore_n 2, 1) := by decide +kernel
theorem dC_reach_2 : decode M_C_reach.2.1 2 = .ok (.iconst 1, 1) := by decide +kernel
theorem dC_reach_3 : decode M_C_reach.2.1 3 = .ok (.istore_n 3, 1) := by decide +kernel
theorem dC_reach_4 : decode M_C_reach.2.1 4 = .ok (.iload_n 3, 1) := by decide +kernel
theorem dC_reach_5 : decode M_C_reach.2.1 5 = .ok (.aload_n 1, 1) := by decide +kernel
theorem dC_reach_6 : decode M_C_reach.2.1 6 = .ok (.getfield 42, 3) := by decide +kernel
theorem dC_reach_9 : decode M_C_reach.2.1 9 = .ok (.if_icmp .gt 36, 3) := by decide +kernel
theorem dC_reach_12 : decode M_C_reach.2.1 12 = .ok (.aload_n 1, 1) := by decide +kernel
theorem dC_reach_13 : decode M_C_reach.2.1 13 = .ok (.getfield 45, 3) := by decide +kernel
theorem dC_reach_16 : decode M_C_reach.2.1 16 = .ok (.iload_n 3, 1) := by decide +kernel
theorem dC_reach_17 : decode M_C_reach.2.1 17 = .ok (.iaload, 1) := by decide +kernel
theorem dC_reach_18 : decode M_C_reach.2.1 18 = .ok (.aload_n 0, 1) := by decide +kernel
theorem dC_reach_19 : decode M_C_reach.2.1 19 = .ok (.getfield 25, 3) := by decide +kernel
theorem dC_reach_22 : decode M_C_reach.2.1 22 = .ok (.if_icmp .ne 17, 3) := by decide +kernel
theorem dC_reach_25 : decode M_C_reach.2.1 25 = .ok (.aload_n 0, 1) := by decide +kernel
theorem dC_reach_26 : decode M_C_reach.2.1 26 = .ok (.getfield 9, 3) := by decide +kernel
theorem dC_reach_29 : decode M_C_reach.2.1 29 = .ok (.iload_n 3, 1) := by decide +kernel
theorem dC_reach_30 : decode M_C_reach.2.1 30 = .ok (.baload, 1) := by decide +kernel
theorem dC_reach_31 : decode M_C_reach.2.1 31 = .ok (.ifCond .ne 6, 3) := by decide +kernel
theorem dC_reach_34 : decode M_C_reach.2.1 34 = .ok (.goto 11, 3) := by decide +kernel
theorem dC_reach_37 : decode M_C_reach.2.1 37 = .ok (.iload_n 3, 1) := by decide +kernel
theorem dC_reach_38 : decode M_C_reach.2.1 38 = .ok (.istore_n 2, 1) := by decide +kernel
theorem dC_reach_39 : decode M_C_reach.2.1 39 = .ok (.iinc 3 1, 3) := by decide +kernel
theorem dC_reach_42 : decode M_C_reach.2.1 42 = .ok (.goto (-38), 3) := by decide +kernel
theorem dC_reach_45 : decode M_C_reach.2.1 45 = .ok (.iload_n 2, 1) := by decide +kernel
theorem dC_reach_46 : decode M_C_reach.2.1 46 = .ok (.ireturn, 1) := by decide +kernel
theorem dC_tellReach_0 : decode M_C_tellReach.2.1 0 = .ok (.aload_n 0, 1) := by decide +kernel
theorem dC_tellReach_1 : decode M_C_tellReach.2.1 1 = .ok (.aload_n 0, 1) := by decide +kernel
theorem dC_tellReach_2 : decode M_C_tellReach.2.1 2 = .ok (.aload_n 1, 1) := by decide +kernel
theorem dC_tellReach_3 : decode M_C_tellReach.2.1 3 = .ok (.invokevirtual 48, 3) := by decide +kernel
theorem dC_tellReach_6 : decode M_C_tellReach.2.1 6 = .ok (.putfield 22, 3) := by decide +kernel
theorem dC_tellReach_9 : decode M_C_tellReach.2.1 9 = .ok (.return_, 1) := by decide +kernel
theorem dC_holdsAllUpTo_0 : decode M_C_holdsAllUpTo.2.1 0 = .ok (.iconst 1, 1) := by decide +kernel
theorem dC_holdsAllUpTo_1 : decode M_C_holdsAllUpTo.2.1 1 = .ok (.istore_n 3, 1) := by decide +kernel
theorem dC_holdsAllUpTo_2 : decode M_C_holdsAllUpTo.2.1 2 = .ok (.iload_n 3, 1) := by decide +kernel
theorem dC_holdsAllUpTo_3 : decode M_C_holdsAllUpTo.2.1 3 = .ok (.iload_n 1, 1) := by decide +kernel
theorem dC_holdsAllUpTo_4 : decode M_C_holdsAllUpTo.2.1 4 = .ok (.if_icmp .gt 33, 3) := by decide +kernel
theorem dC_holdsAllUpTo_7 : decode M_C_holdsAllUpTo.2.1 7 = .ok (.aload_n 2, 1) := by decide +kernel
theorem dC_holdsAllUpTo_8 : decode M_C_holdsAllUpTo.2.1 8 = .ok (.getfield 45, 3) := by decide +kernel
theorem dC_holdsAllUpTo_11 : decode M_C_holdsAllUpTo.2.1 11 = .ok (.iload_n 3, 1) := by decide +kernel
theorem dC_holdsAllUpTo_12 : decode M_C_holdsAllUpTo.2.1 12 = .ok (.iaload, 1) := by decide +kernel
theorem dC_holdsAllUpTo_13 : decode M_C_holdsAllUpTo.2.1 13 = .ok (.aload_n 0, 1) := by decide +kernel
theorem dC_holdsAllUpTo_14 : decode M_C_holdsAllUpTo.2.1 14 = .ok (.getfield 25, 3) := by decide +kernel
theorem dC_holdsAllUpTo_17 : decode M_C_holdsAllUpTo.2.1 17 = .ok (.if_icmp .ne 14, 3) := by decide +kernel
theorem dC_holdsAllUpTo_20 : decode M_C_holdsAllUpTo.2.1 20 = .ok (.aload_n 0, 1) := by decide +kernel
theorem dC_holdsAllUpTo_21 : decode M_C_holdsAllUpTo.2.1 21 = .ok (.getfield 9, 3) := by decide +kernel
theorem dC_holdsAllUpTo_24 : decode M_C_holdsAllUpTo.2.1 24 = .ok (.iload_n 3, 1) := by decide +kernel
theorem dC_holdsAllUpTo_25 : decode M_C_holdsAllUpTo.2.1 25 = .ok (.baload, 1) := by decide +kernel
theorem dC_holdsAllUpTo_26 : decode M_C_holdsAllUpTo.2.1 26 = .ok (.ifCond .ne 5, 3) := by decide +kernel
theorem dC_holdsAllUpTo_29 : decode M_C_holdsAllUpTo.2.1 29 = .ok (.iconst 0, 1) := by decide +kernel
theorem dC_holdsAllUpTo_30 : decode M_C_holdsAllUpTo.2.1 30 = .ok (.ireturn, 1) := by decide +kernel
theorem dC_holdsAllUpTo_31 : decode M_C_holdsAllUpTo.2.1 31 = .ok (.iinc 3 1, 3) := by decide +kernel
theorem dC_holdsAllUpTo_34 : decode M_C_holdsAllUpTo.2.1 34 = .ok (.goto (-32), 3) := by decide +kernel
theorem dC_holdsAllUpTo_37 : decode M_C_holdsAllUpTo.2.1 37 = .ok (.iconst 1, 1) := by decide +kernel
theorem dC_holdsAllUpTo_38 : decode M_C_holdsAllUpTo.2.1 38 = .ok (.ireturn, 1) := by decide +kernel
theorem dC_keptUpTo_0 : decode M_C_keptUpTo.2.1 0 = .ok (.iconst 0, 1) := by decide +kernel
theorem dC_keptUpTo_1 : decode M_C_keptUpTo.2.1 1 = .ok (.istore_n 2, 1) := by decide +kernel
theorem dC_keptUpTo_2 : decode M_C_keptUpTo.2.1 2 = .ok (.aload_n 0, 1) := by decide +kernel
theorem dC_keptUpTo_3 : decode M_C_keptUpTo.2.1 3 = .ok (.getfield 19, 3) := by decide +kernel
theorem dC_keptUpTo_6 : decode M_C_keptUpTo.2.1 6 = .ok (.iconst 1, 1) := by decide +kernel
theorem dC_keptUpTo_7 : decode M_C_keptUpTo.2.1 7 = .ok (.iadd, 1) := by decide +kernel
theorem dC_keptUpTo_8 : decode M_C_keptUpTo.2.1 8 = .ok (.istore_n 3, 1) := by decide +kernel
theorem dC_keptUpTo_9 : decode M_C_keptUpTo.2.1 9 = .ok (.iload_n 3, 1) := by decide +kernel
theorem dC_keptUpTo_10 : decode M_C_keptUpTo.2.1 10 = .ok (.iload_n 1, 1) := by decide +kernel
theorem dC_keptUpTo_11 : decode M_C_keptUpTo.2.1 11 = .ok (.if_icmp .gt 21, 3) := by decide +kernel
theorem dC_keptUpTo_14 : decode M_C_keptUpTo.2.1 14 = .ok (.aload_n 0, 1) := by decide +kernel
theorem dC_keptUpTo_15 : decode M_C_keptUpTo.2.1 15 = .ok (.getfield 9, 3) := by decide +kernel
theorem dC_keptUpTo_18 : decode M_C_keptUpTo.2.1 18 = .ok (.iload_n 3, 1) := by decide +kernel
theorem dC_keptUpTo_19 : decode M_C_keptUpTo.2.1 19 = .ok (.baload, 1) := by decide +kernel
theorem dC_keptUpTo_20 : decode M_C_keptUpTo.2.1 20 = .ok (.ifCond .eq 6, 3) := by decide +kernel
theorem dC_keptUpTo_23 : decode M_C_keptUpTo.2.1 23 = .ok (.iinc 2 1, 3) := by decide +kernel
theorem dC_keptUpTo_26 : decode M_C_keptUpTo.2.1 26 = .ok (.iinc 3 1, 3) := by decide +kernel
theorem dC_keptUpTo_29 : decode M_C_keptUpTo.2.1 29 = .ok (.goto (-20), 3) := by decide +kernel
theorem dC_keptUpTo_32 : decode M_C_keptUpTo.2.1 32 = .ok (.iload_n 2, 1) := by decide +kernel
theorem dC_keptUpTo_33 : decode M_C_keptUpTo.2.1 33 = .ok (.ireturn, 1) := by decide +kernel
theorem dC_foldUpTo_0 : decode M_C_foldUpTo.2.1 0 = .ok (.aload_n 0, 1) := by decide +kernel
theorem dC_foldUpTo_1 : decode M_C_foldUpTo.2.1 1 = .ok (.iload_n 1, 1) := by decide +kernel
theorem dC_foldUpTo_2 : decode M_C_foldUpTo.2.1 2 = .ok (.invokevirtual 52, 3) := by decide +kernel
theorem dC_foldUpTo_5 : decode M_C_foldUpTo.2.1 5 = .ok (.istore_n 2, 1) := by decide +kernel
theorem dC_foldUpTo_6 : decode M_C_foldUpTo.2.1 6 = .ok (.aload_n 0, 1) := by decide +kernel
theorem dC_foldUpTo_7 : decode M_C_foldUpTo.2.1 7 = .ok (.aload_n 0, 1) := by decide +kernel
theorem dC_foldUpTo_8 : decode M_C_foldUpTo.2.1 8 = .ok (.getfield 19, 3) := by decide +kernel
theorem dC_foldUpTo_11 : decode M_C_foldUpTo.2.1 11 = .ok (.iload_n 1, 1) := by decide +kernel
theorem dC_foldUpTo_12 : decode M_C_foldUpTo.2.1 12 = .ok (.invokestatic 36, 3) := by decide +kernel
theorem dC_foldUpTo_15 : decode M_C_foldUpTo.2.1 15 = .ok (.putfield 19, 3) := by decide +kernel
theorem dC_foldUpTo_18 : decode M_C_foldUpTo.2.1 18 = .ok (.iload_n 2, 1) := by decide +kernel
theorem dC_foldUpTo_19 : decode M_C_foldUpTo.2.1 19 = .ok (.ireturn, 1) := by decide +kernel
theorem dT_init_0 : decode M_T_init.2.1 0 = .ok (.aload_n 0, 1) := by decide +kernel
theorem dT_init_1 : decode M_T_init.2.1 1 = .ok (.invokespecial 3, 3) := by decide +kernel
theorem dT_init_4 : decode M_T_init.2.1 4 = .ok (.aload_n 0, 1) := by decide +kernel
theorem dT_init_5 : decode M_T_init.2.1 5 = .ok (.bipush 61, 2) := by decide +kernel
theorem dT_init_7 : decode M_T_init.2.1 7 = .ok (.newarray .boolean, 2) := by decide +kernel
theorem dT_init_9 : decode M_T_init.2.1 9 = .ok (.putfield 9, 3) := by decide +kernel
theorem dT_init_12 : decode M_T_init.2.1 12 = .ok (.aload_n 0, 1) := by decide +kernel
theorem dT_init_13 : decode M_T_init.2.1 13 = .ok (.bipush 32, 2) := by decide +kernel
theorem dT_init_15 : decode M_T_init.2.1 15 = .ok (.newarray .int, 2) := by decide +kernel
theorem dT_init_17 : decode M_T_init.2.1 17 = .ok (.putfield 15, 3) := by decide +kernel
theorem dT_init_20 : decode M_T_init.2.1 20 = .ok (.aload_n 0, 1) := by decide +kernel
theorem dT_init_21 : decode M_T_init.2.1 21 = .ok (.iconst 0, 1) := by decide +kernel
theorem dT_init_22 : decode M_T_init.2.1 22 = .ok (.putfield 19, 3) := by decide +kernel
theorem dT_init_25 : decode M_T_init.2.1 25 = .ok (.aload_n 0, 1) := by decide +kernel
theorem dT_init_26 : decode M_T_init.2.1 26 = .ok (.iconst 0, 1) := by decide +kernel
theorem dT_init_27 : decode M_T_init.2.1 27 = .ok (.putfield 23, 3) := by decide +kernel
theorem dT_init_30 : decode M_T_init.2.1 30 = .ok (.return_, 1) := by decide +kernel
theorem dT_isFull_0 : decode M_T_isFull.2.1 0 = .ok (.aload_n 0, 1) := by decide +kernel
theorem dT_isFull_1 : decode M_T_isFull.2.1 1 = .ok (.getfield 23, 3) := by decide +kernel
theorem dT_isFull_4 : decode M_T_isFull.2.1 4 = .ok (.iconst 4, 1) := by decide +kernel
theorem dT_isFull_5 : decode M_T_isFull.2.1 5 = .ok (.if_icmp .ge 12, 3) := by decide +kernel
theorem dT_isFull_8 : decode M_T_isFull.2.1 8 = .ok (.aload_n 0, 1) := by decide +kernel
theorem dT_isFull_9 : decode M_T_isFull.2.1 9 = .ok (.getfield 19, 3) := by decide +kernel
theorem dT_isFull_12 : decode M_T_isFull.2.1 12 = .ok (.bipush 60, 2) := by decide +kernel
theorem dT_isFull_14 : decode M_T_isFull.2.1 14 = .ok (.if_icmp .lt 7, 3) := by decide +kernel
theorem dT_isFull_17 : decode M_T_isFull.2.1 17 = .ok (.iconst 1, 1) := by decide +kernel
theorem dT_isFull_18 : decode M_T_isFull.2.1 18 = .ok (.goto 4, 3) := by decide +kernel
theorem dT_isFull_21 : decode M_T_isFull.2.1 21 = .ok (.iconst 0, 1) := by decide +kernel
theorem dT_isFull_22 : decode M_T_isFull.2.1 22 = .ok (.ireturn, 1) := by decide +kernel
theorem dT_start_0 : decode M_T_start.2.1 0 = .ok (.aload_n 0, 1) := by decide +kernel
theorem dT_start_1 : decode M_T_start.2.1 1 = .ok (.dup, 1) := by decide +kernel
theorem dT_start_2 : decode M_T_start.2.1 2 = .ok (.getfield 19, 3) := by decide +kernel
theorem dT_start_5 : decode M_T_start.2.1 5 = .ok (.iconst 1, 1) := by decide +kernel
theorem dT_start_6 : decode M_T_start.2.1 6 = .ok (.iadd, 1) := by decide +kernel
theorem dT_start_7 : decode M_T_start.2.1 7 = .ok (.putfield 19, 3) := by decide +kernel
theorem dT_start_10 : decode M_T_start.2.1 10 = .ok (.aload_n 0, 1) := by decide +kernel
theorem dT_start_11 : decode M_T_start.2.1 11 = .ok (.getfield 9, 3) := by decide +kernel
theorem dT_start_14 : decode M_T_start.2.1 14 = .ok (.aload_n 0, 1) := by decide +kernel
theorem dT_start_15 : decode M_T_start.2.1 15 = .ok (.getfield 19, 3) := by decide +kernel
theorem dT_start_18 : decode M_T_start.2.1 18 = .ok (.iconst 1, 1) := by decide +kernel
theorem dT_start_19 : decode M_T_start.2.1 19 = .ok (.bastore, 1) := by decide +kernel
theorem dT_start_20 : decode M_T_start.2.1 20 = .ok (.aload_n 0, 1) := by decide +kernel
theorem dT_start_21 : decode M_T_start.2.1 21 = .ok (.dup, 1) := by decide +kernel
theorem dT_start_22 : decode M_T_start.2.1 22 = .ok (.getfield 23, 3) := by decide +kernel
theorem dT_start_25 : decode M_T_start.2.1 25 = .ok (.iconst 1, 1) := by decide +kernel
theorem dT_start_26 : decode M_T_start.2.1 26 = .ok (.iadd, 1) := by decide +kernel
theorem dT_start_27 : decode M_T_start.2.1 27 = .ok (.putfield 23, 3) := by decide +kernel
theorem dT_start_30 : decode M_T_start.2.1 30 = .ok (.aload_n 0, 1) := by decide +kernel
theorem dT_start_31 : decode M_T_start.2.1 31 = .ok (.getfield 19, 3) := by decide +kernel
theorem dT_start_34 : decode M_T_start.2.1 34 = .ok (.ireturn, 1) := by decide +kernel
theorem dT_isActive_0 : decode M_T_isActive.2.1 0 = .ok (.iload_n 1, 1) := by decide +kernel
theorem dT_isActive_1 : decode M_T_isActive.2.1 1 = .ok (.iconst 1, 1) := by decide +kernel
theorem dT_isActive_2 : decode M_T_isActive.2.1 2 = .ok (.if_icmp .lt 24, 3) := by decide +kernel
theorem dT_isActive_5 : decode M_T_isActive.2.1 5 = .ok (.iload_n 1, 1) := by decide +kernel
theorem dT_isActive_6 : decode M_T_isActive.2.1 6 = .ok (.aload_n 0, 1) := by decide +kernel
theorem dT_isActive_7 : decode M_T_isActive.2.1 7 = .ok (.getfield 19, 3) := by decide +kernel
theorem dT_isActive_10 : decode M_T_isActive.2.1 10 = .ok (.if_icmp .gt 16, 3) := by decide +kernel
theorem dT_isActive_13 : decode M_T_isActive.2.1 13 = .ok (.aload_n 0, 1) := by decide +kernel
theorem dT_isActive_14 : decode M_T_isActive.2.1 14 = .ok (.getfield 9, 3) := by decide +kernel
theorem dT_isActive_17 : decode M_T_isActive.2.1 17 = .ok (.iload_n 1, 1) := by decide +kernel
theorem dT_isActive_18 : decode M_T_isActive.2.1 18 = .ok (.baload, 1) := by decide +kernel
theorem dT_isActive_19 : decode M_T_isActive.2.1 19 = .ok (.ifCond .eq 7, 3) := by decide +kernel
theorem dT_isActive_22 : decode M_T_isActive.2.1 22 = .ok (.iconst 1, 1) := by decide +kernel
theorem dT_isActive_23 : decode M_T_isActive.2.1 23 = .ok (.goto 4, 3) := by decide +kernel
theorem dT_isActive_26 : decode M_T_isActive.2.1 26 = .ok (.iconst 0, 1) := by decide +kernel
theorem dT_isActive_27 : decode M_T_isActive.2.1 27 = .ok (.ireturn, 1) := by decide +kernel
theorem dT_mayHold_0 : decode M_T_mayHold.2.1 0 = .ok (.aload_n 0, 1) := by decide +kernel
theorem dT_mayHold_1 : decode M_T_mayHold.2.1 1 = .ok (.getfield 15, 3) := by decide +kernel
theorem dT_mayHold_4 : decode M_T_mayHold.2.1 4 = .ok (.iload_n 2, 1) := by decide +kernel
theorem dT_mayHold_5 : decode M_T_mayHold.2.1 5 = .ok (.iaload, 1) := by decide +kernel
theorem dT_mayHold_6 : decode M_T_mayHold.2.1 6 = .ok (.ifCond .eq 13, 3) := by decide +kernel
theorem dT_mayHold_9 : decode M_T_mayHold.2.1 9 = .ok (.aload_n 0, 1) := by decide +kernel
theorem dT_mayHold_10 : decode M_T_mayHold.2.1 10 = .ok (.getfield 15, 3) := by decide +kernel
theorem dT_mayHold_13 : decode M_T_mayHold.2.1 13 = .ok (.iload_n 2, 1) := by decide +kernel
theorem dT_mayHold_14 : decode M_T_mayHold.2.1 14 = .ok (.iaload, 1) := by decide +kernel
theorem dT_mayHold_15 : decode M_T_mayHold.2.1 15 = .ok (.iload_n 1, 1) := by decide +kernel
theorem dT_mayHold_16 : decode M_T_mayHold.2.1 16 = .ok (.if_icmp .ne 7, 3) := by decide +kernel
theorem dT_mayHold_19 : decode M_T_mayHold.2.1 19 = .ok (.iconst 1, 1) := by decide +kernel
theorem dT_mayHold_20 : decode M_T_mayHold.2.1 20 = .ok (.goto 4, 3) := by decide +kernel
theorem dT_mayHold_23 : decode M_T_mayHold.2.1 23 = .ok (.iconst 0, 1) := by decide +kernel
theorem dT_mayHold_24 : decode M_T_mayHold.2.1 24 = .ok (.ireturn, 1) := by decide +kernel
theorem dT_hold_0 : decode M_T_hold.2.1 0 = .ok (.aload_n 0, 1) := by decide +kernel
theorem dT_hold_1 : decode M_T_hold.2.1 1 = .ok (.getfield 15, 3) := by decide +kernel
theorem dT_hold_4 : decode M_T_hold.2.1 4 = .ok (.iload_n 2, 1) := by decide +kernel
theorem dT_hold_5 : decode M_T_hold.2.1 5 = .ok (.iload_n 1, 1) := by decide +kernel
theorem dT_hold_6 : decode M_T_hold.2.1 6 = .ok (.iastore, 1) := by decide +kernel
theorem dT_hold_7 : decode M_T_hold.2.1 7 = .ok (.return_, 1) := by decide +kernel
theorem dT_finish_0 : decode M_T_finish.2.1 0 = .ok (.aload_n 0, 1) := by decide +kernel
theorem dT_finish_1 : decode M_T_finish.2.1 1 = .ok (.getfield 9, 3) := by decide +kernel
theorem dT_finish_4 : decode M_T_finish.2.1 4 = .ok (.iload_n 1, 1) := by decide +kernel
theorem dT_finish_5 : decode M_T_finish.2.1 5 = .ok (.iconst 0, 1) := by decide +kernel
theorem dT_finish_6 : decode M_T_finish.2.1 6 = .ok (.bastore, 1) := by decide +kernel
theorem dT_finish_7 : decode M_T_finish.2.1 7 = .ok (.aload_n 0, 1) := by decide +kernel
theorem dT_finish_8 : decode M_T_finish.2.1 8 = .ok (.dup, 1) := by decide +kernel
theorem dT_finish_9 : decode M_T_finish.2.1 9 = .ok (.getfield 23, 3) := by decide +kernel
theorem dT_finish_12 : decode M_T_finish.2.1 12 = .ok (.iconst 1, 1) := by decide +kernel
theorem dT_finish_13 : decode M_T_finish.2.1 13 = .ok (.isub, 1) := by decide +kernel
theorem dT_finish_14 : decode M_T_finish.2.1 14 = .ok (.putfield 23, 3) := by decide +kernel
theorem dT_finish_17 : decode M_T_finish.2.1 17 = .ok (.iconst 0, 1) := by decide +kernel
theorem dT_finish_18 : decode M_T_finish.2.1 18 = .ok (.istore_n 2, 1) := by decide +kernel
theorem dT_finish_19 : decode M_T_finish.2.1 19 = .ok (.iload_n 2, 1) := by decide +kernel
theorem dT_finish_20 : decode M_T_finish.2.1 20 = .ok (.bipush 32, 2) := by decide +kernel
theorem dT_finish_22 : decode M_T_finish.2.1 22 = .ok (.if_icmp .ge 26, 3) := by decide +kernel
theorem dT_finish_25 : decode M_T_finish.2.1 25 = .ok (.aload_n 0, 1) := by decide +kernel
theorem dT_finish_26 : decode M_T_finish.2.1 26 = .ok (.getfield 15, 3) := by decide +kernel
theorem dT_finish_29 : decode M_T_finish.2.1 29 = .ok (.iload_n 2, 1) := by decide +kernel
theorem dT_finish_30 : decode M_T_finish.2.1 30 = .ok (.iaload, 1) := by decide +kernel
theorem dT_finish_31 : decode M_T_finish.2.1 31 = .ok (.iload_n 1, 1) := by decide +kernel
theorem dT_finish_32 : decode M_T_finish.2.1 32 = .ok (.if_icmp .ne 10, 3) := by decide +kernel
theorem dT_finish_35 : decode M_T_finish.2.1 35 = .ok (.aload_n 0, 1) := by decide +kernel
theorem dT_finish_36 : decode M_T_finish.2.1 36 = .ok (.getfield 15, 3) := by decide +kernel
theorem dT_finish_39 : decode M_T_finish.2.1 39 = .ok (.iload_n 2, 1) := by decide +kernel
theorem dT_finish_40 : decode M_T_finish.2.1 40 = .ok (.iconst 0, 1) := by decide +kernel
theorem dT_finish_41 : decode M_T_finish.2.1 41 = .ok (.iastore, 1) := by decide +kernel
theorem dT_finish_42 : decode M_T_finish.2.1 42 = .ok (.iinc 2 1, 3) := by decide +kernel
theorem dT_finish_45 : decode M_T_finish.2.1 45 = .ok (.goto (-26), 3) := by decide +kernel
theorem dT_finish_48 : decode M_T_finish.2.1 48 = .ok (.return_, 1) := by decide +kernel
theorem dT_finishAll_0 : decode M_T_finishAll.2.1 0 = .ok (.iconst 1, 1) := by decide +kernel
theorem dT_finishAll_1 : decode M_T_finishAll.2.1 1 = .ok (.istore_n 1, 1) := by decide +kernel
theorem dT_finishAll_2 : decode M_T_finishAll.2.1 2 = .ok (.iload_n 1, 1) := by decide +kernel
theorem dT_finishAll_3 : decode M_T_finishAll.2.1 3 = .ok (.aload_n 0, 1) := by decide +kernel
theorem dT_finishAll_4 : decode M_T_finishAll.2.1 4 = .ok (.getfield 19, 3) := by decide +kernel
theorem dT_finishAll_7 : decode M_T_finishAll.2.1 7 = .ok (.if_icmp .gt 23, 3) := by decide +kernel
theorem dT_finishAll_10 : decode M_T_finishAll.2.1 10 = .ok (.aload_n 0, 1) := by decide +kernel
theorem dT_finishAll_11 : decode M_T_finishAll.2.1 11 = .ok (.getfield 9, 3) := by decide +kernel
theorem dT_finishAll_14 : decode M_T_finishAll.2.1 14 = .ok (.iload_n 1, 1) := by decide +kernel
theorem dT_finishAll_15 : decode M_T_finishAll.2.1 15 = .ok (.baload, 1) := by decide +kernel
theorem dT_finishAll_16 : decode M_T_finishAll.2.1 16 = .ok (.ifCond .eq 8, 3) := by decide +kernel
theorem dT_finishAll_19 : decode M_T_finishAll.2.1 19 = .ok (.aload_n 0, 1) := by decide +kernel
theorem dT_finishAll_20 : decode M_T_finishAll.2.1 20 = .ok (.iload_n 1, 1) := by decide +kernel
theorem dT_finishAll_21 : decode M_T_finishAll.2.1 21 = .ok (.invokevirtual 26, 3) := by decide +kernel
theorem dT_finishAll_24 : decode M_T_finishAll.2.1 24 = .ok (.iinc 1 1, 3) := by decide +kernel
theorem dT_finishAll_27 : decode M_T_finishAll.2.1 27 = .ok (.goto (-25), 3) := by decide +kernel
theorem dT_finishAll_30 : decode M_T_finishAll.2.1 30 = .ok (.return_, 1) := by decide +kernel
