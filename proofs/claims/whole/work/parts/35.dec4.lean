theorem d_Lw_atom_0 : decode b_Lw_atom 0 = .ok (.aload 5, 2) := by decide +kernel
theorem d_Lw_atom_2 : decode b_Lw_atom 2 = .ok (.iconst 0, 1) := by decide +kernel
theorem d_Lw_atom_3 : decode b_Lw_atom 3 = .ok (.aload_n 0, 1) := by decide +kernel
theorem d_Lw_atom_4 : decode b_Lw_atom 4 = .ok (.iload_n 1, 1) := by decide +kernel
theorem d_Lw_atom_5 : decode b_Lw_atom 5 = .ok (.iload_n 2, 1) := by decide +kernel
theorem d_Lw_atom_6 : decode b_Lw_atom 6 = .ok (.iload_n 3, 1) := by decide +kernel
theorem d_Lw_atom_7 : decode b_Lw_atom 7 = .ok (.iload 4, 2) := by decide +kernel
theorem d_Lw_atom_9 : decode b_Lw_atom 9 = .ok (.invokevirtual 7, 3) := by decide +kernel
theorem d_Lw_atom_12 : decode b_Lw_atom 12 = .ok (.i2l, 1) := by decide +kernel
theorem d_Lw_atom_13 : decode b_Lw_atom 13 = .ok (.lastore, 1) := by decide +kernel
theorem d_Lw_atom_14 : decode b_Lw_atom 14 = .ok (.goto 11, 3) := by decide +kernel
theorem d_Lw_atom_17 : decode b_Lw_atom 17 = .ok (.astore 6, 2) := by decide +kernel
theorem d_Lw_atom_19 : decode b_Lw_atom 19 = .ok (.iconst 1, 1) := by decide +kernel
theorem d_Lw_atom_20 : decode b_Lw_atom 20 = .ok (.ireturn, 1) := by decide +kernel
theorem d_Lw_atom_21 : decode b_Lw_atom 21 = .ok (.astore 6, 2) := by decide +kernel
theorem d_Lw_atom_23 : decode b_Lw_atom 23 = .ok (.iconst 2, 1) := by decide +kernel
theorem d_Lw_atom_24 : decode b_Lw_atom 24 = .ok (.ireturn, 1) := by decide +kernel
theorem d_Lw_atom_25 : decode b_Lw_atom 25 = .ok (.iconst 0, 1) := by decide +kernel
theorem d_Lw_atom_26 : decode b_Lw_atom 26 = .ok (.ireturn, 1) := by decide +kernel
theorem d_Lw_both_0 : decode b_Lw_both 0 = .ok (.aload_n 3, 1) := by decide +kernel
theorem d_Lw_both_1 : decode b_Lw_both 1 = .ok (.iconst 0, 1) := by decide +kernel
theorem d_Lw_both_2 : decode b_Lw_both 2 = .ok (.aload_n 0, 1) := by decide +kernel
theorem d_Lw_both_3 : decode b_Lw_both 3 = .ok (.iload_n 1, 1) := by decide +kernel
theorem d_Lw_both_4 : decode b_Lw_both 4 = .ok (.iload_n 2, 1) := by decide +kernel
theorem d_Lw_both_5 : decode b_Lw_both 5 = .ok (.invokevirtual 17, 3) := by decide +kernel
theorem d_Lw_both_8 : decode b_Lw_both 8 = .ok (.i2l, 1) := by decide +kernel
theorem d_Lw_both_9 : decode b_Lw_both 9 = .ok (.lastore, 1) := by decide +kernel
theorem d_Lw_both_10 : decode b_Lw_both 10 = .ok (.goto 15, 3) := by decide +kernel
theorem d_Lw_both_13 : decode b_Lw_both 13 = .ok (.astore 4, 2) := by decide +kernel
theorem d_Lw_both_15 : decode b_Lw_both 15 = .ok (.iconst 1, 1) := by decide +kernel
theorem d_Lw_both_16 : decode b_Lw_both 16 = .ok (.ireturn, 1) := by decide +kernel
theorem d_Lw_both_17 : decode b_Lw_both 17 = .ok (.astore 4, 2) := by decide +kernel
theorem d_Lw_both_19 : decode b_Lw_both 19 = .ok (.iconst 2, 1) := by decide +kernel
theorem d_Lw_both_20 : decode b_Lw_both 20 = .ok (.ireturn, 1) := by decide +kernel
theorem d_Lw_both_21 : decode b_Lw_both 21 = .ok (.astore 4, 2) := by decide +kernel
theorem d_Lw_both_23 : decode b_Lw_both 23 = .ok (.iconst 3, 1) := by decide +kernel
theorem d_Lw_both_24 : decode b_Lw_both 24 = .ok (.ireturn, 1) := by decide +kernel
theorem d_Lw_both_25 : decode b_Lw_both 25 = .ok (.iconst 0, 1) := by decide +kernel
theorem d_Lw_both_26 : decode b_Lw_both 26 = .ok (.ireturn, 1) := by decide +kernel
theorem d_Lw_either_0 : decode b_Lw_either 0 = .ok (.aload_n 3, 1) := by decide +kernel
theorem d_Lw_either_1 : decode b_Lw_either 1 = .ok (.iconst 0, 1) := by decide +kernel
theorem d_Lw_either_2 : decode b_Lw_either 2 = .ok (.aload_n 0, 1) := by decide +kernel
theorem d_Lw_either_3 : decode b_Lw_either 3 = .ok (.iload_n 1, 1) := by decide +kernel
theorem d_Lw_either_4 : decode b_Lw_either 4 = .ok (.iload_n 2, 1) := by decide +kernel
theorem d_Lw_either_5 : decode b_Lw_either 5 = .ok (.invokevirtual 23, 3) := by decide +kernel
theorem d_Lw_either_8 : decode b_Lw_either 8 = .ok (.i2l, 1) := by decide +kernel
theorem d_Lw_either_9 : decode b_Lw_either 9 = .ok (.lastore, 1) := by decide +kernel
theorem d_Lw_either_10 : decode b_Lw_either 10 = .ok (.goto 15, 3) := by decide +kernel
theorem d_Lw_either_13 : decode b_Lw_either 13 = .ok (.astore 4, 2) := by decide +kernel
theorem d_Lw_either_15 : decode b_Lw_either 15 = .ok (.iconst 1, 1) := by decide +kernel
theorem d_Lw_either_16 : decode b_Lw_either 16 = .ok (.ireturn, 1) := by decide +kernel
theorem d_Lw_either_17 : decode b_Lw_either 17 = .ok (.astore 4, 2) := by decide +kernel
theorem d_Lw_either_19 : decode b_Lw_either 19 = .ok (.iconst 2, 1) := by decide +kernel
theorem d_Lw_either_20 : decode b_Lw_either 20 = .ok (.ireturn, 1) := by decide +kernel
theorem d_Lw_either_21 : decode b_Lw_either 21 = .ok (.astore 4, 2) := by decide +kernel
theorem d_Lw_either_23 : decode b_Lw_either 23 = .ok (.iconst 3, 1) := by decide +kernel
theorem d_Lw_either_24 : decode b_Lw_either 24 = .ok (.ireturn, 1) := by decide +kernel
theorem d_Lw_either_25 : decode b_Lw_either 25 = .ok (.iconst 0, 1) := by decide +kernel
theorem d_Lw_either_26 : decode b_Lw_either 26 = .ok (.ireturn, 1) := by decide +kernel
theorem d_Lw_not_0 : decode b_Lw_not 0 = .ok (.aload_n 2, 1) := by decide +kernel
theorem d_Lw_not_1 : decode b_Lw_not 1 = .ok (.iconst 0, 1) := by decide +kernel
theorem d_Lw_not_2 : decode b_Lw_not 2 = .ok (.aload_n 0, 1) := by decide +kernel
theorem d_Lw_not_3 : decode b_Lw_not 3 = .ok (.iload_n 1, 1) := by decide +kernel
theorem d_Lw_not_4 : decode b_Lw_not 4 = .ok (.invokevirtual 26, 3) := by decide +kernel
theorem d_Lw_not_7 : decode b_Lw_not 7 = .ok (.i2l, 1) := by decide +kernel
theorem d_Lw_not_8 : decode b_Lw_not 8 = .ok (.lastore, 1) := by decide +kernel
theorem d_Lw_not_9 : decode b_Lw_not 9 = .ok (.goto 9, 3) := by decide +kernel
theorem d_Lw_not_12 : decode b_Lw_not 12 = .ok (.astore_n 3, 1) := by decide +kernel
theorem d_Lw_not_13 : decode b_Lw_not 13 = .ok (.iconst 1, 1) := by decide +kernel
theorem d_Lw_not_14 : decode b_Lw_not 14 = .ok (.ireturn, 1) := by decide +kernel
theorem d_Lw_not_15 : decode b_Lw_not 15 = .ok (.astore_n 3, 1) := by decide +kernel
theorem d_Lw_not_16 : decode b_Lw_not 16 = .ok (.iconst 2, 1) := by decide +kernel
theorem d_Lw_not_17 : decode b_Lw_not 17 = .ok (.ireturn, 1) := by decide +kernel
theorem d_Lw_not_18 : decode b_Lw_not 18 = .ok (.iconst 0, 1) := by decide +kernel
theorem d_Lw_not_19 : decode b_Lw_not 19 = .ok (.ireturn, 1) := by decide +kernel
theorem d_Lw_some_0 : decode b_Lw_some 0 = .ok (.aload_n 3, 1) := by decide +kernel
theorem d_Lw_some_1 : decode b_Lw_some 1 = .ok (.iconst 0, 1) := by decide +kernel
theorem d_Lw_some_2 : decode b_Lw_some 2 = .ok (.aload_n 0, 1) := by decide +kernel
theorem d_Lw_some_3 : decode b_Lw_some 3 = .ok (.iload_n 1, 1) := by decide +kernel
theorem d_Lw_some_4 : decode b_Lw_some 4 = .ok (.iload_n 2, 1) := by decide +kernel
theorem d_Lw_some_5 : decode b_Lw_some 5 = .ok (.invokevirtual 30, 3) := by decide +kernel
theorem d_Lw_some_8 : decode b_Lw_some 8 = .ok (.i2l, 1) := by decide +kernel
theorem d_Lw_some_9 : decode b_Lw_some 9 = .ok (.lastore, 1) := by decide +kernel
theorem d_Lw_some_10 : decode b_Lw_some 10 = .ok (.goto 15, 3) := by decide +kernel
theorem d_Lw_some_13 : decode b_Lw_some 13 = .ok (.astore 4, 2) := by decide +kernel
theorem d_Lw_some_15 : decode b_Lw_some 15 = .ok (.iconst 1, 1) := by decide +kernel
theorem d_Lw_some_16 : decode b_Lw_some 16 = .ok (.ireturn, 1) := by decide +kernel
theorem d_Lw_some_17 : decode b_Lw_some 17 = .ok (.astore 4, 2) := by decide +kernel
theorem d_Lw_some_19 : decode b_Lw_some 19 = .ok (.iconst 2, 1) := by decide +kernel
theorem d_Lw_some_20 : decode b_Lw_some 20 = .ok (.ireturn, 1) := by decide +kernel
theorem d_Lw_some_21 : decode b_Lw_some 21 = .ok (.astore 4, 2) := by decide +kernel
theorem d_Lw_some_23 : decode b_Lw_some 23 = .ok (.iconst 3, 1) := by decide +kernel
theorem d_Lw_some_24 : decode b_Lw_some 24 = .ok (.ireturn, 1) := by decide +kernel
theorem d_Lw_some_25 : decode b_Lw_some 25 = .ok (.iconst 0, 1) := by decide +kernel
theorem d_Lw_some_26 : decode b_Lw_some 26 = .ok (.ireturn, 1) := by decide +kernel
theorem d_Lw_every_0 : decode b_Lw_every 0 = .ok (.aload_n 3, 1) := by decide +kernel
theorem d_Lw_every_1 : decode b_Lw_every 1 = .ok (.iconst 0, 1) := by decide +kernel
theorem d_Lw_every_2 : decode b_Lw_every 2 = .ok (.aload_n 0, 1) := by decide +kernel
theorem d_Lw_every_3 : decode b_Lw_every 3 = .ok (.iload_n 1, 1) := by decide +kernel
theorem d_Lw_every_4 : decode b_Lw_every 4 = .ok (.iload_n 2, 1) := by decide +kernel
theorem d_Lw_every_5 : decode b_Lw_every 5 = .ok (.invokevirtual 33, 3) := by decide +kernel
theorem d_Lw_every_8 : decode b_Lw_every 8 = .ok (.i2l, 1) := by decide +kernel
theorem d_Lw_every_9 : decode b_Lw_every 9 = .ok (.lastore, 1) := by decide +kernel
theorem d_Lw_every_10 : decode b_Lw_every 10 = .ok (.goto 15, 3) := by decide +kernel
theorem d_Lw_every_13 : decode b_Lw_every 13 = .ok (.astore 4, 2) := by decide +kernel
theorem d_Lw_every_15 : decode b_Lw_every 15 = .ok (.iconst 1, 1) := by decide +kernel
theorem d_Lw_every_16 : decode b_Lw_every 16 = .ok (.ireturn, 1) := by decide +kernel
theorem d_Lw_every_17 : decode b_Lw_every 17 = .ok (.astore 4, 2) := by decide +kernel
theorem d_Lw_every_19 : decode b_Lw_every 19 = .ok (.iconst 2, 1) := by decide +kernel
theorem d_Lw_every_20 : decode b_Lw_every 20 = .ok (.ireturn, 1) := by decide +kernel
theorem d_Lw_every_21 : decode b_Lw_every 21 = .ok (.astore 4, 2) := by decide +kernel
theorem d_Lw_every_23 : decode b_Lw_every 23 = .ok (.iconst 3, 1) := by decide +kernel
theorem d_Lw_every_24 : decode b_Lw_every 24 = .ok (.ireturn, 1) := by decide +kernel
theorem d_Lw_every_25 : decode b_Lw_every 25 = .ok (.iconst 0, 1) := by decide +kernel
theorem d_Lw_every_26 : decode b_Lw_every 26 = .ok (.ireturn, 1) := by decide +kernel
theorem d_Lw_known_0 : decode b_Lw_known 0 = .ok (.aload_n 3, 1) := by decide +kernel
theorem d_Lw_known_1 : decode b_Lw_known 1 = .ok (.iconst 0, 1) := by decide +kernel
theorem d_Lw_known_2 : decode b_Lw_known 2 = .ok (.aload_n 0, 1) := by decide +kernel
theorem d_Lw_known_3 : decode b_Lw_known 3 = .ok (.iload_n 1, 1) := by decide +kernel
theorem d_Lw_known_4 : decode b_Lw_known 4 = .ok (.iload_n 2, 1) := by decide +kernel
theorem d_Lw_known_5 : decode b_Lw_known 5 = .ok (.invokevirtual 36, 3) := by decide +kernel
theorem d_Lw_known_8 : decode b_Lw_known 8 = .ok (.i2l, 1) := by decide +kernel
theorem d_Lw_known_9 : decode b_Lw_known 9 = .ok (.lastore, 1) := by decide +kernel
theorem d_Lw_known_10 : decode b_Lw_known 10 = .ok (.goto 11, 3) := by decide +kernel
theorem d_Lw_known_13 : decode b_Lw_known 13 = .ok (.astore 4, 2) := by decide +kernel
theorem d_Lw_known_15 : decode b_Lw_known 15 = .ok (.iconst 1, 1) := by decide +kernel
theorem d_Lw_known_16 : decode b_Lw_known 16 = .ok (.ireturn, 1) := by decide +kernel
theorem d_Lw_known_17 : decode b_Lw_known 17 = .ok (.astore 4, 2) := by decide +kernel
theorem d_Lw_known_19 : decode b_Lw_known 19 = .ok (.iconst 2, 1) := by decide +kernel
theorem d_Lw_known_20 : decode b_Lw_known 20 = .ok (.ireturn, 1) := by decide +kernel
theorem d_Lw_known_21 : decode b_Lw_known 21 = .ok (.iconst 0, 1) := by decide +kernel
theorem d_Lw_known_22 : decode b_Lw_known 22 = .ok (.ireturn, 1) := by decide +kernel
theorem d_Lw_holds_0 : decode b_Lw_holds 0 = .ok (.aload 4, 2) := by decide +kernel
theorem d_Lw_holds_2 : decode b_Lw_holds 2 = .ok (.iconst 0, 1) := by decide +kernel
theorem d_Lw_holds_3 : decode b_Lw_holds 3 = .ok (.aload_n 0, 1) := by decide +kernel
theorem d_Lw_holds_4 : decode b_Lw_holds 4 = .ok (.iload_n 1, 1) := by decide +kernel
theorem d_Lw_holds_5 : decode b_Lw_holds 5 = .ok (.iload_n 2, 1) := by decide +kernel
theorem d_Lw_holds_6 : decode b_Lw_holds 6 = .ok (.iload_n 3, 1) := by decide +kernel
theorem d_Lw_holds_7 : decode b_Lw_holds 7 = .ok (.invokevirtual 39, 3) := by decide +kernel
theorem d_Lw_holds_10 : decode b_Lw_holds 10 = .ok (.ifCond .eq 7, 3) := by decide +kernel
theorem d_Lw_holds_13 : decode b_Lw_holds 13 = .ok (.lconst 1, 1) := by decide +kernel
theorem d_Lw_holds_14 : decode b_Lw_holds 14 = .ok (.goto 4, 3) := by decide +kernel
theorem d_Lw_holds_17 : decode b_Lw_holds 17 = .ok (.lconst 0, 1) := by decide +kernel
theorem d_Lw_holds_18 : decode b_Lw_holds 18 = .ok (.lastore, 1) := by decide +kernel
theorem d_Lw_holds_19 : decode b_Lw_holds 19 = .ok (.goto 11, 3) := by decide +kernel
theorem d_Lw_holds_22 : decode b_Lw_holds 22 = .ok (.astore 5, 2) := by decide +kernel
theorem d_Lw_holds_24 : decode b_Lw_holds 24 = .ok (.iconst 1, 1) := by decide +kernel
theorem d_Lw_holds_25 : decode b_Lw_holds 25 = .ok (.ireturn, 1) := by decide +kernel
theorem d_Lw_holds_26 : decode b_Lw_holds 26 = .ok (.astore 5, 2) := by decide +kernel
theorem d_Lw_holds_28 : decode b_Lw_holds 28 = .ok (.iconst 2, 1) := by decide +kernel
theorem d_Lw_holds_29 : decode b_Lw_holds 29 = .ok (.ireturn, 1) := by decide +kernel
theorem d_Lw_holds_30 : decode b_Lw_holds 30 = .ok (.iconst 0, 1) := by decide +kernel
theorem d_Lw_holds_31 : decode b_Lw_holds 31 = .ok (.ireturn, 1) := by decide +kernel
theorem d_Lw_decide_0 : decode b_Lw_decide 0 = .ok (.aload_n 2, 1) := by decide +kernel
theorem d_Lw_decide_1 : decode b_Lw_decide 1 = .ok (.iconst 0, 1) := by decide +kernel
theorem d_Lw_decide_2 : decode b_Lw_decide 2 = .ok (.aload_n 0, 1) := by decide +kernel
theorem d_Lw_decide_3 : decode b_Lw_decide 3 = .ok (.iload_n 1, 1) := by decide +kernel
theorem d_Lw_decide_4 : decode b_Lw_decide 4 = .ok (.invokevirtual 43, 3) := by decide +kernel
theorem d_Lw_decide_7 : decode b_Lw_decide 7 = .ok (.ifCond .eq 7, 3) := by decide +kernel
theorem d_Lw_decide_10 : decode b_Lw_decide 10 = .ok (.lconst 1, 1) := by decide +kernel
theorem d_Lw_decide_11 : decode b_Lw_decide 11 = .ok (.goto 4, 3) := by decide +kernel
theorem d_Lw_decide_14 : decode b_Lw_decide 14 = .ok (.lconst 0, 1) := by decide +kernel
theorem d_Lw_decide_15 : decode b_Lw_decide 15 = .ok (.lastore, 1) := by decide +kernel
theorem d_Lw_decide_16 : decode b_Lw_decide 16 = .ok (.goto 9, 3) := by decide +kernel
theorem d_Lw_decide_19 : decode b_Lw_decide 19 = .ok (.astore_n 3, 1) := by decide +kernel
theorem d_Lw_decide_20 : decode b_Lw_decide 20 = .ok (.iconst 1, 1) := by decide +kernel
theorem d_Lw_decide_21 : decode b_Lw_decide 21 = .ok (.ireturn, 1) := by decide +kernel
theorem d_Lw_decide_22 : decode b_Lw_decide 22 = .ok (.astore_n 3, 1) := by decide +kernel
theorem d_Lw_decide_23 : decode b_Lw_decide 23 = .ok (.iconst 2, 1) := by decide +kernel
theorem d_Lw_decide_24 : decode b_Lw_decide 24 = .ok (.ireturn, 1) := by decide +kernel
theorem d_Lw_decide_25 : decode b_Lw_decide 25 = .ok (.iconst 0, 1) := by decide +kernel
theorem d_Lw_decide_26 : decode b_Lw_decide 26 = .ok (.ireturn, 1) := by decide +kernel
theorem d_Lw_pieces_0 : decode b_Lw_pieces 0 = .ok (.aload_n 2, 1) := by decide +kernel
theorem d_Lw_pieces_1 : decode b_Lw_pieces 1 = .ok (.iconst 0, 1) := by decide +kernel
theorem d_Lw_pieces_2 : decode b_Lw_pieces 2 = .ok (.aload_n 0, 1) := by decide +kernel
theorem d_Lw_pieces_3 : decode b_Lw_pieces 3 = .ok (.iload_n 1, 1) := by decide +kernel
theorem d_Lw_pieces_4 : decode b_Lw_pieces 4 = .ok (.invokevirtual 47, 3) := by decide +kernel
theorem d_Lw_pieces_7 : decode b_Lw_pieces 7 = .ok (.i2l, 1) := by decide +kernel
theorem d_Lw_pieces_8 : decode b_Lw_pieces 8 = .ok (.lastore, 1) := by decide +kernel
theorem d_Lw_pieces_9 : decode b_Lw_pieces 9 = .ok (.goto 9, 3) := by decide +kernel
theorem d_Lw_pieces_12 : decode b_Lw_pieces 12 = .ok (.astore_n 3, 1) := by decide +kernel
theorem d_Lw_pieces_13 : decode b_Lw_pieces 13 = .ok (.iconst 1, 1) := by decide +kernel
theorem d_Lw_pieces_14 : decode b_Lw_pieces 14 = .ok (.ireturn, 1) := by decide +kernel
theorem d_Lw_pieces_15 : decode b_Lw_pieces 15 = .ok (.astore_n 3, 1) := by decide +kernel
theorem d_Lw_pieces_16 : decode b_Lw_pieces 16 = .ok (.iconst 2, 1) := by decide +kernel
theorem d_Lw_pieces_17 : decode b_Lw_pieces 17 = .ok (.ireturn, 1) := by decide +kernel
theorem d_Lw_pieces_18 : decode b_Lw_pieces 18 = .ok (.iconst 0, 1) := by decide +kernel
theorem d_Lw_pieces_19 : decode b_Lw_pieces 19 = .ok (.ireturn, 1) := by decide +kernel
theorem d_Lw_end_0 : decode b_Lw_end 0 = .ok (.aload 5, 2) := by decide +kernel
theorem d_Lw_end_2 : decode b_Lw_end 2 = .ok (.iconst 0, 1) := by decide +kernel
theorem d_Lw_end_3 : decode b_Lw_end 3 = .ok (.aload_n 0, 1) := by decide +kernel
theorem d_Lw_end_4 : decode b_Lw_end 4 = .ok (.iload_n 1, 1) := by decide +kernel
theorem d_Lw_end_5 : decode b_Lw_end 5 = .ok (.iload_n 2, 1) := by decide +kernel
theorem d_Lw_end_6 : decode b_Lw_end 6 = .ok (.iload_n 3, 1) := by decide +kernel
theorem d_Lw_end_7 : decode b_Lw_end 7 = .ok (.iload 4, 2) := by decide +kernel
theorem d_Lw_end_9 : decode b_Lw_end 9 = .ok (.invokevirtual 50, 3) := by decide +kernel
theorem d_Lw_end_12 : decode b_Lw_end 12 = .ok (.lastore, 1) := by decide +kernel
theorem d_Lw_end_13 : decode b_Lw_end 13 = .ok (.goto 15, 3) := by decide +kernel
theorem d_Lw_end_16 : decode b_Lw_end 16 = .ok (.astore 6, 2) := by decide +kernel
theorem d_Lw_end_18 : decode b_Lw_end 18 = .ok (.iconst 1, 1) := by decide +kernel
theorem d_Lw_end_19 : decode b_Lw_end 19 = .ok (.ireturn, 1) := by decide +kernel
theorem d_Lw_end_20 : decode b_Lw_end 20 = .ok (.astore 6, 2) := by decide +kernel
theorem d_Lw_end_22 : decode b_Lw_end 22 = .ok (.iconst 2, 1) := by decide +kernel
theorem d_Lw_end_23 : decode b_Lw_end 23 = .ok (.ireturn, 1) := by decide +kernel
theorem d_Lw_end_24 : decode b_Lw_end 24 = .ok (.astore 6, 2) := by decide +kernel
theorem d_Lw_end_26 : decode b_Lw_end 26 = .ok (.iconst 3, 1) := by decide +kernel
theorem d_Lw_end_27 : decode b_Lw_end 27 = .ok (.ireturn, 1) := by decide +kernel
theorem d_Lw_end_28 : decode b_Lw_end 28 = .ok (.iconst 0, 1) := by decide +kernel
theorem d_Lw_end_29 : decode b_Lw_end 29 = .ok (.ireturn, 1) := by decide +kernel
theorem d_Lw_alike_0 : decode b_Lw_alike 0 = .ok (.aload_n 3, 1) := by decide +kernel
theorem d_Lw_alike_1 : decode b_Lw_alike 1 = .ok (.iconst 0, 1) := by decide +kernel
theorem d_Lw_alike_2 : decode b_Lw_alike 2 = .ok (.aload_n 0, 1) := by decide +kernel
theorem d_Lw_alike_3 : decode b_Lw_alike 3 = .ok (.iload_n 1, 1) := by decide +kernel
theorem d_Lw_alike_4 : decode b_Lw_alike 4 = .ok (.iload_n 2, 1) := by decide +kernel
theorem d_Lw_alike_5 : decode b_Lw_alike 5 = .ok (.invokevirtual 54, 3) := by decide +kernel
theorem d_Lw_alike_8 : decode b_Lw_alike 8 = .ok (.ifCond .eq 7, 3) := by decide +kernel
theorem d_Lw_alike_11 : decode b_Lw_alike 11 = .ok (.lconst 1, 1) := by decide +kernel
theorem d_Lw_alike_12 : decode b_Lw_alike 12 = .ok (.goto 4, 3) := by decide +kernel
theorem d_Lw_alike_15 : decode b_Lw_alike 15 = .ok (.lconst 0, 1) := by decide +kernel
theorem d_Lw_alike_16 : decode b_Lw_alike 16 = .ok (.lastore, 1) := by decide +kernel
theorem d_Lw_alike_17 : decode b_Lw_alike 17 = .ok (.goto 7, 3) := by decide +kernel
theorem d_Lw_alike_20 : decode b_Lw_alike 20 = .ok (.astore 4, 2) := by decide +kernel
theorem d_Lw_alike_22 : decode b_Lw_alike 22 = .ok (.iconst 1, 1) := by decide +kernel
theorem d_Lw_alike_23 : decode b_Lw_alike 23 = .ok (.ireturn, 1) := by decide +kernel
theorem d_Lw_alike_24 : decode b_Lw_alike 24 = .ok (.iconst 0, 1) := by decide +kernel
theorem d_Lw_alike_25 : decode b_Lw_alike 25 = .ok (.ireturn, 1) := by decide +kernel
theorem d_Lw_law_0 : decode b_Lw_law 0 = .ok (.new 8, 3) := by decide +kernel
theorem d_Lw_law_3 : decode b_Lw_law 3 = .ok (.dup, 1) := by decide +kernel
theorem d_Lw_law_4 : decode b_Lw_law 4 = .ok (.invokespecial 58, 3) := by decide +kernel
theorem d_Lw_law_7 : decode b_Lw_law 7 = .ok (.astore_n 1, 1) := by decide +kernel
theorem d_Lw_law_8 : decode b_Lw_law 8 = .ok (.new 59, 3) := by decide +kernel
theorem d_Lw_law_11 : decode b_Lw_law 11 = .ok (.dup, 1) := by decide +kernel
theorem d_Lw_law_12 : decode b_Lw_law 12 = .ok (.invokespecial 61, 3) := by decide +kernel
theorem d_Lw_law_15 : decode b_Lw_law 15 = .ok (.astore_n 2, 1) := by decide +kernel
theorem d_Lw_law_16 : decode b_Lw_law 16 = .ok (.iconst 1, 1) := by decide +kernel
theorem d_Lw_law_17 : decode b_Lw_law 17 = .ok (.newarray .long, 2) := by decide +kernel
theorem d_Lw_law_19 : decode b_Lw_law 19 = .ok (.astore_n 3, 1) := by decide +kernel
theorem d_Lw_law_20 : decode b_Lw_law 20 = .ok (.iconst 0, 1) := by decide +kernel
theorem d_Lw_law_21 : decode b_Lw_law 21 = .ok (.istore 4, 2) := by decide +kernel
theorem d_Lw_law_23 : decode b_Lw_law 23 = .ok (.iload 4, 2) := by decide +kernel
theorem d_Lw_law_25 : decode b_Lw_law 25 = .ok (.aload_n 0, 1) := by decide +kernel
theorem d_Lw_law_26 : decode b_Lw_law 26 = .ok (.arraylength, 1) := by decide +kernel
theorem d_Lw_law_27 : decode b_Lw_law 27 = .ok (.iconst 5, 1) := by decide +kernel
theorem d_Lw_law_28 : decode b_Lw_law 28 = .ok (.isub, 1) := by decide +kernel
theorem d_Lw_law_29 : decode b_Lw_law 29 = .ok (.if_icmp .gt 954, 3) := by decide +kernel
theorem d_Lw_law_32 : decode b_Lw_law 32 = .ok (.aload_n 0, 1) := by decide +kernel
theorem d_Lw_law_33 : decode b_Lw_law 33 = .ok (.iload 4, 2) := by decide +kernel
theorem d_Lw_law_35 : decode b_Lw_law 35 = .ok (.iaload, 1) := by decide +kernel
theorem d_Lw_law_36 : decode b_Lw_law 36 = .ok (.bipush 15, 2) := by decide +kernel
theorem d_Lw_law_38 : decode b_Lw_law 38 = .ok (.iand, 1) := by decide +kernel
theorem d_Lw_law_39 : decode b_Lw_law 39 = .ok (.tableswitch 938 0 12 #[65, 157, 225, 293, 349, 417, 485, 553, 640, 703, 759, 850, 925], 65) := by decide +kernel
theorem d_Lw_law_104 : decode b_Lw_law 104 = .ok (.aload_n 1, 1) := by decide +kernel
theorem d_Lw_law_105 : decode b_Lw_law 105 = .ok (.aload_n 0, 1) := by decide +kernel
theorem d_Lw_law_106 : decode b_Lw_law 106 = .ok (.iload 4, 2) := by decide +kernel
theorem d_Lw_law_108 : decode b_Lw_law 108 = .ok (.iconst 1, 1) := by decide +kernel
theorem d_Lw_law_109 : decode b_Lw_law 109 = .ok (.iadd, 1) := by decide +kernel
theorem d_Lw_law_110 : decode b_Lw_law 110 = .ok (.iaload, 1) := by decide +kernel
theorem d_Lw_law_111 : decode b_Lw_law 111 = .ok (.aload_n 0, 1) := by decide +kernel
theorem d_Lw_law_112 : decode b_Lw_law 112 = .ok (.iload 4, 2) := by decide +kernel
theorem d_Lw_law_114 : decode b_Lw_law 114 = .ok (.iconst 2, 1) := by decide +kernel
theorem d_Lw_law_115 : decode b_Lw_law 115 = .ok (.iadd, 1) := by decide +kernel
theorem d_Lw_law_116 : decode b_Lw_law 116 = .ok (.iaload, 1) := by decide +kernel
theorem d_Lw_law_117 : decode b_Lw_law 117 = .ok (.aload_n 0, 1) := by decide +kernel
theorem d_Lw_law_118 : decode b_Lw_law 118 = .ok (.iload 4, 2) := by decide +kernel
theorem d_Lw_law_120 : decode b_Lw_law 120 = .ok (.iconst 3, 1) := by decide +kernel
theorem d_Lw_law_121 : decode b_Lw_law 121 = .ok (.iadd, 1) := by decide +kernel
theorem d_Lw_law_122 : decode b_Lw_law 122 = .ok (.iaload, 1) := by decide +kernel
theorem d_Lw_law_123 : decode b_Lw_law 123 = .ok (.aload_n 0, 1) := by decide +kernel
theorem d_Lw_law_124 : decode b_Lw_law 124 = .ok (.iload 4, 2) := by decide +kernel
theorem d_Lw_law_126 : decode b_Lw_law 126 = .ok (.iconst 4, 1) := by decide +kernel
theorem d_Lw_law_127 : decode b_Lw_law 127 = .ok (.iadd, 1) := by decide +kernel
theorem d_Lw_law_128 : decode b_Lw_law 128 = .ok (.iaload, 1) := by decide +kernel
theorem d_Lw_law_129 : decode b_Lw_law 129 = .ok (.aload_n 3, 1) := by decide +kernel
theorem d_Lw_law_130 : decode b_Lw_law 130 = .ok (.invokestatic 62, 3) := by decide +kernel
theorem d_Lw_law_133 : decode b_Lw_law 133 = .ok (.istore 5, 2) := by decide +kernel
theorem d_Lw_law_135 : decode b_Lw_law 135 = .ok (.aload_n 2, 1) := by decide +kernel
theorem d_Lw_law_136 : decode b_Lw_law 136 = .ok (.aload_n 0, 1) := by decide +kernel
theorem d_Lw_law_137 : decode b_Lw_law 137 = .ok (.iload 4, 2) := by decide +kernel
theorem d_Lw_law_139 : decode b_Lw_law 139 = .ok (.iconst 1, 1) := by decide +kernel
theorem d_Lw_law_140 : decode b_Lw_law 140 = .ok (.iadd, 1) := by decide +kernel
theorem d_Lw_law_141 : decode b_Lw_law 141 = .ok (.iaload, 1) := by decide +kernel
theorem d_Lw_law_142 : decode b_Lw_law 142 = .ok (.aload_n 0, 1) := by decide +kernel
theorem d_Lw_law_143 : decode b_Lw_law 143 = .ok (.iload 4, 2) := by decide +kernel
theorem d_Lw_law_145 : decode b_Lw_law 145 = .ok (.iconst 2, 1) := by decide +kernel
theorem d_Lw_law_146 : decode b_Lw_law 146 = .ok (.iadd, 1) := by decide +kernel
theorem d_Lw_law_147 : decode b_Lw_law 147 = .ok (.iaload, 1) := by decide +kernel
theorem d_Lw_law_148 : decode b_Lw_law 148 = .ok (.aload_n 0, 1) := by decide +kernel
theorem d_Lw_law_149 : decode b_Lw_law 149 = .ok (.iload 4, 2) := by decide +kernel
theorem d_Lw_law_151 : decode b_Lw_law 151 = .ok (.iconst 3, 1) := by decide +kernel
theorem d_Lw_law_152 : decode b_Lw_law 152 = .ok (.iadd, 1) := by decide +kernel
theorem d_Lw_law_153 : decode b_Lw_law 153 = .ok (.iaload, 1) := by decide +kernel
theorem d_Lw_law_154 : decode b_Lw_law 154 = .ok (.aload_n 0, 1) := by decide +kernel
theorem d_Lw_law_155 : decode b_Lw_law 155 = .ok (.iload 4, 2) := by decide +kernel
theorem d_Lw_law_157 : decode b_Lw_law 157 = .ok (.iconst 4, 1) := by decide +kernel
theorem d_Lw_law_158 : decode b_Lw_law 158 = .ok (.iadd, 1) := by decide +kernel
theorem d_Lw_law_159 : decode b_Lw_law 159 = .ok (.iaload, 1) := by decide +kernel
theorem d_Lw_law_160 : decode b_Lw_law 160 = .ok (.invokevirtual 67, 3) := by decide +kernel
theorem d_Lw_law_163 : decode b_Lw_law 163 = .ok (.istore 6, 2) := by decide +kernel
theorem d_Lw_law_165 : decode b_Lw_law 165 = .ok (.aload_n 2, 1) := by decide +kernel
theorem d_Lw_law_166 : decode b_Lw_law 166 = .ok (.invokevirtual 68, 3) := by decide +kernel
theorem d_Lw_law_169 : decode b_Lw_law 169 = .ok (.iload 5, 2) := by decide +kernel
theorem d_Lw_law_171 : decode b_Lw_law 171 = .ok (.if_icmp .eq 5, 3) := by decide +kernel
theorem d_Lw_law_174 : decode b_Lw_law 174 = .ok (.iconst 0, 1) := by decide +kernel
theorem d_Lw_law_175 : decode b_Lw_law 175 = .ok (.ireturn, 1) := by decide +kernel
theorem d_Lw_law_176 : decode b_Lw_law 176 = .ok (.iload 5, 2) := by decide +kernel
theorem d_Lw_law_178 : decode b_Lw_law 178 = .ok (.ifCond .ne 15, 3) := by decide +kernel
theorem d_Lw_law_181 : decode b_Lw_law 181 = .ok (.aload_n 3, 1) := by decide +kernel
theorem d_Lw_law_182 : decode b_Lw_law 182 = .ok (.iconst 0, 1) := by decide +kernel
theorem d_Lw_law_183 : decode b_Lw_law 183 = .ok (.laload, 1) := by decide +kernel
theorem d_Lw_law_184 : decode b_Lw_law 184 = .ok (.iload 6, 2) := by decide +kernel
theorem d_Lw_law_186 : decode b_Lw_law 186 = .ok (.i2l, 1) := by decide +kernel
theorem d_Lw_law_187 : decode b_Lw_law 187 = .ok (.lcmp, 1) := by decide +kernel
theorem d_Lw_law_188 : decode b_Lw_law 188 = .ok (.ifCond .eq 5, 3) := by decide +kernel
theorem d_Lw_law_191 : decode b_Lw_law 191 = .ok (.iconst 0, 1) := by decide +kernel
theorem d_Lw_law_192 : decode b_Lw_law 192 = .ok (.ireturn, 1) := by decide +kernel
theorem d_Lw_law_193 : decode b_Lw_law 193 = .ok (.goto 784, 3) := by decide +kernel
theorem d_Lw_law_196 : decode b_Lw_law 196 = .ok (.aload_n 1, 1) := by decide +kernel
theorem d_Lw_law_197 : decode b_Lw_law 197 = .ok (.aload_n 0, 1) := by decide +kernel
theorem d_Lw_law_198 : decode b_Lw_law 198 = .ok (.iload 4, 2) := by decide +kernel
theorem d_Lw_law_200 : decode b_Lw_law 200 = .ok (.iconst 1, 1) := by decide +kernel
theorem d_Lw_law_201 : decode b_Lw_law 201 = .ok (.iadd, 1) := by decide +kernel
theorem d_Lw_law_202 : decode b_Lw_law 202 = .ok (.iaload, 1) := by decide +kernel
theorem d_Lw_law_203 : decode b_Lw_law 203 = .ok (.aload_n 0, 1) := by decide +kernel
theorem d_Lw_law_204 : decode b_Lw_law 204 = .ok (.iload 4, 2) := by decide +kernel
theorem d_Lw_law_206 : decode b_Lw_law 206 = .ok (.iconst 2, 1) := by decide +kernel
theorem d_Lw_law_207 : decode b_Lw_law 207 = .ok (.iadd, 1) := by decide +kernel
theorem d_Lw_law_208 : decode b_Lw_law 208 = .ok (.iaload, 1) := by decide +kernel
theorem d_Lw_law_209 : decode b_Lw_law 209 = .ok (.aload_n 3, 1) := by decide +kernel
theorem d_Lw_law_210 : decode b_Lw_law 210 = .ok (.invokestatic 72, 3) := by decide +kernel
theorem d_Lw_law_213 : decode b_Lw_law 213 = .ok (.istore 5, 2) := by decide +kernel
theorem d_Lw_law_215 : decode b_Lw_law 215 = .ok (.aload_n 2, 1) := by decide +kernel
theorem d_Lw_law_216 : decode b_Lw_law 216 = .ok (.aload_n 0, 1) := by decide +kernel
theorem d_Lw_law_217 : decode b_Lw_law 217 = .ok (.iload 4, 2) := by decide +kernel
theorem d_Lw_law_219 : decode b_Lw_law 219 = .ok (.iconst 1, 1) := by decide +kernel
theorem d_Lw_law_220 : decode b_Lw_law 220 = .ok (.iadd, 1) := by decide +kernel
theorem d_Lw_law_221 : decode b_Lw_law 221 = .ok (.iaload, 1) := by decide +kernel
theorem d_Lw_law_222 : decode b_Lw_law 222 = .ok (.aload_n 0, 1) := by decide +kernel
theorem d_Lw_law_223 : decode b_Lw_law 223 = .ok (.iload 4, 2) := by decide +kernel
theorem d_Lw_law_225 : decode b_Lw_law 225 = .ok (.iconst 2, 1) := by decide +kernel
theorem d_Lw_law_226 : decode b_Lw_law 226 = .ok (.iadd, 1) := by decide +kernel
theorem d_Lw_law_227 : decode b_Lw_law 227 = .ok (.iaload, 1) := by decide +kernel
theorem d_Lw_law_228 : decode b_Lw_law 228 = .ok (.invokevirtual 75, 3) := by decide +kernel
theorem d_Lw_law_231 : decode b_Lw_law 231 = .ok (.istore 6, 2) := by decide +kernel
theorem d_Lw_law_233 : decode b_Lw_law 233 = .ok (.aload_n 2, 1) := by decide +kernel
theorem d_Lw_law_234 : decode b_Lw_law 234 = .ok (.invokevirtual 68, 3) := by decide +kernel
theorem d_Lw_law_237 : decode b_Lw_law 237 = .ok (.iload 5, 2) := by decide +kernel
theorem d_Lw_law_239 : decode b_Lw_law 239 = .ok (.if_icmp .eq 5, 3) := by decide +kernel
theorem d_Lw_law_242 : decode b_Lw_law 242 = .ok (.iconst 0, 1) := by decide +kernel
theorem d_Lw_law_243 : decode b_Lw_law 243 = .ok (.ireturn, 1) := by decide +kernel
theorem d_Lw_law_244 : decode b_Lw_law 244 = .ok (.iload 5, 2) := by decide +kernel
theorem d_Lw_law_246 : decode b_Lw_law 246 = .ok (.ifCond .ne 15, 3) := by decide +kernel
theorem d_Lw_law_249 : decode b_Lw_law 249 = .ok (.aload_n 3, 1) := by decide +kernel
theorem d_Lw_law_250 : decode b_Lw_law 250 = .ok (.iconst 0, 1) := by decide +kernel
theorem d_Lw_law_251 : decode b_Lw_law 251 = .ok (.laload, 1) := by decide +kernel
theorem d_Lw_law_252 : decode b_Lw_law 252 = .ok (.iload 6, 2) := by decide +kernel
theorem d_Lw_law_254 : decode b_Lw_law 254 = .ok (.i2l, 1) := by decide +kernel
theorem d_Lw_law_255 : decode b_Lw_law 255 = .ok (.lcmp, 1) := by decide +kernel
theorem d_Lw_law_256 : decode b_Lw_law 256 = .ok (.ifCond .eq 5, 3) := by decide +kernel
theorem d_Lw_law_259 : decode b_Lw_law 259 = .ok (.iconst 0, 1) := by decide +kernel
theorem d_Lw_law_260 : decode b_Lw_law 260 = .ok (.ireturn, 1) := by decide +kernel
theorem d_Lw_law_261 : decode b_Lw_law 261 = .ok (.goto 716, 3) := by decide +kernel
theorem d_Lw_law_264 : decode b_Lw_law 264 = .ok (.aload_n 1, 1) := by decide +kernel
theorem d_Lw_law_265 : decode b_Lw_law 265 = .ok (.aload_n 0, 1) := by decide +kernel
theorem d_Lw_law_266 : decode b_Lw_law 266 = .ok (.iload 4, 2) := by decide +kernel
theorem d_Lw_law_268 : decode b_Lw_law 268 = .ok (.iconst 1, 1) := by decide +kernel
theorem d_Lw_law_269 : decode b_Lw_law 269 = .ok (.iadd, 1) := by decide +kernel
theorem d_Lw_law_270 : decode b_Lw_law 270 = .ok (.iaload, 1) := by decide +kernel
theorem d_Lw_law_271 : decode b_Lw_law 271 = .ok (.aload_n 0, 1) := by decide +kernel
theorem d_Lw_law_272 : decode b_Lw_law 272 = .ok (.iload 4, 2) := by decide +kernel
theorem d_Lw_law_274 : decode b_Lw_law 274 = .ok (.iconst 2, 1) := by decide +kernel
theorem d_Lw_law_275 : decode b_Lw_law 275 = .ok (.iadd, 1) := by decide +kernel
theorem d_Lw_law_276 : decode b_Lw_law 276 = .ok (.iaload, 1) := by decide +kernel
theorem d_Lw_law_277 : decode b_Lw_law 277 = .ok (.aload_n 3, 1) := by decide +kernel
theorem d_Lw_law_278 : decode b_Lw_law 278 = .ok (.invokestatic 76, 3) := by decide +kernel
theorem d_Lw_law_281 : decode b_Lw_law 281 = .ok (.istore 5, 2) := by decide +kernel
theorem d_Lw_law_283 : decode b_Lw_law 283 = .ok (.aload_n 2, 1) := by decide +kernel
theorem d_Lw_law_284 : decode b_Lw_law 284 = .ok (.aload_n 0, 1) := by decide +kernel
theorem d_Lw_law_285 : decode b_Lw_law 285 = .ok (.iload 4, 2) := by decide +kernel
theorem d_Lw_law_287 : decode b_Lw_law 287 = .ok (.iconst 1, 1) := by decide +kernel
theorem d_Lw_law_288 : decode b_Lw_law 288 = .ok (.iadd, 1) := by decide +kernel
theorem d_Lw_law_289 : decode b_Lw_law 289 = .ok (.iaload, 1) := by decide +kernel
theorem d_Lw_law_290 : decode b_Lw_law 290 = .ok (.aload_n 0, 1) := by decide +kernel
theorem d_Lw_law_291 : decode b_Lw_law 291 = .ok (.iload 4, 2) := by decide +kernel
theorem d_Lw_law_293 : decode b_Lw_law 293 = .ok (.iconst 2, 1) := by decide +kernel
theorem d_Lw_law_294 : decode b_Lw_law 294 = .ok (.iadd, 1) := by decide +kernel
theorem d_Lw_law_295 : decode b_Lw_law 295 = .ok (.iaload, 1) := by decide +kernel
theorem d_Lw_law_296 : decode b_Lw_law 296 = .ok (.invokevirtual 78, 3) := by decide +kernel
theorem d_Lw_law_299 : decode b_Lw_law 299 = .ok (.istore 6, 2) := by decide +kernel
theorem d_Lw_law_301 : decode b_Lw_law 301 = .ok (.aload_n 2, 1) := by decide +kernel
theorem d_Lw_law_302 : decode b_Lw_law 302 = .ok (.invokevirtual 68, 3) := by decide +kernel
theorem d_Lw_law_305 : decode b_Lw_law 305 = .ok (.iload 5, 2) := by decide +kernel
theorem d_Lw_law_307 : decode b_Lw_law 307 = .ok (.if_icmp .eq 5, 3) := by decide +kernel
theorem d_Lw_law_310 : decode b_Lw_law 310 = .ok (.iconst 0, 1) := by decide +kernel
theorem d_Lw_law_311 : decode b_Lw_law 311 = .ok (.ireturn, 1) := by decide +kernel
theorem d_Lw_law_312 : decode b_Lw_law 312 = .ok (.iload 5, 2) := by decide +kernel
theorem d_Lw_law_314 : decode b_Lw_law 314 = .ok (.ifCond .ne 15, 3) := by decide +kernel
theorem d_Lw_law_317 : decode b_Lw_law 317 = .ok (.aload_n 3, 1) := by decide +kernel
theorem d_Lw_law_318 : decode b_Lw_law 318 = .ok (.iconst 0, 1) := by decide +kernel
theorem d_Lw_law_319 : decode b_Lw_law 319 = .ok (.laload, 1) := by decide +kernel
theorem d_Lw_law_320 : decode b_Lw_law 320 = .ok (.iload 6, 2) := by decide +kernel
theorem d_Lw_law_322 : decode b_Lw_law 322 = .ok (.i2l, 1) := by decide +kernel
theorem d_Lw_law_323 : decode b_Lw_law 323 = .ok (.lcmp, 1) := by decide +kernel
theorem d_Lw_law_324 : decode b_Lw_law 324 = .ok (.ifCond .eq 5, 3) := by decide +kernel
theorem d_Lw_law_327 : decode b_Lw_law 327 = .ok (.iconst 0, 1) := by decide +kernel
theorem d_Lw_law_328 : decode b_Lw_law 328 = .ok (.ireturn, 1) := by decide +kernel
theorem d_Lw_law_329 : decode b_Lw_law 329 = .ok (.goto 648, 3) := by decide +kernel
theorem d_Lw_law_332 : decode b_Lw_law 332 = .ok (.aload_n 1, 1) := by decide +kernel
theorem d_Lw_law_333 : decode b_Lw_law 333 = .ok (.aload_n 0, 1) := by decide +kernel
theorem d_Lw_law_334 : decode b_Lw_law 334 = .ok (.iload 4, 2) := by decide +kernel
theorem d_Lw_law_336 : decode b_Lw_law 336 = .ok (.iconst 1, 1) := by decide +kernel
theorem d_Lw_law_337 : decode b_Lw_law 337 = .ok (.iadd, 1) := by decide +kernel
theorem d_Lw_law_338 : decode b_Lw_law 338 = .ok (.iaload, 1) := by decide +kernel
theorem d_Lw_law_339 : decode b_Lw_law 339 = .ok (.aload_n 3, 1) := by decide +kernel
theorem d_Lw_law_340 : decode b_Lw_law 340 = .ok (.invokestatic 79, 3) := by decide +kernel
theorem d_Lw_law_343 : decode b_Lw_law 343 = .ok (.istore 5, 2) := by decide +kernel
theorem d_Lw_law_345 : decode b_Lw_law 345 = .ok (.aload_n 2, 1) := by decide +kernel
theorem d_Lw_law_346 : decode b_Lw_law 346 = .ok (.aload_n 0, 1) := by decide +kernel
theorem d_Lw_law_347 : decode b_Lw_law 347 = .ok (.iload 4, 2) := by decide +kernel
theorem d_Lw_law_349 : decode b_Lw_law 349 = .ok (.iconst 1, 1) := by decide +kernel
theorem d_Lw_law_350 : decode b_Lw_law 350 = .ok (.iadd, 1) := by decide +kernel
theorem d_Lw_law_351 : decode b_Lw_law 351 = .ok (.iaload, 1) := by decide +kernel
theorem d_Lw_law_352 : decode b_Lw_law 352 = .ok (.invokevirtual 82, 3) := by decide +kernel
theorem d_Lw_law_355 : decode b_Lw_law 355 = .ok (.istore 6, 2) := by decide +kernel
theorem d_Lw_law_357 : decode b_Lw_law 357 = .ok (.aload_n 2, 1) := by decide +kernel
theorem d_Lw_law_358 : decode b_Lw_law 358 = .ok (.invokevirtual 68, 3) := by decide +kernel
theorem d_Lw_law_361 : decode b_Lw_law 361 = .ok (.iload 5, 2) := by decide +kernel
theorem d_Lw_law_363 : decode b_Lw_law 363 = .ok (.if_icmp .eq 5, 3) := by decide +kernel
theorem d_Lw_law_366 : decode b_Lw_law 366 = .ok (.iconst 0, 1) := by decide +kernel
theorem d_Lw_law_367 : decode b_Lw_law 367 = .ok (.ireturn, 1) := by decide +kernel
theorem d_Lw_law_368 : decode b_Lw_law 368 = .ok (.iload 5, 2) := by decide +kernel
theorem d_Lw_law_370 : decode b_Lw_law 370 = .ok (.ifCond .ne 15, 3) := by decide +kernel
theorem d_Lw_law_373 : decode b_Lw_law 373 = .ok (.aload_n 3, 1) := by decide +kernel
theorem d_Lw_law_374 : decode b_Lw_law 374 = .ok (.iconst 0, 1) := by decide +kernel
theorem d_Lw_law_375 : decode b_Lw_law 375 = .ok (.laload, 1) := by decide +kernel
theorem d_Lw_law_376 : decode b_Lw_law 376 = .ok (.iload 6, 2) := by decide +kernel
theorem d_Lw_law_378 : decode b_Lw_law 378 = .ok (.i2l, 1) := by decide +kernel
theorem d_Lw_law_379 : decode b_Lw_law 379 = .ok (.lcmp, 1) := by decide +kernel
theorem d_Lw_law_380 : decode b_Lw_law 380 = .ok (.ifCond .eq 5, 3) := by decide +kernel
theorem d_Lw_law_383 : decode b_Lw_law 383 = .ok (.iconst 0, 1) := by decide +kernel
theorem d_Lw_law_384 : decode b_Lw_law 384 = .ok (.ireturn, 1) := by decide +kernel
theorem d_Lw_law_385 : decode b_Lw_law 385 = .ok (.goto 592, 3) := by decide +kernel
theorem d_Lw_law_388 : decode b_Lw_law 388 = .ok (.aload_n 1, 1) := by decide +kernel
theorem d_Lw_law_389 : decode b_Lw_law 389 = .ok (.aload_n 0, 1) := by decide +kernel
theorem d_Lw_law_390 : decode b_Lw_law 390 = .ok (.iload 4, 2) := by decide +kernel
theorem d_Lw_law_392 : decode b_Lw_law 392 = .ok (.iconst 1, 1) := by decide +kernel
theorem d_Lw_law_393 : decode b_Lw_law 393 = .ok (.iadd, 1) := by decide +kernel
theorem d_Lw_law_394 : decode b_Lw_law 394 = .ok (.iaload, 1) := by decide +kernel
theorem d_Lw_law_395 : decode b_Lw_law 395 = .ok (.aload_n 0, 1) := by decide +kernel
theorem d_Lw_law_396 : decode b_Lw_law 396 = .ok (.iload 4, 2) := by decide +kernel
theorem d_Lw_law_398 : decode b_Lw_law 398 = .ok (.iconst 2, 1) := by decide +kernel
theorem d_Lw_law_399 : decode b_Lw_law 399 = .ok (.iadd, 1) := by decide +kernel
theorem d_Lw_law_400 : decode b_Lw_law 400 = .ok (.iaload, 1) := by decide +kernel
theorem d_Lw_law_401 : decode b_Lw_law 401 = .ok (.aload_n 3, 1) := by decide +kernel
theorem d_Lw_law_402 : decode b_Lw_law 402 = .ok (.invokestatic 83, 3) := by decide +kernel
theorem d_Lw_law_405 : decode b_Lw_law 405 = .ok (.istore 5, 2) := by decide +kernel
theorem d_Lw_law_407 : decode b_Lw_law 407 = .ok (.aload_n 2, 1) := by decide +kernel
theorem d_Lw_law_408 : decode b_Lw_law 408 = .ok (.aload_n 0, 1) := by decide +kernel
theorem d_Lw_law_409 : decode b_Lw_law 409 = .ok (.iload 4, 2) := by decide +kernel
theorem d_Lw_law_411 : decode b_Lw_law 411 = .ok (.iconst 1, 1) := by decide +kernel
theorem d_Lw_law_412 : decode b_Lw_law 412 = .ok (.iadd, 1) := by decide +kernel
theorem d_Lw_law_413 : decode b_Lw_law 413 = .ok (.iaload, 1) := by decide +kernel
theorem d_Lw_law_414 : decode b_Lw_law 414 = .ok (.aload_n 0, 1) := by decide +kernel
theorem d_Lw_law_415 : decode b_Lw_law 415 = .ok (.iload 4, 2) := by decide +kernel
theorem d_Lw_law_417 : decode b_Lw_law 417 = .ok (.iconst 2, 1) := by decide +kernel
theorem d_Lw_law_418 : decode b_Lw_law 418 = .ok (.iadd, 1) := by decide +kernel
theorem d_Lw_law_419 : decode b_Lw_law 419 = .ok (.iaload, 1) := by decide +kernel
theorem d_Lw_law_420 : decode b_Lw_law 420 = .ok (.invokevirtual 85, 3) := by decide +kernel
theorem d_Lw_law_423 : decode b_Lw_law 423 = .ok (.istore 6, 2) := by decide +kernel
theorem d_Lw_law_425 : decode b_Lw_law 425 = .ok (.aload_n 2, 1) := by decide +kernel
theorem d_Lw_law_426 : decode b_Lw_law 426 = .ok (.invokevirtual 68, 3) := by decide +kernel
theorem d_Lw_law_429 : decode b_Lw_law 429 = .ok (.iload 5, 2) := by decide +kernel
theorem d_Lw_law_431 : decode b_Lw_law 431 = .ok (.if_icmp .eq 5, 3) := by decide +kernel
theorem d_Lw_law_434 : decode b_Lw_law 434 = .ok (.iconst 0, 1) := by decide +kernel
theorem d_Lw_law_435 : decode b_Lw_law 435 = .ok (.ireturn, 1) := by decide +kernel
theorem d_Lw_law_436 : decode b_Lw_law 436 = .ok (.iload 5, 2) := by decide +kernel
theorem d_Lw_law_438 : decode b_Lw_law 438 = .ok (.ifCond .ne 15, 3) := by decide +kernel
theorem d_Lw_law_441 : decode b_Lw_law 441 = .ok (.aload_n 3, 1) := by decide +kernel
theorem d_Lw_law_442 : decode b_Lw_law 442 = .ok (.iconst 0, 1) := by decide +kernel
theorem d_Lw_law_443 : decode b_Lw_law 443 = .ok (.laload, 1) := by decide +kernel
theorem d_Lw_law_444 : decode b_Lw_law 444 = .ok (.iload 6, 2) := by decide +kernel
theorem d_Lw_law_446 : decode b_Lw_law 446 = .ok (.i2l, 1) := by decide +kernel
theorem d_Lw_law_447 : decode b_Lw_law 447 = .ok (.lcmp, 1) := by decide +kernel
theorem d_Lw_law_448 : decode b_Lw_law 448 = .ok (.ifCond .eq 5, 3) := by decide +kernel
theorem d_Lw_law_451 : decode b_Lw_law 451 = .ok (.iconst 0, 1) := by decide +kernel
theorem d_Lw_law_452 : decode b_Lw_law 452 = .ok (.ireturn, 1) := by decide +kernel
theorem d_Lw_law_453 : decode b_Lw_law 453 = .ok (.goto 524, 3) := by decide +kernel
theorem d_Lw_law_456 : decode b_Lw_law 456 = .ok (.aload_n 1, 1) := by decide +kernel
theorem d_Lw_law_457 : decode b_Lw_law 457 = .ok (.aload_n 0, 1) := by decide +kernel
theorem d_Lw_law_458 : decode b_Lw_law 458 = .ok (.iload 4, 2) := by decide +kernel
theorem d_Lw_law_460 : decode b_Lw_law 460 = .ok (.iconst 1, 1) := by decide +kernel
theorem d_Lw_law_461 : decode b_Lw_law 461 = .ok (.iadd, 1) := by decide +kernel
theorem d_Lw_law_462 : decode b_Lw_law 462 = .ok (.iaload, 1) := by decide +kernel
theorem d_Lw_law_463 : decode b_Lw_law 463 = .ok (.aload_n 0, 1) := by decide +kernel
theorem d_Lw_law_464 : decode b_Lw_law 464 = .ok (.iload 4, 2) := by decide +kernel
theorem d_Lw_law_466 : decode b_Lw_law 466 = .ok (.iconst 2, 1) := by decide +kernel
theorem d_Lw_law_467 : decode b_Lw_law 467 = .ok (.iadd, 1) := by decide +kernel
theorem d_Lw_law_468 : decode b_Lw_law 468 = .ok (.iaload, 1) := by decide +kernel
theorem d_Lw_law_469 : decode b_Lw_law 469 = .ok (.aload_n 3, 1) := by decide +kernel
theorem d_Lw_law_470 : decode b_Lw_law 470 = .ok (.invokestatic 86, 3) := by decide +kernel
theorem d_Lw_law_473 : decode b_Lw_law 473 = .ok (.istore 5, 2) := by decide +kernel
theorem d_Lw_law_475 : decode b_Lw_law 475 = .ok (.aload_n 2, 1) := by decide +kernel
theorem d_Lw_law_476 : decode b_Lw_law 476 = .ok (.aload_n 0, 1) := by decide +kernel
theorem d_Lw_law_477 : decode b_Lw_law 477 = .ok (.iload 4, 2) := by decide +kernel
theorem d_Lw_law_479 : decode b_Lw_law 479 = .ok (.iconst 1, 1) := by decide +kernel
theorem d_Lw_law_480 : decode b_Lw_law 480 = .ok (.iadd, 1) := by decide +kernel
theorem d_Lw_law_481 : decode b_Lw_law 481 = .ok (.iaload, 1) := by decide +kernel
theorem d_Lw_law_482 : decode b_Lw_law 482 = .ok (.aload_n 0, 1) := by decide +kernel
theorem d_Lw_law_483 : decode b_Lw_law 483 = .ok (.iload 4, 2) := by decide +kernel
theorem d_Lw_law_485 : decode b_Lw_law 485 = .ok (.iconst 2, 1) := by decide +kernel
theorem d_Lw_law_486 : decode b_Lw_law 486 = .ok (.iadd, 1) := by decide +kernel
theorem d_Lw_law_487 : decode b_Lw_law 487 = .ok (.iaload, 1) := by decide +kernel
theorem d_Lw_law_488 : decode b_Lw_law 488 = .ok (.invokevirtual 88, 3) := by decide +kernel
theorem d_Lw_law_491 : decode b_Lw_law 491 = .ok (.istore 6, 2) := by decide +kernel
theorem d_Lw_law_493 : decode b_Lw_law 493 = .ok (.aload_n 2, 1) := by decide +kernel
theorem d_Lw_law_494 : decode b_Lw_law 494 = .ok (.invokevirtual 68, 3) := by decide +kernel
theorem d_Lw_law_497 : decode b_Lw_law 497 = .ok (.iload 5, 2) := by decide +kernel
theorem d_Lw_law_499 : decode b_Lw_law 499 = .ok (.if_icmp .eq 5, 3) := by decide +kernel
theorem d_Lw_law_502 : decode b_Lw_law 502 = .ok (.iconst 0, 1) := by decide +kernel
theorem d_Lw_law_503 : decode b_Lw_law 503 = .ok (.ireturn, 1) := by decide +kernel
theorem d_Lw_law_504 : decode b_Lw_law 504 = .ok (.iload 5, 2) := by decide +kernel
theorem d_Lw_law_506 : decode b_Lw_law 506 = .ok (.ifCond .ne 15, 3) := by decide +kernel
theorem d_Lw_law_509 : decode b_Lw_law 509 = .ok (.aload_n 3, 1) := by decide +kernel
theorem d_Lw_law_510 : decode b_Lw_law 510 = .ok (.iconst 0, 1) := by decide +kernel
theorem d_Lw_law_511 : decode b_Lw_law 511 = .ok (.laload, 1) := by decide +kernel
theorem d_Lw_law_512 : decode b_Lw_law 512 = .ok (.iload 6, 2) := by decide +kernel
theorem d_Lw_law_514 : decode b_Lw_law 514 = .ok (.i2l, 1) := by decide +kernel
theorem d_Lw_law_515 : decode b_Lw_law 515 = .ok (.lcmp, 1) := by decide +kernel
theorem d_Lw_law_516 : decode b_Lw_law 516 = .ok (.ifCond .eq 5, 3) := by decide +kernel
theorem d_Lw_law_519 : decode b_Lw_law 519 = .ok (.iconst 0, 1) := by decide +kernel
theorem d_Lw_law_520 : decode b_Lw_law 520 = .ok (.ireturn, 1) := by decide +kernel
theorem d_Lw_law_521 : decode b_Lw_law 521 = .ok (.goto 456, 3) := by decide +kernel
theorem d_Lw_law_524 : decode b_Lw_law 524 = .ok (.aload_n 1, 1) := by decide +kernel
theorem d_Lw_law_525 : decode b_Lw_law 525 = .ok (.aload_n 0, 1) := by decide +kernel
theorem d_Lw_law_526 : decode b_Lw_law 526 = .ok (.iload 4, 2) := by decide +kernel
theorem d_Lw_law_528 : decode b_Lw_law 528 = .ok (.iconst 1, 1) := by decide +kernel
theorem d_Lw_law_529 : decode b_Lw_law 529 = .ok (.iadd, 1) := by decide +kernel
theorem d_Lw_law_530 : decode b_Lw_law 530 = .ok (.iaload, 1) := by decide +kernel
theorem d_Lw_law_531 : decode b_Lw_law 531 = .ok (.aload_n 0, 1) := by decide +kernel
theorem d_Lw_law_532 : decode b_Lw_law 532 = .ok (.iload 4, 2) := by decide +kernel
theorem d_Lw_law_534 : decode b_Lw_law 534 = .ok (.iconst 2, 1) := by decide +kernel
theorem d_Lw_law_535 : decode b_Lw_law 535 = .ok (.iadd, 1) := by decide +kernel
theorem d_Lw_law_536 : decode b_Lw_law 536 = .ok (.iaload, 1) := by decide +kernel
theorem d_Lw_law_537 : decode b_Lw_law 537 = .ok (.aload_n 3, 1) := by decide +kernel
theorem d_Lw_law_538 : decode b_Lw_law 538 = .ok (.invokestatic 89, 3) := by decide +kernel
theorem d_Lw_law_541 : decode b_Lw_law 541 = .ok (.istore 5, 2) := by decide +kernel
theorem d_Lw_law_543 : decode b_Lw_law 543 = .ok (.aload_n 2, 1) := by decide +kernel
theorem d_Lw_law_544 : decode b_Lw_law 544 = .ok (.aload_n 0, 1) := by decide +kernel
theorem d_Lw_law_545 : decode b_Lw_law 545 = .ok (.iload 4, 2) := by decide +kernel
theorem d_Lw_law_547 : decode b_Lw_law 547 = .ok (.iconst 1, 1) := by decide +kernel
theorem d_Lw_law_548 : decode b_Lw_law 548 = .ok (.iadd, 1) := by decide +kernel
theorem d_Lw_law_549 : decode b_Lw_law 549 = .ok (.iaload, 1) := by decide +kernel
theorem d_Lw_law_550 : decode b_Lw_law 550 = .ok (.aload_n 0, 1) := by decide +kernel
theorem d_Lw_law_551 : decode b_Lw_law 551 = .ok (.iload 4, 2) := by decide +kernel
theorem d_Lw_law_553 : decode b_Lw_law 553 = .ok (.iconst 2, 1) := by decide +kernel
theorem d_Lw_law_554 : decode b_Lw_law 554 = .ok (.iadd, 1) := by decide +kernel
theorem d_Lw_law_555 : decode b_Lw_law 555 = .ok (.iaload, 1) := by decide +kernel
theorem d_Lw_law_556 : decode b_Lw_law 556 = .ok (.invokevirtual 91, 3) := by decide +kernel
theorem d_Lw_law_559 : decode b_Lw_law 559 = .ok (.istore 6, 2) := by decide +kernel
theorem d_Lw_law_561 : decode b_Lw_law 561 = .ok (.aload_n 2, 1) := by decide +kernel
theorem d_Lw_law_562 : decode b_Lw_law 562 = .ok (.invokevirtual 68, 3) := by decide +kernel
theorem d_Lw_law_565 : decode b_Lw_law 565 = .ok (.iload 5, 2) := by decide +kernel
theorem d_Lw_law_567 : decode b_Lw_law 567 = .ok (.if_icmp .eq 5, 3) := by decide +kernel
theorem d_Lw_law_570 : decode b_Lw_law 570 = .ok (.iconst 0, 1) := by decide +kernel
theorem d_Lw_law_571 : decode b_Lw_law 571 = .ok (.ireturn, 1) := by decide +kernel
theorem d_Lw_law_572 : decode b_Lw_law 572 = .ok (.iload 5, 2) := by decide +kernel
theorem d_Lw_law_574 : decode b_Lw_law 574 = .ok (.ifCond .ne 15, 3) := by decide +kernel
theorem d_Lw_law_577 : decode b_Lw_law 577 = .ok (.aload_n 3, 1) := by decide +kernel
theorem d_Lw_law_578 : decode b_Lw_law 578 = .ok (.iconst 0, 1) := by decide +kernel
theorem d_Lw_law_579 : decode b_Lw_law 579 = .ok (.laload, 1) := by decide +kernel
theorem d_Lw_law_580 : decode b_Lw_law 580 = .ok (.iload 6, 2) := by decide +kernel
theorem d_Lw_law_582 : decode b_Lw_law 582 = .ok (.i2l, 1) := by decide +kernel
theorem d_Lw_law_583 : decode b_Lw_law 583 = .ok (.lcmp, 1) := by decide +kernel
theorem d_Lw_law_584 : decode b_Lw_law 584 = .ok (.ifCond .eq 5, 3) := by decide +kernel
theorem d_Lw_law_587 : decode b_Lw_law 587 = .ok (.iconst 0, 1) := by decide +kernel
theorem d_Lw_law_588 : decode b_Lw_law 588 = .ok (.ireturn, 1) := by decide +kernel
theorem d_Lw_law_589 : decode b_Lw_law 589 = .ok (.goto 388, 3) := by decide +kernel
theorem d_Lw_law_592 : decode b_Lw_law 592 = .ok (.aload_n 1, 1) := by decide +kernel
theorem d_Lw_law_593 : decode b_Lw_law 593 = .ok (.aload_n 0, 1) := by decide +kernel
theorem d_Lw_law_594 : decode b_Lw_law 594 = .ok (.iload 4, 2) := by decide +kernel
theorem d_Lw_law_596 : decode b_Lw_law 596 = .ok (.iconst 1, 1) := by decide +kernel
theorem d_Lw_law_597 : decode b_Lw_law 597 = .ok (.iadd, 1) := by decide +kernel
theorem d_Lw_law_598 : decode b_Lw_law 598 = .ok (.iaload, 1) := by decide +kernel
theorem d_Lw_law_599 : decode b_Lw_law 599 = .ok (.aload_n 0, 1) := by decide +kernel
theorem d_Lw_law_600 : decode b_Lw_law 600 = .ok (.iload 4, 2) := by decide +kernel
theorem d_Lw_law_602 : decode b_Lw_law 602 = .ok (.iconst 2, 1) := by decide +kernel
theorem d_Lw_law_603 : decode b_Lw_law 603 = .ok (.iadd, 1) := by decide +kernel
theorem d_Lw_law_604 : decode b_Lw_law 604 = .ok (.iaload, 1) := by decide +kernel
theorem d_Lw_law_605 : decode b_Lw_law 605 = .ok (.aload_n 0, 1) := by decide +kernel
theorem d_Lw_law_606 : decode b_Lw_law 606 = .ok (.iload 4, 2) := by decide +kernel
theorem d_Lw_law_608 : decode b_Lw_law 608 = .ok (.iconst 3, 1) := by decide +kernel
theorem d_Lw_law_609 : decode b_Lw_law 609 = .ok (.iadd, 1) := by decide +kernel
theorem d_Lw_law_610 : decode b_Lw_law 610 = .ok (.iaload, 1) := by decide +kernel
theorem d_Lw_law_611 : decode b_Lw_law 611 = .ok (.aload_n 3, 1) := by decide +kernel
theorem d_Lw_law_612 : decode b_Lw_law 612 = .ok (.invokestatic 92, 3) := by decide +kernel
theorem d_Lw_law_615 : decode b_Lw_law 615 = .ok (.istore 5, 2) := by decide +kernel
theorem d_Lw_law_617 : decode b_Lw_law 617 = .ok (.aload_n 2, 1) := by decide +kernel
theorem d_Lw_law_618 : decode b_Lw_law 618 = .ok (.aload_n 0, 1) := by decide +kernel
theorem d_Lw_law_619 : decode b_Lw_law 619 = .ok (.iload 4, 2) := by decide +kernel
theorem d_Lw_law_621 : decode b_Lw_law 621 = .ok (.iconst 1, 1) := by decide +kernel
theorem d_Lw_law_622 : decode b_Lw_law 622 = .ok (.iadd, 1) := by decide +kernel
theorem d_Lw_law_623 : decode b_Lw_law 623 = .ok (.iaload, 1) := by decide +kernel
theorem d_Lw_law_624 : decode b_Lw_law 624 = .ok (.aload_n 0, 1) := by decide +kernel
theorem d_Lw_law_625 : decode b_Lw_law 625 = .ok (.iload 4, 2) := by decide +kernel
theorem d_Lw_law_627 : decode b_Lw_law 627 = .ok (.iconst 2, 1) := by decide +kernel
theorem d_Lw_law_628 : decode b_Lw_law 628 = .ok (.iadd, 1) := by decide +kernel
theorem d_Lw_law_629 : decode b_Lw_law 629 = .ok (.iaload, 1) := by decide +kernel
theorem d_Lw_law_630 : decode b_Lw_law 630 = .ok (.aload_n 0, 1) := by decide +kernel
theorem d_Lw_law_631 : decode b_Lw_law 631 = .ok (.iload 4, 2) := by decide +kernel
theorem d_Lw_law_633 : decode b_Lw_law 633 = .ok (.iconst 3, 1) := by decide +kernel
theorem d_Lw_law_634 : decode b_Lw_law 634 = .ok (.iadd, 1) := by decide +kernel
theorem d_Lw_law_635 : decode b_Lw_law 635 = .ok (.iaload, 1) := by decide +kernel
theorem d_Lw_law_636 : decode b_Lw_law 636 = .ok (.invokevirtual 95, 3) := by decide +kernel
theorem d_Lw_law_639 : decode b_Lw_law 639 = .ok (.istore 6, 2) := by decide +kernel
theorem d_Lw_law_641 : decode b_Lw_law 641 = .ok (.aload_n 2, 1) := by decide +kernel
theorem d_Lw_law_642 : decode b_Lw_law 642 = .ok (.invokevirtual 68, 3) := by decide +kernel
theorem d_Lw_law_645 : decode b_Lw_law 645 = .ok (.iload 5, 2) := by decide +kernel
theorem d_Lw_law_647 : decode b_Lw_law 647 = .ok (.if_icmp .eq 5, 3) := by decide +kernel
theorem d_Lw_law_650 : decode b_Lw_law 650 = .ok (.iconst 0, 1) := by decide +kernel
theorem d_Lw_law_651 : decode b_Lw_law 651 = .ok (.ireturn, 1) := by decide +kernel
theorem d_Lw_law_652 : decode b_Lw_law 652 = .ok (.iload 5, 2) := by decide +kernel
theorem d_Lw_law_654 : decode b_Lw_law 654 = .ok (.ifCond .ne 22, 3) := by decide +kernel
theorem d_Lw_law_657 : decode b_Lw_law 657 = .ok (.aload_n 3, 1) := by decide +kernel
theorem d_Lw_law_658 : decode b_Lw_law 658 = .ok (.iconst 0, 1) := by decide +kernel
theorem d_Lw_law_659 : decode b_Lw_law 659 = .ok (.laload, 1) := by decide +kernel
theorem d_Lw_law_660 : decode b_Lw_law 660 = .ok (.iload 6, 2) := by decide +kernel
theorem d_Lw_law_662 : decode b_Lw_law 662 = .ok (.ifCond .eq 7, 3) := by decide +kernel
theorem d_Lw_law_665 : decode b_Lw_law 665 = .ok (.lconst 1, 1) := by decide +kernel
theorem d_Lw_law_666 : decode b_Lw_law 666 = .ok (.goto 4, 3) := by decide +kernel
theorem d_Lw_law_669 : decode b_Lw_law 669 = .ok (.lconst 0, 1) := by decide +kernel
theorem d_Lw_law_670 : decode b_Lw_law 670 = .ok (.lcmp, 1) := by decide +kernel
theorem d_Lw_law_671 : decode b_Lw_law 671 = .ok (.ifCond .eq 5, 3) := by decide +kernel
theorem d_Lw_law_674 : decode b_Lw_law 674 = .ok (.iconst 0, 1) := by decide +kernel
theorem d_Lw_law_675 : decode b_Lw_law 675 = .ok (.ireturn, 1) := by decide +kernel
theorem d_Lw_law_676 : decode b_Lw_law 676 = .ok (.goto 301, 3) := by decide +kernel
theorem d_Lw_law_679 : decode b_Lw_law 679 = .ok (.aload_n 1, 1) := by decide +kernel
theorem d_Lw_law_680 : decode b_Lw_law 680 = .ok (.aload_n 0, 1) := by decide +kernel
theorem d_Lw_law_681 : decode b_Lw_law 681 = .ok (.iload 4, 2) := by decide +kernel
theorem d_Lw_law_683 : decode b_Lw_law 683 = .ok (.iconst 1, 1) := by decide +kernel
theorem d_Lw_law_684 : decode b_Lw_law 684 = .ok (.iadd, 1) := by decide +kernel
theorem d_Lw_law_685 : decode b_Lw_law 685 = .ok (.iaload, 1) := by decide +kernel
theorem d_Lw_law_686 : decode b_Lw_law 686 = .ok (.aload_n 3, 1) := by decide +kernel
theorem d_Lw_law_687 : decode b_Lw_law 687 = .ok (.invokestatic 96, 3) := by decide +kernel
theorem d_Lw_law_690 : decode b_Lw_law 690 = .ok (.istore 5, 2) := by decide +kernel
theorem d_Lw_law_692 : decode b_Lw_law 692 = .ok (.aload_n 2, 1) := by decide +kernel
theorem d_Lw_law_693 : decode b_Lw_law 693 = .ok (.aload_n 0, 1) := by decide +kernel
theorem d_Lw_law_694 : decode b_Lw_law 694 = .ok (.iload 4, 2) := by decide +kernel
theorem d_Lw_law_696 : decode b_Lw_law 696 = .ok (.iconst 1, 1) := by decide +kernel
theorem d_Lw_law_697 : decode b_Lw_law 697 = .ok (.iadd, 1) := by decide +kernel
theorem d_Lw_law_698 : decode b_Lw_law 698 = .ok (.iaload, 1) := by decide +kernel
theorem d_Lw_law_699 : decode b_Lw_law 699 = .ok (.invokevirtual 98, 3) := by decide +kernel
theorem d_Lw_law_702 : decode b_Lw_law 702 = .ok (.istore 6, 2) := by decide +kernel
theorem d_Lw_law_704 : decode b_Lw_law 704 = .ok (.aload_n 2, 1) := by decide +kernel
theorem d_Lw_law_705 : decode b_Lw_law 705 = .ok (.invokevirtual 68, 3) := by decide +kernel
theorem d_Lw_law_708 : decode b_Lw_law 708 = .ok (.iload 5, 2) := by decide +kernel
theorem d_Lw_law_710 : decode b_Lw_law 710 = .ok (.if_icmp .eq 5, 3) := by decide +kernel
theorem d_Lw_law_713 : decode b_Lw_law 713 = .ok (.iconst 0, 1) := by decide +kernel
theorem d_Lw_law_714 : decode b_Lw_law 714 = .ok (.ireturn, 1) := by decide +kernel
theorem d_Lw_law_715 : decode b_Lw_law 715 = .ok (.iload 5, 2) := by decide +kernel
theorem d_Lw_law_717 : decode b_Lw_law 717 = .ok (.ifCond .ne 22, 3) := by decide +kernel
theorem d_Lw_law_720 : decode b_Lw_law 720 = .ok (.aload_n 3, 1) := by decide +kernel
theorem d_Lw_law_721 : decode b_Lw_law 721 = .ok (.iconst 0, 1) := by decide +kernel
theorem d_Lw_law_722 : decode b_Lw_law 722 = .ok (.laload, 1) := by decide +kernel
theorem d_Lw_law_723 : decode b_Lw_law 723 = .ok (.iload 6, 2) := by decide +kernel
theorem d_Lw_law_725 : decode b_Lw_law 725 = .ok (.ifCond .eq 7, 3) := by decide +kernel
theorem d_Lw_law_728 : decode b_Lw_law 728 = .ok (.lconst 1, 1) := by decide +kernel
theorem d_Lw_law_729 : decode b_Lw_law 729 = .ok (.goto 4, 3) := by decide +kernel
theorem d_Lw_law_732 : decode b_Lw_law 732 = .ok (.lconst 0, 1) := by decide +kernel
theorem d_Lw_law_733 : decode b_Lw_law 733 = .ok (.lcmp, 1) := by decide +kernel
theorem d_Lw_law_734 : decode b_Lw_law 734 = .ok (.ifCond .eq 5, 3) := by decide +kernel
theorem d_Lw_law_737 : decode b_Lw_law 737 = .ok (.iconst 0, 1) := by decide +kernel
theorem d_Lw_law_738 : decode b_Lw_law 738 = .ok (.ireturn, 1) := by decide +kernel
theorem d_Lw_law_739 : decode b_Lw_law 739 = .ok (.goto 238, 3) := by decide +kernel
theorem d_Lw_law_742 : decode b_Lw_law 742 = .ok (.aload_n 1, 1) := by decide +kernel
theorem d_Lw_law_743 : decode b_Lw_law 743 = .ok (.aload_n 0, 1) := by decide +kernel
theorem d_Lw_law_744 : decode b_Lw_law 744 = .ok (.iload 4, 2) := by decide +kernel
theorem d_Lw_law_746 : decode b_Lw_law 746 = .ok (.iconst 1, 1) := by decide +kernel
theorem d_Lw_law_747 : decode b_Lw_law 747 = .ok (.iadd, 1) := by decide +kernel
theorem d_Lw_law_748 : decode b_Lw_law 748 = .ok (.iaload, 1) := by decide +kernel
theorem d_Lw_law_749 : decode b_Lw_law 749 = .ok (.aload_n 3, 1) := by decide +kernel
theorem d_Lw_law_750 : decode b_Lw_law 750 = .ok (.invokestatic 99, 3) := by decide +kernel
theorem d_Lw_law_753 : decode b_Lw_law 753 = .ok (.istore 5, 2) := by decide +kernel
theorem d_Lw_law_755 : decode b_Lw_law 755 = .ok (.aload_n 2, 1) := by decide +kernel
theorem d_Lw_law_756 : decode b_Lw_law 756 = .ok (.aload_n 0, 1) := by decide +kernel
theorem d_Lw_law_757 : decode b_Lw_law 757 = .ok (.iload 4, 2) := by decide +kernel
theorem d_Lw_law_759 : decode b_Lw_law 759 = .ok (.iconst 1, 1) := by decide +kernel
theorem d_Lw_law_760 : decode b_Lw_law 760 = .ok (.iadd, 1) := by decide +kernel
theorem d_Lw_law_761 : decode b_Lw_law 761 = .ok (.iaload, 1) := by decide +kernel
theorem d_Lw_law_762 : decode b_Lw_law 762 = .ok (.invokevirtual 101, 3) := by decide +kernel
theorem d_Lw_law_765 : decode b_Lw_law 765 = .ok (.istore 6, 2) := by decide +kernel
theorem d_Lw_law_767 : decode b_Lw_law 767 = .ok (.aload_n 2, 1) := by decide +kernel
theorem d_Lw_law_768 : decode b_Lw_law 768 = .ok (.invokevirtual 68, 3) := by decide +kernel
theorem d_Lw_law_771 : decode b_Lw_law 771 = .ok (.iload 5, 2) := by decide +kernel
theorem d_Lw_law_773 : decode b_Lw_law 773 = .ok (.if_icmp .eq 5, 3) := by decide +kernel
theorem d_Lw_law_776 : decode b_Lw_law 776 = .ok (.iconst 0, 1) := by decide +kernel
theorem d_Lw_law_777 : decode b_Lw_law 777 = .ok (.ireturn, 1) := by decide +kernel
theorem d_Lw_law_778 : decode b_Lw_law 778 = .ok (.iload 5, 2) := by decide +kernel
theorem d_Lw_law_780 : decode b_Lw_law 780 = .ok (.ifCond .ne 15, 3) := by decide +kernel
theorem d_Lw_law_783 : decode b_Lw_law 783 = .ok (.aload_n 3, 1) := by decide +kernel
theorem d_Lw_law_784 : decode b_Lw_law 784 = .ok (.iconst 0, 1) := by decide +kernel
theorem d_Lw_law_785 : decode b_Lw_law 785 = .ok (.laload, 1) := by decide +kernel
theorem d_Lw_law_786 : decode b_Lw_law 786 = .ok (.iload 6, 2) := by decide +kernel
theorem d_Lw_law_788 : decode b_Lw_law 788 = .ok (.i2l, 1) := by decide +kernel
theorem d_Lw_law_789 : decode b_Lw_law 789 = .ok (.lcmp, 1) := by decide +kernel
theorem d_Lw_law_790 : decode b_Lw_law 790 = .ok (.ifCond .eq 5, 3) := by decide +kernel
theorem d_Lw_law_793 : decode b_Lw_law 793 = .ok (.iconst 0, 1) := by decide +kernel
theorem d_Lw_law_794 : decode b_Lw_law 794 = .ok (.ireturn, 1) := by decide +kernel
theorem d_Lw_law_795 : decode b_Lw_law 795 = .ok (.goto 182, 3) := by decide +kernel
theorem d_Lw_law_798 : decode b_Lw_law 798 = .ok (.aload_n 1, 1) := by decide +kernel
theorem d_Lw_law_799 : decode b_Lw_law 799 = .ok (.aload_n 0, 1) := by decide +kernel
theorem d_Lw_law_800 : decode b_Lw_law 800 = .ok (.iload 4, 2) := by decide +kernel
theorem d_Lw_law_802 : decode b_Lw_law 802 = .ok (.iconst 1, 1) := by decide +kernel
theorem d_Lw_law_803 : decode b_Lw_law 803 = .ok (.iadd, 1) := by decide +kernel
theorem d_Lw_law_804 : decode b_Lw_law 804 = .ok (.iaload, 1) := by decide +kernel
theorem d_Lw_law_805 : decode b_Lw_law 805 = .ok (.aload_n 0, 1) := by decide +kernel
theorem d_Lw_law_806 : decode b_Lw_law 806 = .ok (.iload 4, 2) := by decide +kernel
theorem d_Lw_law_808 : decode b_Lw_law 808 = .ok (.iconst 2, 1) := by decide +kernel
theorem d_Lw_law_809 : decode b_Lw_law 809 = .ok (.iadd, 1) := by decide +kernel
theorem d_Lw_law_810 : decode b_Lw_law 810 = .ok (.iaload, 1) := by decide +kernel
theorem d_Lw_law_811 : decode b_Lw_law 811 = .ok (.aload_n 0, 1) := by decide +kernel
theorem d_Lw_law_812 : decode b_Lw_law 812 = .ok (.iload 4, 2) := by decide +kernel
theorem d_Lw_law_814 : decode b_Lw_law 814 = .ok (.iconst 3, 1) := by decide +kernel
theorem d_Lw_law_815 : decode b_Lw_law 815 = .ok (.iadd, 1) := by decide +kernel
theorem d_Lw_law_816 : decode b_Lw_law 816 = .ok (.iaload, 1) := by decide +kernel
theorem d_Lw_law_817 : decode b_Lw_law 817 = .ok (.aload_n 0, 1) := by decide +kernel
theorem d_Lw_law_818 : decode b_Lw_law 818 = .ok (.iload 4, 2) := by decide +kernel
theorem d_Lw_law_820 : decode b_Lw_law 820 = .ok (.iconst 4, 1) := by decide +kernel
theorem d_Lw_law_821 : decode b_Lw_law 821 = .ok (.iadd, 1) := by decide +kernel
theorem d_Lw_law_822 : decode b_Lw_law 822 = .ok (.iaload, 1) := by decide +kernel
theorem d_Lw_law_823 : decode b_Lw_law 823 = .ok (.aload_n 3, 1) := by decide +kernel
theorem d_Lw_law_824 : decode b_Lw_law 824 = .ok (.invokestatic 102, 3) := by decide +kernel
theorem d_Lw_law_827 : decode b_Lw_law 827 = .ok (.istore 5, 2) := by decide +kernel
theorem d_Lw_law_829 : decode b_Lw_law 829 = .ok (.aload_n 2, 1) := by decide +kernel
theorem d_Lw_law_830 : decode b_Lw_law 830 = .ok (.aload_n 0, 1) := by decide +kernel
theorem d_Lw_law_831 : decode b_Lw_law 831 = .ok (.iload 4, 2) := by decide +kernel
theorem d_Lw_law_833 : decode b_Lw_law 833 = .ok (.iconst 1, 1) := by decide +kernel
theorem d_Lw_law_834 : decode b_Lw_law 834 = .ok (.iadd, 1) := by decide +kernel
theorem d_Lw_law_835 : decode b_Lw_law 835 = .ok (.iaload, 1) := by decide +kernel
theorem d_Lw_law_836 : decode b_Lw_law 836 = .ok (.aload_n 0, 1) := by decide +kernel
theorem d_Lw_law_837 : decode b_Lw_law 837 = .ok (.iload 4, 2) := by decide +kernel
theorem d_Lw_law_839 : decode b_Lw_law 839 = .ok (.iconst 2, 1) := by decide +kernel
theorem d_Lw_law_840 : decode b_Lw_law 840 = .ok (.iadd, 1) := by decide +kernel
theorem d_Lw_law_841 : decode b_Lw_law 841 = .ok (.iaload, 1) := by decide +kernel
theorem d_Lw_law_842 : decode b_Lw_law 842 = .ok (.aload_n 0, 1) := by decide +kernel
theorem d_Lw_law_843 : decode b_Lw_law 843 = .ok (.iload 4, 2) := by decide +kernel
theorem d_Lw_law_845 : decode b_Lw_law 845 = .ok (.iconst 3, 1) := by decide +kernel
theorem d_Lw_law_846 : decode b_Lw_law 846 = .ok (.iadd, 1) := by decide +kernel
theorem d_Lw_law_847 : decode b_Lw_law 847 = .ok (.iaload, 1) := by decide +kernel
theorem d_Lw_law_848 : decode b_Lw_law 848 = .ok (.aload_n 0, 1) := by decide +kernel
theorem d_Lw_law_849 : decode b_Lw_law 849 = .ok (.iload 4, 2) := by decide +kernel
theorem d_Lw_law_851 : decode b_Lw_law 851 = .ok (.iconst 4, 1) := by decide +kernel
theorem d_Lw_law_852 : decode b_Lw_law 852 = .ok (.iadd, 1) := by decide +kernel
theorem d_Lw_law_853 : decode b_Lw_law 853 = .ok (.iaload, 1) := by decide +kernel
theorem d_Lw_law_854 : decode b_Lw_law 854 = .ok (.invokevirtual 104, 3) := by decide +kernel
theorem d_Lw_law_857 : decode b_Lw_law 857 = .ok (.lstore 6, 2) := by decide +kernel
theorem d_Lw_law_859 : decode b_Lw_law 859 = .ok (.aload_n 2, 1) := by decide +kernel
theorem d_Lw_law_860 : decode b_Lw_law 860 = .ok (.invokevirtual 68, 3) := by decide +kernel
theorem d_Lw_law_863 : decode b_Lw_law 863 = .ok (.iload 5, 2) := by decide +kernel
theorem d_Lw_law_865 : decode b_Lw_law 865 = .ok (.if_icmp .eq 5, 3) := by decide +kernel
theorem d_Lw_law_868 : decode b_Lw_law 868 = .ok (.iconst 0, 1) := by decide +kernel
theorem d_Lw_law_869 : decode b_Lw_law 869 = .ok (.ireturn, 1) := by decide +kernel
theorem d_Lw_law_870 : decode b_Lw_law 870 = .ok (.iload 5, 2) := by decide +kernel
theorem d_Lw_law_872 : decode b_Lw_law 872 = .ok (.ifCond .ne 14, 3) := by decide +kernel
theorem d_Lw_law_875 : decode b_Lw_law 875 = .ok (.aload_n 3, 1) := by decide +kernel
theorem d_Lw_law_876 : decode b_Lw_law 876 = .ok (.iconst 0, 1) := by decide +kernel
theorem d_Lw_law_877 : decode b_Lw_law 877 = .ok (.laload, 1) := by decide +kernel
theorem d_Lw_law_878 : decode b_Lw_law 878 = .ok (.lload 6, 2) := by decide +kernel
theorem d_Lw_law_880 : decode b_Lw_law 880 = .ok (.lcmp, 1) := by decide +kernel
theorem d_Lw_law_881 : decode b_Lw_law 881 = .ok (.ifCond .eq 5, 3) := by decide +kernel
theorem d_Lw_law_884 : decode b_Lw_law 884 = .ok (.iconst 0, 1) := by decide +kernel
theorem d_Lw_law_885 : decode b_Lw_law 885 = .ok (.ireturn, 1) := by decide +kernel
theorem d_Lw_law_886 : decode b_Lw_law 886 = .ok (.goto 91, 3) := by decide +kernel
theorem d_Lw_law_889 : decode b_Lw_law 889 = .ok (.aload_n 1, 1) := by decide +kernel
theorem d_Lw_law_890 : decode b_Lw_law 890 = .ok (.aload_n 0, 1) := by decide +kernel
theorem d_Lw_law_891 : decode b_Lw_law 891 = .ok (.iload 4, 2) := by decide +kernel
theorem d_Lw_law_893 : decode b_Lw_law 893 = .ok (.iconst 1, 1) := by decide +kernel
theorem d_Lw_law_894 : decode b_Lw_law 894 = .ok (.iadd, 1) := by decide +kernel
theorem d_Lw_law_895 : decode b_Lw_law 895 = .ok (.iaload, 1) := by decide +kernel
theorem d_Lw_law_896 : decode b_Lw_law 896 = .ok (.aload_n 0, 1) := by decide +kernel
theorem d_Lw_law_897 : decode b_Lw_law 897 = .ok (.iload 4, 2) := by decide +kernel
theorem d_Lw_law_899 : decode b_Lw_law 899 = .ok (.iconst 2, 1) := by decide +kernel
theorem d_Lw_law_900 : decode b_Lw_law 900 = .ok (.iadd, 1) := by decide +kernel
theorem d_Lw_law_901 : decode b_Lw_law 901 = .ok (.iaload, 1) := by decide +kernel
theorem d_Lw_law_902 : decode b_Lw_law 902 = .ok (.aload_n 3, 1) := by decide +kernel
theorem d_Lw_law_903 : decode b_Lw_law 903 = .ok (.invokestatic 105, 3) := by decide +kernel
theorem d_Lw_law_906 : decode b_Lw_law 906 = .ok (.istore 5, 2) := by decide +kernel
theorem d_Lw_law_908 : decode b_Lw_law 908 = .ok (.aload_n 2, 1) := by decide +kernel
theorem d_Lw_law_909 : decode b_Lw_law 909 = .ok (.aload_n 0, 1) := by decide +kernel
theorem d_Lw_law_910 : decode b_Lw_law 910 = .ok (.iload 4, 2) := by decide +kernel
theorem d_Lw_law_912 : decode b_Lw_law 912 = .ok (.iconst 1, 1) := by decide +kernel
theorem d_Lw_law_913 : decode b_Lw_law 913 = .ok (.iadd, 1) := by decide +kernel
theorem d_Lw_law_914 : decode b_Lw_law 914 = .ok (.iaload, 1) := by decide +kernel
theorem d_Lw_law_915 : decode b_Lw_law 915 = .ok (.aload_n 0, 1) := by decide +kernel
theorem d_Lw_law_916 : decode b_Lw_law 916 = .ok (.iload 4, 2) := by decide +kernel
theorem d_Lw_law_918 : decode b_Lw_law 918 = .ok (.iconst 2, 1) := by decide +kernel
theorem d_Lw_law_919 : decode b_Lw_law 919 = .ok (.iadd, 1) := by decide +kernel
theorem d_Lw_law_920 : decode b_Lw_law 920 = .ok (.iaload, 1) := by decide +kernel
theorem d_Lw_law_921 : decode b_Lw_law 921 = .ok (.invokevirtual 107, 3) := by decide +kernel
theorem d_Lw_law_924 : decode b_Lw_law 924 = .ok (.istore 6, 2) := by decide +kernel
theorem d_Lw_law_926 : decode b_Lw_law 926 = .ok (.aload_n 2, 1) := by decide +kernel
theorem d_Lw_law_927 : decode b_Lw_law 927 = .ok (.invokevirtual 68, 3) := by decide +kernel
theorem d_Lw_law_930 : decode b_Lw_law 930 = .ok (.iload 5, 2) := by decide +kernel
theorem d_Lw_law_932 : decode b_Lw_law 932 = .ok (.if_icmp .eq 5, 3) := by decide +kernel
theorem d_Lw_law_935 : decode b_Lw_law 935 = .ok (.iconst 0, 1) := by decide +kernel
theorem d_Lw_law_936 : decode b_Lw_law 936 = .ok (.ireturn, 1) := by decide +kernel
theorem d_Lw_law_937 : decode b_Lw_law 937 = .ok (.iload 5, 2) := by decide +kernel
theorem d_Lw_law_939 : decode b_Lw_law 939 = .ok (.ifCond .ne 22, 3) := by decide +kernel
theorem d_Lw_law_942 : decode b_Lw_law 942 = .ok (.aload_n 3, 1) := by decide +kernel
theorem d_Lw_law_943 : decode b_Lw_law 943 = .ok (.iconst 0, 1) := by decide +kernel
theorem d_Lw_law_944 : decode b_Lw_law 944 = .ok (.laload, 1) := by decide +kernel
theorem d_Lw_law_945 : decode b_Lw_law 945 = .ok (.iload 6, 2) := by decide +kernel
theorem d_Lw_law_947 : decode b_Lw_law 947 = .ok (.ifCond .eq 7, 3) := by decide +kernel
theorem d_Lw_law_950 : decode b_Lw_law 950 = .ok (.lconst 1, 1) := by decide +kernel
theorem d_Lw_law_951 : decode b_Lw_law 951 = .ok (.goto 4, 3) := by decide +kernel
theorem d_Lw_law_954 : decode b_Lw_law 954 = .ok (.lconst 0, 1) := by decide +kernel
theorem d_Lw_law_955 : decode b_Lw_law 955 = .ok (.lcmp, 1) := by decide +kernel
theorem d_Lw_law_956 : decode b_Lw_law 956 = .ok (.ifCond .eq 5, 3) := by decide +kernel
theorem d_Lw_law_959 : decode b_Lw_law 959 = .ok (.iconst 0, 1) := by decide +kernel
theorem d_Lw_law_960 : decode b_Lw_law 960 = .ok (.ireturn, 1) := by decide +kernel
theorem d_Lw_law_961 : decode b_Lw_law 961 = .ok (.goto 16, 3) := by decide +kernel
theorem d_Lw_law_964 : decode b_Lw_law 964 = .ok (.aload_n 1, 1) := by decide +kernel
theorem d_Lw_law_965 : decode b_Lw_law 965 = .ok (.invokevirtual 108, 3) := by decide +kernel
theorem d_Lw_law_968 : decode b_Lw_law 968 = .ok (.aload_n 2, 1) := by decide +kernel
theorem d_Lw_law_969 : decode b_Lw_law 969 = .ok (.invokevirtual 111, 3) := by decide +kernel
theorem d_Lw_law_972 : decode b_Lw_law 972 = .ok (.if_icmp .eq 5, 3) := by decide +kernel
theorem d_Lw_law_975 : decode b_Lw_law 975 = .ok (.iconst 0, 1) := by decide +kernel
theorem d_Lw_law_976 : decode b_Lw_law 976 = .ok (.ireturn, 1) := by decide +kernel
theorem d_Lw_law_977 : decode b_Lw_law 977 = .ok (.iinc 4 5, 3) := by decide +kernel
theorem d_Lw_law_980 : decode b_Lw_law 980 = .ok (.goto (-957), 3) := by decide +kernel
theorem d_Lw_law_983 : decode b_Lw_law 983 = .ok (.iconst 1, 1) := by decide +kernel
theorem d_Lw_law_984 : decode b_Lw_law 984 = .ok (.ireturn, 1) := by decide +kernel
