theorem d_Qo_init_0 : decode b_Qo_init 0 = .ok (.aload_n 0, 1) := by decide +kernel
theorem d_Qo_init_1 : decode b_Qo_init 1 = .ok (.invokespecial 3, 3) := by decide +kernel
theorem d_Qo_init_4 : decode b_Qo_init 4 = .ok (.aload_n 0, 1) := by decide +kernel
theorem d_Qo_init_5 : decode b_Qo_init 5 = .ok (.bipush 60, 2) := by decide +kernel
theorem d_Qo_init_7 : decode b_Qo_init 7 = .ok (.anewarray 9, 3) := by decide +kernel
theorem d_Qo_init_10 : decode b_Qo_init 10 = .ok (.putfield 11, 3) := by decide +kernel
theorem d_Qo_init_13 : decode b_Qo_init 13 = .ok (.aload_n 0, 1) := by decide +kernel
theorem d_Qo_init_14 : decode b_Qo_init 14 = .ok (.new 15, 3) := by decide +kernel
theorem d_Qo_init_17 : decode b_Qo_init 17 = .ok (.dup, 1) := by decide +kernel
theorem d_Qo_init_18 : decode b_Qo_init 18 = .ok (.invokespecial 17, 3) := by decide +kernel
theorem d_Qo_init_21 : decode b_Qo_init 21 = .ok (.putfield 18, 3) := by decide +kernel
theorem d_Qo_init_24 : decode b_Qo_init 24 = .ok (.aload_n 0, 1) := by decide +kernel
theorem d_Qo_init_25 : decode b_Qo_init 25 = .ok (.new 22, 3) := by decide +kernel
theorem d_Qo_init_28 : decode b_Qo_init 28 = .ok (.dup, 1) := by decide +kernel
theorem d_Qo_init_29 : decode b_Qo_init 29 = .ok (.invokespecial 24, 3) := by decide +kernel
theorem d_Qo_init_32 : decode b_Qo_init 32 = .ok (.putfield 25, 3) := by decide +kernel
theorem d_Qo_init_35 : decode b_Qo_init 35 = .ok (.aload_n 0, 1) := by decide +kernel
theorem d_Qo_init_36 : decode b_Qo_init 36 = .ok (.iconst 0, 1) := by decide +kernel
theorem d_Qo_init_37 : decode b_Qo_init 37 = .ok (.putfield 29, 3) := by decide +kernel
theorem d_Qo_init_40 : decode b_Qo_init 40 = .ok (.return_, 1) := by decide +kernel
theorem d_Pc_init_0 : decode b_Pc_init 0 = .ok (.aload_n 0, 1) := by decide +kernel
theorem d_Pc_init_1 : decode b_Pc_init 1 = .ok (.invokespecial 5, 3) := by decide +kernel
theorem d_Pc_init_4 : decode b_Pc_init 4 = .ok (.aload_n 0, 1) := by decide +kernel
theorem d_Pc_init_5 : decode b_Pc_init 5 = .ok (.new 1, 3) := by decide +kernel
theorem d_Pc_init_8 : decode b_Pc_init 8 = .ok (.dup, 1) := by decide +kernel
theorem d_Pc_init_9 : decode b_Pc_init 9 = .ok (.invokespecial 11, 3) := by decide +kernel
theorem d_Pc_init_12 : decode b_Pc_init 12 = .ok (.putfield 12, 3) := by decide +kernel
theorem d_Pc_init_15 : decode b_Pc_init 15 = .ok (.aload_n 0, 1) := by decide +kernel
theorem d_Pc_init_16 : decode b_Pc_init 16 = .ok (.bipush 22, 2) := by decide +kernel
theorem d_Pc_init_18 : decode b_Pc_init 18 = .ok (.newarray .int, 2) := by decide +kernel
theorem d_Pc_init_20 : decode b_Pc_init 20 = .ok (.putfield 18, 3) := by decide +kernel
theorem d_Pc_init_23 : decode b_Pc_init 23 = .ok (.aload_n 0, 1) := by decide +kernel
theorem d_Pc_init_24 : decode b_Pc_init 24 = .ok (.bipush 22, 2) := by decide +kernel
theorem d_Pc_init_26 : decode b_Pc_init 26 = .ok (.newarray .int, 2) := by decide +kernel
theorem d_Pc_init_28 : decode b_Pc_init 28 = .ok (.putfield 22, 3) := by decide +kernel
theorem d_Pc_init_31 : decode b_Pc_init 31 = .ok (.aload_n 0, 1) := by decide +kernel
theorem d_Pc_init_32 : decode b_Pc_init 32 = .ok (.iconst 0, 1) := by decide +kernel
theorem d_Pc_init_33 : decode b_Pc_init 33 = .ok (.putfield 25, 3) := by decide +kernel
theorem d_Pc_init_36 : decode b_Pc_init 36 = .ok (.aload_n 0, 1) := by decide +kernel
theorem d_Pc_init_37 : decode b_Pc_init 37 = .ok (.aconst_null, 1) := by decide +kernel
theorem d_Pc_init_38 : decode b_Pc_init 38 = .ok (.putfield 29, 3) := by decide +kernel
theorem d_Pc_init_41 : decode b_Pc_init 41 = .ok (.return_, 1) := by decide +kernel
theorem d_Qo_count_0 : decode b_Qo_count 0 = .ok (.aload_n 0, 1) := by decide +kernel
theorem d_Qo_count_1 : decode b_Qo_count 1 = .ok (.getfield 29, 3) := by decide +kernel
theorem d_Qo_count_4 : decode b_Qo_count 4 = .ok (.ireturn, 1) := by decide +kernel
theorem d_Qo_atom_0 : decode b_Qo_atom 0 = .ok (.aload_n 0, 1) := by decide +kernel
theorem d_Qo_atom_1 : decode b_Qo_atom 1 = .ok (.invokevirtual 33, 3) := by decide +kernel
theorem d_Qo_atom_4 : decode b_Qo_atom 4 = .ok (.iload_n 1, 1) := by decide +kernel
theorem d_Qo_atom_5 : decode b_Qo_atom 5 = .ok (.invokestatic 36, 3) := by decide +kernel
theorem d_Qo_atom_8 : decode b_Qo_atom 8 = .ok (.ifCond .eq 17, 3) := by decide +kernel
theorem d_Qo_atom_11 : decode b_Qo_atom 11 = .ok (.iload_n 2, 1) := by decide +kernel
theorem d_Qo_atom_12 : decode b_Qo_atom 12 = .ok (.invokestatic 36, 3) := by decide +kernel
theorem d_Qo_atom_15 : decode b_Qo_atom 15 = .ok (.ifCond .eq 10, 3) := by decide +kernel
theorem d_Qo_atom_18 : decode b_Qo_atom 18 = .ok (.iload_n 3, 1) := by decide +kernel
theorem d_Qo_atom_19 : decode b_Qo_atom 19 = .ok (.invokestatic 36, 3) := by decide +kernel
theorem d_Qo_atom_22 : decode b_Qo_atom 22 = .ok (.ifCond .ne 13, 3) := by decide +kernel
theorem d_Qo_atom_25 : decode b_Qo_atom 25 = .ok (.new 40, 3) := by decide +kernel
theorem d_Qo_atom_28 : decode b_Qo_atom 28 = .ok (.dup, 1) := by decide +kernel
theorem d_Qo_atom_29 : decode b_Qo_atom 29 = .ok (.ldc 42, 2) := by decide +kernel
theorem d_Qo_atom_31 : decode b_Qo_atom 31 = .ok (.invokespecial 44, 3) := by decide +kernel
theorem d_Qo_atom_34 : decode b_Qo_atom 34 = .ok (.athrow, 1) := by decide +kernel
theorem d_Qo_atom_35 : decode b_Qo_atom 35 = .ok (.iload 4, 2) := by decide +kernel
theorem d_Qo_atom_37 : decode b_Qo_atom 37 = .ok (.ifCond .eq 25, 3) := by decide +kernel
theorem d_Qo_atom_40 : decode b_Qo_atom 40 = .ok (.iload 4, 2) := by decide +kernel
theorem d_Qo_atom_42 : decode b_Qo_atom 42 = .ok (.iconst 1, 1) := by decide +kernel
theorem d_Qo_atom_43 : decode b_Qo_atom 43 = .ok (.if_icmp .eq 19, 3) := by decide +kernel
theorem d_Qo_atom_46 : decode b_Qo_atom 46 = .ok (.iload 4, 2) := by decide +kernel
theorem d_Qo_atom_48 : decode b_Qo_atom 48 = .ok (.iconst 2, 1) := by decide +kernel
theorem d_Qo_atom_49 : decode b_Qo_atom 49 = .ok (.if_icmp .eq 13, 3) := by decide +kernel
theorem d_Qo_atom_52 : decode b_Qo_atom 52 = .ok (.new 40, 3) := by decide +kernel
theorem d_Qo_atom_55 : decode b_Qo_atom 55 = .ok (.dup, 1) := by decide +kernel
theorem d_Qo_atom_56 : decode b_Qo_atom 56 = .ok (.ldc 47, 2) := by decide +kernel
theorem d_Qo_atom_58 : decode b_Qo_atom 58 = .ok (.invokespecial 44, 3) := by decide +kernel
theorem d_Qo_atom_61 : decode b_Qo_atom 61 = .ok (.athrow, 1) := by decide +kernel
theorem d_Qo_atom_62 : decode b_Qo_atom 62 = .ok (.aload_n 0, 1) := by decide +kernel
theorem d_Qo_atom_63 : decode b_Qo_atom 63 = .ok (.new 49, 3) := by decide +kernel
theorem d_Qo_atom_66 : decode b_Qo_atom 66 = .ok (.dup, 1) := by decide +kernel
theorem d_Qo_atom_67 : decode b_Qo_atom 67 = .ok (.iload_n 1, 1) := by decide +kernel
theorem d_Qo_atom_68 : decode b_Qo_atom 68 = .ok (.iload_n 2, 1) := by decide +kernel
theorem d_Qo_atom_69 : decode b_Qo_atom 69 = .ok (.iload_n 3, 1) := by decide +kernel
theorem d_Qo_atom_70 : decode b_Qo_atom 70 = .ok (.iload 4, 2) := by decide +kernel
theorem d_Qo_atom_72 : decode b_Qo_atom 72 = .ok (.invokespecial 51, 3) := by decide +kernel
theorem d_Qo_atom_75 : decode b_Qo_atom 75 = .ok (.invokevirtual 54, 3) := by decide +kernel
theorem d_Qo_atom_78 : decode b_Qo_atom 78 = .ok (.ireturn, 1) := by decide +kernel
theorem d_Qo_checkRoom_0 : decode b_Qo_checkRoom 0 = .ok (.aload_n 0, 1) := by decide +kernel
theorem d_Qo_checkRoom_1 : decode b_Qo_checkRoom 1 = .ok (.getfield 29, 3) := by decide +kernel
theorem d_Qo_checkRoom_4 : decode b_Qo_checkRoom 4 = .ok (.aload_n 0, 1) := by decide +kernel
theorem d_Qo_checkRoom_5 : decode b_Qo_checkRoom 5 = .ok (.getfield 11, 3) := by decide +kernel
theorem d_Qo_checkRoom_8 : decode b_Qo_checkRoom 8 = .ok (.arraylength, 1) := by decide +kernel
theorem d_Qo_checkRoom_9 : decode b_Qo_checkRoom 9 = .ok (.if_icmp .lt 13, 3) := by decide +kernel
theorem d_Qo_checkRoom_12 : decode b_Qo_checkRoom 12 = .ok (.new 101, 3) := by decide +kernel
theorem d_Qo_checkRoom_15 : decode b_Qo_checkRoom 15 = .ok (.dup, 1) := by decide +kernel
theorem d_Qo_checkRoom_16 : decode b_Qo_checkRoom 16 = .ok (.ldc 131, 2) := by decide +kernel
theorem d_Qo_checkRoom_18 : decode b_Qo_checkRoom 18 = .ok (.invokespecial 105, 3) := by decide +kernel
theorem d_Qo_checkRoom_21 : decode b_Qo_checkRoom 21 = .ok (.athrow, 1) := by decide +kernel
theorem d_Qo_checkRoom_22 : decode b_Qo_checkRoom 22 = .ok (.return_, 1) := by decide +kernel
theorem d_Qo_isFactor_0 : decode b_Qo_isFactor 0 = .ok (.iload_n 0, 1) := by decide +kernel
theorem d_Qo_isFactor_1 : decode b_Qo_isFactor 1 = .ok (.bipush (-5), 2) := by decide +kernel
theorem d_Qo_isFactor_3 : decode b_Qo_isFactor 3 = .ok (.if_icmp .lt 12, 3) := by decide +kernel
theorem d_Qo_isFactor_6 : decode b_Qo_isFactor 6 = .ok (.iload_n 0, 1) := by decide +kernel
theorem d_Qo_isFactor_7 : decode b_Qo_isFactor 7 = .ok (.iconst 5, 1) := by decide +kernel
theorem d_Qo_isFactor_8 : decode b_Qo_isFactor 8 = .ok (.if_icmp .gt 7, 3) := by decide +kernel
theorem d_Qo_isFactor_11 : decode b_Qo_isFactor 11 = .ok (.iconst 1, 1) := by decide +kernel
theorem d_Qo_isFactor_12 : decode b_Qo_isFactor 12 = .ok (.goto 4, 3) := by decide +kernel
theorem d_Qo_isFactor_15 : decode b_Qo_isFactor 15 = .ok (.iconst 0, 1) := by decide +kernel
theorem d_Qo_isFactor_16 : decode b_Qo_isFactor 16 = .ok (.ireturn, 1) := by decide +kernel
theorem d_Qo_add_0 : decode b_Qo_add 0 = .ok (.aload_n 0, 1) := by decide +kernel
theorem d_Qo_add_1 : decode b_Qo_add 1 = .ok (.getfield 29, 3) := by decide +kernel
theorem d_Qo_add_4 : decode b_Qo_add 4 = .ok (.istore_n 2, 1) := by decide +kernel
theorem d_Qo_add_5 : decode b_Qo_add 5 = .ok (.iload_n 2, 1) := by decide +kernel
theorem d_Qo_add_6 : decode b_Qo_add 6 = .ok (.aload_n 0, 1) := by decide +kernel
theorem d_Qo_add_7 : decode b_Qo_add 7 = .ok (.getfield 11, 3) := by decide +kernel
theorem d_Qo_add_10 : decode b_Qo_add 10 = .ok (.arraylength, 1) := by decide +kernel
theorem d_Qo_add_11 : decode b_Qo_add 11 = .ok (.if_icmp .ge 17, 3) := by decide +kernel
theorem d_Qo_add_14 : decode b_Qo_add 14 = .ok (.aload_n 0, 1) := by decide +kernel
theorem d_Qo_add_15 : decode b_Qo_add 15 = .ok (.getfield 11, 3) := by decide +kernel
theorem d_Qo_add_18 : decode b_Qo_add 18 = .ok (.iload_n 2, 1) := by decide +kernel
theorem d_Qo_add_19 : decode b_Qo_add 19 = .ok (.aload_n 1, 1) := by decide +kernel
theorem d_Qo_add_20 : decode b_Qo_add 20 = .ok (.aastore, 1) := by decide +kernel
theorem d_Qo_add_21 : decode b_Qo_add 21 = .ok (.aload_n 0, 1) := by decide +kernel
theorem d_Qo_add_22 : decode b_Qo_add 22 = .ok (.iload_n 2, 1) := by decide +kernel
theorem d_Qo_add_23 : decode b_Qo_add 23 = .ok (.iconst 1, 1) := by decide +kernel
theorem d_Qo_add_24 : decode b_Qo_add 24 = .ok (.iadd, 1) := by decide +kernel
theorem d_Qo_add_25 : decode b_Qo_add 25 = .ok (.putfield 29, 3) := by decide +kernel
theorem d_Qo_add_28 : decode b_Qo_add 28 = .ok (.iload_n 2, 1) := by decide +kernel
theorem d_Qo_add_29 : decode b_Qo_add 29 = .ok (.ireturn, 1) := by decide +kernel
theorem d_Qo_both_0 : decode b_Qo_both 0 = .ok (.aload_n 0, 1) := by decide +kernel
theorem d_Qo_both_1 : decode b_Qo_both 1 = .ok (.iload_n 1, 1) := by decide +kernel
theorem d_Qo_both_2 : decode b_Qo_both 2 = .ok (.iload_n 2, 1) := by decide +kernel
theorem d_Qo_both_3 : decode b_Qo_both 3 = .ok (.iconst 1, 1) := by decide +kernel
theorem d_Qo_both_4 : decode b_Qo_both 4 = .ok (.invokevirtual 58, 3) := by decide +kernel
theorem d_Qo_both_7 : decode b_Qo_both 7 = .ok (.ireturn, 1) := by decide +kernel
theorem d_Qo_addPair_0 : decode b_Qo_addPair 0 = .ok (.aload_n 0, 1) := by decide +kernel
theorem d_Qo_addPair_1 : decode b_Qo_addPair 1 = .ok (.iload_n 1, 1) := by decide +kernel
theorem d_Qo_addPair_2 : decode b_Qo_addPair 2 = .ok (.invokevirtual 62, 3) := by decide +kernel
theorem d_Qo_addPair_5 : decode b_Qo_addPair 5 = .ok (.astore 4, 2) := by decide +kernel
theorem d_Qo_addPair_7 : decode b_Qo_addPair 7 = .ok (.aload_n 0, 1) := by decide +kernel
theorem d_Qo_addPair_8 : decode b_Qo_addPair 8 = .ok (.iload_n 2, 1) := by decide +kernel
theorem d_Qo_addPair_9 : decode b_Qo_addPair 9 = .ok (.invokevirtual 62, 3) := by decide +kernel
theorem d_Qo_addPair_12 : decode b_Qo_addPair 12 = .ok (.astore 5, 2) := by decide +kernel
theorem d_Qo_addPair_14 : decode b_Qo_addPair 14 = .ok (.aload_n 0, 1) := by decide +kernel
theorem d_Qo_addPair_15 : decode b_Qo_addPair 15 = .ok (.invokevirtual 33, 3) := by decide +kernel
theorem d_Qo_addPair_18 : decode b_Qo_addPair 18 = .ok (.aload 4, 2) := by decide +kernel
theorem d_Qo_addPair_20 : decode b_Qo_addPair 20 = .ok (.invokevirtual 76, 3) := by decide +kernel
theorem d_Qo_addPair_23 : decode b_Qo_addPair 23 = .ok (.aload 5, 2) := by decide +kernel
theorem d_Qo_addPair_25 : decode b_Qo_addPair 25 = .ok (.invokevirtual 76, 3) := by decide +kernel
theorem d_Qo_addPair_28 : decode b_Qo_addPair 28 = .ok (.iadd, 1) := by decide +kernel
theorem d_Qo_addPair_29 : decode b_Qo_addPair 29 = .ok (.bipush 6, 2) := by decide +kernel
theorem d_Qo_addPair_31 : decode b_Qo_addPair 31 = .ok (.if_icmp .le 13, 3) := by decide +kernel
theorem d_Qo_addPair_34 : decode b_Qo_addPair 34 = .ok (.new 40, 3) := by decide +kernel
theorem d_Qo_addPair_37 : decode b_Qo_addPair 37 = .ok (.dup, 1) := by decide +kernel
theorem d_Qo_addPair_38 : decode b_Qo_addPair 38 = .ok (.ldc 133, 2) := by decide +kernel
theorem d_Qo_addPair_40 : decode b_Qo_addPair 40 = .ok (.invokespecial 44, 3) := by decide +kernel
theorem d_Qo_addPair_43 : decode b_Qo_addPair 43 = .ok (.athrow, 1) := by decide +kernel
theorem d_Qo_addPair_44 : decode b_Qo_addPair 44 = .ok (.aload_n 0, 1) := by decide +kernel
theorem d_Qo_addPair_45 : decode b_Qo_addPair 45 = .ok (.new 135, 3) := by decide +kernel
theorem d_Qo_addPair_48 : decode b_Qo_addPair 48 = .ok (.dup, 1) := by decide +kernel
theorem d_Qo_addPair_49 : decode b_Qo_addPair 49 = .ok (.aload 4, 2) := by decide +kernel
theorem d_Qo_addPair_51 : decode b_Qo_addPair 51 = .ok (.aload 5, 2) := by decide +kernel
theorem d_Qo_addPair_53 : decode b_Qo_addPair 53 = .ok (.iload_n 3, 1) := by decide +kernel
theorem d_Qo_addPair_54 : decode b_Qo_addPair 54 = .ok (.invokespecial 137, 3) := by decide +kernel
theorem d_Qo_addPair_57 : decode b_Qo_addPair 57 = .ok (.invokevirtual 54, 3) := by decide +kernel
theorem d_Qo_addPair_60 : decode b_Qo_addPair 60 = .ok (.ireturn, 1) := by decide +kernel
theorem d_Qo_nodeAt_0 : decode b_Qo_nodeAt 0 = .ok (.iload_n 1, 1) := by decide +kernel
theorem d_Qo_nodeAt_1 : decode b_Qo_nodeAt 1 = .ok (.ifCond .lt 29, 3) := by decide +kernel
theorem d_Qo_nodeAt_4 : decode b_Qo_nodeAt 4 = .ok (.iload_n 1, 1) := by decide +kernel
theorem d_Qo_nodeAt_5 : decode b_Qo_nodeAt 5 = .ok (.aload_n 0, 1) := by decide +kernel
theorem d_Qo_nodeAt_6 : decode b_Qo_nodeAt 6 = .ok (.getfield 29, 3) := by decide +kernel
theorem d_Qo_nodeAt_9 : decode b_Qo_nodeAt 9 = .ok (.if_icmp .ge 21, 3) := by decide +kernel
theorem d_Qo_nodeAt_12 : decode b_Qo_nodeAt 12 = .ok (.iload_n 1, 1) := by decide +kernel
theorem d_Qo_nodeAt_13 : decode b_Qo_nodeAt 13 = .ok (.aload_n 0, 1) := by decide +kernel
theorem d_Qo_nodeAt_14 : decode b_Qo_nodeAt 14 = .ok (.getfield 11, 3) := by decide +kernel
theorem d_Qo_nodeAt_17 : decode b_Qo_nodeAt 17 = .ok (.arraylength, 1) := by decide +kernel
theorem d_Qo_nodeAt_18 : decode b_Qo_nodeAt 18 = .ok (.if_icmp .ge 12, 3) := by decide +kernel
theorem d_Qo_nodeAt_21 : decode b_Qo_nodeAt 21 = .ok (.aload_n 0, 1) := by decide +kernel
theorem d_Qo_nodeAt_22 : decode b_Qo_nodeAt 22 = .ok (.getfield 11, 3) := by decide +kernel
theorem d_Qo_nodeAt_25 : decode b_Qo_nodeAt 25 = .ok (.iload_n 1, 1) := by decide +kernel
theorem d_Qo_nodeAt_26 : decode b_Qo_nodeAt 26 = .ok (.aaload, 1) := by decide +kernel
theorem d_Qo_nodeAt_27 : decode b_Qo_nodeAt 27 = .ok (.ifnonnull 13, 3) := by decide +kernel
theorem d_Qo_nodeAt_30 : decode b_Qo_nodeAt 30 = .ok (.new 112, 3) := by decide +kernel
theorem d_Qo_nodeAt_33 : decode b_Qo_nodeAt 33 = .ok (.dup, 1) := by decide +kernel
theorem d_Qo_nodeAt_34 : decode b_Qo_nodeAt 34 = .ok (.ldc 129, 2) := by decide +kernel
theorem d_Qo_nodeAt_36 : decode b_Qo_nodeAt 36 = .ok (.invokespecial 116, 3) := by decide +kernel
theorem d_Qo_nodeAt_39 : decode b_Qo_nodeAt 39 = .ok (.athrow, 1) := by decide +kernel
theorem d_Qo_nodeAt_40 : decode b_Qo_nodeAt 40 = .ok (.aload_n 0, 1) := by decide +kernel
theorem d_Qo_nodeAt_41 : decode b_Qo_nodeAt 41 = .ok (.getfield 11, 3) := by decide +kernel
theorem d_Qo_nodeAt_44 : decode b_Qo_nodeAt 44 = .ok (.iload_n 1, 1) := by decide +kernel
theorem d_Qo_nodeAt_45 : decode b_Qo_nodeAt 45 = .ok (.aaload, 1) := by decide +kernel
theorem d_Qo_nodeAt_46 : decode b_Qo_nodeAt 46 = .ok (.areturn, 1) := by decide +kernel
theorem d_Pr_init_0 : decode b_Pr_init 0 = .ok (.aload_n 0, 1) := by decide +kernel
theorem d_Pr_init_1 : decode b_Pr_init 1 = .ok (.aload_n 1, 1) := by decide +kernel
theorem d_Pr_init_2 : decode b_Pr_init 2 = .ok (.getfield 1, 3) := by decide +kernel
theorem d_Pr_init_5 : decode b_Pr_init 5 = .ok (.aload_n 2, 1) := by decide +kernel
theorem d_Pr_init_6 : decode b_Pr_init 6 = .ok (.getfield 1, 3) := by decide +kernel
theorem d_Pr_init_9 : decode b_Pr_init 9 = .ok (.ior, 1) := by decide +kernel
theorem d_Pr_init_10 : decode b_Pr_init 10 = .ok (.aload_n 1, 1) := by decide +kernel
theorem d_Pr_init_11 : decode b_Pr_init 11 = .ok (.getfield 7, 3) := by decide +kernel
theorem d_Pr_init_14 : decode b_Pr_init 14 = .ok (.aload_n 2, 1) := by decide +kernel
theorem d_Pr_init_15 : decode b_Pr_init 15 = .ok (.getfield 7, 3) := by decide +kernel
theorem d_Pr_init_18 : decode b_Pr_init 18 = .ok (.invokestatic 10, 3) := by decide +kernel
theorem d_Pr_init_21 : decode b_Pr_init 21 = .ok (.aload_n 1, 1) := by decide +kernel
theorem d_Pr_init_22 : decode b_Pr_init 22 = .ok (.getfield 16, 3) := by decide +kernel
theorem d_Pr_init_25 : decode b_Pr_init 25 = .ok (.aload_n 2, 1) := by decide +kernel
theorem d_Pr_init_26 : decode b_Pr_init 26 = .ok (.getfield 16, 3) := by decide +kernel
theorem d_Pr_init_29 : decode b_Pr_init 29 = .ok (.invokestatic 20, 3) := by decide +kernel
theorem d_Pr_init_32 : decode b_Pr_init 32 = .ok (.invokespecial 26, 3) := by decide +kernel
theorem d_Pr_init_35 : decode b_Pr_init 35 = .ok (.aload_n 0, 1) := by decide +kernel
theorem d_Pr_init_36 : decode b_Pr_init 36 = .ok (.aload_n 1, 1) := by decide +kernel
theorem d_Pr_init_37 : decode b_Pr_init 37 = .ok (.putfield 30, 3) := by decide +kernel
theorem d_Pr_init_40 : decode b_Pr_init 40 = .ok (.aload_n 0, 1) := by decide +kernel
theorem d_Pr_init_41 : decode b_Pr_init 41 = .ok (.aload_n 2, 1) := by decide +kernel
theorem d_Pr_init_42 : decode b_Pr_init 42 = .ok (.putfield 34, 3) := by decide +kernel
theorem d_Pr_init_45 : decode b_Pr_init 45 = .ok (.aload_n 0, 1) := by decide +kernel
theorem d_Pr_init_46 : decode b_Pr_init 46 = .ok (.iload_n 3, 1) := by decide +kernel
theorem d_Pr_init_47 : decode b_Pr_init 47 = .ok (.putfield 37, 3) := by decide +kernel
theorem d_Pr_init_50 : decode b_Pr_init 50 = .ok (.return_, 1) := by decide +kernel
theorem d_Pr_join_0 : decode b_Pr_join 0 = .ok (.aload_n 0, 1) := by decide +kernel
theorem d_Pr_join_1 : decode b_Pr_join 1 = .ok (.arraylength, 1) := by decide +kernel
theorem d_Pr_join_2 : decode b_Pr_join 2 = .ok (.aload_n 1, 1) := by decide +kernel
theorem d_Pr_join_3 : decode b_Pr_join 3 = .ok (.arraylength, 1) := by decide +kernel
theorem d_Pr_join_4 : decode b_Pr_join 4 = .ok (.iadd, 1) := by decide +kernel
theorem d_Pr_join_5 : decode b_Pr_join 5 = .ok (.newarray .int, 2) := by decide +kernel
theorem d_Pr_join_7 : decode b_Pr_join 7 = .ok (.astore_n 2, 1) := by decide +kernel
theorem d_Pr_join_8 : decode b_Pr_join 8 = .ok (.aload_n 0, 1) := by decide +kernel
theorem d_Pr_join_9 : decode b_Pr_join 9 = .ok (.iconst 0, 1) := by decide +kernel
theorem d_Pr_join_10 : decode b_Pr_join 10 = .ok (.aload_n 2, 1) := by decide +kernel
theorem d_Pr_join_11 : decode b_Pr_join 11 = .ok (.iconst 0, 1) := by decide +kernel
theorem d_Pr_join_12 : decode b_Pr_join 12 = .ok (.aload_n 0, 1) := by decide +kernel
theorem d_Pr_join_13 : decode b_Pr_join 13 = .ok (.arraylength, 1) := by decide +kernel
theorem d_Pr_join_14 : decode b_Pr_join 14 = .ok (.invokestatic 41, 3) := by decide +kernel
theorem d_Pr_join_17 : decode b_Pr_join 17 = .ok (.aload_n 1, 1) := by decide +kernel
theorem d_Pr_join_18 : decode b_Pr_join 18 = .ok (.iconst 0, 1) := by decide +kernel
theorem d_Pr_join_19 : decode b_Pr_join 19 = .ok (.aload_n 2, 1) := by decide +kernel
theorem d_Pr_join_20 : decode b_Pr_join 20 = .ok (.aload_n 0, 1) := by decide +kernel
theorem d_Pr_join_21 : decode b_Pr_join 21 = .ok (.arraylength, 1) := by decide +kernel
theorem d_Pr_join_22 : decode b_Pr_join 22 = .ok (.aload_n 1, 1) := by decide +kernel
theorem d_Pr_join_23 : decode b_Pr_join 23 = .ok (.arraylength, 1) := by decide +kernel
theorem d_Pr_join_24 : decode b_Pr_join 24 = .ok (.invokestatic 41, 3) := by decide +kernel
theorem d_Pr_join_27 : decode b_Pr_join 27 = .ok (.aload_n 2, 1) := by decide +kernel
theorem d_Pr_join_28 : decode b_Pr_join 28 = .ok (.areturn, 1) := by decide +kernel
theorem d_Qo_either_0 : decode b_Qo_either 0 = .ok (.aload_n 0, 1) := by decide +kernel
theorem d_Qo_either_1 : decode b_Qo_either 1 = .ok (.iload_n 1, 1) := by decide +kernel
theorem d_Qo_either_2 : decode b_Qo_either 2 = .ok (.iload_n 2, 1) := by decide +kernel
theorem d_Qo_either_3 : decode b_Qo_either 3 = .ok (.iconst 0, 1) := by decide +kernel
theorem d_Qo_either_4 : decode b_Qo_either 4 = .ok (.invokevirtual 58, 3) := by decide +kernel
theorem d_Qo_either_7 : decode b_Qo_either 7 = .ok (.ireturn, 1) := by decide +kernel
theorem d_Qo_not_0 : decode b_Qo_not 0 = .ok (.aload_n 0, 1) := by decide +kernel
theorem d_Qo_not_1 : decode b_Qo_not 1 = .ok (.iload_n 1, 1) := by decide +kernel
theorem d_Qo_not_2 : decode b_Qo_not 2 = .ok (.invokevirtual 62, 3) := by decide +kernel
theorem d_Qo_not_5 : decode b_Qo_not 5 = .ok (.astore_n 2, 1) := by decide +kernel
theorem d_Qo_not_6 : decode b_Qo_not 6 = .ok (.aload_n 0, 1) := by decide +kernel
theorem d_Qo_not_7 : decode b_Qo_not 7 = .ok (.invokevirtual 33, 3) := by decide +kernel
theorem d_Qo_not_10 : decode b_Qo_not 10 = .ok (.aload_n 0, 1) := by decide +kernel
theorem d_Qo_not_11 : decode b_Qo_not 11 = .ok (.aload_n 2, 1) := by decide +kernel
theorem d_Qo_not_12 : decode b_Qo_not 12 = .ok (.invokevirtual 66, 3) := by decide +kernel
theorem d_Qo_not_15 : decode b_Qo_not 15 = .ok (.invokevirtual 54, 3) := by decide +kernel
theorem d_Qo_not_18 : decode b_Qo_not 18 = .ok (.ireturn, 1) := by decide +kernel
theorem d_Ng_opposite_0 : decode b_Ng_opposite 0 = .ok (.aload_n 0, 1) := by decide +kernel
theorem d_Ng_opposite_1 : decode b_Ng_opposite 1 = .ok (.getfield 18, 3) := by decide +kernel
theorem d_Ng_opposite_4 : decode b_Ng_opposite 4 = .ok (.areturn, 1) := by decide +kernel
theorem d_Ng_init_0 : decode b_Ng_init 0 = .ok (.aload_n 0, 1) := by decide +kernel
theorem d_Ng_init_1 : decode b_Ng_init 1 = .ok (.aload_n 1, 1) := by decide +kernel
theorem d_Ng_init_2 : decode b_Ng_init 2 = .ok (.getfield 1, 3) := by decide +kernel
theorem d_Ng_init_5 : decode b_Ng_init 5 = .ok (.aload_n 1, 1) := by decide +kernel
theorem d_Ng_init_6 : decode b_Ng_init 6 = .ok (.getfield 7, 3) := by decide +kernel
theorem d_Ng_init_9 : decode b_Ng_init 9 = .ok (.aload_n 1, 1) := by decide +kernel
theorem d_Ng_init_10 : decode b_Ng_init 10 = .ok (.getfield 10, 3) := by decide +kernel
theorem d_Ng_init_13 : decode b_Ng_init 13 = .ok (.invokespecial 14, 3) := by decide +kernel
theorem d_Ng_init_16 : decode b_Ng_init 16 = .ok (.aload_n 0, 1) := by decide +kernel
theorem d_Ng_init_17 : decode b_Ng_init 17 = .ok (.aload_n 1, 1) := by decide +kernel
theorem d_Ng_init_18 : decode b_Ng_init 18 = .ok (.putfield 18, 3) := by decide +kernel
theorem d_Ng_init_21 : decode b_Ng_init 21 = .ok (.return_, 1) := by decide +kernel
theorem d_Qo_some_0 : decode b_Qo_some 0 = .ok (.aload_n 0, 1) := by decide +kernel
theorem d_Qo_some_1 : decode b_Qo_some 1 = .ok (.iload_n 1, 1) := by decide +kernel
theorem d_Qo_some_2 : decode b_Qo_some 2 = .ok (.iload_n 2, 1) := by decide +kernel
theorem d_Qo_some_3 : decode b_Qo_some 3 = .ok (.iconst 0, 1) := by decide +kernel
theorem d_Qo_some_4 : decode b_Qo_some 4 = .ok (.invokevirtual 70, 3) := by decide +kernel
theorem d_Qo_some_7 : decode b_Qo_some 7 = .ok (.ireturn, 1) := by decide +kernel
theorem d_Qo_addQuantified_0 : decode b_Qo_addQuantified 0 = .ok (.aload_n 0, 1) := by decide +kernel
theorem d_Qo_addQuantified_1 : decode b_Qo_addQuantified 1 = .ok (.iload_n 2, 1) := by decide +kernel
theorem d_Qo_addQuantified_2 : decode b_Qo_addQuantified 2 = .ok (.invokevirtual 62, 3) := by decide +kernel
theorem d_Qo_addQuantified_5 : decode b_Qo_addQuantified 5 = .ok (.astore 4, 2) := by decide +kernel
theorem d_Qo_addQuantified_7 : decode b_Qo_addQuantified 7 = .ok (.aload_n 0, 1) := by decide +kernel
theorem d_Qo_addQuantified_8 : decode b_Qo_addQuantified 8 = .ok (.invokevirtual 33, 3) := by decide +kernel
theorem d_Qo_addQuantified_11 : decode b_Qo_addQuantified 11 = .ok (.iload_n 1, 1) := by decide +kernel
theorem d_Qo_addQuantified_12 : decode b_Qo_addQuantified 12 = .ok (.ifCond .eq 18, 3) := by decide +kernel
theorem d_Qo_addQuantified_15 : decode b_Qo_addQuantified 15 = .ok (.iload_n 1, 1) := by decide +kernel
theorem d_Qo_addQuantified_16 : decode b_Qo_addQuantified 16 = .ok (.iconst 1, 1) := by decide +kernel
theorem d_Qo_addQuantified_17 : decode b_Qo_addQuantified 17 = .ok (.if_icmp .eq 13, 3) := by decide +kernel
theorem d_Qo_addQuantified_20 : decode b_Qo_addQuantified 20 = .ok (.new 40, 3) := by decide +kernel
theorem d_Qo_addQuantified_23 : decode b_Qo_addQuantified 23 = .ok (.dup, 1) := by decide +kernel
theorem d_Qo_addQuantified_24 : decode b_Qo_addQuantified 24 = .ok (.ldc 140, 2) := by decide +kernel
theorem d_Qo_addQuantified_26 : decode b_Qo_addQuantified 26 = .ok (.invokespecial 44, 3) := by decide +kernel
theorem d_Qo_addQuantified_29 : decode b_Qo_addQuantified 29 = .ok (.athrow, 1) := by decide +kernel
theorem d_Qo_addQuantified_30 : decode b_Qo_addQuantified 30 = .ok (.aload 4, 2) := by decide +kernel
theorem d_Qo_addQuantified_32 : decode b_Qo_addQuantified 32 = .ok (.getfield 80, 3) := by decide +kernel
theorem d_Qo_addQuantified_35 : decode b_Qo_addQuantified 35 = .ok (.iconst 2, 1) := by decide +kernel
theorem d_Qo_addQuantified_36 : decode b_Qo_addQuantified 36 = .ok (.if_icmp .lt 13, 3) := by decide +kernel
theorem d_Qo_addQuantified_39 : decode b_Qo_addQuantified 39 = .ok (.new 40, 3) := by decide +kernel
theorem d_Qo_addQuantified_42 : decode b_Qo_addQuantified 42 = .ok (.dup, 1) := by decide +kernel
theorem d_Qo_addQuantified_43 : decode b_Qo_addQuantified 43 = .ok (.ldc 142, 2) := by decide +kernel
theorem d_Qo_addQuantified_45 : decode b_Qo_addQuantified 45 = .ok (.invokespecial 44, 3) := by decide +kernel
theorem d_Qo_addQuantified_48 : decode b_Qo_addQuantified 48 = .ok (.athrow, 1) := by decide +kernel
theorem d_Qo_addQuantified_49 : decode b_Qo_addQuantified 49 = .ok (.aload_n 0, 1) := by decide +kernel
theorem d_Qo_addQuantified_50 : decode b_Qo_addQuantified 50 = .ok (.new 144, 3) := by decide +kernel
theorem d_Qo_addQuantified_53 : decode b_Qo_addQuantified 53 = .ok (.dup, 1) := by decide +kernel
theorem d_Qo_addQuantified_54 : decode b_Qo_addQuantified 54 = .ok (.iload_n 1, 1) := by decide +kernel
theorem d_Qo_addQuantified_55 : decode b_Qo_addQuantified 55 = .ok (.aload 4, 2) := by decide +kernel
theorem d_Qo_addQuantified_57 : decode b_Qo_addQuantified 57 = .ok (.iload_n 3, 1) := by decide +kernel
theorem d_Qo_addQuantified_58 : decode b_Qo_addQuantified 58 = .ok (.invokespecial 146, 3) := by decide +kernel
theorem d_Qo_addQuantified_61 : decode b_Qo_addQuantified 61 = .ok (.invokevirtual 54, 3) := by decide +kernel
theorem d_Qo_addQuantified_64 : decode b_Qo_addQuantified 64 = .ok (.ireturn, 1) := by decide +kernel
theorem d_Qf_init_0 : decode b_Qf_init 0 = .ok (.aload_n 0, 1) := by decide +kernel
theorem d_Qf_init_1 : decode b_Qf_init 1 = .ok (.aload_n 2, 1) := by decide +kernel
theorem d_Qf_init_2 : decode b_Qf_init 2 = .ok (.getfield 1, 3) := by decide +kernel
theorem d_Qf_init_5 : decode b_Qf_init 5 = .ok (.iconst 1, 1) := by decide +kernel
theorem d_Qf_init_6 : decode b_Qf_init 6 = .ok (.iload_n 1, 1) := by decide +kernel
theorem d_Qf_init_7 : decode b_Qf_init 7 = .ok (.ishl, 1) := by decide +kernel
theorem d_Qf_init_8 : decode b_Qf_init 8 = .ok (.iconst (-1), 1) := by decide +kernel
theorem d_Qf_init_9 : decode b_Qf_init 9 = .ok (.ixor, 1) := by decide +kernel
theorem d_Qf_init_10 : decode b_Qf_init 10 = .ok (.iand, 1) := by decide +kernel
theorem d_Qf_init_11 : decode b_Qf_init 11 = .ok (.aload_n 2, 1) := by decide +kernel
theorem d_Qf_init_12 : decode b_Qf_init 12 = .ok (.getfield 7, 3) := by decide +kernel
theorem d_Qf_init_15 : decode b_Qf_init 15 = .ok (.iconst 1, 1) := by decide +kernel
theorem d_Qf_init_16 : decode b_Qf_init 16 = .ok (.iadd, 1) := by decide +kernel
theorem d_Qf_init_17 : decode b_Qf_init 17 = .ok (.aload_n 2, 1) := by decide +kernel
theorem d_Qf_init_18 : decode b_Qf_init 18 = .ok (.getfield 10, 3) := by decide +kernel
theorem d_Qf_init_21 : decode b_Qf_init 21 = .ok (.invokespecial 14, 3) := by decide +kernel
theorem d_Qf_init_24 : decode b_Qf_init 24 = .ok (.aload_n 0, 1) := by decide +kernel
theorem d_Qf_init_25 : decode b_Qf_init 25 = .ok (.iload_n 1, 1) := by decide +kernel
theorem d_Qf_init_26 : decode b_Qf_init 26 = .ok (.putfield 18, 3) := by decide +kernel
theorem d_Qf_init_29 : decode b_Qf_init 29 = .ok (.aload_n 0, 1) := by decide +kernel
theorem d_Qf_init_30 : decode b_Qf_init 30 = .ok (.aload_n 2, 1) := by decide +kernel
theorem d_Qf_init_31 : decode b_Qf_init 31 = .ok (.putfield 23, 3) := by decide +kernel
theorem d_Qf_init_34 : decode b_Qf_init 34 = .ok (.aload_n 0, 1) := by decide +kernel
theorem d_Qf_init_35 : decode b_Qf_init 35 = .ok (.iload_n 3, 1) := by decide +kernel
theorem d_Qf_init_36 : decode b_Qf_init 36 = .ok (.putfield 27, 3) := by decide +kernel
theorem d_Qf_init_39 : decode b_Qf_init 39 = .ok (.return_, 1) := by decide +kernel
theorem d_Qo_every_0 : decode b_Qo_every 0 = .ok (.aload_n 0, 1) := by decide +kernel
theorem d_Qo_every_1 : decode b_Qo_every 1 = .ok (.iload_n 1, 1) := by decide +kernel
theorem d_Qo_every_2 : decode b_Qo_every 2 = .ok (.iload_n 2, 1) := by decide +kernel
theorem d_Qo_every_3 : decode b_Qo_every 3 = .ok (.iconst 1, 1) := by decide +kernel
theorem d_Qo_every_4 : decode b_Qo_every 4 = .ok (.invokevirtual 70, 3) := by decide +kernel
theorem d_Qo_every_7 : decode b_Qo_every 7 = .ok (.ireturn, 1) := by decide +kernel
theorem d_Qo_known_0 : decode b_Qo_known 0 = .ok (.aload_n 0, 1) := by decide +kernel
theorem d_Qo_known_1 : decode b_Qo_known 1 = .ok (.iload_n 1, 1) := by decide +kernel
theorem d_Qo_known_2 : decode b_Qo_known 2 = .ok (.invokevirtual 62, 3) := by decide +kernel
theorem d_Qo_known_5 : decode b_Qo_known 5 = .ok (.astore_n 3, 1) := by decide +kernel
theorem d_Qo_known_6 : decode b_Qo_known 6 = .ok (.iload_n 2, 1) := by decide +kernel
theorem d_Qo_known_7 : decode b_Qo_known 7 = .ok (.tableswitch 67 0 3 #[29, 43, 57, 62], 29) := by decide +kernel
theorem d_Qo_known_36 : decode b_Qo_known 36 = .ok (.aload_n 3, 1) := by decide +kernel
theorem d_Qo_known_37 : decode b_Qo_known 37 = .ok (.iconst 0, 1) := by decide +kernel
theorem d_Qo_known_38 : decode b_Qo_known 38 = .ok (.invokevirtual 73, 3) := by decide +kernel
theorem d_Qo_known_41 : decode b_Qo_known 41 = .ok (.ifCond .eq 7, 3) := by decide +kernel
theorem d_Qo_known_44 : decode b_Qo_known 44 = .ok (.iconst 1, 1) := by decide +kernel
theorem d_Qo_known_45 : decode b_Qo_known 45 = .ok (.goto 4, 3) := by decide +kernel
theorem d_Qo_known_48 : decode b_Qo_known 48 = .ok (.iconst 0, 1) := by decide +kernel
theorem d_Qo_known_49 : decode b_Qo_known 49 = .ok (.ireturn, 1) := by decide +kernel
theorem d_Qo_known_50 : decode b_Qo_known 50 = .ok (.aload_n 3, 1) := by decide +kernel
theorem d_Qo_known_51 : decode b_Qo_known 51 = .ok (.iconst 1, 1) := by decide +kernel
theorem d_Qo_known_52 : decode b_Qo_known 52 = .ok (.invokevirtual 73, 3) := by decide +kernel
theorem d_Qo_known_55 : decode b_Qo_known 55 = .ok (.ifCond .eq 7, 3) := by decide +kernel
theorem d_Qo_known_58 : decode b_Qo_known 58 = .ok (.iconst 1, 1) := by decide +kernel
theorem d_Qo_known_59 : decode b_Qo_known 59 = .ok (.goto 4, 3) := by decide +kernel
theorem d_Qo_known_62 : decode b_Qo_known 62 = .ok (.iconst 0, 1) := by decide +kernel
theorem d_Qo_known_63 : decode b_Qo_known 63 = .ok (.ireturn, 1) := by decide +kernel
theorem d_Qo_known_64 : decode b_Qo_known 64 = .ok (.aload_n 3, 1) := by decide +kernel
theorem d_Qo_known_65 : decode b_Qo_known 65 = .ok (.invokevirtual 76, 3) := by decide +kernel
theorem d_Qo_known_68 : decode b_Qo_known 68 = .ok (.ireturn, 1) := by decide +kernel
theorem d_Qo_known_69 : decode b_Qo_known 69 = .ok (.aload_n 3, 1) := by decide +kernel
theorem d_Qo_known_70 : decode b_Qo_known 70 = .ok (.getfield 80, 3) := by decide +kernel
theorem d_Qo_known_73 : decode b_Qo_known 73 = .ok (.ireturn, 1) := by decide +kernel
theorem d_Qo_known_74 : decode b_Qo_known 74 = .ok (.new 40, 3) := by decide +kernel
theorem d_Qo_known_77 : decode b_Qo_known 77 = .ok (.dup, 1) := by decide +kernel
theorem d_Qo_known_78 : decode b_Qo_known 78 = .ok (.ldc 83, 2) := by decide +kernel
theorem d_Qo_known_80 : decode b_Qo_known 80 = .ok (.invokespecial 44, 3) := by decide +kernel
theorem d_Qo_known_83 : decode b_Qo_known 83 = .ok (.athrow, 1) := by decide +kernel
theorem d_Qo_holds_0 : decode b_Qo_holds 0 = .ok (.aload_n 0, 1) := by decide +kernel
theorem d_Qo_holds_1 : decode b_Qo_holds 1 = .ok (.iload_n 1, 1) := by decide +kernel
theorem d_Qo_holds_2 : decode b_Qo_holds 2 = .ok (.invokevirtual 62, 3) := by decide +kernel
theorem d_Qo_holds_5 : decode b_Qo_holds 5 = .ok (.astore 4, 2) := by decide +kernel
theorem d_Qo_holds_7 : decode b_Qo_holds 7 = .ok (.iload_n 2, 1) := by decide +kernel
theorem d_Qo_holds_8 : decode b_Qo_holds 8 = .ok (.invokestatic 85, 3) := by decide +kernel
theorem d_Qo_holds_11 : decode b_Qo_holds 11 = .ok (.ifCond .eq 10, 3) := by decide +kernel
theorem d_Qo_holds_14 : decode b_Qo_holds 14 = .ok (.iload_n 3, 1) := by decide +kernel
theorem d_Qo_holds_15 : decode b_Qo_holds 15 = .ok (.invokestatic 85, 3) := by decide +kernel
theorem d_Qo_holds_18 : decode b_Qo_holds 18 = .ok (.ifCond .ne 13, 3) := by decide +kernel
theorem d_Qo_holds_21 : decode b_Qo_holds 21 = .ok (.new 40, 3) := by decide +kernel
theorem d_Qo_holds_24 : decode b_Qo_holds 24 = .ok (.dup, 1) := by decide +kernel
theorem d_Qo_holds_25 : decode b_Qo_holds 25 = .ok (.ldc 88, 2) := by decide +kernel
theorem d_Qo_holds_27 : decode b_Qo_holds 27 = .ok (.invokespecial 44, 3) := by decide +kernel
theorem d_Qo_holds_30 : decode b_Qo_holds 30 = .ok (.athrow, 1) := by decide +kernel
theorem d_Qo_holds_31 : decode b_Qo_holds 31 = .ok (.aload_n 0, 1) := by decide +kernel
theorem d_Qo_holds_32 : decode b_Qo_holds 32 = .ok (.getfield 18, 3) := by decide +kernel
theorem d_Qo_holds_35 : decode b_Qo_holds 35 = .ok (.iload_n 2, 1) := by decide +kernel
theorem d_Qo_holds_36 : decode b_Qo_holds 36 = .ok (.iload_n 3, 1) := by decide +kernel
theorem d_Qo_holds_37 : decode b_Qo_holds 37 = .ok (.invokevirtual 90, 3) := by decide +kernel
theorem d_Qo_holds_40 : decode b_Qo_holds 40 = .ok (.aload 4, 2) := by decide +kernel
theorem d_Qo_holds_42 : decode b_Qo_holds 42 = .ok (.aload_n 0, 1) := by decide +kernel
theorem d_Qo_holds_43 : decode b_Qo_holds 43 = .ok (.getfield 18, 3) := by decide +kernel
theorem d_Qo_holds_46 : decode b_Qo_holds 46 = .ok (.invokevirtual 94, 3) := by decide +kernel
theorem d_Qo_holds_49 : decode b_Qo_holds 49 = .ok (.ireturn, 1) := by decide +kernel
theorem d_Qo_isValue_0 : decode b_Qo_isValue 0 = .ok (.iload_n 0, 1) := by decide +kernel
theorem d_Qo_isValue_1 : decode b_Qo_isValue 1 = .ok (.bipush (-50), 2) := by decide +kernel
theorem d_Qo_isValue_3 : decode b_Qo_isValue 3 = .ok (.if_icmp .lt 13, 3) := by decide +kernel
theorem d_Qo_isValue_6 : decode b_Qo_isValue 6 = .ok (.iload_n 0, 1) := by decide +kernel
theorem d_Qo_isValue_7 : decode b_Qo_isValue 7 = .ok (.bipush 50, 2) := by decide +kernel
theorem d_Qo_isValue_9 : decode b_Qo_isValue 9 = .ok (.if_icmp .gt 7, 3) := by decide +kernel
theorem d_Qo_isValue_12 : decode b_Qo_isValue 12 = .ok (.iconst 1, 1) := by decide +kernel
theorem d_Qo_isValue_13 : decode b_Qo_isValue 13 = .ok (.goto 4, 3) := by decide +kernel
theorem d_Qo_isValue_16 : decode b_Qo_isValue 16 = .ok (.iconst 0, 1) := by decide +kernel
theorem d_Qo_isValue_17 : decode b_Qo_isValue 17 = .ok (.ireturn, 1) := by decide +kernel
theorem d_Ng_isTrueAt_0 : decode b_Ng_isTrueAt 0 = .ok (.aload_n 0, 1) := by decide +kernel
theorem d_Ng_isTrueAt_1 : decode b_Ng_isTrueAt 1 = .ok (.getfield 18, 3) := by decide +kernel
theorem d_Ng_isTrueAt_4 : decode b_Ng_isTrueAt 4 = .ok (.aload_n 1, 1) := by decide +kernel
theorem d_Ng_isTrueAt_5 : decode b_Ng_isTrueAt 5 = .ok (.invokevirtual 24, 3) := by decide +kernel
theorem d_Ng_isTrueAt_8 : decode b_Ng_isTrueAt 8 = .ok (.ifCond .ne 7, 3) := by decide +kernel
theorem d_Ng_isTrueAt_11 : decode b_Ng_isTrueAt 11 = .ok (.iconst 1, 1) := by decide +kernel
theorem d_Ng_isTrueAt_12 : decode b_Ng_isTrueAt 12 = .ok (.goto 4, 3) := by decide +kernel
theorem d_Ng_isTrueAt_15 : decode b_Ng_isTrueAt 15 = .ok (.iconst 0, 1) := by decide +kernel
theorem d_Ng_isTrueAt_16 : decode b_Ng_isTrueAt 16 = .ok (.ireturn, 1) := by decide +kernel
theorem d_Pr_isTrueAt_0 : decode b_Pr_isTrueAt 0 = .ok (.aload_n 0, 1) := by decide +kernel
theorem d_Pr_isTrueAt_1 : decode b_Pr_isTrueAt 1 = .ok (.getfield 37, 3) := by decide +kernel
theorem d_Pr_isTrueAt_4 : decode b_Pr_isTrueAt 4 = .ok (.ifCond .eq 31, 3) := by decide +kernel
theorem d_Pr_isTrueAt_7 : decode b_Pr_isTrueAt 7 = .ok (.aload_n 0, 1) := by decide +kernel
theorem d_Pr_isTrueAt_8 : decode b_Pr_isTrueAt 8 = .ok (.getfield 30, 3) := by decide +kernel
theorem d_Pr_isTrueAt_11 : decode b_Pr_isTrueAt 11 = .ok (.aload_n 1, 1) := by decide +kernel
theorem d_Pr_isTrueAt_12 : decode b_Pr_isTrueAt 12 = .ok (.invokevirtual 47, 3) := by decide +kernel
theorem d_Pr_isTrueAt_15 : decode b_Pr_isTrueAt 15 = .ok (.ifCond .eq 18, 3) := by decide +kernel
theorem d_Pr_isTrueAt_18 : decode b_Pr_isTrueAt 18 = .ok (.aload_n 0, 1) := by decide +kernel
theorem d_Pr_isTrueAt_19 : decode b_Pr_isTrueAt 19 = .ok (.getfield 34, 3) := by decide +kernel
theorem d_Pr_isTrueAt_22 : decode b_Pr_isTrueAt 22 = .ok (.aload_n 1, 1) := by decide +kernel
theorem d_Pr_isTrueAt_23 : decode b_Pr_isTrueAt 23 = .ok (.invokevirtual 47, 3) := by decide +kernel
theorem d_Pr_isTrueAt_26 : decode b_Pr_isTrueAt 26 = .ok (.ifCond .eq 7, 3) := by decide +kernel
theorem d_Pr_isTrueAt_29 : decode b_Pr_isTrueAt 29 = .ok (.iconst 1, 1) := by decide +kernel
theorem d_Pr_isTrueAt_30 : decode b_Pr_isTrueAt 30 = .ok (.goto 4, 3) := by decide +kernel
theorem d_Pr_isTrueAt_33 : decode b_Pr_isTrueAt 33 = .ok (.iconst 0, 1) := by decide +kernel
theorem d_Pr_isTrueAt_34 : decode b_Pr_isTrueAt 34 = .ok (.ireturn, 1) := by decide +kernel
theorem d_Pr_isTrueAt_35 : decode b_Pr_isTrueAt 35 = .ok (.aload_n 0, 1) := by decide +kernel
theorem d_Pr_isTrueAt_36 : decode b_Pr_isTrueAt 36 = .ok (.getfield 30, 3) := by decide +kernel
theorem d_Pr_isTrueAt_39 : decode b_Pr_isTrueAt 39 = .ok (.aload_n 1, 1) := by decide +kernel
theorem d_Pr_isTrueAt_40 : decode b_Pr_isTrueAt 40 = .ok (.invokevirtual 47, 3) := by decide +kernel
theorem d_Pr_isTrueAt_43 : decode b_Pr_isTrueAt 43 = .ok (.ifCond .ne 14, 3) := by decide +kernel
theorem d_Pr_isTrueAt_46 : decode b_Pr_isTrueAt 46 = .ok (.aload_n 0, 1) := by decide +kernel
theorem d_Pr_isTrueAt_47 : decode b_Pr_isTrueAt 47 = .ok (.getfield 34, 3) := by decide +kernel
theorem d_Pr_isTrueAt_50 : decode b_Pr_isTrueAt 50 = .ok (.aload_n 1, 1) := by decide +kernel
theorem d_Pr_isTrueAt_51 : decode b_Pr_isTrueAt 51 = .ok (.invokevirtual 47, 3) := by decide +kernel
theorem d_Pr_isTrueAt_54 : decode b_Pr_isTrueAt 54 = .ok (.ifCond .eq 7, 3) := by decide +kernel
theorem d_Pr_isTrueAt_57 : decode b_Pr_isTrueAt 57 = .ok (.iconst 1, 1) := by decide +kernel
theorem d_Pr_isTrueAt_58 : decode b_Pr_isTrueAt 58 = .ok (.goto 4, 3) := by decide +kernel
theorem d_Pr_isTrueAt_61 : decode b_Pr_isTrueAt 61 = .ok (.iconst 0, 1) := by decide +kernel
theorem d_Pr_isTrueAt_62 : decode b_Pr_isTrueAt 62 = .ok (.ireturn, 1) := by decide +kernel
theorem d_Qf_isTrueAt_0 : decode b_Qf_isTrueAt 0 = .ok (.aload_n 1, 1) := by decide +kernel
theorem d_Qf_isTrueAt_1 : decode b_Qf_isTrueAt 1 = .ok (.getfield 31, 3) := by decide +kernel
theorem d_Qf_isTrueAt_4 : decode b_Qf_isTrueAt 4 = .ok (.aload_n 0, 1) := by decide +kernel
theorem d_Qf_isTrueAt_5 : decode b_Qf_isTrueAt 5 = .ok (.getfield 18, 3) := by decide +kernel
theorem d_Qf_isTrueAt_8 : decode b_Qf_isTrueAt 8 = .ok (.laload, 1) := by decide +kernel
theorem d_Qf_isTrueAt_9 : decode b_Qf_isTrueAt 9 = .ok (.lstore_n 2, 1) := by decide +kernel
theorem d_Qf_isTrueAt_10 : decode b_Qf_isTrueAt 10 = .ok (.aload_n 1, 1) := by decide +kernel
theorem d_Qf_isTrueAt_11 : decode b_Qf_isTrueAt 11 = .ok (.getfield 37, 3) := by decide +kernel
theorem d_Qf_isTrueAt_14 : decode b_Qf_isTrueAt 14 = .ok (.aload_n 0, 1) := by decide +kernel
theorem d_Qf_isTrueAt_15 : decode b_Qf_isTrueAt 15 = .ok (.getfield 18, 3) := by decide +kernel
theorem d_Qf_isTrueAt_18 : decode b_Qf_isTrueAt 18 = .ok (.laload, 1) := by decide +kernel
theorem d_Qf_isTrueAt_19 : decode b_Qf_isTrueAt 19 = .ok (.lstore 4, 2) := by decide +kernel
theorem d_Qf_isTrueAt_21 : decode b_Qf_isTrueAt 21 = .ok (.aload_n 1, 1) := by decide +kernel
theorem d_Qf_isTrueAt_22 : decode b_Qf_isTrueAt 22 = .ok (.aload_n 0, 1) := by decide +kernel
theorem d_Qf_isTrueAt_23 : decode b_Qf_isTrueAt 23 = .ok (.getfield 40, 3) := by decide +kernel
theorem d_Qf_isTrueAt_26 : decode b_Qf_isTrueAt 26 = .ok (.invokevirtual 41, 3) := by decide +kernel
theorem d_Qf_isTrueAt_29 : decode b_Qf_isTrueAt 29 = .ok (.astore 6, 2) := by decide +kernel
theorem d_Qf_isTrueAt_31 : decode b_Qf_isTrueAt 31 = .ok (.aload 6, 2) := by decide +kernel
theorem d_Qf_isTrueAt_33 : decode b_Qf_isTrueAt 33 = .ok (.aload_n 0, 1) := by decide +kernel
theorem d_Qf_isTrueAt_34 : decode b_Qf_isTrueAt 34 = .ok (.getfield 23, 3) := by decide +kernel
theorem d_Qf_isTrueAt_37 : decode b_Qf_isTrueAt 37 = .ok (.aload_n 0, 1) := by decide +kernel
theorem d_Qf_isTrueAt_38 : decode b_Qf_isTrueAt 38 = .ok (.getfield 18, 3) := by decide +kernel
theorem d_Qf_isTrueAt_41 : decode b_Qf_isTrueAt 41 = .ok (.aload_n 1, 1) := by decide +kernel
theorem d_Qf_isTrueAt_42 : decode b_Qf_isTrueAt 42 = .ok (.invokevirtual 45, 3) := by decide +kernel
theorem d_Qf_isTrueAt_45 : decode b_Qf_isTrueAt 45 = .ok (.aload_n 0, 1) := by decide +kernel
theorem d_Qf_isTrueAt_46 : decode b_Qf_isTrueAt 46 = .ok (.getfield 27, 3) := by decide +kernel
theorem d_Qf_isTrueAt_49 : decode b_Qf_isTrueAt 49 = .ok (.istore 7, 2) := by decide +kernel
theorem d_Qf_isTrueAt_51 : decode b_Qf_isTrueAt 51 = .ok (.iconst 0, 1) := by decide +kernel
theorem d_Qf_isTrueAt_52 : decode b_Qf_isTrueAt 52 = .ok (.istore 8, 2) := by decide +kernel
theorem d_Qf_isTrueAt_54 : decode b_Qf_isTrueAt 54 = .ok (.iload 8, 2) := by decide +kernel
theorem d_Qf_isTrueAt_56 : decode b_Qf_isTrueAt 56 = .ok (.aload 6, 2) := by decide +kernel
theorem d_Qf_isTrueAt_58 : decode b_Qf_isTrueAt 58 = .ok (.invokevirtual 51, 3) := by decide +kernel
theorem d_Qf_isTrueAt_61 : decode b_Qf_isTrueAt 61 = .ok (.if_icmp .ge 40, 3) := by decide +kernel
theorem d_Qf_isTrueAt_64 : decode b_Qf_isTrueAt 64 = .ok (.iload 7, 2) := by decide +kernel
theorem d_Qf_isTrueAt_66 : decode b_Qf_isTrueAt 66 = .ok (.aload_n 0, 1) := by decide +kernel
theorem d_Qf_isTrueAt_67 : decode b_Qf_isTrueAt 67 = .ok (.getfield 27, 3) := by decide +kernel
theorem d_Qf_isTrueAt_70 : decode b_Qf_isTrueAt 70 = .ok (.if_icmp .ne 31, 3) := by decide +kernel
theorem d_Qf_isTrueAt_73 : decode b_Qf_isTrueAt 73 = .ok (.aload 6, 2) := by decide +kernel
theorem d_Qf_isTrueAt_75 : decode b_Qf_isTrueAt 75 = .ok (.iload 8, 2) := by decide +kernel
theorem d_Qf_isTrueAt_77 : decode b_Qf_isTrueAt 77 = .ok (.aload_n 0, 1) := by decide +kernel
theorem d_Qf_isTrueAt_78 : decode b_Qf_isTrueAt 78 = .ok (.getfield 18, 3) := by decide +kernel
theorem d_Qf_isTrueAt_81 : decode b_Qf_isTrueAt 81 = .ok (.aload_n 1, 1) := by decide +kernel
theorem d_Qf_isTrueAt_82 : decode b_Qf_isTrueAt 82 = .ok (.invokevirtual 55, 3) := by decide +kernel
theorem d_Qf_isTrueAt_85 : decode b_Qf_isTrueAt 85 = .ok (.aload_n 0, 1) := by decide +kernel
theorem d_Qf_isTrueAt_86 : decode b_Qf_isTrueAt 86 = .ok (.getfield 23, 3) := by decide +kernel
theorem d_Qf_isTrueAt_89 : decode b_Qf_isTrueAt 89 = .ok (.aload_n 1, 1) := by decide +kernel
theorem d_Qf_isTrueAt_90 : decode b_Qf_isTrueAt 90 = .ok (.invokevirtual 59, 3) := by decide +kernel
theorem d_Qf_isTrueAt_93 : decode b_Qf_isTrueAt 93 = .ok (.istore 7, 2) := by decide +kernel
theorem d_Qf_isTrueAt_95 : decode b_Qf_isTrueAt 95 = .ok (.iinc 8 1, 3) := by decide +kernel
theorem d_Qf_isTrueAt_98 : decode b_Qf_isTrueAt 98 = .ok (.goto (-44), 3) := by decide +kernel
theorem d_Qf_isTrueAt_101 : decode b_Qf_isTrueAt 101 = .ok (.aload_n 1, 1) := by decide +kernel
theorem d_Qf_isTrueAt_102 : decode b_Qf_isTrueAt 102 = .ok (.aload_n 0, 1) := by decide +kernel
theorem d_Qf_isTrueAt_103 : decode b_Qf_isTrueAt 103 = .ok (.getfield 18, 3) := by decide +kernel
theorem d_Qf_isTrueAt_106 : decode b_Qf_isTrueAt 106 = .ok (.lload_n 2, 1) := by decide +kernel
theorem d_Qf_isTrueAt_107 : decode b_Qf_isTrueAt 107 = .ok (.lload 4, 2) := by decide +kernel
theorem d_Qf_isTrueAt_109 : decode b_Qf_isTrueAt 109 = .ok (.invokevirtual 63, 3) := by decide +kernel
theorem d_Qf_isTrueAt_112 : decode b_Qf_isTrueAt 112 = .ok (.iload 7, 2) := by decide +kernel
theorem d_Qf_isTrueAt_114 : decode b_Qf_isTrueAt 114 = .ok (.ireturn, 1) := by decide +kernel
theorem d_Qo_decide_0 : decode b_Qo_decide 0 = .ok (.aload_n 0, 1) := by decide +kernel
theorem d_Qo_decide_1 : decode b_Qo_decide 1 = .ok (.iload_n 1, 1) := by decide +kernel
theorem d_Qo_decide_2 : decode b_Qo_decide 2 = .ok (.invokevirtual 62, 3) := by decide +kernel
theorem d_Qo_decide_5 : decode b_Qo_decide 5 = .ok (.astore_n 2, 1) := by decide +kernel
theorem d_Qo_decide_6 : decode b_Qo_decide 6 = .ok (.aload_n 2, 1) := by decide +kernel
theorem d_Qo_decide_7 : decode b_Qo_decide 7 = .ok (.getfield 98, 3) := by decide +kernel
theorem d_Qo_decide_10 : decode b_Qo_decide 10 = .ok (.ifCond .eq 13, 3) := by decide +kernel
theorem d_Qo_decide_13 : decode b_Qo_decide 13 = .ok (.new 101, 3) := by decide +kernel
theorem d_Qo_decide_16 : decode b_Qo_decide 16 = .ok (.dup, 1) := by decide +kernel
theorem d_Qo_decide_17 : decode b_Qo_decide 17 = .ok (.ldc 103, 2) := by decide +kernel
theorem d_Qo_decide_19 : decode b_Qo_decide 19 = .ok (.invokespecial 105, 3) := by decide +kernel
theorem d_Qo_decide_22 : decode b_Qo_decide 22 = .ok (.athrow, 1) := by decide +kernel
theorem d_Qo_decide_23 : decode b_Qo_decide 23 = .ok (.aload_n 0, 1) := by decide +kernel
theorem d_Qo_decide_24 : decode b_Qo_decide 24 = .ok (.getfield 18, 3) := by decide +kernel
theorem d_Qo_decide_27 : decode b_Qo_decide 27 = .ok (.iconst 0, 1) := by decide +kernel
theorem d_Qo_decide_28 : decode b_Qo_decide 28 = .ok (.iconst 0, 1) := by decide +kernel
theorem d_Qo_decide_29 : decode b_Qo_decide 29 = .ok (.invokevirtual 90, 3) := by decide +kernel
theorem d_Qo_decide_32 : decode b_Qo_decide 32 = .ok (.aload_n 2, 1) := by decide +kernel
theorem d_Qo_decide_33 : decode b_Qo_decide 33 = .ok (.aload_n 0, 1) := by decide +kernel
theorem d_Qo_decide_34 : decode b_Qo_decide 34 = .ok (.getfield 18, 3) := by decide +kernel
theorem d_Qo_decide_37 : decode b_Qo_decide 37 = .ok (.invokevirtual 94, 3) := by decide +kernel
theorem d_Qo_decide_40 : decode b_Qo_decide 40 = .ok (.ireturn, 1) := by decide +kernel
theorem d_Qo_pieces_0 : decode b_Qo_pieces 0 = .ok (.aload_n 0, 1) := by decide +kernel
theorem d_Qo_pieces_1 : decode b_Qo_pieces 1 = .ok (.iload_n 1, 1) := by decide +kernel
theorem d_Qo_pieces_2 : decode b_Qo_pieces 2 = .ok (.invokevirtual 106, 3) := by decide +kernel
theorem d_Qo_pieces_5 : decode b_Qo_pieces 5 = .ok (.aload_n 0, 1) := by decide +kernel
theorem d_Qo_pieces_6 : decode b_Qo_pieces 6 = .ok (.getfield 25, 3) := by decide +kernel
theorem d_Qo_pieces_9 : decode b_Qo_pieces 9 = .ok (.getfield 110, 3) := by decide +kernel
theorem d_Qo_pieces_12 : decode b_Qo_pieces 12 = .ok (.ireturn, 1) := by decide +kernel
theorem d_Qo_findPieces_0 : decode b_Qo_findPieces 0 = .ok (.aload_n 0, 1) := by decide +kernel
theorem d_Qo_findPieces_1 : decode b_Qo_findPieces 1 = .ok (.iload_n 1, 1) := by decide +kernel
theorem d_Qo_findPieces_2 : decode b_Qo_findPieces 2 = .ok (.invokevirtual 62, 3) := by decide +kernel
theorem d_Qo_findPieces_5 : decode b_Qo_findPieces 5 = .ok (.astore_n 2, 1) := by decide +kernel
theorem d_Qo_findPieces_6 : decode b_Qo_findPieces 6 = .ok (.aload_n 2, 1) := by decide +kernel
theorem d_Qo_findPieces_7 : decode b_Qo_findPieces 7 = .ok (.getfield 98, 3) := by decide +kernel
theorem d_Qo_findPieces_10 : decode b_Qo_findPieces 10 = .ok (.iconst 1, 1) := by decide +kernel
theorem d_Qo_findPieces_11 : decode b_Qo_findPieces 11 = .ok (.if_icmp .eq 11, 3) := by decide +kernel
theorem d_Qo_findPieces_14 : decode b_Qo_findPieces 14 = .ok (.aload_n 2, 1) := by decide +kernel
theorem d_Qo_findPieces_15 : decode b_Qo_findPieces 15 = .ok (.getfield 98, 3) := by decide +kernel
theorem d_Qo_findPieces_18 : decode b_Qo_findPieces 18 = .ok (.iconst 2, 1) := by decide +kernel
theorem d_Qo_findPieces_19 : decode b_Qo_findPieces 19 = .ok (.if_icmp .ne 7, 3) := by decide +kernel
theorem d_Qo_findPieces_22 : decode b_Qo_findPieces 22 = .ok (.iconst 1, 1) := by decide +kernel
theorem d_Qo_findPieces_23 : decode b_Qo_findPieces 23 = .ok (.goto 4, 3) := by decide +kernel
theorem d_Qo_findPieces_26 : decode b_Qo_findPieces 26 = .ok (.iconst 0, 1) := by decide +kernel
theorem d_Qo_findPieces_27 : decode b_Qo_findPieces 27 = .ok (.istore_n 3, 1) := by decide +kernel
theorem d_Qo_findPieces_28 : decode b_Qo_findPieces 28 = .ok (.iload_n 3, 1) := by decide +kernel
theorem d_Qo_findPieces_29 : decode b_Qo_findPieces 29 = .ok (.ifCond .eq 11, 3) := by decide +kernel
theorem d_Qo_findPieces_32 : decode b_Qo_findPieces 32 = .ok (.aload_n 2, 1) := by decide +kernel
theorem d_Qo_findPieces_33 : decode b_Qo_findPieces 33 = .ok (.getfield 80, 3) := by decide +kernel
theorem d_Qo_findPieces_36 : decode b_Qo_findPieces 36 = .ok (.iconst 1, 1) := by decide +kernel
theorem d_Qo_findPieces_37 : decode b_Qo_findPieces 37 = .ok (.if_icmp .le 13, 3) := by decide +kernel
theorem d_Qo_findPieces_40 : decode b_Qo_findPieces 40 = .ok (.new 101, 3) := by decide +kernel
theorem d_Qo_findPieces_43 : decode b_Qo_findPieces 43 = .ok (.dup, 1) := by decide +kernel
theorem d_Qo_findPieces_44 : decode b_Qo_findPieces 44 = .ok (.ldc 149, 2) := by decide +kernel
theorem d_Qo_findPieces_46 : decode b_Qo_findPieces 46 = .ok (.invokespecial 105, 3) := by decide +kernel
theorem d_Qo_findPieces_49 : decode b_Qo_findPieces 49 = .ok (.athrow, 1) := by decide +kernel
theorem d_Qo_findPieces_50 : decode b_Qo_findPieces 50 = .ok (.aload_n 0, 1) := by decide +kernel
theorem d_Qo_findPieces_51 : decode b_Qo_findPieces 51 = .ok (.getfield 25, 3) := by decide +kernel
theorem d_Qo_findPieces_54 : decode b_Qo_findPieces 54 = .ok (.aload_n 2, 1) := by decide +kernel
theorem d_Qo_findPieces_55 : decode b_Qo_findPieces 55 = .ok (.aload_n 0, 1) := by decide +kernel
theorem d_Qo_findPieces_56 : decode b_Qo_findPieces 56 = .ok (.getfield 18, 3) := by decide +kernel
theorem d_Qo_findPieces_59 : decode b_Qo_findPieces 59 = .ok (.invokevirtual 151, 3) := by decide +kernel
theorem d_Qo_findPieces_62 : decode b_Qo_findPieces 62 = .ok (.return_, 1) := by decide +kernel
theorem d_Pc_find_0 : decode b_Pc_find 0 = .ok (.aload_n 1, 1) := by decide +kernel
theorem d_Pc_find_1 : decode b_Pc_find 1 = .ok (.aload_n 0, 1) := by decide +kernel
theorem d_Pc_find_2 : decode b_Pc_find 2 = .ok (.getfield 29, 3) := by decide +kernel
theorem d_Pc_find_5 : decode b_Pc_find 5 = .ok (.if_acmp .ne 4, 3) := by decide +kernel
theorem d_Pc_find_8 : decode b_Pc_find 8 = .ok (.return_, 1) := by decide +kernel
theorem d_Pc_find_9 : decode b_Pc_find 9 = .ok (.aload_n 0, 1) := by decide +kernel
theorem d_Pc_find_10 : decode b_Pc_find 10 = .ok (.aload_n 1, 1) := by decide +kernel
theorem d_Pc_find_11 : decode b_Pc_find 11 = .ok (.putfield 29, 3) := by decide +kernel
theorem d_Pc_find_14 : decode b_Pc_find 14 = .ok (.aload_n 0, 1) := by decide +kernel
theorem d_Pc_find_15 : decode b_Pc_find 15 = .ok (.iconst 0, 1) := by decide +kernel
theorem d_Pc_find_16 : decode b_Pc_find 16 = .ok (.putfield 25, 3) := by decide +kernel
theorem d_Pc_find_19 : decode b_Pc_find 19 = .ok (.aload_n 1, 1) := by decide +kernel
theorem d_Pc_find_20 : decode b_Pc_find 20 = .ok (.iconst 0, 1) := by decide +kernel
theorem d_Pc_find_21 : decode b_Pc_find 21 = .ok (.invokevirtual 33, 3) := by decide +kernel
theorem d_Pc_find_24 : decode b_Pc_find 24 = .ok (.ifCond .eq 7, 3) := by decide +kernel
theorem d_Pc_find_27 : decode b_Pc_find 27 = .ok (.iconst 0, 1) := by decide +kernel
theorem d_Pc_find_28 : decode b_Pc_find 28 = .ok (.goto 4, 3) := by decide +kernel
theorem d_Pc_find_31 : decode b_Pc_find 31 = .ok (.iconst 1, 1) := by decide +kernel
theorem d_Pc_find_32 : decode b_Pc_find 32 = .ok (.istore_n 3, 1) := by decide +kernel
theorem d_Pc_find_33 : decode b_Pc_find 33 = .ok (.aload_n 2, 1) := by decide +kernel
theorem d_Pc_find_34 : decode b_Pc_find 34 = .ok (.iconst 0, 1) := by decide +kernel
theorem d_Pc_find_35 : decode b_Pc_find 35 = .ok (.iconst 0, 1) := by decide +kernel
theorem d_Pc_find_36 : decode b_Pc_find 36 = .ok (.invokevirtual 39, 3) := by decide +kernel
theorem d_Pc_find_39 : decode b_Pc_find 39 = .ok (.aload_n 0, 1) := by decide +kernel
theorem d_Pc_find_40 : decode b_Pc_find 40 = .ok (.getfield 12, 3) := by decide +kernel
theorem d_Pc_find_43 : decode b_Pc_find 43 = .ok (.aload_n 1, 1) := by decide +kernel
theorem d_Pc_find_44 : decode b_Pc_find 44 = .ok (.iload_n 3, 1) := by decide +kernel
theorem d_Pc_find_45 : decode b_Pc_find 45 = .ok (.aload_n 2, 1) := by decide +kernel
theorem d_Pc_find_46 : decode b_Pc_find 46 = .ok (.invokevirtual 45, 3) := by decide +kernel
theorem d_Pc_find_49 : decode b_Pc_find 49 = .ok (.iconst 0, 1) := by decide +kernel
theorem d_Pc_find_50 : decode b_Pc_find 50 = .ok (.istore 4, 2) := by decide +kernel
theorem d_Pc_find_52 : decode b_Pc_find 52 = .ok (.iconst 0, 1) := by decide +kernel
theorem d_Pc_find_53 : decode b_Pc_find 53 = .ok (.istore 5, 2) := by decide +kernel
theorem d_Pc_find_55 : decode b_Pc_find 55 = .ok (.iload 5, 2) := by decide +kernel
theorem d_Pc_find_57 : decode b_Pc_find 57 = .ok (.aload_n 0, 1) := by decide +kernel
theorem d_Pc_find_58 : decode b_Pc_find 58 = .ok (.getfield 12, 3) := by decide +kernel
theorem d_Pc_find_61 : decode b_Pc_find 61 = .ok (.invokevirtual 49, 3) := by decide +kernel
theorem d_Pc_find_64 : decode b_Pc_find 64 = .ok (.if_icmp .ge 96, 3) := by decide +kernel
theorem d_Pc_find_67 : decode b_Pc_find 67 = .ok (.aload_n 0, 1) := by decide +kernel
theorem d_Pc_find_68 : decode b_Pc_find 68 = .ok (.getfield 12, 3) := by decide +kernel
theorem d_Pc_find_71 : decode b_Pc_find 71 = .ok (.iload 5, 2) := by decide +kernel
theorem d_Pc_find_73 : decode b_Pc_find 73 = .ok (.iload_n 3, 1) := by decide +kernel
theorem d_Pc_find_74 : decode b_Pc_find 74 = .ok (.aload_n 2, 1) := by decide +kernel
theorem d_Pc_find_75 : decode b_Pc_find 75 = .ok (.invokevirtual 53, 3) := by decide +kernel
theorem d_Pc_find_78 : decode b_Pc_find 78 = .ok (.aload_n 1, 1) := by decide +kernel
theorem d_Pc_find_79 : decode b_Pc_find 79 = .ok (.aload_n 2, 1) := by decide +kernel
theorem d_Pc_find_80 : decode b_Pc_find 80 = .ok (.invokevirtual 57, 3) := by decide +kernel
theorem d_Pc_find_83 : decode b_Pc_find 83 = .ok (.istore 6, 2) := by decide +kernel
theorem d_Pc_find_85 : decode b_Pc_find 85 = .ok (.iload 6, 2) := by decide +kernel
theorem d_Pc_find_87 : decode b_Pc_find 87 = .ok (.ifCond .eq 38, 3) := by decide +kernel
theorem d_Pc_find_90 : decode b_Pc_find 90 = .ok (.iload 4, 2) := by decide +kernel
theorem d_Pc_find_92 : decode b_Pc_find 92 = .ok (.ifCond .ne 33, 3) := by decide +kernel
theorem d_Pc_find_95 : decode b_Pc_find 95 = .ok (.aload_n 0, 1) := by decide +kernel
theorem d_Pc_find_96 : decode b_Pc_find 96 = .ok (.getfield 25, 3) := by decide +kernel
theorem d_Pc_find_99 : decode b_Pc_find 99 = .ok (.bipush 22, 2) := by decide +kernel
theorem d_Pc_find_101 : decode b_Pc_find 101 = .ok (.if_icmp .ge 24, 3) := by decide +kernel
theorem d_Pc_find_104 : decode b_Pc_find 104 = .ok (.aload_n 0, 1) := by decide +kernel
theorem d_Pc_find_105 : decode b_Pc_find 105 = .ok (.getfield 18, 3) := by decide +kernel
theorem d_Pc_find_108 : decode b_Pc_find 108 = .ok (.aload_n 0, 1) := by decide +kernel
theorem d_Pc_find_109 : decode b_Pc_find 109 = .ok (.getfield 25, 3) := by decide +kernel
theorem d_Pc_find_112 : decode b_Pc_find 112 = .ok (.iload 5, 2) := by decide +kernel
theorem d_Pc_find_114 : decode b_Pc_find 114 = .ok (.iastore, 1) := by decide +kernel
theorem d_Pc_find_115 : decode b_Pc_find 115 = .ok (.aload_n 0, 1) := by decide +kernel
theorem d_Pc_find_116 : decode b_Pc_find 116 = .ok (.dup, 1) := by decide +kernel
theorem d_Pc_find_117 : decode b_Pc_find 117 = .ok (.getfield 25, 3) := by decide +kernel
theorem d_Pc_find_120 : decode b_Pc_find 120 = .ok (.iconst 1, 1) := by decide +kernel
theorem d_Pc_find_121 : decode b_Pc_find 121 = .ok (.iadd, 1) := by decide +kernel
theorem d_Pc_find_122 : decode b_Pc_find 122 = .ok (.putfield 25, 3) := by decide +kernel
theorem d_Pc_find_125 : decode b_Pc_find 125 = .ok (.iload 6, 2) := by decide +kernel
theorem d_Pc_find_127 : decode b_Pc_find 127 = .ok (.ifCond .eq 23, 3) := by decide +kernel
theorem d_Pc_find_130 : decode b_Pc_find 130 = .ok (.aload_n 0, 1) := by decide +kernel
theorem d_Pc_find_131 : decode b_Pc_find 131 = .ok (.getfield 25, 3) := by decide +kernel
theorem d_Pc_find_134 : decode b_Pc_find 134 = .ok (.ifCond .le 16, 3) := by decide +kernel
theorem d_Pc_find_137 : decode b_Pc_find 137 = .ok (.aload_n 0, 1) := by decide +kernel
theorem d_Pc_find_138 : decode b_Pc_find 138 = .ok (.getfield 22, 3) := by decide +kernel
theorem d_Pc_find_141 : decode b_Pc_find 141 = .ok (.aload_n 0, 1) := by decide +kernel
theorem d_Pc_find_142 : decode b_Pc_find 142 = .ok (.getfield 25, 3) := by decide +kernel
theorem d_Pc_find_145 : decode b_Pc_find 145 = .ok (.iconst 1, 1) := by decide +kernel
theorem d_Pc_find_146 : decode b_Pc_find 146 = .ok (.isub, 1) := by decide +kernel
theorem d_Pc_find_147 : decode b_Pc_find 147 = .ok (.iload 5, 2) := by decide +kernel
theorem d_Pc_find_149 : decode b_Pc_find 149 = .ok (.iastore, 1) := by decide +kernel
theorem d_Pc_find_150 : decode b_Pc_find 150 = .ok (.iload 6, 2) := by decide +kernel
theorem d_Pc_find_152 : decode b_Pc_find 152 = .ok (.istore 4, 2) := by decide +kernel
theorem d_Pc_find_154 : decode b_Pc_find 154 = .ok (.iinc 5 1, 3) := by decide +kernel
theorem d_Pc_find_157 : decode b_Pc_find 157 = .ok (.goto (-102), 3) := by decide +kernel
theorem d_Pc_find_160 : decode b_Pc_find 160 = .ok (.return_, 1) := by decide +kernel
theorem d_Qo_end_0 : decode b_Qo_end 0 = .ok (.aload_n 0, 1) := by decide +kernel
theorem d_Qo_end_1 : decode b_Qo_end 1 = .ok (.iload_n 1, 1) := by decide +kernel
theorem d_Qo_end_2 : decode b_Qo_end 2 = .ok (.invokevirtual 106, 3) := by decide +kernel
theorem d_Qo_end_5 : decode b_Qo_end 5 = .ok (.iload_n 2, 1) := by decide +kernel
theorem d_Qo_end_6 : decode b_Qo_end 6 = .ok (.ifCond .lt 14, 3) := by decide +kernel
theorem d_Qo_end_9 : decode b_Qo_end 9 = .ok (.iload_n 2, 1) := by decide +kernel
theorem d_Qo_end_10 : decode b_Qo_end 10 = .ok (.aload_n 0, 1) := by decide +kernel
theorem d_Qo_end_11 : decode b_Qo_end 11 = .ok (.getfield 25, 3) := by decide +kernel
theorem d_Qo_end_14 : decode b_Qo_end 14 = .ok (.getfield 110, 3) := by decide +kernel
theorem d_Qo_end_17 : decode b_Qo_end 17 = .ok (.if_icmp .lt 13, 3) := by decide +kernel
theorem d_Qo_end_20 : decode b_Qo_end 20 = .ok (.new 112, 3) := by decide +kernel
theorem d_Qo_end_23 : decode b_Qo_end 23 = .ok (.dup, 1) := by decide +kernel
theorem d_Qo_end_24 : decode b_Qo_end 24 = .ok (.ldc 114, 2) := by decide +kernel
theorem d_Qo_end_26 : decode b_Qo_end 26 = .ok (.invokespecial 116, 3) := by decide +kernel
theorem d_Qo_end_29 : decode b_Qo_end 29 = .ok (.athrow, 1) := by decide +kernel
theorem d_Qo_end_30 : decode b_Qo_end 30 = .ok (.iload_n 3, 1) := by decide +kernel
theorem d_Qo_end_31 : decode b_Qo_end 31 = .ok (.ifCond .eq 18, 3) := by decide +kernel
theorem d_Qo_end_34 : decode b_Qo_end 34 = .ok (.iload_n 3, 1) := by decide +kernel
theorem d_Qo_end_35 : decode b_Qo_end 35 = .ok (.iconst 1, 1) := by decide +kernel
theorem d_Qo_end_36 : decode b_Qo_end 36 = .ok (.if_icmp .eq 13, 3) := by decide +kernel
theorem d_Qo_end_39 : decode b_Qo_end 39 = .ok (.new 40, 3) := by decide +kernel
theorem d_Qo_end_42 : decode b_Qo_end 42 = .ok (.dup, 1) := by decide +kernel
theorem d_Qo_end_43 : decode b_Qo_end 43 = .ok (.ldc 117, 2) := by decide +kernel
theorem d_Qo_end_45 : decode b_Qo_end 45 = .ok (.invokespecial 44, 3) := by decide +kernel
theorem d_Qo_end_48 : decode b_Qo_end 48 = .ok (.athrow, 1) := by decide +kernel
theorem d_Qo_end_49 : decode b_Qo_end 49 = .ok (.iload 4, 2) := by decide +kernel
theorem d_Qo_end_51 : decode b_Qo_end 51 = .ok (.ifCond .eq 25, 3) := by decide +kernel
theorem d_Qo_end_54 : decode b_Qo_end 54 = .ok (.iload 4, 2) := by decide +kernel
theorem d_Qo_end_56 : decode b_Qo_end 56 = .ok (.iconst 1, 1) := by decide +kernel
theorem d_Qo_end_57 : decode b_Qo_end 57 = .ok (.if_icmp .eq 19, 3) := by decide +kernel
theorem d_Qo_end_60 : decode b_Qo_end 60 = .ok (.iload 4, 2) := by decide +kernel
theorem d_Qo_end_62 : decode b_Qo_end 62 = .ok (.iconst 2, 1) := by decide +kernel
theorem d_Qo_end_63 : decode b_Qo_end 63 = .ok (.if_icmp .eq 13, 3) := by decide +kernel
theorem d_Qo_end_66 : decode b_Qo_end 66 = .ok (.new 40, 3) := by decide +kernel
theorem d_Qo_end_69 : decode b_Qo_end 69 = .ok (.dup, 1) := by decide +kernel
theorem d_Qo_end_70 : decode b_Qo_end 70 = .ok (.ldc 119, 2) := by decide +kernel
theorem d_Qo_end_72 : decode b_Qo_end 72 = .ok (.invokespecial 44, 3) := by decide +kernel
theorem d_Qo_end_75 : decode b_Qo_end 75 = .ok (.athrow, 1) := by decide +kernel
theorem d_Qo_end_76 : decode b_Qo_end 76 = .ok (.aload_n 0, 1) := by decide +kernel
theorem d_Qo_end_77 : decode b_Qo_end 77 = .ok (.getfield 25, 3) := by decide +kernel
theorem d_Qo_end_80 : decode b_Qo_end 80 = .ok (.iload_n 2, 1) := by decide +kernel
theorem d_Qo_end_81 : decode b_Qo_end 81 = .ok (.iload_n 3, 1) := by decide +kernel
theorem d_Qo_end_82 : decode b_Qo_end 82 = .ok (.iload 4, 2) := by decide +kernel
theorem d_Qo_end_84 : decode b_Qo_end 84 = .ok (.invokevirtual 121, 3) := by decide +kernel
theorem d_Qo_end_87 : decode b_Qo_end 87 = .ok (.lreturn, 1) := by decide +kernel
theorem d_Pc_partOfEnd_0 : decode b_Pc_partOfEnd 0 = .ok (.iload_n 2, 1) := by decide +kernel
theorem d_Pc_partOfEnd_1 : decode b_Pc_partOfEnd 1 = .ok (.ifCond .ne 12, 3) := by decide +kernel
theorem d_Pc_partOfEnd_4 : decode b_Pc_partOfEnd 4 = .ok (.aload_n 0, 1) := by decide +kernel
theorem d_Pc_partOfEnd_5 : decode b_Pc_partOfEnd 5 = .ok (.getfield 18, 3) := by decide +kernel
theorem d_Pc_partOfEnd_8 : decode b_Pc_partOfEnd 8 = .ok (.iload_n 1, 1) := by decide +kernel
theorem d_Pc_partOfEnd_9 : decode b_Pc_partOfEnd 9 = .ok (.iaload, 1) := by decide +kernel
theorem d_Pc_partOfEnd_10 : decode b_Pc_partOfEnd 10 = .ok (.goto 9, 3) := by decide +kernel
theorem d_Pc_partOfEnd_13 : decode b_Pc_partOfEnd 13 = .ok (.aload_n 0, 1) := by decide +kernel
theorem d_Pc_partOfEnd_14 : decode b_Pc_partOfEnd 14 = .ok (.getfield 22, 3) := by decide +kernel
theorem d_Pc_partOfEnd_17 : decode b_Pc_partOfEnd 17 = .ok (.iload_n 1, 1) := by decide +kernel
theorem d_Pc_partOfEnd_18 : decode b_Pc_partOfEnd 18 = .ok (.iaload, 1) := by decide +kernel
theorem d_Pc_partOfEnd_19 : decode b_Pc_partOfEnd 19 = .ok (.istore 4, 2) := by decide +kernel
theorem d_Pc_partOfEnd_21 : decode b_Pc_partOfEnd 21 = .ok (.iload_n 2, 1) := by decide +kernel
theorem d_Pc_partOfEnd_22 : decode b_Pc_partOfEnd 22 = .ok (.ifCond .ne 16, 3) := by decide +kernel
theorem d_Pc_partOfEnd_25 : decode b_Pc_partOfEnd 25 = .ok (.iload 4, 2) := by decide +kernel
theorem d_Pc_partOfEnd_27 : decode b_Pc_partOfEnd 27 = .ok (.ifCond .ne 7, 3) := by decide +kernel
theorem d_Pc_partOfEnd_30 : decode b_Pc_partOfEnd 30 = .ok (.iconst 1, 1) := by decide +kernel
theorem d_Pc_partOfEnd_31 : decode b_Pc_partOfEnd 31 = .ok (.goto 26, 3) := by decide +kernel
theorem d_Pc_partOfEnd_34 : decode b_Pc_partOfEnd 34 = .ok (.iconst 0, 1) := by decide +kernel
theorem d_Pc_partOfEnd_35 : decode b_Pc_partOfEnd 35 = .ok (.goto 22, 3) := by decide +kernel
theorem d_Pc_partOfEnd_38 : decode b_Pc_partOfEnd 38 = .ok (.iload 4, 2) := by decide +kernel
theorem d_Pc_partOfEnd_40 : decode b_Pc_partOfEnd 40 = .ok (.aload_n 0, 1) := by decide +kernel
theorem d_Pc_partOfEnd_41 : decode b_Pc_partOfEnd 41 = .ok (.getfield 12, 3) := by decide +kernel
theorem d_Pc_partOfEnd_44 : decode b_Pc_partOfEnd 44 = .ok (.invokevirtual 49, 3) := by decide +kernel
theorem d_Pc_partOfEnd_47 : decode b_Pc_partOfEnd 47 = .ok (.iconst 1, 1) := by decide +kernel
theorem d_Pc_partOfEnd_48 : decode b_Pc_partOfEnd 48 = .ok (.isub, 1) := by decide +kernel
theorem d_Pc_partOfEnd_49 : decode b_Pc_partOfEnd 49 = .ok (.if_icmp .ne 7, 3) := by decide +kernel
theorem d_Pc_partOfEnd_52 : decode b_Pc_partOfEnd 52 = .ok (.iconst 1, 1) := by decide +kernel
theorem d_Pc_partOfEnd_53 : decode b_Pc_partOfEnd 53 = .ok (.goto 4, 3) := by decide +kernel
theorem d_Pc_partOfEnd_56 : decode b_Pc_partOfEnd 56 = .ok (.iconst 0, 1) := by decide +kernel
theorem d_Pc_partOfEnd_57 : decode b_Pc_partOfEnd 57 = .ok (.istore 5, 2) := by decide +kernel
theorem d_Pc_partOfEnd_59 : decode b_Pc_partOfEnd 59 = .ok (.iload 5, 2) := by decide +kernel
theorem d_Pc_partOfEnd_61 : decode b_Pc_partOfEnd 61 = .ok (.ifCond .eq 14, 3) := by decide +kernel
theorem d_Pc_partOfEnd_64 : decode b_Pc_partOfEnd 64 = .ok (.iload_n 3, 1) := by decide +kernel
theorem d_Pc_partOfEnd_65 : decode b_Pc_partOfEnd 65 = .ok (.iconst 2, 1) := by decide +kernel
theorem d_Pc_partOfEnd_66 : decode b_Pc_partOfEnd 66 = .ok (.if_icmp .ne 7, 3) := by decide +kernel
theorem d_Pc_partOfEnd_69 : decode b_Pc_partOfEnd 69 = .ok (.lconst 1, 1) := by decide +kernel
theorem d_Pc_partOfEnd_70 : decode b_Pc_partOfEnd 70 = .ok (.goto 4, 3) := by decide +kernel
theorem d_Pc_partOfEnd_73 : decode b_Pc_partOfEnd 73 = .ok (.lconst 0, 1) := by decide +kernel
theorem d_Pc_partOfEnd_74 : decode b_Pc_partOfEnd 74 = .ok (.lreturn, 1) := by decide +kernel
theorem d_Pc_partOfEnd_75 : decode b_Pc_partOfEnd 75 = .ok (.iload 4, 2) := by decide +kernel
theorem d_Pc_partOfEnd_77 : decode b_Pc_partOfEnd 77 = .ok (.iconst 2, 1) := by decide +kernel
theorem d_Pc_partOfEnd_78 : decode b_Pc_partOfEnd 78 = .ok (.irem, 1) := by decide +kernel
theorem d_Pc_partOfEnd_79 : decode b_Pc_partOfEnd 79 = .ok (.iconst 1, 1) := by decide +kernel
theorem d_Pc_partOfEnd_80 : decode b_Pc_partOfEnd 80 = .ok (.if_icmp .ne 7, 3) := by decide +kernel
theorem d_Pc_partOfEnd_83 : decode b_Pc_partOfEnd 83 = .ok (.iconst 1, 1) := by decide +kernel
theorem d_Pc_partOfEnd_84 : decode b_Pc_partOfEnd 84 = .ok (.goto 4, 3) := by decide +kernel
theorem d_Pc_partOfEnd_87 : decode b_Pc_partOfEnd 87 = .ok (.iconst 0, 1) := by decide +kernel
theorem d_Pc_partOfEnd_88 : decode b_Pc_partOfEnd 88 = .ok (.istore 6, 2) := by decide +kernel
theorem d_Pc_partOfEnd_90 : decode b_Pc_partOfEnd 90 = .ok (.iload_n 3, 1) := by decide +kernel
theorem d_Pc_partOfEnd_91 : decode b_Pc_partOfEnd 91 = .ok (.ifCond .ne 16, 3) := by decide +kernel
theorem d_Pc_partOfEnd_94 : decode b_Pc_partOfEnd 94 = .ok (.iload 6, 2) := by decide +kernel
theorem d_Pc_partOfEnd_96 : decode b_Pc_partOfEnd 96 = .ok (.ifCond .eq 9, 3) := by decide +kernel
theorem d_Pc_partOfEnd_99 : decode b_Pc_partOfEnd 99 = .ok (.ldc2_w 61, 3) := by decide +kernel
theorem d_Pc_partOfEnd_102 : decode b_Pc_partOfEnd 102 = .ok (.goto 4, 3) := by decide +kernel
theorem d_Pc_partOfEnd_105 : decode b_Pc_partOfEnd 105 = .ok (.lconst 1, 1) := by decide +kernel
theorem d_Pc_partOfEnd_106 : decode b_Pc_partOfEnd 106 = .ok (.lreturn, 1) := by decide +kernel
theorem d_Pc_partOfEnd_107 : decode b_Pc_partOfEnd 107 = .ok (.iload 6, 2) := by decide +kernel
theorem d_Pc_partOfEnd_109 : decode b_Pc_partOfEnd 109 = .ok (.ifCond .ne 8, 3) := by decide +kernel
theorem d_Pc_partOfEnd_112 : decode b_Pc_partOfEnd 112 = .ok (.iload_n 2, 1) := by decide +kernel
theorem d_Pc_partOfEnd_113 : decode b_Pc_partOfEnd 113 = .ok (.iconst 1, 1) := by decide +kernel
theorem d_Pc_partOfEnd_114 : decode b_Pc_partOfEnd 114 = .ok (.if_icmp .ne 10, 3) := by decide +kernel
theorem d_Pc_partOfEnd_117 : decode b_Pc_partOfEnd 117 = .ok (.iload 4, 2) := by decide +kernel
theorem d_Pc_partOfEnd_119 : decode b_Pc_partOfEnd 119 = .ok (.iconst 2, 1) := by decide +kernel
theorem d_Pc_partOfEnd_120 : decode b_Pc_partOfEnd 120 = .ok (.idiv, 1) := by decide +kernel
theorem d_Pc_partOfEnd_121 : decode b_Pc_partOfEnd 121 = .ok (.goto 9, 3) := by decide +kernel
theorem d_Pc_partOfEnd_124 : decode b_Pc_partOfEnd 124 = .ok (.iload 4, 2) := by decide +kernel
theorem d_Pc_partOfEnd_126 : decode b_Pc_partOfEnd 126 = .ok (.iconst 2, 1) := by decide +kernel
theorem d_Pc_partOfEnd_127 : decode b_Pc_partOfEnd 127 = .ok (.idiv, 1) := by decide +kernel
theorem d_Pc_partOfEnd_128 : decode b_Pc_partOfEnd 128 = .ok (.iconst 1, 1) := by decide +kernel
theorem d_Pc_partOfEnd_129 : decode b_Pc_partOfEnd 129 = .ok (.isub, 1) := by decide +kernel
theorem d_Pc_partOfEnd_130 : decode b_Pc_partOfEnd 130 = .ok (.istore 7, 2) := by decide +kernel
theorem d_Pc_partOfEnd_132 : decode b_Pc_partOfEnd 132 = .ok (.iload_n 3, 1) := by decide +kernel
theorem d_Pc_partOfEnd_133 : decode b_Pc_partOfEnd 133 = .ok (.iconst 1, 1) := by decide +kernel
theorem d_Pc_partOfEnd_134 : decode b_Pc_partOfEnd 134 = .ok (.if_icmp .ne 15, 3) := by decide +kernel
theorem d_Pc_partOfEnd_137 : decode b_Pc_partOfEnd 137 = .ok (.aload_n 0, 1) := by decide +kernel
theorem d_Pc_partOfEnd_138 : decode b_Pc_partOfEnd 138 = .ok (.getfield 12, 3) := by decide +kernel
theorem d_Pc_partOfEnd_141 : decode b_Pc_partOfEnd 141 = .ok (.iload 7, 2) := by decide +kernel
theorem d_Pc_partOfEnd_143 : decode b_Pc_partOfEnd 143 = .ok (.invokevirtual 63, 3) := by decide +kernel
theorem d_Pc_partOfEnd_146 : decode b_Pc_partOfEnd 146 = .ok (.goto 12, 3) := by decide +kernel
theorem d_Pc_partOfEnd_149 : decode b_Pc_partOfEnd 149 = .ok (.aload_n 0, 1) := by decide +kernel
theorem d_Pc_partOfEnd_150 : decode b_Pc_partOfEnd 150 = .ok (.getfield 12, 3) := by decide +kernel
theorem d_Pc_partOfEnd_153 : decode b_Pc_partOfEnd 153 = .ok (.iload 7, 2) := by decide +kernel
theorem d_Pc_partOfEnd_155 : decode b_Pc_partOfEnd 155 = .ok (.invokevirtual 67, 3) := by decide +kernel
theorem d_Pc_partOfEnd_158 : decode b_Pc_partOfEnd 158 = .ok (.lreturn, 1) := by decide +kernel
theorem d_Qo_alike_0 : decode b_Qo_alike 0 = .ok (.aload_n 0, 1) := by decide +kernel
theorem d_Qo_alike_1 : decode b_Qo_alike 1 = .ok (.iload_n 1, 1) := by decide +kernel
theorem d_Qo_alike_2 : decode b_Qo_alike 2 = .ok (.invokevirtual 62, 3) := by decide +kernel
theorem d_Qo_alike_5 : decode b_Qo_alike 5 = .ok (.astore_n 3, 1) := by decide +kernel
theorem d_Qo_alike_6 : decode b_Qo_alike 6 = .ok (.aload_n 0, 1) := by decide +kernel
theorem d_Qo_alike_7 : decode b_Qo_alike 7 = .ok (.iload_n 2, 1) := by decide +kernel
theorem d_Qo_alike_8 : decode b_Qo_alike 8 = .ok (.invokevirtual 62, 3) := by decide +kernel
theorem d_Qo_alike_11 : decode b_Qo_alike 11 = .ok (.astore 4, 2) := by decide +kernel
theorem d_Qo_alike_13 : decode b_Qo_alike 13 = .ok (.aload_n 3, 1) := by decide +kernel
theorem d_Qo_alike_14 : decode b_Qo_alike 14 = .ok (.aload_n 0, 1) := by decide +kernel
theorem d_Qo_alike_15 : decode b_Qo_alike 15 = .ok (.getfield 18, 3) := by decide +kernel
theorem d_Qo_alike_18 : decode b_Qo_alike 18 = .ok (.invokevirtual 125, 3) := by decide +kernel
theorem d_Qo_alike_21 : decode b_Qo_alike 21 = .ok (.aload 4, 2) := by decide +kernel
theorem d_Qo_alike_23 : decode b_Qo_alike 23 = .ok (.aload_n 0, 1) := by decide +kernel
theorem d_Qo_alike_24 : decode b_Qo_alike 24 = .ok (.getfield 18, 3) := by decide +kernel
theorem d_Qo_alike_27 : decode b_Qo_alike 27 = .ok (.invokevirtual 125, 3) := by decide +kernel
theorem d_Qo_alike_30 : decode b_Qo_alike 30 = .ok (.if_icmp .ne 7, 3) := by decide +kernel
theorem d_Qo_alike_33 : decode b_Qo_alike 33 = .ok (.iconst 1, 1) := by decide +kernel
theorem d_Qo_alike_34 : decode b_Qo_alike 34 = .ok (.goto 4, 3) := by decide +kernel
theorem d_Qo_alike_37 : decode b_Qo_alike 37 = .ok (.iconst 0, 1) := by decide +kernel
theorem d_Qo_alike_38 : decode b_Qo_alike 38 = .ok (.ireturn, 1) := by decide +kernel
theorem d_Ng_findGrid_0 : decode b_Ng_findGrid 0 = .ok (.ldc 28, 2) := by decide +kernel
theorem d_Ng_findGrid_2 : decode b_Ng_findGrid 2 = .ok (.aload_n 0, 1) := by decide +kernel
theorem d_Ng_findGrid_3 : decode b_Ng_findGrid 3 = .ok (.getfield 18, 3) := by decide +kernel
theorem d_Ng_findGrid_6 : decode b_Ng_findGrid 6 = .ok (.aload_n 1, 1) := by decide +kernel
theorem d_Ng_findGrid_7 : decode b_Ng_findGrid 7 = .ok (.invokevirtual 29, 3) := by decide +kernel
theorem d_Ng_findGrid_10 : decode b_Ng_findGrid 10 = .ok (.iconst (-1), 1) := by decide +kernel
theorem d_Ng_findGrid_11 : decode b_Ng_findGrid 11 = .ok (.ixor, 1) := by decide +kernel
theorem d_Ng_findGrid_12 : decode b_Ng_findGrid 12 = .ok (.iand, 1) := by decide +kernel
theorem d_Ng_findGrid_13 : decode b_Ng_findGrid 13 = .ok (.ireturn, 1) := by decide +kernel
theorem d_Pr_findGrid_0 : decode b_Pr_findGrid 0 = .ok (.aload_n 0, 1) := by decide +kernel
theorem d_Pr_findGrid_1 : decode b_Pr_findGrid 1 = .ok (.getfield 30, 3) := by decide +kernel
theorem d_Pr_findGrid_4 : decode b_Pr_findGrid 4 = .ok (.aload_n 1, 1) := by decide +kernel
theorem d_Pr_findGrid_5 : decode b_Pr_findGrid 5 = .ok (.invokevirtual 51, 3) := by decide +kernel
theorem d_Pr_findGrid_8 : decode b_Pr_findGrid 8 = .ok (.istore_n 2, 1) := by decide +kernel
theorem d_Pr_findGrid_9 : decode b_Pr_findGrid 9 = .ok (.aload_n 0, 1) := by decide +kernel
theorem d_Pr_findGrid_10 : decode b_Pr_findGrid 10 = .ok (.getfield 34, 3) := by decide +kernel
theorem d_Pr_findGrid_13 : decode b_Pr_findGrid 13 = .ok (.aload_n 1, 1) := by decide +kernel
theorem d_Pr_findGrid_14 : decode b_Pr_findGrid 14 = .ok (.invokevirtual 51, 3) := by decide +kernel
theorem d_Pr_findGrid_17 : decode b_Pr_findGrid 17 = .ok (.istore_n 3, 1) := by decide +kernel
theorem d_Pr_findGrid_18 : decode b_Pr_findGrid 18 = .ok (.aload_n 0, 1) := by decide +kernel
theorem d_Pr_findGrid_19 : decode b_Pr_findGrid 19 = .ok (.getfield 37, 3) := by decide +kernel
theorem d_Pr_findGrid_22 : decode b_Pr_findGrid 22 = .ok (.ifCond .eq 9, 3) := by decide +kernel
theorem d_Pr_findGrid_25 : decode b_Pr_findGrid 25 = .ok (.iload_n 2, 1) := by decide +kernel
theorem d_Pr_findGrid_26 : decode b_Pr_findGrid 26 = .ok (.iload_n 3, 1) := by decide +kernel
theorem d_Pr_findGrid_27 : decode b_Pr_findGrid 27 = .ok (.iand, 1) := by decide +kernel
theorem d_Pr_findGrid_28 : decode b_Pr_findGrid 28 = .ok (.goto 6, 3) := by decide +kernel
theorem d_Pr_findGrid_31 : decode b_Pr_findGrid 31 = .ok (.iload_n 2, 1) := by decide +kernel
theorem d_Pr_findGrid_32 : decode b_Pr_findGrid 32 = .ok (.iload_n 3, 1) := by decide +kernel
theorem d_Pr_findGrid_33 : decode b_Pr_findGrid 33 = .ok (.ior, 1) := by decide +kernel
theorem d_Pr_findGrid_34 : decode b_Pr_findGrid 34 = .ok (.ireturn, 1) := by decide +kernel
