theorem d_Vs_init_0 : decode b_Vs_init 0 = .ok (.aload_n 0, 1) := by decide +kernel
theorem d_Vs_init_1 : decode b_Vs_init 1 = .ok (.invokespecial 3, 3) := by decide +kernel
theorem d_Vs_init_4 : decode b_Vs_init 4 = .ok (.aload_n 0, 1) := by decide +kernel
theorem d_Vs_init_5 : decode b_Vs_init 5 = .ok (.iconst 2, 1) := by decide +kernel
theorem d_Vs_init_6 : decode b_Vs_init 6 = .ok (.newarray .long, 2) := by decide +kernel
theorem d_Vs_init_8 : decode b_Vs_init 8 = .ok (.dup, 1) := by decide +kernel
theorem d_Vs_init_9 : decode b_Vs_init 9 = .ok (.iconst 0, 1) := by decide +kernel
theorem d_Vs_init_10 : decode b_Vs_init 10 = .ok (.lconst 0, 1) := by decide +kernel
theorem d_Vs_init_11 : decode b_Vs_init 11 = .ok (.lastore, 1) := by decide +kernel
theorem d_Vs_init_12 : decode b_Vs_init 12 = .ok (.dup, 1) := by decide +kernel
theorem d_Vs_init_13 : decode b_Vs_init 13 = .ok (.iconst 1, 1) := by decide +kernel
theorem d_Vs_init_14 : decode b_Vs_init 14 = .ok (.lconst 0, 1) := by decide +kernel
theorem d_Vs_init_15 : decode b_Vs_init 15 = .ok (.lastore, 1) := by decide +kernel
theorem d_Vs_init_16 : decode b_Vs_init 16 = .ok (.putfield 9, 3) := by decide +kernel
theorem d_Vs_init_19 : decode b_Vs_init 19 = .ok (.aload_n 0, 1) := by decide +kernel
theorem d_Vs_init_20 : decode b_Vs_init 20 = .ok (.iconst 2, 1) := by decide +kernel
theorem d_Vs_init_21 : decode b_Vs_init 21 = .ok (.newarray .long, 2) := by decide +kernel
theorem d_Vs_init_23 : decode b_Vs_init 23 = .ok (.dup, 1) := by decide +kernel
theorem d_Vs_init_24 : decode b_Vs_init 24 = .ok (.iconst 0, 1) := by decide +kernel
theorem d_Vs_init_25 : decode b_Vs_init 25 = .ok (.lconst 1, 1) := by decide +kernel
theorem d_Vs_init_26 : decode b_Vs_init 26 = .ok (.lastore, 1) := by decide +kernel
theorem d_Vs_init_27 : decode b_Vs_init 27 = .ok (.dup, 1) := by decide +kernel
theorem d_Vs_init_28 : decode b_Vs_init 28 = .ok (.iconst 1, 1) := by decide +kernel
theorem d_Vs_init_29 : decode b_Vs_init 29 = .ok (.lconst 1, 1) := by decide +kernel
theorem d_Vs_init_30 : decode b_Vs_init 30 = .ok (.lastore, 1) := by decide +kernel
theorem d_Vs_init_31 : decode b_Vs_init 31 = .ok (.putfield 15, 3) := by decide +kernel
theorem d_Vs_init_34 : decode b_Vs_init 34 = .ok (.aload_n 0, 1) := by decide +kernel
theorem d_Vs_init_35 : decode b_Vs_init 35 = .ok (.new 18, 3) := by decide +kernel
theorem d_Vs_init_38 : decode b_Vs_init 38 = .ok (.dup, 1) := by decide +kernel
theorem d_Vs_init_39 : decode b_Vs_init 39 = .ok (.invokespecial 20, 3) := by decide +kernel
theorem d_Vs_init_42 : decode b_Vs_init 42 = .ok (.putfield 21, 3) := by decide +kernel
theorem d_Vs_init_45 : decode b_Vs_init 45 = .ok (.aload_n 0, 1) := by decide +kernel
theorem d_Vs_init_46 : decode b_Vs_init 46 = .ok (.new 18, 3) := by decide +kernel
theorem d_Vs_init_49 : decode b_Vs_init 49 = .ok (.dup, 1) := by decide +kernel
theorem d_Vs_init_50 : decode b_Vs_init 50 = .ok (.invokespecial 20, 3) := by decide +kernel
theorem d_Vs_init_53 : decode b_Vs_init 53 = .ok (.putfield 25, 3) := by decide +kernel
theorem d_Vs_init_56 : decode b_Vs_init 56 = .ok (.return_, 1) := by decide +kernel
theorem d_Mk_init_0 : decode b_Mk_init 0 = .ok (.aload_n 0, 1) := by decide +kernel
theorem d_Mk_init_1 : decode b_Mk_init 1 = .ok (.invokespecial 1, 3) := by decide +kernel
theorem d_Mk_init_4 : decode b_Mk_init 4 = .ok (.aload_n 0, 1) := by decide +kernel
theorem d_Mk_init_5 : decode b_Mk_init 5 = .ok (.bipush 21, 2) := by decide +kernel
theorem d_Mk_init_7 : decode b_Mk_init 7 = .ok (.newarray .long, 2) := by decide +kernel
theorem d_Mk_init_9 : decode b_Mk_init 9 = .ok (.putfield 9, 3) := by decide +kernel
theorem d_Mk_init_12 : decode b_Mk_init 12 = .ok (.aload_n 0, 1) := by decide +kernel
theorem d_Mk_init_13 : decode b_Mk_init 13 = .ok (.bipush 21, 2) := by decide +kernel
theorem d_Mk_init_15 : decode b_Mk_init 15 = .ok (.newarray .long, 2) := by decide +kernel
theorem d_Mk_init_17 : decode b_Mk_init 17 = .ok (.putfield 13, 3) := by decide +kernel
theorem d_Mk_init_20 : decode b_Mk_init 20 = .ok (.aload_n 0, 1) := by decide +kernel
theorem d_Mk_init_21 : decode b_Mk_init 21 = .ok (.iconst 0, 1) := by decide +kernel
theorem d_Mk_init_22 : decode b_Mk_init 22 = .ok (.putfield 16, 3) := by decide +kernel
theorem d_Mk_init_25 : decode b_Mk_init 25 = .ok (.return_, 1) := by decide +kernel
theorem d_At_init_0 : decode b_At_init 0 = .ok (.aload_n 0, 1) := by decide +kernel
theorem d_At_init_1 : decode b_At_init 1 = .ok (.iconst 3, 1) := by decide +kernel
theorem d_At_init_2 : decode b_At_init 2 = .ok (.iconst 0, 1) := by decide +kernel
theorem d_At_init_3 : decode b_At_init 3 = .ok (.iconst 3, 1) := by decide +kernel
theorem d_At_init_4 : decode b_At_init 4 = .ok (.newarray .int, 2) := by decide +kernel
theorem d_At_init_6 : decode b_At_init 6 = .ok (.dup, 1) := by decide +kernel
theorem d_At_init_7 : decode b_At_init 7 = .ok (.iconst 0, 1) := by decide +kernel
theorem d_At_init_8 : decode b_At_init 8 = .ok (.iload_n 1, 1) := by decide +kernel
theorem d_At_init_9 : decode b_At_init 9 = .ok (.iastore, 1) := by decide +kernel
theorem d_At_init_10 : decode b_At_init 10 = .ok (.dup, 1) := by decide +kernel
theorem d_At_init_11 : decode b_At_init 11 = .ok (.iconst 1, 1) := by decide +kernel
theorem d_At_init_12 : decode b_At_init 12 = .ok (.iload_n 2, 1) := by decide +kernel
theorem d_At_init_13 : decode b_At_init 13 = .ok (.iastore, 1) := by decide +kernel
theorem d_At_init_14 : decode b_At_init 14 = .ok (.dup, 1) := by decide +kernel
theorem d_At_init_15 : decode b_At_init 15 = .ok (.iconst 2, 1) := by decide +kernel
theorem d_At_init_16 : decode b_At_init 16 = .ok (.iload_n 3, 1) := by decide +kernel
theorem d_At_init_17 : decode b_At_init 17 = .ok (.iastore, 1) := by decide +kernel
theorem d_At_init_18 : decode b_At_init 18 = .ok (.invokespecial 3, 3) := by decide +kernel
theorem d_At_init_21 : decode b_At_init 21 = .ok (.aload_n 0, 1) := by decide +kernel
theorem d_At_init_22 : decode b_At_init 22 = .ok (.iload_n 1, 1) := by decide +kernel
theorem d_At_init_23 : decode b_At_init 23 = .ok (.putfield 9, 3) := by decide +kernel
theorem d_At_init_26 : decode b_At_init 26 = .ok (.aload_n 0, 1) := by decide +kernel
theorem d_At_init_27 : decode b_At_init 27 = .ok (.iload_n 2, 1) := by decide +kernel
theorem d_At_init_28 : decode b_At_init 28 = .ok (.putfield 15, 3) := by decide +kernel
theorem d_At_init_31 : decode b_At_init 31 = .ok (.aload_n 0, 1) := by decide +kernel
theorem d_At_init_32 : decode b_At_init 32 = .ok (.iload_n 3, 1) := by decide +kernel
theorem d_At_init_33 : decode b_At_init 33 = .ok (.putfield 18, 3) := by decide +kernel
theorem d_At_init_36 : decode b_At_init 36 = .ok (.aload_n 0, 1) := by decide +kernel
theorem d_At_init_37 : decode b_At_init 37 = .ok (.iload 4, 2) := by decide +kernel
theorem d_At_init_39 : decode b_At_init 39 = .ok (.putfield 21, 3) := by decide +kernel
theorem d_At_init_42 : decode b_At_init 42 = .ok (.return_, 1) := by decide +kernel
theorem d_Nd_init_0 : decode b_Nd_init 0 = .ok (.aload_n 0, 1) := by decide +kernel
theorem d_Nd_init_1 : decode b_Nd_init 1 = .ok (.invokespecial 5, 3) := by decide +kernel
theorem d_Nd_init_4 : decode b_Nd_init 4 = .ok (.aload_n 0, 1) := by decide +kernel
theorem d_Nd_init_5 : decode b_Nd_init 5 = .ok (.iload_n 1, 1) := by decide +kernel
theorem d_Nd_init_6 : decode b_Nd_init 6 = .ok (.putfield 11, 3) := by decide +kernel
theorem d_Nd_init_9 : decode b_Nd_init 9 = .ok (.aload_n 0, 1) := by decide +kernel
theorem d_Nd_init_10 : decode b_Nd_init 10 = .ok (.iload_n 2, 1) := by decide +kernel
theorem d_Nd_init_11 : decode b_Nd_init 11 = .ok (.putfield 15, 3) := by decide +kernel
theorem d_Nd_init_14 : decode b_Nd_init 14 = .ok (.aload_n 0, 1) := by decide +kernel
theorem d_Nd_init_15 : decode b_Nd_init 15 = .ok (.aload_n 3, 1) := by decide +kernel
theorem d_Nd_init_16 : decode b_Nd_init 16 = .ok (.putfield 18, 3) := by decide +kernel
theorem d_Nd_init_19 : decode b_Nd_init 19 = .ok (.aload_n 0, 1) := by decide +kernel
theorem d_Nd_init_20 : decode b_Nd_init 20 = .ok (.iconst (-1), 1) := by decide +kernel
theorem d_Nd_init_21 : decode b_Nd_init 21 = .ok (.putfield 22, 3) := by decide +kernel
theorem d_Nd_init_24 : decode b_Nd_init 24 = .ok (.return_, 1) := by decide +kernel
theorem d_Nd_size_0 : decode b_Nd_size 0 = .ok (.aload_n 0, 1) := by decide +kernel
theorem d_Nd_size_1 : decode b_Nd_size 1 = .ok (.getfield 18, 3) := by decide +kernel
theorem d_Nd_size_4 : decode b_Nd_size 4 = .ok (.arraylength, 1) := by decide +kernel
theorem d_Nd_size_5 : decode b_Nd_size 5 = .ok (.iconst 3, 1) := by decide +kernel
theorem d_Nd_size_6 : decode b_Nd_size 6 = .ok (.idiv, 1) := by decide +kernel
theorem d_Nd_size_7 : decode b_Nd_size 7 = .ok (.ireturn, 1) := by decide +kernel
theorem d_Nd_opposite_0 : decode b_Nd_opposite 0 = .ok (.new 25, 3) := by decide +kernel
theorem d_Nd_opposite_3 : decode b_Nd_opposite 3 = .ok (.dup, 1) := by decide +kernel
theorem d_Nd_opposite_4 : decode b_Nd_opposite 4 = .ok (.aload_n 0, 1) := by decide +kernel
theorem d_Nd_opposite_5 : decode b_Nd_opposite 5 = .ok (.invokespecial 27, 3) := by decide +kernel
theorem d_Nd_opposite_8 : decode b_Nd_opposite 8 = .ok (.areturn, 1) := by decide +kernel
theorem d_Nd_isFree_0 : decode b_Nd_isFree 0 = .ok (.aload_n 0, 1) := by decide +kernel
theorem d_Nd_isFree_1 : decode b_Nd_isFree 1 = .ok (.getfield 11, 3) := by decide +kernel
theorem d_Nd_isFree_4 : decode b_Nd_isFree 4 = .ok (.iload_n 1, 1) := by decide +kernel
theorem d_Nd_isFree_5 : decode b_Nd_isFree 5 = .ok (.ishr, 1) := by decide +kernel
theorem d_Nd_isFree_6 : decode b_Nd_isFree 6 = .ok (.iconst 1, 1) := by decide +kernel
theorem d_Nd_isFree_7 : decode b_Nd_isFree 7 = .ok (.iand, 1) := by decide +kernel
theorem d_Nd_isFree_8 : decode b_Nd_isFree 8 = .ok (.iconst 1, 1) := by decide +kernel
theorem d_Nd_isFree_9 : decode b_Nd_isFree 9 = .ok (.if_icmp .ne 7, 3) := by decide +kernel
theorem d_Nd_isFree_12 : decode b_Nd_isFree 12 = .ok (.iconst 1, 1) := by decide +kernel
theorem d_Nd_isFree_13 : decode b_Nd_isFree 13 = .ok (.goto 4, 3) := by decide +kernel
theorem d_Nd_isFree_16 : decode b_Nd_isFree 16 = .ok (.iconst 0, 1) := by decide +kernel
theorem d_Nd_isFree_17 : decode b_Nd_isFree 17 = .ok (.ireturn, 1) := by decide +kernel
theorem d_Vs_putWhole_0 : decode b_Vs_putWhole 0 = .ok (.aload_n 0, 1) := by decide +kernel
theorem d_Vs_putWhole_1 : decode b_Vs_putWhole 1 = .ok (.iconst 0, 1) := by decide +kernel
theorem d_Vs_putWhole_2 : decode b_Vs_putWhole 2 = .ok (.iload_n 1, 1) := by decide +kernel
theorem d_Vs_putWhole_3 : decode b_Vs_putWhole 3 = .ok (.i2l, 1) := by decide +kernel
theorem d_Vs_putWhole_4 : decode b_Vs_putWhole 4 = .ok (.lconst 1, 1) := by decide +kernel
theorem d_Vs_putWhole_5 : decode b_Vs_putWhole 5 = .ok (.invokevirtual 28, 3) := by decide +kernel
theorem d_Vs_putWhole_8 : decode b_Vs_putWhole 8 = .ok (.aload_n 0, 1) := by decide +kernel
theorem d_Vs_putWhole_9 : decode b_Vs_putWhole 9 = .ok (.iconst 1, 1) := by decide +kernel
theorem d_Vs_putWhole_10 : decode b_Vs_putWhole 10 = .ok (.iload_n 2, 1) := by decide +kernel
theorem d_Vs_putWhole_11 : decode b_Vs_putWhole 11 = .ok (.i2l, 1) := by decide +kernel
theorem d_Vs_putWhole_12 : decode b_Vs_putWhole 12 = .ok (.lconst 1, 1) := by decide +kernel
theorem d_Vs_putWhole_13 : decode b_Vs_putWhole 13 = .ok (.invokevirtual 28, 3) := by decide +kernel
theorem d_Vs_putWhole_16 : decode b_Vs_putWhole 16 = .ok (.return_, 1) := by decide +kernel
theorem d_Vs_put_0 : decode b_Vs_put 0 = .ok (.aload_n 0, 1) := by decide +kernel
theorem d_Vs_put_1 : decode b_Vs_put 1 = .ok (.getfield 9, 3) := by decide +kernel
theorem d_Vs_put_4 : decode b_Vs_put 4 = .ok (.iload_n 1, 1) := by decide +kernel
theorem d_Vs_put_5 : decode b_Vs_put 5 = .ok (.lload_n 2, 1) := by decide +kernel
theorem d_Vs_put_6 : decode b_Vs_put 6 = .ok (.lastore, 1) := by decide +kernel
theorem d_Vs_put_7 : decode b_Vs_put 7 = .ok (.aload_n 0, 1) := by decide +kernel
theorem d_Vs_put_8 : decode b_Vs_put 8 = .ok (.getfield 15, 3) := by decide +kernel
theorem d_Vs_put_11 : decode b_Vs_put 11 = .ok (.iload_n 1, 1) := by decide +kernel
theorem d_Vs_put_12 : decode b_Vs_put 12 = .ok (.lload 4, 2) := by decide +kernel
theorem d_Vs_put_14 : decode b_Vs_put 14 = .ok (.lastore, 1) := by decide +kernel
theorem d_Vs_put_15 : decode b_Vs_put 15 = .ok (.return_, 1) := by decide +kernel
theorem d_At_isTrueAt_0 : decode b_At_isTrueAt 0 = .ok (.aload_n 1, 1) := by decide +kernel
theorem d_At_isTrueAt_1 : decode b_At_isTrueAt 1 = .ok (.getfield 24, 3) := by decide +kernel
theorem d_At_isTrueAt_4 : decode b_At_isTrueAt 4 = .ok (.iconst 0, 1) := by decide +kernel
theorem d_At_isTrueAt_5 : decode b_At_isTrueAt 5 = .ok (.laload, 1) := by decide +kernel
theorem d_At_isTrueAt_6 : decode b_At_isTrueAt 6 = .ok (.lstore_n 2, 1) := by decide +kernel
theorem d_At_isTrueAt_7 : decode b_At_isTrueAt 7 = .ok (.aload_n 1, 1) := by decide +kernel
theorem d_At_isTrueAt_8 : decode b_At_isTrueAt 8 = .ok (.getfield 24, 3) := by decide +kernel
theorem d_At_isTrueAt_11 : decode b_At_isTrueAt 11 = .ok (.iconst 1, 1) := by decide +kernel
theorem d_At_isTrueAt_12 : decode b_At_isTrueAt 12 = .ok (.laload, 1) := by decide +kernel
theorem d_At_isTrueAt_13 : decode b_At_isTrueAt 13 = .ok (.lstore 4, 2) := by decide +kernel
theorem d_At_isTrueAt_15 : decode b_At_isTrueAt 15 = .ok (.aload_n 0, 1) := by decide +kernel
theorem d_At_isTrueAt_16 : decode b_At_isTrueAt 16 = .ok (.getfield 9, 3) := by decide +kernel
theorem d_At_isTrueAt_19 : decode b_At_isTrueAt 19 = .ok (.i2l, 1) := by decide +kernel
theorem d_At_isTrueAt_20 : decode b_At_isTrueAt 20 = .ok (.aload_n 1, 1) := by decide +kernel
theorem d_At_isTrueAt_21 : decode b_At_isTrueAt 21 = .ok (.getfield 30, 3) := by decide +kernel
theorem d_At_isTrueAt_24 : decode b_At_isTrueAt 24 = .ok (.iconst 0, 1) := by decide +kernel
theorem d_At_isTrueAt_25 : decode b_At_isTrueAt 25 = .ok (.laload, 1) := by decide +kernel
theorem d_At_isTrueAt_26 : decode b_At_isTrueAt 26 = .ok (.lmul, 1) := by decide +kernel
theorem d_At_isTrueAt_27 : decode b_At_isTrueAt 27 = .ok (.lload 4, 2) := by decide +kernel
theorem d_At_isTrueAt_29 : decode b_At_isTrueAt 29 = .ok (.lmul, 1) := by decide +kernel
theorem d_At_isTrueAt_30 : decode b_At_isTrueAt 30 = .ok (.aload_n 0, 1) := by decide +kernel
theorem d_At_isTrueAt_31 : decode b_At_isTrueAt 31 = .ok (.getfield 15, 3) := by decide +kernel
theorem d_At_isTrueAt_34 : decode b_At_isTrueAt 34 = .ok (.i2l, 1) := by decide +kernel
theorem d_At_isTrueAt_35 : decode b_At_isTrueAt 35 = .ok (.aload_n 1, 1) := by decide +kernel
theorem d_At_isTrueAt_36 : decode b_At_isTrueAt 36 = .ok (.getfield 30, 3) := by decide +kernel
theorem d_At_isTrueAt_39 : decode b_At_isTrueAt 39 = .ok (.iconst 1, 1) := by decide +kernel
theorem d_At_isTrueAt_40 : decode b_At_isTrueAt 40 = .ok (.laload, 1) := by decide +kernel
theorem d_At_isTrueAt_41 : decode b_At_isTrueAt 41 = .ok (.lmul, 1) := by decide +kernel
theorem d_At_isTrueAt_42 : decode b_At_isTrueAt 42 = .ok (.lload_n 2, 1) := by decide +kernel
theorem d_At_isTrueAt_43 : decode b_At_isTrueAt 43 = .ok (.lmul, 1) := by decide +kernel
theorem d_At_isTrueAt_44 : decode b_At_isTrueAt 44 = .ok (.ladd, 1) := by decide +kernel
theorem d_At_isTrueAt_45 : decode b_At_isTrueAt 45 = .ok (.aload_n 0, 1) := by decide +kernel
theorem d_At_isTrueAt_46 : decode b_At_isTrueAt 46 = .ok (.getfield 18, 3) := by decide +kernel
theorem d_At_isTrueAt_49 : decode b_At_isTrueAt 49 = .ok (.i2l, 1) := by decide +kernel
theorem d_At_isTrueAt_50 : decode b_At_isTrueAt 50 = .ok (.lload_n 2, 1) := by decide +kernel
theorem d_At_isTrueAt_51 : decode b_At_isTrueAt 51 = .ok (.lmul, 1) := by decide +kernel
theorem d_At_isTrueAt_52 : decode b_At_isTrueAt 52 = .ok (.lload 4, 2) := by decide +kernel
theorem d_At_isTrueAt_54 : decode b_At_isTrueAt 54 = .ok (.lmul, 1) := by decide +kernel
theorem d_At_isTrueAt_55 : decode b_At_isTrueAt 55 = .ok (.ladd, 1) := by decide +kernel
theorem d_At_isTrueAt_56 : decode b_At_isTrueAt 56 = .ok (.lstore 6, 2) := by decide +kernel
theorem d_At_isTrueAt_58 : decode b_At_isTrueAt 58 = .ok (.aload_n 0, 1) := by decide +kernel
theorem d_At_isTrueAt_59 : decode b_At_isTrueAt 59 = .ok (.getfield 21, 3) := by decide +kernel
theorem d_At_isTrueAt_62 : decode b_At_isTrueAt 62 = .ok (.lookupswitch 52 #[(0, 26), (1, 39)], 26) := by decide +kernel
theorem d_At_isTrueAt_88 : decode b_At_isTrueAt 88 = .ok (.lload 6, 2) := by decide +kernel
theorem d_At_isTrueAt_90 : decode b_At_isTrueAt 90 = .ok (.lconst 0, 1) := by decide +kernel
theorem d_At_isTrueAt_91 : decode b_At_isTrueAt 91 = .ok (.lcmp, 1) := by decide +kernel
theorem d_At_isTrueAt_92 : decode b_At_isTrueAt 92 = .ok (.ifCond .ne 7, 3) := by decide +kernel
theorem d_At_isTrueAt_95 : decode b_At_isTrueAt 95 = .ok (.iconst 1, 1) := by decide +kernel
theorem d_At_isTrueAt_96 : decode b_At_isTrueAt 96 = .ok (.goto 4, 3) := by decide +kernel
theorem d_At_isTrueAt_99 : decode b_At_isTrueAt 99 = .ok (.iconst 0, 1) := by decide +kernel
theorem d_At_isTrueAt_100 : decode b_At_isTrueAt 100 = .ok (.ireturn, 1) := by decide +kernel
theorem d_At_isTrueAt_101 : decode b_At_isTrueAt 101 = .ok (.lload 6, 2) := by decide +kernel
theorem d_At_isTrueAt_103 : decode b_At_isTrueAt 103 = .ok (.lconst 0, 1) := by decide +kernel
theorem d_At_isTrueAt_104 : decode b_At_isTrueAt 104 = .ok (.lcmp, 1) := by decide +kernel
theorem d_At_isTrueAt_105 : decode b_At_isTrueAt 105 = .ok (.ifCond .ge 7, 3) := by decide +kernel
theorem d_At_isTrueAt_108 : decode b_At_isTrueAt 108 = .ok (.iconst 1, 1) := by decide +kernel
theorem d_At_isTrueAt_109 : decode b_At_isTrueAt 109 = .ok (.goto 4, 3) := by decide +kernel
theorem d_At_isTrueAt_112 : decode b_At_isTrueAt 112 = .ok (.iconst 0, 1) := by decide +kernel
theorem d_At_isTrueAt_113 : decode b_At_isTrueAt 113 = .ok (.ireturn, 1) := by decide +kernel
theorem d_At_isTrueAt_114 : decode b_At_isTrueAt 114 = .ok (.lload 6, 2) := by decide +kernel
theorem d_At_isTrueAt_116 : decode b_At_isTrueAt 116 = .ok (.lconst 0, 1) := by decide +kernel
theorem d_At_isTrueAt_117 : decode b_At_isTrueAt 117 = .ok (.lcmp, 1) := by decide +kernel
theorem d_At_isTrueAt_118 : decode b_At_isTrueAt 118 = .ok (.ifCond .gt 7, 3) := by decide +kernel
theorem d_At_isTrueAt_121 : decode b_At_isTrueAt 121 = .ok (.iconst 1, 1) := by decide +kernel
theorem d_At_isTrueAt_122 : decode b_At_isTrueAt 122 = .ok (.goto 4, 3) := by decide +kernel
theorem d_At_isTrueAt_125 : decode b_At_isTrueAt 125 = .ok (.iconst 0, 1) := by decide +kernel
theorem d_At_isTrueAt_126 : decode b_At_isTrueAt 126 = .ok (.ireturn, 1) := by decide +kernel
theorem d_Vs_marksFor_0 : decode b_Vs_marksFor 0 = .ok (.iload_n 1, 1) := by decide +kernel
theorem d_Vs_marksFor_1 : decode b_Vs_marksFor 1 = .ok (.iconst 2, 1) := by decide +kernel
theorem d_Vs_marksFor_2 : decode b_Vs_marksFor 2 = .ok (.if_icmp .ge 10, 3) := by decide +kernel
theorem d_Vs_marksFor_5 : decode b_Vs_marksFor 5 = .ok (.aload_n 0, 1) := by decide +kernel
theorem d_Vs_marksFor_6 : decode b_Vs_marksFor 6 = .ok (.getfield 25, 3) := by decide +kernel
theorem d_Vs_marksFor_9 : decode b_Vs_marksFor 9 = .ok (.goto 7, 3) := by decide +kernel
theorem d_Vs_marksFor_12 : decode b_Vs_marksFor 12 = .ok (.aload_n 0, 1) := by decide +kernel
theorem d_Vs_marksFor_13 : decode b_Vs_marksFor 13 = .ok (.getfield 21, 3) := by decide +kernel
theorem d_Vs_marksFor_16 : decode b_Vs_marksFor 16 = .ok (.areturn, 1) := by decide +kernel
theorem d_Mk_gather_0 : decode b_Mk_gather 0 = .ok (.aload_n 0, 1) := by decide +kernel
theorem d_Mk_gather_1 : decode b_Mk_gather 1 = .ok (.iconst 0, 1) := by decide +kernel
theorem d_Mk_gather_2 : decode b_Mk_gather 2 = .ok (.putfield 16, 3) := by decide +kernel
theorem d_Mk_gather_5 : decode b_Mk_gather 5 = .ok (.aload_n 1, 1) := by decide +kernel
theorem d_Mk_gather_6 : decode b_Mk_gather 6 = .ok (.iload_n 2, 1) := by decide +kernel
theorem d_Mk_gather_7 : decode b_Mk_gather 7 = .ok (.invokevirtual 20, 3) := by decide +kernel
theorem d_Mk_gather_10 : decode b_Mk_gather 10 = .ok (.ifCond .ne 4, 3) := by decide +kernel
theorem d_Mk_gather_13 : decode b_Mk_gather 13 = .ok (.return_, 1) := by decide +kernel
theorem d_Mk_gather_14 : decode b_Mk_gather 14 = .ok (.aload_n 1, 1) := by decide +kernel
theorem d_Mk_gather_15 : decode b_Mk_gather 15 = .ok (.getfield 26, 3) := by decide +kernel
theorem d_Mk_gather_18 : decode b_Mk_gather 18 = .ok (.astore 4, 2) := by decide +kernel
theorem d_Mk_gather_20 : decode b_Mk_gather 20 = .ok (.iconst 0, 1) := by decide +kernel
theorem d_Mk_gather_21 : decode b_Mk_gather 21 = .ok (.istore 5, 2) := by decide +kernel
theorem d_Mk_gather_23 : decode b_Mk_gather 23 = .ok (.iload 5, 2) := by decide +kernel
theorem d_Mk_gather_25 : decode b_Mk_gather 25 = .ok (.iconst 3, 1) := by decide +kernel
theorem d_Mk_gather_26 : decode b_Mk_gather 26 = .ok (.iadd, 1) := by decide +kernel
theorem d_Mk_gather_27 : decode b_Mk_gather 27 = .ok (.aload 4, 2) := by decide +kernel
theorem d_Mk_gather_29 : decode b_Mk_gather 29 = .ok (.arraylength, 1) := by decide +kernel
theorem d_Mk_gather_30 : decode b_Mk_gather 30 = .ok (.if_icmp .gt 53, 3) := by decide +kernel
theorem d_Mk_gather_33 : decode b_Mk_gather 33 = .ok (.aload_n 0, 1) := by decide +kernel
theorem d_Mk_gather_34 : decode b_Mk_gather 34 = .ok (.aload 4, 2) := by decide +kernel
theorem d_Mk_gather_36 : decode b_Mk_gather 36 = .ok (.iload 5, 2) := by decide +kernel
theorem d_Mk_gather_38 : decode b_Mk_gather 38 = .ok (.iload_n 2, 1) := by decide +kernel
theorem d_Mk_gather_39 : decode b_Mk_gather 39 = .ok (.aload_n 3, 1) := by decide +kernel
theorem d_Mk_gather_40 : decode b_Mk_gather 40 = .ok (.invokevirtual 30, 3) := by decide +kernel
theorem d_Mk_gather_43 : decode b_Mk_gather 43 = .ok (.iconst 0, 1) := by decide +kernel
theorem d_Mk_gather_44 : decode b_Mk_gather 44 = .ok (.istore 6, 2) := by decide +kernel
theorem d_Mk_gather_46 : decode b_Mk_gather 46 = .ok (.iload 6, 2) := by decide +kernel
theorem d_Mk_gather_48 : decode b_Mk_gather 48 = .ok (.iload 5, 2) := by decide +kernel
theorem d_Mk_gather_50 : decode b_Mk_gather 50 = .ok (.if_icmp .ge 27, 3) := by decide +kernel
theorem d_Mk_gather_53 : decode b_Mk_gather 53 = .ok (.aload_n 1, 1) := by decide +kernel
theorem d_Mk_gather_54 : decode b_Mk_gather 54 = .ok (.getfield 34, 3) := by decide +kernel
theorem d_Mk_gather_57 : decode b_Mk_gather 57 = .ok (.ifCond .le 20, 3) := by decide +kernel
theorem d_Mk_gather_60 : decode b_Mk_gather 60 = .ok (.aload_n 0, 1) := by decide +kernel
theorem d_Mk_gather_61 : decode b_Mk_gather 61 = .ok (.aload 4, 2) := by decide +kernel
theorem d_Mk_gather_63 : decode b_Mk_gather 63 = .ok (.iload 5, 2) := by decide +kernel
theorem d_Mk_gather_65 : decode b_Mk_gather 65 = .ok (.iload 6, 2) := by decide +kernel
theorem d_Mk_gather_67 : decode b_Mk_gather 67 = .ok (.iload_n 2, 1) := by decide +kernel
theorem d_Mk_gather_68 : decode b_Mk_gather 68 = .ok (.invokevirtual 37, 3) := by decide +kernel
theorem d_Mk_gather_71 : decode b_Mk_gather 71 = .ok (.iinc 6 3, 3) := by decide +kernel
theorem d_Mk_gather_74 : decode b_Mk_gather 74 = .ok (.goto (-28), 3) := by decide +kernel
theorem d_Mk_gather_77 : decode b_Mk_gather 77 = .ok (.iinc 5 3, 3) := by decide +kernel
theorem d_Mk_gather_80 : decode b_Mk_gather 80 = .ok (.goto (-57), 3) := by decide +kernel
theorem d_Mk_gather_83 : decode b_Mk_gather 83 = .ok (.return_, 1) := by decide +kernel
theorem d_Mk_markValue_0 : decode b_Mk_markValue 0 = .ok (.iconst 1, 1) := by decide +kernel
theorem d_Mk_markValue_1 : decode b_Mk_markValue 1 = .ok (.iload_n 3, 1) := by decide +kernel
theorem d_Mk_markValue_2 : decode b_Mk_markValue 2 = .ok (.isub, 1) := by decide +kernel
theorem d_Mk_markValue_3 : decode b_Mk_markValue 3 = .ok (.istore 5, 2) := by decide +kernel
theorem d_Mk_markValue_5 : decode b_Mk_markValue 5 = .ok (.aload 4, 2) := by decide +kernel
theorem d_Mk_markValue_7 : decode b_Mk_markValue 7 = .ok (.getfield 41, 3) := by decide +kernel
theorem d_Mk_markValue_10 : decode b_Mk_markValue 10 = .ok (.iload 5, 2) := by decide +kernel
theorem d_Mk_markValue_12 : decode b_Mk_markValue 12 = .ok (.laload, 1) := by decide +kernel
theorem d_Mk_markValue_13 : decode b_Mk_markValue 13 = .ok (.lstore 6, 2) := by decide +kernel
theorem d_Mk_markValue_15 : decode b_Mk_markValue 15 = .ok (.aload_n 1, 1) := by decide +kernel
theorem d_Mk_markValue_16 : decode b_Mk_markValue 16 = .ok (.iload_n 2, 1) := by decide +kernel
theorem d_Mk_markValue_17 : decode b_Mk_markValue 17 = .ok (.iload 5, 2) := by decide +kernel
theorem d_Mk_markValue_19 : decode b_Mk_markValue 19 = .ok (.iadd, 1) := by decide +kernel
theorem d_Mk_markValue_20 : decode b_Mk_markValue 20 = .ok (.iaload, 1) := by decide +kernel
theorem d_Mk_markValue_21 : decode b_Mk_markValue 21 = .ok (.i2l, 1) := by decide +kernel
theorem d_Mk_markValue_22 : decode b_Mk_markValue 22 = .ok (.aload 4, 2) := by decide +kernel
theorem d_Mk_markValue_24 : decode b_Mk_markValue 24 = .ok (.getfield 44, 3) := by decide +kernel
theorem d_Mk_markValue_27 : decode b_Mk_markValue 27 = .ok (.iload 5, 2) := by decide +kernel
theorem d_Mk_markValue_29 : decode b_Mk_markValue 29 = .ok (.laload, 1) := by decide +kernel
theorem d_Mk_markValue_30 : decode b_Mk_markValue 30 = .ok (.lmul, 1) := by decide +kernel
theorem d_Mk_markValue_31 : decode b_Mk_markValue 31 = .ok (.aload_n 1, 1) := by decide +kernel
theorem d_Mk_markValue_32 : decode b_Mk_markValue 32 = .ok (.iload_n 2, 1) := by decide +kernel
theorem d_Mk_markValue_33 : decode b_Mk_markValue 33 = .ok (.iconst 2, 1) := by decide +kernel
theorem d_Mk_markValue_34 : decode b_Mk_markValue 34 = .ok (.iadd, 1) := by decide +kernel
theorem d_Mk_markValue_35 : decode b_Mk_markValue 35 = .ok (.iaload, 1) := by decide +kernel
theorem d_Mk_markValue_36 : decode b_Mk_markValue 36 = .ok (.i2l, 1) := by decide +kernel
theorem d_Mk_markValue_37 : decode b_Mk_markValue 37 = .ok (.lload 6, 2) := by decide +kernel
theorem d_Mk_markValue_39 : decode b_Mk_markValue 39 = .ok (.lmul, 1) := by decide +kernel
theorem d_Mk_markValue_40 : decode b_Mk_markValue 40 = .ok (.ladd, 1) := by decide +kernel
theorem d_Mk_markValue_41 : decode b_Mk_markValue 41 = .ok (.lstore 8, 2) := by decide +kernel
theorem d_Mk_markValue_43 : decode b_Mk_markValue 43 = .ok (.aload_n 0, 1) := by decide +kernel
theorem d_Mk_markValue_44 : decode b_Mk_markValue 44 = .ok (.lload 8, 2) := by decide +kernel
theorem d_Mk_markValue_46 : decode b_Mk_markValue 46 = .ok (.lneg, 1) := by decide +kernel
theorem d_Mk_markValue_47 : decode b_Mk_markValue 47 = .ok (.aload_n 1, 1) := by decide +kernel
theorem d_Mk_markValue_48 : decode b_Mk_markValue 48 = .ok (.iload_n 2, 1) := by decide +kernel
theorem d_Mk_markValue_49 : decode b_Mk_markValue 49 = .ok (.iload_n 3, 1) := by decide +kernel
theorem d_Mk_markValue_50 : decode b_Mk_markValue 50 = .ok (.iadd, 1) := by decide +kernel
theorem d_Mk_markValue_51 : decode b_Mk_markValue 51 = .ok (.iaload, 1) := by decide +kernel
theorem d_Mk_markValue_52 : decode b_Mk_markValue 52 = .ok (.i2l, 1) := by decide +kernel
theorem d_Mk_markValue_53 : decode b_Mk_markValue 53 = .ok (.lload 6, 2) := by decide +kernel
theorem d_Mk_markValue_55 : decode b_Mk_markValue 55 = .ok (.lmul, 1) := by decide +kernel
theorem d_Mk_markValue_56 : decode b_Mk_markValue 56 = .ok (.invokevirtual 45, 3) := by decide +kernel
theorem d_Mk_markValue_59 : decode b_Mk_markValue 59 = .ok (.return_, 1) := by decide +kernel
theorem d_Mk_insert_0 : decode b_Mk_insert 0 = .ok (.lload_n 3, 1) := by decide +kernel
theorem d_Mk_insert_1 : decode b_Mk_insert 1 = .ok (.lconst 0, 1) := by decide +kernel
theorem d_Mk_insert_2 : decode b_Mk_insert 2 = .ok (.lcmp, 1) := by decide +kernel
theorem d_Mk_insert_3 : decode b_Mk_insert 3 = .ok (.ifCond .eq 12, 3) := by decide +kernel
theorem d_Mk_insert_6 : decode b_Mk_insert 6 = .ok (.aload_n 0, 1) := by decide +kernel
theorem d_Mk_insert_7 : decode b_Mk_insert 7 = .ok (.getfield 16, 3) := by decide +kernel
theorem d_Mk_insert_10 : decode b_Mk_insert 10 = .ok (.bipush 21, 2) := by decide +kernel
theorem d_Mk_insert_12 : decode b_Mk_insert 12 = .ok (.if_icmp .lt 4, 3) := by decide +kernel
theorem d_Mk_insert_15 : decode b_Mk_insert 15 = .ok (.return_, 1) := by decide +kernel
theorem d_Mk_insert_16 : decode b_Mk_insert 16 = .ok (.lload_n 3, 1) := by decide +kernel
theorem d_Mk_insert_17 : decode b_Mk_insert 17 = .ok (.lconst 0, 1) := by decide +kernel
theorem d_Mk_insert_18 : decode b_Mk_insert 18 = .ok (.lcmp, 1) := by decide +kernel
theorem d_Mk_insert_19 : decode b_Mk_insert 19 = .ok (.ifCond .ge 8, 3) := by decide +kernel
theorem d_Mk_insert_22 : decode b_Mk_insert 22 = .ok (.lload_n 1, 1) := by decide +kernel
theorem d_Mk_insert_23 : decode b_Mk_insert 23 = .ok (.lneg, 1) := by decide +kernel
theorem d_Mk_insert_24 : decode b_Mk_insert 24 = .ok (.goto 4, 3) := by decide +kernel
theorem d_Mk_insert_27 : decode b_Mk_insert 27 = .ok (.lload_n 1, 1) := by decide +kernel
theorem d_Mk_insert_28 : decode b_Mk_insert 28 = .ok (.lstore 5, 2) := by decide +kernel
theorem d_Mk_insert_30 : decode b_Mk_insert 30 = .ok (.lload_n 3, 1) := by decide +kernel
theorem d_Mk_insert_31 : decode b_Mk_insert 31 = .ok (.lconst 0, 1) := by decide +kernel
theorem d_Mk_insert_32 : decode b_Mk_insert 32 = .ok (.lcmp, 1) := by decide +kernel
theorem d_Mk_insert_33 : decode b_Mk_insert 33 = .ok (.ifCond .ge 8, 3) := by decide +kernel
theorem d_Mk_insert_36 : decode b_Mk_insert 36 = .ok (.lload_n 3, 1) := by decide +kernel
theorem d_Mk_insert_37 : decode b_Mk_insert 37 = .ok (.lneg, 1) := by decide +kernel
theorem d_Mk_insert_38 : decode b_Mk_insert 38 = .ok (.goto 4, 3) := by decide +kernel
theorem d_Mk_insert_41 : decode b_Mk_insert 41 = .ok (.lload_n 3, 1) := by decide +kernel
theorem d_Mk_insert_42 : decode b_Mk_insert 42 = .ok (.lstore 7, 2) := by decide +kernel
theorem d_Mk_insert_44 : decode b_Mk_insert 44 = .ok (.aload_n 0, 1) := by decide +kernel
theorem d_Mk_insert_45 : decode b_Mk_insert 45 = .ok (.getfield 16, 3) := by decide +kernel
theorem d_Mk_insert_48 : decode b_Mk_insert 48 = .ok (.istore 9, 2) := by decide +kernel
theorem d_Mk_insert_50 : decode b_Mk_insert 50 = .ok (.iload 9, 2) := by decide +kernel
theorem d_Mk_insert_52 : decode b_Mk_insert 52 = .ok (.ifCond .le 37, 3) := by decide +kernel
theorem d_Mk_insert_55 : decode b_Mk_insert 55 = .ok (.aload_n 0, 1) := by decide +kernel
theorem d_Mk_insert_56 : decode b_Mk_insert 56 = .ok (.getfield 9, 3) := by decide +kernel
theorem d_Mk_insert_59 : decode b_Mk_insert 59 = .ok (.iload 9, 2) := by decide +kernel
theorem d_Mk_insert_61 : decode b_Mk_insert 61 = .ok (.iconst 1, 1) := by decide +kernel
theorem d_Mk_insert_62 : decode b_Mk_insert 62 = .ok (.isub, 1) := by decide +kernel
theorem d_Mk_insert_63 : decode b_Mk_insert 63 = .ok (.laload, 1) := by decide +kernel
theorem d_Mk_insert_64 : decode b_Mk_insert 64 = .ok (.lload 7, 2) := by decide +kernel
theorem d_Mk_insert_66 : decode b_Mk_insert 66 = .ok (.lmul, 1) := by decide +kernel
theorem d_Mk_insert_67 : decode b_Mk_insert 67 = .ok (.lload 5, 2) := by decide +kernel
theorem d_Mk_insert_69 : decode b_Mk_insert 69 = .ok (.aload_n 0, 1) := by decide +kernel
theorem d_Mk_insert_70 : decode b_Mk_insert 70 = .ok (.getfield 13, 3) := by decide +kernel
theorem d_Mk_insert_73 : decode b_Mk_insert 73 = .ok (.iload 9, 2) := by decide +kernel
theorem d_Mk_insert_75 : decode b_Mk_insert 75 = .ok (.iconst 1, 1) := by decide +kernel
theorem d_Mk_insert_76 : decode b_Mk_insert 76 = .ok (.isub, 1) := by decide +kernel
theorem d_Mk_insert_77 : decode b_Mk_insert 77 = .ok (.laload, 1) := by decide +kernel
theorem d_Mk_insert_78 : decode b_Mk_insert 78 = .ok (.lmul, 1) := by decide +kernel
theorem d_Mk_insert_79 : decode b_Mk_insert 79 = .ok (.lcmp, 1) := by decide +kernel
theorem d_Mk_insert_80 : decode b_Mk_insert 80 = .ok (.ifCond .le 9, 3) := by decide +kernel
theorem d_Mk_insert_83 : decode b_Mk_insert 83 = .ok (.iinc 9 (-1), 3) := by decide +kernel
theorem d_Mk_insert_86 : decode b_Mk_insert 86 = .ok (.goto (-36), 3) := by decide +kernel
theorem d_Mk_insert_89 : decode b_Mk_insert 89 = .ok (.iload 9, 2) := by decide +kernel
theorem d_Mk_insert_91 : decode b_Mk_insert 91 = .ok (.ifCond .le 32, 3) := by decide +kernel
theorem d_Mk_insert_94 : decode b_Mk_insert 94 = .ok (.aload_n 0, 1) := by decide +kernel
theorem d_Mk_insert_95 : decode b_Mk_insert 95 = .ok (.getfield 9, 3) := by decide +kernel
theorem d_Mk_insert_98 : decode b_Mk_insert 98 = .ok (.iload 9, 2) := by decide +kernel
theorem d_Mk_insert_100 : decode b_Mk_insert 100 = .ok (.iconst 1, 1) := by decide +kernel
theorem d_Mk_insert_101 : decode b_Mk_insert 101 = .ok (.isub, 1) := by decide +kernel
theorem d_Mk_insert_102 : decode b_Mk_insert 102 = .ok (.laload, 1) := by decide +kernel
theorem d_Mk_insert_103 : decode b_Mk_insert 103 = .ok (.lload 7, 2) := by decide +kernel
theorem d_Mk_insert_105 : decode b_Mk_insert 105 = .ok (.lmul, 1) := by decide +kernel
theorem d_Mk_insert_106 : decode b_Mk_insert 106 = .ok (.lload 5, 2) := by decide +kernel
theorem d_Mk_insert_108 : decode b_Mk_insert 108 = .ok (.aload_n 0, 1) := by decide +kernel
theorem d_Mk_insert_109 : decode b_Mk_insert 109 = .ok (.getfield 13, 3) := by decide +kernel
theorem d_Mk_insert_112 : decode b_Mk_insert 112 = .ok (.iload 9, 2) := by decide +kernel
theorem d_Mk_insert_114 : decode b_Mk_insert 114 = .ok (.iconst 1, 1) := by decide +kernel
theorem d_Mk_insert_115 : decode b_Mk_insert 115 = .ok (.isub, 1) := by decide +kernel
theorem d_Mk_insert_116 : decode b_Mk_insert 116 = .ok (.laload, 1) := by decide +kernel
theorem d_Mk_insert_117 : decode b_Mk_insert 117 = .ok (.lmul, 1) := by decide +kernel
theorem d_Mk_insert_118 : decode b_Mk_insert 118 = .ok (.lcmp, 1) := by decide +kernel
theorem d_Mk_insert_119 : decode b_Mk_insert 119 = .ok (.ifCond .ne 4, 3) := by decide +kernel
theorem d_Mk_insert_122 : decode b_Mk_insert 122 = .ok (.return_, 1) := by decide +kernel
theorem d_Mk_insert_123 : decode b_Mk_insert 123 = .ok (.aload_n 0, 1) := by decide +kernel
theorem d_Mk_insert_124 : decode b_Mk_insert 124 = .ok (.getfield 9, 3) := by decide +kernel
theorem d_Mk_insert_127 : decode b_Mk_insert 127 = .ok (.iload 9, 2) := by decide +kernel
theorem d_Mk_insert_129 : decode b_Mk_insert 129 = .ok (.aload_n 0, 1) := by decide +kernel
theorem d_Mk_insert_130 : decode b_Mk_insert 130 = .ok (.getfield 9, 3) := by decide +kernel
theorem d_Mk_insert_133 : decode b_Mk_insert 133 = .ok (.iload 9, 2) := by decide +kernel
theorem d_Mk_insert_135 : decode b_Mk_insert 135 = .ok (.iconst 1, 1) := by decide +kernel
theorem d_Mk_insert_136 : decode b_Mk_insert 136 = .ok (.iadd, 1) := by decide +kernel
theorem d_Mk_insert_137 : decode b_Mk_insert 137 = .ok (.aload_n 0, 1) := by decide +kernel
theorem d_Mk_insert_138 : decode b_Mk_insert 138 = .ok (.getfield 16, 3) := by decide +kernel
theorem d_Mk_insert_141 : decode b_Mk_insert 141 = .ok (.iload 9, 2) := by decide +kernel
theorem d_Mk_insert_143 : decode b_Mk_insert 143 = .ok (.isub, 1) := by decide +kernel
theorem d_Mk_insert_144 : decode b_Mk_insert 144 = .ok (.invokestatic 49, 3) := by decide +kernel
theorem d_Mk_insert_147 : decode b_Mk_insert 147 = .ok (.aload_n 0, 1) := by decide +kernel
theorem d_Mk_insert_148 : decode b_Mk_insert 148 = .ok (.getfield 13, 3) := by decide +kernel
theorem d_Mk_insert_151 : decode b_Mk_insert 151 = .ok (.iload 9, 2) := by decide +kernel
theorem d_Mk_insert_153 : decode b_Mk_insert 153 = .ok (.aload_n 0, 1) := by decide +kernel
theorem d_Mk_insert_154 : decode b_Mk_insert 154 = .ok (.getfield 13, 3) := by decide +kernel
theorem d_Mk_insert_157 : decode b_Mk_insert 157 = .ok (.iload 9, 2) := by decide +kernel
theorem d_Mk_insert_159 : decode b_Mk_insert 159 = .ok (.iconst 1, 1) := by decide +kernel
theorem d_Mk_insert_160 : decode b_Mk_insert 160 = .ok (.iadd, 1) := by decide +kernel
theorem d_Mk_insert_161 : decode b_Mk_insert 161 = .ok (.aload_n 0, 1) := by decide +kernel
theorem d_Mk_insert_162 : decode b_Mk_insert 162 = .ok (.getfield 16, 3) := by decide +kernel
theorem d_Mk_insert_165 : decode b_Mk_insert 165 = .ok (.iload 9, 2) := by decide +kernel
theorem d_Mk_insert_167 : decode b_Mk_insert 167 = .ok (.isub, 1) := by decide +kernel
theorem d_Mk_insert_168 : decode b_Mk_insert 168 = .ok (.invokestatic 49, 3) := by decide +kernel
theorem d_Mk_insert_171 : decode b_Mk_insert 171 = .ok (.aload_n 0, 1) := by decide +kernel
theorem d_Mk_insert_172 : decode b_Mk_insert 172 = .ok (.getfield 9, 3) := by decide +kernel
theorem d_Mk_insert_175 : decode b_Mk_insert 175 = .ok (.iload 9, 2) := by decide +kernel
theorem d_Mk_insert_177 : decode b_Mk_insert 177 = .ok (.lload 5, 2) := by decide +kernel
theorem d_Mk_insert_179 : decode b_Mk_insert 179 = .ok (.lastore, 1) := by decide +kernel
theorem d_Mk_insert_180 : decode b_Mk_insert 180 = .ok (.aload_n 0, 1) := by decide +kernel
theorem d_Mk_insert_181 : decode b_Mk_insert 181 = .ok (.getfield 13, 3) := by decide +kernel
theorem d_Mk_insert_184 : decode b_Mk_insert 184 = .ok (.iload 9, 2) := by decide +kernel
theorem d_Mk_insert_186 : decode b_Mk_insert 186 = .ok (.lload 7, 2) := by decide +kernel
theorem d_Mk_insert_188 : decode b_Mk_insert 188 = .ok (.lastore, 1) := by decide +kernel
theorem d_Mk_insert_189 : decode b_Mk_insert 189 = .ok (.aload_n 0, 1) := by decide +kernel
theorem d_Mk_insert_190 : decode b_Mk_insert 190 = .ok (.dup, 1) := by decide +kernel
theorem d_Mk_insert_191 : decode b_Mk_insert 191 = .ok (.getfield 16, 3) := by decide +kernel
theorem d_Mk_insert_194 : decode b_Mk_insert 194 = .ok (.iconst 1, 1) := by decide +kernel
theorem d_Mk_insert_195 : decode b_Mk_insert 195 = .ok (.iadd, 1) := by decide +kernel
theorem d_Mk_insert_196 : decode b_Mk_insert 196 = .ok (.putfield 16, 3) := by decide +kernel
theorem d_Mk_insert_199 : decode b_Mk_insert 199 = .ok (.return_, 1) := by decide +kernel
theorem d_Mk_markCrossing_0 : decode b_Mk_markCrossing 0 = .ok (.iconst 1, 1) := by decide +kernel
theorem d_Mk_markCrossing_1 : decode b_Mk_markCrossing 1 = .ok (.iload 4, 2) := by decide +kernel
theorem d_Mk_markCrossing_3 : decode b_Mk_markCrossing 3 = .ok (.isub, 1) := by decide +kernel
theorem d_Mk_markCrossing_4 : decode b_Mk_markCrossing 4 = .ok (.istore 5, 2) := by decide +kernel
theorem d_Mk_markCrossing_6 : decode b_Mk_markCrossing 6 = .ok (.aload_n 1, 1) := by decide +kernel
theorem d_Mk_markCrossing_7 : decode b_Mk_markCrossing 7 = .ok (.iload_n 2, 1) := by decide +kernel
theorem d_Mk_markCrossing_8 : decode b_Mk_markCrossing 8 = .ok (.iload 4, 2) := by decide +kernel
theorem d_Mk_markCrossing_10 : decode b_Mk_markCrossing 10 = .ok (.iadd, 1) := by decide +kernel
theorem d_Mk_markCrossing_11 : decode b_Mk_markCrossing 11 = .ok (.iaload, 1) := by decide +kernel
theorem d_Mk_markCrossing_12 : decode b_Mk_markCrossing 12 = .ok (.aload_n 1, 1) := by decide +kernel
theorem d_Mk_markCrossing_13 : decode b_Mk_markCrossing 13 = .ok (.iload_n 3, 1) := by decide +kernel
theorem d_Mk_markCrossing_14 : decode b_Mk_markCrossing 14 = .ok (.iload 5, 2) := by decide +kernel
theorem d_Mk_markCrossing_16 : decode b_Mk_markCrossing 16 = .ok (.iadd, 1) := by decide +kernel
theorem d_Mk_markCrossing_17 : decode b_Mk_markCrossing 17 = .ok (.iaload, 1) := by decide +kernel
theorem d_Mk_markCrossing_18 : decode b_Mk_markCrossing 18 = .ok (.imul, 1) := by decide +kernel
theorem d_Mk_markCrossing_19 : decode b_Mk_markCrossing 19 = .ok (.aload_n 1, 1) := by decide +kernel
theorem d_Mk_markCrossing_20 : decode b_Mk_markCrossing 20 = .ok (.iload_n 3, 1) := by decide +kernel
theorem d_Mk_markCrossing_21 : decode b_Mk_markCrossing 21 = .ok (.iload 4, 2) := by decide +kernel
theorem d_Mk_markCrossing_23 : decode b_Mk_markCrossing 23 = .ok (.iadd, 1) := by decide +kernel
theorem d_Mk_markCrossing_24 : decode b_Mk_markCrossing 24 = .ok (.iaload, 1) := by decide +kernel
theorem d_Mk_markCrossing_25 : decode b_Mk_markCrossing 25 = .ok (.aload_n 1, 1) := by decide +kernel
theorem d_Mk_markCrossing_26 : decode b_Mk_markCrossing 26 = .ok (.iload_n 2, 1) := by decide +kernel
theorem d_Mk_markCrossing_27 : decode b_Mk_markCrossing 27 = .ok (.iload 5, 2) := by decide +kernel
theorem d_Mk_markCrossing_29 : decode b_Mk_markCrossing 29 = .ok (.iadd, 1) := by decide +kernel
theorem d_Mk_markCrossing_30 : decode b_Mk_markCrossing 30 = .ok (.iaload, 1) := by decide +kernel
theorem d_Mk_markCrossing_31 : decode b_Mk_markCrossing 31 = .ok (.imul, 1) := by decide +kernel
theorem d_Mk_markCrossing_32 : decode b_Mk_markCrossing 32 = .ok (.isub, 1) := by decide +kernel
theorem d_Mk_markCrossing_33 : decode b_Mk_markCrossing 33 = .ok (.istore 6, 2) := by decide +kernel
theorem d_Mk_markCrossing_35 : decode b_Mk_markCrossing 35 = .ok (.aload_n 1, 1) := by decide +kernel
theorem d_Mk_markCrossing_36 : decode b_Mk_markCrossing 36 = .ok (.iload_n 2, 1) := by decide +kernel
theorem d_Mk_markCrossing_37 : decode b_Mk_markCrossing 37 = .ok (.iconst 2, 1) := by decide +kernel
theorem d_Mk_markCrossing_38 : decode b_Mk_markCrossing 38 = .ok (.iadd, 1) := by decide +kernel
theorem d_Mk_markCrossing_39 : decode b_Mk_markCrossing 39 = .ok (.iaload, 1) := by decide +kernel
theorem d_Mk_markCrossing_40 : decode b_Mk_markCrossing 40 = .ok (.aload_n 1, 1) := by decide +kernel
theorem d_Mk_markCrossing_41 : decode b_Mk_markCrossing 41 = .ok (.iload_n 3, 1) := by decide +kernel
theorem d_Mk_markCrossing_42 : decode b_Mk_markCrossing 42 = .ok (.iload 5, 2) := by decide +kernel
theorem d_Mk_markCrossing_44 : decode b_Mk_markCrossing 44 = .ok (.iadd, 1) := by decide +kernel
theorem d_Mk_markCrossing_45 : decode b_Mk_markCrossing 45 = .ok (.iaload, 1) := by decide +kernel
theorem d_Mk_markCrossing_46 : decode b_Mk_markCrossing 46 = .ok (.imul, 1) := by decide +kernel
theorem d_Mk_markCrossing_47 : decode b_Mk_markCrossing 47 = .ok (.aload_n 1, 1) := by decide +kernel
theorem d_Mk_markCrossing_48 : decode b_Mk_markCrossing 48 = .ok (.iload_n 3, 1) := by decide +kernel
theorem d_Mk_markCrossing_49 : decode b_Mk_markCrossing 49 = .ok (.iconst 2, 1) := by decide +kernel
theorem d_Mk_markCrossing_50 : decode b_Mk_markCrossing 50 = .ok (.iadd, 1) := by decide +kernel
theorem d_Mk_markCrossing_51 : decode b_Mk_markCrossing 51 = .ok (.iaload, 1) := by decide +kernel
theorem d_Mk_markCrossing_52 : decode b_Mk_markCrossing 52 = .ok (.aload_n 1, 1) := by decide +kernel
theorem d_Mk_markCrossing_53 : decode b_Mk_markCrossing 53 = .ok (.iload_n 2, 1) := by decide +kernel
theorem d_Mk_markCrossing_54 : decode b_Mk_markCrossing 54 = .ok (.iload 5, 2) := by decide +kernel
theorem d_Mk_markCrossing_56 : decode b_Mk_markCrossing 56 = .ok (.iadd, 1) := by decide +kernel
theorem d_Mk_markCrossing_57 : decode b_Mk_markCrossing 57 = .ok (.iaload, 1) := by decide +kernel
theorem d_Mk_markCrossing_58 : decode b_Mk_markCrossing 58 = .ok (.imul, 1) := by decide +kernel
theorem d_Mk_markCrossing_59 : decode b_Mk_markCrossing 59 = .ok (.isub, 1) := by decide +kernel
theorem d_Mk_markCrossing_60 : decode b_Mk_markCrossing 60 = .ok (.istore 7, 2) := by decide +kernel
theorem d_Mk_markCrossing_62 : decode b_Mk_markCrossing 62 = .ok (.aload_n 0, 1) := by decide +kernel
theorem d_Mk_markCrossing_63 : decode b_Mk_markCrossing 63 = .ok (.iload 7, 2) := by decide +kernel
theorem d_Mk_markCrossing_65 : decode b_Mk_markCrossing 65 = .ok (.ineg, 1) := by decide +kernel
theorem d_Mk_markCrossing_66 : decode b_Mk_markCrossing 66 = .ok (.i2l, 1) := by decide +kernel
theorem d_Mk_markCrossing_67 : decode b_Mk_markCrossing 67 = .ok (.iload 6, 2) := by decide +kernel
theorem d_Mk_markCrossing_69 : decode b_Mk_markCrossing 69 = .ok (.i2l, 1) := by decide +kernel
theorem d_Mk_markCrossing_70 : decode b_Mk_markCrossing 70 = .ok (.invokevirtual 45, 3) := by decide +kernel
theorem d_Mk_markCrossing_73 : decode b_Mk_markCrossing 73 = .ok (.return_, 1) := by decide +kernel
theorem d_Mk_stops_0 : decode b_Mk_stops 0 = .ok (.iconst 2, 1) := by decide +kernel
theorem d_Mk_stops_1 : decode b_Mk_stops 1 = .ok (.aload_n 0, 1) := by decide +kernel
theorem d_Mk_stops_2 : decode b_Mk_stops 2 = .ok (.getfield 16, 3) := by decide +kernel
theorem d_Mk_stops_5 : decode b_Mk_stops 5 = .ok (.imul, 1) := by decide +kernel
theorem d_Mk_stops_6 : decode b_Mk_stops 6 = .ok (.iconst 1, 1) := by decide +kernel
theorem d_Mk_stops_7 : decode b_Mk_stops 7 = .ok (.iadd, 1) := by decide +kernel
theorem d_Mk_stops_8 : decode b_Mk_stops 8 = .ok (.ireturn, 1) := by decide +kernel
theorem d_Mk_moveTo_0 : decode b_Mk_moveTo 0 = .ok (.iload_n 1, 1) := by decide +kernel
theorem d_Mk_moveTo_1 : decode b_Mk_moveTo 1 = .ok (.iconst 2, 1) := by decide +kernel
theorem d_Mk_moveTo_2 : decode b_Mk_moveTo 2 = .ok (.idiv, 1) := by decide +kernel
theorem d_Mk_moveTo_3 : decode b_Mk_moveTo 3 = .ok (.istore 4, 2) := by decide +kernel
theorem d_Mk_moveTo_5 : decode b_Mk_moveTo 5 = .ok (.aload_n 0, 1) := by decide +kernel
theorem d_Mk_moveTo_6 : decode b_Mk_moveTo 6 = .ok (.getfield 16, 3) := by decide +kernel
theorem d_Mk_moveTo_9 : decode b_Mk_moveTo 9 = .ok (.ifCond .ne 13, 3) := by decide +kernel
theorem d_Mk_moveTo_12 : decode b_Mk_moveTo 12 = .ok (.aload_n 3, 1) := by decide +kernel
theorem d_Mk_moveTo_13 : decode b_Mk_moveTo 13 = .ok (.iload_n 2, 1) := by decide +kernel
theorem d_Mk_moveTo_14 : decode b_Mk_moveTo 14 = .ok (.lconst 0, 1) := by decide +kernel
theorem d_Mk_moveTo_15 : decode b_Mk_moveTo 15 = .ok (.lconst 1, 1) := by decide +kernel
theorem d_Mk_moveTo_16 : decode b_Mk_moveTo 16 = .ok (.invokevirtual 55, 3) := by decide +kernel
theorem d_Mk_moveTo_19 : decode b_Mk_moveTo 19 = .ok (.goto 163, 3) := by decide +kernel
theorem d_Mk_moveTo_22 : decode b_Mk_moveTo 22 = .ok (.iload_n 1, 1) := by decide +kernel
theorem d_Mk_moveTo_23 : decode b_Mk_moveTo 23 = .ok (.iconst 2, 1) := by decide +kernel
theorem d_Mk_moveTo_24 : decode b_Mk_moveTo 24 = .ok (.irem, 1) := by decide +kernel
theorem d_Mk_moveTo_25 : decode b_Mk_moveTo 25 = .ok (.iconst 1, 1) := by decide +kernel
theorem d_Mk_moveTo_26 : decode b_Mk_moveTo 26 = .ok (.if_icmp .ne 34, 3) := by decide +kernel
theorem d_Mk_moveTo_29 : decode b_Mk_moveTo 29 = .ok (.iload 4, 2) := by decide +kernel
theorem d_Mk_moveTo_31 : decode b_Mk_moveTo 31 = .ok (.aload_n 0, 1) := by decide +kernel
theorem d_Mk_moveTo_32 : decode b_Mk_moveTo 32 = .ok (.getfield 16, 3) := by decide +kernel
theorem d_Mk_moveTo_35 : decode b_Mk_moveTo 35 = .ok (.if_icmp .ge 25, 3) := by decide +kernel
theorem d_Mk_moveTo_38 : decode b_Mk_moveTo 38 = .ok (.aload_n 3, 1) := by decide +kernel
theorem d_Mk_moveTo_39 : decode b_Mk_moveTo 39 = .ok (.iload_n 2, 1) := by decide +kernel
theorem d_Mk_moveTo_40 : decode b_Mk_moveTo 40 = .ok (.aload_n 0, 1) := by decide +kernel
theorem d_Mk_moveTo_41 : decode b_Mk_moveTo 41 = .ok (.getfield 9, 3) := by decide +kernel
theorem d_Mk_moveTo_44 : decode b_Mk_moveTo 44 = .ok (.iload 4, 2) := by decide +kernel
theorem d_Mk_moveTo_46 : decode b_Mk_moveTo 46 = .ok (.laload, 1) := by decide +kernel
theorem d_Mk_moveTo_47 : decode b_Mk_moveTo 47 = .ok (.aload_n 0, 1) := by decide +kernel
theorem d_Mk_moveTo_48 : decode b_Mk_moveTo 48 = .ok (.getfield 13, 3) := by decide +kernel
theorem d_Mk_moveTo_51 : decode b_Mk_moveTo 51 = .ok (.iload 4, 2) := by decide +kernel
theorem d_Mk_moveTo_53 : decode b_Mk_moveTo 53 = .ok (.laload, 1) := by decide +kernel
theorem d_Mk_moveTo_54 : decode b_Mk_moveTo 54 = .ok (.invokevirtual 55, 3) := by decide +kernel
theorem d_Mk_moveTo_57 : decode b_Mk_moveTo 57 = .ok (.goto 125, 3) := by decide +kernel
theorem d_Mk_moveTo_60 : decode b_Mk_moveTo 60 = .ok (.iload 4, 2) := by decide +kernel
theorem d_Mk_moveTo_62 : decode b_Mk_moveTo 62 = .ok (.ifCond .ne 30, 3) := by decide +kernel
theorem d_Mk_moveTo_65 : decode b_Mk_moveTo 65 = .ok (.aload_n 3, 1) := by decide +kernel
theorem d_Mk_moveTo_66 : decode b_Mk_moveTo 66 = .ok (.iload_n 2, 1) := by decide +kernel
theorem d_Mk_moveTo_67 : decode b_Mk_moveTo 67 = .ok (.aload_n 0, 1) := by decide +kernel
theorem d_Mk_moveTo_68 : decode b_Mk_moveTo 68 = .ok (.getfield 9, 3) := by decide +kernel
theorem d_Mk_moveTo_71 : decode b_Mk_moveTo 71 = .ok (.iconst 0, 1) := by decide +kernel
theorem d_Mk_moveTo_72 : decode b_Mk_moveTo 72 = .ok (.laload, 1) := by decide +kernel
theorem d_Mk_moveTo_73 : decode b_Mk_moveTo 73 = .ok (.aload_n 0, 1) := by decide +kernel
theorem d_Mk_moveTo_74 : decode b_Mk_moveTo 74 = .ok (.getfield 13, 3) := by decide +kernel
theorem d_Mk_moveTo_77 : decode b_Mk_moveTo 77 = .ok (.iconst 0, 1) := by decide +kernel
theorem d_Mk_moveTo_78 : decode b_Mk_moveTo 78 = .ok (.laload, 1) := by decide +kernel
theorem d_Mk_moveTo_79 : decode b_Mk_moveTo 79 = .ok (.lsub, 1) := by decide +kernel
theorem d_Mk_moveTo_80 : decode b_Mk_moveTo 80 = .ok (.aload_n 0, 1) := by decide +kernel
theorem d_Mk_moveTo_81 : decode b_Mk_moveTo 81 = .ok (.getfield 13, 3) := by decide +kernel
theorem d_Mk_moveTo_84 : decode b_Mk_moveTo 84 = .ok (.iconst 0, 1) := by decide +kernel
theorem d_Mk_moveTo_85 : decode b_Mk_moveTo 85 = .ok (.laload, 1) := by decide +kernel
theorem d_Mk_moveTo_86 : decode b_Mk_moveTo 86 = .ok (.invokevirtual 55, 3) := by decide +kernel
theorem d_Mk_moveTo_89 : decode b_Mk_moveTo 89 = .ok (.goto 93, 3) := by decide +kernel
theorem d_Mk_moveTo_92 : decode b_Mk_moveTo 92 = .ok (.iload 4, 2) := by decide +kernel
theorem d_Mk_moveTo_94 : decode b_Mk_moveTo 94 = .ok (.aload_n 0, 1) := by decide +kernel
theorem d_Mk_moveTo_95 : decode b_Mk_moveTo 95 = .ok (.getfield 16, 3) := by decide +kernel
theorem d_Mk_moveTo_98 : decode b_Mk_moveTo 98 = .ok (.if_icmp .lt 45, 3) := by decide +kernel
theorem d_Mk_moveTo_101 : decode b_Mk_moveTo 101 = .ok (.aload_n 3, 1) := by decide +kernel
theorem d_Mk_moveTo_102 : decode b_Mk_moveTo 102 = .ok (.iload_n 2, 1) := by decide +kernel
theorem d_Mk_moveTo_103 : decode b_Mk_moveTo 103 = .ok (.aload_n 0, 1) := by decide +kernel
theorem d_Mk_moveTo_104 : decode b_Mk_moveTo 104 = .ok (.getfield 9, 3) := by decide +kernel
theorem d_Mk_moveTo_107 : decode b_Mk_moveTo 107 = .ok (.aload_n 0, 1) := by decide +kernel
theorem d_Mk_moveTo_108 : decode b_Mk_moveTo 108 = .ok (.getfield 16, 3) := by decide +kernel
theorem d_Mk_moveTo_111 : decode b_Mk_moveTo 111 = .ok (.iconst 1, 1) := by decide +kernel
theorem d_Mk_moveTo_112 : decode b_Mk_moveTo 112 = .ok (.isub, 1) := by decide +kernel
theorem d_Mk_moveTo_113 : decode b_Mk_moveTo 113 = .ok (.laload, 1) := by decide +kernel
theorem d_Mk_moveTo_114 : decode b_Mk_moveTo 114 = .ok (.aload_n 0, 1) := by decide +kernel
theorem d_Mk_moveTo_115 : decode b_Mk_moveTo 115 = .ok (.getfield 13, 3) := by decide +kernel
theorem d_Mk_moveTo_118 : decode b_Mk_moveTo 118 = .ok (.aload_n 0, 1) := by decide +kernel
theorem d_Mk_moveTo_119 : decode b_Mk_moveTo 119 = .ok (.getfield 16, 3) := by decide +kernel
theorem d_Mk_moveTo_122 : decode b_Mk_moveTo 122 = .ok (.iconst 1, 1) := by decide +kernel
theorem d_Mk_moveTo_123 : decode b_Mk_moveTo 123 = .ok (.isub, 1) := by decide +kernel
theorem d_Mk_moveTo_124 : decode b_Mk_moveTo 124 = .ok (.laload, 1) := by decide +kernel
theorem d_Mk_moveTo_125 : decode b_Mk_moveTo 125 = .ok (.ladd, 1) := by decide +kernel
theorem d_Mk_moveTo_126 : decode b_Mk_moveTo 126 = .ok (.aload_n 0, 1) := by decide +kernel
theorem d_Mk_moveTo_127 : decode b_Mk_moveTo 127 = .ok (.getfield 13, 3) := by decide +kernel
theorem d_Mk_moveTo_130 : decode b_Mk_moveTo 130 = .ok (.aload_n 0, 1) := by decide +kernel
theorem d_Mk_moveTo_131 : decode b_Mk_moveTo 131 = .ok (.getfield 16, 3) := by decide +kernel
theorem d_Mk_moveTo_134 : decode b_Mk_moveTo 134 = .ok (.iconst 1, 1) := by decide +kernel
theorem d_Mk_moveTo_135 : decode b_Mk_moveTo 135 = .ok (.isub, 1) := by decide +kernel
theorem d_Mk_moveTo_136 : decode b_Mk_moveTo 136 = .ok (.laload, 1) := by decide +kernel
theorem d_Mk_moveTo_137 : decode b_Mk_moveTo 137 = .ok (.invokevirtual 55, 3) := by decide +kernel
theorem d_Mk_moveTo_140 : decode b_Mk_moveTo 140 = .ok (.goto 42, 3) := by decide +kernel
theorem d_Mk_moveTo_143 : decode b_Mk_moveTo 143 = .ok (.aload_n 3, 1) := by decide +kernel
theorem d_Mk_moveTo_144 : decode b_Mk_moveTo 144 = .ok (.iload_n 2, 1) := by decide +kernel
theorem d_Mk_moveTo_145 : decode b_Mk_moveTo 145 = .ok (.aload_n 0, 1) := by decide +kernel
theorem d_Mk_moveTo_146 : decode b_Mk_moveTo 146 = .ok (.getfield 9, 3) := by decide +kernel
theorem d_Mk_moveTo_149 : decode b_Mk_moveTo 149 = .ok (.iload 4, 2) := by decide +kernel
theorem d_Mk_moveTo_151 : decode b_Mk_moveTo 151 = .ok (.iconst 1, 1) := by decide +kernel
theorem d_Mk_moveTo_152 : decode b_Mk_moveTo 152 = .ok (.isub, 1) := by decide +kernel
theorem d_Mk_moveTo_153 : decode b_Mk_moveTo 153 = .ok (.laload, 1) := by decide +kernel
theorem d_Mk_moveTo_154 : decode b_Mk_moveTo 154 = .ok (.aload_n 0, 1) := by decide +kernel
theorem d_Mk_moveTo_155 : decode b_Mk_moveTo 155 = .ok (.getfield 9, 3) := by decide +kernel
theorem d_Mk_moveTo_158 : decode b_Mk_moveTo 158 = .ok (.iload 4, 2) := by decide +kernel
theorem d_Mk_moveTo_160 : decode b_Mk_moveTo 160 = .ok (.laload, 1) := by decide +kernel
theorem d_Mk_moveTo_161 : decode b_Mk_moveTo 161 = .ok (.ladd, 1) := by decide +kernel
theorem d_Mk_moveTo_162 : decode b_Mk_moveTo 162 = .ok (.aload_n 0, 1) := by decide +kernel
theorem d_Mk_moveTo_163 : decode b_Mk_moveTo 163 = .ok (.getfield 13, 3) := by decide +kernel
theorem d_Mk_moveTo_166 : decode b_Mk_moveTo 166 = .ok (.iload 4, 2) := by decide +kernel
theorem d_Mk_moveTo_168 : decode b_Mk_moveTo 168 = .ok (.iconst 1, 1) := by decide +kernel
theorem d_Mk_moveTo_169 : decode b_Mk_moveTo 169 = .ok (.isub, 1) := by decide +kernel
theorem d_Mk_moveTo_170 : decode b_Mk_moveTo 170 = .ok (.laload, 1) := by decide +kernel
theorem d_Mk_moveTo_171 : decode b_Mk_moveTo 171 = .ok (.aload_n 0, 1) := by decide +kernel
theorem d_Mk_moveTo_172 : decode b_Mk_moveTo 172 = .ok (.getfield 13, 3) := by decide +kernel
theorem d_Mk_moveTo_175 : decode b_Mk_moveTo 175 = .ok (.iload 4, 2) := by decide +kernel
theorem d_Mk_moveTo_177 : decode b_Mk_moveTo 177 = .ok (.laload, 1) := by decide +kernel
theorem d_Mk_moveTo_178 : decode b_Mk_moveTo 178 = .ok (.ladd, 1) := by decide +kernel
theorem d_Mk_moveTo_179 : decode b_Mk_moveTo 179 = .ok (.invokevirtual 55, 3) := by decide +kernel
theorem d_Mk_moveTo_182 : decode b_Mk_moveTo 182 = .ok (.return_, 1) := by decide +kernel
theorem d_Mk_lowestAbove_0 : decode b_Mk_lowestAbove 0 = .ok (.aload_n 0, 1) := by decide +kernel
theorem d_Mk_lowestAbove_1 : decode b_Mk_lowestAbove 1 = .ok (.getfield 9, 3) := by decide +kernel
theorem d_Mk_lowestAbove_4 : decode b_Mk_lowestAbove 4 = .ok (.iload_n 1, 1) := by decide +kernel
theorem d_Mk_lowestAbove_5 : decode b_Mk_lowestAbove 5 = .ok (.laload, 1) := by decide +kernel
theorem d_Mk_lowestAbove_6 : decode b_Mk_lowestAbove 6 = .ok (.aload_n 0, 1) := by decide +kernel
theorem d_Mk_lowestAbove_7 : decode b_Mk_lowestAbove 7 = .ok (.iload_n 1, 1) := by decide +kernel
theorem d_Mk_lowestAbove_8 : decode b_Mk_lowestAbove 8 = .ok (.invokevirtual 59, 3) := by decide +kernel
theorem d_Mk_lowestAbove_11 : decode b_Mk_lowestAbove 11 = .ok (.ldiv, 1) := by decide +kernel
theorem d_Mk_lowestAbove_12 : decode b_Mk_lowestAbove 12 = .ok (.lreturn, 1) := by decide +kernel
theorem d_Mk_divisorOf_0 : decode b_Mk_divisorOf 0 = .ok (.aload_n 0, 1) := by decide +kernel
theorem d_Mk_divisorOf_1 : decode b_Mk_divisorOf 1 = .ok (.getfield 13, 3) := by decide +kernel
theorem d_Mk_divisorOf_4 : decode b_Mk_divisorOf 4 = .ok (.iload_n 1, 1) := by decide +kernel
theorem d_Mk_divisorOf_5 : decode b_Mk_divisorOf 5 = .ok (.laload, 1) := by decide +kernel
theorem d_Mk_divisorOf_6 : decode b_Mk_divisorOf 6 = .ok (.lstore_n 2, 1) := by decide +kernel
theorem d_Mk_divisorOf_7 : decode b_Mk_divisorOf 7 = .ok (.aload_n 0, 1) := by decide +kernel
theorem d_Mk_divisorOf_8 : decode b_Mk_divisorOf 8 = .ok (.getfield 9, 3) := by decide +kernel
theorem d_Mk_divisorOf_11 : decode b_Mk_divisorOf 11 = .ok (.iload_n 1, 1) := by decide +kernel
theorem d_Mk_divisorOf_12 : decode b_Mk_divisorOf 12 = .ok (.laload, 1) := by decide +kernel
theorem d_Mk_divisorOf_13 : decode b_Mk_divisorOf 13 = .ok (.invokestatic 63, 3) := by decide +kernel
theorem d_Mk_divisorOf_16 : decode b_Mk_divisorOf 16 = .ok (.lstore 4, 2) := by decide +kernel
theorem d_Mk_divisorOf_18 : decode b_Mk_divisorOf 18 = .ok (.iconst 0, 1) := by decide +kernel
theorem d_Mk_divisorOf_19 : decode b_Mk_divisorOf 19 = .ok (.istore 6, 2) := by decide +kernel
theorem d_Mk_divisorOf_21 : decode b_Mk_divisorOf 21 = .ok (.iload 6, 2) := by decide +kernel
theorem d_Mk_divisorOf_23 : decode b_Mk_divisorOf 23 = .ok (.bipush 100, 2) := by decide +kernel
theorem d_Mk_divisorOf_25 : decode b_Mk_divisorOf 25 = .ok (.if_icmp .ge 29, 3) := by decide +kernel
theorem d_Mk_divisorOf_28 : decode b_Mk_divisorOf 28 = .ok (.lload 4, 2) := by decide +kernel
theorem d_Mk_divisorOf_30 : decode b_Mk_divisorOf 30 = .ok (.lconst 0, 1) := by decide +kernel
theorem d_Mk_divisorOf_31 : decode b_Mk_divisorOf 31 = .ok (.lcmp, 1) := by decide +kernel
theorem d_Mk_divisorOf_32 : decode b_Mk_divisorOf 32 = .ok (.ifCond .eq 22, 3) := by decide +kernel
theorem d_Mk_divisorOf_35 : decode b_Mk_divisorOf 35 = .ok (.lload_n 2, 1) := by decide +kernel
theorem d_Mk_divisorOf_36 : decode b_Mk_divisorOf 36 = .ok (.lload 4, 2) := by decide +kernel
theorem d_Mk_divisorOf_38 : decode b_Mk_divisorOf 38 = .ok (.lrem, 1) := by decide +kernel
theorem d_Mk_divisorOf_39 : decode b_Mk_divisorOf 39 = .ok (.lstore 7, 2) := by decide +kernel
theorem d_Mk_divisorOf_41 : decode b_Mk_divisorOf 41 = .ok (.lload 4, 2) := by decide +kernel
theorem d_Mk_divisorOf_43 : decode b_Mk_divisorOf 43 = .ok (.lstore_n 2, 1) := by decide +kernel
theorem d_Mk_divisorOf_44 : decode b_Mk_divisorOf 44 = .ok (.lload 7, 2) := by decide +kernel
theorem d_Mk_divisorOf_46 : decode b_Mk_divisorOf 46 = .ok (.lstore 4, 2) := by decide +kernel
theorem d_Mk_divisorOf_48 : decode b_Mk_divisorOf 48 = .ok (.iinc 6 1, 3) := by decide +kernel
theorem d_Mk_divisorOf_51 : decode b_Mk_divisorOf 51 = .ok (.goto (-30), 3) := by decide +kernel
theorem d_Mk_divisorOf_54 : decode b_Mk_divisorOf 54 = .ok (.lload_n 2, 1) := by decide +kernel
theorem d_Mk_divisorOf_55 : decode b_Mk_divisorOf 55 = .ok (.lconst 1, 1) := by decide +kernel
theorem d_Mk_divisorOf_56 : decode b_Mk_divisorOf 56 = .ok (.invokestatic 69, 3) := by decide +kernel
theorem d_Mk_divisorOf_59 : decode b_Mk_divisorOf 59 = .ok (.lreturn, 1) := by decide +kernel
theorem d_Mk_lowestBelow_0 : decode b_Mk_lowestBelow 0 = .ok (.aload_n 0, 1) := by decide +kernel
theorem d_Mk_lowestBelow_1 : decode b_Mk_lowestBelow 1 = .ok (.getfield 13, 3) := by decide +kernel
theorem d_Mk_lowestBelow_4 : decode b_Mk_lowestBelow 4 = .ok (.iload_n 1, 1) := by decide +kernel
theorem d_Mk_lowestBelow_5 : decode b_Mk_lowestBelow 5 = .ok (.laload, 1) := by decide +kernel
theorem d_Mk_lowestBelow_6 : decode b_Mk_lowestBelow 6 = .ok (.aload_n 0, 1) := by decide +kernel
theorem d_Mk_lowestBelow_7 : decode b_Mk_lowestBelow 7 = .ok (.iload_n 1, 1) := by decide +kernel
theorem d_Mk_lowestBelow_8 : decode b_Mk_lowestBelow 8 = .ok (.invokevirtual 59, 3) := by decide +kernel
theorem d_Mk_lowestBelow_11 : decode b_Mk_lowestBelow 11 = .ok (.ldiv, 1) := by decide +kernel
theorem d_Mk_lowestBelow_12 : decode b_Mk_lowestBelow 12 = .ok (.lreturn, 1) := by decide +kernel
theorem d_Nd_grid_0 : decode b_Nd_grid 0 = .ok (.aload_n 0, 1) := by decide +kernel
theorem d_Nd_grid_1 : decode b_Nd_grid 1 = .ok (.getfield 22, 3) := by decide +kernel
theorem d_Nd_grid_4 : decode b_Nd_grid 4 = .ok (.iconst (-1), 1) := by decide +kernel
theorem d_Nd_grid_5 : decode b_Nd_grid 5 = .ok (.if_icmp .ne 12, 3) := by decide +kernel
theorem d_Nd_grid_8 : decode b_Nd_grid 8 = .ok (.aload_n 0, 1) := by decide +kernel
theorem d_Nd_grid_9 : decode b_Nd_grid 9 = .ok (.aload_n 0, 1) := by decide +kernel
theorem d_Nd_grid_10 : decode b_Nd_grid 10 = .ok (.aload_n 1, 1) := by decide +kernel
theorem d_Nd_grid_11 : decode b_Nd_grid 11 = .ok (.invokevirtual 30, 3) := by decide +kernel
theorem d_Nd_grid_14 : decode b_Nd_grid 14 = .ok (.putfield 22, 3) := by decide +kernel
theorem d_Nd_grid_17 : decode b_Nd_grid 17 = .ok (.aload_n 0, 1) := by decide +kernel
theorem d_Nd_grid_18 : decode b_Nd_grid 18 = .ok (.getfield 22, 3) := by decide +kernel
theorem d_Nd_grid_21 : decode b_Nd_grid 21 = .ok (.ireturn, 1) := by decide +kernel
theorem d_Nd_findGrid_0 : decode b_Nd_findGrid 0 = .ok (.iconst 0, 1) := by decide +kernel
theorem d_Nd_findGrid_1 : decode b_Nd_findGrid 1 = .ok (.istore_n 2, 1) := by decide +kernel
theorem d_Nd_findGrid_2 : decode b_Nd_findGrid 2 = .ok (.iconst 0, 1) := by decide +kernel
theorem d_Nd_findGrid_3 : decode b_Nd_findGrid 3 = .ok (.istore_n 3, 1) := by decide +kernel
theorem d_Nd_findGrid_4 : decode b_Nd_findGrid 4 = .ok (.iload_n 3, 1) := by decide +kernel
theorem d_Nd_findGrid_5 : decode b_Nd_findGrid 5 = .ok (.bipush 25, 2) := by decide +kernel
theorem d_Nd_findGrid_7 : decode b_Nd_findGrid 7 = .ok (.if_icmp .ge 110, 3) := by decide +kernel
theorem d_Nd_findGrid_10 : decode b_Nd_findGrid 10 = .ok (.iload_n 3, 1) := by decide +kernel
theorem d_Nd_findGrid_11 : decode b_Nd_findGrid 11 = .ok (.iconst 5, 1) := by decide +kernel
theorem d_Nd_findGrid_12 : decode b_Nd_findGrid 12 = .ok (.idiv, 1) := by decide +kernel
theorem d_Nd_findGrid_13 : decode b_Nd_findGrid 13 = .ok (.istore 4, 2) := by decide +kernel
theorem d_Nd_findGrid_15 : decode b_Nd_findGrid 15 = .ok (.iload_n 3, 1) := by decide +kernel
theorem d_Nd_findGrid_16 : decode b_Nd_findGrid 16 = .ok (.iconst 5, 1) := by decide +kernel
theorem d_Nd_findGrid_17 : decode b_Nd_findGrid 17 = .ok (.irem, 1) := by decide +kernel
theorem d_Nd_findGrid_18 : decode b_Nd_findGrid 18 = .ok (.istore 5, 2) := by decide +kernel
theorem d_Nd_findGrid_20 : decode b_Nd_findGrid 20 = .ok (.aload_n 0, 1) := by decide +kernel
theorem d_Nd_findGrid_21 : decode b_Nd_findGrid 21 = .ok (.iconst 0, 1) := by decide +kernel
theorem d_Nd_findGrid_22 : decode b_Nd_findGrid 22 = .ok (.invokevirtual 34, 3) := by decide +kernel
theorem d_Nd_findGrid_25 : decode b_Nd_findGrid 25 = .ok (.ifCond .eq 8, 3) := by decide +kernel
theorem d_Nd_findGrid_28 : decode b_Nd_findGrid 28 = .ok (.iload 4, 2) := by decide +kernel
theorem d_Nd_findGrid_30 : decode b_Nd_findGrid 30 = .ok (.goto 4, 3) := by decide +kernel
theorem d_Nd_findGrid_33 : decode b_Nd_findGrid 33 = .ok (.iconst 0, 1) := by decide +kernel
theorem d_Nd_findGrid_34 : decode b_Nd_findGrid 34 = .ok (.iconst 5, 1) := by decide +kernel
theorem d_Nd_findGrid_35 : decode b_Nd_findGrid 35 = .ok (.imul, 1) := by decide +kernel
theorem d_Nd_findGrid_36 : decode b_Nd_findGrid 36 = .ok (.aload_n 0, 1) := by decide +kernel
theorem d_Nd_findGrid_37 : decode b_Nd_findGrid 37 = .ok (.iconst 1, 1) := by decide +kernel
theorem d_Nd_findGrid_38 : decode b_Nd_findGrid 38 = .ok (.invokevirtual 34, 3) := by decide +kernel
theorem d_Nd_findGrid_41 : decode b_Nd_findGrid 41 = .ok (.ifCond .eq 8, 3) := by decide +kernel
theorem d_Nd_findGrid_44 : decode b_Nd_findGrid 44 = .ok (.iload 5, 2) := by decide +kernel
theorem d_Nd_findGrid_46 : decode b_Nd_findGrid 46 = .ok (.goto 4, 3) := by decide +kernel
theorem d_Nd_findGrid_49 : decode b_Nd_findGrid 49 = .ok (.iconst 0, 1) := by decide +kernel
theorem d_Nd_findGrid_50 : decode b_Nd_findGrid 50 = .ok (.iadd, 1) := by decide +kernel
theorem d_Nd_findGrid_51 : decode b_Nd_findGrid 51 = .ok (.istore 6, 2) := by decide +kernel
theorem d_Nd_findGrid_53 : decode b_Nd_findGrid 53 = .ok (.iload 6, 2) := by decide +kernel
theorem d_Nd_findGrid_55 : decode b_Nd_findGrid 55 = .ok (.iload_n 3, 1) := by decide +kernel
theorem d_Nd_findGrid_56 : decode b_Nd_findGrid 56 = .ok (.if_icmp .ge 23, 3) := by decide +kernel
theorem d_Nd_findGrid_59 : decode b_Nd_findGrid 59 = .ok (.iload_n 2, 1) := by decide +kernel
theorem d_Nd_findGrid_60 : decode b_Nd_findGrid 60 = .ok (.iload 6, 2) := by decide +kernel
theorem d_Nd_findGrid_62 : decode b_Nd_findGrid 62 = .ok (.ishr, 1) := by decide +kernel
theorem d_Nd_findGrid_63 : decode b_Nd_findGrid 63 = .ok (.iconst 1, 1) := by decide +kernel
theorem d_Nd_findGrid_64 : decode b_Nd_findGrid 64 = .ok (.iand, 1) := by decide +kernel
theorem d_Nd_findGrid_65 : decode b_Nd_findGrid 65 = .ok (.iconst 1, 1) := by decide +kernel
theorem d_Nd_findGrid_66 : decode b_Nd_findGrid 66 = .ok (.if_icmp .ne 7, 3) := by decide +kernel
theorem d_Nd_findGrid_69 : decode b_Nd_findGrid 69 = .ok (.iconst 1, 1) := by decide +kernel
theorem d_Nd_findGrid_70 : decode b_Nd_findGrid 70 = .ok (.goto 4, 3) := by decide +kernel
theorem d_Nd_findGrid_73 : decode b_Nd_findGrid 73 = .ok (.iconst 0, 1) := by decide +kernel
theorem d_Nd_findGrid_74 : decode b_Nd_findGrid 74 = .ok (.istore 7, 2) := by decide +kernel
theorem d_Nd_findGrid_76 : decode b_Nd_findGrid 76 = .ok (.goto 24, 3) := by decide +kernel
theorem d_Nd_findGrid_79 : decode b_Nd_findGrid 79 = .ok (.aload_n 1, 1) := by decide +kernel
theorem d_Nd_findGrid_80 : decode b_Nd_findGrid 80 = .ok (.iload 4, 2) := by decide +kernel
theorem d_Nd_findGrid_82 : decode b_Nd_findGrid 82 = .ok (.bipush (-2), 2) := by decide +kernel
theorem d_Nd_findGrid_84 : decode b_Nd_findGrid 84 = .ok (.iadd, 1) := by decide +kernel
theorem d_Nd_findGrid_85 : decode b_Nd_findGrid 85 = .ok (.iload 5, 2) := by decide +kernel
theorem d_Nd_findGrid_87 : decode b_Nd_findGrid 87 = .ok (.bipush (-2), 2) := by decide +kernel
theorem d_Nd_findGrid_89 : decode b_Nd_findGrid 89 = .ok (.iadd, 1) := by decide +kernel
theorem d_Nd_findGrid_90 : decode b_Nd_findGrid 90 = .ok (.invokevirtual 38, 3) := by decide +kernel
theorem d_Nd_findGrid_93 : decode b_Nd_findGrid 93 = .ok (.aload_n 0, 1) := by decide +kernel
theorem d_Nd_findGrid_94 : decode b_Nd_findGrid 94 = .ok (.aload_n 1, 1) := by decide +kernel
theorem d_Nd_findGrid_95 : decode b_Nd_findGrid 95 = .ok (.invokevirtual 44, 3) := by decide +kernel
theorem d_Nd_findGrid_98 : decode b_Nd_findGrid 98 = .ok (.istore 7, 2) := by decide +kernel
theorem d_Nd_findGrid_100 : decode b_Nd_findGrid 100 = .ok (.iload 7, 2) := by decide +kernel
theorem d_Nd_findGrid_102 : decode b_Nd_findGrid 102 = .ok (.ifCond .eq 9, 3) := by decide +kernel
theorem d_Nd_findGrid_105 : decode b_Nd_findGrid 105 = .ok (.iload_n 2, 1) := by decide +kernel
theorem d_Nd_findGrid_106 : decode b_Nd_findGrid 106 = .ok (.iconst 1, 1) := by decide +kernel
theorem d_Nd_findGrid_107 : decode b_Nd_findGrid 107 = .ok (.iload_n 3, 1) := by decide +kernel
theorem d_Nd_findGrid_108 : decode b_Nd_findGrid 108 = .ok (.ishl, 1) := by decide +kernel
theorem d_Nd_findGrid_109 : decode b_Nd_findGrid 109 = .ok (.ior, 1) := by decide +kernel
theorem d_Nd_findGrid_110 : decode b_Nd_findGrid 110 = .ok (.istore_n 2, 1) := by decide +kernel
theorem d_Nd_findGrid_111 : decode b_Nd_findGrid 111 = .ok (.iinc 3 1, 3) := by decide +kernel
theorem d_Nd_findGrid_114 : decode b_Nd_findGrid 114 = .ok (.goto (-110), 3) := by decide +kernel
theorem d_Nd_findGrid_117 : decode b_Nd_findGrid 117 = .ok (.iload_n 2, 1) := by decide +kernel
theorem d_Nd_findGrid_118 : decode b_Nd_findGrid 118 = .ok (.ireturn, 1) := by decide +kernel
