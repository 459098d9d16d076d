theorem d_Md_init_0 : decode b_Md_init 0 = .ok (.aload_n 0, 1) := by decide +kernel
theorem d_Md_init_1 : decode b_Md_init 1 = .ok (.invokespecial 1, 3) := by decide +kernel
theorem d_Md_init_4 : decode b_Md_init 4 = .ok (.aload_n 0, 1) := by decide +kernel
theorem d_Md_init_5 : decode b_Md_init 5 = .ok (.bipush 60, 2) := by decide +kernel
theorem d_Md_init_7 : decode b_Md_init 7 = .ok (.newarray .int, 2) := by decide +kernel
theorem d_Md_init_9 : decode b_Md_init 9 = .ok (.putfield 7, 3) := by decide +kernel
theorem d_Md_init_12 : decode b_Md_init 12 = .ok (.aload_n 0, 1) := by decide +kernel
theorem d_Md_init_13 : decode b_Md_init 13 = .ok (.bipush 60, 2) := by decide +kernel
theorem d_Md_init_15 : decode b_Md_init 15 = .ok (.newarray .int, 2) := by decide +kernel
theorem d_Md_init_17 : decode b_Md_init 17 = .ok (.putfield 13, 3) := by decide +kernel
theorem d_Md_init_20 : decode b_Md_init 20 = .ok (.aload_n 0, 1) := by decide +kernel
theorem d_Md_init_21 : decode b_Md_init 21 = .ok (.bipush 60, 2) := by decide +kernel
theorem d_Md_init_23 : decode b_Md_init 23 = .ok (.newarray .int, 2) := by decide +kernel
theorem d_Md_init_25 : decode b_Md_init 25 = .ok (.putfield 16, 3) := by decide +kernel
theorem d_Md_init_28 : decode b_Md_init 28 = .ok (.aload_n 0, 1) := by decide +kernel
theorem d_Md_init_29 : decode b_Md_init 29 = .ok (.sipush 240, 3) := by decide +kernel
theorem d_Md_init_32 : decode b_Md_init 32 = .ok (.newarray .int, 2) := by decide +kernel
theorem d_Md_init_34 : decode b_Md_init 34 = .ok (.putfield 19, 3) := by decide +kernel
theorem d_Md_init_37 : decode b_Md_init 37 = .ok (.aload_n 0, 1) := by decide +kernel
theorem d_Md_init_38 : decode b_Md_init 38 = .ok (.bipush 60, 2) := by decide +kernel
theorem d_Md_init_40 : decode b_Md_init 40 = .ok (.newarray .int, 2) := by decide +kernel
theorem d_Md_init_42 : decode b_Md_init 42 = .ok (.putfield 22, 3) := by decide +kernel
theorem d_Md_init_45 : decode b_Md_init 45 = .ok (.aload_n 0, 1) := by decide +kernel
theorem d_Md_init_46 : decode b_Md_init 46 = .ok (.bipush 60, 2) := by decide +kernel
theorem d_Md_init_48 : decode b_Md_init 48 = .ok (.newarray .boolean, 2) := by decide +kernel
theorem d_Md_init_50 : decode b_Md_init 50 = .ok (.putfield 25, 3) := by decide +kernel
theorem d_Md_init_53 : decode b_Md_init 53 = .ok (.aload_n 0, 1) := by decide +kernel
theorem d_Md_init_54 : decode b_Md_init 54 = .ok (.bipush 60, 2) := by decide +kernel
theorem d_Md_init_56 : decode b_Md_init 56 = .ok (.newarray .boolean, 2) := by decide +kernel
theorem d_Md_init_58 : decode b_Md_init 58 = .ok (.putfield 29, 3) := by decide +kernel
theorem d_Md_init_61 : decode b_Md_init 61 = .ok (.aload_n 0, 1) := by decide +kernel
theorem d_Md_init_62 : decode b_Md_init 62 = .ok (.bipush 60, 2) := by decide +kernel
theorem d_Md_init_64 : decode b_Md_init 64 = .ok (.newarray .int, 2) := by decide +kernel
theorem d_Md_init_66 : decode b_Md_init 66 = .ok (.putfield 32, 3) := by decide +kernel
theorem d_Md_init_69 : decode b_Md_init 69 = .ok (.aload_n 0, 1) := by decide +kernel
theorem d_Md_init_70 : decode b_Md_init 70 = .ok (.bipush 60, 2) := by decide +kernel
theorem d_Md_init_72 : decode b_Md_init 72 = .ok (.newarray .int, 2) := by decide +kernel
theorem d_Md_init_74 : decode b_Md_init 74 = .ok (.putfield 35, 3) := by decide +kernel
theorem d_Md_init_77 : decode b_Md_init 77 = .ok (.aload_n 0, 1) := by decide +kernel
theorem d_Md_init_78 : decode b_Md_init 78 = .ok (.sipush 240, 3) := by decide +kernel
theorem d_Md_init_81 : decode b_Md_init 81 = .ok (.newarray .boolean, 2) := by decide +kernel
theorem d_Md_init_83 : decode b_Md_init 83 = .ok (.putfield 38, 3) := by decide +kernel
theorem d_Md_init_86 : decode b_Md_init 86 = .ok (.aload_n 0, 1) := by decide +kernel
theorem d_Md_init_87 : decode b_Md_init 87 = .ok (.sipush 180, 3) := by decide +kernel
theorem d_Md_init_90 : decode b_Md_init 90 = .ok (.newarray .boolean, 2) := by decide +kernel
theorem d_Md_init_92 : decode b_Md_init 92 = .ok (.putfield 41, 3) := by decide +kernel
theorem d_Md_init_95 : decode b_Md_init 95 = .ok (.aload_n 0, 1) := by decide +kernel
theorem d_Md_init_96 : decode b_Md_init 96 = .ok (.bipush 12, 2) := by decide +kernel
theorem d_Md_init_98 : decode b_Md_init 98 = .ok (.newarray .long, 2) := by decide +kernel
theorem d_Md_init_100 : decode b_Md_init 100 = .ok (.putfield 44, 3) := by decide +kernel
theorem d_Md_init_103 : decode b_Md_init 103 = .ok (.aload_n 0, 1) := by decide +kernel
theorem d_Md_init_104 : decode b_Md_init 104 = .ok (.iconst 3, 1) := by decide +kernel
theorem d_Md_init_105 : decode b_Md_init 105 = .ok (.newarray .int, 2) := by decide +kernel
theorem d_Md_init_107 : decode b_Md_init 107 = .ok (.putfield 48, 3) := by decide +kernel
theorem d_Md_init_110 : decode b_Md_init 110 = .ok (.aload_n 0, 1) := by decide +kernel
theorem d_Md_init_111 : decode b_Md_init 111 = .ok (.sipush 192, 3) := by decide +kernel
theorem d_Md_init_114 : decode b_Md_init 114 = .ok (.newarray .long, 2) := by decide +kernel
theorem d_Md_init_116 : decode b_Md_init 116 = .ok (.putfield 51, 3) := by decide +kernel
theorem d_Md_init_119 : decode b_Md_init 119 = .ok (.aload_n 0, 1) := by decide +kernel
theorem d_Md_init_120 : decode b_Md_init 120 = .ok (.sipush 192, 3) := by decide +kernel
theorem d_Md_init_123 : decode b_Md_init 123 = .ok (.newarray .long, 2) := by decide +kernel
theorem d_Md_init_125 : decode b_Md_init 125 = .ok (.putfield 54, 3) := by decide +kernel
theorem d_Md_init_128 : decode b_Md_init 128 = .ok (.aload_n 0, 1) := by decide +kernel
theorem d_Md_init_129 : decode b_Md_init 129 = .ok (.sipush 130, 3) := by decide +kernel
theorem d_Md_init_132 : decode b_Md_init 132 = .ok (.newarray .boolean, 2) := by decide +kernel
theorem d_Md_init_134 : decode b_Md_init 134 = .ok (.putfield 57, 3) := by decide +kernel
theorem d_Md_init_137 : decode b_Md_init 137 = .ok (.aload_n 0, 1) := by decide +kernel
theorem d_Md_init_138 : decode b_Md_init 138 = .ok (.bipush 66, 2) := by decide +kernel
theorem d_Md_init_140 : decode b_Md_init 140 = .ok (.newarray .int, 2) := by decide +kernel
theorem d_Md_init_142 : decode b_Md_init 142 = .ok (.putfield 60, 3) := by decide +kernel
theorem d_Md_init_145 : decode b_Md_init 145 = .ok (.aload_n 0, 1) := by decide +kernel
theorem d_Md_init_146 : decode b_Md_init 146 = .ok (.bipush 66, 2) := by decide +kernel
theorem d_Md_init_148 : decode b_Md_init 148 = .ok (.newarray .int, 2) := by decide +kernel
theorem d_Md_init_150 : decode b_Md_init 150 = .ok (.putfield 63, 3) := by decide +kernel
theorem d_Md_init_153 : decode b_Md_init 153 = .ok (.return_, 1) := by decide +kernel
theorem d_Md_thrown_0 : decode b_Md_thrown 0 = .ok (.aload_n 0, 1) := by decide +kernel
theorem d_Md_thrown_1 : decode b_Md_thrown 1 = .ok (.getfield 66, 3) := by decide +kernel
theorem d_Md_thrown_4 : decode b_Md_thrown 4 = .ok (.ireturn, 1) := by decide +kernel
theorem d_Md_atom_0 : decode b_Md_atom 0 = .ok (.iload_n 1, 1) := by decide +kernel
theorem d_Md_atom_1 : decode b_Md_atom 1 = .ok (.i2l, 1) := by decide +kernel
theorem d_Md_atom_2 : decode b_Md_atom 2 = .ok (.ldc2_w 77, 3) := by decide +kernel
theorem d_Md_atom_5 : decode b_Md_atom 5 = .ok (.ldc2_w 79, 3) := by decide +kernel
theorem d_Md_atom_8 : decode b_Md_atom 8 = .ok (.invokestatic 73, 3) := by decide +kernel
theorem d_Md_atom_11 : decode b_Md_atom 11 = .ok (.ifCond .eq 48, 3) := by decide +kernel
theorem d_Md_atom_14 : decode b_Md_atom 14 = .ok (.iload_n 2, 1) := by decide +kernel
theorem d_Md_atom_15 : decode b_Md_atom 15 = .ok (.i2l, 1) := by decide +kernel
theorem d_Md_atom_16 : decode b_Md_atom 16 = .ok (.ldc2_w 77, 3) := by decide +kernel
theorem d_Md_atom_19 : decode b_Md_atom 19 = .ok (.ldc2_w 79, 3) := by decide +kernel
theorem d_Md_atom_22 : decode b_Md_atom 22 = .ok (.invokestatic 73, 3) := by decide +kernel
theorem d_Md_atom_25 : decode b_Md_atom 25 = .ok (.ifCond .eq 34, 3) := by decide +kernel
theorem d_Md_atom_28 : decode b_Md_atom 28 = .ok (.iload_n 3, 1) := by decide +kernel
theorem d_Md_atom_29 : decode b_Md_atom 29 = .ok (.i2l, 1) := by decide +kernel
theorem d_Md_atom_30 : decode b_Md_atom 30 = .ok (.ldc2_w 77, 3) := by decide +kernel
theorem d_Md_atom_33 : decode b_Md_atom 33 = .ok (.ldc2_w 79, 3) := by decide +kernel
theorem d_Md_atom_36 : decode b_Md_atom 36 = .ok (.invokestatic 73, 3) := by decide +kernel
theorem d_Md_atom_39 : decode b_Md_atom 39 = .ok (.ifCond .eq 20, 3) := by decide +kernel
theorem d_Md_atom_42 : decode b_Md_atom 42 = .ok (.iload 4, 2) := by decide +kernel
theorem d_Md_atom_44 : decode b_Md_atom 44 = .ok (.i2l, 1) := by decide +kernel
theorem d_Md_atom_45 : decode b_Md_atom 45 = .ok (.lconst 0, 1) := by decide +kernel
theorem d_Md_atom_46 : decode b_Md_atom 46 = .ok (.ldc2_w 81, 3) := by decide +kernel
theorem d_Md_atom_49 : decode b_Md_atom 49 = .ok (.invokestatic 73, 3) := by decide +kernel
theorem d_Md_atom_52 : decode b_Md_atom 52 = .ok (.ifCond .eq 7, 3) := by decide +kernel
theorem d_Md_atom_55 : decode b_Md_atom 55 = .ok (.iconst 1, 1) := by decide +kernel
theorem d_Md_atom_56 : decode b_Md_atom 56 = .ok (.goto 4, 3) := by decide +kernel
theorem d_Md_atom_59 : decode b_Md_atom 59 = .ok (.iconst 0, 1) := by decide +kernel
theorem d_Md_atom_60 : decode b_Md_atom 60 = .ok (.istore 5, 2) := by decide +kernel
theorem d_Md_atom_62 : decode b_Md_atom 62 = .ok (.aload_n 0, 1) := by decide +kernel
theorem d_Md_atom_63 : decode b_Md_atom 63 = .ok (.aload_n 0, 1) := by decide +kernel
theorem d_Md_atom_64 : decode b_Md_atom 64 = .ok (.getfield 70, 3) := by decide +kernel
theorem d_Md_atom_67 : decode b_Md_atom 67 = .ok (.bipush 60, 2) := by decide +kernel
theorem d_Md_atom_69 : decode b_Md_atom 69 = .ok (.if_icmp .ne 7, 3) := by decide +kernel
theorem d_Md_atom_72 : decode b_Md_atom 72 = .ok (.iconst 1, 1) := by decide +kernel
theorem d_Md_atom_73 : decode b_Md_atom 73 = .ok (.goto 13, 3) := by decide +kernel
theorem d_Md_atom_76 : decode b_Md_atom 76 = .ok (.iload 5, 2) := by decide +kernel
theorem d_Md_atom_78 : decode b_Md_atom 78 = .ok (.ifCond .eq 7, 3) := by decide +kernel
theorem d_Md_atom_81 : decode b_Md_atom 81 = .ok (.iconst 0, 1) := by decide +kernel
theorem d_Md_atom_82 : decode b_Md_atom 82 = .ok (.goto 4, 3) := by decide +kernel
theorem d_Md_atom_85 : decode b_Md_atom 85 = .ok (.iconst 2, 1) := by decide +kernel
theorem d_Md_atom_86 : decode b_Md_atom 86 = .ok (.putfield 66, 3) := by decide +kernel
theorem d_Md_atom_89 : decode b_Md_atom 89 = .ok (.aload_n 0, 1) := by decide +kernel
theorem d_Md_atom_90 : decode b_Md_atom 90 = .ok (.getfield 66, 3) := by decide +kernel
theorem d_Md_atom_93 : decode b_Md_atom 93 = .ok (.ifCond .le 5, 3) := by decide +kernel
theorem d_Md_atom_96 : decode b_Md_atom 96 = .ok (.iconst 0, 1) := by decide +kernel
theorem d_Md_atom_97 : decode b_Md_atom 97 = .ok (.ireturn, 1) := by decide +kernel
theorem d_Md_atom_98 : decode b_Md_atom 98 = .ok (.aload_n 0, 1) := by decide +kernel
theorem d_Md_atom_99 : decode b_Md_atom 99 = .ok (.getfield 19, 3) := by decide +kernel
theorem d_Md_atom_102 : decode b_Md_atom 102 = .ok (.iconst 4, 1) := by decide +kernel
theorem d_Md_atom_103 : decode b_Md_atom 103 = .ok (.aload_n 0, 1) := by decide +kernel
theorem d_Md_atom_104 : decode b_Md_atom 104 = .ok (.getfield 70, 3) := by decide +kernel
theorem d_Md_atom_107 : decode b_Md_atom 107 = .ok (.imul, 1) := by decide +kernel
theorem d_Md_atom_108 : decode b_Md_atom 108 = .ok (.iload_n 1, 1) := by decide +kernel
theorem d_Md_atom_109 : decode b_Md_atom 109 = .ok (.iastore, 1) := by decide +kernel
theorem d_Md_atom_110 : decode b_Md_atom 110 = .ok (.aload_n 0, 1) := by decide +kernel
theorem d_Md_atom_111 : decode b_Md_atom 111 = .ok (.getfield 19, 3) := by decide +kernel
theorem d_Md_atom_114 : decode b_Md_atom 114 = .ok (.iconst 4, 1) := by decide +kernel
theorem d_Md_atom_115 : decode b_Md_atom 115 = .ok (.aload_n 0, 1) := by decide +kernel
theorem d_Md_atom_116 : decode b_Md_atom 116 = .ok (.getfield 70, 3) := by decide +kernel
theorem d_Md_atom_119 : decode b_Md_atom 119 = .ok (.imul, 1) := by decide +kernel
theorem d_Md_atom_120 : decode b_Md_atom 120 = .ok (.iconst 1, 1) := by decide +kernel
theorem d_Md_atom_121 : decode b_Md_atom 121 = .ok (.iadd, 1) := by decide +kernel
theorem d_Md_atom_122 : decode b_Md_atom 122 = .ok (.iload_n 2, 1) := by decide +kernel
theorem d_Md_atom_123 : decode b_Md_atom 123 = .ok (.iastore, 1) := by decide +kernel
theorem d_Md_atom_124 : decode b_Md_atom 124 = .ok (.aload_n 0, 1) := by decide +kernel
theorem d_Md_atom_125 : decode b_Md_atom 125 = .ok (.getfield 19, 3) := by decide +kernel
theorem d_Md_atom_128 : decode b_Md_atom 128 = .ok (.iconst 4, 1) := by decide +kernel
theorem d_Md_atom_129 : decode b_Md_atom 129 = .ok (.aload_n 0, 1) := by decide +kernel
theorem d_Md_atom_130 : decode b_Md_atom 130 = .ok (.getfield 70, 3) := by decide +kernel
theorem d_Md_atom_133 : decode b_Md_atom 133 = .ok (.imul, 1) := by decide +kernel
theorem d_Md_atom_134 : decode b_Md_atom 134 = .ok (.iconst 2, 1) := by decide +kernel
theorem d_Md_atom_135 : decode b_Md_atom 135 = .ok (.iadd, 1) := by decide +kernel
theorem d_Md_atom_136 : decode b_Md_atom 136 = .ok (.iload_n 3, 1) := by decide +kernel
theorem d_Md_atom_137 : decode b_Md_atom 137 = .ok (.iastore, 1) := by decide +kernel
theorem d_Md_atom_138 : decode b_Md_atom 138 = .ok (.aload_n 0, 1) := by decide +kernel
theorem d_Md_atom_139 : decode b_Md_atom 139 = .ok (.getfield 19, 3) := by decide +kernel
theorem d_Md_atom_142 : decode b_Md_atom 142 = .ok (.iconst 4, 1) := by decide +kernel
theorem d_Md_atom_143 : decode b_Md_atom 143 = .ok (.aload_n 0, 1) := by decide +kernel
theorem d_Md_atom_144 : decode b_Md_atom 144 = .ok (.getfield 70, 3) := by decide +kernel
theorem d_Md_atom_147 : decode b_Md_atom 147 = .ok (.imul, 1) := by decide +kernel
theorem d_Md_atom_148 : decode b_Md_atom 148 = .ok (.iconst 3, 1) := by decide +kernel
theorem d_Md_atom_149 : decode b_Md_atom 149 = .ok (.iadd, 1) := by decide +kernel
theorem d_Md_atom_150 : decode b_Md_atom 150 = .ok (.iload 4, 2) := by decide +kernel
theorem d_Md_atom_152 : decode b_Md_atom 152 = .ok (.iastore, 1) := by decide +kernel
theorem d_Md_atom_153 : decode b_Md_atom 153 = .ok (.aload_n 0, 1) := by decide +kernel
theorem d_Md_atom_154 : decode b_Md_atom 154 = .ok (.iconst 0, 1) := by decide +kernel
theorem d_Md_atom_155 : decode b_Md_atom 155 = .ok (.iconst (-1), 1) := by decide +kernel
theorem d_Md_atom_156 : decode b_Md_atom 156 = .ok (.iconst (-1), 1) := by decide +kernel
theorem d_Md_atom_157 : decode b_Md_atom 157 = .ok (.invokevirtual 83, 3) := by decide +kernel
theorem d_Md_atom_160 : decode b_Md_atom 160 = .ok (.ireturn, 1) := by decide +kernel
theorem d_Md_in_0 : decode b_Md_in 0 = .ok (.lload_n 0, 1) := by decide +kernel
theorem d_Md_in_1 : decode b_Md_in 1 = .ok (.lload_n 2, 1) := by decide +kernel
theorem d_Md_in_2 : decode b_Md_in 2 = .ok (.lcmp, 1) := by decide +kernel
theorem d_Md_in_3 : decode b_Md_in 3 = .ok (.ifCond .lt 14, 3) := by decide +kernel
theorem d_Md_in_6 : decode b_Md_in 6 = .ok (.lload_n 0, 1) := by decide +kernel
theorem d_Md_in_7 : decode b_Md_in 7 = .ok (.lload 4, 2) := by decide +kernel
theorem d_Md_in_9 : decode b_Md_in 9 = .ok (.lcmp, 1) := by decide +kernel
theorem d_Md_in_10 : decode b_Md_in 10 = .ok (.ifCond .gt 7, 3) := by decide +kernel
theorem d_Md_in_13 : decode b_Md_in 13 = .ok (.iconst 1, 1) := by decide +kernel
theorem d_Md_in_14 : decode b_Md_in 14 = .ok (.goto 4, 3) := by decide +kernel
theorem d_Md_in_17 : decode b_Md_in 17 = .ok (.iconst 0, 1) := by decide +kernel
theorem d_Md_in_18 : decode b_Md_in 18 = .ok (.ireturn, 1) := by decide +kernel
theorem d_Md_add_0 : decode b_Md_add 0 = .ok (.aload_n 0, 1) := by decide +kernel
theorem d_Md_add_1 : decode b_Md_add 1 = .ok (.getfield 7, 3) := by decide +kernel
theorem d_Md_add_4 : decode b_Md_add 4 = .ok (.aload_n 0, 1) := by decide +kernel
theorem d_Md_add_5 : decode b_Md_add 5 = .ok (.getfield 70, 3) := by decide +kernel
theorem d_Md_add_8 : decode b_Md_add 8 = .ok (.iload_n 1, 1) := by decide +kernel
theorem d_Md_add_9 : decode b_Md_add 9 = .ok (.iastore, 1) := by decide +kernel
theorem d_Md_add_10 : decode b_Md_add 10 = .ok (.aload_n 0, 1) := by decide +kernel
theorem d_Md_add_11 : decode b_Md_add 11 = .ok (.getfield 13, 3) := by decide +kernel
theorem d_Md_add_14 : decode b_Md_add 14 = .ok (.aload_n 0, 1) := by decide +kernel
theorem d_Md_add_15 : decode b_Md_add 15 = .ok (.getfield 70, 3) := by decide +kernel
theorem d_Md_add_18 : decode b_Md_add 18 = .ok (.iload_n 2, 1) := by decide +kernel
theorem d_Md_add_19 : decode b_Md_add 19 = .ok (.iastore, 1) := by decide +kernel
theorem d_Md_add_20 : decode b_Md_add 20 = .ok (.aload_n 0, 1) := by decide +kernel
theorem d_Md_add_21 : decode b_Md_add 21 = .ok (.getfield 16, 3) := by decide +kernel
theorem d_Md_add_24 : decode b_Md_add 24 = .ok (.aload_n 0, 1) := by decide +kernel
theorem d_Md_add_25 : decode b_Md_add 25 = .ok (.getfield 70, 3) := by decide +kernel
theorem d_Md_add_28 : decode b_Md_add 28 = .ok (.iload_n 3, 1) := by decide +kernel
theorem d_Md_add_29 : decode b_Md_add 29 = .ok (.iastore, 1) := by decide +kernel
theorem d_Md_add_30 : decode b_Md_add 30 = .ok (.iload_n 1, 1) := by decide +kernel
theorem d_Md_add_31 : decode b_Md_add 31 = .ok (.ifCond .eq 26, 3) := by decide +kernel
theorem d_Md_add_34 : decode b_Md_add 34 = .ok (.aload_n 0, 1) := by decide +kernel
theorem d_Md_add_35 : decode b_Md_add 35 = .ok (.getfield 25, 3) := by decide +kernel
theorem d_Md_add_38 : decode b_Md_add 38 = .ok (.iload_n 2, 1) := by decide +kernel
theorem d_Md_add_39 : decode b_Md_add 39 = .ok (.baload, 1) := by decide +kernel
theorem d_Md_add_40 : decode b_Md_add 40 = .ok (.ifCond .ne 17, 3) := by decide +kernel
theorem d_Md_add_43 : decode b_Md_add 43 = .ok (.iload_n 3, 1) := by decide +kernel
theorem d_Md_add_44 : decode b_Md_add 44 = .ok (.iconst (-1), 1) := by decide +kernel
theorem d_Md_add_45 : decode b_Md_add 45 = .ok (.if_icmp .eq 16, 3) := by decide +kernel
theorem d_Md_add_48 : decode b_Md_add 48 = .ok (.aload_n 0, 1) := by decide +kernel
theorem d_Md_add_49 : decode b_Md_add 49 = .ok (.getfield 25, 3) := by decide +kernel
theorem d_Md_add_52 : decode b_Md_add 52 = .ok (.iload_n 3, 1) := by decide +kernel
theorem d_Md_add_53 : decode b_Md_add 53 = .ok (.baload, 1) := by decide +kernel
theorem d_Md_add_54 : decode b_Md_add 54 = .ok (.ifCond .eq 7, 3) := by decide +kernel
theorem d_Md_add_57 : decode b_Md_add 57 = .ok (.iconst 1, 1) := by decide +kernel
theorem d_Md_add_58 : decode b_Md_add 58 = .ok (.goto 4, 3) := by decide +kernel
theorem d_Md_add_61 : decode b_Md_add 61 = .ok (.iconst 0, 1) := by decide +kernel
theorem d_Md_add_62 : decode b_Md_add 62 = .ok (.istore 4, 2) := by decide +kernel
theorem d_Md_add_64 : decode b_Md_add 64 = .ok (.iload_n 1, 1) := by decide +kernel
theorem d_Md_add_65 : decode b_Md_add 65 = .ok (.ifCond .eq 26, 3) := by decide +kernel
theorem d_Md_add_68 : decode b_Md_add 68 = .ok (.aload_n 0, 1) := by decide +kernel
theorem d_Md_add_69 : decode b_Md_add 69 = .ok (.getfield 29, 3) := by decide +kernel
theorem d_Md_add_72 : decode b_Md_add 72 = .ok (.iload_n 2, 1) := by decide +kernel
theorem d_Md_add_73 : decode b_Md_add 73 = .ok (.baload, 1) := by decide +kernel
theorem d_Md_add_74 : decode b_Md_add 74 = .ok (.ifCond .ne 17, 3) := by decide +kernel
theorem d_Md_add_77 : decode b_Md_add 77 = .ok (.iload_n 3, 1) := by decide +kernel
theorem d_Md_add_78 : decode b_Md_add 78 = .ok (.iconst (-1), 1) := by decide +kernel
theorem d_Md_add_79 : decode b_Md_add 79 = .ok (.if_icmp .eq 16, 3) := by decide +kernel
theorem d_Md_add_82 : decode b_Md_add 82 = .ok (.aload_n 0, 1) := by decide +kernel
theorem d_Md_add_83 : decode b_Md_add 83 = .ok (.getfield 29, 3) := by decide +kernel
theorem d_Md_add_86 : decode b_Md_add 86 = .ok (.iload_n 3, 1) := by decide +kernel
theorem d_Md_add_87 : decode b_Md_add 87 = .ok (.baload, 1) := by decide +kernel
theorem d_Md_add_88 : decode b_Md_add 88 = .ok (.ifCond .eq 7, 3) := by decide +kernel
theorem d_Md_add_91 : decode b_Md_add 91 = .ok (.iconst 1, 1) := by decide +kernel
theorem d_Md_add_92 : decode b_Md_add 92 = .ok (.goto 4, 3) := by decide +kernel
theorem d_Md_add_95 : decode b_Md_add 95 = .ok (.iconst 0, 1) := by decide +kernel
theorem d_Md_add_96 : decode b_Md_add 96 = .ok (.istore 5, 2) := by decide +kernel
theorem d_Md_add_98 : decode b_Md_add 98 = .ok (.aload_n 0, 1) := by decide +kernel
theorem d_Md_add_99 : decode b_Md_add 99 = .ok (.getfield 25, 3) := by decide +kernel
theorem d_Md_add_102 : decode b_Md_add 102 = .ok (.aload_n 0, 1) := by decide +kernel
theorem d_Md_add_103 : decode b_Md_add 103 = .ok (.getfield 70, 3) := by decide +kernel
theorem d_Md_add_106 : decode b_Md_add 106 = .ok (.iload 4, 2) := by decide +kernel
theorem d_Md_add_108 : decode b_Md_add 108 = .ok (.bastore, 1) := by decide +kernel
theorem d_Md_add_109 : decode b_Md_add 109 = .ok (.aload_n 0, 1) := by decide +kernel
theorem d_Md_add_110 : decode b_Md_add 110 = .ok (.getfield 29, 3) := by decide +kernel
theorem d_Md_add_113 : decode b_Md_add 113 = .ok (.aload_n 0, 1) := by decide +kernel
theorem d_Md_add_114 : decode b_Md_add 114 = .ok (.getfield 70, 3) := by decide +kernel
theorem d_Md_add_117 : decode b_Md_add 117 = .ok (.iload 5, 2) := by decide +kernel
theorem d_Md_add_119 : decode b_Md_add 119 = .ok (.bastore, 1) := by decide +kernel
theorem d_Md_add_120 : decode b_Md_add 120 = .ok (.aload_n 0, 1) := by decide +kernel
theorem d_Md_add_121 : decode b_Md_add 121 = .ok (.getfield 32, 3) := by decide +kernel
theorem d_Md_add_124 : decode b_Md_add 124 = .ok (.aload_n 0, 1) := by decide +kernel
theorem d_Md_add_125 : decode b_Md_add 125 = .ok (.getfield 70, 3) := by decide +kernel
theorem d_Md_add_128 : decode b_Md_add 128 = .ok (.iload_n 1, 1) := by decide +kernel
theorem d_Md_add_129 : decode b_Md_add 129 = .ok (.ifCond .ne 7, 3) := by decide +kernel
theorem d_Md_add_132 : decode b_Md_add 132 = .ok (.iconst 1, 1) := by decide +kernel
theorem d_Md_add_133 : decode b_Md_add 133 = .ok (.goto 25, 3) := by decide +kernel
theorem d_Md_add_136 : decode b_Md_add 136 = .ok (.aload_n 0, 1) := by decide +kernel
theorem d_Md_add_137 : decode b_Md_add 137 = .ok (.getfield 32, 3) := by decide +kernel
theorem d_Md_add_140 : decode b_Md_add 140 = .ok (.iload_n 2, 1) := by decide +kernel
theorem d_Md_add_141 : decode b_Md_add 141 = .ok (.iaload, 1) := by decide +kernel
theorem d_Md_add_142 : decode b_Md_add 142 = .ok (.iload_n 3, 1) := by decide +kernel
theorem d_Md_add_143 : decode b_Md_add 143 = .ok (.iconst (-1), 1) := by decide +kernel
theorem d_Md_add_144 : decode b_Md_add 144 = .ok (.if_icmp .ne 7, 3) := by decide +kernel
theorem d_Md_add_147 : decode b_Md_add 147 = .ok (.iconst 0, 1) := by decide +kernel
theorem d_Md_add_148 : decode b_Md_add 148 = .ok (.goto 9, 3) := by decide +kernel
theorem d_Md_add_151 : decode b_Md_add 151 = .ok (.aload_n 0, 1) := by decide +kernel
theorem d_Md_add_152 : decode b_Md_add 152 = .ok (.getfield 32, 3) := by decide +kernel
theorem d_Md_add_155 : decode b_Md_add 155 = .ok (.iload_n 3, 1) := by decide +kernel
theorem d_Md_add_156 : decode b_Md_add 156 = .ok (.iaload, 1) := by decide +kernel
theorem d_Md_add_157 : decode b_Md_add 157 = .ok (.iadd, 1) := by decide +kernel
theorem d_Md_add_158 : decode b_Md_add 158 = .ok (.iastore, 1) := by decide +kernel
theorem d_Md_add_159 : decode b_Md_add 159 = .ok (.aload_n 0, 1) := by decide +kernel
theorem d_Md_add_160 : decode b_Md_add 160 = .ok (.getfield 35, 3) := by decide +kernel
theorem d_Md_add_163 : decode b_Md_add 163 = .ok (.aload_n 0, 1) := by decide +kernel
theorem d_Md_add_164 : decode b_Md_add 164 = .ok (.getfield 70, 3) := by decide +kernel
theorem d_Md_add_167 : decode b_Md_add 167 = .ok (.iload_n 1, 1) := by decide +kernel
theorem d_Md_add_168 : decode b_Md_add 168 = .ok (.ifCond .ne 7, 3) := by decide +kernel
theorem d_Md_add_171 : decode b_Md_add 171 = .ok (.iconst 0, 1) := by decide +kernel
theorem d_Md_add_172 : decode b_Md_add 172 = .ok (.goto 38, 3) := by decide +kernel
theorem d_Md_add_175 : decode b_Md_add 175 = .ok (.iload_n 3, 1) := by decide +kernel
theorem d_Md_add_176 : decode b_Md_add 176 = .ok (.iconst (-1), 1) := by decide +kernel
theorem d_Md_add_177 : decode b_Md_add 177 = .ok (.if_icmp .eq 27, 3) := by decide +kernel
theorem d_Md_add_180 : decode b_Md_add 180 = .ok (.aload_n 0, 1) := by decide +kernel
theorem d_Md_add_181 : decode b_Md_add 181 = .ok (.getfield 35, 3) := by decide +kernel
theorem d_Md_add_184 : decode b_Md_add 184 = .ok (.iload_n 3, 1) := by decide +kernel
theorem d_Md_add_185 : decode b_Md_add 185 = .ok (.iaload, 1) := by decide +kernel
theorem d_Md_add_186 : decode b_Md_add 186 = .ok (.aload_n 0, 1) := by decide +kernel
theorem d_Md_add_187 : decode b_Md_add 187 = .ok (.getfield 35, 3) := by decide +kernel
theorem d_Md_add_190 : decode b_Md_add 190 = .ok (.iload_n 2, 1) := by decide +kernel
theorem d_Md_add_191 : decode b_Md_add 191 = .ok (.iaload, 1) := by decide +kernel
theorem d_Md_add_192 : decode b_Md_add 192 = .ok (.if_icmp .le 12, 3) := by decide +kernel
theorem d_Md_add_195 : decode b_Md_add 195 = .ok (.aload_n 0, 1) := by decide +kernel
theorem d_Md_add_196 : decode b_Md_add 196 = .ok (.getfield 35, 3) := by decide +kernel
theorem d_Md_add_199 : decode b_Md_add 199 = .ok (.iload_n 3, 1) := by decide +kernel
theorem d_Md_add_200 : decode b_Md_add 200 = .ok (.iaload, 1) := by decide +kernel
theorem d_Md_add_201 : decode b_Md_add 201 = .ok (.goto 9, 3) := by decide +kernel
theorem d_Md_add_204 : decode b_Md_add 204 = .ok (.aload_n 0, 1) := by decide +kernel
theorem d_Md_add_205 : decode b_Md_add 205 = .ok (.getfield 35, 3) := by decide +kernel
theorem d_Md_add_208 : decode b_Md_add 208 = .ok (.iload_n 2, 1) := by decide +kernel
theorem d_Md_add_209 : decode b_Md_add 209 = .ok (.iaload, 1) := by decide +kernel
theorem d_Md_add_210 : decode b_Md_add 210 = .ok (.iastore, 1) := by decide +kernel
theorem d_Md_add_211 : decode b_Md_add 211 = .ok (.aload_n 0, 1) := by decide +kernel
theorem d_Md_add_212 : decode b_Md_add 212 = .ok (.dup, 1) := by decide +kernel
theorem d_Md_add_213 : decode b_Md_add 213 = .ok (.getfield 70, 3) := by decide +kernel
theorem d_Md_add_216 : decode b_Md_add 216 = .ok (.iconst 1, 1) := by decide +kernel
theorem d_Md_add_217 : decode b_Md_add 217 = .ok (.iadd, 1) := by decide +kernel
theorem d_Md_add_218 : decode b_Md_add 218 = .ok (.putfield 70, 3) := by decide +kernel
theorem d_Md_add_221 : decode b_Md_add 221 = .ok (.aload_n 0, 1) := by decide +kernel
theorem d_Md_add_222 : decode b_Md_add 222 = .ok (.getfield 70, 3) := by decide +kernel
theorem d_Md_add_225 : decode b_Md_add 225 = .ok (.iconst 1, 1) := by decide +kernel
theorem d_Md_add_226 : decode b_Md_add 226 = .ok (.isub, 1) := by decide +kernel
theorem d_Md_add_227 : decode b_Md_add 227 = .ok (.ireturn, 1) := by decide +kernel
theorem d_Md_both_0 : decode b_Md_both 0 = .ok (.aload_n 0, 1) := by decide +kernel
theorem d_Md_both_1 : decode b_Md_both 1 = .ok (.iconst 1, 1) := by decide +kernel
theorem d_Md_both_2 : decode b_Md_both 2 = .ok (.iload_n 1, 1) := by decide +kernel
theorem d_Md_both_3 : decode b_Md_both 3 = .ok (.iload_n 2, 1) := by decide +kernel
theorem d_Md_both_4 : decode b_Md_both 4 = .ok (.invokevirtual 91, 3) := by decide +kernel
theorem d_Md_both_7 : decode b_Md_both 7 = .ok (.ireturn, 1) := by decide +kernel
theorem d_Md_pair_0 : decode b_Md_pair 0 = .ok (.aload_n 0, 1) := by decide +kernel
theorem d_Md_pair_1 : decode b_Md_pair 1 = .ok (.aload_n 0, 1) := by decide +kernel
theorem d_Md_pair_2 : decode b_Md_pair 2 = .ok (.iload_n 2, 1) := by decide +kernel
theorem d_Md_pair_3 : decode b_Md_pair 3 = .ok (.invokevirtual 87, 3) := by decide +kernel
theorem d_Md_pair_6 : decode b_Md_pair 6 = .ok (.ifCond .eq 11, 3) := by decide +kernel
theorem d_Md_pair_9 : decode b_Md_pair 9 = .ok (.aload_n 0, 1) := by decide +kernel
theorem d_Md_pair_10 : decode b_Md_pair 10 = .ok (.iload_n 3, 1) := by decide +kernel
theorem d_Md_pair_11 : decode b_Md_pair 11 = .ok (.invokevirtual 87, 3) := by decide +kernel
theorem d_Md_pair_14 : decode b_Md_pair 14 = .ok (.ifCond .ne 7, 3) := by decide +kernel
theorem d_Md_pair_17 : decode b_Md_pair 17 = .ok (.iconst 1, 1) := by decide +kernel
theorem d_Md_pair_18 : decode b_Md_pair 18 = .ok (.goto 39, 3) := by decide +kernel
theorem d_Md_pair_21 : decode b_Md_pair 21 = .ok (.aload_n 0, 1) := by decide +kernel
theorem d_Md_pair_22 : decode b_Md_pair 22 = .ok (.getfield 70, 3) := by decide +kernel
theorem d_Md_pair_25 : decode b_Md_pair 25 = .ok (.bipush 60, 2) := by decide +kernel
theorem d_Md_pair_27 : decode b_Md_pair 27 = .ok (.if_icmp .ne 7, 3) := by decide +kernel
theorem d_Md_pair_30 : decode b_Md_pair 30 = .ok (.iconst 2, 1) := by decide +kernel
theorem d_Md_pair_31 : decode b_Md_pair 31 = .ok (.goto 26, 3) := by decide +kernel
theorem d_Md_pair_34 : decode b_Md_pair 34 = .ok (.aload_n 0, 1) := by decide +kernel
theorem d_Md_pair_35 : decode b_Md_pair 35 = .ok (.getfield 32, 3) := by decide +kernel
theorem d_Md_pair_38 : decode b_Md_pair 38 = .ok (.iload_n 2, 1) := by decide +kernel
theorem d_Md_pair_39 : decode b_Md_pair 39 = .ok (.iaload, 1) := by decide +kernel
theorem d_Md_pair_40 : decode b_Md_pair 40 = .ok (.aload_n 0, 1) := by decide +kernel
theorem d_Md_pair_41 : decode b_Md_pair 41 = .ok (.getfield 32, 3) := by decide +kernel
theorem d_Md_pair_44 : decode b_Md_pair 44 = .ok (.iload_n 3, 1) := by decide +kernel
theorem d_Md_pair_45 : decode b_Md_pair 45 = .ok (.iaload, 1) := by decide +kernel
theorem d_Md_pair_46 : decode b_Md_pair 46 = .ok (.iadd, 1) := by decide +kernel
theorem d_Md_pair_47 : decode b_Md_pair 47 = .ok (.bipush 6, 2) := by decide +kernel
theorem d_Md_pair_49 : decode b_Md_pair 49 = .ok (.if_icmp .le 7, 3) := by decide +kernel
theorem d_Md_pair_52 : decode b_Md_pair 52 = .ok (.iconst 3, 1) := by decide +kernel
theorem d_Md_pair_53 : decode b_Md_pair 53 = .ok (.goto 4, 3) := by decide +kernel
theorem d_Md_pair_56 : decode b_Md_pair 56 = .ok (.iconst 0, 1) := by decide +kernel
theorem d_Md_pair_57 : decode b_Md_pair 57 = .ok (.putfield 66, 3) := by decide +kernel
theorem d_Md_pair_60 : decode b_Md_pair 60 = .ok (.aload_n 0, 1) := by decide +kernel
theorem d_Md_pair_61 : decode b_Md_pair 61 = .ok (.getfield 66, 3) := by decide +kernel
theorem d_Md_pair_64 : decode b_Md_pair 64 = .ok (.ifCond .le 7, 3) := by decide +kernel
theorem d_Md_pair_67 : decode b_Md_pair 67 = .ok (.iconst 0, 1) := by decide +kernel
theorem d_Md_pair_68 : decode b_Md_pair 68 = .ok (.goto 10, 3) := by decide +kernel
theorem d_Md_pair_71 : decode b_Md_pair 71 = .ok (.aload_n 0, 1) := by decide +kernel
theorem d_Md_pair_72 : decode b_Md_pair 72 = .ok (.iload_n 1, 1) := by decide +kernel
theorem d_Md_pair_73 : decode b_Md_pair 73 = .ok (.iload_n 2, 1) := by decide +kernel
theorem d_Md_pair_74 : decode b_Md_pair 74 = .ok (.iload_n 3, 1) := by decide +kernel
theorem d_Md_pair_75 : decode b_Md_pair 75 = .ok (.invokevirtual 83, 3) := by decide +kernel
theorem d_Md_pair_78 : decode b_Md_pair 78 = .ok (.ireturn, 1) := by decide +kernel
theorem d_Md_isNode_0 : decode b_Md_isNode 0 = .ok (.iload_n 1, 1) := by decide +kernel
theorem d_Md_isNode_1 : decode b_Md_isNode 1 = .ok (.i2l, 1) := by decide +kernel
theorem d_Md_isNode_2 : decode b_Md_isNode 2 = .ok (.lconst 0, 1) := by decide +kernel
theorem d_Md_isNode_3 : decode b_Md_isNode 3 = .ok (.aload_n 0, 1) := by decide +kernel
theorem d_Md_isNode_4 : decode b_Md_isNode 4 = .ok (.getfield 70, 3) := by decide +kernel
theorem d_Md_isNode_7 : decode b_Md_isNode 7 = .ok (.iconst 1, 1) := by decide +kernel
theorem d_Md_isNode_8 : decode b_Md_isNode 8 = .ok (.isub, 1) := by decide +kernel
theorem d_Md_isNode_9 : decode b_Md_isNode 9 = .ok (.i2l, 1) := by decide +kernel
theorem d_Md_isNode_10 : decode b_Md_isNode 10 = .ok (.invokestatic 73, 3) := by decide +kernel
theorem d_Md_isNode_13 : decode b_Md_isNode 13 = .ok (.ireturn, 1) := by decide +kernel
theorem d_Md_either_0 : decode b_Md_either 0 = .ok (.aload_n 0, 1) := by decide +kernel
theorem d_Md_either_1 : decode b_Md_either 1 = .ok (.iconst 2, 1) := by decide +kernel
theorem d_Md_either_2 : decode b_Md_either 2 = .ok (.iload_n 1, 1) := by decide +kernel
theorem d_Md_either_3 : decode b_Md_either 3 = .ok (.iload_n 2, 1) := by decide +kernel
theorem d_Md_either_4 : decode b_Md_either 4 = .ok (.invokevirtual 91, 3) := by decide +kernel
theorem d_Md_either_7 : decode b_Md_either 7 = .ok (.ireturn, 1) := by decide +kernel
theorem d_Md_not_0 : decode b_Md_not 0 = .ok (.aload_n 0, 1) := by decide +kernel
theorem d_Md_not_1 : decode b_Md_not 1 = .ok (.aload_n 0, 1) := by decide +kernel
theorem d_Md_not_2 : decode b_Md_not 2 = .ok (.iload_n 1, 1) := by decide +kernel
theorem d_Md_not_3 : decode b_Md_not 3 = .ok (.invokevirtual 87, 3) := by decide +kernel
theorem d_Md_not_6 : decode b_Md_not 6 = .ok (.ifCond .ne 7, 3) := by decide +kernel
theorem d_Md_not_9 : decode b_Md_not 9 = .ok (.iconst 1, 1) := by decide +kernel
theorem d_Md_not_10 : decode b_Md_not 10 = .ok (.goto 17, 3) := by decide +kernel
theorem d_Md_not_13 : decode b_Md_not 13 = .ok (.aload_n 0, 1) := by decide +kernel
theorem d_Md_not_14 : decode b_Md_not 14 = .ok (.getfield 70, 3) := by decide +kernel
theorem d_Md_not_17 : decode b_Md_not 17 = .ok (.bipush 60, 2) := by decide +kernel
theorem d_Md_not_19 : decode b_Md_not 19 = .ok (.if_icmp .ne 7, 3) := by decide +kernel
theorem d_Md_not_22 : decode b_Md_not 22 = .ok (.iconst 2, 1) := by decide +kernel
theorem d_Md_not_23 : decode b_Md_not 23 = .ok (.goto 4, 3) := by decide +kernel
theorem d_Md_not_26 : decode b_Md_not 26 = .ok (.iconst 0, 1) := by decide +kernel
theorem d_Md_not_27 : decode b_Md_not 27 = .ok (.putfield 66, 3) := by decide +kernel
theorem d_Md_not_30 : decode b_Md_not 30 = .ok (.aload_n 0, 1) := by decide +kernel
theorem d_Md_not_31 : decode b_Md_not 31 = .ok (.getfield 66, 3) := by decide +kernel
theorem d_Md_not_34 : decode b_Md_not 34 = .ok (.ifCond .le 7, 3) := by decide +kernel
theorem d_Md_not_37 : decode b_Md_not 37 = .ok (.iconst 0, 1) := by decide +kernel
theorem d_Md_not_38 : decode b_Md_not 38 = .ok (.goto 10, 3) := by decide +kernel
theorem d_Md_not_41 : decode b_Md_not 41 = .ok (.aload_n 0, 1) := by decide +kernel
theorem d_Md_not_42 : decode b_Md_not 42 = .ok (.iconst 3, 1) := by decide +kernel
theorem d_Md_not_43 : decode b_Md_not 43 = .ok (.iload_n 1, 1) := by decide +kernel
theorem d_Md_not_44 : decode b_Md_not 44 = .ok (.iconst (-1), 1) := by decide +kernel
theorem d_Md_not_45 : decode b_Md_not 45 = .ok (.invokevirtual 83, 3) := by decide +kernel
theorem d_Md_not_48 : decode b_Md_not 48 = .ok (.ireturn, 1) := by decide +kernel
theorem d_Md_some_0 : decode b_Md_some 0 = .ok (.aload_n 0, 1) := by decide +kernel
theorem d_Md_some_1 : decode b_Md_some 1 = .ok (.iconst 4, 1) := by decide +kernel
theorem d_Md_some_2 : decode b_Md_some 2 = .ok (.iload_n 1, 1) := by decide +kernel
theorem d_Md_some_3 : decode b_Md_some 3 = .ok (.iload_n 2, 1) := by decide +kernel
theorem d_Md_some_4 : decode b_Md_some 4 = .ok (.invokevirtual 94, 3) := by decide +kernel
theorem d_Md_some_7 : decode b_Md_some 7 = .ok (.ireturn, 1) := by decide +kernel
theorem d_Md_quantified_0 : decode b_Md_quantified 0 = .ok (.aload_n 0, 1) := by decide +kernel
theorem d_Md_quantified_1 : decode b_Md_quantified 1 = .ok (.aload_n 0, 1) := by decide +kernel
theorem d_Md_quantified_2 : decode b_Md_quantified 2 = .ok (.iload_n 3, 1) := by decide +kernel
theorem d_Md_quantified_3 : decode b_Md_quantified 3 = .ok (.invokevirtual 87, 3) := by decide +kernel
theorem d_Md_quantified_6 : decode b_Md_quantified 6 = .ok (.ifCond .ne 7, 3) := by decide +kernel
theorem d_Md_quantified_9 : decode b_Md_quantified 9 = .ok (.iconst 1, 1) := by decide +kernel
theorem d_Md_quantified_10 : decode b_Md_quantified 10 = .ok (.goto 41, 3) := by decide +kernel
theorem d_Md_quantified_13 : decode b_Md_quantified 13 = .ok (.aload_n 0, 1) := by decide +kernel
theorem d_Md_quantified_14 : decode b_Md_quantified 14 = .ok (.getfield 70, 3) := by decide +kernel
theorem d_Md_quantified_17 : decode b_Md_quantified 17 = .ok (.bipush 60, 2) := by decide +kernel
theorem d_Md_quantified_19 : decode b_Md_quantified 19 = .ok (.if_icmp .ne 7, 3) := by decide +kernel
theorem d_Md_quantified_22 : decode b_Md_quantified 22 = .ok (.iconst 2, 1) := by decide +kernel
theorem d_Md_quantified_23 : decode b_Md_quantified 23 = .ok (.goto 28, 3) := by decide +kernel
theorem d_Md_quantified_26 : decode b_Md_quantified 26 = .ok (.iload_n 2, 1) := by decide +kernel
theorem d_Md_quantified_27 : decode b_Md_quantified 27 = .ok (.i2l, 1) := by decide +kernel
theorem d_Md_quantified_28 : decode b_Md_quantified 28 = .ok (.lconst 0, 1) := by decide +kernel
theorem d_Md_quantified_29 : decode b_Md_quantified 29 = .ok (.lconst 1, 1) := by decide +kernel
theorem d_Md_quantified_30 : decode b_Md_quantified 30 = .ok (.invokestatic 73, 3) := by decide +kernel
theorem d_Md_quantified_33 : decode b_Md_quantified 33 = .ok (.ifCond .eq 13, 3) := by decide +kernel
theorem d_Md_quantified_36 : decode b_Md_quantified 36 = .ok (.aload_n 0, 1) := by decide +kernel
theorem d_Md_quantified_37 : decode b_Md_quantified 37 = .ok (.getfield 35, 3) := by decide +kernel
theorem d_Md_quantified_40 : decode b_Md_quantified 40 = .ok (.iload_n 3, 1) := by decide +kernel
theorem d_Md_quantified_41 : decode b_Md_quantified 41 = .ok (.iaload, 1) := by decide +kernel
theorem d_Md_quantified_42 : decode b_Md_quantified 42 = .ok (.iconst 2, 1) := by decide +kernel
theorem d_Md_quantified_43 : decode b_Md_quantified 43 = .ok (.if_icmp .ne 7, 3) := by decide +kernel
theorem d_Md_quantified_46 : decode b_Md_quantified 46 = .ok (.iconst 3, 1) := by decide +kernel
theorem d_Md_quantified_47 : decode b_Md_quantified 47 = .ok (.goto 4, 3) := by decide +kernel
theorem d_Md_quantified_50 : decode b_Md_quantified 50 = .ok (.iconst 0, 1) := by decide +kernel
theorem d_Md_quantified_51 : decode b_Md_quantified 51 = .ok (.putfield 66, 3) := by decide +kernel
theorem d_Md_quantified_54 : decode b_Md_quantified 54 = .ok (.aload_n 0, 1) := by decide +kernel
theorem d_Md_quantified_55 : decode b_Md_quantified 55 = .ok (.getfield 66, 3) := by decide +kernel
theorem d_Md_quantified_58 : decode b_Md_quantified 58 = .ok (.ifCond .le 5, 3) := by decide +kernel
theorem d_Md_quantified_61 : decode b_Md_quantified 61 = .ok (.iconst 0, 1) := by decide +kernel
theorem d_Md_quantified_62 : decode b_Md_quantified 62 = .ok (.ireturn, 1) := by decide +kernel
theorem d_Md_quantified_63 : decode b_Md_quantified 63 = .ok (.aload_n 0, 1) := by decide +kernel
theorem d_Md_quantified_64 : decode b_Md_quantified 64 = .ok (.iload_n 1, 1) := by decide +kernel
theorem d_Md_quantified_65 : decode b_Md_quantified 65 = .ok (.iload_n 3, 1) := by decide +kernel
theorem d_Md_quantified_66 : decode b_Md_quantified 66 = .ok (.iconst (-1), 1) := by decide +kernel
theorem d_Md_quantified_67 : decode b_Md_quantified 67 = .ok (.invokevirtual 83, 3) := by decide +kernel
theorem d_Md_quantified_70 : decode b_Md_quantified 70 = .ok (.istore 4, 2) := by decide +kernel
theorem d_Md_quantified_72 : decode b_Md_quantified 72 = .ok (.aload_n 0, 1) := by decide +kernel
theorem d_Md_quantified_73 : decode b_Md_quantified 73 = .ok (.getfield 22, 3) := by decide +kernel
theorem d_Md_quantified_76 : decode b_Md_quantified 76 = .ok (.iload 4, 2) := by decide +kernel
theorem d_Md_quantified_78 : decode b_Md_quantified 78 = .ok (.iload_n 2, 1) := by decide +kernel
theorem d_Md_quantified_79 : decode b_Md_quantified 79 = .ok (.iastore, 1) := by decide +kernel
theorem d_Md_quantified_80 : decode b_Md_quantified 80 = .ok (.aload_n 0, 1) := by decide +kernel
theorem d_Md_quantified_81 : decode b_Md_quantified 81 = .ok (.getfield 35, 3) := by decide +kernel
theorem d_Md_quantified_84 : decode b_Md_quantified 84 = .ok (.iload 4, 2) := by decide +kernel
theorem d_Md_quantified_86 : decode b_Md_quantified 86 = .ok (.dup2, 1) := by decide +kernel
theorem d_Md_quantified_87 : decode b_Md_quantified 87 = .ok (.iaload, 1) := by decide +kernel
theorem d_Md_quantified_88 : decode b_Md_quantified 88 = .ok (.iconst 1, 1) := by decide +kernel
theorem d_Md_quantified_89 : decode b_Md_quantified 89 = .ok (.iadd, 1) := by decide +kernel
theorem d_Md_quantified_90 : decode b_Md_quantified 90 = .ok (.iastore, 1) := by decide +kernel
theorem d_Md_quantified_91 : decode b_Md_quantified 91 = .ok (.iload_n 2, 1) := by decide +kernel
theorem d_Md_quantified_92 : decode b_Md_quantified 92 = .ok (.ifCond .ne 14, 3) := by decide +kernel
theorem d_Md_quantified_95 : decode b_Md_quantified 95 = .ok (.aload_n 0, 1) := by decide +kernel
theorem d_Md_quantified_96 : decode b_Md_quantified 96 = .ok (.getfield 25, 3) := by decide +kernel
theorem d_Md_quantified_99 : decode b_Md_quantified 99 = .ok (.iload 4, 2) := by decide +kernel
theorem d_Md_quantified_101 : decode b_Md_quantified 101 = .ok (.iconst 0, 1) := by decide +kernel
theorem d_Md_quantified_102 : decode b_Md_quantified 102 = .ok (.bastore, 1) := by decide +kernel
theorem d_Md_quantified_103 : decode b_Md_quantified 103 = .ok (.goto 11, 3) := by decide +kernel
theorem d_Md_quantified_106 : decode b_Md_quantified 106 = .ok (.aload_n 0, 1) := by decide +kernel
theorem d_Md_quantified_107 : decode b_Md_quantified 107 = .ok (.getfield 29, 3) := by decide +kernel
theorem d_Md_quantified_110 : decode b_Md_quantified 110 = .ok (.iload 4, 2) := by decide +kernel
theorem d_Md_quantified_112 : decode b_Md_quantified 112 = .ok (.iconst 0, 1) := by decide +kernel
theorem d_Md_quantified_113 : decode b_Md_quantified 113 = .ok (.bastore, 1) := by decide +kernel
theorem d_Md_quantified_114 : decode b_Md_quantified 114 = .ok (.iload 4, 2) := by decide +kernel
theorem d_Md_quantified_116 : decode b_Md_quantified 116 = .ok (.ireturn, 1) := by decide +kernel
theorem d_Md_every_0 : decode b_Md_every 0 = .ok (.aload_n 0, 1) := by decide +kernel
theorem d_Md_every_1 : decode b_Md_every 1 = .ok (.iconst 5, 1) := by decide +kernel
theorem d_Md_every_2 : decode b_Md_every 2 = .ok (.iload_n 1, 1) := by decide +kernel
theorem d_Md_every_3 : decode b_Md_every 3 = .ok (.iload_n 2, 1) := by decide +kernel
theorem d_Md_every_4 : decode b_Md_every 4 = .ok (.invokevirtual 94, 3) := by decide +kernel
theorem d_Md_every_7 : decode b_Md_every 7 = .ok (.ireturn, 1) := by decide +kernel
theorem d_Md_known_0 : decode b_Md_known 0 = .ok (.aload_n 0, 1) := by decide +kernel
theorem d_Md_known_1 : decode b_Md_known 1 = .ok (.aload_n 0, 1) := by decide +kernel
theorem d_Md_known_2 : decode b_Md_known 2 = .ok (.iload_n 1, 1) := by decide +kernel
theorem d_Md_known_3 : decode b_Md_known 3 = .ok (.invokevirtual 87, 3) := by decide +kernel
theorem d_Md_known_6 : decode b_Md_known 6 = .ok (.ifCond .ne 7, 3) := by decide +kernel
theorem d_Md_known_9 : decode b_Md_known 9 = .ok (.iconst 1, 1) := by decide +kernel
theorem d_Md_known_10 : decode b_Md_known 10 = .ok (.goto 20, 3) := by decide +kernel
theorem d_Md_known_13 : decode b_Md_known 13 = .ok (.iload_n 2, 1) := by decide +kernel
theorem d_Md_known_14 : decode b_Md_known 14 = .ok (.i2l, 1) := by decide +kernel
theorem d_Md_known_15 : decode b_Md_known 15 = .ok (.lconst 0, 1) := by decide +kernel
theorem d_Md_known_16 : decode b_Md_known 16 = .ok (.ldc2_w 97, 3) := by decide +kernel
theorem d_Md_known_19 : decode b_Md_known 19 = .ok (.invokestatic 73, 3) := by decide +kernel
theorem d_Md_known_22 : decode b_Md_known 22 = .ok (.ifCond .eq 7, 3) := by decide +kernel
theorem d_Md_known_25 : decode b_Md_known 25 = .ok (.iconst 0, 1) := by decide +kernel
theorem d_Md_known_26 : decode b_Md_known 26 = .ok (.goto 4, 3) := by decide +kernel
theorem d_Md_known_29 : decode b_Md_known 29 = .ok (.iconst 2, 1) := by decide +kernel
theorem d_Md_known_30 : decode b_Md_known 30 = .ok (.putfield 66, 3) := by decide +kernel
theorem d_Md_known_33 : decode b_Md_known 33 = .ok (.aload_n 0, 1) := by decide +kernel
theorem d_Md_known_34 : decode b_Md_known 34 = .ok (.getfield 66, 3) := by decide +kernel
theorem d_Md_known_37 : decode b_Md_known 37 = .ok (.ifCond .le 5, 3) := by decide +kernel
theorem d_Md_known_40 : decode b_Md_known 40 = .ok (.iconst 0, 1) := by decide +kernel
theorem d_Md_known_41 : decode b_Md_known 41 = .ok (.ireturn, 1) := by decide +kernel
theorem d_Md_known_42 : decode b_Md_known 42 = .ok (.iload_n 2, 1) := by decide +kernel
theorem d_Md_known_43 : decode b_Md_known 43 = .ok (.ifCond .ne 20, 3) := by decide +kernel
theorem d_Md_known_46 : decode b_Md_known 46 = .ok (.aload_n 0, 1) := by decide +kernel
theorem d_Md_known_47 : decode b_Md_known 47 = .ok (.getfield 25, 3) := by decide +kernel
theorem d_Md_known_50 : decode b_Md_known 50 = .ok (.iload_n 1, 1) := by decide +kernel
theorem d_Md_known_51 : decode b_Md_known 51 = .ok (.baload, 1) := by decide +kernel
theorem d_Md_known_52 : decode b_Md_known 52 = .ok (.ifCond .eq 7, 3) := by decide +kernel
theorem d_Md_known_55 : decode b_Md_known 55 = .ok (.iconst 1, 1) := by decide +kernel
theorem d_Md_known_56 : decode b_Md_known 56 = .ok (.goto 49, 3) := by decide +kernel
theorem d_Md_known_59 : decode b_Md_known 59 = .ok (.iconst 0, 1) := by decide +kernel
theorem d_Md_known_60 : decode b_Md_known 60 = .ok (.goto 45, 3) := by decide +kernel
theorem d_Md_known_63 : decode b_Md_known 63 = .ok (.iload_n 2, 1) := by decide +kernel
theorem d_Md_known_64 : decode b_Md_known 64 = .ok (.iconst 1, 1) := by decide +kernel
theorem d_Md_known_65 : decode b_Md_known 65 = .ok (.if_icmp .ne 20, 3) := by decide +kernel
theorem d_Md_known_68 : decode b_Md_known 68 = .ok (.aload_n 0, 1) := by decide +kernel
theorem d_Md_known_69 : decode b_Md_known 69 = .ok (.getfield 29, 3) := by decide +kernel
theorem d_Md_known_72 : decode b_Md_known 72 = .ok (.iload_n 1, 1) := by decide +kernel
theorem d_Md_known_73 : decode b_Md_known 73 = .ok (.baload, 1) := by decide +kernel
theorem d_Md_known_74 : decode b_Md_known 74 = .ok (.ifCond .eq 7, 3) := by decide +kernel
theorem d_Md_known_77 : decode b_Md_known 77 = .ok (.iconst 1, 1) := by decide +kernel
theorem d_Md_known_78 : decode b_Md_known 78 = .ok (.goto 27, 3) := by decide +kernel
theorem d_Md_known_81 : decode b_Md_known 81 = .ok (.iconst 0, 1) := by decide +kernel
theorem d_Md_known_82 : decode b_Md_known 82 = .ok (.goto 23, 3) := by decide +kernel
theorem d_Md_known_85 : decode b_Md_known 85 = .ok (.iload_n 2, 1) := by decide +kernel
theorem d_Md_known_86 : decode b_Md_known 86 = .ok (.iconst 2, 1) := by decide +kernel
theorem d_Md_known_87 : decode b_Md_known 87 = .ok (.if_icmp .ne 12, 3) := by decide +kernel
theorem d_Md_known_90 : decode b_Md_known 90 = .ok (.aload_n 0, 1) := by decide +kernel
theorem d_Md_known_91 : decode b_Md_known 91 = .ok (.getfield 32, 3) := by decide +kernel
theorem d_Md_known_94 : decode b_Md_known 94 = .ok (.iload_n 1, 1) := by decide +kernel
theorem d_Md_known_95 : decode b_Md_known 95 = .ok (.iaload, 1) := by decide +kernel
theorem d_Md_known_96 : decode b_Md_known 96 = .ok (.goto 9, 3) := by decide +kernel
theorem d_Md_known_99 : decode b_Md_known 99 = .ok (.aload_n 0, 1) := by decide +kernel
theorem d_Md_known_100 : decode b_Md_known 100 = .ok (.getfield 35, 3) := by decide +kernel
theorem d_Md_known_103 : decode b_Md_known 103 = .ok (.iload_n 1, 1) := by decide +kernel
theorem d_Md_known_104 : decode b_Md_known 104 = .ok (.iaload, 1) := by decide +kernel
theorem d_Md_known_105 : decode b_Md_known 105 = .ok (.ireturn, 1) := by decide +kernel
theorem d_Md_count_0 : decode b_Md_count 0 = .ok (.aload_n 0, 1) := by decide +kernel
theorem d_Md_count_1 : decode b_Md_count 1 = .ok (.iconst 0, 1) := by decide +kernel
theorem d_Md_count_2 : decode b_Md_count 2 = .ok (.putfield 66, 3) := by decide +kernel
theorem d_Md_count_5 : decode b_Md_count 5 = .ok (.aload_n 0, 1) := by decide +kernel
theorem d_Md_count_6 : decode b_Md_count 6 = .ok (.getfield 70, 3) := by decide +kernel
theorem d_Md_count_9 : decode b_Md_count 9 = .ok (.ireturn, 1) := by decide +kernel
theorem d_Md_holds_0 : decode b_Md_holds 0 = .ok (.aload_n 0, 1) := by decide +kernel
theorem d_Md_holds_1 : decode b_Md_holds 1 = .ok (.aload_n 0, 1) := by decide +kernel
theorem d_Md_holds_2 : decode b_Md_holds 2 = .ok (.iload_n 1, 1) := by decide +kernel
theorem d_Md_holds_3 : decode b_Md_holds 3 = .ok (.invokevirtual 87, 3) := by decide +kernel
theorem d_Md_holds_6 : decode b_Md_holds 6 = .ok (.ifCond .ne 7, 3) := by decide +kernel
theorem d_Md_holds_9 : decode b_Md_holds 9 = .ok (.iconst 1, 1) := by decide +kernel
theorem d_Md_holds_10 : decode b_Md_holds 10 = .ok (.goto 36, 3) := by decide +kernel
theorem d_Md_holds_13 : decode b_Md_holds 13 = .ok (.iload_n 2, 1) := by decide +kernel
theorem d_Md_holds_14 : decode b_Md_holds 14 = .ok (.i2l, 1) := by decide +kernel
theorem d_Md_holds_15 : decode b_Md_holds 15 = .ok (.ldc2_w 158, 3) := by decide +kernel
theorem d_Md_holds_18 : decode b_Md_holds 18 = .ok (.ldc2_w 160, 3) := by decide +kernel
theorem d_Md_holds_21 : decode b_Md_holds 21 = .ok (.invokestatic 73, 3) := by decide +kernel
theorem d_Md_holds_24 : decode b_Md_holds 24 = .ok (.ifCond .eq 21, 3) := by decide +kernel
theorem d_Md_holds_27 : decode b_Md_holds 27 = .ok (.iload_n 3, 1) := by decide +kernel
theorem d_Md_holds_28 : decode b_Md_holds 28 = .ok (.i2l, 1) := by decide +kernel
theorem d_Md_holds_29 : decode b_Md_holds 29 = .ok (.ldc2_w 158, 3) := by decide +kernel
theorem d_Md_holds_32 : decode b_Md_holds 32 = .ok (.ldc2_w 160, 3) := by decide +kernel
theorem d_Md_holds_35 : decode b_Md_holds 35 = .ok (.invokestatic 73, 3) := by decide +kernel
theorem d_Md_holds_38 : decode b_Md_holds 38 = .ok (.ifCond .eq 7, 3) := by decide +kernel
theorem d_Md_holds_41 : decode b_Md_holds 41 = .ok (.iconst 0, 1) := by decide +kernel
theorem d_Md_holds_42 : decode b_Md_holds 42 = .ok (.goto 4, 3) := by decide +kernel
theorem d_Md_holds_45 : decode b_Md_holds 45 = .ok (.iconst 2, 1) := by decide +kernel
theorem d_Md_holds_46 : decode b_Md_holds 46 = .ok (.putfield 66, 3) := by decide +kernel
theorem d_Md_holds_49 : decode b_Md_holds 49 = .ok (.aload_n 0, 1) := by decide +kernel
theorem d_Md_holds_50 : decode b_Md_holds 50 = .ok (.getfield 66, 3) := by decide +kernel
theorem d_Md_holds_53 : decode b_Md_holds 53 = .ok (.ifCond .ne 19, 3) := by decide +kernel
theorem d_Md_holds_56 : decode b_Md_holds 56 = .ok (.aload_n 0, 1) := by decide +kernel
theorem d_Md_holds_57 : decode b_Md_holds 57 = .ok (.iload_n 1, 1) := by decide +kernel
theorem d_Md_holds_58 : decode b_Md_holds 58 = .ok (.iload_n 2, 1) := by decide +kernel
theorem d_Md_holds_59 : decode b_Md_holds 59 = .ok (.i2l, 1) := by decide +kernel
theorem d_Md_holds_60 : decode b_Md_holds 60 = .ok (.iload_n 3, 1) := by decide +kernel
theorem d_Md_holds_61 : decode b_Md_holds 61 = .ok (.i2l, 1) := by decide +kernel
theorem d_Md_holds_62 : decode b_Md_holds 62 = .ok (.invokevirtual 162, 3) := by decide +kernel
theorem d_Md_holds_65 : decode b_Md_holds 65 = .ok (.ifCond .eq 7, 3) := by decide +kernel
theorem d_Md_holds_68 : decode b_Md_holds 68 = .ok (.iconst 1, 1) := by decide +kernel
theorem d_Md_holds_69 : decode b_Md_holds 69 = .ok (.goto 4, 3) := by decide +kernel
theorem d_Md_holds_72 : decode b_Md_holds 72 = .ok (.iconst 0, 1) := by decide +kernel
theorem d_Md_holds_73 : decode b_Md_holds 73 = .ok (.ireturn, 1) := by decide +kernel
theorem d_Md_at_0 : decode b_Md_at 0 = .ok (.aload_n 0, 1) := by decide +kernel
theorem d_Md_at_1 : decode b_Md_at 1 = .ok (.getfield 44, 3) := by decide +kernel
theorem d_Md_at_4 : decode b_Md_at 4 = .ok (.bipush 8, 2) := by decide +kernel
theorem d_Md_at_6 : decode b_Md_at 6 = .ok (.lload_n 2, 1) := by decide +kernel
theorem d_Md_at_7 : decode b_Md_at 7 = .ok (.lastore, 1) := by decide +kernel
theorem d_Md_at_8 : decode b_Md_at 8 = .ok (.aload_n 0, 1) := by decide +kernel
theorem d_Md_at_9 : decode b_Md_at 9 = .ok (.getfield 44, 3) := by decide +kernel
theorem d_Md_at_12 : decode b_Md_at 12 = .ok (.bipush 9, 2) := by decide +kernel
theorem d_Md_at_14 : decode b_Md_at 14 = .ok (.lconst 1, 1) := by decide +kernel
theorem d_Md_at_15 : decode b_Md_at 15 = .ok (.lastore, 1) := by decide +kernel
theorem d_Md_at_16 : decode b_Md_at 16 = .ok (.aload_n 0, 1) := by decide +kernel
theorem d_Md_at_17 : decode b_Md_at 17 = .ok (.getfield 44, 3) := by decide +kernel
theorem d_Md_at_20 : decode b_Md_at 20 = .ok (.bipush 10, 2) := by decide +kernel
theorem d_Md_at_22 : decode b_Md_at 22 = .ok (.lload 4, 2) := by decide +kernel
theorem d_Md_at_24 : decode b_Md_at 24 = .ok (.lastore, 1) := by decide +kernel
theorem d_Md_at_25 : decode b_Md_at 25 = .ok (.aload_n 0, 1) := by decide +kernel
theorem d_Md_at_26 : decode b_Md_at 26 = .ok (.getfield 44, 3) := by decide +kernel
theorem d_Md_at_29 : decode b_Md_at 29 = .ok (.bipush 11, 2) := by decide +kernel
theorem d_Md_at_31 : decode b_Md_at 31 = .ok (.lconst 1, 1) := by decide +kernel
theorem d_Md_at_32 : decode b_Md_at 32 = .ok (.lastore, 1) := by decide +kernel
theorem d_Md_at_33 : decode b_Md_at 33 = .ok (.aload_n 0, 1) := by decide +kernel
theorem d_Md_at_34 : decode b_Md_at 34 = .ok (.iload_n 1, 1) := by decide +kernel
theorem d_Md_at_35 : decode b_Md_at 35 = .ok (.invokevirtual 155, 3) := by decide +kernel
theorem d_Md_at_38 : decode b_Md_at 38 = .ok (.ireturn, 1) := by decide +kernel
theorem d_Md_truth2_0 : decode b_Md_truth2 0 = .ok (.aload_n 0, 1) := by decide +kernel
theorem d_Md_truth2_1 : decode b_Md_truth2 1 = .ok (.iload_n 1, 1) := by decide +kernel
theorem d_Md_truth2_2 : decode b_Md_truth2 2 = .ok (.bipush 120, 2) := by decide +kernel
theorem d_Md_truth2_4 : decode b_Md_truth2 4 = .ok (.invokevirtual 106, 3) := by decide +kernel
theorem d_Md_truth2_7 : decode b_Md_truth2 7 = .ok (.iconst 0, 1) := by decide +kernel
theorem d_Md_truth2_8 : decode b_Md_truth2 8 = .ok (.istore_n 2, 1) := by decide +kernel
theorem d_Md_truth2_9 : decode b_Md_truth2 9 = .ok (.iload_n 2, 1) := by decide +kernel
theorem d_Md_truth2_10 : decode b_Md_truth2 10 = .ok (.iload_n 1, 1) := by decide +kernel
theorem d_Md_truth2_11 : decode b_Md_truth2 11 = .ok (.if_icmp .gt 54, 3) := by decide +kernel
theorem d_Md_truth2_14 : decode b_Md_truth2 14 = .ok (.aload_n 0, 1) := by decide +kernel
theorem d_Md_truth2_15 : decode b_Md_truth2 15 = .ok (.getfield 38, 3) := by decide +kernel
theorem d_Md_truth2_18 : decode b_Md_truth2 18 = .ok (.bipush 120, 2) := by decide +kernel
theorem d_Md_truth2_20 : decode b_Md_truth2 20 = .ok (.iload_n 2, 1) := by decide +kernel
theorem d_Md_truth2_21 : decode b_Md_truth2 21 = .ok (.iadd, 1) := by decide +kernel
theorem d_Md_truth2_22 : decode b_Md_truth2 22 = .ok (.baload, 1) := by decide +kernel
theorem d_Md_truth2_23 : decode b_Md_truth2 23 = .ok (.ifCond .eq 36, 3) := by decide +kernel
theorem d_Md_truth2_26 : decode b_Md_truth2 26 = .ok (.aload_n 0, 1) := by decide +kernel
theorem d_Md_truth2_27 : decode b_Md_truth2 27 = .ok (.getfield 41, 3) := by decide +kernel
theorem d_Md_truth2_30 : decode b_Md_truth2 30 = .ok (.bipush 120, 2) := by decide +kernel
theorem d_Md_truth2_32 : decode b_Md_truth2 32 = .ok (.iload_n 2, 1) := by decide +kernel
theorem d_Md_truth2_33 : decode b_Md_truth2 33 = .ok (.iadd, 1) := by decide +kernel
theorem d_Md_truth2_34 : decode b_Md_truth2 34 = .ok (.aload_n 0, 1) := by decide +kernel
theorem d_Md_truth2_35 : decode b_Md_truth2 35 = .ok (.getfield 7, 3) := by decide +kernel
theorem d_Md_truth2_38 : decode b_Md_truth2 38 = .ok (.iload_n 2, 1) := by decide +kernel
theorem d_Md_truth2_39 : decode b_Md_truth2 39 = .ok (.iaload, 1) := by decide +kernel
theorem d_Md_truth2_40 : decode b_Md_truth2 40 = .ok (.iconst 4, 1) := by decide +kernel
theorem d_Md_truth2_41 : decode b_Md_truth2 41 = .ok (.if_icmp .ge 12, 3) := by decide +kernel
theorem d_Md_truth2_44 : decode b_Md_truth2 44 = .ok (.aload_n 0, 1) := by decide +kernel
theorem d_Md_truth2_45 : decode b_Md_truth2 45 = .ok (.iconst 2, 1) := by decide +kernel
theorem d_Md_truth2_46 : decode b_Md_truth2 46 = .ok (.iload_n 2, 1) := by decide +kernel
theorem d_Md_truth2_47 : decode b_Md_truth2 47 = .ok (.invokevirtual 130, 3) := by decide +kernel
theorem d_Md_truth2_50 : decode b_Md_truth2 50 = .ok (.goto 8, 3) := by decide +kernel
theorem d_Md_truth2_53 : decode b_Md_truth2 53 = .ok (.aload_n 0, 1) := by decide +kernel
theorem d_Md_truth2_54 : decode b_Md_truth2 54 = .ok (.iload_n 2, 1) := by decide +kernel
theorem d_Md_truth2_55 : decode b_Md_truth2 55 = .ok (.invokevirtual 149, 3) := by decide +kernel
theorem d_Md_truth2_58 : decode b_Md_truth2 58 = .ok (.bastore, 1) := by decide +kernel
theorem d_Md_truth2_59 : decode b_Md_truth2 59 = .ok (.iinc 2 1, 3) := by decide +kernel
theorem d_Md_truth2_62 : decode b_Md_truth2 62 = .ok (.goto (-53), 3) := by decide +kernel
theorem d_Md_truth2_65 : decode b_Md_truth2 65 = .ok (.aload_n 0, 1) := by decide +kernel
theorem d_Md_truth2_66 : decode b_Md_truth2 66 = .ok (.getfield 41, 3) := by decide +kernel
theorem d_Md_truth2_69 : decode b_Md_truth2 69 = .ok (.bipush 120, 2) := by decide +kernel
theorem d_Md_truth2_71 : decode b_Md_truth2 71 = .ok (.iload_n 1, 1) := by decide +kernel
theorem d_Md_truth2_72 : decode b_Md_truth2 72 = .ok (.iadd, 1) := by decide +kernel
theorem d_Md_truth2_73 : decode b_Md_truth2 73 = .ok (.baload, 1) := by decide +kernel
theorem d_Md_truth2_74 : decode b_Md_truth2 74 = .ok (.ireturn, 1) := by decide +kernel
theorem d_Md_mark_0 : decode b_Md_mark 0 = .ok (.iconst 0, 1) := by decide +kernel
theorem d_Md_mark_1 : decode b_Md_mark 1 = .ok (.istore_n 3, 1) := by decide +kernel
theorem d_Md_mark_2 : decode b_Md_mark 2 = .ok (.iload_n 3, 1) := by decide +kernel
theorem d_Md_mark_3 : decode b_Md_mark 3 = .ok (.bipush 60, 2) := by decide +kernel
theorem d_Md_mark_5 : decode b_Md_mark 5 = .ok (.if_icmp .ge 27, 3) := by decide +kernel
theorem d_Md_mark_8 : decode b_Md_mark 8 = .ok (.aload_n 0, 1) := by decide +kernel
theorem d_Md_mark_9 : decode b_Md_mark 9 = .ok (.getfield 38, 3) := by decide +kernel
theorem d_Md_mark_12 : decode b_Md_mark 12 = .ok (.iload_n 2, 1) := by decide +kernel
theorem d_Md_mark_13 : decode b_Md_mark 13 = .ok (.iload_n 3, 1) := by decide +kernel
theorem d_Md_mark_14 : decode b_Md_mark 14 = .ok (.iadd, 1) := by decide +kernel
theorem d_Md_mark_15 : decode b_Md_mark 15 = .ok (.iload_n 3, 1) := by decide +kernel
theorem d_Md_mark_16 : decode b_Md_mark 16 = .ok (.iload_n 1, 1) := by decide +kernel
theorem d_Md_mark_17 : decode b_Md_mark 17 = .ok (.if_icmp .ne 7, 3) := by decide +kernel
theorem d_Md_mark_20 : decode b_Md_mark 20 = .ok (.iconst 1, 1) := by decide +kernel
theorem d_Md_mark_21 : decode b_Md_mark 21 = .ok (.goto 4, 3) := by decide +kernel
theorem d_Md_mark_24 : decode b_Md_mark 24 = .ok (.iconst 0, 1) := by decide +kernel
theorem d_Md_mark_25 : decode b_Md_mark 25 = .ok (.bastore, 1) := by decide +kernel
theorem d_Md_mark_26 : decode b_Md_mark 26 = .ok (.iinc 3 1, 3) := by decide +kernel
theorem d_Md_mark_29 : decode b_Md_mark 29 = .ok (.goto (-27), 3) := by decide +kernel
theorem d_Md_mark_32 : decode b_Md_mark 32 = .ok (.iload_n 1, 1) := by decide +kernel
theorem d_Md_mark_33 : decode b_Md_mark 33 = .ok (.istore_n 3, 1) := by decide +kernel
theorem d_Md_mark_34 : decode b_Md_mark 34 = .ok (.iload_n 3, 1) := by decide +kernel
theorem d_Md_mark_35 : decode b_Md_mark 35 = .ok (.ifCond .lt 70, 3) := by decide +kernel
theorem d_Md_mark_38 : decode b_Md_mark 38 = .ok (.aload_n 0, 1) := by decide +kernel
theorem d_Md_mark_39 : decode b_Md_mark 39 = .ok (.getfield 38, 3) := by decide +kernel
theorem d_Md_mark_42 : decode b_Md_mark 42 = .ok (.iload_n 2, 1) := by decide +kernel
theorem d_Md_mark_43 : decode b_Md_mark 43 = .ok (.iload_n 3, 1) := by decide +kernel
theorem d_Md_mark_44 : decode b_Md_mark 44 = .ok (.iadd, 1) := by decide +kernel
theorem d_Md_mark_45 : decode b_Md_mark 45 = .ok (.baload, 1) := by decide +kernel
theorem d_Md_mark_46 : decode b_Md_mark 46 = .ok (.ifCond .eq 53, 3) := by decide +kernel
theorem d_Md_mark_49 : decode b_Md_mark 49 = .ok (.aload_n 0, 1) := by decide +kernel
theorem d_Md_mark_50 : decode b_Md_mark 50 = .ok (.getfield 7, 3) := by decide +kernel
theorem d_Md_mark_53 : decode b_Md_mark 53 = .ok (.iload_n 3, 1) := by decide +kernel
theorem d_Md_mark_54 : decode b_Md_mark 54 = .ok (.iaload, 1) := by decide +kernel
theorem d_Md_mark_55 : decode b_Md_mark 55 = .ok (.ifCond .ne 6, 3) := by decide +kernel
theorem d_Md_mark_58 : decode b_Md_mark 58 = .ok (.goto 41, 3) := by decide +kernel
theorem d_Md_mark_61 : decode b_Md_mark 61 = .ok (.aload_n 0, 1) := by decide +kernel
theorem d_Md_mark_62 : decode b_Md_mark 62 = .ok (.getfield 38, 3) := by decide +kernel
theorem d_Md_mark_65 : decode b_Md_mark 65 = .ok (.iload_n 2, 1) := by decide +kernel
theorem d_Md_mark_66 : decode b_Md_mark 66 = .ok (.aload_n 0, 1) := by decide +kernel
theorem d_Md_mark_67 : decode b_Md_mark 67 = .ok (.getfield 13, 3) := by decide +kernel
theorem d_Md_mark_70 : decode b_Md_mark 70 = .ok (.iload_n 3, 1) := by decide +kernel
theorem d_Md_mark_71 : decode b_Md_mark 71 = .ok (.iaload, 1) := by decide +kernel
theorem d_Md_mark_72 : decode b_Md_mark 72 = .ok (.iadd, 1) := by decide +kernel
theorem d_Md_mark_73 : decode b_Md_mark 73 = .ok (.iconst 1, 1) := by decide +kernel
theorem d_Md_mark_74 : decode b_Md_mark 74 = .ok (.bastore, 1) := by decide +kernel
theorem d_Md_mark_75 : decode b_Md_mark 75 = .ok (.aload_n 0, 1) := by decide +kernel
theorem d_Md_mark_76 : decode b_Md_mark 76 = .ok (.getfield 16, 3) := by decide +kernel
theorem d_Md_mark_79 : decode b_Md_mark 79 = .ok (.iload_n 3, 1) := by decide +kernel
theorem d_Md_mark_80 : decode b_Md_mark 80 = .ok (.iaload, 1) := by decide +kernel
theorem d_Md_mark_81 : decode b_Md_mark 81 = .ok (.iconst (-1), 1) := by decide +kernel
theorem d_Md_mark_82 : decode b_Md_mark 82 = .ok (.if_icmp .eq 17, 3) := by decide +kernel
theorem d_Md_mark_85 : decode b_Md_mark 85 = .ok (.aload_n 0, 1) := by decide +kernel
theorem d_Md_mark_86 : decode b_Md_mark 86 = .ok (.getfield 38, 3) := by decide +kernel
theorem d_Md_mark_89 : decode b_Md_mark 89 = .ok (.iload_n 2, 1) := by decide +kernel
theorem d_Md_mark_90 : decode b_Md_mark 90 = .ok (.aload_n 0, 1) := by decide +kernel
theorem d_Md_mark_91 : decode b_Md_mark 91 = .ok (.getfield 16, 3) := by decide +kernel
theorem d_Md_mark_94 : decode b_Md_mark 94 = .ok (.iload_n 3, 1) := by decide +kernel
theorem d_Md_mark_95 : decode b_Md_mark 95 = .ok (.iaload, 1) := by decide +kernel
theorem d_Md_mark_96 : decode b_Md_mark 96 = .ok (.iadd, 1) := by decide +kernel
theorem d_Md_mark_97 : decode b_Md_mark 97 = .ok (.iconst 1, 1) := by decide +kernel
theorem d_Md_mark_98 : decode b_Md_mark 98 = .ok (.bastore, 1) := by decide +kernel
theorem d_Md_mark_99 : decode b_Md_mark 99 = .ok (.iinc 3 (-1), 3) := by decide +kernel
theorem d_Md_mark_102 : decode b_Md_mark 102 = .ok (.goto (-68), 3) := by decide +kernel
theorem d_Md_mark_105 : decode b_Md_mark 105 = .ok (.return_, 1) := by decide +kernel
theorem d_Md_plain_0 : decode b_Md_plain 0 = .ok (.bipush 60, 2) := by decide +kernel
theorem d_Md_plain_2 : decode b_Md_plain 2 = .ok (.iload_n 1, 1) := by decide +kernel
theorem d_Md_plain_3 : decode b_Md_plain 3 = .ok (.imul, 1) := by decide +kernel
theorem d_Md_plain_4 : decode b_Md_plain 4 = .ok (.istore_n 3, 1) := by decide +kernel
theorem d_Md_plain_5 : decode b_Md_plain 5 = .ok (.aload_n 0, 1) := by decide +kernel
theorem d_Md_plain_6 : decode b_Md_plain 6 = .ok (.getfield 7, 3) := by decide +kernel
theorem d_Md_plain_9 : decode b_Md_plain 9 = .ok (.iload_n 2, 1) := by decide +kernel
theorem d_Md_plain_10 : decode b_Md_plain 10 = .ok (.iaload, 1) := by decide +kernel
theorem d_Md_plain_11 : decode b_Md_plain 11 = .ok (.tableswitch 108 0 2 #[25, 32, 70], 25) := by decide +kernel
theorem d_Md_plain_36 : decode b_Md_plain 36 = .ok (.aload_n 0, 1) := by decide +kernel
theorem d_Md_plain_37 : decode b_Md_plain 37 = .ok (.iload_n 1, 1) := by decide +kernel
theorem d_Md_plain_38 : decode b_Md_plain 38 = .ok (.iload_n 2, 1) := by decide +kernel
theorem d_Md_plain_39 : decode b_Md_plain 39 = .ok (.invokevirtual 126, 3) := by decide +kernel
theorem d_Md_plain_42 : decode b_Md_plain 42 = .ok (.ireturn, 1) := by decide +kernel
theorem d_Md_plain_43 : decode b_Md_plain 43 = .ok (.aload_n 0, 1) := by decide +kernel
theorem d_Md_plain_44 : decode b_Md_plain 44 = .ok (.getfield 41, 3) := by decide +kernel
theorem d_Md_plain_47 : decode b_Md_plain 47 = .ok (.iload_n 3, 1) := by decide +kernel
theorem d_Md_plain_48 : decode b_Md_plain 48 = .ok (.aload_n 0, 1) := by decide +kernel
theorem d_Md_plain_49 : decode b_Md_plain 49 = .ok (.getfield 13, 3) := by decide +kernel
theorem d_Md_plain_52 : decode b_Md_plain 52 = .ok (.iload_n 2, 1) := by decide +kernel
theorem d_Md_plain_53 : decode b_Md_plain 53 = .ok (.iaload, 1) := by decide +kernel
theorem d_Md_plain_54 : decode b_Md_plain 54 = .ok (.iadd, 1) := by decide +kernel
theorem d_Md_plain_55 : decode b_Md_plain 55 = .ok (.baload, 1) := by decide +kernel
theorem d_Md_plain_56 : decode b_Md_plain 56 = .ok (.ifCond .eq 23, 3) := by decide +kernel
theorem d_Md_plain_59 : decode b_Md_plain 59 = .ok (.aload_n 0, 1) := by decide +kernel
theorem d_Md_plain_60 : decode b_Md_plain 60 = .ok (.getfield 41, 3) := by decide +kernel
theorem d_Md_plain_63 : decode b_Md_plain 63 = .ok (.iload_n 3, 1) := by decide +kernel
theorem d_Md_plain_64 : decode b_Md_plain 64 = .ok (.aload_n 0, 1) := by decide +kernel
theorem d_Md_plain_65 : decode b_Md_plain 65 = .ok (.getfield 16, 3) := by decide +kernel
theorem d_Md_plain_68 : decode b_Md_plain 68 = .ok (.iload_n 2, 1) := by decide +kernel
theorem d_Md_plain_69 : decode b_Md_plain 69 = .ok (.iaload, 1) := by decide +kernel
theorem d_Md_plain_70 : decode b_Md_plain 70 = .ok (.iadd, 1) := by decide +kernel
theorem d_Md_plain_71 : decode b_Md_plain 71 = .ok (.baload, 1) := by decide +kernel
theorem d_Md_plain_72 : decode b_Md_plain 72 = .ok (.ifCond .eq 7, 3) := by decide +kernel
theorem d_Md_plain_75 : decode b_Md_plain 75 = .ok (.iconst 1, 1) := by decide +kernel
theorem d_Md_plain_76 : decode b_Md_plain 76 = .ok (.goto 4, 3) := by decide +kernel
theorem d_Md_plain_79 : decode b_Md_plain 79 = .ok (.iconst 0, 1) := by decide +kernel
theorem d_Md_plain_80 : decode b_Md_plain 80 = .ok (.ireturn, 1) := by decide +kernel
theorem d_Md_plain_81 : decode b_Md_plain 81 = .ok (.aload_n 0, 1) := by decide +kernel
theorem d_Md_plain_82 : decode b_Md_plain 82 = .ok (.getfield 41, 3) := by decide +kernel
theorem d_Md_plain_85 : decode b_Md_plain 85 = .ok (.iload_n 3, 1) := by decide +kernel
theorem d_Md_plain_86 : decode b_Md_plain 86 = .ok (.aload_n 0, 1) := by decide +kernel
theorem d_Md_plain_87 : decode b_Md_plain 87 = .ok (.getfield 13, 3) := by decide +kernel
theorem d_Md_plain_90 : decode b_Md_plain 90 = .ok (.iload_n 2, 1) := by decide +kernel
theorem d_Md_plain_91 : decode b_Md_plain 91 = .ok (.iaload, 1) := by decide +kernel
theorem d_Md_plain_92 : decode b_Md_plain 92 = .ok (.iadd, 1) := by decide +kernel
theorem d_Md_plain_93 : decode b_Md_plain 93 = .ok (.baload, 1) := by decide +kernel
theorem d_Md_plain_94 : decode b_Md_plain 94 = .ok (.ifCond .ne 19, 3) := by decide +kernel
theorem d_Md_plain_97 : decode b_Md_plain 97 = .ok (.aload_n 0, 1) := by decide +kernel
theorem d_Md_plain_98 : decode b_Md_plain 98 = .ok (.getfield 41, 3) := by decide +kernel
theorem d_Md_plain_101 : decode b_Md_plain 101 = .ok (.iload_n 3, 1) := by decide +kernel
theorem d_Md_plain_102 : decode b_Md_plain 102 = .ok (.aload_n 0, 1) := by decide +kernel
theorem d_Md_plain_103 : decode b_Md_plain 103 = .ok (.getfield 16, 3) := by decide +kernel
theorem d_Md_plain_106 : decode b_Md_plain 106 = .ok (.iload_n 2, 1) := by decide +kernel
theorem d_Md_plain_107 : decode b_Md_plain 107 = .ok (.iaload, 1) := by decide +kernel
theorem d_Md_plain_108 : decode b_Md_plain 108 = .ok (.iadd, 1) := by decide +kernel
theorem d_Md_plain_109 : decode b_Md_plain 109 = .ok (.baload, 1) := by decide +kernel
theorem d_Md_plain_110 : decode b_Md_plain 110 = .ok (.ifCond .eq 7, 3) := by decide +kernel
theorem d_Md_plain_113 : decode b_Md_plain 113 = .ok (.iconst 1, 1) := by decide +kernel
theorem d_Md_plain_114 : decode b_Md_plain 114 = .ok (.goto 4, 3) := by decide +kernel
theorem d_Md_plain_117 : decode b_Md_plain 117 = .ok (.iconst 0, 1) := by decide +kernel
theorem d_Md_plain_118 : decode b_Md_plain 118 = .ok (.ireturn, 1) := by decide +kernel
theorem d_Md_plain_119 : decode b_Md_plain 119 = .ok (.aload_n 0, 1) := by decide +kernel
theorem d_Md_plain_120 : decode b_Md_plain 120 = .ok (.getfield 41, 3) := by decide +kernel
theorem d_Md_plain_123 : decode b_Md_plain 123 = .ok (.iload_n 3, 1) := by decide +kernel
theorem d_Md_plain_124 : decode b_Md_plain 124 = .ok (.aload_n 0, 1) := by decide +kernel
theorem d_Md_plain_125 : decode b_Md_plain 125 = .ok (.getfield 13, 3) := by decide +kernel
theorem d_Md_plain_128 : decode b_Md_plain 128 = .ok (.iload_n 2, 1) := by decide +kernel
theorem d_Md_plain_129 : decode b_Md_plain 129 = .ok (.iaload, 1) := by decide +kernel
theorem d_Md_plain_130 : decode b_Md_plain 130 = .ok (.iadd, 1) := by decide +kernel
theorem d_Md_plain_131 : decode b_Md_plain 131 = .ok (.baload, 1) := by decide +kernel
theorem d_Md_plain_132 : decode b_Md_plain 132 = .ok (.ifCond .ne 7, 3) := by decide +kernel
theorem d_Md_plain_135 : decode b_Md_plain 135 = .ok (.iconst 1, 1) := by decide +kernel
theorem d_Md_plain_136 : decode b_Md_plain 136 = .ok (.goto 4, 3) := by decide +kernel
theorem d_Md_plain_139 : decode b_Md_plain 139 = .ok (.iconst 0, 1) := by decide +kernel
theorem d_Md_plain_140 : decode b_Md_plain 140 = .ok (.ireturn, 1) := by decide +kernel
theorem d_Md_atomAt_0 : decode b_Md_atomAt 0 = .ok (.aload_n 0, 1) := by decide +kernel
theorem d_Md_atomAt_1 : decode b_Md_atomAt 1 = .ok (.getfield 44, 3) := by decide +kernel
theorem d_Md_atomAt_4 : decode b_Md_atomAt 4 = .ok (.iconst 4, 1) := by decide +kernel
theorem d_Md_atomAt_5 : decode b_Md_atomAt 5 = .ok (.iload_n 1, 1) := by decide +kernel
theorem d_Md_atomAt_6 : decode b_Md_atomAt 6 = .ok (.imul, 1) := by decide +kernel
theorem d_Md_atomAt_7 : decode b_Md_atomAt 7 = .ok (.laload, 1) := by decide +kernel
theorem d_Md_atomAt_8 : decode b_Md_atomAt 8 = .ok (.lstore_n 3, 1) := by decide +kernel
theorem d_Md_atomAt_9 : decode b_Md_atomAt 9 = .ok (.aload_n 0, 1) := by decide +kernel
theorem d_Md_atomAt_10 : decode b_Md_atomAt 10 = .ok (.getfield 44, 3) := by decide +kernel
theorem d_Md_atomAt_13 : decode b_Md_atomAt 13 = .ok (.iconst 4, 1) := by decide +kernel
theorem d_Md_atomAt_14 : decode b_Md_atomAt 14 = .ok (.iload_n 1, 1) := by decide +kernel
theorem d_Md_atomAt_15 : decode b_Md_atomAt 15 = .ok (.imul, 1) := by decide +kernel
theorem d_Md_atomAt_16 : decode b_Md_atomAt 16 = .ok (.iconst 1, 1) := by decide +kernel
theorem d_Md_atomAt_17 : decode b_Md_atomAt 17 = .ok (.iadd, 1) := by decide +kernel
theorem d_Md_atomAt_18 : decode b_Md_atomAt 18 = .ok (.laload, 1) := by decide +kernel
theorem d_Md_atomAt_19 : decode b_Md_atomAt 19 = .ok (.lstore 5, 2) := by decide +kernel
theorem d_Md_atomAt_21 : decode b_Md_atomAt 21 = .ok (.aload_n 0, 1) := by decide +kernel
theorem d_Md_atomAt_22 : decode b_Md_atomAt 22 = .ok (.getfield 44, 3) := by decide +kernel
theorem d_Md_atomAt_25 : decode b_Md_atomAt 25 = .ok (.iconst 4, 1) := by decide +kernel
theorem d_Md_atomAt_26 : decode b_Md_atomAt 26 = .ok (.iload_n 1, 1) := by decide +kernel
theorem d_Md_atomAt_27 : decode b_Md_atomAt 27 = .ok (.imul, 1) := by decide +kernel
theorem d_Md_atomAt_28 : decode b_Md_atomAt 28 = .ok (.iconst 2, 1) := by decide +kernel
theorem d_Md_atomAt_29 : decode b_Md_atomAt 29 = .ok (.iadd, 1) := by decide +kernel
theorem d_Md_atomAt_30 : decode b_Md_atomAt 30 = .ok (.laload, 1) := by decide +kernel
theorem d_Md_atomAt_31 : decode b_Md_atomAt 31 = .ok (.lstore 7, 2) := by decide +kernel
theorem d_Md_atomAt_33 : decode b_Md_atomAt 33 = .ok (.aload_n 0, 1) := by decide +kernel
theorem d_Md_atomAt_34 : decode b_Md_atomAt 34 = .ok (.getfield 44, 3) := by decide +kernel
theorem d_Md_atomAt_37 : decode b_Md_atomAt 37 = .ok (.iconst 4, 1) := by decide +kernel
theorem d_Md_atomAt_38 : decode b_Md_atomAt 38 = .ok (.iload_n 1, 1) := by decide +kernel
theorem d_Md_atomAt_39 : decode b_Md_atomAt 39 = .ok (.imul, 1) := by decide +kernel
theorem d_Md_atomAt_40 : decode b_Md_atomAt 40 = .ok (.iconst 3, 1) := by decide +kernel
theorem d_Md_atomAt_41 : decode b_Md_atomAt 41 = .ok (.iadd, 1) := by decide +kernel
theorem d_Md_atomAt_42 : decode b_Md_atomAt 42 = .ok (.laload, 1) := by decide +kernel
theorem d_Md_atomAt_43 : decode b_Md_atomAt 43 = .ok (.lstore 9, 2) := by decide +kernel
theorem d_Md_atomAt_45 : decode b_Md_atomAt 45 = .ok (.aload_n 0, 1) := by decide +kernel
theorem d_Md_atomAt_46 : decode b_Md_atomAt 46 = .ok (.iload_n 2, 1) := by decide +kernel
theorem d_Md_atomAt_47 : decode b_Md_atomAt 47 = .ok (.iconst 0, 1) := by decide +kernel
theorem d_Md_atomAt_48 : decode b_Md_atomAt 48 = .ok (.invokevirtual 110, 3) := by decide +kernel
theorem d_Md_atomAt_51 : decode b_Md_atomAt 51 = .ok (.i2l, 1) := by decide +kernel
theorem d_Md_atomAt_52 : decode b_Md_atomAt 52 = .ok (.lload_n 3, 1) := by decide +kernel
theorem d_Md_atomAt_53 : decode b_Md_atomAt 53 = .ok (.lmul, 1) := by decide +kernel
theorem d_Md_atomAt_54 : decode b_Md_atomAt 54 = .ok (.lload 9, 2) := by decide +kernel
theorem d_Md_atomAt_56 : decode b_Md_atomAt 56 = .ok (.lmul, 1) := by decide +kernel
theorem d_Md_atomAt_57 : decode b_Md_atomAt 57 = .ok (.aload_n 0, 1) := by decide +kernel
theorem d_Md_atomAt_58 : decode b_Md_atomAt 58 = .ok (.iload_n 2, 1) := by decide +kernel
theorem d_Md_atomAt_59 : decode b_Md_atomAt 59 = .ok (.iconst 1, 1) := by decide +kernel
theorem d_Md_atomAt_60 : decode b_Md_atomAt 60 = .ok (.invokevirtual 110, 3) := by decide +kernel
theorem d_Md_atomAt_63 : decode b_Md_atomAt 63 = .ok (.i2l, 1) := by decide +kernel
theorem d_Md_atomAt_64 : decode b_Md_atomAt 64 = .ok (.lload 7, 2) := by decide +kernel
theorem d_Md_atomAt_66 : decode b_Md_atomAt 66 = .ok (.lmul, 1) := by decide +kernel
theorem d_Md_atomAt_67 : decode b_Md_atomAt 67 = .ok (.lload 5, 2) := by decide +kernel
theorem d_Md_atomAt_69 : decode b_Md_atomAt 69 = .ok (.lmul, 1) := by decide +kernel
theorem d_Md_atomAt_70 : decode b_Md_atomAt 70 = .ok (.ladd, 1) := by decide +kernel
theorem d_Md_atomAt_71 : decode b_Md_atomAt 71 = .ok (.aload_n 0, 1) := by decide +kernel
theorem d_Md_atomAt_72 : decode b_Md_atomAt 72 = .ok (.iload_n 2, 1) := by decide +kernel
theorem d_Md_atomAt_73 : decode b_Md_atomAt 73 = .ok (.iconst 2, 1) := by decide +kernel
theorem d_Md_atomAt_74 : decode b_Md_atomAt 74 = .ok (.invokevirtual 110, 3) := by decide +kernel
theorem d_Md_atomAt_77 : decode b_Md_atomAt 77 = .ok (.i2l, 1) := by decide +kernel
theorem d_Md_atomAt_78 : decode b_Md_atomAt 78 = .ok (.lload 5, 2) := by decide +kernel
theorem d_Md_atomAt_80 : decode b_Md_atomAt 80 = .ok (.lmul, 1) := by decide +kernel
theorem d_Md_atomAt_81 : decode b_Md_atomAt 81 = .ok (.lload 9, 2) := by decide +kernel
theorem d_Md_atomAt_83 : decode b_Md_atomAt 83 = .ok (.lmul, 1) := by decide +kernel
theorem d_Md_atomAt_84 : decode b_Md_atomAt 84 = .ok (.ladd, 1) := by decide +kernel
theorem d_Md_atomAt_85 : decode b_Md_atomAt 85 = .ok (.lstore 11, 2) := by decide +kernel
theorem d_Md_atomAt_87 : decode b_Md_atomAt 87 = .ok (.aload_n 0, 1) := by decide +kernel
theorem d_Md_atomAt_88 : decode b_Md_atomAt 88 = .ok (.getfield 19, 3) := by decide +kernel
theorem d_Md_atomAt_91 : decode b_Md_atomAt 91 = .ok (.iconst 4, 1) := by decide +kernel
theorem d_Md_atomAt_92 : decode b_Md_atomAt 92 = .ok (.iload_n 2, 1) := by decide +kernel
theorem d_Md_atomAt_93 : decode b_Md_atomAt 93 = .ok (.imul, 1) := by decide +kernel
theorem d_Md_atomAt_94 : decode b_Md_atomAt 94 = .ok (.iconst 3, 1) := by decide +kernel
theorem d_Md_atomAt_95 : decode b_Md_atomAt 95 = .ok (.iadd, 1) := by decide +kernel
theorem d_Md_atomAt_96 : decode b_Md_atomAt 96 = .ok (.iaload, 1) := by decide +kernel
theorem d_Md_atomAt_97 : decode b_Md_atomAt 97 = .ok (.istore 13, 2) := by decide +kernel
theorem d_Md_atomAt_99 : decode b_Md_atomAt 99 = .ok (.iload 13, 2) := by decide +kernel
theorem d_Md_atomAt_101 : decode b_Md_atomAt 101 = .ok (.ifCond .ne 18, 3) := by decide +kernel
theorem d_Md_atomAt_104 : decode b_Md_atomAt 104 = .ok (.lload 11, 2) := by decide +kernel
theorem d_Md_atomAt_106 : decode b_Md_atomAt 106 = .ok (.lconst 0, 1) := by decide +kernel
theorem d_Md_atomAt_107 : decode b_Md_atomAt 107 = .ok (.lcmp, 1) := by decide +kernel
theorem d_Md_atomAt_108 : decode b_Md_atomAt 108 = .ok (.ifCond .ne 7, 3) := by decide +kernel
theorem d_Md_atomAt_111 : decode b_Md_atomAt 111 = .ok (.iconst 1, 1) := by decide +kernel
theorem d_Md_atomAt_112 : decode b_Md_atomAt 112 = .ok (.goto 40, 3) := by decide +kernel
theorem d_Md_atomAt_115 : decode b_Md_atomAt 115 = .ok (.iconst 0, 1) := by decide +kernel
theorem d_Md_atomAt_116 : decode b_Md_atomAt 116 = .ok (.goto 36, 3) := by decide +kernel
theorem d_Md_atomAt_119 : decode b_Md_atomAt 119 = .ok (.iload 13, 2) := by decide +kernel
theorem d_Md_atomAt_121 : decode b_Md_atomAt 121 = .ok (.iconst 1, 1) := by decide +kernel
theorem d_Md_atomAt_122 : decode b_Md_atomAt 122 = .ok (.if_icmp .ne 18, 3) := by decide +kernel
theorem d_Md_atomAt_125 : decode b_Md_atomAt 125 = .ok (.lload 11, 2) := by decide +kernel
theorem d_Md_atomAt_127 : decode b_Md_atomAt 127 = .ok (.lconst 0, 1) := by decide +kernel
theorem d_Md_atomAt_128 : decode b_Md_atomAt 128 = .ok (.lcmp, 1) := by decide +kernel
theorem d_Md_atomAt_129 : decode b_Md_atomAt 129 = .ok (.ifCond .ge 7, 3) := by decide +kernel
theorem d_Md_atomAt_132 : decode b_Md_atomAt 132 = .ok (.iconst 1, 1) := by decide +kernel
theorem d_Md_atomAt_133 : decode b_Md_atomAt 133 = .ok (.goto 19, 3) := by decide +kernel
theorem d_Md_atomAt_136 : decode b_Md_atomAt 136 = .ok (.iconst 0, 1) := by decide +kernel
theorem d_Md_atomAt_137 : decode b_Md_atomAt 137 = .ok (.goto 15, 3) := by decide +kernel
theorem d_Md_atomAt_140 : decode b_Md_atomAt 140 = .ok (.lload 11, 2) := by decide +kernel
theorem d_Md_atomAt_142 : decode b_Md_atomAt 142 = .ok (.lconst 0, 1) := by decide +kernel
theorem d_Md_atomAt_143 : decode b_Md_atomAt 143 = .ok (.lcmp, 1) := by decide +kernel
theorem d_Md_atomAt_144 : decode b_Md_atomAt 144 = .ok (.ifCond .gt 7, 3) := by decide +kernel
theorem d_Md_atomAt_147 : decode b_Md_atomAt 147 = .ok (.iconst 1, 1) := by decide +kernel
theorem d_Md_atomAt_148 : decode b_Md_atomAt 148 = .ok (.goto 4, 3) := by decide +kernel
theorem d_Md_atomAt_151 : decode b_Md_atomAt 151 = .ok (.iconst 0, 1) := by decide +kernel
theorem d_Md_atomAt_152 : decode b_Md_atomAt 152 = .ok (.ireturn, 1) := by decide +kernel
theorem d_Md_of_0 : decode b_Md_of 0 = .ok (.aload_n 0, 1) := by decide +kernel
theorem d_Md_of_1 : decode b_Md_of 1 = .ok (.getfield 19, 3) := by decide +kernel
theorem d_Md_of_4 : decode b_Md_of 4 = .ok (.iconst 4, 1) := by decide +kernel
theorem d_Md_of_5 : decode b_Md_of 5 = .ok (.iload_n 1, 1) := by decide +kernel
theorem d_Md_of_6 : decode b_Md_of 6 = .ok (.imul, 1) := by decide +kernel
theorem d_Md_of_7 : decode b_Md_of 7 = .ok (.iload_n 2, 1) := by decide +kernel
theorem d_Md_of_8 : decode b_Md_of 8 = .ok (.iadd, 1) := by decide +kernel
theorem d_Md_of_9 : decode b_Md_of 9 = .ok (.iaload, 1) := by decide +kernel
theorem d_Md_of_10 : decode b_Md_of 10 = .ok (.ireturn, 1) := by decide +kernel
theorem d_Md_tries2_0 : decode b_Md_tries2 0 = .ok (.aload_n 0, 1) := by decide +kernel
theorem d_Md_tries2_1 : decode b_Md_tries2 1 = .ok (.getfield 22, 3) := by decide +kernel
theorem d_Md_tries2_4 : decode b_Md_tries2 4 = .ok (.iload_n 1, 1) := by decide +kernel
theorem d_Md_tries2_5 : decode b_Md_tries2 5 = .ok (.iaload, 1) := by decide +kernel
theorem d_Md_tries2_6 : decode b_Md_tries2 6 = .ok (.istore_n 2, 1) := by decide +kernel
theorem d_Md_tries2_7 : decode b_Md_tries2 7 = .ok (.aload_n 0, 1) := by decide +kernel
theorem d_Md_tries2_8 : decode b_Md_tries2 8 = .ok (.iconst 2, 1) := by decide +kernel
theorem d_Md_tries2_9 : decode b_Md_tries2 9 = .ok (.aload_n 0, 1) := by decide +kernel
theorem d_Md_tries2_10 : decode b_Md_tries2 10 = .ok (.getfield 13, 3) := by decide +kernel
theorem d_Md_tries2_13 : decode b_Md_tries2 13 = .ok (.iload_n 1, 1) := by decide +kernel
theorem d_Md_tries2_14 : decode b_Md_tries2 14 = .ok (.iaload, 1) := by decide +kernel
theorem d_Md_tries2_15 : decode b_Md_tries2 15 = .ok (.iload_n 2, 1) := by decide +kernel
theorem d_Md_tries2_16 : decode b_Md_tries2 16 = .ok (.aload_n 0, 1) := by decide +kernel
theorem d_Md_tries2_17 : decode b_Md_tries2 17 = .ok (.getfield 44, 3) := by decide +kernel
theorem d_Md_tries2_20 : decode b_Md_tries2 20 = .ok (.bipush 10, 2) := by decide +kernel
theorem d_Md_tries2_22 : decode b_Md_tries2 22 = .ok (.iconst 2, 1) := by decide +kernel
theorem d_Md_tries2_23 : decode b_Md_tries2 23 = .ok (.iload_n 2, 1) := by decide +kernel
theorem d_Md_tries2_24 : decode b_Md_tries2 24 = .ok (.imul, 1) := by decide +kernel
theorem d_Md_tries2_25 : decode b_Md_tries2 25 = .ok (.isub, 1) := by decide +kernel
theorem d_Md_tries2_26 : decode b_Md_tries2 26 = .ok (.laload, 1) := by decide +kernel
theorem d_Md_tries2_27 : decode b_Md_tries2 27 = .ok (.aload_n 0, 1) := by decide +kernel
theorem d_Md_tries2_28 : decode b_Md_tries2 28 = .ok (.getfield 44, 3) := by decide +kernel
theorem d_Md_tries2_31 : decode b_Md_tries2 31 = .ok (.bipush 11, 2) := by decide +kernel
theorem d_Md_tries2_33 : decode b_Md_tries2 33 = .ok (.iconst 2, 1) := by decide +kernel
theorem d_Md_tries2_34 : decode b_Md_tries2 34 = .ok (.iload_n 2, 1) := by decide +kernel
theorem d_Md_tries2_35 : decode b_Md_tries2 35 = .ok (.imul, 1) := by decide +kernel
theorem d_Md_tries2_36 : decode b_Md_tries2 36 = .ok (.isub, 1) := by decide +kernel
theorem d_Md_tries2_37 : decode b_Md_tries2 37 = .ok (.laload, 1) := by decide +kernel
theorem d_Md_tries2_38 : decode b_Md_tries2 38 = .ok (.invokevirtual 136, 3) := by decide +kernel
theorem d_Md_tries2_41 : decode b_Md_tries2 41 = .ok (.iconst 0, 1) := by decide +kernel
theorem d_Md_tries2_42 : decode b_Md_tries2 42 = .ok (.istore_n 3, 1) := by decide +kernel
theorem d_Md_tries2_43 : decode b_Md_tries2 43 = .ok (.iload_n 3, 1) := by decide +kernel
theorem d_Md_tries2_44 : decode b_Md_tries2 44 = .ok (.iconst 2, 1) := by decide +kernel
theorem d_Md_tries2_45 : decode b_Md_tries2 45 = .ok (.aload_n 0, 1) := by decide +kernel
theorem d_Md_tries2_46 : decode b_Md_tries2 46 = .ok (.getfield 48, 3) := by decide +kernel
theorem d_Md_tries2_49 : decode b_Md_tries2 49 = .ok (.iconst 2, 1) := by decide +kernel
theorem d_Md_tries2_50 : decode b_Md_tries2 50 = .ok (.iaload, 1) := by decide +kernel
theorem d_Md_tries2_51 : decode b_Md_tries2 51 = .ok (.imul, 1) := by decide +kernel
theorem d_Md_tries2_52 : decode b_Md_tries2 52 = .ok (.if_icmp .gt 65, 3) := by decide +kernel
theorem d_Md_tries2_55 : decode b_Md_tries2 55 = .ok (.aload_n 0, 1) := by decide +kernel
theorem d_Md_tries2_56 : decode b_Md_tries2 56 = .ok (.iconst 2, 1) := by decide +kernel
theorem d_Md_tries2_57 : decode b_Md_tries2 57 = .ok (.iload_n 3, 1) := by decide +kernel
theorem d_Md_tries2_58 : decode b_Md_tries2 58 = .ok (.invokevirtual 140, 3) := by decide +kernel
theorem d_Md_tries2_61 : decode b_Md_tries2 61 = .ok (.aload_n 0, 1) := by decide +kernel
theorem d_Md_tries2_62 : decode b_Md_tries2 62 = .ok (.iconst 2, 1) := by decide +kernel
theorem d_Md_tries2_63 : decode b_Md_tries2 63 = .ok (.iload_n 2, 1) := by decide +kernel
theorem d_Md_tries2_64 : decode b_Md_tries2 64 = .ok (.invokevirtual 143, 3) := by decide +kernel
theorem d_Md_tries2_67 : decode b_Md_tries2 67 = .ok (.aload_n 0, 1) := by decide +kernel
theorem d_Md_tries2_68 : decode b_Md_tries2 68 = .ok (.aload_n 0, 1) := by decide +kernel
theorem d_Md_tries2_69 : decode b_Md_tries2 69 = .ok (.getfield 13, 3) := by decide +kernel
theorem d_Md_tries2_72 : decode b_Md_tries2 72 = .ok (.iload_n 1, 1) := by decide +kernel
theorem d_Md_tries2_73 : decode b_Md_tries2 73 = .ok (.iaload, 1) := by decide +kernel
theorem d_Md_tries2_74 : decode b_Md_tries2 74 = .ok (.invokevirtual 152, 3) := by decide +kernel
theorem d_Md_tries2_77 : decode b_Md_tries2 77 = .ok (.aload_n 0, 1) := by decide +kernel
theorem d_Md_tries2_78 : decode b_Md_tries2 78 = .ok (.getfield 7, 3) := by decide +kernel
theorem d_Md_tries2_81 : decode b_Md_tries2 81 = .ok (.iload_n 1, 1) := by decide +kernel
theorem d_Md_tries2_82 : decode b_Md_tries2 82 = .ok (.iaload, 1) := by decide +kernel
theorem d_Md_tries2_83 : decode b_Md_tries2 83 = .ok (.iconst 4, 1) := by decide +kernel
theorem d_Md_tries2_84 : decode b_Md_tries2 84 = .ok (.if_icmp .ne 7, 3) := by decide +kernel
theorem d_Md_tries2_87 : decode b_Md_tries2 87 = .ok (.iconst 1, 1) := by decide +kernel
theorem d_Md_tries2_88 : decode b_Md_tries2 88 = .ok (.goto 4, 3) := by decide +kernel
theorem d_Md_tries2_91 : decode b_Md_tries2 91 = .ok (.iconst 0, 1) := by decide +kernel
theorem d_Md_tries2_92 : decode b_Md_tries2 92 = .ok (.if_icmp .ne 19, 3) := by decide +kernel
theorem d_Md_tries2_95 : decode b_Md_tries2 95 = .ok (.aload_n 0, 1) := by decide +kernel
theorem d_Md_tries2_96 : decode b_Md_tries2 96 = .ok (.getfield 7, 3) := by decide +kernel
theorem d_Md_tries2_99 : decode b_Md_tries2 99 = .ok (.iload_n 1, 1) := by decide +kernel
theorem d_Md_tries2_100 : decode b_Md_tries2 100 = .ok (.iaload, 1) := by decide +kernel
theorem d_Md_tries2_101 : decode b_Md_tries2 101 = .ok (.iconst 4, 1) := by decide +kernel
theorem d_Md_tries2_102 : decode b_Md_tries2 102 = .ok (.if_icmp .ne 7, 3) := by decide +kernel
theorem d_Md_tries2_105 : decode b_Md_tries2 105 = .ok (.iconst 1, 1) := by decide +kernel
theorem d_Md_tries2_106 : decode b_Md_tries2 106 = .ok (.goto 4, 3) := by decide +kernel
theorem d_Md_tries2_109 : decode b_Md_tries2 109 = .ok (.iconst 0, 1) := by decide +kernel
theorem d_Md_tries2_110 : decode b_Md_tries2 110 = .ok (.ireturn, 1) := by decide +kernel
theorem d_Md_tries2_111 : decode b_Md_tries2 111 = .ok (.iinc 3 1, 3) := by decide +kernel
theorem d_Md_tries2_114 : decode b_Md_tries2 114 = .ok (.goto (-71), 3) := by decide +kernel
theorem d_Md_tries2_117 : decode b_Md_tries2 117 = .ok (.aload_n 0, 1) := by decide +kernel
theorem d_Md_tries2_118 : decode b_Md_tries2 118 = .ok (.getfield 7, 3) := by decide +kernel
theorem d_Md_tries2_121 : decode b_Md_tries2 121 = .ok (.iload_n 1, 1) := by decide +kernel
theorem d_Md_tries2_122 : decode b_Md_tries2 122 = .ok (.iaload, 1) := by decide +kernel
theorem d_Md_tries2_123 : decode b_Md_tries2 123 = .ok (.iconst 5, 1) := by decide +kernel
theorem d_Md_tries2_124 : decode b_Md_tries2 124 = .ok (.if_icmp .ne 7, 3) := by decide +kernel
theorem d_Md_tries2_127 : decode b_Md_tries2 127 = .ok (.iconst 1, 1) := by decide +kernel
theorem d_Md_tries2_128 : decode b_Md_tries2 128 = .ok (.goto 4, 3) := by decide +kernel
theorem d_Md_tries2_131 : decode b_Md_tries2 131 = .ok (.iconst 0, 1) := by decide +kernel
theorem d_Md_tries2_132 : decode b_Md_tries2 132 = .ok (.ireturn, 1) := by decide +kernel
theorem d_Md_gather_0 : decode b_Md_gather 0 = .ok (.aload_n 0, 1) := by decide +kernel
theorem d_Md_gather_1 : decode b_Md_gather 1 = .ok (.getfield 48, 3) := by decide +kernel
theorem d_Md_gather_4 : decode b_Md_gather 4 = .ok (.iload_n 1, 1) := by decide +kernel
theorem d_Md_gather_5 : decode b_Md_gather 5 = .ok (.iconst 0, 1) := by decide +kernel
theorem d_Md_gather_6 : decode b_Md_gather 6 = .ok (.iastore, 1) := by decide +kernel
theorem d_Md_gather_7 : decode b_Md_gather 7 = .ok (.aload_n 0, 1) := by decide +kernel
theorem d_Md_gather_8 : decode b_Md_gather 8 = .ok (.iload_n 2, 1) := by decide +kernel
theorem d_Md_gather_9 : decode b_Md_gather 9 = .ok (.sipush 180, 3) := by decide +kernel
theorem d_Md_gather_12 : decode b_Md_gather 12 = .ok (.invokevirtual 106, 3) := by decide +kernel
theorem d_Md_gather_15 : decode b_Md_gather 15 = .ok (.iconst 0, 1) := by decide +kernel
theorem d_Md_gather_16 : decode b_Md_gather 16 = .ok (.istore 8, 2) := by decide +kernel
theorem d_Md_gather_18 : decode b_Md_gather 18 = .ok (.iload 8, 2) := by decide +kernel
theorem d_Md_gather_20 : decode b_Md_gather 20 = .ok (.iload_n 2, 1) := by decide +kernel
theorem d_Md_gather_21 : decode b_Md_gather 21 = .ok (.if_icmp .gt 208, 3) := by decide +kernel
theorem d_Md_gather_24 : decode b_Md_gather 24 = .ok (.aload_n 0, 1) := by decide +kernel
theorem d_Md_gather_25 : decode b_Md_gather 25 = .ok (.getfield 38, 3) := by decide +kernel
theorem d_Md_gather_28 : decode b_Md_gather 28 = .ok (.sipush 180, 3) := by decide +kernel
theorem d_Md_gather_31 : decode b_Md_gather 31 = .ok (.iload 8, 2) := by decide +kernel
theorem d_Md_gather_33 : decode b_Md_gather 33 = .ok (.iadd, 1) := by decide +kernel
theorem d_Md_gather_34 : decode b_Md_gather 34 = .ok (.baload, 1) := by decide +kernel
theorem d_Md_gather_35 : decode b_Md_gather 35 = .ok (.ifCond .eq 188, 3) := by decide +kernel
theorem d_Md_gather_38 : decode b_Md_gather 38 = .ok (.aload_n 0, 1) := by decide +kernel
theorem d_Md_gather_39 : decode b_Md_gather 39 = .ok (.getfield 7, 3) := by decide +kernel
theorem d_Md_gather_42 : decode b_Md_gather 42 = .ok (.iload 8, 2) := by decide +kernel
theorem d_Md_gather_44 : decode b_Md_gather 44 = .ok (.iaload, 1) := by decide +kernel
theorem d_Md_gather_45 : decode b_Md_gather 45 = .ok (.ifCond .eq 6, 3) := by decide +kernel
theorem d_Md_gather_48 : decode b_Md_gather 48 = .ok (.goto 175, 3) := by decide +kernel
theorem d_Md_gather_51 : decode b_Md_gather 51 = .ok (.aload_n 0, 1) := by decide +kernel
theorem d_Md_gather_52 : decode b_Md_gather 52 = .ok (.iload 8, 2) := by decide +kernel
theorem d_Md_gather_54 : decode b_Md_gather 54 = .ok (.iload_n 3, 1) := by decide +kernel
theorem d_Md_gather_55 : decode b_Md_gather 55 = .ok (.invokevirtual 110, 3) := by decide +kernel
theorem d_Md_gather_58 : decode b_Md_gather 58 = .ok (.ifCond .eq 49, 3) := by decide +kernel
theorem d_Md_gather_61 : decode b_Md_gather 61 = .ok (.aload_n 0, 1) := by decide +kernel
theorem d_Md_gather_62 : decode b_Md_gather 62 = .ok (.aload_n 0, 1) := by decide +kernel
theorem d_Md_gather_63 : decode b_Md_gather 63 = .ok (.iload 8, 2) := by decide +kernel
theorem d_Md_gather_65 : decode b_Md_gather 65 = .ok (.iconst 1, 1) := by decide +kernel
theorem d_Md_gather_66 : decode b_Md_gather 66 = .ok (.iload_n 3, 1) := by decide +kernel
theorem d_Md_gather_67 : decode b_Md_gather 67 = .ok (.isub, 1) := by decide +kernel
theorem d_Md_gather_68 : decode b_Md_gather 68 = .ok (.invokevirtual 110, 3) := by decide +kernel
theorem d_Md_gather_71 : decode b_Md_gather 71 = .ok (.i2l, 1) := by decide +kernel
theorem d_Md_gather_72 : decode b_Md_gather 72 = .ok (.lload 4, 2) := by decide +kernel
theorem d_Md_gather_74 : decode b_Md_gather 74 = .ok (.lmul, 1) := by decide +kernel
theorem d_Md_gather_75 : decode b_Md_gather 75 = .ok (.aload_n 0, 1) := by decide +kernel
theorem d_Md_gather_76 : decode b_Md_gather 76 = .ok (.iload 8, 2) := by decide +kernel
theorem d_Md_gather_78 : decode b_Md_gather 78 = .ok (.iconst 2, 1) := by decide +kernel
theorem d_Md_gather_79 : decode b_Md_gather 79 = .ok (.invokevirtual 110, 3) := by decide +kernel
theorem d_Md_gather_82 : decode b_Md_gather 82 = .ok (.i2l, 1) := by decide +kernel
theorem d_Md_gather_83 : decode b_Md_gather 83 = .ok (.lload 6, 2) := by decide +kernel
theorem d_Md_gather_85 : decode b_Md_gather 85 = .ok (.lmul, 1) := by decide +kernel
theorem d_Md_gather_86 : decode b_Md_gather 86 = .ok (.ladd, 1) := by decide +kernel
theorem d_Md_gather_87 : decode b_Md_gather 87 = .ok (.lneg, 1) := by decide +kernel
theorem d_Md_gather_88 : decode b_Md_gather 88 = .ok (.aload_n 0, 1) := by decide +kernel
theorem d_Md_gather_89 : decode b_Md_gather 89 = .ok (.iload 8, 2) := by decide +kernel
theorem d_Md_gather_91 : decode b_Md_gather 91 = .ok (.iload_n 3, 1) := by decide +kernel
theorem d_Md_gather_92 : decode b_Md_gather 92 = .ok (.invokevirtual 110, 3) := by decide +kernel
theorem d_Md_gather_95 : decode b_Md_gather 95 = .ok (.i2l, 1) := by decide +kernel
theorem d_Md_gather_96 : decode b_Md_gather 96 = .ok (.lload 6, 2) := by decide +kernel
theorem d_Md_gather_98 : decode b_Md_gather 98 = .ok (.lmul, 1) := by decide +kernel
theorem d_Md_gather_99 : decode b_Md_gather 99 = .ok (.invokevirtual 114, 3) := by decide +kernel
theorem d_Md_gather_102 : decode b_Md_gather 102 = .ok (.aload_n 0, 1) := by decide +kernel
theorem d_Md_gather_103 : decode b_Md_gather 103 = .ok (.iload_n 1, 1) := by decide +kernel
theorem d_Md_gather_104 : decode b_Md_gather 104 = .ok (.invokevirtual 118, 3) := by decide +kernel
theorem d_Md_gather_107 : decode b_Md_gather 107 = .ok (.iconst 0, 1) := by decide +kernel
theorem d_Md_gather_108 : decode b_Md_gather 108 = .ok (.istore 9, 2) := by decide +kernel
theorem d_Md_gather_110 : decode b_Md_gather 110 = .ok (.iload 9, 2) := by decide +kernel
theorem d_Md_gather_112 : decode b_Md_gather 112 = .ok (.iload 8, 2) := by decide +kernel
theorem d_Md_gather_114 : decode b_Md_gather 114 = .ok (.if_icmp .ge 52, 3) := by decide +kernel
theorem d_Md_gather_117 : decode b_Md_gather 117 = .ok (.aload_n 0, 1) := by decide +kernel
theorem d_Md_gather_118 : decode b_Md_gather 118 = .ok (.getfield 35, 3) := by decide +kernel
theorem d_Md_gather_121 : decode b_Md_gather 121 = .ok (.iload_n 2, 1) := by decide +kernel
theorem d_Md_gather_122 : decode b_Md_gather 122 = .ok (.iaload, 1) := by decide +kernel
theorem d_Md_gather_123 : decode b_Md_gather 123 = .ok (.ifCond .le 43, 3) := by decide +kernel
theorem d_Md_gather_126 : decode b_Md_gather 126 = .ok (.aload_n 0, 1) := by decide +kernel
theorem d_Md_gather_127 : decode b_Md_gather 127 = .ok (.getfield 38, 3) := by decide +kernel
theorem d_Md_gather_130 : decode b_Md_gather 130 = .ok (.sipush 180, 3) := by decide +kernel
theorem d_Md_gather_133 : decode b_Md_gather 133 = .ok (.iload 9, 2) := by decide +kernel
theorem d_Md_gather_135 : decode b_Md_gather 135 = .ok (.iadd, 1) := by decide +kernel
theorem d_Md_gather_136 : decode b_Md_gather 136 = .ok (.baload, 1) := by decide +kernel
theorem d_Md_gather_137 : decode b_Md_gather 137 = .ok (.ifCond .eq 23, 3) := by decide +kernel
theorem d_Md_gather_140 : decode b_Md_gather 140 = .ok (.aload_n 0, 1) := by decide +kernel
theorem d_Md_gather_141 : decode b_Md_gather 141 = .ok (.getfield 7, 3) := by decide +kernel
theorem d_Md_gather_144 : decode b_Md_gather 144 = .ok (.iload 9, 2) := by decide +kernel
theorem d_Md_gather_146 : decode b_Md_gather 146 = .ok (.iaload, 1) := by decide +kernel
theorem d_Md_gather_147 : decode b_Md_gather 147 = .ok (.ifCond .ne 13, 3) := by decide +kernel
theorem d_Md_gather_150 : decode b_Md_gather 150 = .ok (.aload_n 0, 1) := by decide +kernel
theorem d_Md_gather_151 : decode b_Md_gather 151 = .ok (.iload_n 1, 1) := by decide +kernel
theorem d_Md_gather_152 : decode b_Md_gather 152 = .ok (.iload 8, 2) := by decide +kernel
theorem d_Md_gather_154 : decode b_Md_gather 154 = .ok (.iload 9, 2) := by decide +kernel
theorem d_Md_gather_156 : decode b_Md_gather 156 = .ok (.iload_n 3, 1) := by decide +kernel
theorem d_Md_gather_157 : decode b_Md_gather 157 = .ok (.invokevirtual 122, 3) := by decide +kernel
theorem d_Md_gather_160 : decode b_Md_gather 160 = .ok (.iinc 9 1, 3) := by decide +kernel
theorem d_Md_gather_163 : decode b_Md_gather 163 = .ok (.goto (-53), 3) := by decide +kernel
theorem d_Md_gather_166 : decode b_Md_gather 166 = .ok (.aload_n 0, 1) := by decide +kernel
theorem d_Md_gather_167 : decode b_Md_gather 167 = .ok (.getfield 35, 3) := by decide +kernel
theorem d_Md_gather_170 : decode b_Md_gather 170 = .ok (.iload_n 2, 1) := by decide +kernel
theorem d_Md_gather_171 : decode b_Md_gather 171 = .ok (.iaload, 1) := by decide +kernel
theorem d_Md_gather_172 : decode b_Md_gather 172 = .ok (.ifCond .le 51, 3) := by decide +kernel
theorem d_Md_gather_175 : decode b_Md_gather 175 = .ok (.aload_n 0, 1) := by decide +kernel
theorem d_Md_gather_176 : decode b_Md_gather 176 = .ok (.iload 8, 2) := by decide +kernel
theorem d_Md_gather_178 : decode b_Md_gather 178 = .ok (.iload_n 3, 1) := by decide +kernel
theorem d_Md_gather_179 : decode b_Md_gather 179 = .ok (.invokevirtual 110, 3) := by decide +kernel
theorem d_Md_gather_182 : decode b_Md_gather 182 = .ok (.ifCond .eq 41, 3) := by decide +kernel
theorem d_Md_gather_185 : decode b_Md_gather 185 = .ok (.aload_n 0, 1) := by decide +kernel
theorem d_Md_gather_186 : decode b_Md_gather 186 = .ok (.iload 8, 2) := by decide +kernel
theorem d_Md_gather_188 : decode b_Md_gather 188 = .ok (.iconst 1, 1) := by decide +kernel
theorem d_Md_gather_189 : decode b_Md_gather 189 = .ok (.iload_n 3, 1) := by decide +kernel
theorem d_Md_gather_190 : decode b_Md_gather 190 = .ok (.isub, 1) := by decide +kernel
theorem d_Md_gather_191 : decode b_Md_gather 191 = .ok (.invokevirtual 110, 3) := by decide +kernel
theorem d_Md_gather_194 : decode b_Md_gather 194 = .ok (.ifCond .ne 29, 3) := by decide +kernel
theorem d_Md_gather_197 : decode b_Md_gather 197 = .ok (.aload_n 0, 1) := by decide +kernel
theorem d_Md_gather_198 : decode b_Md_gather 198 = .ok (.aload_n 0, 1) := by decide +kernel
theorem d_Md_gather_199 : decode b_Md_gather 199 = .ok (.iload 8, 2) := by decide +kernel
theorem d_Md_gather_201 : decode b_Md_gather 201 = .ok (.iconst 2, 1) := by decide +kernel
theorem d_Md_gather_202 : decode b_Md_gather 202 = .ok (.invokevirtual 110, 3) := by decide +kernel
theorem d_Md_gather_205 : decode b_Md_gather 205 = .ok (.ineg, 1) := by decide +kernel
theorem d_Md_gather_206 : decode b_Md_gather 206 = .ok (.i2l, 1) := by decide +kernel
theorem d_Md_gather_207 : decode b_Md_gather 207 = .ok (.aload_n 0, 1) := by decide +kernel
theorem d_Md_gather_208 : decode b_Md_gather 208 = .ok (.iload 8, 2) := by decide +kernel
theorem d_Md_gather_210 : decode b_Md_gather 210 = .ok (.iload_n 3, 1) := by decide +kernel
theorem d_Md_gather_211 : decode b_Md_gather 211 = .ok (.invokevirtual 110, 3) := by decide +kernel
theorem d_Md_gather_214 : decode b_Md_gather 214 = .ok (.i2l, 1) := by decide +kernel
theorem d_Md_gather_215 : decode b_Md_gather 215 = .ok (.invokevirtual 114, 3) := by decide +kernel
theorem d_Md_gather_218 : decode b_Md_gather 218 = .ok (.aload_n 0, 1) := by decide +kernel
theorem d_Md_gather_219 : decode b_Md_gather 219 = .ok (.iload_n 1, 1) := by decide +kernel
theorem d_Md_gather_220 : decode b_Md_gather 220 = .ok (.invokevirtual 118, 3) := by decide +kernel
theorem d_Md_gather_223 : decode b_Md_gather 223 = .ok (.iinc 8 1, 3) := by decide +kernel
theorem d_Md_gather_226 : decode b_Md_gather 226 = .ok (.goto (-208), 3) := by decide +kernel
theorem d_Md_gather_229 : decode b_Md_gather 229 = .ok (.return_, 1) := by decide +kernel
theorem d_Md_lowest_0 : decode b_Md_lowest 0 = .ok (.lload_n 1, 1) := by decide +kernel
theorem d_Md_lowest_1 : decode b_Md_lowest 1 = .ok (.lconst 0, 1) := by decide +kernel
theorem d_Md_lowest_2 : decode b_Md_lowest 2 = .ok (.lcmp, 1) := by decide +kernel
theorem d_Md_lowest_3 : decode b_Md_lowest 3 = .ok (.ifCond .ge 8, 3) := by decide +kernel
theorem d_Md_lowest_6 : decode b_Md_lowest 6 = .ok (.lload_n 1, 1) := by decide +kernel
theorem d_Md_lowest_7 : decode b_Md_lowest 7 = .ok (.lneg, 1) := by decide +kernel
theorem d_Md_lowest_8 : decode b_Md_lowest 8 = .ok (.goto 4, 3) := by decide +kernel
theorem d_Md_lowest_11 : decode b_Md_lowest 11 = .ok (.lload_n 1, 1) := by decide +kernel
theorem d_Md_lowest_12 : decode b_Md_lowest 12 = .ok (.lstore 5, 2) := by decide +kernel
theorem d_Md_lowest_14 : decode b_Md_lowest 14 = .ok (.lload_n 3, 1) := by decide +kernel
theorem d_Md_lowest_15 : decode b_Md_lowest 15 = .ok (.lconst 0, 1) := by decide +kernel
theorem d_Md_lowest_16 : decode b_Md_lowest 16 = .ok (.lcmp, 1) := by decide +kernel
theorem d_Md_lowest_17 : decode b_Md_lowest 17 = .ok (.ifCond .ge 8, 3) := by decide +kernel
theorem d_Md_lowest_20 : decode b_Md_lowest 20 = .ok (.lload_n 3, 1) := by decide +kernel
theorem d_Md_lowest_21 : decode b_Md_lowest 21 = .ok (.lneg, 1) := by decide +kernel
theorem d_Md_lowest_22 : decode b_Md_lowest 22 = .ok (.goto 4, 3) := by decide +kernel
theorem d_Md_lowest_25 : decode b_Md_lowest 25 = .ok (.lload_n 3, 1) := by decide +kernel
theorem d_Md_lowest_26 : decode b_Md_lowest 26 = .ok (.lstore 7, 2) := by decide +kernel
theorem d_Md_lowest_28 : decode b_Md_lowest 28 = .ok (.lload 7, 2) := by decide +kernel
theorem d_Md_lowest_30 : decode b_Md_lowest 30 = .ok (.lconst 0, 1) := by decide +kernel
theorem d_Md_lowest_31 : decode b_Md_lowest 31 = .ok (.lcmp, 1) := by decide +kernel
theorem d_Md_lowest_32 : decode b_Md_lowest 32 = .ok (.ifCond .eq 21, 3) := by decide +kernel
theorem d_Md_lowest_35 : decode b_Md_lowest 35 = .ok (.lload 5, 2) := by decide +kernel
theorem d_Md_lowest_37 : decode b_Md_lowest 37 = .ok (.lload 7, 2) := by decide +kernel
theorem d_Md_lowest_39 : decode b_Md_lowest 39 = .ok (.lrem, 1) := by decide +kernel
theorem d_Md_lowest_40 : decode b_Md_lowest 40 = .ok (.lstore 9, 2) := by decide +kernel
theorem d_Md_lowest_42 : decode b_Md_lowest 42 = .ok (.lload 7, 2) := by decide +kernel
theorem d_Md_lowest_44 : decode b_Md_lowest 44 = .ok (.lstore 5, 2) := by decide +kernel
theorem d_Md_lowest_46 : decode b_Md_lowest 46 = .ok (.lload 9, 2) := by decide +kernel
theorem d_Md_lowest_48 : decode b_Md_lowest 48 = .ok (.lstore 7, 2) := by decide +kernel
theorem d_Md_lowest_50 : decode b_Md_lowest 50 = .ok (.goto (-22), 3) := by decide +kernel
theorem d_Md_lowest_53 : decode b_Md_lowest 53 = .ok (.aload_n 0, 1) := by decide +kernel
theorem d_Md_lowest_54 : decode b_Md_lowest 54 = .ok (.lload_n 3, 1) := by decide +kernel
theorem d_Md_lowest_55 : decode b_Md_lowest 55 = .ok (.lconst 0, 1) := by decide +kernel
theorem d_Md_lowest_56 : decode b_Md_lowest 56 = .ok (.lcmp, 1) := by decide +kernel
theorem d_Md_lowest_57 : decode b_Md_lowest 57 = .ok (.ifCond .ge 11, 3) := by decide +kernel
theorem d_Md_lowest_60 : decode b_Md_lowest 60 = .ok (.lload_n 1, 1) := by decide +kernel
theorem d_Md_lowest_61 : decode b_Md_lowest 61 = .ok (.lload 5, 2) := by decide +kernel
theorem d_Md_lowest_63 : decode b_Md_lowest 63 = .ok (.ldiv, 1) := by decide +kernel
theorem d_Md_lowest_64 : decode b_Md_lowest 64 = .ok (.lneg, 1) := by decide +kernel
theorem d_Md_lowest_65 : decode b_Md_lowest 65 = .ok (.goto 7, 3) := by decide +kernel
theorem d_Md_lowest_68 : decode b_Md_lowest 68 = .ok (.lload_n 1, 1) := by decide +kernel
theorem d_Md_lowest_69 : decode b_Md_lowest 69 = .ok (.lload 5, 2) := by decide +kernel
theorem d_Md_lowest_71 : decode b_Md_lowest 71 = .ok (.ldiv, 1) := by decide +kernel
theorem d_Md_lowest_72 : decode b_Md_lowest 72 = .ok (.putfield 99, 3) := by decide +kernel
theorem d_Md_lowest_75 : decode b_Md_lowest 75 = .ok (.aload_n 0, 1) := by decide +kernel
theorem d_Md_lowest_76 : decode b_Md_lowest 76 = .ok (.lload_n 3, 1) := by decide +kernel
theorem d_Md_lowest_77 : decode b_Md_lowest 77 = .ok (.lconst 0, 1) := by decide +kernel
theorem d_Md_lowest_78 : decode b_Md_lowest 78 = .ok (.lcmp, 1) := by decide +kernel
theorem d_Md_lowest_79 : decode b_Md_lowest 79 = .ok (.ifCond .ge 11, 3) := by decide +kernel
theorem d_Md_lowest_82 : decode b_Md_lowest 82 = .ok (.lload_n 3, 1) := by decide +kernel
theorem d_Md_lowest_83 : decode b_Md_lowest 83 = .ok (.lload 5, 2) := by decide +kernel
theorem d_Md_lowest_85 : decode b_Md_lowest 85 = .ok (.ldiv, 1) := by decide +kernel
theorem d_Md_lowest_86 : decode b_Md_lowest 86 = .ok (.lneg, 1) := by decide +kernel
theorem d_Md_lowest_87 : decode b_Md_lowest 87 = .ok (.goto 7, 3) := by decide +kernel
theorem d_Md_lowest_90 : decode b_Md_lowest 90 = .ok (.lload_n 3, 1) := by decide +kernel
theorem d_Md_lowest_91 : decode b_Md_lowest 91 = .ok (.lload 5, 2) := by decide +kernel
theorem d_Md_lowest_93 : decode b_Md_lowest 93 = .ok (.ldiv, 1) := by decide +kernel
theorem d_Md_lowest_94 : decode b_Md_lowest 94 = .ok (.putfield 103, 3) := by decide +kernel
theorem d_Md_lowest_97 : decode b_Md_lowest 97 = .ok (.return_, 1) := by decide +kernel
theorem d_Md_keep_0 : decode b_Md_keep 0 = .ok (.bipush 64, 2) := by decide +kernel
theorem d_Md_keep_2 : decode b_Md_keep 2 = .ok (.iload_n 1, 1) := by decide +kernel
theorem d_Md_keep_3 : decode b_Md_keep 3 = .ok (.imul, 1) := by decide +kernel
theorem d_Md_keep_4 : decode b_Md_keep 4 = .ok (.istore_n 2, 1) := by decide +kernel
theorem d_Md_keep_5 : decode b_Md_keep 5 = .ok (.iload_n 2, 1) := by decide +kernel
theorem d_Md_keep_6 : decode b_Md_keep 6 = .ok (.aload_n 0, 1) := by decide +kernel
theorem d_Md_keep_7 : decode b_Md_keep 7 = .ok (.getfield 48, 3) := by decide +kernel
theorem d_Md_keep_10 : decode b_Md_keep 10 = .ok (.iload_n 1, 1) := by decide +kernel
theorem d_Md_keep_11 : decode b_Md_keep 11 = .ok (.iaload, 1) := by decide +kernel
theorem d_Md_keep_12 : decode b_Md_keep 12 = .ok (.iadd, 1) := by decide +kernel
theorem d_Md_keep_13 : decode b_Md_keep 13 = .ok (.istore_n 3, 1) := by decide +kernel
theorem d_Md_keep_14 : decode b_Md_keep 14 = .ok (.iload_n 2, 1) := by decide +kernel
theorem d_Md_keep_15 : decode b_Md_keep 15 = .ok (.iload_n 3, 1) := by decide +kernel
theorem d_Md_keep_16 : decode b_Md_keep 16 = .ok (.if_icmp .ge 35, 3) := by decide +kernel
theorem d_Md_keep_19 : decode b_Md_keep 19 = .ok (.aload_n 0, 1) := by decide +kernel
theorem d_Md_keep_20 : decode b_Md_keep 20 = .ok (.getfield 51, 3) := by decide +kernel
theorem d_Md_keep_23 : decode b_Md_keep 23 = .ok (.iload_n 2, 1) := by decide +kernel
theorem d_Md_keep_24 : decode b_Md_keep 24 = .ok (.laload, 1) := by decide +kernel
theorem d_Md_keep_25 : decode b_Md_keep 25 = .ok (.aload_n 0, 1) := by decide +kernel
theorem d_Md_keep_26 : decode b_Md_keep 26 = .ok (.getfield 103, 3) := by decide +kernel
theorem d_Md_keep_29 : decode b_Md_keep 29 = .ok (.lmul, 1) := by decide +kernel
theorem d_Md_keep_30 : decode b_Md_keep 30 = .ok (.aload_n 0, 1) := by decide +kernel
theorem d_Md_keep_31 : decode b_Md_keep 31 = .ok (.getfield 99, 3) := by decide +kernel
theorem d_Md_keep_34 : decode b_Md_keep 34 = .ok (.aload_n 0, 1) := by decide +kernel
theorem d_Md_keep_35 : decode b_Md_keep 35 = .ok (.getfield 54, 3) := by decide +kernel
theorem d_Md_keep_38 : decode b_Md_keep 38 = .ok (.iload_n 2, 1) := by decide +kernel
theorem d_Md_keep_39 : decode b_Md_keep 39 = .ok (.laload, 1) := by decide +kernel
theorem d_Md_keep_40 : decode b_Md_keep 40 = .ok (.lmul, 1) := by decide +kernel
theorem d_Md_keep_41 : decode b_Md_keep 41 = .ok (.lcmp, 1) := by decide +kernel
theorem d_Md_keep_42 : decode b_Md_keep 42 = .ok (.ifCond .ge 9, 3) := by decide +kernel
theorem d_Md_keep_45 : decode b_Md_keep 45 = .ok (.iinc 2 1, 3) := by decide +kernel
theorem d_Md_keep_48 : decode b_Md_keep 48 = .ok (.goto (-34), 3) := by decide +kernel
theorem d_Md_keep_51 : decode b_Md_keep 51 = .ok (.iload_n 2, 1) := by decide +kernel
theorem d_Md_keep_52 : decode b_Md_keep 52 = .ok (.iload_n 3, 1) := by decide +kernel
theorem d_Md_keep_53 : decode b_Md_keep 53 = .ok (.if_icmp .ge 32, 3) := by decide +kernel
theorem d_Md_keep_56 : decode b_Md_keep 56 = .ok (.aload_n 0, 1) := by decide +kernel
theorem d_Md_keep_57 : decode b_Md_keep 57 = .ok (.getfield 51, 3) := by decide +kernel
theorem d_Md_keep_60 : decode b_Md_keep 60 = .ok (.iload_n 2, 1) := by decide +kernel
theorem d_Md_keep_61 : decode b_Md_keep 61 = .ok (.laload, 1) := by decide +kernel
theorem d_Md_keep_62 : decode b_Md_keep 62 = .ok (.aload_n 0, 1) := by decide +kernel
theorem d_Md_keep_63 : decode b_Md_keep 63 = .ok (.getfield 99, 3) := by decide +kernel
theorem d_Md_keep_66 : decode b_Md_keep 66 = .ok (.lcmp, 1) := by decide +kernel
theorem d_Md_keep_67 : decode b_Md_keep 67 = .ok (.ifCond .ne 18, 3) := by decide +kernel
theorem d_Md_keep_70 : decode b_Md_keep 70 = .ok (.aload_n 0, 1) := by decide +kernel
theorem d_Md_keep_71 : decode b_Md_keep 71 = .ok (.getfield 54, 3) := by decide +kernel
theorem d_Md_keep_74 : decode b_Md_keep 74 = .ok (.iload_n 2, 1) := by decide +kernel
theorem d_Md_keep_75 : decode b_Md_keep 75 = .ok (.laload, 1) := by decide +kernel
theorem d_Md_keep_76 : decode b_Md_keep 76 = .ok (.aload_n 0, 1) := by decide +kernel
theorem d_Md_keep_77 : decode b_Md_keep 77 = .ok (.getfield 103, 3) := by decide +kernel
theorem d_Md_keep_80 : decode b_Md_keep 80 = .ok (.lcmp, 1) := by decide +kernel
theorem d_Md_keep_81 : decode b_Md_keep 81 = .ok (.ifCond .ne 4, 3) := by decide +kernel
theorem d_Md_keep_84 : decode b_Md_keep 84 = .ok (.return_, 1) := by decide +kernel
theorem d_Md_keep_85 : decode b_Md_keep 85 = .ok (.iload_n 3, 1) := by decide +kernel
theorem d_Md_keep_86 : decode b_Md_keep 86 = .ok (.istore 4, 2) := by decide +kernel
theorem d_Md_keep_88 : decode b_Md_keep 88 = .ok (.iload 4, 2) := by decide +kernel
theorem d_Md_keep_90 : decode b_Md_keep 90 = .ok (.iload_n 2, 1) := by decide +kernel
theorem d_Md_keep_91 : decode b_Md_keep 91 = .ok (.if_icmp .le 41, 3) := by decide +kernel
theorem d_Md_keep_94 : decode b_Md_keep 94 = .ok (.aload_n 0, 1) := by decide +kernel
theorem d_Md_keep_95 : decode b_Md_keep 95 = .ok (.getfield 51, 3) := by decide +kernel
theorem d_Md_keep_98 : decode b_Md_keep 98 = .ok (.iload 4, 2) := by decide +kernel
theorem d_Md_keep_100 : decode b_Md_keep 100 = .ok (.aload_n 0, 1) := by decide +kernel
theorem d_Md_keep_101 : decode b_Md_keep 101 = .ok (.getfield 51, 3) := by decide +kernel
theorem d_Md_keep_104 : decode b_Md_keep 104 = .ok (.iload 4, 2) := by decide +kernel
theorem d_Md_keep_106 : decode b_Md_keep 106 = .ok (.iconst 1, 1) := by decide +kernel
theorem d_Md_keep_107 : decode b_Md_keep 107 = .ok (.isub, 1) := by decide +kernel
theorem d_Md_keep_108 : decode b_Md_keep 108 = .ok (.laload, 1) := by decide +kernel
theorem d_Md_keep_109 : decode b_Md_keep 109 = .ok (.lastore, 1) := by decide +kernel
theorem d_Md_keep_110 : decode b_Md_keep 110 = .ok (.aload_n 0, 1) := by decide +kernel
theorem d_Md_keep_111 : decode b_Md_keep 111 = .ok (.getfield 54, 3) := by decide +kernel
theorem d_Md_keep_114 : decode b_Md_keep 114 = .ok (.iload 4, 2) := by decide +kernel
theorem d_Md_keep_116 : decode b_Md_keep 116 = .ok (.aload_n 0, 1) := by decide +kernel
theorem d_Md_keep_117 : decode b_Md_keep 117 = .ok (.getfield 54, 3) := by decide +kernel
theorem d_Md_keep_120 : decode b_Md_keep 120 = .ok (.iload 4, 2) := by decide +kernel
theorem d_Md_keep_122 : decode b_Md_keep 122 = .ok (.iconst 1, 1) := by decide +kernel
theorem d_Md_keep_123 : decode b_Md_keep 123 = .ok (.isub, 1) := by decide +kernel
theorem d_Md_keep_124 : decode b_Md_keep 124 = .ok (.laload, 1) := by decide +kernel
theorem d_Md_keep_125 : decode b_Md_keep 125 = .ok (.lastore, 1) := by decide +kernel
theorem d_Md_keep_126 : decode b_Md_keep 126 = .ok (.iinc 4 (-1), 3) := by decide +kernel
theorem d_Md_keep_129 : decode b_Md_keep 129 = .ok (.goto (-41), 3) := by decide +kernel
theorem d_Md_keep_132 : decode b_Md_keep 132 = .ok (.aload_n 0, 1) := by decide +kernel
theorem d_Md_keep_133 : decode b_Md_keep 133 = .ok (.getfield 51, 3) := by decide +kernel
theorem d_Md_keep_136 : decode b_Md_keep 136 = .ok (.iload_n 2, 1) := by decide +kernel
theorem d_Md_keep_137 : decode b_Md_keep 137 = .ok (.aload_n 0, 1) := by decide +kernel
theorem d_Md_keep_138 : decode b_Md_keep 138 = .ok (.getfield 99, 3) := by decide +kernel
theorem d_Md_keep_141 : decode b_Md_keep 141 = .ok (.lastore, 1) := by decide +kernel
theorem d_Md_keep_142 : decode b_Md_keep 142 = .ok (.aload_n 0, 1) := by decide +kernel
theorem d_Md_keep_143 : decode b_Md_keep 143 = .ok (.getfield 54, 3) := by decide +kernel
theorem d_Md_keep_146 : decode b_Md_keep 146 = .ok (.iload_n 2, 1) := by decide +kernel
theorem d_Md_keep_147 : decode b_Md_keep 147 = .ok (.aload_n 0, 1) := by decide +kernel
theorem d_Md_keep_148 : decode b_Md_keep 148 = .ok (.getfield 103, 3) := by decide +kernel
theorem d_Md_keep_151 : decode b_Md_keep 151 = .ok (.lastore, 1) := by decide +kernel
theorem d_Md_keep_152 : decode b_Md_keep 152 = .ok (.aload_n 0, 1) := by decide +kernel
theorem d_Md_keep_153 : decode b_Md_keep 153 = .ok (.getfield 48, 3) := by decide +kernel
theorem d_Md_keep_156 : decode b_Md_keep 156 = .ok (.iload_n 1, 1) := by decide +kernel
theorem d_Md_keep_157 : decode b_Md_keep 157 = .ok (.dup2, 1) := by decide +kernel
theorem d_Md_keep_158 : decode b_Md_keep 158 = .ok (.iaload, 1) := by decide +kernel
theorem d_Md_keep_159 : decode b_Md_keep 159 = .ok (.iconst 1, 1) := by decide +kernel
theorem d_Md_keep_160 : decode b_Md_keep 160 = .ok (.iadd, 1) := by decide +kernel
theorem d_Md_keep_161 : decode b_Md_keep 161 = .ok (.iastore, 1) := by decide +kernel
theorem d_Md_keep_162 : decode b_Md_keep 162 = .ok (.return_, 1) := by decide +kernel
theorem d_Md_meet_0 : decode b_Md_meet 0 = .ok (.aload_n 0, 1) := by decide +kernel
theorem d_Md_meet_1 : decode b_Md_meet 1 = .ok (.iload_n 2, 1) := by decide +kernel
theorem d_Md_meet_2 : decode b_Md_meet 2 = .ok (.iload 4, 2) := by decide +kernel
theorem d_Md_meet_4 : decode b_Md_meet 4 = .ok (.invokevirtual 110, 3) := by decide +kernel
theorem d_Md_meet_7 : decode b_Md_meet 7 = .ok (.i2l, 1) := by decide +kernel
theorem d_Md_meet_8 : decode b_Md_meet 8 = .ok (.aload_n 0, 1) := by decide +kernel
theorem d_Md_meet_9 : decode b_Md_meet 9 = .ok (.iload_n 3, 1) := by decide +kernel
theorem d_Md_meet_10 : decode b_Md_meet 10 = .ok (.iconst 1, 1) := by decide +kernel
theorem d_Md_meet_11 : decode b_Md_meet 11 = .ok (.iload 4, 2) := by decide +kernel
theorem d_Md_meet_13 : decode b_Md_meet 13 = .ok (.isub, 1) := by decide +kernel
theorem d_Md_meet_14 : decode b_Md_meet 14 = .ok (.invokevirtual 110, 3) := by decide +kernel
theorem d_Md_meet_17 : decode b_Md_meet 17 = .ok (.i2l, 1) := by decide +kernel
theorem d_Md_meet_18 : decode b_Md_meet 18 = .ok (.lmul, 1) := by decide +kernel
theorem d_Md_meet_19 : decode b_Md_meet 19 = .ok (.aload_n 0, 1) := by decide +kernel
theorem d_Md_meet_20 : decode b_Md_meet 20 = .ok (.iload_n 3, 1) := by decide +kernel
theorem d_Md_meet_21 : decode b_Md_meet 21 = .ok (.iload 4, 2) := by decide +kernel
theorem d_Md_meet_23 : decode b_Md_meet 23 = .ok (.invokevirtual 110, 3) := by decide +kernel
theorem d_Md_meet_26 : decode b_Md_meet 26 = .ok (.i2l, 1) := by decide +kernel
theorem d_Md_meet_27 : decode b_Md_meet 27 = .ok (.aload_n 0, 1) := by decide +kernel
theorem d_Md_meet_28 : decode b_Md_meet 28 = .ok (.iload_n 2, 1) := by decide +kernel
theorem d_Md_meet_29 : decode b_Md_meet 29 = .ok (.iconst 1, 1) := by decide +kernel
theorem d_Md_meet_30 : decode b_Md_meet 30 = .ok (.iload 4, 2) := by decide +kernel
theorem d_Md_meet_32 : decode b_Md_meet 32 = .ok (.isub, 1) := by decide +kernel
theorem d_Md_meet_33 : decode b_Md_meet 33 = .ok (.invokevirtual 110, 3) := by decide +kernel
theorem d_Md_meet_36 : decode b_Md_meet 36 = .ok (.i2l, 1) := by decide +kernel
theorem d_Md_meet_37 : decode b_Md_meet 37 = .ok (.lmul, 1) := by decide +kernel
theorem d_Md_meet_38 : decode b_Md_meet 38 = .ok (.lsub, 1) := by decide +kernel
theorem d_Md_meet_39 : decode b_Md_meet 39 = .ok (.lstore 5, 2) := by decide +kernel
theorem d_Md_meet_41 : decode b_Md_meet 41 = .ok (.lload 5, 2) := by decide +kernel
theorem d_Md_meet_43 : decode b_Md_meet 43 = .ok (.lconst 0, 1) := by decide +kernel
theorem d_Md_meet_44 : decode b_Md_meet 44 = .ok (.lcmp, 1) := by decide +kernel
theorem d_Md_meet_45 : decode b_Md_meet 45 = .ok (.ifCond .ne 4, 3) := by decide +kernel
theorem d_Md_meet_48 : decode b_Md_meet 48 = .ok (.return_, 1) := by decide +kernel
theorem d_Md_meet_49 : decode b_Md_meet 49 = .ok (.aload_n 0, 1) := by decide +kernel
theorem d_Md_meet_50 : decode b_Md_meet 50 = .ok (.aload_n 0, 1) := by decide +kernel
theorem d_Md_meet_51 : decode b_Md_meet 51 = .ok (.iload_n 2, 1) := by decide +kernel
theorem d_Md_meet_52 : decode b_Md_meet 52 = .ok (.iconst 1, 1) := by decide +kernel
theorem d_Md_meet_53 : decode b_Md_meet 53 = .ok (.iload 4, 2) := by decide +kernel
theorem d_Md_meet_55 : decode b_Md_meet 55 = .ok (.isub, 1) := by decide +kernel
theorem d_Md_meet_56 : decode b_Md_meet 56 = .ok (.invokevirtual 110, 3) := by decide +kernel
theorem d_Md_meet_59 : decode b_Md_meet 59 = .ok (.i2l, 1) := by decide +kernel
theorem d_Md_meet_60 : decode b_Md_meet 60 = .ok (.aload_n 0, 1) := by decide +kernel
theorem d_Md_meet_61 : decode b_Md_meet 61 = .ok (.iload_n 3, 1) := by decide +kernel
theorem d_Md_meet_62 : decode b_Md_meet 62 = .ok (.iconst 2, 1) := by decide +kernel
theorem d_Md_meet_63 : decode b_Md_meet 63 = .ok (.invokevirtual 110, 3) := by decide +kernel
theorem d_Md_meet_66 : decode b_Md_meet 66 = .ok (.i2l, 1) := by decide +kernel
theorem d_Md_meet_67 : decode b_Md_meet 67 = .ok (.lmul, 1) := by decide +kernel
theorem d_Md_meet_68 : decode b_Md_meet 68 = .ok (.aload_n 0, 1) := by decide +kernel
theorem d_Md_meet_69 : decode b_Md_meet 69 = .ok (.iload_n 3, 1) := by decide +kernel
theorem d_Md_meet_70 : decode b_Md_meet 70 = .ok (.iconst 1, 1) := by decide +kernel
theorem d_Md_meet_71 : decode b_Md_meet 71 = .ok (.iload 4, 2) := by decide +kernel
theorem d_Md_meet_73 : decode b_Md_meet 73 = .ok (.isub, 1) := by decide +kernel
theorem d_Md_meet_74 : decode b_Md_meet 74 = .ok (.invokevirtual 110, 3) := by decide +kernel
theorem d_Md_meet_77 : decode b_Md_meet 77 = .ok (.i2l, 1) := by decide +kernel
theorem d_Md_meet_78 : decode b_Md_meet 78 = .ok (.aload_n 0, 1) := by decide +kernel
theorem d_Md_meet_79 : decode b_Md_meet 79 = .ok (.iload_n 2, 1) := by decide +kernel
theorem d_Md_meet_80 : decode b_Md_meet 80 = .ok (.iconst 2, 1) := by decide +kernel
theorem d_Md_meet_81 : decode b_Md_meet 81 = .ok (.invokevirtual 110, 3) := by decide +kernel
theorem d_Md_meet_84 : decode b_Md_meet 84 = .ok (.i2l, 1) := by decide +kernel
theorem d_Md_meet_85 : decode b_Md_meet 85 = .ok (.lmul, 1) := by decide +kernel
theorem d_Md_meet_86 : decode b_Md_meet 86 = .ok (.lsub, 1) := by decide +kernel
theorem d_Md_meet_87 : decode b_Md_meet 87 = .ok (.lload 5, 2) := by decide +kernel
theorem d_Md_meet_89 : decode b_Md_meet 89 = .ok (.invokevirtual 114, 3) := by decide +kernel
theorem d_Md_meet_92 : decode b_Md_meet 92 = .ok (.aload_n 0, 1) := by decide +kernel
theorem d_Md_meet_93 : decode b_Md_meet 93 = .ok (.iload_n 1, 1) := by decide +kernel
theorem d_Md_meet_94 : decode b_Md_meet 94 = .ok (.invokevirtual 118, 3) := by decide +kernel
theorem d_Md_meet_97 : decode b_Md_meet 97 = .ok (.return_, 1) := by decide +kernel
theorem d_Md_trial_0 : decode b_Md_trial 0 = .ok (.bipush 64, 2) := by decide +kernel
theorem d_Md_trial_2 : decode b_Md_trial 2 = .ok (.iload_n 1, 1) := by decide +kernel
theorem d_Md_trial_3 : decode b_Md_trial 3 = .ok (.imul, 1) := by decide +kernel
theorem d_Md_trial_4 : decode b_Md_trial 4 = .ok (.iload_n 2, 1) := by decide +kernel
theorem d_Md_trial_5 : decode b_Md_trial 5 = .ok (.iconst 2, 1) := by decide +kernel
theorem d_Md_trial_6 : decode b_Md_trial 6 = .ok (.idiv, 1) := by decide +kernel
theorem d_Md_trial_7 : decode b_Md_trial 7 = .ok (.iadd, 1) := by decide +kernel
theorem d_Md_trial_8 : decode b_Md_trial 8 = .ok (.istore_n 3, 1) := by decide +kernel
theorem d_Md_trial_9 : decode b_Md_trial 9 = .ok (.aload_n 0, 1) := by decide +kernel
theorem d_Md_trial_10 : decode b_Md_trial 10 = .ok (.getfield 48, 3) := by decide +kernel
theorem d_Md_trial_13 : decode b_Md_trial 13 = .ok (.iload_n 1, 1) := by decide +kernel
theorem d_Md_trial_14 : decode b_Md_trial 14 = .ok (.iaload, 1) := by decide +kernel
theorem d_Md_trial_15 : decode b_Md_trial 15 = .ok (.istore 4, 2) := by decide +kernel
theorem d_Md_trial_17 : decode b_Md_trial 17 = .ok (.iload 4, 2) := by decide +kernel
theorem d_Md_trial_19 : decode b_Md_trial 19 = .ok (.ifCond .ne 12, 3) := by decide +kernel
theorem d_Md_trial_22 : decode b_Md_trial 22 = .ok (.aload_n 0, 1) := by decide +kernel
theorem d_Md_trial_23 : decode b_Md_trial 23 = .ok (.lconst 0, 1) := by decide +kernel
theorem d_Md_trial_24 : decode b_Md_trial 24 = .ok (.lconst 1, 1) := by decide +kernel
theorem d_Md_trial_25 : decode b_Md_trial 25 = .ok (.invokevirtual 114, 3) := by decide +kernel
theorem d_Md_trial_28 : decode b_Md_trial 28 = .ok (.goto 153, 3) := by decide +kernel
theorem d_Md_trial_31 : decode b_Md_trial 31 = .ok (.iload_n 2, 1) := by decide +kernel
theorem d_Md_trial_32 : decode b_Md_trial 32 = .ok (.iconst 2, 1) := by decide +kernel
theorem d_Md_trial_33 : decode b_Md_trial 33 = .ok (.irem, 1) := by decide +kernel
theorem d_Md_trial_34 : decode b_Md_trial 34 = .ok (.iconst 1, 1) := by decide +kernel
theorem d_Md_trial_35 : decode b_Md_trial 35 = .ok (.if_icmp .ne 22, 3) := by decide +kernel
theorem d_Md_trial_38 : decode b_Md_trial 38 = .ok (.aload_n 0, 1) := by decide +kernel
theorem d_Md_trial_39 : decode b_Md_trial 39 = .ok (.aload_n 0, 1) := by decide +kernel
theorem d_Md_trial_40 : decode b_Md_trial 40 = .ok (.getfield 51, 3) := by decide +kernel
theorem d_Md_trial_43 : decode b_Md_trial 43 = .ok (.iload_n 3, 1) := by decide +kernel
theorem d_Md_trial_44 : decode b_Md_trial 44 = .ok (.laload, 1) := by decide +kernel
theorem d_Md_trial_45 : decode b_Md_trial 45 = .ok (.aload_n 0, 1) := by decide +kernel
theorem d_Md_trial_46 : decode b_Md_trial 46 = .ok (.getfield 54, 3) := by decide +kernel
theorem d_Md_trial_49 : decode b_Md_trial 49 = .ok (.iload_n 3, 1) := by decide +kernel
theorem d_Md_trial_50 : decode b_Md_trial 50 = .ok (.laload, 1) := by decide +kernel
theorem d_Md_trial_51 : decode b_Md_trial 51 = .ok (.invokevirtual 114, 3) := by decide +kernel
theorem d_Md_trial_54 : decode b_Md_trial 54 = .ok (.goto 127, 3) := by decide +kernel
theorem d_Md_trial_57 : decode b_Md_trial 57 = .ok (.iload_n 2, 1) := by decide +kernel
theorem d_Md_trial_58 : decode b_Md_trial 58 = .ok (.ifCond .ne 29, 3) := by decide +kernel
theorem d_Md_trial_61 : decode b_Md_trial 61 = .ok (.aload_n 0, 1) := by decide +kernel
theorem d_Md_trial_62 : decode b_Md_trial 62 = .ok (.aload_n 0, 1) := by decide +kernel
theorem d_Md_trial_63 : decode b_Md_trial 63 = .ok (.getfield 51, 3) := by decide +kernel
theorem d_Md_trial_66 : decode b_Md_trial 66 = .ok (.iload_n 3, 1) := by decide +kernel
theorem d_Md_trial_67 : decode b_Md_trial 67 = .ok (.laload, 1) := by decide +kernel
theorem d_Md_trial_68 : decode b_Md_trial 68 = .ok (.aload_n 0, 1) := by decide +kernel
theorem d_Md_trial_69 : decode b_Md_trial 69 = .ok (.getfield 54, 3) := by decide +kernel
theorem d_Md_trial_72 : decode b_Md_trial 72 = .ok (.iload_n 3, 1) := by decide +kernel
theorem d_Md_trial_73 : decode b_Md_trial 73 = .ok (.laload, 1) := by decide +kernel
theorem d_Md_trial_74 : decode b_Md_trial 74 = .ok (.lsub, 1) := by decide +kernel
theorem d_Md_trial_75 : decode b_Md_trial 75 = .ok (.aload_n 0, 1) := by decide +kernel
theorem d_Md_trial_76 : decode b_Md_trial 76 = .ok (.getfield 54, 3) := by decide +kernel
theorem d_Md_trial_79 : decode b_Md_trial 79 = .ok (.iload_n 3, 1) := by decide +kernel
theorem d_Md_trial_80 : decode b_Md_trial 80 = .ok (.laload, 1) := by decide +kernel
theorem d_Md_trial_81 : decode b_Md_trial 81 = .ok (.invokevirtual 114, 3) := by decide +kernel
theorem d_Md_trial_84 : decode b_Md_trial 84 = .ok (.goto 97, 3) := by decide +kernel
theorem d_Md_trial_87 : decode b_Md_trial 87 = .ok (.iload_n 2, 1) := by decide +kernel
theorem d_Md_trial_88 : decode b_Md_trial 88 = .ok (.iconst 2, 1) := by decide +kernel
theorem d_Md_trial_89 : decode b_Md_trial 89 = .ok (.iload 4, 2) := by decide +kernel
theorem d_Md_trial_91 : decode b_Md_trial 91 = .ok (.imul, 1) := by decide +kernel
theorem d_Md_trial_92 : decode b_Md_trial 92 = .ok (.if_icmp .ne 35, 3) := by decide +kernel
theorem d_Md_trial_95 : decode b_Md_trial 95 = .ok (.aload_n 0, 1) := by decide +kernel
theorem d_Md_trial_96 : decode b_Md_trial 96 = .ok (.aload_n 0, 1) := by decide +kernel
theorem d_Md_trial_97 : decode b_Md_trial 97 = .ok (.getfield 51, 3) := by decide +kernel
theorem d_Md_trial_100 : decode b_Md_trial 100 = .ok (.iload_n 3, 1) := by decide +kernel
theorem d_Md_trial_101 : decode b_Md_trial 101 = .ok (.iconst 1, 1) := by decide +kernel
theorem d_Md_trial_102 : decode b_Md_trial 102 = .ok (.isub, 1) := by decide +kernel
theorem d_Md_trial_103 : decode b_Md_trial 103 = .ok (.laload, 1) := by decide +kernel
theorem d_Md_trial_104 : decode b_Md_trial 104 = .ok (.aload_n 0, 1) := by decide +kernel
theorem d_Md_trial_105 : decode b_Md_trial 105 = .ok (.getfield 54, 3) := by decide +kernel
theorem d_Md_trial_108 : decode b_Md_trial 108 = .ok (.iload_n 3, 1) := by decide +kernel
theorem d_Md_trial_109 : decode b_Md_trial 109 = .ok (.iconst 1, 1) := by decide +kernel
theorem d_Md_trial_110 : decode b_Md_trial 110 = .ok (.isub, 1) := by decide +kernel
theorem d_Md_trial_111 : decode b_Md_trial 111 = .ok (.laload, 1) := by decide +kernel
theorem d_Md_trial_112 : decode b_Md_trial 112 = .ok (.ladd, 1) := by decide +kernel
theorem d_Md_trial_113 : decode b_Md_trial 113 = .ok (.aload_n 0, 1) := by decide +kernel
theorem d_Md_trial_114 : decode b_Md_trial 114 = .ok (.getfield 54, 3) := by decide +kernel
theorem d_Md_trial_117 : decode b_Md_trial 117 = .ok (.iload_n 3, 1) := by decide +kernel
theorem d_Md_trial_118 : decode b_Md_trial 118 = .ok (.iconst 1, 1) := by decide +kernel
theorem d_Md_trial_119 : decode b_Md_trial 119 = .ok (.isub, 1) := by decide +kernel
theorem d_Md_trial_120 : decode b_Md_trial 120 = .ok (.laload, 1) := by decide +kernel
theorem d_Md_trial_121 : decode b_Md_trial 121 = .ok (.invokevirtual 114, 3) := by decide +kernel
theorem d_Md_trial_124 : decode b_Md_trial 124 = .ok (.goto 57, 3) := by decide +kernel
theorem d_Md_trial_127 : decode b_Md_trial 127 = .ok (.aload_n 0, 1) := by decide +kernel
theorem d_Md_trial_128 : decode b_Md_trial 128 = .ok (.aload_n 0, 1) := by decide +kernel
theorem d_Md_trial_129 : decode b_Md_trial 129 = .ok (.getfield 51, 3) := by decide +kernel
theorem d_Md_trial_132 : decode b_Md_trial 132 = .ok (.iload_n 3, 1) := by decide +kernel
theorem d_Md_trial_133 : decode b_Md_trial 133 = .ok (.iconst 1, 1) := by decide +kernel
theorem d_Md_trial_134 : decode b_Md_trial 134 = .ok (.isub, 1) := by decide +kernel
theorem d_Md_trial_135 : decode b_Md_trial 135 = .ok (.laload, 1) := by decide +kernel
theorem d_Md_trial_136 : decode b_Md_trial 136 = .ok (.aload_n 0, 1) := by decide +kernel
theorem d_Md_trial_137 : decode b_Md_trial 137 = .ok (.getfield 54, 3) := by decide +kernel
theorem d_Md_trial_140 : decode b_Md_trial 140 = .ok (.iload_n 3, 1) := by decide +kernel
theorem d_Md_trial_141 : decode b_Md_trial 141 = .ok (.laload, 1) := by decide +kernel
theorem d_Md_trial_142 : decode b_Md_trial 142 = .ok (.lmul, 1) := by decide +kernel
theorem d_Md_trial_143 : decode b_Md_trial 143 = .ok (.aload_n 0, 1) := by decide +kernel
theorem d_Md_trial_144 : decode b_Md_trial 144 = .ok (.getfield 51, 3) := by decide +kernel
theorem d_Md_trial_147 : decode b_Md_trial 147 = .ok (.iload_n 3, 1) := by decide +kernel
theorem d_Md_trial_148 : decode b_Md_trial 148 = .ok (.laload, 1) := by decide +kernel
theorem d_Md_trial_149 : decode b_Md_trial 149 = .ok (.aload_n 0, 1) := by decide +kernel
theorem d_Md_trial_150 : decode b_Md_trial 150 = .ok (.getfield 54, 3) := by decide +kernel
theorem d_Md_trial_153 : decode b_Md_trial 153 = .ok (.iload_n 3, 1) := by decide +kernel
theorem d_Md_trial_154 : decode b_Md_trial 154 = .ok (.iconst 1, 1) := by decide +kernel
theorem d_Md_trial_155 : decode b_Md_trial 155 = .ok (.isub, 1) := by decide +kernel
theorem d_Md_trial_156 : decode b_Md_trial 156 = .ok (.laload, 1) := by decide +kernel
theorem d_Md_trial_157 : decode b_Md_trial 157 = .ok (.lmul, 1) := by decide +kernel
theorem d_Md_trial_158 : decode b_Md_trial 158 = .ok (.ladd, 1) := by decide +kernel
theorem d_Md_trial_159 : decode b_Md_trial 159 = .ok (.ldc2_w 81, 3) := by decide +kernel
theorem d_Md_trial_162 : decode b_Md_trial 162 = .ok (.aload_n 0, 1) := by decide +kernel
theorem d_Md_trial_163 : decode b_Md_trial 163 = .ok (.getfield 54, 3) := by decide +kernel
theorem d_Md_trial_166 : decode b_Md_trial 166 = .ok (.iload_n 3, 1) := by decide +kernel
theorem d_Md_trial_167 : decode b_Md_trial 167 = .ok (.iconst 1, 1) := by decide +kernel
theorem d_Md_trial_168 : decode b_Md_trial 168 = .ok (.isub, 1) := by decide +kernel
theorem d_Md_trial_169 : decode b_Md_trial 169 = .ok (.laload, 1) := by decide +kernel
theorem d_Md_trial_170 : decode b_Md_trial 170 = .ok (.lmul, 1) := by decide +kernel
theorem d_Md_trial_171 : decode b_Md_trial 171 = .ok (.aload_n 0, 1) := by decide +kernel
theorem d_Md_trial_172 : decode b_Md_trial 172 = .ok (.getfield 54, 3) := by decide +kernel
theorem d_Md_trial_175 : decode b_Md_trial 175 = .ok (.iload_n 3, 1) := by decide +kernel
theorem d_Md_trial_176 : decode b_Md_trial 176 = .ok (.laload, 1) := by decide +kernel
theorem d_Md_trial_177 : decode b_Md_trial 177 = .ok (.lmul, 1) := by decide +kernel
theorem d_Md_trial_178 : decode b_Md_trial 178 = .ok (.invokevirtual 114, 3) := by decide +kernel
theorem d_Md_trial_181 : decode b_Md_trial 181 = .ok (.return_, 1) := by decide +kernel
theorem d_Md_step_0 : decode b_Md_step 0 = .ok (.iconst 0, 1) := by decide +kernel
theorem d_Md_step_1 : decode b_Md_step 1 = .ok (.istore_n 3, 1) := by decide +kernel
theorem d_Md_step_2 : decode b_Md_step 2 = .ok (.iload_n 3, 1) := by decide +kernel
theorem d_Md_step_3 : decode b_Md_step 3 = .ok (.iconst 4, 1) := by decide +kernel
theorem d_Md_step_4 : decode b_Md_step 4 = .ok (.if_icmp .ge 31, 3) := by decide +kernel
theorem d_Md_step_7 : decode b_Md_step 7 = .ok (.aload_n 0, 1) := by decide +kernel
theorem d_Md_step_8 : decode b_Md_step 8 = .ok (.getfield 44, 3) := by decide +kernel
theorem d_Md_step_11 : decode b_Md_step 11 = .ok (.iconst 4, 1) := by decide +kernel
theorem d_Md_step_12 : decode b_Md_step 12 = .ok (.iload_n 1, 1) := by decide +kernel
theorem d_Md_step_13 : decode b_Md_step 13 = .ok (.imul, 1) := by decide +kernel
theorem d_Md_step_14 : decode b_Md_step 14 = .ok (.iconst 4, 1) := by decide +kernel
theorem d_Md_step_15 : decode b_Md_step 15 = .ok (.isub, 1) := by decide +kernel
theorem d_Md_step_16 : decode b_Md_step 16 = .ok (.iload_n 3, 1) := by decide +kernel
theorem d_Md_step_17 : decode b_Md_step 17 = .ok (.iadd, 1) := by decide +kernel
theorem d_Md_step_18 : decode b_Md_step 18 = .ok (.aload_n 0, 1) := by decide +kernel
theorem d_Md_step_19 : decode b_Md_step 19 = .ok (.getfield 44, 3) := by decide +kernel
theorem d_Md_step_22 : decode b_Md_step 22 = .ok (.iconst 4, 1) := by decide +kernel
theorem d_Md_step_23 : decode b_Md_step 23 = .ok (.iload_n 1, 1) := by decide +kernel
theorem d_Md_step_24 : decode b_Md_step 24 = .ok (.imul, 1) := by decide +kernel
theorem d_Md_step_25 : decode b_Md_step 25 = .ok (.iload_n 3, 1) := by decide +kernel
theorem d_Md_step_26 : decode b_Md_step 26 = .ok (.iadd, 1) := by decide +kernel
theorem d_Md_step_27 : decode b_Md_step 27 = .ok (.laload, 1) := by decide +kernel
theorem d_Md_step_28 : decode b_Md_step 28 = .ok (.lastore, 1) := by decide +kernel
theorem d_Md_step_29 : decode b_Md_step 29 = .ok (.iinc 3 1, 3) := by decide +kernel
theorem d_Md_step_32 : decode b_Md_step 32 = .ok (.goto (-30), 3) := by decide +kernel
theorem d_Md_step_35 : decode b_Md_step 35 = .ok (.aload_n 0, 1) := by decide +kernel
theorem d_Md_step_36 : decode b_Md_step 36 = .ok (.getfield 44, 3) := by decide +kernel
theorem d_Md_step_39 : decode b_Md_step 39 = .ok (.iconst 4, 1) := by decide +kernel
theorem d_Md_step_40 : decode b_Md_step 40 = .ok (.iload_n 1, 1) := by decide +kernel
theorem d_Md_step_41 : decode b_Md_step 41 = .ok (.imul, 1) := by decide +kernel
theorem d_Md_step_42 : decode b_Md_step 42 = .ok (.iconst 4, 1) := by decide +kernel
theorem d_Md_step_43 : decode b_Md_step 43 = .ok (.isub, 1) := by decide +kernel
theorem d_Md_step_44 : decode b_Md_step 44 = .ok (.iconst 2, 1) := by decide +kernel
theorem d_Md_step_45 : decode b_Md_step 45 = .ok (.iload_n 2, 1) := by decide +kernel
theorem d_Md_step_46 : decode b_Md_step 46 = .ok (.imul, 1) := by decide +kernel
theorem d_Md_step_47 : decode b_Md_step 47 = .ok (.iadd, 1) := by decide +kernel
theorem d_Md_step_48 : decode b_Md_step 48 = .ok (.aload_n 0, 1) := by decide +kernel
theorem d_Md_step_49 : decode b_Md_step 49 = .ok (.getfield 99, 3) := by decide +kernel
theorem d_Md_step_52 : decode b_Md_step 52 = .ok (.lastore, 1) := by decide +kernel
theorem d_Md_step_53 : decode b_Md_step 53 = .ok (.aload_n 0, 1) := by decide +kernel
theorem d_Md_step_54 : decode b_Md_step 54 = .ok (.getfield 44, 3) := by decide +kernel
theorem d_Md_step_57 : decode b_Md_step 57 = .ok (.iconst 4, 1) := by decide +kernel
theorem d_Md_step_58 : decode b_Md_step 58 = .ok (.iload_n 1, 1) := by decide +kernel
theorem d_Md_step_59 : decode b_Md_step 59 = .ok (.imul, 1) := by decide +kernel
theorem d_Md_step_60 : decode b_Md_step 60 = .ok (.iconst 3, 1) := by decide +kernel
theorem d_Md_step_61 : decode b_Md_step 61 = .ok (.isub, 1) := by decide +kernel
theorem d_Md_step_62 : decode b_Md_step 62 = .ok (.iconst 2, 1) := by decide +kernel
theorem d_Md_step_63 : decode b_Md_step 63 = .ok (.iload_n 2, 1) := by decide +kernel
theorem d_Md_step_64 : decode b_Md_step 64 = .ok (.imul, 1) := by decide +kernel
theorem d_Md_step_65 : decode b_Md_step 65 = .ok (.iadd, 1) := by decide +kernel
theorem d_Md_step_66 : decode b_Md_step 66 = .ok (.aload_n 0, 1) := by decide +kernel
theorem d_Md_step_67 : decode b_Md_step 67 = .ok (.getfield 103, 3) := by decide +kernel
theorem d_Md_step_70 : decode b_Md_step 70 = .ok (.lastore, 1) := by decide +kernel
theorem d_Md_step_71 : decode b_Md_step 71 = .ok (.return_, 1) := by decide +kernel
theorem d_Md_truth1_0 : decode b_Md_truth1 0 = .ok (.aload_n 0, 1) := by decide +kernel
theorem d_Md_truth1_1 : decode b_Md_truth1 1 = .ok (.iload_n 1, 1) := by decide +kernel
theorem d_Md_truth1_2 : decode b_Md_truth1 2 = .ok (.bipush 60, 2) := by decide +kernel
theorem d_Md_truth1_4 : decode b_Md_truth1 4 = .ok (.invokevirtual 106, 3) := by decide +kernel
theorem d_Md_truth1_7 : decode b_Md_truth1 7 = .ok (.iconst 0, 1) := by decide +kernel
theorem d_Md_truth1_8 : decode b_Md_truth1 8 = .ok (.istore_n 2, 1) := by decide +kernel
theorem d_Md_truth1_9 : decode b_Md_truth1 9 = .ok (.iload_n 2, 1) := by decide +kernel
theorem d_Md_truth1_10 : decode b_Md_truth1 10 = .ok (.iload_n 1, 1) := by decide +kernel
theorem d_Md_truth1_11 : decode b_Md_truth1 11 = .ok (.if_icmp .gt 54, 3) := by decide +kernel
theorem d_Md_truth1_14 : decode b_Md_truth1 14 = .ok (.aload_n 0, 1) := by decide +kernel
theorem d_Md_truth1_15 : decode b_Md_truth1 15 = .ok (.getfield 38, 3) := by decide +kernel
theorem d_Md_truth1_18 : decode b_Md_truth1 18 = .ok (.bipush 60, 2) := by decide +kernel
theorem d_Md_truth1_20 : decode b_Md_truth1 20 = .ok (.iload_n 2, 1) := by decide +kernel
theorem d_Md_truth1_21 : decode b_Md_truth1 21 = .ok (.iadd, 1) := by decide +kernel
theorem d_Md_truth1_22 : decode b_Md_truth1 22 = .ok (.baload, 1) := by decide +kernel
theorem d_Md_truth1_23 : decode b_Md_truth1 23 = .ok (.ifCond .eq 36, 3) := by decide +kernel
theorem d_Md_truth1_26 : decode b_Md_truth1 26 = .ok (.aload_n 0, 1) := by decide +kernel
theorem d_Md_truth1_27 : decode b_Md_truth1 27 = .ok (.getfield 41, 3) := by decide +kernel
theorem d_Md_truth1_30 : decode b_Md_truth1 30 = .ok (.bipush 60, 2) := by decide +kernel
theorem d_Md_truth1_32 : decode b_Md_truth1 32 = .ok (.iload_n 2, 1) := by decide +kernel
theorem d_Md_truth1_33 : decode b_Md_truth1 33 = .ok (.iadd, 1) := by decide +kernel
theorem d_Md_truth1_34 : decode b_Md_truth1 34 = .ok (.aload_n 0, 1) := by decide +kernel
theorem d_Md_truth1_35 : decode b_Md_truth1 35 = .ok (.getfield 7, 3) := by decide +kernel
theorem d_Md_truth1_38 : decode b_Md_truth1 38 = .ok (.iload_n 2, 1) := by decide +kernel
theorem d_Md_truth1_39 : decode b_Md_truth1 39 = .ok (.iaload, 1) := by decide +kernel
theorem d_Md_truth1_40 : decode b_Md_truth1 40 = .ok (.iconst 4, 1) := by decide +kernel
theorem d_Md_truth1_41 : decode b_Md_truth1 41 = .ok (.if_icmp .ge 12, 3) := by decide +kernel
theorem d_Md_truth1_44 : decode b_Md_truth1 44 = .ok (.aload_n 0, 1) := by decide +kernel
theorem d_Md_truth1_45 : decode b_Md_truth1 45 = .ok (.iconst 1, 1) := by decide +kernel
theorem d_Md_truth1_46 : decode b_Md_truth1 46 = .ok (.iload_n 2, 1) := by decide +kernel
theorem d_Md_truth1_47 : decode b_Md_truth1 47 = .ok (.invokevirtual 130, 3) := by decide +kernel
theorem d_Md_truth1_50 : decode b_Md_truth1 50 = .ok (.goto 8, 3) := by decide +kernel
theorem d_Md_truth1_53 : decode b_Md_truth1 53 = .ok (.aload_n 0, 1) := by decide +kernel
theorem d_Md_truth1_54 : decode b_Md_truth1 54 = .ok (.iload_n 2, 1) := by decide +kernel
theorem d_Md_truth1_55 : decode b_Md_truth1 55 = .ok (.invokevirtual 133, 3) := by decide +kernel
theorem d_Md_truth1_58 : decode b_Md_truth1 58 = .ok (.bastore, 1) := by decide +kernel
theorem d_Md_truth1_59 : decode b_Md_truth1 59 = .ok (.iinc 2 1, 3) := by decide +kernel
theorem d_Md_truth1_62 : decode b_Md_truth1 62 = .ok (.goto (-53), 3) := by decide +kernel
theorem d_Md_truth1_65 : decode b_Md_truth1 65 = .ok (.aload_n 0, 1) := by decide +kernel
theorem d_Md_truth1_66 : decode b_Md_truth1 66 = .ok (.getfield 41, 3) := by decide +kernel
theorem d_Md_truth1_69 : decode b_Md_truth1 69 = .ok (.bipush 60, 2) := by decide +kernel
theorem d_Md_truth1_71 : decode b_Md_truth1 71 = .ok (.iload_n 1, 1) := by decide +kernel
theorem d_Md_truth1_72 : decode b_Md_truth1 72 = .ok (.iadd, 1) := by decide +kernel
theorem d_Md_truth1_73 : decode b_Md_truth1 73 = .ok (.baload, 1) := by decide +kernel
theorem d_Md_truth1_74 : decode b_Md_truth1 74 = .ok (.ireturn, 1) := by decide +kernel
theorem d_Md_tries1_0 : decode b_Md_tries1 0 = .ok (.aload_n 0, 1) := by decide +kernel
theorem d_Md_tries1_1 : decode b_Md_tries1 1 = .ok (.getfield 22, 3) := by decide +kernel
theorem d_Md_tries1_4 : decode b_Md_tries1 4 = .ok (.iload_n 1, 1) := by decide +kernel
theorem d_Md_tries1_5 : decode b_Md_tries1 5 = .ok (.iaload, 1) := by decide +kernel
theorem d_Md_tries1_6 : decode b_Md_tries1 6 = .ok (.istore_n 2, 1) := by decide +kernel
theorem d_Md_tries1_7 : decode b_Md_tries1 7 = .ok (.aload_n 0, 1) := by decide +kernel
theorem d_Md_tries1_8 : decode b_Md_tries1 8 = .ok (.iconst 1, 1) := by decide +kernel
theorem d_Md_tries1_9 : decode b_Md_tries1 9 = .ok (.aload_n 0, 1) := by decide +kernel
theorem d_Md_tries1_10 : decode b_Md_tries1 10 = .ok (.getfield 13, 3) := by decide +kernel
theorem d_Md_tries1_13 : decode b_Md_tries1 13 = .ok (.iload_n 1, 1) := by decide +kernel
theorem d_Md_tries1_14 : decode b_Md_tries1 14 = .ok (.iaload, 1) := by decide +kernel
theorem d_Md_tries1_15 : decode b_Md_tries1 15 = .ok (.iload_n 2, 1) := by decide +kernel
theorem d_Md_tries1_16 : decode b_Md_tries1 16 = .ok (.aload_n 0, 1) := by decide +kernel
theorem d_Md_tries1_17 : decode b_Md_tries1 17 = .ok (.getfield 44, 3) := by decide +kernel
theorem d_Md_tries1_20 : decode b_Md_tries1 20 = .ok (.bipush 6, 2) := by decide +kernel
theorem d_Md_tries1_22 : decode b_Md_tries1 22 = .ok (.iconst 2, 1) := by decide +kernel
theorem d_Md_tries1_23 : decode b_Md_tries1 23 = .ok (.iload_n 2, 1) := by decide +kernel
theorem d_Md_tries1_24 : decode b_Md_tries1 24 = .ok (.imul, 1) := by decide +kernel
theorem d_Md_tries1_25 : decode b_Md_tries1 25 = .ok (.isub, 1) := by decide +kernel
theorem d_Md_tries1_26 : decode b_Md_tries1 26 = .ok (.laload, 1) := by decide +kernel
theorem d_Md_tries1_27 : decode b_Md_tries1 27 = .ok (.aload_n 0, 1) := by decide +kernel
theorem d_Md_tries1_28 : decode b_Md_tries1 28 = .ok (.getfield 44, 3) := by decide +kernel
theorem d_Md_tries1_31 : decode b_Md_tries1 31 = .ok (.bipush 7, 2) := by decide +kernel
theorem d_Md_tries1_33 : decode b_Md_tries1 33 = .ok (.iconst 2, 1) := by decide +kernel
theorem d_Md_tries1_34 : decode b_Md_tries1 34 = .ok (.iload_n 2, 1) := by decide +kernel
theorem d_Md_tries1_35 : decode b_Md_tries1 35 = .ok (.imul, 1) := by decide +kernel
theorem d_Md_tries1_36 : decode b_Md_tries1 36 = .ok (.isub, 1) := by decide +kernel
theorem d_Md_tries1_37 : decode b_Md_tries1 37 = .ok (.laload, 1) := by decide +kernel
theorem d_Md_tries1_38 : decode b_Md_tries1 38 = .ok (.invokevirtual 136, 3) := by decide +kernel
theorem d_Md_tries1_41 : decode b_Md_tries1 41 = .ok (.iconst 0, 1) := by decide +kernel
theorem d_Md_tries1_42 : decode b_Md_tries1 42 = .ok (.istore_n 3, 1) := by decide +kernel
theorem d_Md_tries1_43 : decode b_Md_tries1 43 = .ok (.iload_n 3, 1) := by decide +kernel
theorem d_Md_tries1_44 : decode b_Md_tries1 44 = .ok (.iconst 2, 1) := by decide +kernel
theorem d_Md_tries1_45 : decode b_Md_tries1 45 = .ok (.aload_n 0, 1) := by decide +kernel
theorem d_Md_tries1_46 : decode b_Md_tries1 46 = .ok (.getfield 48, 3) := by decide +kernel
theorem d_Md_tries1_49 : decode b_Md_tries1 49 = .ok (.iconst 1, 1) := by decide +kernel
theorem d_Md_tries1_50 : decode b_Md_tries1 50 = .ok (.iaload, 1) := by decide +kernel
theorem d_Md_tries1_51 : decode b_Md_tries1 51 = .ok (.imul, 1) := by decide +kernel
theorem d_Md_tries1_52 : decode b_Md_tries1 52 = .ok (.if_icmp .gt 65, 3) := by decide +kernel
theorem d_Md_tries1_55 : decode b_Md_tries1 55 = .ok (.aload_n 0, 1) := by decide +kernel
theorem d_Md_tries1_56 : decode b_Md_tries1 56 = .ok (.iconst 1, 1) := by decide +kernel
theorem d_Md_tries1_57 : decode b_Md_tries1 57 = .ok (.iload_n 3, 1) := by decide +kernel
theorem d_Md_tries1_58 : decode b_Md_tries1 58 = .ok (.invokevirtual 140, 3) := by decide +kernel
theorem d_Md_tries1_61 : decode b_Md_tries1 61 = .ok (.aload_n 0, 1) := by decide +kernel
theorem d_Md_tries1_62 : decode b_Md_tries1 62 = .ok (.iconst 1, 1) := by decide +kernel
theorem d_Md_tries1_63 : decode b_Md_tries1 63 = .ok (.iload_n 2, 1) := by decide +kernel
theorem d_Md_tries1_64 : decode b_Md_tries1 64 = .ok (.invokevirtual 143, 3) := by decide +kernel
theorem d_Md_tries1_67 : decode b_Md_tries1 67 = .ok (.aload_n 0, 1) := by decide +kernel
theorem d_Md_tries1_68 : decode b_Md_tries1 68 = .ok (.aload_n 0, 1) := by decide +kernel
theorem d_Md_tries1_69 : decode b_Md_tries1 69 = .ok (.getfield 13, 3) := by decide +kernel
theorem d_Md_tries1_72 : decode b_Md_tries1 72 = .ok (.iload_n 1, 1) := by decide +kernel
theorem d_Md_tries1_73 : decode b_Md_tries1 73 = .ok (.iaload, 1) := by decide +kernel
theorem d_Md_tries1_74 : decode b_Md_tries1 74 = .ok (.invokevirtual 146, 3) := by decide +kernel
theorem d_Md_tries1_77 : decode b_Md_tries1 77 = .ok (.aload_n 0, 1) := by decide +kernel
theorem d_Md_tries1_78 : decode b_Md_tries1 78 = .ok (.getfield 7, 3) := by decide +kernel
theorem d_Md_tries1_81 : decode b_Md_tries1 81 = .ok (.iload_n 1, 1) := by decide +kernel
theorem d_Md_tries1_82 : decode b_Md_tries1 82 = .ok (.iaload, 1) := by decide +kernel
theorem d_Md_tries1_83 : decode b_Md_tries1 83 = .ok (.iconst 4, 1) := by decide +kernel
theorem d_Md_tries1_84 : decode b_Md_tries1 84 = .ok (.if_icmp .ne 7, 3) := by decide +kernel
theorem d_Md_tries1_87 : decode b_Md_tries1 87 = .ok (.iconst 1, 1) := by decide +kernel
theorem d_Md_tries1_88 : decode b_Md_tries1 88 = .ok (.goto 4, 3) := by decide +kernel
theorem d_Md_tries1_91 : decode b_Md_tries1 91 = .ok (.iconst 0, 1) := by decide +kernel
theorem d_Md_tries1_92 : decode b_Md_tries1 92 = .ok (.if_icmp .ne 19, 3) := by decide +kernel
theorem d_Md_tries1_95 : decode b_Md_tries1 95 = .ok (.aload_n 0, 1) := by decide +kernel
theorem d_Md_tries1_96 : decode b_Md_tries1 96 = .ok (.getfield 7, 3) := by decide +kernel
theorem d_Md_tries1_99 : decode b_Md_tries1 99 = .ok (.iload_n 1, 1) := by decide +kernel
theorem d_Md_tries1_100 : decode b_Md_tries1 100 = .ok (.iaload, 1) := by decide +kernel
theorem d_Md_tries1_101 : decode b_Md_tries1 101 = .ok (.iconst 4, 1) := by decide +kernel
theorem d_Md_tries1_102 : decode b_Md_tries1 102 = .ok (.if_icmp .ne 7, 3) := by decide +kernel
theorem d_Md_tries1_105 : decode b_Md_tries1 105 = .ok (.iconst 1, 1) := by decide +kernel
theorem d_Md_tries1_106 : decode b_Md_tries1 106 = .ok (.goto 4, 3) := by decide +kernel
theorem d_Md_tries1_109 : decode b_Md_tries1 109 = .ok (.iconst 0, 1) := by decide +kernel
theorem d_Md_tries1_110 : decode b_Md_tries1 110 = .ok (.ireturn, 1) := by decide +kernel
theorem d_Md_tries1_111 : decode b_Md_tries1 111 = .ok (.iinc 3 1, 3) := by decide +kernel
theorem d_Md_tries1_114 : decode b_Md_tries1 114 = .ok (.goto (-71), 3) := by decide +kernel
theorem d_Md_tries1_117 : decode b_Md_tries1 117 = .ok (.aload_n 0, 1) := by decide +kernel
theorem d_Md_tries1_118 : decode b_Md_tries1 118 = .ok (.getfield 7, 3) := by decide +kernel
theorem d_Md_tries1_121 : decode b_Md_tries1 121 = .ok (.iload_n 1, 1) := by decide +kernel
theorem d_Md_tries1_122 : decode b_Md_tries1 122 = .ok (.iaload, 1) := by decide +kernel
theorem d_Md_tries1_123 : decode b_Md_tries1 123 = .ok (.iconst 5, 1) := by decide +kernel
theorem d_Md_tries1_124 : decode b_Md_tries1 124 = .ok (.if_icmp .ne 7, 3) := by decide +kernel
theorem d_Md_tries1_127 : decode b_Md_tries1 127 = .ok (.iconst 1, 1) := by decide +kernel
theorem d_Md_tries1_128 : decode b_Md_tries1 128 = .ok (.goto 4, 3) := by decide +kernel
theorem d_Md_tries1_131 : decode b_Md_tries1 131 = .ok (.iconst 0, 1) := by decide +kernel
theorem d_Md_tries1_132 : decode b_Md_tries1 132 = .ok (.ireturn, 1) := by decide +kernel
theorem d_Md_truth0_0 : decode b_Md_truth0 0 = .ok (.aload_n 0, 1) := by decide +kernel
theorem d_Md_truth0_1 : decode b_Md_truth0 1 = .ok (.iload_n 1, 1) := by decide +kernel
theorem d_Md_truth0_2 : decode b_Md_truth0 2 = .ok (.iconst 0, 1) := by decide +kernel
theorem d_Md_truth0_3 : decode b_Md_truth0 3 = .ok (.invokevirtual 106, 3) := by decide +kernel
theorem d_Md_truth0_6 : decode b_Md_truth0 6 = .ok (.iconst 0, 1) := by decide +kernel
theorem d_Md_truth0_7 : decode b_Md_truth0 7 = .ok (.istore_n 2, 1) := by decide +kernel
theorem d_Md_truth0_8 : decode b_Md_truth0 8 = .ok (.iload_n 2, 1) := by decide +kernel
theorem d_Md_truth0_9 : decode b_Md_truth0 9 = .ok (.iload_n 1, 1) := by decide +kernel
theorem d_Md_truth0_10 : decode b_Md_truth0 10 = .ok (.if_icmp .gt 30, 3) := by decide +kernel
theorem d_Md_truth0_13 : decode b_Md_truth0 13 = .ok (.aload_n 0, 1) := by decide +kernel
theorem d_Md_truth0_14 : decode b_Md_truth0 14 = .ok (.getfield 38, 3) := by decide +kernel
theorem d_Md_truth0_17 : decode b_Md_truth0 17 = .ok (.iload_n 2, 1) := by decide +kernel
theorem d_Md_truth0_18 : decode b_Md_truth0 18 = .ok (.baload, 1) := by decide +kernel
theorem d_Md_truth0_19 : decode b_Md_truth0 19 = .ok (.ifCond .eq 15, 3) := by decide +kernel
theorem d_Md_truth0_22 : decode b_Md_truth0 22 = .ok (.aload_n 0, 1) := by decide +kernel
theorem d_Md_truth0_23 : decode b_Md_truth0 23 = .ok (.getfield 41, 3) := by decide +kernel
theorem d_Md_truth0_26 : decode b_Md_truth0 26 = .ok (.iload_n 2, 1) := by decide +kernel
theorem d_Md_truth0_27 : decode b_Md_truth0 27 = .ok (.aload_n 0, 1) := by decide +kernel
theorem d_Md_truth0_28 : decode b_Md_truth0 28 = .ok (.iconst 0, 1) := by decide +kernel
theorem d_Md_truth0_29 : decode b_Md_truth0 29 = .ok (.iload_n 2, 1) := by decide +kernel
theorem d_Md_truth0_30 : decode b_Md_truth0 30 = .ok (.invokevirtual 130, 3) := by decide +kernel
theorem d_Md_truth0_33 : decode b_Md_truth0 33 = .ok (.bastore, 1) := by decide +kernel
theorem d_Md_truth0_34 : decode b_Md_truth0 34 = .ok (.iinc 2 1, 3) := by decide +kernel
theorem d_Md_truth0_37 : decode b_Md_truth0 37 = .ok (.goto (-29), 3) := by decide +kernel
theorem d_Md_truth0_40 : decode b_Md_truth0 40 = .ok (.aload_n 0, 1) := by decide +kernel
theorem d_Md_truth0_41 : decode b_Md_truth0 41 = .ok (.getfield 41, 3) := by decide +kernel
theorem d_Md_truth0_44 : decode b_Md_truth0 44 = .ok (.iload_n 1, 1) := by decide +kernel
theorem d_Md_truth0_45 : decode b_Md_truth0 45 = .ok (.baload, 1) := by decide +kernel
theorem d_Md_truth0_46 : decode b_Md_truth0 46 = .ok (.ireturn, 1) := by decide +kernel
theorem d_Md_decide_0 : decode b_Md_decide 0 = .ok (.aload_n 0, 1) := by decide +kernel
theorem d_Md_decide_1 : decode b_Md_decide 1 = .ok (.aload_n 0, 1) := by decide +kernel
theorem d_Md_decide_2 : decode b_Md_decide 2 = .ok (.iload_n 1, 1) := by decide +kernel
theorem d_Md_decide_3 : decode b_Md_decide 3 = .ok (.invokevirtual 87, 3) := by decide +kernel
theorem d_Md_decide_6 : decode b_Md_decide 6 = .ok (.ifCond .ne 7, 3) := by decide +kernel
theorem d_Md_decide_9 : decode b_Md_decide 9 = .ok (.iconst 1, 1) := by decide +kernel
theorem d_Md_decide_10 : decode b_Md_decide 10 = .ok (.goto 26, 3) := by decide +kernel
theorem d_Md_decide_13 : decode b_Md_decide 13 = .ok (.aload_n 0, 1) := by decide +kernel
theorem d_Md_decide_14 : decode b_Md_decide 14 = .ok (.getfield 25, 3) := by decide +kernel
theorem d_Md_decide_17 : decode b_Md_decide 17 = .ok (.iload_n 1, 1) := by decide +kernel
theorem d_Md_decide_18 : decode b_Md_decide 18 = .ok (.baload, 1) := by decide +kernel
theorem d_Md_decide_19 : decode b_Md_decide 19 = .ok (.ifCond .ne 12, 3) := by decide +kernel
theorem d_Md_decide_22 : decode b_Md_decide 22 = .ok (.aload_n 0, 1) := by decide +kernel
theorem d_Md_decide_23 : decode b_Md_decide 23 = .ok (.getfield 29, 3) := by decide +kernel
theorem d_Md_decide_26 : decode b_Md_decide 26 = .ok (.iload_n 1, 1) := by decide +kernel
theorem d_Md_decide_27 : decode b_Md_decide 27 = .ok (.baload, 1) := by decide +kernel
theorem d_Md_decide_28 : decode b_Md_decide 28 = .ok (.ifCond .eq 7, 3) := by decide +kernel
theorem d_Md_decide_31 : decode b_Md_decide 31 = .ok (.iconst 2, 1) := by decide +kernel
theorem d_Md_decide_32 : decode b_Md_decide 32 = .ok (.goto 4, 3) := by decide +kernel
theorem d_Md_decide_35 : decode b_Md_decide 35 = .ok (.iconst 0, 1) := by decide +kernel
theorem d_Md_decide_36 : decode b_Md_decide 36 = .ok (.putfield 66, 3) := by decide +kernel
theorem d_Md_decide_39 : decode b_Md_decide 39 = .ok (.aload_n 0, 1) := by decide +kernel
theorem d_Md_decide_40 : decode b_Md_decide 40 = .ok (.getfield 66, 3) := by decide +kernel
theorem d_Md_decide_43 : decode b_Md_decide 43 = .ok (.ifCond .ne 17, 3) := by decide +kernel
theorem d_Md_decide_46 : decode b_Md_decide 46 = .ok (.aload_n 0, 1) := by decide +kernel
theorem d_Md_decide_47 : decode b_Md_decide 47 = .ok (.iload_n 1, 1) := by decide +kernel
theorem d_Md_decide_48 : decode b_Md_decide 48 = .ok (.lconst 0, 1) := by decide +kernel
theorem d_Md_decide_49 : decode b_Md_decide 49 = .ok (.lconst 0, 1) := by decide +kernel
theorem d_Md_decide_50 : decode b_Md_decide 50 = .ok (.invokevirtual 162, 3) := by decide +kernel
theorem d_Md_decide_53 : decode b_Md_decide 53 = .ok (.ifCond .eq 7, 3) := by decide +kernel
theorem d_Md_decide_56 : decode b_Md_decide 56 = .ok (.iconst 1, 1) := by decide +kernel
theorem d_Md_decide_57 : decode b_Md_decide 57 = .ok (.goto 4, 3) := by decide +kernel
theorem d_Md_decide_60 : decode b_Md_decide 60 = .ok (.iconst 0, 1) := by decide +kernel
theorem d_Md_decide_61 : decode b_Md_decide 61 = .ok (.ireturn, 1) := by decide +kernel
theorem d_Md_alike_0 : decode b_Md_alike 0 = .ok (.aload_n 0, 1) := by decide +kernel
theorem d_Md_alike_1 : decode b_Md_alike 1 = .ok (.aload_n 0, 1) := by decide +kernel
theorem d_Md_alike_2 : decode b_Md_alike 2 = .ok (.iload_n 1, 1) := by decide +kernel
theorem d_Md_alike_3 : decode b_Md_alike 3 = .ok (.invokevirtual 87, 3) := by decide +kernel
theorem d_Md_alike_6 : decode b_Md_alike 6 = .ok (.ifCond .eq 15, 3) := by decide +kernel
theorem d_Md_alike_9 : decode b_Md_alike 9 = .ok (.aload_n 0, 1) := by decide +kernel
theorem d_Md_alike_10 : decode b_Md_alike 10 = .ok (.iload_n 2, 1) := by decide +kernel
theorem d_Md_alike_11 : decode b_Md_alike 11 = .ok (.invokevirtual 87, 3) := by decide +kernel
theorem d_Md_alike_14 : decode b_Md_alike 14 = .ok (.ifCond .eq 7, 3) := by decide +kernel
theorem d_Md_alike_17 : decode b_Md_alike 17 = .ok (.iconst 0, 1) := by decide +kernel
theorem d_Md_alike_18 : decode b_Md_alike 18 = .ok (.goto 4, 3) := by decide +kernel
theorem d_Md_alike_21 : decode b_Md_alike 21 = .ok (.iconst 1, 1) := by decide +kernel
theorem d_Md_alike_22 : decode b_Md_alike 22 = .ok (.putfield 66, 3) := by decide +kernel
theorem d_Md_alike_25 : decode b_Md_alike 25 = .ok (.bipush (-2), 2) := by decide +kernel
theorem d_Md_alike_27 : decode b_Md_alike 27 = .ok (.istore_n 3, 1) := by decide +kernel
theorem d_Md_alike_28 : decode b_Md_alike 28 = .ok (.iload_n 3, 1) := by decide +kernel
theorem d_Md_alike_29 : decode b_Md_alike 29 = .ok (.iconst 3, 1) := by decide +kernel
theorem d_Md_alike_30 : decode b_Md_alike 30 = .ok (.if_icmp .ge 57, 3) := by decide +kernel
theorem d_Md_alike_33 : decode b_Md_alike 33 = .ok (.aload_n 0, 1) := by decide +kernel
theorem d_Md_alike_34 : decode b_Md_alike 34 = .ok (.getfield 66, 3) := by decide +kernel
theorem d_Md_alike_37 : decode b_Md_alike 37 = .ok (.ifCond .ne 50, 3) := by decide +kernel
theorem d_Md_alike_40 : decode b_Md_alike 40 = .ok (.bipush (-2), 2) := by decide +kernel
theorem d_Md_alike_42 : decode b_Md_alike 42 = .ok (.istore 4, 2) := by decide +kernel
theorem d_Md_alike_44 : decode b_Md_alike 44 = .ok (.iload 4, 2) := by decide +kernel
theorem d_Md_alike_46 : decode b_Md_alike 46 = .ok (.iconst 3, 1) := by decide +kernel
theorem d_Md_alike_47 : decode b_Md_alike 47 = .ok (.if_icmp .ge 34, 3) := by decide +kernel
theorem d_Md_alike_50 : decode b_Md_alike 50 = .ok (.aload_n 0, 1) := by decide +kernel
theorem d_Md_alike_51 : decode b_Md_alike 51 = .ok (.iload_n 1, 1) := by decide +kernel
theorem d_Md_alike_52 : decode b_Md_alike 52 = .ok (.iload_n 3, 1) := by decide +kernel
theorem d_Md_alike_53 : decode b_Md_alike 53 = .ok (.i2l, 1) := by decide +kernel
theorem d_Md_alike_54 : decode b_Md_alike 54 = .ok (.iload 4, 2) := by decide +kernel
theorem d_Md_alike_56 : decode b_Md_alike 56 = .ok (.i2l, 1) := by decide +kernel
theorem d_Md_alike_57 : decode b_Md_alike 57 = .ok (.invokevirtual 162, 3) := by decide +kernel
theorem d_Md_alike_60 : decode b_Md_alike 60 = .ok (.aload_n 0, 1) := by decide +kernel
theorem d_Md_alike_61 : decode b_Md_alike 61 = .ok (.iload_n 2, 1) := by decide +kernel
theorem d_Md_alike_62 : decode b_Md_alike 62 = .ok (.iload_n 3, 1) := by decide +kernel
theorem d_Md_alike_63 : decode b_Md_alike 63 = .ok (.i2l, 1) := by decide +kernel
theorem d_Md_alike_64 : decode b_Md_alike 64 = .ok (.iload 4, 2) := by decide +kernel
theorem d_Md_alike_66 : decode b_Md_alike 66 = .ok (.i2l, 1) := by decide +kernel
theorem d_Md_alike_67 : decode b_Md_alike 67 = .ok (.invokevirtual 162, 3) := by decide +kernel
theorem d_Md_alike_70 : decode b_Md_alike 70 = .ok (.if_icmp .eq 5, 3) := by decide +kernel
theorem d_Md_alike_73 : decode b_Md_alike 73 = .ok (.iconst 0, 1) := by decide +kernel
theorem d_Md_alike_74 : decode b_Md_alike 74 = .ok (.ireturn, 1) := by decide +kernel
theorem d_Md_alike_75 : decode b_Md_alike 75 = .ok (.iinc 4 1, 3) := by decide +kernel
theorem d_Md_alike_78 : decode b_Md_alike 78 = .ok (.goto (-34), 3) := by decide +kernel
theorem d_Md_alike_81 : decode b_Md_alike 81 = .ok (.iinc 3 1, 3) := by decide +kernel
theorem d_Md_alike_84 : decode b_Md_alike 84 = .ok (.goto (-56), 3) := by decide +kernel
theorem d_Md_alike_87 : decode b_Md_alike 87 = .ok (.aload_n 0, 1) := by decide +kernel
theorem d_Md_alike_88 : decode b_Md_alike 88 = .ok (.getfield 66, 3) := by decide +kernel
theorem d_Md_alike_91 : decode b_Md_alike 91 = .ok (.ifCond .ne 7, 3) := by decide +kernel
theorem d_Md_alike_94 : decode b_Md_alike 94 = .ok (.iconst 1, 1) := by decide +kernel
theorem d_Md_alike_95 : decode b_Md_alike 95 = .ok (.goto 4, 3) := by decide +kernel
theorem d_Md_alike_98 : decode b_Md_alike 98 = .ok (.iconst 0, 1) := by decide +kernel
theorem d_Md_alike_99 : decode b_Md_alike 99 = .ok (.ireturn, 1) := by decide +kernel
theorem d_Md_pieces_0 : decode b_Md_pieces 0 = .ok (.aload_n 0, 1) := by decide +kernel
theorem d_Md_pieces_1 : decode b_Md_pieces 1 = .ok (.iload_n 1, 1) := by decide +kernel
theorem d_Md_pieces_2 : decode b_Md_pieces 2 = .ok (.invokevirtual 169, 3) := by decide +kernel
theorem d_Md_pieces_5 : decode b_Md_pieces 5 = .ok (.ifCond .eq 10, 3) := by decide +kernel
theorem d_Md_pieces_8 : decode b_Md_pieces 8 = .ok (.aload_n 0, 1) := by decide +kernel
theorem d_Md_pieces_9 : decode b_Md_pieces 9 = .ok (.getfield 166, 3) := by decide +kernel
theorem d_Md_pieces_12 : decode b_Md_pieces 12 = .ok (.goto 4, 3) := by decide +kernel
theorem d_Md_pieces_15 : decode b_Md_pieces 15 = .ok (.iconst 0, 1) := by decide +kernel
theorem d_Md_pieces_16 : decode b_Md_pieces 16 = .ok (.ireturn, 1) := by decide +kernel
theorem d_Md_find_0 : decode b_Md_find 0 = .ok (.aload_n 0, 1) := by decide +kernel
theorem d_Md_find_1 : decode b_Md_find 1 = .ok (.aload_n 0, 1) := by decide +kernel
theorem d_Md_find_2 : decode b_Md_find 2 = .ok (.iload_n 1, 1) := by decide +kernel
theorem d_Md_find_3 : decode b_Md_find 3 = .ok (.invokevirtual 87, 3) := by decide +kernel
theorem d_Md_find_6 : decode b_Md_find 6 = .ok (.ifCond .ne 7, 3) := by decide +kernel
theorem d_Md_find_9 : decode b_Md_find 9 = .ok (.iconst 1, 1) := by decide +kernel
theorem d_Md_find_10 : decode b_Md_find 10 = .ok (.goto 33, 3) := by decide +kernel
theorem d_Md_find_13 : decode b_Md_find 13 = .ok (.aload_n 0, 1) := by decide +kernel
theorem d_Md_find_14 : decode b_Md_find 14 = .ok (.getfield 25, 3) := by decide +kernel
theorem d_Md_find_17 : decode b_Md_find 17 = .ok (.iload_n 1, 1) := by decide +kernel
theorem d_Md_find_18 : decode b_Md_find 18 = .ok (.baload, 1) := by decide +kernel
theorem d_Md_find_19 : decode b_Md_find 19 = .ok (.aload_n 0, 1) := by decide +kernel
theorem d_Md_find_20 : decode b_Md_find 20 = .ok (.getfield 29, 3) := by decide +kernel
theorem d_Md_find_23 : decode b_Md_find 23 = .ok (.iload_n 1, 1) := by decide +kernel
theorem d_Md_find_24 : decode b_Md_find 24 = .ok (.baload, 1) := by decide +kernel
theorem d_Md_find_25 : decode b_Md_find 25 = .ok (.if_icmp .eq 13, 3) := by decide +kernel
theorem d_Md_find_28 : decode b_Md_find 28 = .ok (.aload_n 0, 1) := by decide +kernel
theorem d_Md_find_29 : decode b_Md_find 29 = .ok (.getfield 35, 3) := by decide +kernel
theorem d_Md_find_32 : decode b_Md_find 32 = .ok (.iload_n 1, 1) := by decide +kernel
theorem d_Md_find_33 : decode b_Md_find 33 = .ok (.iaload, 1) := by decide +kernel
theorem d_Md_find_34 : decode b_Md_find 34 = .ok (.iconst 1, 1) := by decide +kernel
theorem d_Md_find_35 : decode b_Md_find 35 = .ok (.if_icmp .le 7, 3) := by decide +kernel
theorem d_Md_find_38 : decode b_Md_find 38 = .ok (.iconst 2, 1) := by decide +kernel
theorem d_Md_find_39 : decode b_Md_find 39 = .ok (.goto 4, 3) := by decide +kernel
theorem d_Md_find_42 : decode b_Md_find 42 = .ok (.iconst 0, 1) := by decide +kernel
theorem d_Md_find_43 : decode b_Md_find 43 = .ok (.putfield 66, 3) := by decide +kernel
theorem d_Md_find_46 : decode b_Md_find 46 = .ok (.aload_n 0, 1) := by decide +kernel
theorem d_Md_find_47 : decode b_Md_find 47 = .ok (.getfield 66, 3) := by decide +kernel
theorem d_Md_find_50 : decode b_Md_find 50 = .ok (.ifCond .le 5, 3) := by decide +kernel
theorem d_Md_find_53 : decode b_Md_find 53 = .ok (.iconst 0, 1) := by decide +kernel
theorem d_Md_find_54 : decode b_Md_find 54 = .ok (.ireturn, 1) := by decide +kernel
theorem d_Md_find_55 : decode b_Md_find 55 = .ok (.aload_n 0, 1) := by decide +kernel
theorem d_Md_find_56 : decode b_Md_find 56 = .ok (.getfield 25, 3) := by decide +kernel
theorem d_Md_find_59 : decode b_Md_find 59 = .ok (.iload_n 1, 1) := by decide +kernel
theorem d_Md_find_60 : decode b_Md_find 60 = .ok (.baload, 1) := by decide +kernel
theorem d_Md_find_61 : decode b_Md_find 61 = .ok (.ifCond .eq 7, 3) := by decide +kernel
theorem d_Md_find_64 : decode b_Md_find 64 = .ok (.iconst 0, 1) := by decide +kernel
theorem d_Md_find_65 : decode b_Md_find 65 = .ok (.goto 4, 3) := by decide +kernel
theorem d_Md_find_68 : decode b_Md_find 68 = .ok (.iconst 1, 1) := by decide +kernel
theorem d_Md_find_69 : decode b_Md_find 69 = .ok (.istore_n 2, 1) := by decide +kernel
theorem d_Md_find_70 : decode b_Md_find 70 = .ok (.aload_n 0, 1) := by decide +kernel
theorem d_Md_find_71 : decode b_Md_find 71 = .ok (.iconst 2, 1) := by decide +kernel
theorem d_Md_find_72 : decode b_Md_find 72 = .ok (.iload_n 1, 1) := by decide +kernel
theorem d_Md_find_73 : decode b_Md_find 73 = .ok (.iload_n 2, 1) := by decide +kernel
theorem d_Md_find_74 : decode b_Md_find 74 = .ok (.lconst 0, 1) := by decide +kernel
theorem d_Md_find_75 : decode b_Md_find 75 = .ok (.lconst 1, 1) := by decide +kernel
theorem d_Md_find_76 : decode b_Md_find 76 = .ok (.invokevirtual 136, 3) := by decide +kernel
theorem d_Md_find_79 : decode b_Md_find 79 = .ok (.iconst 2, 1) := by decide +kernel
theorem d_Md_find_80 : decode b_Md_find 80 = .ok (.aload_n 0, 1) := by decide +kernel
theorem d_Md_find_81 : decode b_Md_find 81 = .ok (.getfield 48, 3) := by decide +kernel
theorem d_Md_find_84 : decode b_Md_find 84 = .ok (.iconst 2, 1) := by decide +kernel
theorem d_Md_find_85 : decode b_Md_find 85 = .ok (.iaload, 1) := by decide +kernel
theorem d_Md_find_86 : decode b_Md_find 86 = .ok (.imul, 1) := by decide +kernel
theorem d_Md_find_87 : decode b_Md_find 87 = .ok (.istore_n 3, 1) := by decide +kernel
theorem d_Md_find_88 : decode b_Md_find 88 = .ok (.aload_n 0, 1) := by decide +kernel
theorem d_Md_find_89 : decode b_Md_find 89 = .ok (.iconst 0, 1) := by decide +kernel
theorem d_Md_find_90 : decode b_Md_find 90 = .ok (.putfield 166, 3) := by decide +kernel
theorem d_Md_find_93 : decode b_Md_find 93 = .ok (.iconst 0, 1) := by decide +kernel
theorem d_Md_find_94 : decode b_Md_find 94 = .ok (.istore 4, 2) := by decide +kernel
theorem d_Md_find_96 : decode b_Md_find 96 = .ok (.iload 4, 2) := by decide +kernel
theorem d_Md_find_98 : decode b_Md_find 98 = .ok (.iload_n 3, 1) := by decide +kernel
theorem d_Md_find_99 : decode b_Md_find 99 = .ok (.if_icmp .gt 128, 3) := by decide +kernel
theorem d_Md_find_102 : decode b_Md_find 102 = .ok (.aload_n 0, 1) := by decide +kernel
theorem d_Md_find_103 : decode b_Md_find 103 = .ok (.iconst 2, 1) := by decide +kernel
theorem d_Md_find_104 : decode b_Md_find 104 = .ok (.iload 4, 2) := by decide +kernel
theorem d_Md_find_106 : decode b_Md_find 106 = .ok (.invokevirtual 140, 3) := by decide +kernel
theorem d_Md_find_109 : decode b_Md_find 109 = .ok (.iconst 0, 1) := by decide +kernel
theorem d_Md_find_110 : decode b_Md_find 110 = .ok (.istore 5, 2) := by decide +kernel
theorem d_Md_find_112 : decode b_Md_find 112 = .ok (.iload 5, 2) := by decide +kernel
theorem d_Md_find_114 : decode b_Md_find 114 = .ok (.iconst 4, 1) := by decide +kernel
theorem d_Md_find_115 : decode b_Md_find 115 = .ok (.if_icmp .ge 24, 3) := by decide +kernel
theorem d_Md_find_118 : decode b_Md_find 118 = .ok (.aload_n 0, 1) := by decide +kernel
theorem d_Md_find_119 : decode b_Md_find 119 = .ok (.getfield 44, 3) := by decide +kernel
theorem d_Md_find_122 : decode b_Md_find 122 = .ok (.bipush 8, 2) := by decide +kernel
theorem d_Md_find_124 : decode b_Md_find 124 = .ok (.iload 5, 2) := by decide +kernel
theorem d_Md_find_126 : decode b_Md_find 126 = .ok (.iadd, 1) := by decide +kernel
theorem d_Md_find_127 : decode b_Md_find 127 = .ok (.iload 5, 2) := by decide +kernel
theorem d_Md_find_129 : decode b_Md_find 129 = .ok (.iconst 2, 1) := by decide +kernel
theorem d_Md_find_130 : decode b_Md_find 130 = .ok (.irem, 1) := by decide +kernel
theorem d_Md_find_131 : decode b_Md_find 131 = .ok (.i2l, 1) := by decide +kernel
theorem d_Md_find_132 : decode b_Md_find 132 = .ok (.lastore, 1) := by decide +kernel
theorem d_Md_find_133 : decode b_Md_find 133 = .ok (.iinc 5 1, 3) := by decide +kernel
theorem d_Md_find_136 : decode b_Md_find 136 = .ok (.goto (-24), 3) := by decide +kernel
theorem d_Md_find_139 : decode b_Md_find 139 = .ok (.aload_n 0, 1) := by decide +kernel
theorem d_Md_find_140 : decode b_Md_find 140 = .ok (.iconst 2, 1) := by decide +kernel
theorem d_Md_find_141 : decode b_Md_find 141 = .ok (.iload_n 2, 1) := by decide +kernel
theorem d_Md_find_142 : decode b_Md_find 142 = .ok (.invokevirtual 143, 3) := by decide +kernel
theorem d_Md_find_145 : decode b_Md_find 145 = .ok (.aload_n 0, 1) := by decide +kernel
theorem d_Md_find_146 : decode b_Md_find 146 = .ok (.getfield 57, 3) := by decide +kernel
theorem d_Md_find_149 : decode b_Md_find 149 = .ok (.iload 4, 2) := by decide +kernel
theorem d_Md_find_151 : decode b_Md_find 151 = .ok (.aload_n 0, 1) := by decide +kernel
theorem d_Md_find_152 : decode b_Md_find 152 = .ok (.iload_n 1, 1) := by decide +kernel
theorem d_Md_find_153 : decode b_Md_find 153 = .ok (.invokevirtual 152, 3) := by decide +kernel
theorem d_Md_find_156 : decode b_Md_find 156 = .ok (.bastore, 1) := by decide +kernel
theorem d_Md_find_157 : decode b_Md_find 157 = .ok (.aload_n 0, 1) := by decide +kernel
theorem d_Md_find_158 : decode b_Md_find 158 = .ok (.getfield 57, 3) := by decide +kernel
theorem d_Md_find_161 : decode b_Md_find 161 = .ok (.iload 4, 2) := by decide +kernel
theorem d_Md_find_163 : decode b_Md_find 163 = .ok (.baload, 1) := by decide +kernel
theorem d_Md_find_164 : decode b_Md_find 164 = .ok (.ifCond .ne 6, 3) := by decide +kernel
theorem d_Md_find_167 : decode b_Md_find 167 = .ok (.goto 54, 3) := by decide +kernel
theorem d_Md_find_170 : decode b_Md_find 170 = .ok (.iload 4, 2) := by decide +kernel
theorem d_Md_find_172 : decode b_Md_find 172 = .ok (.ifCond .eq 15, 3) := by decide +kernel
theorem d_Md_find_175 : decode b_Md_find 175 = .ok (.aload_n 0, 1) := by decide +kernel
theorem d_Md_find_176 : decode b_Md_find 176 = .ok (.getfield 57, 3) := by decide +kernel
theorem d_Md_find_179 : decode b_Md_find 179 = .ok (.iload 4, 2) := by decide +kernel
theorem d_Md_find_181 : decode b_Md_find 181 = .ok (.iconst 1, 1) := by decide +kernel
theorem d_Md_find_182 : decode b_Md_find 182 = .ok (.isub, 1) := by decide +kernel
theorem d_Md_find_183 : decode b_Md_find 183 = .ok (.baload, 1) := by decide +kernel
theorem d_Md_find_184 : decode b_Md_find 184 = .ok (.ifCond .ne 24, 3) := by decide +kernel
theorem d_Md_find_187 : decode b_Md_find 187 = .ok (.aload_n 0, 1) := by decide +kernel
theorem d_Md_find_188 : decode b_Md_find 188 = .ok (.getfield 60, 3) := by decide +kernel
theorem d_Md_find_191 : decode b_Md_find 191 = .ok (.aload_n 0, 1) := by decide +kernel
theorem d_Md_find_192 : decode b_Md_find 192 = .ok (.getfield 166, 3) := by decide +kernel
theorem d_Md_find_195 : decode b_Md_find 195 = .ok (.iload 4, 2) := by decide +kernel
theorem d_Md_find_197 : decode b_Md_find 197 = .ok (.iastore, 1) := by decide +kernel
theorem d_Md_find_198 : decode b_Md_find 198 = .ok (.aload_n 0, 1) := by decide +kernel
theorem d_Md_find_199 : decode b_Md_find 199 = .ok (.dup, 1) := by decide +kernel
theorem d_Md_find_200 : decode b_Md_find 200 = .ok (.getfield 166, 3) := by decide +kernel
theorem d_Md_find_203 : decode b_Md_find 203 = .ok (.iconst 1, 1) := by decide +kernel
theorem d_Md_find_204 : decode b_Md_find 204 = .ok (.iadd, 1) := by decide +kernel
theorem d_Md_find_205 : decode b_Md_find 205 = .ok (.putfield 166, 3) := by decide +kernel
theorem d_Md_find_208 : decode b_Md_find 208 = .ok (.aload_n 0, 1) := by decide +kernel
theorem d_Md_find_209 : decode b_Md_find 209 = .ok (.getfield 63, 3) := by decide +kernel
theorem d_Md_find_212 : decode b_Md_find 212 = .ok (.aload_n 0, 1) := by decide +kernel
theorem d_Md_find_213 : decode b_Md_find 213 = .ok (.getfield 166, 3) := by decide +kernel
theorem d_Md_find_216 : decode b_Md_find 216 = .ok (.iconst 1, 1) := by decide +kernel
theorem d_Md_find_217 : decode b_Md_find 217 = .ok (.isub, 1) := by decide +kernel
theorem d_Md_find_218 : decode b_Md_find 218 = .ok (.iload 4, 2) := by decide +kernel
theorem d_Md_find_220 : decode b_Md_find 220 = .ok (.iastore, 1) := by decide +kernel
theorem d_Md_find_221 : decode b_Md_find 221 = .ok (.iinc 4 1, 3) := by decide +kernel
theorem d_Md_find_224 : decode b_Md_find 224 = .ok (.goto (-128), 3) := by decide +kernel
theorem d_Md_find_227 : decode b_Md_find 227 = .ok (.iconst 1, 1) := by decide +kernel
theorem d_Md_find_228 : decode b_Md_find 228 = .ok (.ireturn, 1) := by decide +kernel
theorem d_Md_end_0 : decode b_Md_end 0 = .ok (.aload_n 0, 1) := by decide +kernel
theorem d_Md_end_1 : decode b_Md_end 1 = .ok (.iload_n 1, 1) := by decide +kernel
theorem d_Md_end_2 : decode b_Md_end 2 = .ok (.invokevirtual 169, 3) := by decide +kernel
theorem d_Md_end_5 : decode b_Md_end 5 = .ok (.ifCond .ne 5, 3) := by decide +kernel
theorem d_Md_end_8 : decode b_Md_end 8 = .ok (.lconst 0, 1) := by decide +kernel
theorem d_Md_end_9 : decode b_Md_end 9 = .ok (.lreturn, 1) := by decide +kernel
theorem d_Md_end_10 : decode b_Md_end 10 = .ok (.iload_n 2, 1) := by decide +kernel
theorem d_Md_end_11 : decode b_Md_end 11 = .ok (.i2l, 1) := by decide +kernel
theorem d_Md_end_12 : decode b_Md_end 12 = .ok (.lconst 0, 1) := by decide +kernel
theorem d_Md_end_13 : decode b_Md_end 13 = .ok (.aload_n 0, 1) := by decide +kernel
theorem d_Md_end_14 : decode b_Md_end 14 = .ok (.getfield 166, 3) := by decide +kernel
theorem d_Md_end_17 : decode b_Md_end 17 = .ok (.iconst 1, 1) := by decide +kernel
theorem d_Md_end_18 : decode b_Md_end 18 = .ok (.isub, 1) := by decide +kernel
theorem d_Md_end_19 : decode b_Md_end 19 = .ok (.i2l, 1) := by decide +kernel
theorem d_Md_end_20 : decode b_Md_end 20 = .ok (.invokestatic 73, 3) := by decide +kernel
theorem d_Md_end_23 : decode b_Md_end 23 = .ok (.ifCond .ne 10, 3) := by decide +kernel
theorem d_Md_end_26 : decode b_Md_end 26 = .ok (.aload_n 0, 1) := by decide +kernel
theorem d_Md_end_27 : decode b_Md_end 27 = .ok (.iconst 1, 1) := by decide +kernel
theorem d_Md_end_28 : decode b_Md_end 28 = .ok (.invokevirtual 172, 3) := by decide +kernel
theorem d_Md_end_31 : decode b_Md_end 31 = .ok (.i2l, 1) := by decide +kernel
theorem d_Md_end_32 : decode b_Md_end 32 = .ok (.lreturn, 1) := by decide +kernel
theorem d_Md_end_33 : decode b_Md_end 33 = .ok (.iload_n 3, 1) := by decide +kernel
theorem d_Md_end_34 : decode b_Md_end 34 = .ok (.i2l, 1) := by decide +kernel
theorem d_Md_end_35 : decode b_Md_end 35 = .ok (.lconst 0, 1) := by decide +kernel
theorem d_Md_end_36 : decode b_Md_end 36 = .ok (.lconst 1, 1) := by decide +kernel
theorem d_Md_end_37 : decode b_Md_end 37 = .ok (.invokestatic 73, 3) := by decide +kernel
theorem d_Md_end_40 : decode b_Md_end 40 = .ok (.ifCond .eq 16, 3) := by decide +kernel
theorem d_Md_end_43 : decode b_Md_end 43 = .ok (.iload 4, 2) := by decide +kernel
theorem d_Md_end_45 : decode b_Md_end 45 = .ok (.i2l, 1) := by decide +kernel
theorem d_Md_end_46 : decode b_Md_end 46 = .ok (.lconst 0, 1) := by decide +kernel
theorem d_Md_end_47 : decode b_Md_end 47 = .ok (.ldc2_w 81, 3) := by decide +kernel
theorem d_Md_end_50 : decode b_Md_end 50 = .ok (.invokestatic 73, 3) := by decide +kernel
theorem d_Md_end_53 : decode b_Md_end 53 = .ok (.ifCond .ne 10, 3) := by decide +kernel
theorem d_Md_end_56 : decode b_Md_end 56 = .ok (.aload_n 0, 1) := by decide +kernel
theorem d_Md_end_57 : decode b_Md_end 57 = .ok (.iconst 3, 1) := by decide +kernel
theorem d_Md_end_58 : decode b_Md_end 58 = .ok (.invokevirtual 172, 3) := by decide +kernel
theorem d_Md_end_61 : decode b_Md_end 61 = .ok (.i2l, 1) := by decide +kernel
theorem d_Md_end_62 : decode b_Md_end 62 = .ok (.lreturn, 1) := by decide +kernel
theorem d_Md_end_63 : decode b_Md_end 63 = .ok (.iload_n 3, 1) := by decide +kernel
theorem d_Md_end_64 : decode b_Md_end 64 = .ok (.ifCond .ne 12, 3) := by decide +kernel
theorem d_Md_end_67 : decode b_Md_end 67 = .ok (.aload_n 0, 1) := by decide +kernel
theorem d_Md_end_68 : decode b_Md_end 68 = .ok (.getfield 60, 3) := by decide +kernel
theorem d_Md_end_71 : decode b_Md_end 71 = .ok (.iload_n 2, 1) := by decide +kernel
theorem d_Md_end_72 : decode b_Md_end 72 = .ok (.iaload, 1) := by decide +kernel
theorem d_Md_end_73 : decode b_Md_end 73 = .ok (.goto 9, 3) := by decide +kernel
theorem d_Md_end_76 : decode b_Md_end 76 = .ok (.aload_n 0, 1) := by decide +kernel
theorem d_Md_end_77 : decode b_Md_end 77 = .ok (.getfield 63, 3) := by decide +kernel
theorem d_Md_end_80 : decode b_Md_end 80 = .ok (.iload_n 2, 1) := by decide +kernel
theorem d_Md_end_81 : decode b_Md_end 81 = .ok (.iaload, 1) := by decide +kernel
theorem d_Md_end_82 : decode b_Md_end 82 = .ok (.istore 5, 2) := by decide +kernel
theorem d_Md_end_84 : decode b_Md_end 84 = .ok (.iload 5, 2) := by decide +kernel
theorem d_Md_end_86 : decode b_Md_end 86 = .ok (.iconst 2, 1) := by decide +kernel
theorem d_Md_end_87 : decode b_Md_end 87 = .ok (.irem, 1) := by decide +kernel
theorem d_Md_end_88 : decode b_Md_end 88 = .ok (.ifCond .ne 7, 3) := by decide +kernel
theorem d_Md_end_91 : decode b_Md_end 91 = .ok (.iconst 1, 1) := by decide +kernel
theorem d_Md_end_92 : decode b_Md_end 92 = .ok (.goto 4, 3) := by decide +kernel
theorem d_Md_end_95 : decode b_Md_end 95 = .ok (.iconst 0, 1) := by decide +kernel
theorem d_Md_end_96 : decode b_Md_end 96 = .ok (.istore 6, 2) := by decide +kernel
theorem d_Md_end_98 : decode b_Md_end 98 = .ok (.iload 5, 2) := by decide +kernel
theorem d_Md_end_100 : decode b_Md_end 100 = .ok (.iload_n 3, 1) := by decide +kernel
theorem d_Md_end_101 : decode b_Md_end 101 = .ok (.ifCond .ne 7, 3) := by decide +kernel
theorem d_Md_end_104 : decode b_Md_end 104 = .ok (.iconst 0, 1) := by decide +kernel
theorem d_Md_end_105 : decode b_Md_end 105 = .ok (.goto 11, 3) := by decide +kernel
theorem d_Md_end_108 : decode b_Md_end 108 = .ok (.iconst 2, 1) := by decide +kernel
theorem d_Md_end_109 : decode b_Md_end 109 = .ok (.aload_n 0, 1) := by decide +kernel
theorem d_Md_end_110 : decode b_Md_end 110 = .ok (.getfield 48, 3) := by decide +kernel
theorem d_Md_end_113 : decode b_Md_end 113 = .ok (.iconst 2, 1) := by decide +kernel
theorem d_Md_end_114 : decode b_Md_end 114 = .ok (.iaload, 1) := by decide +kernel
theorem d_Md_end_115 : decode b_Md_end 115 = .ok (.imul, 1) := by decide +kernel
theorem d_Md_end_116 : decode b_Md_end 116 = .ok (.if_icmp .ne 15, 3) := by decide +kernel
theorem d_Md_end_119 : decode b_Md_end 119 = .ok (.iload 4, 2) := by decide +kernel
theorem d_Md_end_121 : decode b_Md_end 121 = .ok (.iconst 2, 1) := by decide +kernel
theorem d_Md_end_122 : decode b_Md_end 122 = .ok (.if_icmp .ne 7, 3) := by decide +kernel
theorem d_Md_end_125 : decode b_Md_end 125 = .ok (.lconst 1, 1) := by decide +kernel
theorem d_Md_end_126 : decode b_Md_end 126 = .ok (.goto 4, 3) := by decide +kernel
theorem d_Md_end_129 : decode b_Md_end 129 = .ok (.lconst 0, 1) := by decide +kernel
theorem d_Md_end_130 : decode b_Md_end 130 = .ok (.lreturn, 1) := by decide +kernel
theorem d_Md_end_131 : decode b_Md_end 131 = .ok (.iload 4, 2) := by decide +kernel
theorem d_Md_end_133 : decode b_Md_end 133 = .ok (.ifCond .ne 16, 3) := by decide +kernel
theorem d_Md_end_136 : decode b_Md_end 136 = .ok (.iload 6, 2) := by decide +kernel
theorem d_Md_end_138 : decode b_Md_end 138 = .ok (.ifCond .eq 7, 3) := by decide +kernel
theorem d_Md_end_141 : decode b_Md_end 141 = .ok (.lconst 1, 1) := by decide +kernel
theorem d_Md_end_142 : decode b_Md_end 142 = .ok (.goto 6, 3) := by decide +kernel
theorem d_Md_end_145 : decode b_Md_end 145 = .ok (.ldc2_w 81, 3) := by decide +kernel
theorem d_Md_end_148 : decode b_Md_end 148 = .ok (.lreturn, 1) := by decide +kernel
theorem d_Md_end_149 : decode b_Md_end 149 = .ok (.sipush 128, 3) := by decide +kernel
theorem d_Md_end_152 : decode b_Md_end 152 = .ok (.iload 6, 2) := by decide +kernel
theorem d_Md_end_154 : decode b_Md_end 154 = .ok (.ifCond .eq 16, 3) := by decide +kernel
theorem d_Md_end_157 : decode b_Md_end 157 = .ok (.iload_n 3, 1) := by decide +kernel
theorem d_Md_end_158 : decode b_Md_end 158 = .ok (.ifCond .ne 12, 3) := by decide +kernel
theorem d_Md_end_161 : decode b_Md_end 161 = .ok (.iload 5, 2) := by decide +kernel
theorem d_Md_end_163 : decode b_Md_end 163 = .ok (.iconst 2, 1) := by decide +kernel
theorem d_Md_end_164 : decode b_Md_end 164 = .ok (.idiv, 1) := by decide +kernel
theorem d_Md_end_165 : decode b_Md_end 165 = .ok (.iconst 1, 1) := by decide +kernel
theorem d_Md_end_166 : decode b_Md_end 166 = .ok (.isub, 1) := by decide +kernel
theorem d_Md_end_167 : decode b_Md_end 167 = .ok (.goto 7, 3) := by decide +kernel
theorem d_Md_end_170 : decode b_Md_end 170 = .ok (.iload 5, 2) := by decide +kernel
theorem d_Md_end_172 : decode b_Md_end 172 = .ok (.iconst 2, 1) := by decide +kernel
theorem d_Md_end_173 : decode b_Md_end 173 = .ok (.idiv, 1) := by decide +kernel
theorem d_Md_end_174 : decode b_Md_end 174 = .ok (.iadd, 1) := by decide +kernel
theorem d_Md_end_175 : decode b_Md_end 175 = .ok (.istore 7, 2) := by decide +kernel
theorem d_Md_end_177 : decode b_Md_end 177 = .ok (.iload 4, 2) := by decide +kernel
theorem d_Md_end_179 : decode b_Md_end 179 = .ok (.iconst 1, 1) := by decide +kernel
theorem d_Md_end_180 : decode b_Md_end 180 = .ok (.if_icmp .ne 13, 3) := by decide +kernel
theorem d_Md_end_183 : decode b_Md_end 183 = .ok (.aload_n 0, 1) := by decide +kernel
theorem d_Md_end_184 : decode b_Md_end 184 = .ok (.getfield 51, 3) := by decide +kernel
theorem d_Md_end_187 : decode b_Md_end 187 = .ok (.iload 7, 2) := by decide +kernel
theorem d_Md_end_189 : decode b_Md_end 189 = .ok (.laload, 1) := by decide +kernel
theorem d_Md_end_190 : decode b_Md_end 190 = .ok (.goto 10, 3) := by decide +kernel
theorem d_Md_end_193 : decode b_Md_end 193 = .ok (.aload_n 0, 1) := by decide +kernel
theorem d_Md_end_194 : decode b_Md_end 194 = .ok (.getfield 54, 3) := by decide +kernel
theorem d_Md_end_197 : decode b_Md_end 197 = .ok (.iload 7, 2) := by decide +kernel
theorem d_Md_end_199 : decode b_Md_end 199 = .ok (.laload, 1) := by decide +kernel
theorem d_Md_end_200 : decode b_Md_end 200 = .ok (.lreturn, 1) := by decide +kernel
theorem d_Md_raise_0 : decode b_Md_raise 0 = .ok (.aload_n 0, 1) := by decide +kernel
theorem d_Md_raise_1 : decode b_Md_raise 1 = .ok (.iload_n 1, 1) := by decide +kernel
theorem d_Md_raise_2 : decode b_Md_raise 2 = .ok (.putfield 66, 3) := by decide +kernel
theorem d_Md_raise_5 : decode b_Md_raise 5 = .ok (.iconst 0, 1) := by decide +kernel
theorem d_Md_raise_6 : decode b_Md_raise 6 = .ok (.ireturn, 1) := by decide +kernel
