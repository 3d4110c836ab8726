theorem dX11_init_0 : decode cX11_init 0 = .ok (.aload_n 0, 1) := by decide +kernel
theorem dX11_init_1 : decode cX11_init 1 = .ok (.invokespecial 1, 3) := by decide +kernel
theorem dX11_init_4 : decode cX11_init 4 = .ok (.aload_n 0, 1) := by decide +kernel
theorem dX11_init_5 : decode cX11_init 5 = .ok (.bipush 64, 2) := by decide +kernel
theorem dX11_init_7 : decode cX11_init 7 = .ok (.newarray .int, 2) := by decide +kernel
theorem dX11_init_9 : decode cX11_init 9 = .ok (.putfield 7, 3) := by decide +kernel
theorem dX11_init_12 : decode cX11_init 12 = .ok (.aload_n 0, 1) := by decide +kernel
theorem dX11_init_13 : decode cX11_init 13 = .ok (.bipush 64, 2) := by decide +kernel
theorem dX11_init_15 : decode cX11_init 15 = .ok (.newarray .int, 2) := by decide +kernel
theorem dX11_init_17 : decode cX11_init 17 = .ok (.putfield 13, 3) := by decide +kernel
theorem dX11_init_20 : decode cX11_init 20 = .ok (.aload_n 0, 1) := by decide +kernel
theorem dX11_init_21 : decode cX11_init 21 = .ok (.bipush 64, 2) := by decide +kernel
theorem dX11_init_23 : decode cX11_init 23 = .ok (.newarray .int, 2) := by decide +kernel
theorem dX11_init_25 : decode cX11_init 25 = .ok (.putfield 16, 3) := by decide +kernel
theorem dX11_init_28 : decode cX11_init 28 = .ok (.aload_n 0, 1) := by decide +kernel
theorem dX11_init_29 : decode cX11_init 29 = .ok (.bipush 64, 2) := by decide +kernel
theorem dX11_init_31 : decode cX11_init 31 = .ok (.newarray .int, 2) := by decide +kernel
theorem dX11_init_33 : decode cX11_init 33 = .ok (.putfield 19, 3) := by decide +kernel
theorem dX11_init_36 : decode cX11_init 36 = .ok (.aload_n 0, 1) := by decide +kernel
theorem dX11_init_37 : decode cX11_init 37 = .ok (.bipush 8, 2) := by decide +kernel
theorem dX11_init_39 : decode cX11_init 39 = .ok (.newarray .int, 2) := by decide +kernel
theorem dX11_init_41 : decode cX11_init 41 = .ok (.putfield 22, 3) := by decide +kernel
theorem dX11_init_44 : decode cX11_init 44 = .ok (.aload_n 0, 1) := by decide +kernel
theorem dX11_init_45 : decode cX11_init 45 = .ok (.bipush 32, 2) := by decide +kernel
theorem dX11_init_47 : decode cX11_init 47 = .ok (.newarray .int, 2) := by decide +kernel
theorem dX11_init_49 : decode cX11_init 49 = .ok (.putfield 25, 3) := by decide +kernel
theorem dX11_init_52 : decode cX11_init 52 = .ok (.aload_n 0, 1) := by decide +kernel
theorem dX11_init_53 : decode cX11_init 53 = .ok (.sipush 3000, 3) := by decide +kernel
theorem dX11_init_56 : decode cX11_init 56 = .ok (.newarray .int, 2) := by decide +kernel
theorem dX11_init_58 : decode cX11_init 58 = .ok (.putfield 28, 3) := by decide +kernel
theorem dX11_init_61 : decode cX11_init 61 = .ok (.aload_n 0, 1) := by decide +kernel
theorem dX11_init_62 : decode cX11_init 62 = .ok (.sipush 3000, 3) := by decide +kernel
theorem dX11_init_65 : decode cX11_init 65 = .ok (.newarray .int, 2) := by decide +kernel
theorem dX11_init_67 : decode cX11_init 67 = .ok (.putfield 31, 3) := by decide +kernel
theorem dX11_init_70 : decode cX11_init 70 = .ok (.aload_n 0, 1) := by decide +kernel
theorem dX11_init_71 : decode cX11_init 71 = .ok (.bipush 8, 2) := by decide +kernel
theorem dX11_init_73 : decode cX11_init 73 = .ok (.newarray .int, 2) := by decide +kernel
theorem dX11_init_75 : decode cX11_init 75 = .ok (.putfield 34, 3) := by decide +kernel
theorem dX11_init_78 : decode cX11_init 78 = .ok (.aload_n 0, 1) := by decide +kernel
theorem dX11_init_79 : decode cX11_init 79 = .ok (.bipush 8, 2) := by decide +kernel
theorem dX11_init_81 : decode cX11_init 81 = .ok (.newarray .int, 2) := by decide +kernel
theorem dX11_init_83 : decode cX11_init 83 = .ok (.putfield 37, 3) := by decide +kernel
theorem dX11_init_86 : decode cX11_init 86 = .ok (.aload_n 0, 1) := by decide +kernel
theorem dX11_init_87 : decode cX11_init 87 = .ok (.bipush 8, 2) := by decide +kernel
theorem dX11_init_89 : decode cX11_init 89 = .ok (.newarray .int, 2) := by decide +kernel
theorem dX11_init_91 : decode cX11_init 91 = .ok (.putfield 40, 3) := by decide +kernel
theorem dX11_init_94 : decode cX11_init 94 = .ok (.aload_n 0, 1) := by decide +kernel
theorem dX11_init_95 : decode cX11_init 95 = .ok (.bipush 8, 2) := by decide +kernel
theorem dX11_init_97 : decode cX11_init 97 = .ok (.newarray .int, 2) := by decide +kernel
theorem dX11_init_99 : decode cX11_init 99 = .ok (.putfield 43, 3) := by decide +kernel
theorem dX11_init_102 : decode cX11_init 102 = .ok (.aload_n 0, 1) := by decide +kernel
theorem dX11_init_103 : decode cX11_init 103 = .ok (.sipush 512, 3) := by decide +kernel
theorem dX11_init_106 : decode cX11_init 106 = .ok (.newarray .int, 2) := by decide +kernel
theorem dX11_init_108 : decode cX11_init 108 = .ok (.putfield 46, 3) := by decide +kernel
theorem dX11_init_111 : decode cX11_init 111 = .ok (.aload_n 0, 1) := by decide +kernel
theorem dX11_init_112 : decode cX11_init 112 = .ok (.sipush 6496, 3) := by decide +kernel
theorem dX11_init_115 : decode cX11_init 115 = .ok (.newarray .int, 2) := by decide +kernel
theorem dX11_init_117 : decode cX11_init 117 = .ok (.putfield 49, 3) := by decide +kernel
theorem dX11_init_120 : decode cX11_init 120 = .ok (.aload_n 0, 1) := by decide +kernel
theorem dX11_init_121 : decode cX11_init 121 = .ok (.sipush 12992, 3) := by decide +kernel
theorem dX11_init_124 : decode cX11_init 124 = .ok (.newarray .int, 2) := by decide +kernel
theorem dX11_init_126 : decode cX11_init 126 = .ok (.putfield 52, 3) := by decide +kernel
theorem dX11_init_129 : decode cX11_init 129 = .ok (.aload_n 0, 1) := by decide +kernel
theorem dX11_init_130 : decode cX11_init 130 = .ok (.bipush 16, 2) := by decide +kernel
theorem dX11_init_132 : decode cX11_init 132 = .ok (.newarray .boolean, 2) := by decide +kernel
theorem dX11_init_134 : decode cX11_init 134 = .ok (.putfield 55, 3) := by decide +kernel
theorem dX11_init_137 : decode cX11_init 137 = .ok (.aload_n 0, 1) := by decide +kernel
theorem dX11_init_138 : decode cX11_init 138 = .ok (.bipush 8, 2) := by decide +kernel
theorem dX11_init_140 : decode cX11_init 140 = .ok (.newarray .int, 2) := by decide +kernel
theorem dX11_init_142 : decode cX11_init 142 = .ok (.putfield 59, 3) := by decide +kernel
theorem dX11_init_145 : decode cX11_init 145 = .ok (.aload_n 0, 1) := by decide +kernel
theorem dX11_init_146 : decode cX11_init 146 = .ok (.bipush 8, 2) := by decide +kernel
theorem dX11_init_148 : decode cX11_init 148 = .ok (.newarray .int, 2) := by decide +kernel
theorem dX11_init_150 : decode cX11_init 150 = .ok (.putfield 62, 3) := by decide +kernel
theorem dX11_init_153 : decode cX11_init 153 = .ok (.aload_n 0, 1) := by decide +kernel
theorem dX11_init_154 : decode cX11_init 154 = .ok (.ldc 65, 2) := by decide +kernel
theorem dX11_init_156 : decode cX11_init 156 = .ok (.newarray .int, 2) := by decide +kernel
theorem dX11_init_158 : decode cX11_init 158 = .ok (.putfield 66, 3) := by decide +kernel
theorem dX11_init_161 : decode cX11_init 161 = .ok (.aload_n 0, 1) := by decide +kernel
theorem dX11_init_162 : decode cX11_init 162 = .ok (.bipush 64, 2) := by decide +kernel
theorem dX11_init_164 : decode cX11_init 164 = .ok (.newarray .int, 2) := by decide +kernel
theorem dX11_init_166 : decode cX11_init 166 = .ok (.putfield 69, 3) := by decide +kernel
theorem dX11_init_169 : decode cX11_init 169 = .ok (.return_, 1) := by decide +kernel
theorem dX11_in_0 : decode cX11_in 0 = .ok (.iload_n 0, 1) := by decide +kernel
theorem dX11_in_1 : decode cX11_in 1 = .ok (.iload_n 1, 1) := by decide +kernel
theorem dX11_in_2 : decode cX11_in 2 = .ok (.if_icmp .lt 12, 3) := by decide +kernel
theorem dX11_in_5 : decode cX11_in 5 = .ok (.iload_n 0, 1) := by decide +kernel
theorem dX11_in_6 : decode cX11_in 6 = .ok (.iload_n 2, 1) := by decide +kernel
theorem dX11_in_7 : decode cX11_in 7 = .ok (.if_icmp .gt 7, 3) := by decide +kernel
theorem dX11_in_10 : decode cX11_in 10 = .ok (.iconst 1, 1) := by decide +kernel
theorem dX11_in_11 : decode cX11_in 11 = .ok (.goto 4, 3) := by decide +kernel
theorem dX11_in_14 : decode cX11_in 14 = .ok (.iconst 0, 1) := by decide +kernel
theorem dX11_in_15 : decode cX11_in 15 = .ok (.ireturn, 1) := by decide +kernel
theorem dX11_isPlace_0 : decode cX11_isPlace 0 = .ok (.iload_n 0, 1) := by decide +kernel
theorem dX11_isPlace_1 : decode cX11_isPlace 1 = .ok (.iconst 0, 1) := by decide +kernel
theorem dX11_isPlace_2 : decode cX11_isPlace 2 = .ok (.bipush 63, 2) := by decide +kernel
theorem dX11_isPlace_4 : decode cX11_isPlace 4 = .ok (.invokestatic 72, 3) := by decide +kernel
theorem dX11_isPlace_7 : decode cX11_isPlace 7 = .ok (.ireturn, 1) := by decide +kernel
theorem dX11_op_0 : decode cX11_op 0 = .ok (.iload_n 1, 1) := by decide +kernel
theorem dX11_op_1 : decode cX11_op 1 = .ok (.invokestatic 76, 3) := by decide +kernel
theorem dX11_op_4 : decode cX11_op 4 = .ok (.ifCond .ne 5, 3) := by decide +kernel
theorem dX11_op_7 : decode cX11_op 7 = .ok (.iconst (-1), 1) := by decide +kernel
theorem dX11_op_8 : decode cX11_op 8 = .ok (.ireturn, 1) := by decide +kernel
theorem dX11_op_9 : decode cX11_op 9 = .ok (.iload_n 2, 1) := by decide +kernel
theorem dX11_op_10 : decode cX11_op 10 = .ok (.iconst 0, 1) := by decide +kernel
theorem dX11_op_11 : decode cX11_op 11 = .ok (.bipush 12, 2) := by decide +kernel
theorem dX11_op_13 : decode cX11_op 13 = .ok (.invokestatic 72, 3) := by decide +kernel
theorem dX11_op_16 : decode cX11_op 16 = .ok (.ifCond .eq 38, 3) := by decide +kernel
theorem dX11_op_19 : decode cX11_op 19 = .ok (.iload_n 3, 1) := by decide +kernel
theorem dX11_op_20 : decode cX11_op 20 = .ok (.iconst 0, 1) := by decide +kernel
theorem dX11_op_21 : decode cX11_op 21 = .ok (.bipush 7, 2) := by decide +kernel
theorem dX11_op_23 : decode cX11_op 23 = .ok (.invokestatic 72, 3) := by decide +kernel
theorem dX11_op_26 : decode cX11_op 26 = .ok (.ifCond .eq 28, 3) := by decide +kernel
theorem dX11_op_29 : decode cX11_op 29 = .ok (.iload 4, 2) := by decide +kernel
theorem dX11_op_31 : decode cX11_op 31 = .ok (.iconst 0, 1) := by decide +kernel
theorem dX11_op_32 : decode cX11_op 32 = .ok (.bipush 7, 2) := by decide +kernel
theorem dX11_op_34 : decode cX11_op 34 = .ok (.invokestatic 72, 3) := by decide +kernel
theorem dX11_op_37 : decode cX11_op 37 = .ok (.ifCond .eq 17, 3) := by decide +kernel
theorem dX11_op_40 : decode cX11_op 40 = .ok (.iload_n 2, 1) := by decide +kernel
theorem dX11_op_41 : decode cX11_op 41 = .ok (.bipush 8, 2) := by decide +kernel
theorem dX11_op_43 : decode cX11_op 43 = .ok (.if_icmp .le 14, 3) := by decide +kernel
theorem dX11_op_46 : decode cX11_op 46 = .ok (.iload 5, 2) := by decide +kernel
theorem dX11_op_48 : decode cX11_op 48 = .ok (.invokestatic 76, 3) := by decide +kernel
theorem dX11_op_51 : decode cX11_op 51 = .ok (.ifCond .ne 6, 3) := by decide +kernel
theorem dX11_op_54 : decode cX11_op 54 = .ok (.bipush (-2), 2) := by decide +kernel
theorem dX11_op_56 : decode cX11_op 56 = .ok (.ireturn, 1) := by decide +kernel
theorem dX11_op_57 : decode cX11_op 57 = .ok (.aload_n 0, 1) := by decide +kernel
theorem dX11_op_58 : decode cX11_op 58 = .ok (.getfield 7, 3) := by decide +kernel
theorem dX11_op_61 : decode cX11_op 61 = .ok (.iload_n 1, 1) := by decide +kernel
theorem dX11_op_62 : decode cX11_op 62 = .ok (.iaload, 1) := by decide +kernel
theorem dX11_op_63 : decode cX11_op 63 = .ok (.istore 6, 2) := by decide +kernel
theorem dX11_op_65 : decode cX11_op 65 = .ok (.aload_n 0, 1) := by decide +kernel
theorem dX11_op_66 : decode cX11_op 66 = .ok (.getfield 7, 3) := by decide +kernel
theorem dX11_op_69 : decode cX11_op 69 = .ok (.iload_n 1, 1) := by decide +kernel
theorem dX11_op_70 : decode cX11_op 70 = .ok (.iload_n 2, 1) := by decide +kernel
theorem dX11_op_71 : decode cX11_op 71 = .ok (.iastore, 1) := by decide +kernel
theorem dX11_op_72 : decode cX11_op 72 = .ok (.aload_n 0, 1) := by decide +kernel
theorem dX11_op_73 : decode cX11_op 73 = .ok (.getfield 13, 3) := by decide +kernel
theorem dX11_op_76 : decode cX11_op 76 = .ok (.iload_n 1, 1) := by decide +kernel
theorem dX11_op_77 : decode cX11_op 77 = .ok (.iload_n 3, 1) := by decide +kernel
theorem dX11_op_78 : decode cX11_op 78 = .ok (.iastore, 1) := by decide +kernel
theorem dX11_op_79 : decode cX11_op 79 = .ok (.aload_n 0, 1) := by decide +kernel
theorem dX11_op_80 : decode cX11_op 80 = .ok (.getfield 16, 3) := by decide +kernel
theorem dX11_op_83 : decode cX11_op 83 = .ok (.iload_n 1, 1) := by decide +kernel
theorem dX11_op_84 : decode cX11_op 84 = .ok (.iload 4, 2) := by decide +kernel
theorem dX11_op_86 : decode cX11_op 86 = .ok (.iastore, 1) := by decide +kernel
theorem dX11_op_87 : decode cX11_op 87 = .ok (.aload_n 0, 1) := by decide +kernel
theorem dX11_op_88 : decode cX11_op 88 = .ok (.getfield 19, 3) := by decide +kernel
theorem dX11_op_91 : decode cX11_op 91 = .ok (.iload_n 1, 1) := by decide +kernel
theorem dX11_op_92 : decode cX11_op 92 = .ok (.iload 5, 2) := by decide +kernel
theorem dX11_op_94 : decode cX11_op 94 = .ok (.iastore, 1) := by decide +kernel
theorem dX11_op_95 : decode cX11_op 95 = .ok (.iload 6, 2) := by decide +kernel
theorem dX11_op_97 : decode cX11_op 97 = .ok (.ireturn, 1) := by decide +kernel
theorem dX11_register_0 : decode cX11_register 0 = .ok (.iload_n 1, 1) := by decide +kernel
theorem dX11_register_1 : decode cX11_register 1 = .ok (.iconst 0, 1) := by decide +kernel
theorem dX11_register_2 : decode cX11_register 2 = .ok (.bipush 7, 2) := by decide +kernel
theorem dX11_register_4 : decode cX11_register 4 = .ok (.invokestatic 72, 3) := by decide +kernel
theorem dX11_register_7 : decode cX11_register 7 = .ok (.ifCond .ne 6, 3) := by decide +kernel
theorem dX11_register_10 : decode cX11_register 10 = .ok (.bipush (-2), 2) := by decide +kernel
theorem dX11_register_12 : decode cX11_register 12 = .ok (.ireturn, 1) := by decide +kernel
theorem dX11_register_13 : decode cX11_register 13 = .ok (.aload_n 0, 1) := by decide +kernel
theorem dX11_register_14 : decode cX11_register 14 = .ok (.getfield 22, 3) := by decide +kernel
theorem dX11_register_17 : decode cX11_register 17 = .ok (.iload_n 1, 1) := by decide +kernel
theorem dX11_register_18 : decode cX11_register 18 = .ok (.iload_n 2, 1) := by decide +kernel
theorem dX11_register_19 : decode cX11_register 19 = .ok (.iastore, 1) := by decide +kernel
theorem dX11_register_20 : decode cX11_register 20 = .ok (.iconst 1, 1) := by decide +kernel
theorem dX11_register_21 : decode cX11_register 21 = .ok (.ireturn, 1) := by decide +kernel
theorem dX11_value_0 : decode cX11_value 0 = .ok (.iload_n 1, 1) := by decide +kernel
theorem dX11_value_1 : decode cX11_value 1 = .ok (.iconst 0, 1) := by decide +kernel
theorem dX11_value_2 : decode cX11_value 2 = .ok (.bipush 7, 2) := by decide +kernel
theorem dX11_value_4 : decode cX11_value 4 = .ok (.invokestatic 72, 3) := by decide +kernel
theorem dX11_value_7 : decode cX11_value 7 = .ok (.ifCond .eq 12, 3) := by decide +kernel
theorem dX11_value_10 : decode cX11_value 10 = .ok (.aload_n 0, 1) := by decide +kernel
theorem dX11_value_11 : decode cX11_value 11 = .ok (.getfield 22, 3) := by decide +kernel
theorem dX11_value_14 : decode cX11_value 14 = .ok (.iload_n 1, 1) := by decide +kernel
theorem dX11_value_15 : decode cX11_value 15 = .ok (.iaload, 1) := by decide +kernel
theorem dX11_value_16 : decode cX11_value 16 = .ok (.goto 4, 3) := by decide +kernel
theorem dX11_value_19 : decode cX11_value 19 = .ok (.iconst 0, 1) := by decide +kernel
theorem dX11_value_20 : decode cX11_value 20 = .ok (.ireturn, 1) := by decide +kernel
theorem dX11_data_0 : decode cX11_data 0 = .ok (.iload_n 1, 1) := by decide +kernel
theorem dX11_data_1 : decode cX11_data 1 = .ok (.iconst 0, 1) := by decide +kernel
theorem dX11_data_2 : decode cX11_data 2 = .ok (.bipush 31, 2) := by decide +kernel
theorem dX11_data_4 : decode cX11_data 4 = .ok (.invokestatic 72, 3) := by decide +kernel
theorem dX11_data_7 : decode cX11_data 7 = .ok (.ifCond .ne 6, 3) := by decide +kernel
theorem dX11_data_10 : decode cX11_data 10 = .ok (.bipush (-2), 2) := by decide +kernel
theorem dX11_data_12 : decode cX11_data 12 = .ok (.ireturn, 1) := by decide +kernel
theorem dX11_data_13 : decode cX11_data 13 = .ok (.aload_n 0, 1) := by decide +kernel
theorem dX11_data_14 : decode cX11_data 14 = .ok (.getfield 25, 3) := by decide +kernel
theorem dX11_data_17 : decode cX11_data 17 = .ok (.iload_n 1, 1) := by decide +kernel
theorem dX11_data_18 : decode cX11_data 18 = .ok (.iload_n 2, 1) := by decide +kernel
theorem dX11_data_19 : decode cX11_data 19 = .ok (.iastore, 1) := by decide +kernel
theorem dX11_data_20 : decode cX11_data 20 = .ok (.iconst 1, 1) := by decide +kernel
theorem dX11_data_21 : decode cX11_data 21 = .ok (.ireturn, 1) := by decide +kernel
theorem dX11_stored_0 : decode cX11_stored 0 = .ok (.iload_n 1, 1) := by decide +kernel
theorem dX11_stored_1 : decode cX11_stored 1 = .ok (.iconst 0, 1) := by decide +kernel
theorem dX11_stored_2 : decode cX11_stored 2 = .ok (.bipush 31, 2) := by decide +kernel
theorem dX11_stored_4 : decode cX11_stored 4 = .ok (.invokestatic 72, 3) := by decide +kernel
theorem dX11_stored_7 : decode cX11_stored 7 = .ok (.ifCond .eq 12, 3) := by decide +kernel
theorem dX11_stored_10 : decode cX11_stored 10 = .ok (.aload_n 0, 1) := by decide +kernel
theorem dX11_stored_11 : decode cX11_stored 11 = .ok (.getfield 25, 3) := by decide +kernel
theorem dX11_stored_14 : decode cX11_stored 14 = .ok (.iload_n 1, 1) := by decide +kernel
theorem dX11_stored_15 : decode cX11_stored 15 = .ok (.iaload, 1) := by decide +kernel
theorem dX11_stored_16 : decode cX11_stored 16 = .ok (.goto 4, 3) := by decide +kernel
theorem dX11_stored_19 : decode cX11_stored 19 = .ok (.iconst 0, 1) := by decide +kernel
theorem dX11_stored_20 : decode cX11_stored 20 = .ok (.ireturn, 1) := by decide +kernel
theorem dX11_stand_0 : decode cX11_stand 0 = .ok (.iload_n 1, 1) := by decide +kernel
theorem dX11_stand_1 : decode cX11_stand 1 = .ok (.invokestatic 76, 3) := by decide +kernel
theorem dX11_stand_4 : decode cX11_stand 4 = .ok (.ifCond .ne 5, 3) := by decide +kernel
theorem dX11_stand_7 : decode cX11_stand 7 = .ok (.iconst (-1), 1) := by decide +kernel
theorem dX11_stand_8 : decode cX11_stand 8 = .ok (.ireturn, 1) := by decide +kernel
theorem dX11_stand_9 : decode cX11_stand 9 = .ok (.aload_n 0, 1) := by decide +kernel
theorem dX11_stand_10 : decode cX11_stand 10 = .ok (.getfield 80, 3) := by decide +kernel
theorem dX11_stand_13 : decode cX11_stand 13 = .ok (.istore_n 2, 1) := by decide +kernel
theorem dX11_stand_14 : decode cX11_stand 14 = .ok (.aload_n 0, 1) := by decide +kernel
theorem dX11_stand_15 : decode cX11_stand 15 = .ok (.iload_n 1, 1) := by decide +kernel
theorem dX11_stand_16 : decode cX11_stand 16 = .ok (.putfield 80, 3) := by decide +kernel
theorem dX11_stand_19 : decode cX11_stand 19 = .ok (.iload_n 2, 1) := by decide +kernel
theorem dX11_stand_20 : decode cX11_stand 20 = .ok (.ireturn, 1) := by decide +kernel
theorem dX11_step_0 : decode cX11_step 0 = .ok (.aload_n 0, 1) := by decide +kernel
theorem dX11_step_1 : decode cX11_step 1 = .ok (.getfield 80, 3) := by decide +kernel
theorem dX11_step_4 : decode cX11_step 4 = .ok (.istore_n 1, 1) := by decide +kernel
theorem dX11_step_5 : decode cX11_step 5 = .ok (.aload_n 0, 1) := by decide +kernel
theorem dX11_step_6 : decode cX11_step 6 = .ok (.getfield 13, 3) := by decide +kernel
theorem dX11_step_9 : decode cX11_step 9 = .ok (.iload_n 1, 1) := by decide +kernel
theorem dX11_step_10 : decode cX11_step 10 = .ok (.iaload, 1) := by decide +kernel
theorem dX11_step_11 : decode cX11_step 11 = .ok (.istore_n 2, 1) := by decide +kernel
theorem dX11_step_12 : decode cX11_step 12 = .ok (.aload_n 0, 1) := by decide +kernel
theorem dX11_step_13 : decode cX11_step 13 = .ok (.getfield 16, 3) := by decide +kernel
theorem dX11_step_16 : decode cX11_step 16 = .ok (.iload_n 1, 1) := by decide +kernel
theorem dX11_step_17 : decode cX11_step 17 = .ok (.iaload, 1) := by decide +kernel
theorem dX11_step_18 : decode cX11_step 18 = .ok (.istore_n 3, 1) := by decide +kernel
theorem dX11_step_19 : decode cX11_step 19 = .ok (.aload_n 0, 1) := by decide +kernel
theorem dX11_step_20 : decode cX11_step 20 = .ok (.getfield 22, 3) := by decide +kernel
theorem dX11_step_23 : decode cX11_step 23 = .ok (.iload_n 2, 1) := by decide +kernel
theorem dX11_step_24 : decode cX11_step 24 = .ok (.iaload, 1) := by decide +kernel
theorem dX11_step_25 : decode cX11_step 25 = .ok (.istore 4, 2) := by decide +kernel
theorem dX11_step_27 : decode cX11_step 27 = .ok (.aload_n 0, 1) := by decide +kernel
theorem dX11_step_28 : decode cX11_step 28 = .ok (.getfield 22, 3) := by decide +kernel
theorem dX11_step_31 : decode cX11_step 31 = .ok (.iload_n 3, 1) := by decide +kernel
theorem dX11_step_32 : decode cX11_step 32 = .ok (.iaload, 1) := by decide +kernel
theorem dX11_step_33 : decode cX11_step 33 = .ok (.istore 5, 2) := by decide +kernel
theorem dX11_step_35 : decode cX11_step 35 = .ok (.iconst 0, 1) := by decide +kernel
theorem dX11_step_36 : decode cX11_step 36 = .ok (.istore 6, 2) := by decide +kernel
theorem dX11_step_38 : decode cX11_step 38 = .ok (.aload_n 0, 1) := by decide +kernel
theorem dX11_step_39 : decode cX11_step 39 = .ok (.getfield 7, 3) := by decide +kernel
theorem dX11_step_42 : decode cX11_step 42 = .ok (.iload_n 1, 1) := by decide +kernel
theorem dX11_step_43 : decode cX11_step 43 = .ok (.iaload, 1) := by decide +kernel
theorem dX11_step_44 : decode cX11_step 44 = .ok (.tableswitch 227 1 11 #[60, 75, 89, 103, 117, 131, 144, 163, 178, 195, 212], 60) := by decide +kernel
theorem dX11_step_104 : decode cX11_step 104 = .ok (.aload_n 0, 1) := by decide +kernel
theorem dX11_step_105 : decode cX11_step 105 = .ok (.getfield 22, 3) := by decide +kernel
theorem dX11_step_108 : decode cX11_step 108 = .ok (.iload_n 2, 1) := by decide +kernel
theorem dX11_step_109 : decode cX11_step 109 = .ok (.aload_n 0, 1) := by decide +kernel
theorem dX11_step_110 : decode cX11_step 110 = .ok (.getfield 19, 3) := by decide +kernel
theorem dX11_step_113 : decode cX11_step 113 = .ok (.iload_n 1, 1) := by decide +kernel
theorem dX11_step_114 : decode cX11_step 114 = .ok (.iaload, 1) := by decide +kernel
theorem dX11_step_115 : decode cX11_step 115 = .ok (.iastore, 1) := by decide +kernel
theorem dX11_step_116 : decode cX11_step 116 = .ok (.goto 158, 3) := by decide +kernel
theorem dX11_step_119 : decode cX11_step 119 = .ok (.aload_n 0, 1) := by decide +kernel
theorem dX11_step_120 : decode cX11_step 120 = .ok (.getfield 22, 3) := by decide +kernel
theorem dX11_step_123 : decode cX11_step 123 = .ok (.iload_n 2, 1) := by decide +kernel
theorem dX11_step_124 : decode cX11_step 124 = .ok (.iload 4, 2) := by decide +kernel
theorem dX11_step_126 : decode cX11_step 126 = .ok (.iload 5, 2) := by decide +kernel
theorem dX11_step_128 : decode cX11_step 128 = .ok (.iadd, 1) := by decide +kernel
theorem dX11_step_129 : decode cX11_step 129 = .ok (.iastore, 1) := by decide +kernel
theorem dX11_step_130 : decode cX11_step 130 = .ok (.goto 144, 3) := by decide +kernel
theorem dX11_step_133 : decode cX11_step 133 = .ok (.aload_n 0, 1) := by decide +kernel
theorem dX11_step_134 : decode cX11_step 134 = .ok (.getfield 22, 3) := by decide +kernel
theorem dX11_step_137 : decode cX11_step 137 = .ok (.iload_n 2, 1) := by decide +kernel
theorem dX11_step_138 : decode cX11_step 138 = .ok (.iload 4, 2) := by decide +kernel
theorem dX11_step_140 : decode cX11_step 140 = .ok (.iload 5, 2) := by decide +kernel
theorem dX11_step_142 : decode cX11_step 142 = .ok (.isub, 1) := by decide +kernel
theorem dX11_step_143 : decode cX11_step 143 = .ok (.iastore, 1) := by decide +kernel
theorem dX11_step_144 : decode cX11_step 144 = .ok (.goto 130, 3) := by decide +kernel
theorem dX11_step_147 : decode cX11_step 147 = .ok (.aload_n 0, 1) := by decide +kernel
theorem dX11_step_148 : decode cX11_step 148 = .ok (.getfield 22, 3) := by decide +kernel
theorem dX11_step_151 : decode cX11_step 151 = .ok (.iload_n 2, 1) := by decide +kernel
theorem dX11_step_152 : decode cX11_step 152 = .ok (.iload 4, 2) := by decide +kernel
theorem dX11_step_154 : decode cX11_step 154 = .ok (.iload 5, 2) := by decide +kernel
theorem dX11_step_156 : decode cX11_step 156 = .ok (.imul, 1) := by decide +kernel
theorem dX11_step_157 : decode cX11_step 157 = .ok (.iastore, 1) := by decide +kernel
theorem dX11_step_158 : decode cX11_step 158 = .ok (.goto 116, 3) := by decide +kernel
theorem dX11_step_161 : decode cX11_step 161 = .ok (.aload_n 0, 1) := by decide +kernel
theorem dX11_step_162 : decode cX11_step 162 = .ok (.getfield 22, 3) := by decide +kernel
theorem dX11_step_165 : decode cX11_step 165 = .ok (.iload_n 2, 1) := by decide +kernel
theorem dX11_step_166 : decode cX11_step 166 = .ok (.iload 4, 2) := by decide +kernel
theorem dX11_step_168 : decode cX11_step 168 = .ok (.iload 5, 2) := by decide +kernel
theorem dX11_step_170 : decode cX11_step 170 = .ok (.iand, 1) := by decide +kernel
theorem dX11_step_171 : decode cX11_step 171 = .ok (.iastore, 1) := by decide +kernel
theorem dX11_step_172 : decode cX11_step 172 = .ok (.goto 102, 3) := by decide +kernel
theorem dX11_step_175 : decode cX11_step 175 = .ok (.aload_n 0, 1) := by decide +kernel
theorem dX11_step_176 : decode cX11_step 176 = .ok (.getfield 22, 3) := by decide +kernel
theorem dX11_step_179 : decode cX11_step 179 = .ok (.iload_n 2, 1) := by decide +kernel
theorem dX11_step_180 : decode cX11_step 180 = .ok (.iload 4, 2) := by decide +kernel
theorem dX11_step_182 : decode cX11_step 182 = .ok (.iconst 1, 1) := by decide +kernel
theorem dX11_step_183 : decode cX11_step 183 = .ok (.iushr, 1) := by decide +kernel
theorem dX11_step_184 : decode cX11_step 184 = .ok (.iastore, 1) := by decide +kernel
theorem dX11_step_185 : decode cX11_step 185 = .ok (.goto 89, 3) := by decide +kernel
theorem dX11_step_188 : decode cX11_step 188 = .ok (.aload_n 0, 1) := by decide +kernel
theorem dX11_step_189 : decode cX11_step 189 = .ok (.getfield 22, 3) := by decide +kernel
theorem dX11_step_192 : decode cX11_step 192 = .ok (.iload_n 2, 1) := by decide +kernel
theorem dX11_step_193 : decode cX11_step 193 = .ok (.aload_n 0, 1) := by decide +kernel
theorem dX11_step_194 : decode cX11_step 194 = .ok (.getfield 25, 3) := by decide +kernel
theorem dX11_step_197 : decode cX11_step 197 = .ok (.iload 5, 2) := by decide +kernel
theorem dX11_step_199 : decode cX11_step 199 = .ok (.bipush 31, 2) := by decide +kernel
theorem dX11_step_201 : decode cX11_step 201 = .ok (.iand, 1) := by decide +kernel
theorem dX11_step_202 : decode cX11_step 202 = .ok (.iaload, 1) := by decide +kernel
theorem dX11_step_203 : decode cX11_step 203 = .ok (.iastore, 1) := by decide +kernel
theorem dX11_step_204 : decode cX11_step 204 = .ok (.goto 70, 3) := by decide +kernel
theorem dX11_step_207 : decode cX11_step 207 = .ok (.aload_n 0, 1) := by decide +kernel
theorem dX11_step_208 : decode cX11_step 208 = .ok (.getfield 25, 3) := by decide +kernel
theorem dX11_step_211 : decode cX11_step 211 = .ok (.iload 5, 2) := by decide +kernel
theorem dX11_step_213 : decode cX11_step 213 = .ok (.bipush 31, 2) := by decide +kernel
theorem dX11_step_215 : decode cX11_step 215 = .ok (.iand, 1) := by decide +kernel
theorem dX11_step_216 : decode cX11_step 216 = .ok (.iload 4, 2) := by decide +kernel
theorem dX11_step_218 : decode cX11_step 218 = .ok (.iastore, 1) := by decide +kernel
theorem dX11_step_219 : decode cX11_step 219 = .ok (.goto 55, 3) := by decide +kernel
theorem dX11_step_222 : decode cX11_step 222 = .ok (.iload 4, 2) := by decide +kernel
theorem dX11_step_224 : decode cX11_step 224 = .ok (.iload 5, 2) := by decide +kernel
theorem dX11_step_226 : decode cX11_step 226 = .ok (.if_icmp .ge 7, 3) := by decide +kernel
theorem dX11_step_229 : decode cX11_step 229 = .ok (.iconst 1, 1) := by decide +kernel
theorem dX11_step_230 : decode cX11_step 230 = .ok (.goto 4, 3) := by decide +kernel
theorem dX11_step_233 : decode cX11_step 233 = .ok (.iconst 0, 1) := by decide +kernel
theorem dX11_step_234 : decode cX11_step 234 = .ok (.istore 6, 2) := by decide +kernel
theorem dX11_step_236 : decode cX11_step 236 = .ok (.goto 38, 3) := by decide +kernel
theorem dX11_step_239 : decode cX11_step 239 = .ok (.iload 4, 2) := by decide +kernel
theorem dX11_step_241 : decode cX11_step 241 = .ok (.iload 5, 2) := by decide +kernel
theorem dX11_step_243 : decode cX11_step 243 = .ok (.if_icmp .ne 7, 3) := by decide +kernel
theorem dX11_step_246 : decode cX11_step 246 = .ok (.iconst 1, 1) := by decide +kernel
theorem dX11_step_247 : decode cX11_step 247 = .ok (.goto 4, 3) := by decide +kernel
theorem dX11_step_250 : decode cX11_step 250 = .ok (.iconst 0, 1) := by decide +kernel
theorem dX11_step_251 : decode cX11_step 251 = .ok (.istore 6, 2) := by decide +kernel
theorem dX11_step_253 : decode cX11_step 253 = .ok (.goto 21, 3) := by decide +kernel
theorem dX11_step_256 : decode cX11_step 256 = .ok (.iload 4, 2) := by decide +kernel
theorem dX11_step_258 : decode cX11_step 258 = .ok (.ifCond .eq 7, 3) := by decide +kernel
theorem dX11_step_261 : decode cX11_step 261 = .ok (.iconst 1, 1) := by decide +kernel
theorem dX11_step_262 : decode cX11_step 262 = .ok (.goto 4, 3) := by decide +kernel
theorem dX11_step_265 : decode cX11_step 265 = .ok (.iconst 0, 1) := by decide +kernel
theorem dX11_step_266 : decode cX11_step 266 = .ok (.istore 6, 2) := by decide +kernel
theorem dX11_step_268 : decode cX11_step 268 = .ok (.goto 6, 3) := by decide +kernel
theorem dX11_step_271 : decode cX11_step 271 = .ok (.iconst 1, 1) := by decide +kernel
theorem dX11_step_272 : decode cX11_step 272 = .ok (.istore 6, 2) := by decide +kernel
theorem dX11_step_274 : decode cX11_step 274 = .ok (.aload_n 0, 1) := by decide +kernel
theorem dX11_step_275 : decode cX11_step 275 = .ok (.getfield 7, 3) := by decide +kernel
theorem dX11_step_278 : decode cX11_step 278 = .ok (.iload_n 1, 1) := by decide +kernel
theorem dX11_step_279 : decode cX11_step 279 = .ok (.iaload, 1) := by decide +kernel
theorem dX11_step_280 : decode cX11_step 280 = .ok (.bipush 9, 2) := by decide +kernel
theorem dX11_step_282 : decode cX11_step 282 = .ok (.bipush 11, 2) := by decide +kernel
theorem dX11_step_284 : decode cX11_step 284 = .ok (.invokestatic 72, 3) := by decide +kernel
theorem dX11_step_287 : decode cX11_step 287 = .ok (.ifCond .eq 18, 3) := by decide +kernel
theorem dX11_step_290 : decode cX11_step 290 = .ok (.aload_n 0, 1) := by decide +kernel
theorem dX11_step_291 : decode cX11_step 291 = .ok (.iload_n 1, 1) := by decide +kernel
theorem dX11_step_292 : decode cX11_step 292 = .ok (.iload 6, 2) := by decide +kernel
theorem dX11_step_294 : decode cX11_step 294 = .ok (.ifCond .eq 7, 3) := by decide +kernel
theorem dX11_step_297 : decode cX11_step 297 = .ok (.iconst 1, 1) := by decide +kernel
theorem dX11_step_298 : decode cX11_step 298 = .ok (.goto 4, 3) := by decide +kernel
theorem dX11_step_301 : decode cX11_step 301 = .ok (.iconst 0, 1) := by decide +kernel
theorem dX11_step_302 : decode cX11_step 302 = .ok (.invokevirtual 84, 3) := by decide +kernel
theorem dX11_step_305 : decode cX11_step 305 = .ok (.aload_n 0, 1) := by decide +kernel
theorem dX11_step_306 : decode cX11_step 306 = .ok (.iload 6, 2) := by decide +kernel
theorem dX11_step_308 : decode cX11_step 308 = .ok (.ifCond .eq 12, 3) := by decide +kernel
theorem dX11_step_311 : decode cX11_step 311 = .ok (.aload_n 0, 1) := by decide +kernel
theorem dX11_step_312 : decode cX11_step 312 = .ok (.getfield 19, 3) := by decide +kernel
theorem dX11_step_315 : decode cX11_step 315 = .ok (.iload_n 1, 1) := by decide +kernel
theorem dX11_step_316 : decode cX11_step 316 = .ok (.iaload, 1) := by decide +kernel
theorem dX11_step_317 : decode cX11_step 317 = .ok (.goto 9, 3) := by decide +kernel
theorem dX11_step_320 : decode cX11_step 320 = .ok (.iload_n 1, 1) := by decide +kernel
theorem dX11_step_321 : decode cX11_step 321 = .ok (.iconst 1, 1) := by decide +kernel
theorem dX11_step_322 : decode cX11_step 322 = .ok (.iadd, 1) := by decide +kernel
theorem dX11_step_323 : decode cX11_step 323 = .ok (.bipush 63, 2) := by decide +kernel
theorem dX11_step_325 : decode cX11_step 325 = .ok (.iand, 1) := by decide +kernel
theorem dX11_step_326 : decode cX11_step 326 = .ok (.putfield 80, 3) := by decide +kernel
theorem dX11_step_329 : decode cX11_step 329 = .ok (.aload_n 0, 1) := by decide +kernel
theorem dX11_step_330 : decode cX11_step 330 = .ok (.dup, 1) := by decide +kernel
theorem dX11_step_331 : decode cX11_step 331 = .ok (.getfield 88, 3) := by decide +kernel
theorem dX11_step_334 : decode cX11_step 334 = .ok (.iconst 1, 1) := by decide +kernel
theorem dX11_step_335 : decode cX11_step 335 = .ok (.iadd, 1) := by decide +kernel
theorem dX11_step_336 : decode cX11_step 336 = .ok (.putfield 88, 3) := by decide +kernel
theorem dX11_step_339 : decode cX11_step 339 = .ok (.return_, 1) := by decide +kernel
theorem dX11_run_0 : decode cX11_run 0 = .ok (.iload_n 1, 1) := by decide +kernel
theorem dX11_run_1 : decode cX11_run 1 = .ok (.iconst 0, 1) := by decide +kernel
theorem dX11_run_2 : decode cX11_run 2 = .ok (.sipush 2000, 3) := by decide +kernel
theorem dX11_run_5 : decode cX11_run 5 = .ok (.invokestatic 72, 3) := by decide +kernel
theorem dX11_run_8 : decode cX11_run 8 = .ok (.ifCond .ne 6, 3) := by decide +kernel
theorem dX11_run_11 : decode cX11_run 11 = .ok (.bipush (-2), 2) := by decide +kernel
theorem dX11_run_13 : decode cX11_run 13 = .ok (.ireturn, 1) := by decide +kernel
theorem dX11_run_14 : decode cX11_run 14 = .ok (.iconst 0, 1) := by decide +kernel
theorem dX11_run_15 : decode cX11_run 15 = .ok (.istore_n 2, 1) := by decide +kernel
theorem dX11_run_16 : decode cX11_run 16 = .ok (.iload_n 2, 1) := by decide +kernel
theorem dX11_run_17 : decode cX11_run 17 = .ok (.iload_n 1, 1) := by decide +kernel
theorem dX11_run_18 : decode cX11_run 18 = .ok (.if_icmp .ge 25, 3) := by decide +kernel
theorem dX11_run_21 : decode cX11_run 21 = .ok (.aload_n 0, 1) := by decide +kernel
theorem dX11_run_22 : decode cX11_run 22 = .ok (.getfield 7, 3) := by decide +kernel
theorem dX11_run_25 : decode cX11_run 25 = .ok (.aload_n 0, 1) := by decide +kernel
theorem dX11_run_26 : decode cX11_run 26 = .ok (.getfield 80, 3) := by decide +kernel
theorem dX11_run_29 : decode cX11_run 29 = .ok (.iaload, 1) := by decide +kernel
theorem dX11_run_30 : decode cX11_run 30 = .ok (.ifCond .eq 13, 3) := by decide +kernel
theorem dX11_run_33 : decode cX11_run 33 = .ok (.aload_n 0, 1) := by decide +kernel
theorem dX11_run_34 : decode cX11_run 34 = .ok (.invokevirtual 91, 3) := by decide +kernel
theorem dX11_run_37 : decode cX11_run 37 = .ok (.iinc 2 1, 3) := by decide +kernel
theorem dX11_run_40 : decode cX11_run 40 = .ok (.goto (-24), 3) := by decide +kernel
theorem dX11_run_43 : decode cX11_run 43 = .ok (.iload_n 2, 1) := by decide +kernel
theorem dX11_run_44 : decode cX11_run 44 = .ok (.ireturn, 1) := by decide +kernel
theorem dX11_comes_0 : decode cX11_comes 0 = .ok (.iconst 0, 1) := by decide +kernel
theorem dX11_comes_1 : decode cX11_comes 1 = .ok (.istore_n 3, 1) := by decide +kernel
theorem dX11_comes_2 : decode cX11_comes 2 = .ok (.iload_n 3, 1) := by decide +kernel
theorem dX11_comes_3 : decode cX11_comes 3 = .ok (.aload_n 0, 1) := by decide +kernel
theorem dX11_comes_4 : decode cX11_comes 4 = .ok (.getfield 94, 3) := by decide +kernel
theorem dX11_comes_7 : decode cX11_comes 7 = .ok (.if_icmp .ge 16, 3) := by decide +kernel
theorem dX11_comes_10 : decode cX11_comes 10 = .ok (.aload_n 0, 1) := by decide +kernel
theorem dX11_comes_11 : decode cX11_comes 11 = .ok (.iload_n 3, 1) := by decide +kernel
theorem dX11_comes_12 : decode cX11_comes 12 = .ok (.iload_n 1, 1) := by decide +kernel
theorem dX11_comes_13 : decode cX11_comes 13 = .ok (.iload_n 2, 1) := by decide +kernel
theorem dX11_comes_14 : decode cX11_comes 14 = .ok (.invokevirtual 97, 3) := by decide +kernel
theorem dX11_comes_17 : decode cX11_comes 17 = .ok (.iinc 3 1, 3) := by decide +kernel
theorem dX11_comes_20 : decode cX11_comes 20 = .ok (.goto (-18), 3) := by decide +kernel
theorem dX11_comes_23 : decode cX11_comes 23 = .ok (.aload_n 0, 1) := by decide +kernel
theorem dX11_comes_24 : decode cX11_comes 24 = .ok (.getfield 101, 3) := by decide +kernel
theorem dX11_comes_27 : decode cX11_comes 27 = .ok (.sipush 3000, 3) := by decide +kernel
theorem dX11_comes_30 : decode cX11_comes 30 = .ok (.if_icmp .ge 33, 3) := by decide +kernel
theorem dX11_comes_33 : decode cX11_comes 33 = .ok (.aload_n 0, 1) := by decide +kernel
theorem dX11_comes_34 : decode cX11_comes 34 = .ok (.getfield 28, 3) := by decide +kernel
theorem dX11_comes_37 : decode cX11_comes 37 = .ok (.aload_n 0, 1) := by decide +kernel
theorem dX11_comes_38 : decode cX11_comes 38 = .ok (.getfield 101, 3) := by decide +kernel
theorem dX11_comes_41 : decode cX11_comes 41 = .ok (.iload_n 1, 1) := by decide +kernel
theorem dX11_comes_42 : decode cX11_comes 42 = .ok (.iastore, 1) := by decide +kernel
theorem dX11_comes_43 : decode cX11_comes 43 = .ok (.aload_n 0, 1) := by decide +kernel
theorem dX11_comes_44 : decode cX11_comes 44 = .ok (.getfield 31, 3) := by decide +kernel
theorem dX11_comes_47 : decode cX11_comes 47 = .ok (.aload_n 0, 1) := by decide +kernel
theorem dX11_comes_48 : decode cX11_comes 48 = .ok (.getfield 101, 3) := by decide +kernel
theorem dX11_comes_51 : decode cX11_comes 51 = .ok (.iload_n 2, 1) := by decide +kernel
theorem dX11_comes_52 : decode cX11_comes 52 = .ok (.iastore, 1) := by decide +kernel
theorem dX11_comes_53 : decode cX11_comes 53 = .ok (.aload_n 0, 1) := by decide +kernel
theorem dX11_comes_54 : decode cX11_comes 54 = .ok (.dup, 1) := by decide +kernel
theorem dX11_comes_55 : decode cX11_comes 55 = .ok (.getfield 101, 3) := by decide +kernel
theorem dX11_comes_58 : decode cX11_comes 58 = .ok (.iconst 1, 1) := by decide +kernel
theorem dX11_comes_59 : decode cX11_comes 59 = .ok (.iadd, 1) := by decide +kernel
theorem dX11_comes_60 : decode cX11_comes 60 = .ok (.putfield 101, 3) := by decide +kernel
theorem dX11_comes_63 : decode cX11_comes 63 = .ok (.aload_n 0, 1) := by decide +kernel
theorem dX11_comes_64 : decode cX11_comes 64 = .ok (.dup, 1) := by decide +kernel
theorem dX11_comes_65 : decode cX11_comes 65 = .ok (.getfield 104, 3) := by decide +kernel
theorem dX11_comes_68 : decode cX11_comes 68 = .ok (.iconst 1, 1) := by decide +kernel
theorem dX11_comes_69 : decode cX11_comes 69 = .ok (.iadd, 1) := by decide +kernel
theorem dX11_comes_70 : decode cX11_comes 70 = .ok (.putfield 104, 3) := by decide +kernel
theorem dX11_comes_73 : decode cX11_comes 73 = .ok (.return_, 1) := by decide +kernel
theorem dX11_branch_0 : decode cX11_branch 0 = .ok (.iload_n 1, 1) := by decide +kernel
theorem dX11_branch_1 : decode cX11_branch 1 = .ok (.invokestatic 76, 3) := by decide +kernel
theorem dX11_branch_4 : decode cX11_branch 4 = .ok (.ifCond .ne 5, 3) := by decide +kernel
theorem dX11_branch_7 : decode cX11_branch 7 = .ok (.iconst (-1), 1) := by decide +kernel
theorem dX11_branch_8 : decode cX11_branch 8 = .ok (.ireturn, 1) := by decide +kernel
theorem dX11_branch_9 : decode cX11_branch 9 = .ok (.iload_n 2, 1) := by decide +kernel
theorem dX11_branch_10 : decode cX11_branch 10 = .ok (.iconst 0, 1) := by decide +kernel
theorem dX11_branch_11 : decode cX11_branch 11 = .ok (.iconst 1, 1) := by decide +kernel
theorem dX11_branch_12 : decode cX11_branch 12 = .ok (.invokestatic 72, 3) := by decide +kernel
theorem dX11_branch_15 : decode cX11_branch 15 = .ok (.ifCond .ne 6, 3) := by decide +kernel
theorem dX11_branch_18 : decode cX11_branch 18 = .ok (.bipush (-2), 2) := by decide +kernel
theorem dX11_branch_20 : decode cX11_branch 20 = .ok (.ireturn, 1) := by decide +kernel
theorem dX11_branch_21 : decode cX11_branch 21 = .ok (.aload_n 0, 1) := by decide +kernel
theorem dX11_branch_22 : decode cX11_branch 22 = .ok (.iload_n 1, 1) := by decide +kernel
theorem dX11_branch_23 : decode cX11_branch 23 = .ok (.iload_n 2, 1) := by decide +kernel
theorem dX11_branch_24 : decode cX11_branch 24 = .ok (.invokevirtual 84, 3) := by decide +kernel
theorem dX11_branch_27 : decode cX11_branch 27 = .ok (.aload_n 0, 1) := by decide +kernel
theorem dX11_branch_28 : decode cX11_branch 28 = .ok (.getfield 104, 3) := by decide +kernel
theorem dX11_branch_31 : decode cX11_branch 31 = .ok (.ireturn, 1) := by decide +kernel
theorem dX11_at_0 : decode cX11_at 0 = .ok (.iload_n 1, 1) := by decide +kernel
theorem dX11_at_1 : decode cX11_at 1 = .ok (.iconst 0, 1) := by decide +kernel
theorem dX11_at_2 : decode cX11_at 2 = .ok (.aload_n 0, 1) := by decide +kernel
theorem dX11_at_3 : decode cX11_at 3 = .ok (.getfield 101, 3) := by decide +kernel
theorem dX11_at_6 : decode cX11_at 6 = .ok (.iconst 1, 1) := by decide +kernel
theorem dX11_at_7 : decode cX11_at 7 = .ok (.isub, 1) := by decide +kernel
theorem dX11_at_8 : decode cX11_at 8 = .ok (.invokestatic 72, 3) := by decide +kernel
theorem dX11_at_11 : decode cX11_at 11 = .ok (.ifCond .ne 5, 3) := by decide +kernel
theorem dX11_at_14 : decode cX11_at 14 = .ok (.iconst (-1), 1) := by decide +kernel
theorem dX11_at_15 : decode cX11_at 15 = .ok (.ireturn, 1) := by decide +kernel
theorem dX11_at_16 : decode cX11_at 16 = .ok (.iload_n 2, 1) := by decide +kernel
theorem dX11_at_17 : decode cX11_at 17 = .ok (.ifCond .ne 12, 3) := by decide +kernel
theorem dX11_at_20 : decode cX11_at 20 = .ok (.aload_n 0, 1) := by decide +kernel
theorem dX11_at_21 : decode cX11_at 21 = .ok (.getfield 28, 3) := by decide +kernel
theorem dX11_at_24 : decode cX11_at 24 = .ok (.iload_n 1, 1) := by decide +kernel
theorem dX11_at_25 : decode cX11_at 25 = .ok (.iaload, 1) := by decide +kernel
theorem dX11_at_26 : decode cX11_at 26 = .ok (.goto 19, 3) := by decide +kernel
theorem dX11_at_29 : decode cX11_at 29 = .ok (.iload_n 2, 1) := by decide +kernel
theorem dX11_at_30 : decode cX11_at 30 = .ok (.iconst 1, 1) := by decide +kernel
theorem dX11_at_31 : decode cX11_at 31 = .ok (.if_icmp .ne 12, 3) := by decide +kernel
theorem dX11_at_34 : decode cX11_at 34 = .ok (.aload_n 0, 1) := by decide +kernel
theorem dX11_at_35 : decode cX11_at 35 = .ok (.getfield 31, 3) := by decide +kernel
theorem dX11_at_38 : decode cX11_at 38 = .ok (.iload_n 1, 1) := by decide +kernel
theorem dX11_at_39 : decode cX11_at 39 = .ok (.iaload, 1) := by decide +kernel
theorem dX11_at_40 : decode cX11_at 40 = .ok (.goto 5, 3) := by decide +kernel
theorem dX11_at_43 : decode cX11_at 43 = .ok (.bipush (-2), 2) := by decide +kernel
theorem dX11_at_45 : decode cX11_at 45 = .ok (.ireturn, 1) := by decide +kernel
theorem dX11_isGuesser_0 : decode cX11_isGuesser 0 = .ok (.iload_n 1, 1) := by decide +kernel
theorem dX11_isGuesser_1 : decode cX11_isGuesser 1 = .ok (.iconst 0, 1) := by decide +kernel
theorem dX11_isGuesser_2 : decode cX11_isGuesser 2 = .ok (.aload_n 0, 1) := by decide +kernel
theorem dX11_isGuesser_3 : decode cX11_isGuesser 3 = .ok (.getfield 94, 3) := by decide +kernel
theorem dX11_isGuesser_6 : decode cX11_isGuesser 6 = .ok (.iconst 1, 1) := by decide +kernel
theorem dX11_isGuesser_7 : decode cX11_isGuesser 7 = .ok (.isub, 1) := by decide +kernel
theorem dX11_isGuesser_8 : decode cX11_isGuesser 8 = .ok (.invokestatic 72, 3) := by decide +kernel
theorem dX11_isGuesser_11 : decode cX11_isGuesser 11 = .ok (.ireturn, 1) := by decide +kernel
theorem dX11_fits_0 : decode cX11_fits 0 = .ok (.iload_n 0, 1) := by decide +kernel
theorem dX11_fits_1 : decode cX11_fits 1 = .ok (.tableswitch 198 0 7 #[47, 54, 62, 88, 123, 148, 183, 190], 47) := by decide +kernel
theorem dX11_fits_48 : decode cX11_fits 48 = .ok (.iload_n 1, 1) := by decide +kernel
theorem dX11_fits_49 : decode cX11_fits 49 = .ok (.iconst 0, 1) := by decide +kernel
theorem dX11_fits_50 : decode cX11_fits 50 = .ok (.iconst 2, 1) := by decide +kernel
theorem dX11_fits_51 : decode cX11_fits 51 = .ok (.invokestatic 72, 3) := by decide +kernel
theorem dX11_fits_54 : decode cX11_fits 54 = .ok (.ireturn, 1) := by decide +kernel
theorem dX11_fits_55 : decode cX11_fits 55 = .ok (.iload_n 1, 1) := by decide +kernel
theorem dX11_fits_56 : decode cX11_fits 56 = .ok (.iconst 0, 1) := by decide +kernel
theorem dX11_fits_57 : decode cX11_fits 57 = .ok (.bipush 6, 2) := by decide +kernel
theorem dX11_fits_59 : decode cX11_fits 59 = .ok (.invokestatic 72, 3) := by decide +kernel
theorem dX11_fits_62 : decode cX11_fits 62 = .ok (.ireturn, 1) := by decide +kernel
theorem dX11_fits_63 : decode cX11_fits 63 = .ok (.iload_n 1, 1) := by decide +kernel
theorem dX11_fits_64 : decode cX11_fits 64 = .ok (.iconst 0, 1) := by decide +kernel
theorem dX11_fits_65 : decode cX11_fits 65 = .ok (.bipush 8, 2) := by decide +kernel
theorem dX11_fits_67 : decode cX11_fits 67 = .ok (.invokestatic 72, 3) := by decide +kernel
theorem dX11_fits_70 : decode cX11_fits 70 = .ok (.ifCond .eq 17, 3) := by decide +kernel
theorem dX11_fits_73 : decode cX11_fits 73 = .ok (.iload_n 2, 1) := by decide +kernel
theorem dX11_fits_74 : decode cX11_fits 74 = .ok (.iconst 0, 1) := by decide +kernel
theorem dX11_fits_75 : decode cX11_fits 75 = .ok (.bipush 8, 2) := by decide +kernel
theorem dX11_fits_77 : decode cX11_fits 77 = .ok (.invokestatic 72, 3) := by decide +kernel
theorem dX11_fits_80 : decode cX11_fits 80 = .ok (.ifCond .eq 7, 3) := by decide +kernel
theorem dX11_fits_83 : decode cX11_fits 83 = .ok (.iconst 1, 1) := by decide +kernel
theorem dX11_fits_84 : decode cX11_fits 84 = .ok (.goto 4, 3) := by decide +kernel
theorem dX11_fits_87 : decode cX11_fits 87 = .ok (.iconst 0, 1) := by decide +kernel
theorem dX11_fits_88 : decode cX11_fits 88 = .ok (.ireturn, 1) := by decide +kernel
theorem dX11_fits_89 : decode cX11_fits 89 = .ok (.iload_n 1, 1) := by decide +kernel
theorem dX11_fits_90 : decode cX11_fits 90 = .ok (.iconst 0, 1) := by decide +kernel
theorem dX11_fits_91 : decode cX11_fits 91 = .ok (.bipush 8, 2) := by decide +kernel
theorem dX11_fits_93 : decode cX11_fits 93 = .ok (.invokestatic 72, 3) := by decide +kernel
theorem dX11_fits_96 : decode cX11_fits 96 = .ok (.ifCond .eq 26, 3) := by decide +kernel
theorem dX11_fits_99 : decode cX11_fits 99 = .ok (.iload_n 2, 1) := by decide +kernel
theorem dX11_fits_100 : decode cX11_fits 100 = .ok (.iconst 0, 1) := by decide +kernel
theorem dX11_fits_101 : decode cX11_fits 101 = .ok (.bipush 8, 2) := by decide +kernel
theorem dX11_fits_103 : decode cX11_fits 103 = .ok (.invokestatic 72, 3) := by decide +kernel
theorem dX11_fits_106 : decode cX11_fits 106 = .ok (.ifCond .eq 16, 3) := by decide +kernel
theorem dX11_fits_109 : decode cX11_fits 109 = .ok (.iload_n 3, 1) := by decide +kernel
theorem dX11_fits_110 : decode cX11_fits 110 = .ok (.iconst 0, 1) := by decide +kernel
theorem dX11_fits_111 : decode cX11_fits 111 = .ok (.iconst 1, 1) := by decide +kernel
theorem dX11_fits_112 : decode cX11_fits 112 = .ok (.invokestatic 72, 3) := by decide +kernel
theorem dX11_fits_115 : decode cX11_fits 115 = .ok (.ifCond .eq 7, 3) := by decide +kernel
theorem dX11_fits_118 : decode cX11_fits 118 = .ok (.iconst 1, 1) := by decide +kernel
theorem dX11_fits_119 : decode cX11_fits 119 = .ok (.goto 4, 3) := by decide +kernel
theorem dX11_fits_122 : decode cX11_fits 122 = .ok (.iconst 0, 1) := by decide +kernel
theorem dX11_fits_123 : decode cX11_fits 123 = .ok (.ireturn, 1) := by decide +kernel
theorem dX11_fits_124 : decode cX11_fits 124 = .ok (.iload_n 1, 1) := by decide +kernel
theorem dX11_fits_125 : decode cX11_fits 125 = .ok (.iconst 1, 1) := by decide +kernel
theorem dX11_fits_126 : decode cX11_fits 126 = .ok (.bipush 7, 2) := by decide +kernel
theorem dX11_fits_128 : decode cX11_fits 128 = .ok (.invokestatic 72, 3) := by decide +kernel
theorem dX11_fits_131 : decode cX11_fits 131 = .ok (.ifCond .eq 16, 3) := by decide +kernel
theorem dX11_fits_134 : decode cX11_fits 134 = .ok (.iload_n 2, 1) := by decide +kernel
theorem dX11_fits_135 : decode cX11_fits 135 = .ok (.iconst 1, 1) := by decide +kernel
theorem dX11_fits_136 : decode cX11_fits 136 = .ok (.iconst 4, 1) := by decide +kernel
theorem dX11_fits_137 : decode cX11_fits 137 = .ok (.invokestatic 72, 3) := by decide +kernel
theorem dX11_fits_140 : decode cX11_fits 140 = .ok (.ifCond .eq 7, 3) := by decide +kernel
theorem dX11_fits_143 : decode cX11_fits 143 = .ok (.iconst 1, 1) := by decide +kernel
theorem dX11_fits_144 : decode cX11_fits 144 = .ok (.goto 4, 3) := by decide +kernel
theorem dX11_fits_147 : decode cX11_fits 147 = .ok (.iconst 0, 1) := by decide +kernel
theorem dX11_fits_148 : decode cX11_fits 148 = .ok (.ireturn, 1) := by decide +kernel
theorem dX11_fits_149 : decode cX11_fits 149 = .ok (.iload_n 1, 1) := by decide +kernel
theorem dX11_fits_150 : decode cX11_fits 150 = .ok (.iconst 0, 1) := by decide +kernel
theorem dX11_fits_151 : decode cX11_fits 151 = .ok (.iconst 4, 1) := by decide +kernel
theorem dX11_fits_152 : decode cX11_fits 152 = .ok (.invokestatic 72, 3) := by decide +kernel
theorem dX11_fits_155 : decode cX11_fits 155 = .ok (.ifCond .eq 27, 3) := by decide +kernel
theorem dX11_fits_158 : decode cX11_fits 158 = .ok (.iload_n 2, 1) := by decide +kernel
theorem dX11_fits_159 : decode cX11_fits 159 = .ok (.iconst 1, 1) := by decide +kernel
theorem dX11_fits_160 : decode cX11_fits 160 = .ok (.bipush 8, 2) := by decide +kernel
theorem dX11_fits_162 : decode cX11_fits 162 = .ok (.invokestatic 72, 3) := by decide +kernel
theorem dX11_fits_165 : decode cX11_fits 165 = .ok (.ifCond .eq 17, 3) := by decide +kernel
theorem dX11_fits_168 : decode cX11_fits 168 = .ok (.iload_n 3, 1) := by decide +kernel
theorem dX11_fits_169 : decode cX11_fits 169 = .ok (.iconst 0, 1) := by decide +kernel
theorem dX11_fits_170 : decode cX11_fits 170 = .ok (.bipush 50, 2) := by decide +kernel
theorem dX11_fits_172 : decode cX11_fits 172 = .ok (.invokestatic 72, 3) := by decide +kernel
theorem dX11_fits_175 : decode cX11_fits 175 = .ok (.ifCond .eq 7, 3) := by decide +kernel
theorem dX11_fits_178 : decode cX11_fits 178 = .ok (.iconst 1, 1) := by decide +kernel
theorem dX11_fits_179 : decode cX11_fits 179 = .ok (.goto 4, 3) := by decide +kernel
theorem dX11_fits_182 : decode cX11_fits 182 = .ok (.iconst 0, 1) := by decide +kernel
theorem dX11_fits_183 : decode cX11_fits 183 = .ok (.ireturn, 1) := by decide +kernel
theorem dX11_fits_184 : decode cX11_fits 184 = .ok (.iload_n 1, 1) := by decide +kernel
theorem dX11_fits_185 : decode cX11_fits 185 = .ok (.iconst 1, 1) := by decide +kernel
theorem dX11_fits_186 : decode cX11_fits 186 = .ok (.iconst 3, 1) := by decide +kernel
theorem dX11_fits_187 : decode cX11_fits 187 = .ok (.invokestatic 72, 3) := by decide +kernel
theorem dX11_fits_190 : decode cX11_fits 190 = .ok (.ireturn, 1) := by decide +kernel
theorem dX11_fits_191 : decode cX11_fits 191 = .ok (.iload_n 3, 1) := by decide +kernel
theorem dX11_fits_192 : decode cX11_fits 192 = .ok (.iconst 0, 1) := by decide +kernel
theorem dX11_fits_193 : decode cX11_fits 193 = .ok (.bipush 6, 2) := by decide +kernel
theorem dX11_fits_195 : decode cX11_fits 195 = .ok (.invokestatic 72, 3) := by decide +kernel
theorem dX11_fits_198 : decode cX11_fits 198 = .ok (.ireturn, 1) := by decide +kernel
theorem dX11_fits_199 : decode cX11_fits 199 = .ok (.iconst 0, 1) := by decide +kernel
theorem dX11_fits_200 : decode cX11_fits 200 = .ok (.ireturn, 1) := by decide +kernel
theorem dX11_begin_0 : decode cX11_begin 0 = .ok (.sipush 812, 3) := by decide +kernel
theorem dX11_begin_3 : decode cX11_begin 3 = .ok (.iload_n 1, 1) := by decide +kernel
theorem dX11_begin_4 : decode cX11_begin 4 = .ok (.imul, 1) := by decide +kernel
theorem dX11_begin_5 : decode cX11_begin 5 = .ok (.istore_n 2, 1) := by decide +kernel
theorem dX11_begin_6 : decode cX11_begin 6 = .ok (.iconst 0, 1) := by decide +kernel
theorem dX11_begin_7 : decode cX11_begin 7 = .ok (.istore_n 3, 1) := by decide +kernel
theorem dX11_begin_8 : decode cX11_begin 8 = .ok (.iload_n 3, 1) := by decide +kernel
theorem dX11_begin_9 : decode cX11_begin 9 = .ok (.sipush 812, 3) := by decide +kernel
theorem dX11_begin_12 : decode cX11_begin 12 = .ok (.if_icmp .ge 18, 3) := by decide +kernel
theorem dX11_begin_15 : decode cX11_begin 15 = .ok (.aload_n 0, 1) := by decide +kernel
theorem dX11_begin_16 : decode cX11_begin 16 = .ok (.getfield 49, 3) := by decide +kernel
theorem dX11_begin_19 : decode cX11_begin 19 = .ok (.iload_n 2, 1) := by decide +kernel
theorem dX11_begin_20 : decode cX11_begin 20 = .ok (.iload_n 3, 1) := by decide +kernel
theorem dX11_begin_21 : decode cX11_begin 21 = .ok (.iadd, 1) := by decide +kernel
theorem dX11_begin_22 : decode cX11_begin 22 = .ok (.iconst 0, 1) := by decide +kernel
theorem dX11_begin_23 : decode cX11_begin 23 = .ok (.iastore, 1) := by decide +kernel
theorem dX11_begin_24 : decode cX11_begin 24 = .ok (.iinc 3 1, 3) := by decide +kernel
theorem dX11_begin_27 : decode cX11_begin 27 = .ok (.goto (-19), 3) := by decide +kernel
theorem dX11_begin_30 : decode cX11_begin 30 = .ok (.iconst 0, 1) := by decide +kernel
theorem dX11_begin_31 : decode cX11_begin 31 = .ok (.istore_n 3, 1) := by decide +kernel
theorem dX11_begin_32 : decode cX11_begin 32 = .ok (.iload_n 3, 1) := by decide +kernel
theorem dX11_begin_33 : decode cX11_begin 33 = .ok (.sipush 256, 3) := by decide +kernel
theorem dX11_begin_36 : decode cX11_begin 36 = .ok (.if_icmp .ge 22, 3) := by decide +kernel
theorem dX11_begin_39 : decode cX11_begin 39 = .ok (.aload_n 0, 1) := by decide +kernel
theorem dX11_begin_40 : decode cX11_begin 40 = .ok (.getfield 49, 3) := by decide +kernel
theorem dX11_begin_43 : decode cX11_begin 43 = .ok (.iload_n 2, 1) := by decide +kernel
theorem dX11_begin_44 : decode cX11_begin 44 = .ok (.sipush 512, 3) := by decide +kernel
theorem dX11_begin_47 : decode cX11_begin 47 = .ok (.iadd, 1) := by decide +kernel
theorem dX11_begin_48 : decode cX11_begin 48 = .ok (.iload_n 3, 1) := by decide +kernel
theorem dX11_begin_49 : decode cX11_begin 49 = .ok (.iadd, 1) := by decide +kernel
theorem dX11_begin_50 : decode cX11_begin 50 = .ok (.iconst (-1), 1) := by decide +kernel
theorem dX11_begin_51 : decode cX11_begin 51 = .ok (.iastore, 1) := by decide +kernel
theorem dX11_begin_52 : decode cX11_begin 52 = .ok (.iinc 3 1, 3) := by decide +kernel
theorem dX11_begin_55 : decode cX11_begin 55 = .ok (.goto (-23), 3) := by decide +kernel
theorem dX11_begin_58 : decode cX11_begin 58 = .ok (.iconst 0, 1) := by decide +kernel
theorem dX11_begin_59 : decode cX11_begin 59 = .ok (.istore_n 3, 1) := by decide +kernel
theorem dX11_begin_60 : decode cX11_begin 60 = .ok (.iload_n 3, 1) := by decide +kernel
theorem dX11_begin_61 : decode cX11_begin 61 = .ok (.sipush 384, 3) := by decide +kernel
theorem dX11_begin_64 : decode cX11_begin 64 = .ok (.if_icmp .ge 58, 3) := by decide +kernel
theorem dX11_begin_67 : decode cX11_begin 67 = .ok (.aload_n 0, 1) := by decide +kernel
theorem dX11_begin_68 : decode cX11_begin 68 = .ok (.getfield 49, 3) := by decide +kernel
theorem dX11_begin_71 : decode cX11_begin 71 = .ok (.iload_n 2, 1) := by decide +kernel
theorem dX11_begin_72 : decode cX11_begin 72 = .ok (.iload_n 3, 1) := by decide +kernel
theorem dX11_begin_73 : decode cX11_begin 73 = .ok (.iadd, 1) := by decide +kernel
theorem dX11_begin_74 : decode cX11_begin 74 = .ok (.aload_n 0, 1) := by decide +kernel
theorem dX11_begin_75 : decode cX11_begin 75 = .ok (.getfield 34, 3) := by decide +kernel
theorem dX11_begin_78 : decode cX11_begin 78 = .ok (.iload_n 1, 1) := by decide +kernel
theorem dX11_begin_79 : decode cX11_begin 79 = .ok (.iaload, 1) := by decide +kernel
theorem dX11_begin_80 : decode cX11_begin 80 = .ok (.iconst 5, 1) := by decide +kernel
theorem dX11_begin_81 : decode cX11_begin 81 = .ok (.if_icmp .ne 7, 3) := by decide +kernel
theorem dX11_begin_84 : decode cX11_begin 84 = .ok (.iconst 0, 1) := by decide +kernel
theorem dX11_begin_85 : decode cX11_begin 85 = .ok (.goto 30, 3) := by decide +kernel
theorem dX11_begin_88 : decode cX11_begin 88 = .ok (.aload_n 0, 1) := by decide +kernel
theorem dX11_begin_89 : decode cX11_begin 89 = .ok (.getfield 34, 3) := by decide +kernel
theorem dX11_begin_92 : decode cX11_begin 92 = .ok (.iload_n 1, 1) := by decide +kernel
theorem dX11_begin_93 : decode cX11_begin 93 = .ok (.iaload, 1) := by decide +kernel
theorem dX11_begin_94 : decode cX11_begin 94 = .ok (.bipush 6, 2) := by decide +kernel
theorem dX11_begin_96 : decode cX11_begin 96 = .ok (.if_icmp .ne 18, 3) := by decide +kernel
theorem dX11_begin_99 : decode cX11_begin 99 = .ok (.iload_n 3, 1) := by decide +kernel
theorem dX11_begin_100 : decode cX11_begin 100 = .ok (.iconst 3, 1) := by decide +kernel
theorem dX11_begin_101 : decode cX11_begin 101 = .ok (.irem, 1) := by decide +kernel
theorem dX11_begin_102 : decode cX11_begin 102 = .ok (.iconst 1, 1) := by decide +kernel
theorem dX11_begin_103 : decode cX11_begin 103 = .ok (.if_icmp .ne 7, 3) := by decide +kernel
theorem dX11_begin_106 : decode cX11_begin 106 = .ok (.iconst (-1), 1) := by decide +kernel
theorem dX11_begin_107 : decode cX11_begin 107 = .ok (.goto 8, 3) := by decide +kernel
theorem dX11_begin_110 : decode cX11_begin 110 = .ok (.iconst 0, 1) := by decide +kernel
theorem dX11_begin_111 : decode cX11_begin 111 = .ok (.goto 4, 3) := by decide +kernel
theorem dX11_begin_114 : decode cX11_begin 114 = .ok (.iconst 1, 1) := by decide +kernel
theorem dX11_begin_115 : decode cX11_begin 115 = .ok (.iastore, 1) := by decide +kernel
theorem dX11_begin_116 : decode cX11_begin 116 = .ok (.iinc 3 1, 3) := by decide +kernel
theorem dX11_begin_119 : decode cX11_begin 119 = .ok (.goto (-59), 3) := by decide +kernel
theorem dX11_begin_122 : decode cX11_begin 122 = .ok (.return_, 1) := by decide +kernel
theorem dX11_guesser_0 : decode cX11_guesser 0 = .ok (.iload_n 1, 1) := by decide +kernel
theorem dX11_guesser_1 : decode cX11_guesser 1 = .ok (.bipush 7, 2) := by decide +kernel
theorem dX11_guesser_3 : decode cX11_guesser 3 = .ok (.if_icmp .ne 21, 3) := by decide +kernel
theorem dX11_guesser_6 : decode cX11_guesser 6 = .ok (.aload_n 0, 1) := by decide +kernel
theorem dX11_guesser_7 : decode cX11_guesser 7 = .ok (.iload_n 2, 1) := by decide +kernel
theorem dX11_guesser_8 : decode cX11_guesser 8 = .ok (.invokevirtual 107, 3) := by decide +kernel
theorem dX11_guesser_11 : decode cX11_guesser 11 = .ok (.ifCond .eq 11, 3) := by decide +kernel
theorem dX11_guesser_14 : decode cX11_guesser 14 = .ok (.aload_n 0, 1) := by decide +kernel
theorem dX11_guesser_15 : decode cX11_guesser 15 = .ok (.iload_n 3, 1) := by decide +kernel
theorem dX11_guesser_16 : decode cX11_guesser 16 = .ok (.invokevirtual 107, 3) := by decide +kernel
theorem dX11_guesser_19 : decode cX11_guesser 19 = .ok (.ifCond .ne 5, 3) := by decide +kernel
theorem dX11_guesser_22 : decode cX11_guesser 22 = .ok (.iconst (-1), 1) := by decide +kernel
theorem dX11_guesser_23 : decode cX11_guesser 23 = .ok (.ireturn, 1) := by decide +kernel
theorem dX11_guesser_24 : decode cX11_guesser 24 = .ok (.iload_n 1, 1) := by decide +kernel
theorem dX11_guesser_25 : decode cX11_guesser 25 = .ok (.iload_n 2, 1) := by decide +kernel
theorem dX11_guesser_26 : decode cX11_guesser 26 = .ok (.iload_n 3, 1) := by decide +kernel
theorem dX11_guesser_27 : decode cX11_guesser 27 = .ok (.iload 4, 2) := by decide +kernel
theorem dX11_guesser_29 : decode cX11_guesser 29 = .ok (.invokestatic 110, 3) := by decide +kernel
theorem dX11_guesser_32 : decode cX11_guesser 32 = .ok (.ifCond .ne 6, 3) := by decide +kernel
theorem dX11_guesser_35 : decode cX11_guesser 35 = .ok (.bipush (-2), 2) := by decide +kernel
theorem dX11_guesser_37 : decode cX11_guesser 37 = .ok (.ireturn, 1) := by decide +kernel
theorem dX11_guesser_38 : decode cX11_guesser 38 = .ok (.aload_n 0, 1) := by decide +kernel
theorem dX11_guesser_39 : decode cX11_guesser 39 = .ok (.getfield 94, 3) := by decide +kernel
theorem dX11_guesser_42 : decode cX11_guesser 42 = .ok (.bipush 8, 2) := by decide +kernel
theorem dX11_guesser_44 : decode cX11_guesser 44 = .ok (.if_icmp .ne 6, 3) := by decide +kernel
theorem dX11_guesser_47 : decode cX11_guesser 47 = .ok (.bipush (-4), 2) := by decide +kernel
theorem dX11_guesser_49 : decode cX11_guesser 49 = .ok (.ireturn, 1) := by decide +kernel
theorem dX11_guesser_50 : decode cX11_guesser 50 = .ok (.aload_n 0, 1) := by decide +kernel
theorem dX11_guesser_51 : decode cX11_guesser 51 = .ok (.getfield 34, 3) := by decide +kernel
theorem dX11_guesser_54 : decode cX11_guesser 54 = .ok (.aload_n 0, 1) := by decide +kernel
theorem dX11_guesser_55 : decode cX11_guesser 55 = .ok (.getfield 94, 3) := by decide +kernel
theorem dX11_guesser_58 : decode cX11_guesser 58 = .ok (.iload_n 1, 1) := by decide +kernel
theorem dX11_guesser_59 : decode cX11_guesser 59 = .ok (.iastore, 1) := by decide +kernel
theorem dX11_guesser_60 : decode cX11_guesser 60 = .ok (.aload_n 0, 1) := by decide +kernel
theorem dX11_guesser_61 : decode cX11_guesser 61 = .ok (.getfield 37, 3) := by decide +kernel
theorem dX11_guesser_64 : decode cX11_guesser 64 = .ok (.aload_n 0, 1) := by decide +kernel
theorem dX11_guesser_65 : decode cX11_guesser 65 = .ok (.getfield 94, 3) := by decide +kernel
theorem dX11_guesser_68 : decode cX11_guesser 68 = .ok (.iload_n 2, 1) := by decide +kernel
theorem dX11_guesser_69 : decode cX11_guesser 69 = .ok (.iastore, 1) := by decide +kernel
theorem dX11_guesser_70 : decode cX11_guesser 70 = .ok (.aload_n 0, 1) := by decide +kernel
theorem dX11_guesser_71 : decode cX11_guesser 71 = .ok (.getfield 40, 3) := by decide +kernel
theorem dX11_guesser_74 : decode cX11_guesser 74 = .ok (.aload_n 0, 1) := by decide +kernel
theorem dX11_guesser_75 : decode cX11_guesser 75 = .ok (.getfield 94, 3) := by decide +kernel
theorem dX11_guesser_78 : decode cX11_guesser 78 = .ok (.iload_n 3, 1) := by decide +kernel
theorem dX11_guesser_79 : decode cX11_guesser 79 = .ok (.iastore, 1) := by decide +kernel
theorem dX11_guesser_80 : decode cX11_guesser 80 = .ok (.aload_n 0, 1) := by decide +kernel
theorem dX11_guesser_81 : decode cX11_guesser 81 = .ok (.getfield 43, 3) := by decide +kernel
theorem dX11_guesser_84 : decode cX11_guesser 84 = .ok (.aload_n 0, 1) := by decide +kernel
theorem dX11_guesser_85 : decode cX11_guesser 85 = .ok (.getfield 94, 3) := by decide +kernel
theorem dX11_guesser_88 : decode cX11_guesser 88 = .ok (.iload 4, 2) := by decide +kernel
theorem dX11_guesser_90 : decode cX11_guesser 90 = .ok (.iastore, 1) := by decide +kernel
theorem dX11_guesser_91 : decode cX11_guesser 91 = .ok (.iconst 0, 1) := by decide +kernel
theorem dX11_guesser_92 : decode cX11_guesser 92 = .ok (.istore 5, 2) := by decide +kernel
theorem dX11_guesser_94 : decode cX11_guesser 94 = .ok (.iload 5, 2) := by decide +kernel
theorem dX11_guesser_96 : decode cX11_guesser 96 = .ok (.bipush 64, 2) := by decide +kernel
theorem dX11_guesser_98 : decode cX11_guesser 98 = .ok (.if_icmp .ge 25, 3) := by decide +kernel
theorem dX11_guesser_101 : decode cX11_guesser 101 = .ok (.aload_n 0, 1) := by decide +kernel
theorem dX11_guesser_102 : decode cX11_guesser 102 = .ok (.getfield 46, 3) := by decide +kernel
theorem dX11_guesser_105 : decode cX11_guesser 105 = .ok (.bipush 64, 2) := by decide +kernel
theorem dX11_guesser_107 : decode cX11_guesser 107 = .ok (.aload_n 0, 1) := by decide +kernel
theorem dX11_guesser_108 : decode cX11_guesser 108 = .ok (.getfield 94, 3) := by decide +kernel
theorem dX11_guesser_111 : decode cX11_guesser 111 = .ok (.imul, 1) := by decide +kernel
theorem dX11_guesser_112 : decode cX11_guesser 112 = .ok (.iload 5, 2) := by decide +kernel
theorem dX11_guesser_114 : decode cX11_guesser 114 = .ok (.iadd, 1) := by decide +kernel
theorem dX11_guesser_115 : decode cX11_guesser 115 = .ok (.iconst (-1), 1) := by decide +kernel
theorem dX11_guesser_116 : decode cX11_guesser 116 = .ok (.iastore, 1) := by decide +kernel
theorem dX11_guesser_117 : decode cX11_guesser 117 = .ok (.iinc 5 1, 3) := by decide +kernel
theorem dX11_guesser_120 : decode cX11_guesser 120 = .ok (.goto (-26), 3) := by decide +kernel
theorem dX11_guesser_123 : decode cX11_guesser 123 = .ok (.aload_n 0, 1) := by decide +kernel
theorem dX11_guesser_124 : decode cX11_guesser 124 = .ok (.aload_n 0, 1) := by decide +kernel
theorem dX11_guesser_125 : decode cX11_guesser 125 = .ok (.getfield 94, 3) := by decide +kernel
theorem dX11_guesser_128 : decode cX11_guesser 128 = .ok (.invokevirtual 114, 3) := by decide +kernel
theorem dX11_guesser_131 : decode cX11_guesser 131 = .ok (.aload_n 0, 1) := by decide +kernel
theorem dX11_guesser_132 : decode cX11_guesser 132 = .ok (.dup, 1) := by decide +kernel
theorem dX11_guesser_133 : decode cX11_guesser 133 = .ok (.getfield 94, 3) := by decide +kernel
theorem dX11_guesser_136 : decode cX11_guesser 136 = .ok (.iconst 1, 1) := by decide +kernel
theorem dX11_guesser_137 : decode cX11_guesser 137 = .ok (.iadd, 1) := by decide +kernel
theorem dX11_guesser_138 : decode cX11_guesser 138 = .ok (.putfield 94, 3) := by decide +kernel
theorem dX11_guesser_141 : decode cX11_guesser 141 = .ok (.aload_n 0, 1) := by decide +kernel
theorem dX11_guesser_142 : decode cX11_guesser 142 = .ok (.getfield 94, 3) := by decide +kernel
theorem dX11_guesser_145 : decode cX11_guesser 145 = .ok (.iconst 1, 1) := by decide +kernel
theorem dX11_guesser_146 : decode cX11_guesser 146 = .ok (.isub, 1) := by decide +kernel
theorem dX11_guesser_147 : decode cX11_guesser 147 = .ok (.ireturn, 1) := by decide +kernel
theorem dX11_low_0 : decode cX11_low 0 = .ok (.iload_n 0, 1) := by decide +kernel
theorem dX11_low_1 : decode cX11_low 1 = .ok (.iconst 1, 1) := by decide +kernel
theorem dX11_low_2 : decode cX11_low 2 = .ok (.iload_n 1, 1) := by decide +kernel
theorem dX11_low_3 : decode cX11_low 3 = .ok (.ishl, 1) := by decide +kernel
theorem dX11_low_4 : decode cX11_low 4 = .ok (.iconst 1, 1) := by decide +kernel
theorem dX11_low_5 : decode cX11_low 5 = .ok (.isub, 1) := by decide +kernel
theorem dX11_low_6 : decode cX11_low 6 = .ok (.iand, 1) := by decide +kernel
theorem dX11_low_7 : decode cX11_low 7 = .ok (.ireturn, 1) := by decide +kernel
theorem dX11_counter_0 : decode cX11_counter 0 = .ok (.sipush 812, 3) := by decide +kernel
theorem dX11_counter_3 : decode cX11_counter 3 = .ok (.iload_n 1, 1) := by decide +kernel
theorem dX11_counter_4 : decode cX11_counter 4 = .ok (.imul, 1) := by decide +kernel
theorem dX11_counter_5 : decode cX11_counter 5 = .ok (.istore 4, 2) := by decide +kernel
theorem dX11_counter_7 : decode cX11_counter 7 = .ok (.aload_n 0, 1) := by decide +kernel
theorem dX11_counter_8 : decode cX11_counter 8 = .ok (.getfield 49, 3) := by decide +kernel
theorem dX11_counter_11 : decode cX11_counter 11 = .ok (.iload 4, 2) := by decide +kernel
theorem dX11_counter_13 : decode cX11_counter 13 = .ok (.sipush 808, 3) := by decide +kernel
theorem dX11_counter_16 : decode cX11_counter 16 = .ok (.iadd, 1) := by decide +kernel
theorem dX11_counter_17 : decode cX11_counter 17 = .ok (.iaload, 1) := by decide +kernel
theorem dX11_counter_18 : decode cX11_counter 18 = .ok (.istore 5, 2) := by decide +kernel
theorem dX11_counter_20 : decode cX11_counter 20 = .ok (.aload_n 0, 1) := by decide +kernel
theorem dX11_counter_21 : decode cX11_counter 21 = .ok (.getfield 34, 3) := by decide +kernel
theorem dX11_counter_24 : decode cX11_counter 24 = .ok (.iload_n 1, 1) := by decide +kernel
theorem dX11_counter_25 : decode cX11_counter 25 = .ok (.iaload, 1) := by decide +kernel
theorem dX11_counter_26 : decode cX11_counter 26 = .ok (.tableswitch 153 1 5 #[34, 45, 68, 109, 142], 34) := by decide +kernel
theorem dX11_counter_60 : decode cX11_counter 60 = .ok (.iload_n 2, 1) := by decide +kernel
theorem dX11_counter_61 : decode cX11_counter 61 = .ok (.aload_n 0, 1) := by decide +kernel
theorem dX11_counter_62 : decode cX11_counter 62 = .ok (.getfield 37, 3) := by decide +kernel
theorem dX11_counter_65 : decode cX11_counter 65 = .ok (.iload_n 1, 1) := by decide +kernel
theorem dX11_counter_66 : decode cX11_counter 66 = .ok (.iaload, 1) := by decide +kernel
theorem dX11_counter_67 : decode cX11_counter 67 = .ok (.invokestatic 118, 3) := by decide +kernel
theorem dX11_counter_70 : decode cX11_counter 70 = .ok (.ireturn, 1) := by decide +kernel
theorem dX11_counter_71 : decode cX11_counter 71 = .ok (.iload_n 2, 1) := by decide +kernel
theorem dX11_counter_72 : decode cX11_counter 72 = .ok (.iload 5, 2) := by decide +kernel
theorem dX11_counter_74 : decode cX11_counter 74 = .ok (.aload_n 0, 1) := by decide +kernel
theorem dX11_counter_75 : decode cX11_counter 75 = .ok (.getfield 40, 3) := by decide +kernel
theorem dX11_counter_78 : decode cX11_counter 78 = .ok (.iload_n 1, 1) := by decide +kernel
theorem dX11_counter_79 : decode cX11_counter 79 = .ok (.iaload, 1) := by decide +kernel
theorem dX11_counter_80 : decode cX11_counter 80 = .ok (.invokestatic 118, 3) := by decide +kernel
theorem dX11_counter_83 : decode cX11_counter 83 = .ok (.ixor, 1) := by decide +kernel
theorem dX11_counter_84 : decode cX11_counter 84 = .ok (.aload_n 0, 1) := by decide +kernel
theorem dX11_counter_85 : decode cX11_counter 85 = .ok (.getfield 37, 3) := by decide +kernel
theorem dX11_counter_88 : decode cX11_counter 88 = .ok (.iload_n 1, 1) := by decide +kernel
theorem dX11_counter_89 : decode cX11_counter 89 = .ok (.iaload, 1) := by decide +kernel
theorem dX11_counter_90 : decode cX11_counter 90 = .ok (.invokestatic 118, 3) := by decide +kernel
theorem dX11_counter_93 : decode cX11_counter 93 = .ok (.ireturn, 1) := by decide +kernel
theorem dX11_counter_94 : decode cX11_counter 94 = .ok (.aload_n 0, 1) := by decide +kernel
theorem dX11_counter_95 : decode cX11_counter 95 = .ok (.getfield 49, 3) := by decide +kernel
theorem dX11_counter_98 : decode cX11_counter 98 = .ok (.iload 4, 2) := by decide +kernel
theorem dX11_counter_100 : decode cX11_counter 100 = .ok (.sipush 384, 3) := by decide +kernel
theorem dX11_counter_103 : decode cX11_counter 103 = .ok (.iadd, 1) := by decide +kernel
theorem dX11_counter_104 : decode cX11_counter 104 = .ok (.iload_n 2, 1) := by decide +kernel
theorem dX11_counter_105 : decode cX11_counter 105 = .ok (.iadd, 1) := by decide +kernel
theorem dX11_counter_106 : decode cX11_counter 106 = .ok (.iaload, 1) := by decide +kernel
theorem dX11_counter_107 : decode cX11_counter 107 = .ok (.aload_n 0, 1) := by decide +kernel
theorem dX11_counter_108 : decode cX11_counter 108 = .ok (.getfield 40, 3) := by decide +kernel
theorem dX11_counter_111 : decode cX11_counter 111 = .ok (.iload_n 1, 1) := by decide +kernel
theorem dX11_counter_112 : decode cX11_counter 112 = .ok (.iaload, 1) := by decide +kernel
theorem dX11_counter_113 : decode cX11_counter 113 = .ok (.invokestatic 118, 3) := by decide +kernel
theorem dX11_counter_116 : decode cX11_counter 116 = .ok (.aload_n 0, 1) := by decide +kernel
theorem dX11_counter_117 : decode cX11_counter 117 = .ok (.getfield 43, 3) := by decide +kernel
theorem dX11_counter_120 : decode cX11_counter 120 = .ok (.iload_n 1, 1) := by decide +kernel
theorem dX11_counter_121 : decode cX11_counter 121 = .ok (.iaload, 1) := by decide +kernel
theorem dX11_counter_122 : decode cX11_counter 122 = .ok (.iload_n 2, 1) := by decide +kernel
theorem dX11_counter_123 : decode cX11_counter 123 = .ok (.imul, 1) := by decide +kernel
theorem dX11_counter_124 : decode cX11_counter 124 = .ok (.ixor, 1) := by decide +kernel
theorem dX11_counter_125 : decode cX11_counter 125 = .ok (.aload_n 0, 1) := by decide +kernel
theorem dX11_counter_126 : decode cX11_counter 126 = .ok (.getfield 37, 3) := by decide +kernel
theorem dX11_counter_129 : decode cX11_counter 129 = .ok (.iload_n 1, 1) := by decide +kernel
theorem dX11_counter_130 : decode cX11_counter 130 = .ok (.iaload, 1) := by decide +kernel
theorem dX11_counter_131 : decode cX11_counter 131 = .ok (.invokestatic 118, 3) := by decide +kernel
theorem dX11_counter_134 : decode cX11_counter 134 = .ok (.ireturn, 1) := by decide +kernel
theorem dX11_counter_135 : decode cX11_counter 135 = .ok (.sipush 128, 3) := by decide +kernel
theorem dX11_counter_138 : decode cX11_counter 138 = .ok (.iload_n 3, 1) := by decide +kernel
theorem dX11_counter_139 : decode cX11_counter 139 = .ok (.imul, 1) := by decide +kernel
theorem dX11_counter_140 : decode cX11_counter 140 = .ok (.iconst 5, 1) := by decide +kernel
theorem dX11_counter_141 : decode cX11_counter 141 = .ok (.iload_n 2, 1) := by decide +kernel
theorem dX11_counter_142 : decode cX11_counter 142 = .ok (.imul, 1) := by decide +kernel
theorem dX11_counter_143 : decode cX11_counter 143 = .ok (.iload 5, 2) := by decide +kernel
theorem dX11_counter_145 : decode cX11_counter 145 = .ok (.iload_n 3, 1) := by decide +kernel
theorem dX11_counter_146 : decode cX11_counter 146 = .ok (.aload_n 0, 1) := by decide +kernel
theorem dX11_counter_147 : decode cX11_counter 147 = .ok (.getfield 40, 3) := by decide +kernel
theorem dX11_counter_150 : decode cX11_counter 150 = .ok (.iload_n 1, 1) := by decide +kernel
theorem dX11_counter_151 : decode cX11_counter 151 = .ok (.iaload, 1) := by decide +kernel
theorem dX11_counter_152 : decode cX11_counter 152 = .ok (.imul, 1) := by decide +kernel
theorem dX11_counter_153 : decode cX11_counter 153 = .ok (.invokestatic 118, 3) := by decide +kernel
theorem dX11_counter_156 : decode cX11_counter 156 = .ok (.ixor, 1) := by decide +kernel
theorem dX11_counter_157 : decode cX11_counter 157 = .ok (.aload_n 0, 1) := by decide +kernel
theorem dX11_counter_158 : decode cX11_counter 158 = .ok (.getfield 37, 3) := by decide +kernel
theorem dX11_counter_161 : decode cX11_counter 161 = .ok (.iload_n 1, 1) := by decide +kernel
theorem dX11_counter_162 : decode cX11_counter 162 = .ok (.iaload, 1) := by decide +kernel
theorem dX11_counter_163 : decode cX11_counter 163 = .ok (.invokestatic 118, 3) := by decide +kernel
theorem dX11_counter_166 : decode cX11_counter 166 = .ok (.iadd, 1) := by decide +kernel
theorem dX11_counter_167 : decode cX11_counter 167 = .ok (.ireturn, 1) := by decide +kernel
theorem dX11_counter_168 : decode cX11_counter 168 = .ok (.iload_n 2, 1) := by decide +kernel
theorem dX11_counter_169 : decode cX11_counter 169 = .ok (.aload_n 0, 1) := by decide +kernel
theorem dX11_counter_170 : decode cX11_counter 170 = .ok (.getfield 37, 3) := by decide +kernel
theorem dX11_counter_173 : decode cX11_counter 173 = .ok (.iload_n 1, 1) := by decide +kernel
theorem dX11_counter_174 : decode cX11_counter 174 = .ok (.iaload, 1) := by decide +kernel
theorem dX11_counter_175 : decode cX11_counter 175 = .ok (.invokestatic 118, 3) := by decide +kernel
theorem dX11_counter_178 : decode cX11_counter 178 = .ok (.ireturn, 1) := by decide +kernel
theorem dX11_counter_179 : decode cX11_counter 179 = .ok (.iload_n 2, 1) := by decide +kernel
theorem dX11_counter_180 : decode cX11_counter 180 = .ok (.aload_n 0, 1) := by decide +kernel
theorem dX11_counter_181 : decode cX11_counter 181 = .ok (.getfield 43, 3) := by decide +kernel
theorem dX11_counter_184 : decode cX11_counter 184 = .ok (.iload_n 1, 1) := by decide +kernel
theorem dX11_counter_185 : decode cX11_counter 185 = .ok (.iaload, 1) := by decide +kernel
theorem dX11_counter_186 : decode cX11_counter 186 = .ok (.invokestatic 118, 3) := by decide +kernel
theorem dX11_counter_189 : decode cX11_counter 189 = .ok (.ireturn, 1) := by decide +kernel
theorem dX11_sum_0 : decode cX11_sum 0 = .ok (.sipush 812, 3) := by decide +kernel
theorem dX11_sum_3 : decode cX11_sum 3 = .ok (.iload_n 1, 1) := by decide +kernel
theorem dX11_sum_4 : decode cX11_sum 4 = .ok (.imul, 1) := by decide +kernel
theorem dX11_sum_5 : decode cX11_sum 5 = .ok (.bipush 9, 2) := by decide +kernel
theorem dX11_sum_7 : decode cX11_sum 7 = .ok (.aload_n 0, 1) := by decide +kernel
theorem dX11_sum_8 : decode cX11_sum 8 = .ok (.iload_n 1, 1) := by decide +kernel
theorem dX11_sum_9 : decode cX11_sum 9 = .ok (.iload_n 2, 1) := by decide +kernel
theorem dX11_sum_10 : decode cX11_sum 10 = .ok (.iconst 0, 1) := by decide +kernel
theorem dX11_sum_11 : decode cX11_sum 11 = .ok (.invokevirtual 122, 3) := by decide +kernel
theorem dX11_sum_14 : decode cX11_sum 14 = .ok (.imul, 1) := by decide +kernel
theorem dX11_sum_15 : decode cX11_sum 15 = .ok (.iadd, 1) := by decide +kernel
theorem dX11_sum_16 : decode cX11_sum 16 = .ok (.istore_n 3, 1) := by decide +kernel
theorem dX11_sum_17 : decode cX11_sum 17 = .ok (.aload_n 0, 1) := by decide +kernel
theorem dX11_sum_18 : decode cX11_sum 18 = .ok (.getfield 49, 3) := by decide +kernel
theorem dX11_sum_21 : decode cX11_sum 21 = .ok (.iload_n 3, 1) := by decide +kernel
theorem dX11_sum_22 : decode cX11_sum 22 = .ok (.iaload, 1) := by decide +kernel
theorem dX11_sum_23 : decode cX11_sum 23 = .ok (.istore 4, 2) := by decide +kernel
theorem dX11_sum_25 : decode cX11_sum 25 = .ok (.iconst 0, 1) := by decide +kernel
theorem dX11_sum_26 : decode cX11_sum 26 = .ok (.istore 5, 2) := by decide +kernel
theorem dX11_sum_28 : decode cX11_sum 28 = .ok (.iload 5, 2) := by decide +kernel
theorem dX11_sum_30 : decode cX11_sum 30 = .ok (.aload_n 0, 1) := by decide +kernel
theorem dX11_sum_31 : decode cX11_sum 31 = .ok (.getfield 40, 3) := by decide +kernel
theorem dX11_sum_34 : decode cX11_sum 34 = .ok (.iload_n 1, 1) := by decide +kernel
theorem dX11_sum_35 : decode cX11_sum 35 = .ok (.iaload, 1) := by decide +kernel
theorem dX11_sum_36 : decode cX11_sum 36 = .ok (.if_icmp .ge 75, 3) := by decide +kernel
theorem dX11_sum_39 : decode cX11_sum 39 = .ok (.aload_n 0, 1) := by decide +kernel
theorem dX11_sum_40 : decode cX11_sum 40 = .ok (.getfield 49, 3) := by decide +kernel
theorem dX11_sum_43 : decode cX11_sum 43 = .ok (.sipush 812, 3) := by decide +kernel
theorem dX11_sum_46 : decode cX11_sum 46 = .ok (.iload_n 1, 1) := by decide +kernel
theorem dX11_sum_47 : decode cX11_sum 47 = .ok (.imul, 1) := by decide +kernel
theorem dX11_sum_48 : decode cX11_sum 48 = .ok (.sipush 808, 3) := by decide +kernel
theorem dX11_sum_51 : decode cX11_sum 51 = .ok (.iadd, 1) := by decide +kernel
theorem dX11_sum_52 : decode cX11_sum 52 = .ok (.iaload, 1) := by decide +kernel
theorem dX11_sum_53 : decode cX11_sum 53 = .ok (.iload 5, 2) := by decide +kernel
theorem dX11_sum_55 : decode cX11_sum 55 = .ok (.ishr, 1) := by decide +kernel
theorem dX11_sum_56 : decode cX11_sum 56 = .ok (.iconst 1, 1) := by decide +kernel
theorem dX11_sum_57 : decode cX11_sum 57 = .ok (.iand, 1) := by decide +kernel
theorem dX11_sum_58 : decode cX11_sum 58 = .ok (.iconst 1, 1) := by decide +kernel
theorem dX11_sum_59 : decode cX11_sum 59 = .ok (.if_icmp .ne 7, 3) := by decide +kernel
theorem dX11_sum_62 : decode cX11_sum 62 = .ok (.iconst 1, 1) := by decide +kernel
theorem dX11_sum_63 : decode cX11_sum 63 = .ok (.goto 4, 3) := by decide +kernel
theorem dX11_sum_66 : decode cX11_sum 66 = .ok (.iconst 0, 1) := by decide +kernel
theorem dX11_sum_67 : decode cX11_sum 67 = .ok (.istore 6, 2) := by decide +kernel
theorem dX11_sum_69 : decode cX11_sum 69 = .ok (.iload 4, 2) := by decide +kernel
theorem dX11_sum_71 : decode cX11_sum 71 = .ok (.iload 6, 2) := by decide +kernel
theorem dX11_sum_73 : decode cX11_sum 73 = .ok (.ifCond .eq 17, 3) := by decide +kernel
theorem dX11_sum_76 : decode cX11_sum 76 = .ok (.aload_n 0, 1) := by decide +kernel
theorem dX11_sum_77 : decode cX11_sum 77 = .ok (.getfield 49, 3) := by decide +kernel
theorem dX11_sum_80 : decode cX11_sum 80 = .ok (.iload_n 3, 1) := by decide +kernel
theorem dX11_sum_81 : decode cX11_sum 81 = .ok (.iconst 1, 1) := by decide +kernel
theorem dX11_sum_82 : decode cX11_sum 82 = .ok (.iadd, 1) := by decide +kernel
theorem dX11_sum_83 : decode cX11_sum 83 = .ok (.iload 5, 2) := by decide +kernel
theorem dX11_sum_85 : decode cX11_sum 85 = .ok (.iadd, 1) := by decide +kernel
theorem dX11_sum_86 : decode cX11_sum 86 = .ok (.iaload, 1) := by decide +kernel
theorem dX11_sum_87 : decode cX11_sum 87 = .ok (.goto 15, 3) := by decide +kernel
theorem dX11_sum_90 : decode cX11_sum 90 = .ok (.aload_n 0, 1) := by decide +kernel
theorem dX11_sum_91 : decode cX11_sum 91 = .ok (.getfield 49, 3) := by decide +kernel
theorem dX11_sum_94 : decode cX11_sum 94 = .ok (.iload_n 3, 1) := by decide +kernel
theorem dX11_sum_95 : decode cX11_sum 95 = .ok (.iconst 1, 1) := by decide +kernel
theorem dX11_sum_96 : decode cX11_sum 96 = .ok (.iadd, 1) := by decide +kernel
theorem dX11_sum_97 : decode cX11_sum 97 = .ok (.iload 5, 2) := by decide +kernel
theorem dX11_sum_99 : decode cX11_sum 99 = .ok (.iadd, 1) := by decide +kernel
theorem dX11_sum_100 : decode cX11_sum 100 = .ok (.iaload, 1) := by decide +kernel
theorem dX11_sum_101 : decode cX11_sum 101 = .ok (.ineg, 1) := by decide +kernel
theorem dX11_sum_102 : decode cX11_sum 102 = .ok (.iadd, 1) := by decide +kernel
theorem dX11_sum_103 : decode cX11_sum 103 = .ok (.istore 4, 2) := by decide +kernel
theorem dX11_sum_105 : decode cX11_sum 105 = .ok (.iinc 5 1, 3) := by decide +kernel
theorem dX11_sum_108 : decode cX11_sum 108 = .ok (.goto (-80), 3) := by decide +kernel
theorem dX11_sum_111 : decode cX11_sum 111 = .ok (.iload 4, 2) := by decide +kernel
theorem dX11_sum_113 : decode cX11_sum 113 = .ok (.ireturn, 1) := by decide +kernel
theorem dX11_own_0 : decode cX11_own 0 = .ok (.sipush 812, 3) := by decide +kernel
theorem dX11_own_3 : decode cX11_own 3 = .ok (.iload_n 1, 1) := by decide +kernel
theorem dX11_own_4 : decode cX11_own 4 = .ok (.imul, 1) := by decide +kernel
theorem dX11_own_5 : decode cX11_own 5 = .ok (.istore 5, 2) := by decide +kernel
theorem dX11_own_7 : decode cX11_own 7 = .ok (.aload_n 0, 1) := by decide +kernel
theorem dX11_own_8 : decode cX11_own 8 = .ok (.getfield 34, 3) := by decide +kernel
theorem dX11_own_11 : decode cX11_own 11 = .ok (.iload_n 1, 1) := by decide +kernel
theorem dX11_own_12 : decode cX11_own 12 = .ok (.iaload, 1) := by decide +kernel
theorem dX11_own_13 : decode cX11_own 13 = .ok (.tableswitch 250 0 7 #[47, 250, 250, 250, 82, 142, 157, 224], 47) := by decide +kernel
theorem dX11_own_60 : decode cX11_own 60 = .ok (.aload_n 0, 1) := by decide +kernel
theorem dX11_own_61 : decode cX11_own 61 = .ok (.getfield 37, 3) := by decide +kernel
theorem dX11_own_64 : decode cX11_own 64 = .ok (.iload_n 1, 1) := by decide +kernel
theorem dX11_own_65 : decode cX11_own 65 = .ok (.iaload, 1) := by decide +kernel
theorem dX11_own_66 : decode cX11_own 66 = .ok (.iconst 2, 1) := by decide +kernel
theorem dX11_own_67 : decode cX11_own 67 = .ok (.if_icmp .ge 12, 3) := by decide +kernel
theorem dX11_own_70 : decode cX11_own 70 = .ok (.aload_n 0, 1) := by decide +kernel
theorem dX11_own_71 : decode cX11_own 71 = .ok (.getfield 37, 3) := by decide +kernel
theorem dX11_own_74 : decode cX11_own 74 = .ok (.iload_n 1, 1) := by decide +kernel
theorem dX11_own_75 : decode cX11_own 75 = .ok (.iaload, 1) := by decide +kernel
theorem dX11_own_76 : decode cX11_own 76 = .ok (.goto 18, 3) := by decide +kernel
theorem dX11_own_79 : decode cX11_own 79 = .ok (.aload_n 0, 1) := by decide +kernel
theorem dX11_own_80 : decode cX11_own 80 = .ok (.getfield 19, 3) := by decide +kernel
theorem dX11_own_83 : decode cX11_own 83 = .ok (.iload_n 2, 1) := by decide +kernel
theorem dX11_own_84 : decode cX11_own 84 = .ok (.iaload, 1) := by decide +kernel
theorem dX11_own_85 : decode cX11_own 85 = .ok (.iload_n 2, 1) := by decide +kernel
theorem dX11_own_86 : decode cX11_own 86 = .ok (.if_icmp .gt 7, 3) := by decide +kernel
theorem dX11_own_89 : decode cX11_own 89 = .ok (.iconst 1, 1) := by decide +kernel
theorem dX11_own_90 : decode cX11_own 90 = .ok (.goto 4, 3) := by decide +kernel
theorem dX11_own_93 : decode cX11_own 93 = .ok (.iconst 0, 1) := by decide +kernel
theorem dX11_own_94 : decode cX11_own 94 = .ok (.ireturn, 1) := by decide +kernel
theorem dX11_own_95 : decode cX11_own 95 = .ok (.iconst 0, 1) := by decide +kernel
theorem dX11_own_96 : decode cX11_own 96 = .ok (.istore 6, 2) := by decide +kernel
theorem dX11_own_98 : decode cX11_own 98 = .ok (.iconst 0, 1) := by decide +kernel
theorem dX11_own_99 : decode cX11_own 99 = .ok (.istore 7, 2) := by decide +kernel
theorem dX11_own_101 : decode cX11_own 101 = .ok (.iload 7, 2) := by decide +kernel
theorem dX11_own_103 : decode cX11_own 103 = .ok (.iconst 3, 1) := by decide +kernel
theorem dX11_own_104 : decode cX11_own 104 = .ok (.if_icmp .ge 39, 3) := by decide +kernel
theorem dX11_own_107 : decode cX11_own 107 = .ok (.iload 6, 2) := by decide +kernel
theorem dX11_own_109 : decode cX11_own 109 = .ok (.aload_n 0, 1) := by decide +kernel
theorem dX11_own_110 : decode cX11_own 110 = .ok (.getfield 49, 3) := by decide +kernel
theorem dX11_own_113 : decode cX11_own 113 = .ok (.iload 5, 2) := by decide +kernel
theorem dX11_own_115 : decode cX11_own 115 = .ok (.aload_n 0, 1) := by decide +kernel
theorem dX11_own_116 : decode cX11_own 116 = .ok (.iload_n 1, 1) := by decide +kernel
theorem dX11_own_117 : decode cX11_own 117 = .ok (.iload_n 2, 1) := by decide +kernel
theorem dX11_own_118 : decode cX11_own 118 = .ok (.iload 7, 2) := by decide +kernel
theorem dX11_own_120 : decode cX11_own 120 = .ok (.invokevirtual 122, 3) := by decide +kernel
theorem dX11_own_123 : decode cX11_own 123 = .ok (.iadd, 1) := by decide +kernel
theorem dX11_own_124 : decode cX11_own 124 = .ok (.iaload, 1) := by decide +kernel
theorem dX11_own_125 : decode cX11_own 125 = .ok (.iconst 1, 1) := by decide +kernel
theorem dX11_own_126 : decode cX11_own 126 = .ok (.if_icmp .le 7, 3) := by decide +kernel
theorem dX11_own_129 : decode cX11_own 129 = .ok (.iconst 1, 1) := by decide +kernel
theorem dX11_own_130 : decode cX11_own 130 = .ok (.goto 4, 3) := by decide +kernel
theorem dX11_own_133 : decode cX11_own 133 = .ok (.iconst 0, 1) := by decide +kernel
theorem dX11_own_134 : decode cX11_own 134 = .ok (.iadd, 1) := by decide +kernel
theorem dX11_own_135 : decode cX11_own 135 = .ok (.istore 6, 2) := by decide +kernel
theorem dX11_own_137 : decode cX11_own 137 = .ok (.iinc 7 1, 3) := by decide +kernel
theorem dX11_own_140 : decode cX11_own 140 = .ok (.goto (-39), 3) := by decide +kernel
theorem dX11_own_143 : decode cX11_own 143 = .ok (.iload 6, 2) := by decide +kernel
theorem dX11_own_145 : decode cX11_own 145 = .ok (.iconst 1, 1) := by decide +kernel
theorem dX11_own_146 : decode cX11_own 146 = .ok (.if_icmp .le 7, 3) := by decide +kernel
theorem dX11_own_149 : decode cX11_own 149 = .ok (.iconst 1, 1) := by decide +kernel
theorem dX11_own_150 : decode cX11_own 150 = .ok (.goto 4, 3) := by decide +kernel
theorem dX11_own_153 : decode cX11_own 153 = .ok (.iconst 0, 1) := by decide +kernel
theorem dX11_own_154 : decode cX11_own 154 = .ok (.ireturn, 1) := by decide +kernel
theorem dX11_own_155 : decode cX11_own 155 = .ok (.aload_n 0, 1) := by decide +kernel
theorem dX11_own_156 : decode cX11_own 156 = .ok (.iload_n 1, 1) := by decide +kernel
theorem dX11_own_157 : decode cX11_own 157 = .ok (.iload_n 2, 1) := by decide +kernel
theorem dX11_own_158 : decode cX11_own 158 = .ok (.invokevirtual 126, 3) := by decide +kernel
theorem dX11_own_161 : decode cX11_own 161 = .ok (.ifCond .lt 7, 3) := by decide +kernel
theorem dX11_own_164 : decode cX11_own 164 = .ok (.iconst 1, 1) := by decide +kernel
theorem dX11_own_165 : decode cX11_own 165 = .ok (.goto 4, 3) := by decide +kernel
theorem dX11_own_168 : decode cX11_own 168 = .ok (.iconst 0, 1) := by decide +kernel
theorem dX11_own_169 : decode cX11_own 169 = .ok (.ireturn, 1) := by decide +kernel
theorem dX11_own_170 : decode cX11_own 170 = .ok (.aload_n 0, 1) := by decide +kernel
theorem dX11_own_171 : decode cX11_own 171 = .ok (.getfield 49, 3) := by decide +kernel
theorem dX11_own_174 : decode cX11_own 174 = .ok (.iload 5, 2) := by decide +kernel
theorem dX11_own_176 : decode cX11_own 176 = .ok (.iconst 3, 1) := by decide +kernel
theorem dX11_own_177 : decode cX11_own 177 = .ok (.iload_n 2, 1) := by decide +kernel
theorem dX11_own_178 : decode cX11_own 178 = .ok (.imul, 1) := by decide +kernel
theorem dX11_own_179 : decode cX11_own 179 = .ok (.iadd, 1) := by decide +kernel
theorem dX11_own_180 : decode cX11_own 180 = .ok (.iconst 2, 1) := by decide +kernel
theorem dX11_own_181 : decode cX11_own 181 = .ok (.iadd, 1) := by decide +kernel
theorem dX11_own_182 : decode cX11_own 182 = .ok (.iaload, 1) := by decide +kernel
theorem dX11_own_183 : decode cX11_own 183 = .ok (.aload_n 0, 1) := by decide +kernel
theorem dX11_own_184 : decode cX11_own 184 = .ok (.getfield 37, 3) := by decide +kernel
theorem dX11_own_187 : decode cX11_own 187 = .ok (.iload_n 1, 1) := by decide +kernel
theorem dX11_own_188 : decode cX11_own 188 = .ok (.iaload, 1) := by decide +kernel
theorem dX11_own_189 : decode cX11_own 189 = .ok (.if_icmp .lt 34, 3) := by decide +kernel
theorem dX11_own_192 : decode cX11_own 192 = .ok (.aload_n 0, 1) := by decide +kernel
theorem dX11_own_193 : decode cX11_own 193 = .ok (.getfield 49, 3) := by decide +kernel
theorem dX11_own_196 : decode cX11_own 196 = .ok (.iload 5, 2) := by decide +kernel
theorem dX11_own_198 : decode cX11_own 198 = .ok (.iconst 3, 1) := by decide +kernel
theorem dX11_own_199 : decode cX11_own 199 = .ok (.iload_n 2, 1) := by decide +kernel
theorem dX11_own_200 : decode cX11_own 200 = .ok (.imul, 1) := by decide +kernel
theorem dX11_own_201 : decode cX11_own 201 = .ok (.iadd, 1) := by decide +kernel
theorem dX11_own_202 : decode cX11_own 202 = .ok (.iaload, 1) := by decide +kernel
theorem dX11_own_203 : decode cX11_own 203 = .ok (.aload_n 0, 1) := by decide +kernel
theorem dX11_own_204 : decode cX11_own 204 = .ok (.getfield 49, 3) := by decide +kernel
theorem dX11_own_207 : decode cX11_own 207 = .ok (.iload 5, 2) := by decide +kernel
theorem dX11_own_209 : decode cX11_own 209 = .ok (.iconst 3, 1) := by decide +kernel
theorem dX11_own_210 : decode cX11_own 210 = .ok (.iload_n 2, 1) := by decide +kernel
theorem dX11_own_211 : decode cX11_own 211 = .ok (.imul, 1) := by decide +kernel
theorem dX11_own_212 : decode cX11_own 212 = .ok (.iadd, 1) := by decide +kernel
theorem dX11_own_213 : decode cX11_own 213 = .ok (.iconst 1, 1) := by decide +kernel
theorem dX11_own_214 : decode cX11_own 214 = .ok (.iadd, 1) := by decide +kernel
theorem dX11_own_215 : decode cX11_own 215 = .ok (.iaload, 1) := by decide +kernel
theorem dX11_own_216 : decode cX11_own 216 = .ok (.if_icmp .ne 7, 3) := by decide +kernel
theorem dX11_own_219 : decode cX11_own 219 = .ok (.iconst 1, 1) := by decide +kernel
theorem dX11_own_220 : decode cX11_own 220 = .ok (.goto 4, 3) := by decide +kernel
theorem dX11_own_223 : decode cX11_own 223 = .ok (.iconst 0, 1) := by decide +kernel
theorem dX11_own_224 : decode cX11_own 224 = .ok (.istore 7, 2) := by decide +kernel
theorem dX11_own_226 : decode cX11_own 226 = .ok (.iload 7, 2) := by decide +kernel
theorem dX11_own_228 : decode cX11_own 228 = .ok (.ifCond .eq 7, 3) := by decide +kernel
theorem dX11_own_231 : decode cX11_own 231 = .ok (.iconst 0, 1) := by decide +kernel
theorem dX11_own_232 : decode cX11_own 232 = .ok (.goto 4, 3) := by decide +kernel
theorem dX11_own_235 : decode cX11_own 235 = .ok (.iconst 1, 1) := by decide +kernel
theorem dX11_own_236 : decode cX11_own 236 = .ok (.ireturn, 1) := by decide +kernel
theorem dX11_own_237 : decode cX11_own 237 = .ok (.aload_n 0, 1) := by decide +kernel
theorem dX11_own_238 : decode cX11_own 238 = .ok (.getfield 49, 3) := by decide +kernel
theorem dX11_own_241 : decode cX11_own 241 = .ok (.iload 5, 2) := by decide +kernel
theorem dX11_own_243 : decode cX11_own 243 = .ok (.aload_n 0, 1) := by decide +kernel
theorem dX11_own_244 : decode cX11_own 244 = .ok (.iload_n 1, 1) := by decide +kernel
theorem dX11_own_245 : decode cX11_own 245 = .ok (.iload_n 2, 1) := by decide +kernel
theorem dX11_own_246 : decode cX11_own 246 = .ok (.iconst 0, 1) := by decide +kernel
theorem dX11_own_247 : decode cX11_own 247 = .ok (.invokevirtual 122, 3) := by decide +kernel
theorem dX11_own_250 : decode cX11_own 250 = .ok (.iadd, 1) := by decide +kernel
theorem dX11_own_251 : decode cX11_own 251 = .ok (.iaload, 1) := by decide +kernel
theorem dX11_own_252 : decode cX11_own 252 = .ok (.iconst 1, 1) := by decide +kernel
theorem dX11_own_253 : decode cX11_own 253 = .ok (.if_icmp .le 8, 3) := by decide +kernel
theorem dX11_own_256 : decode cX11_own 256 = .ok (.iload 4, 2) := by decide +kernel
theorem dX11_own_258 : decode cX11_own 258 = .ok (.goto 4, 3) := by decide +kernel
theorem dX11_own_261 : decode cX11_own 261 = .ok (.iload_n 3, 1) := by decide +kernel
theorem dX11_own_262 : decode cX11_own 262 = .ok (.ireturn, 1) := by decide +kernel
theorem dX11_own_263 : decode cX11_own 263 = .ok (.aload_n 0, 1) := by decide +kernel
theorem dX11_own_264 : decode cX11_own 264 = .ok (.getfield 49, 3) := by decide +kernel
theorem dX11_own_267 : decode cX11_own 267 = .ok (.iload 5, 2) := by decide +kernel
theorem dX11_own_269 : decode cX11_own 269 = .ok (.aload_n 0, 1) := by decide +kernel
theorem dX11_own_270 : decode cX11_own 270 = .ok (.iload_n 1, 1) := by decide +kernel
theorem dX11_own_271 : decode cX11_own 271 = .ok (.iload_n 2, 1) := by decide +kernel
theorem dX11_own_272 : decode cX11_own 272 = .ok (.iconst 0, 1) := by decide +kernel
theorem dX11_own_273 : decode cX11_own 273 = .ok (.invokevirtual 122, 3) := by decide +kernel
theorem dX11_own_276 : decode cX11_own 276 = .ok (.iadd, 1) := by decide +kernel
theorem dX11_own_277 : decode cX11_own 277 = .ok (.iaload, 1) := by decide +kernel
theorem dX11_own_278 : decode cX11_own 278 = .ok (.iconst 1, 1) := by decide +kernel
theorem dX11_own_279 : decode cX11_own 279 = .ok (.if_icmp .le 7, 3) := by decide +kernel
theorem dX11_own_282 : decode cX11_own 282 = .ok (.iconst 1, 1) := by decide +kernel
theorem dX11_own_283 : decode cX11_own 283 = .ok (.goto 4, 3) := by decide +kernel
theorem dX11_own_286 : decode cX11_own 286 = .ok (.iconst 0, 1) := by decide +kernel
theorem dX11_own_287 : decode cX11_own 287 = .ok (.ireturn, 1) := by decide +kernel
theorem dX11_clashes1_0 : decode cX11_clashes1 0 = .ok (.aload_n 0, 1) := by decide +kernel
theorem dX11_clashes1_1 : decode cX11_clashes1 1 = .ok (.getfield 34, 3) := by decide +kernel
theorem dX11_clashes1_4 : decode cX11_clashes1 4 = .ok (.iload_n 1, 1) := by decide +kernel
theorem dX11_clashes1_5 : decode cX11_clashes1 5 = .ok (.iaload, 1) := by decide +kernel
theorem dX11_clashes1_6 : decode cX11_clashes1 6 = .ok (.istore_n 2, 1) := by decide +kernel
theorem dX11_clashes1_7 : decode cX11_clashes1 7 = .ok (.iload_n 2, 1) := by decide +kernel
theorem dX11_clashes1_8 : decode cX11_clashes1 8 = .ok (.iconst 1, 1) := by decide +kernel
theorem dX11_clashes1_9 : decode cX11_clashes1 9 = .ok (.if_icmp .eq 24, 3) := by decide +kernel
theorem dX11_clashes1_12 : decode cX11_clashes1 12 = .ok (.iload_n 2, 1) := by decide +kernel
theorem dX11_clashes1_13 : decode cX11_clashes1 13 = .ok (.iconst 2, 1) := by decide +kernel
theorem dX11_clashes1_14 : decode cX11_clashes1 14 = .ok (.if_icmp .eq 19, 3) := by decide +kernel
theorem dX11_clashes1_17 : decode cX11_clashes1 17 = .ok (.iload_n 2, 1) := by decide +kernel
theorem dX11_clashes1_18 : decode cX11_clashes1 18 = .ok (.iconst 3, 1) := by decide +kernel
theorem dX11_clashes1_19 : decode cX11_clashes1 19 = .ok (.if_icmp .eq 14, 3) := by decide +kernel
theorem dX11_clashes1_22 : decode cX11_clashes1 22 = .ok (.iload_n 2, 1) := by decide +kernel
theorem dX11_clashes1_23 : decode cX11_clashes1 23 = .ok (.iconst 5, 1) := by decide +kernel
theorem dX11_clashes1_24 : decode cX11_clashes1 24 = .ok (.if_icmp .eq 9, 3) := by decide +kernel
theorem dX11_clashes1_27 : decode cX11_clashes1 27 = .ok (.iload_n 2, 1) := by decide +kernel
theorem dX11_clashes1_28 : decode cX11_clashes1 28 = .ok (.bipush 7, 2) := by decide +kernel
theorem dX11_clashes1_30 : decode cX11_clashes1 30 = .ok (.if_icmp .ne 7, 3) := by decide +kernel
theorem dX11_clashes1_33 : decode cX11_clashes1 33 = .ok (.iconst 1, 1) := by decide +kernel
theorem dX11_clashes1_34 : decode cX11_clashes1 34 = .ok (.goto 4, 3) := by decide +kernel
theorem dX11_clashes1_37 : decode cX11_clashes1 37 = .ok (.iconst 0, 1) := by decide +kernel
theorem dX11_clashes1_38 : decode cX11_clashes1 38 = .ok (.ireturn, 1) := by decide +kernel
theorem dX11_clash_0 : decode cX11_clash 0 = .ok (.sipush 812, 3) := by decide +kernel
theorem dX11_clash_3 : decode cX11_clash 3 = .ok (.iload_n 1, 1) := by decide +kernel
theorem dX11_clash_4 : decode cX11_clash 4 = .ok (.imul, 1) := by decide +kernel
theorem dX11_clash_5 : decode cX11_clash 5 = .ok (.istore_n 3, 1) := by decide +kernel
theorem dX11_clash_6 : decode cX11_clash 6 = .ok (.iload_n 3, 1) := by decide +kernel
theorem dX11_clash_7 : decode cX11_clash 7 = .ok (.sipush 512, 3) := by decide +kernel
theorem dX11_clash_10 : decode cX11_clash 10 = .ok (.iadd, 1) := by decide +kernel
theorem dX11_clash_11 : decode cX11_clash 11 = .ok (.aload_n 0, 1) := by decide +kernel
theorem dX11_clash_12 : decode cX11_clash 12 = .ok (.iload_n 1, 1) := by decide +kernel
theorem dX11_clash_13 : decode cX11_clash 13 = .ok (.iload_n 2, 1) := by decide +kernel
theorem dX11_clash_14 : decode cX11_clash 14 = .ok (.iconst 0, 1) := by decide +kernel
theorem dX11_clash_15 : decode cX11_clash 15 = .ok (.invokevirtual 122, 3) := by decide +kernel
theorem dX11_clash_18 : decode cX11_clash 18 = .ok (.iadd, 1) := by decide +kernel
theorem dX11_clash_19 : decode cX11_clash 19 = .ok (.istore 4, 2) := by decide +kernel
theorem dX11_clash_21 : decode cX11_clash 21 = .ok (.aload_n 0, 1) := by decide +kernel
theorem dX11_clash_22 : decode cX11_clash 22 = .ok (.getfield 49, 3) := by decide +kernel
theorem dX11_clash_25 : decode cX11_clash 25 = .ok (.iload 4, 2) := by decide +kernel
theorem dX11_clash_27 : decode cX11_clash 27 = .ok (.iaload, 1) := by decide +kernel
theorem dX11_clash_28 : decode cX11_clash 28 = .ok (.istore 5, 2) := by decide +kernel
theorem dX11_clash_30 : decode cX11_clash 30 = .ok (.aload_n 0, 1) := by decide +kernel
theorem dX11_clash_31 : decode cX11_clash 31 = .ok (.getfield 49, 3) := by decide +kernel
theorem dX11_clash_34 : decode cX11_clash 34 = .ok (.iload 4, 2) := by decide +kernel
theorem dX11_clash_36 : decode cX11_clash 36 = .ok (.iload_n 2, 1) := by decide +kernel
theorem dX11_clash_37 : decode cX11_clash 37 = .ok (.iastore, 1) := by decide +kernel
theorem dX11_clash_38 : decode cX11_clash 38 = .ok (.iload 5, 2) := by decide +kernel
theorem dX11_clash_40 : decode cX11_clash 40 = .ok (.ifCond .lt 9, 3) := by decide +kernel
theorem dX11_clash_43 : decode cX11_clash 43 = .ok (.iload 5, 2) := by decide +kernel
theorem dX11_clash_45 : decode cX11_clash 45 = .ok (.iload_n 2, 1) := by decide +kernel
theorem dX11_clash_46 : decode cX11_clash 46 = .ok (.if_icmp .ne 4, 3) := by decide +kernel
theorem dX11_clash_49 : decode cX11_clash 49 = .ok (.return_, 1) := by decide +kernel
theorem dX11_clash_50 : decode cX11_clash 50 = .ok (.aload_n 0, 1) := by decide +kernel
theorem dX11_clash_51 : decode cX11_clash 51 = .ok (.getfield 49, 3) := by decide +kernel
theorem dX11_clash_54 : decode cX11_clash 54 = .ok (.iload_n 3, 1) := by decide +kernel
theorem dX11_clash_55 : decode cX11_clash 55 = .ok (.sipush 810, 3) := by decide +kernel
theorem dX11_clash_58 : decode cX11_clash 58 = .ok (.iadd, 1) := by decide +kernel
theorem dX11_clash_59 : decode cX11_clash 59 = .ok (.dup2, 1) := by decide +kernel
theorem dX11_clash_60 : decode cX11_clash 60 = .ok (.iaload, 1) := by decide +kernel
theorem dX11_clash_61 : decode cX11_clash 61 = .ok (.iconst 1, 1) := by decide +kernel
theorem dX11_clash_62 : decode cX11_clash 62 = .ok (.iadd, 1) := by decide +kernel
theorem dX11_clash_63 : decode cX11_clash 63 = .ok (.iastore, 1) := by decide +kernel
theorem dX11_clash_64 : decode cX11_clash 64 = .ok (.iload 5, 2) := by decide +kernel
theorem dX11_clash_66 : decode cX11_clash 66 = .ok (.iload_n 2, 1) := by decide +kernel
theorem dX11_clash_67 : decode cX11_clash 67 = .ok (.if_icmp .ge 13, 3) := by decide +kernel
theorem dX11_clash_70 : decode cX11_clash 70 = .ok (.bipush 64, 2) := by decide +kernel
theorem dX11_clash_72 : decode cX11_clash 72 = .ok (.iload 5, 2) := by decide +kernel
theorem dX11_clash_74 : decode cX11_clash 74 = .ok (.imul, 1) := by decide +kernel
theorem dX11_clash_75 : decode cX11_clash 75 = .ok (.iload_n 2, 1) := by decide +kernel
theorem dX11_clash_76 : decode cX11_clash 76 = .ok (.iadd, 1) := by decide +kernel
theorem dX11_clash_77 : decode cX11_clash 77 = .ok (.goto 10, 3) := by decide +kernel
theorem dX11_clash_80 : decode cX11_clash 80 = .ok (.bipush 64, 2) := by decide +kernel
theorem dX11_clash_82 : decode cX11_clash 82 = .ok (.iload_n 2, 1) := by decide +kernel
theorem dX11_clash_83 : decode cX11_clash 83 = .ok (.imul, 1) := by decide +kernel
theorem dX11_clash_84 : decode cX11_clash 84 = .ok (.iload 5, 2) := by decide +kernel
theorem dX11_clash_86 : decode cX11_clash 86 = .ok (.iadd, 1) := by decide +kernel
theorem dX11_clash_87 : decode cX11_clash 87 = .ok (.istore 6, 2) := by decide +kernel
theorem dX11_clash_89 : decode cX11_clash 89 = .ok (.iconst 0, 1) := by decide +kernel
theorem dX11_clash_90 : decode cX11_clash 90 = .ok (.istore 7, 2) := by decide +kernel
theorem dX11_clash_92 : decode cX11_clash 92 = .ok (.iload 7, 2) := by decide +kernel
theorem dX11_clash_94 : decode cX11_clash 94 = .ok (.aload_n 0, 1) := by decide +kernel
theorem dX11_clash_95 : decode cX11_clash 95 = .ok (.getfield 49, 3) := by decide +kernel
theorem dX11_clash_98 : decode cX11_clash 98 = .ok (.iload_n 3, 1) := by decide +kernel
theorem dX11_clash_99 : decode cX11_clash 99 = .ok (.sipush 811, 3) := by decide +kernel
theorem dX11_clash_102 : decode cX11_clash 102 = .ok (.iadd, 1) := by decide +kernel
theorem dX11_clash_103 : decode cX11_clash 103 = .ok (.iaload, 1) := by decide +kernel
theorem dX11_clash_104 : decode cX11_clash 104 = .ok (.if_icmp .ge 28, 3) := by decide +kernel
theorem dX11_clash_107 : decode cX11_clash 107 = .ok (.aload_n 0, 1) := by decide +kernel
theorem dX11_clash_108 : decode cX11_clash 108 = .ok (.getfield 49, 3) := by decide +kernel
theorem dX11_clash_111 : decode cX11_clash 111 = .ok (.iload_n 3, 1) := by decide +kernel
theorem dX11_clash_112 : decode cX11_clash 112 = .ok (.sipush 768, 3) := by decide +kernel
theorem dX11_clash_115 : decode cX11_clash 115 = .ok (.iadd, 1) := by decide +kernel
theorem dX11_clash_116 : decode cX11_clash 116 = .ok (.iload 7, 2) := by decide +kernel
theorem dX11_clash_118 : decode cX11_clash 118 = .ok (.iadd, 1) := by decide +kernel
theorem dX11_clash_119 : decode cX11_clash 119 = .ok (.iaload, 1) := by decide +kernel
theorem dX11_clash_120 : decode cX11_clash 120 = .ok (.iload 6, 2) := by decide +kernel
theorem dX11_clash_122 : decode cX11_clash 122 = .ok (.if_icmp .ne 4, 3) := by decide +kernel
theorem dX11_clash_125 : decode cX11_clash 125 = .ok (.return_, 1) := by decide +kernel
theorem dX11_clash_126 : decode cX11_clash 126 = .ok (.iinc 7 1, 3) := by decide +kernel
theorem dX11_clash_129 : decode cX11_clash 129 = .ok (.goto (-37), 3) := by decide +kernel
theorem dX11_clash_132 : decode cX11_clash 132 = .ok (.aload_n 0, 1) := by decide +kernel
theorem dX11_clash_133 : decode cX11_clash 133 = .ok (.getfield 49, 3) := by decide +kernel
theorem dX11_clash_136 : decode cX11_clash 136 = .ok (.iload_n 3, 1) := by decide +kernel
theorem dX11_clash_137 : decode cX11_clash 137 = .ok (.sipush 811, 3) := by decide +kernel
theorem dX11_clash_140 : decode cX11_clash 140 = .ok (.iadd, 1) := by decide +kernel
theorem dX11_clash_141 : decode cX11_clash 141 = .ok (.iaload, 1) := by decide +kernel
theorem dX11_clash_142 : decode cX11_clash 142 = .ok (.bipush 40, 2) := by decide +kernel
theorem dX11_clash_144 : decode cX11_clash 144 = .ok (.if_icmp .ge 40, 3) := by decide +kernel
theorem dX11_clash_147 : decode cX11_clash 147 = .ok (.aload_n 0, 1) := by decide +kernel
theorem dX11_clash_148 : decode cX11_clash 148 = .ok (.getfield 49, 3) := by decide +kernel
theorem dX11_clash_151 : decode cX11_clash 151 = .ok (.iload_n 3, 1) := by decide +kernel
theorem dX11_clash_152 : decode cX11_clash 152 = .ok (.sipush 768, 3) := by decide +kernel
theorem dX11_clash_155 : decode cX11_clash 155 = .ok (.iadd, 1) := by decide +kernel
theorem dX11_clash_156 : decode cX11_clash 156 = .ok (.aload_n 0, 1) := by decide +kernel
theorem dX11_clash_157 : decode cX11_clash 157 = .ok (.getfield 49, 3) := by decide +kernel
theorem dX11_clash_160 : decode cX11_clash 160 = .ok (.iload_n 3, 1) := by decide +kernel
theorem dX11_clash_161 : decode cX11_clash 161 = .ok (.sipush 811, 3) := by decide +kernel
theorem dX11_clash_164 : decode cX11_clash 164 = .ok (.iadd, 1) := by decide +kernel
theorem dX11_clash_165 : decode cX11_clash 165 = .ok (.iaload, 1) := by decide +kernel
theorem dX11_clash_166 : decode cX11_clash 166 = .ok (.iadd, 1) := by decide +kernel
theorem dX11_clash_167 : decode cX11_clash 167 = .ok (.iload 6, 2) := by decide +kernel
theorem dX11_clash_169 : decode cX11_clash 169 = .ok (.iastore, 1) := by decide +kernel
theorem dX11_clash_170 : decode cX11_clash 170 = .ok (.aload_n 0, 1) := by decide +kernel
theorem dX11_clash_171 : decode cX11_clash 171 = .ok (.getfield 49, 3) := by decide +kernel
theorem dX11_clash_174 : decode cX11_clash 174 = .ok (.iload_n 3, 1) := by decide +kernel
theorem dX11_clash_175 : decode cX11_clash 175 = .ok (.sipush 811, 3) := by decide +kernel
theorem dX11_clash_178 : decode cX11_clash 178 = .ok (.iadd, 1) := by decide +kernel
theorem dX11_clash_179 : decode cX11_clash 179 = .ok (.dup2, 1) := by decide +kernel
theorem dX11_clash_180 : decode cX11_clash 180 = .ok (.iaload, 1) := by decide +kernel
theorem dX11_clash_181 : decode cX11_clash 181 = .ok (.iconst 1, 1) := by decide +kernel
theorem dX11_clash_182 : decode cX11_clash 182 = .ok (.iadd, 1) := by decide +kernel
theorem dX11_clash_183 : decode cX11_clash 183 = .ok (.iastore, 1) := by decide +kernel
theorem dX11_clash_184 : decode cX11_clash 184 = .ok (.return_, 1) := by decide +kernel
theorem dX11_asks_0 : decode cX11_asks 0 = .ok (.sipush 812, 3) := by decide +kernel
theorem dX11_asks_3 : decode cX11_asks 3 = .ok (.iload_n 1, 1) := by decide +kernel
theorem dX11_asks_4 : decode cX11_asks 4 = .ok (.imul, 1) := by decide +kernel
theorem dX11_asks_5 : decode cX11_asks 5 = .ok (.istore 4, 2) := by decide +kernel
theorem dX11_asks_7 : decode cX11_asks 7 = .ok (.aload_n 0, 1) := by decide +kernel
theorem dX11_asks_8 : decode cX11_asks 8 = .ok (.iload_n 1, 1) := by decide +kernel
theorem dX11_asks_9 : decode cX11_asks 9 = .ok (.invokevirtual 129, 3) := by decide +kernel
theorem dX11_asks_12 : decode cX11_asks 12 = .ok (.ifCond .eq 9, 3) := by decide +kernel
theorem dX11_asks_15 : decode cX11_asks 15 = .ok (.aload_n 0, 1) := by decide +kernel
theorem dX11_asks_16 : decode cX11_asks 16 = .ok (.iload_n 1, 1) := by decide +kernel
theorem dX11_asks_17 : decode cX11_asks 17 = .ok (.iload_n 2, 1) := by decide +kernel
theorem dX11_asks_18 : decode cX11_asks 18 = .ok (.invokevirtual 132, 3) := by decide +kernel
theorem dX11_asks_21 : decode cX11_asks 21 = .ok (.aload_n 0, 1) := by decide +kernel
theorem dX11_asks_22 : decode cX11_asks 22 = .ok (.getfield 34, 3) := by decide +kernel
theorem dX11_asks_25 : decode cX11_asks 25 = .ok (.iload_n 1, 1) := by decide +kernel
theorem dX11_asks_26 : decode cX11_asks 26 = .ok (.iaload, 1) := by decide +kernel
theorem dX11_asks_27 : decode cX11_asks 27 = .ok (.bipush 7, 2) := by decide +kernel
theorem dX11_asks_29 : decode cX11_asks 29 = .ok (.if_icmp .ne 17, 3) := by decide +kernel
theorem dX11_asks_32 : decode cX11_asks 32 = .ok (.aload_n 0, 1) := by decide +kernel
theorem dX11_asks_33 : decode cX11_asks 33 = .ok (.getfield 59, 3) := by decide +kernel
theorem dX11_asks_36 : decode cX11_asks 36 = .ok (.aload_n 0, 1) := by decide +kernel
theorem dX11_asks_37 : decode cX11_asks 37 = .ok (.getfield 37, 3) := by decide +kernel
theorem dX11_asks_40 : decode cX11_asks 40 = .ok (.iload_n 1, 1) := by decide +kernel
theorem dX11_asks_41 : decode cX11_asks 41 = .ok (.iaload, 1) := by decide +kernel
theorem dX11_asks_42 : decode cX11_asks 42 = .ok (.iaload, 1) := by decide +kernel
theorem dX11_asks_43 : decode cX11_asks 43 = .ok (.goto 4, 3) := by decide +kernel
theorem dX11_asks_46 : decode cX11_asks 46 = .ok (.iconst 0, 1) := by decide +kernel
theorem dX11_asks_47 : decode cX11_asks 47 = .ok (.istore 5, 2) := by decide +kernel
theorem dX11_asks_49 : decode cX11_asks 49 = .ok (.aload_n 0, 1) := by decide +kernel
theorem dX11_asks_50 : decode cX11_asks 50 = .ok (.getfield 34, 3) := by decide +kernel
theorem dX11_asks_53 : decode cX11_asks 53 = .ok (.iload_n 1, 1) := by decide +kernel
theorem dX11_asks_54 : decode cX11_asks 54 = .ok (.iaload, 1) := by decide +kernel
theorem dX11_asks_55 : decode cX11_asks 55 = .ok (.bipush 7, 2) := by decide +kernel
theorem dX11_asks_57 : decode cX11_asks 57 = .ok (.if_icmp .ne 17, 3) := by decide +kernel
theorem dX11_asks_60 : decode cX11_asks 60 = .ok (.aload_n 0, 1) := by decide +kernel
theorem dX11_asks_61 : decode cX11_asks 61 = .ok (.getfield 59, 3) := by decide +kernel
theorem dX11_asks_64 : decode cX11_asks 64 = .ok (.aload_n 0, 1) := by decide +kernel
theorem dX11_asks_65 : decode cX11_asks 65 = .ok (.getfield 40, 3) := by decide +kernel
theorem dX11_asks_68 : decode cX11_asks 68 = .ok (.iload_n 1, 1) := by decide +kernel
theorem dX11_asks_69 : decode cX11_asks 69 = .ok (.iaload, 1) := by decide +kernel
theorem dX11_asks_70 : decode cX11_asks 70 = .ok (.iaload, 1) := by decide +kernel
theorem dX11_asks_71 : decode cX11_asks 71 = .ok (.goto 4, 3) := by decide +kernel
theorem dX11_asks_74 : decode cX11_asks 74 = .ok (.iconst 0, 1) := by decide +kernel
theorem dX11_asks_75 : decode cX11_asks 75 = .ok (.istore 6, 2) := by decide +kernel
theorem dX11_asks_77 : decode cX11_asks 77 = .ok (.aload_n 0, 1) := by decide +kernel
theorem dX11_asks_78 : decode cX11_asks 78 = .ok (.getfield 46, 3) := by decide +kernel
theorem dX11_asks_81 : decode cX11_asks 81 = .ok (.bipush 64, 2) := by decide +kernel
theorem dX11_asks_83 : decode cX11_asks 83 = .ok (.iload_n 1, 1) := by decide +kernel
theorem dX11_asks_84 : decode cX11_asks 84 = .ok (.imul, 1) := by decide +kernel
theorem dX11_asks_85 : decode cX11_asks 85 = .ok (.iload_n 2, 1) := by decide +kernel
theorem dX11_asks_86 : decode cX11_asks 86 = .ok (.iadd, 1) := by decide +kernel
theorem dX11_asks_87 : decode cX11_asks 87 = .ok (.iaload, 1) := by decide +kernel
theorem dX11_asks_88 : decode cX11_asks 88 = .ok (.istore 7, 2) := by decide +kernel
theorem dX11_asks_90 : decode cX11_asks 90 = .ok (.aload_n 0, 1) := by decide +kernel
theorem dX11_asks_91 : decode cX11_asks 91 = .ok (.getfield 59, 3) := by decide +kernel
theorem dX11_asks_94 : decode cX11_asks 94 = .ok (.iload_n 1, 1) := by decide +kernel
theorem dX11_asks_95 : decode cX11_asks 95 = .ok (.iload 7, 2) := by decide +kernel
theorem dX11_asks_97 : decode cX11_asks 97 = .ok (.ifCond .lt 8, 3) := by decide +kernel
theorem dX11_asks_100 : decode cX11_asks 100 = .ok (.iload 7, 2) := by decide +kernel
theorem dX11_asks_102 : decode cX11_asks 102 = .ok (.goto 13, 3) := by decide +kernel
theorem dX11_asks_105 : decode cX11_asks 105 = .ok (.aload_n 0, 1) := by decide +kernel
theorem dX11_asks_106 : decode cX11_asks 106 = .ok (.iload_n 1, 1) := by decide +kernel
theorem dX11_asks_107 : decode cX11_asks 107 = .ok (.iload_n 2, 1) := by decide +kernel
theorem dX11_asks_108 : decode cX11_asks 108 = .ok (.iload 5, 2) := by decide +kernel
theorem dX11_asks_110 : decode cX11_asks 110 = .ok (.iload 6, 2) := by decide +kernel
theorem dX11_asks_112 : decode cX11_asks 112 = .ok (.invokevirtual 135, 3) := by decide +kernel
theorem dX11_asks_115 : decode cX11_asks 115 = .ok (.iastore, 1) := by decide +kernel
theorem dX11_asks_116 : decode cX11_asks 116 = .ok (.aload_n 0, 1) := by decide +kernel
theorem dX11_asks_117 : decode cX11_asks 117 = .ok (.getfield 59, 3) := by decide +kernel
theorem dX11_asks_120 : decode cX11_asks 120 = .ok (.iload_n 1, 1) := by decide +kernel
theorem dX11_asks_121 : decode cX11_asks 121 = .ok (.iaload, 1) := by decide +kernel
theorem dX11_asks_122 : decode cX11_asks 122 = .ok (.iload_n 3, 1) := by decide +kernel
theorem dX11_asks_123 : decode cX11_asks 123 = .ok (.if_icmp .eq 7, 3) := by decide +kernel
theorem dX11_asks_126 : decode cX11_asks 126 = .ok (.iconst 1, 1) := by decide +kernel
theorem dX11_asks_127 : decode cX11_asks 127 = .ok (.goto 4, 3) := by decide +kernel
theorem dX11_asks_130 : decode cX11_asks 130 = .ok (.iconst 0, 1) := by decide +kernel
theorem dX11_asks_131 : decode cX11_asks 131 = .ok (.istore 8, 2) := by decide +kernel
theorem dX11_asks_133 : decode cX11_asks 133 = .ok (.aload_n 0, 1) := by decide +kernel
theorem dX11_asks_134 : decode cX11_asks 134 = .ok (.getfield 49, 3) := by decide +kernel
theorem dX11_asks_137 : decode cX11_asks 137 = .ok (.iload 4, 2) := by decide +kernel
theorem dX11_asks_139 : decode cX11_asks 139 = .ok (.sipush 448, 3) := by decide +kernel
theorem dX11_asks_142 : decode cX11_asks 142 = .ok (.iadd, 1) := by decide +kernel
theorem dX11_asks_143 : decode cX11_asks 143 = .ok (.iload_n 2, 1) := by decide +kernel
theorem dX11_asks_144 : decode cX11_asks 144 = .ok (.iadd, 1) := by decide +kernel
theorem dX11_asks_145 : decode cX11_asks 145 = .ok (.dup2, 1) := by decide +kernel
theorem dX11_asks_146 : decode cX11_asks 146 = .ok (.iaload, 1) := by decide +kernel
theorem dX11_asks_147 : decode cX11_asks 147 = .ok (.iload 8, 2) := by decide +kernel
theorem dX11_asks_149 : decode cX11_asks 149 = .ok (.ifCond .eq 7, 3) := by decide +kernel
theorem dX11_asks_152 : decode cX11_asks 152 = .ok (.iconst 1, 1) := by decide +kernel
theorem dX11_asks_153 : decode cX11_asks 153 = .ok (.goto 4, 3) := by decide +kernel
theorem dX11_asks_156 : decode cX11_asks 156 = .ok (.iconst 0, 1) := by decide +kernel
theorem dX11_asks_157 : decode cX11_asks 157 = .ok (.iadd, 1) := by decide +kernel
theorem dX11_asks_158 : decode cX11_asks 158 = .ok (.iastore, 1) := by decide +kernel
theorem dX11_asks_159 : decode cX11_asks 159 = .ok (.aload_n 0, 1) := by decide +kernel
theorem dX11_asks_160 : decode cX11_asks 160 = .ok (.getfield 49, 3) := by decide +kernel
theorem dX11_asks_163 : decode cX11_asks 163 = .ok (.iload 4, 2) := by decide +kernel
theorem dX11_asks_165 : decode cX11_asks 165 = .ok (.sipush 809, 3) := by decide +kernel
theorem dX11_asks_168 : decode cX11_asks 168 = .ok (.iadd, 1) := by decide +kernel
theorem dX11_asks_169 : decode cX11_asks 169 = .ok (.dup2, 1) := by decide +kernel
theorem dX11_asks_170 : decode cX11_asks 170 = .ok (.iaload, 1) := by decide +kernel
theorem dX11_asks_171 : decode cX11_asks 171 = .ok (.iconst 1, 1) := by decide +kernel
theorem dX11_asks_172 : decode cX11_asks 172 = .ok (.iadd, 1) := by decide +kernel
theorem dX11_asks_173 : decode cX11_asks 173 = .ok (.iastore, 1) := by decide +kernel
theorem dX11_asks_174 : decode cX11_asks 174 = .ok (.aload_n 0, 1) := by decide +kernel
theorem dX11_asks_175 : decode cX11_asks 175 = .ok (.getfield 34, 3) := by decide +kernel
theorem dX11_asks_178 : decode cX11_asks 178 = .ok (.iload_n 1, 1) := by decide +kernel
theorem dX11_asks_179 : decode cX11_asks 179 = .ok (.iaload, 1) := by decide +kernel
theorem dX11_asks_180 : decode cX11_asks 180 = .ok (.tableswitch 144 0 7 #[48, 144, 144, 144, 51, 85, 95, 109], 48) := by decide +kernel
theorem dX11_asks_228 : decode cX11_asks 228 = .ok (.goto 111, 3) := by decide +kernel
theorem dX11_asks_231 : decode cX11_asks 231 = .ok (.iconst 0, 1) := by decide +kernel
theorem dX11_asks_232 : decode cX11_asks 232 = .ok (.istore 9, 2) := by decide +kernel
theorem dX11_asks_234 : decode cX11_asks 234 = .ok (.iload 9, 2) := by decide +kernel
theorem dX11_asks_236 : decode cX11_asks 236 = .ok (.iconst 3, 1) := by decide +kernel
theorem dX11_asks_237 : decode cX11_asks 237 = .ok (.if_icmp .ge 25, 3) := by decide +kernel
theorem dX11_asks_240 : decode cX11_asks 240 = .ok (.aload_n 0, 1) := by decide +kernel
theorem dX11_asks_241 : decode cX11_asks 241 = .ok (.iload 4, 2) := by decide +kernel
theorem dX11_asks_243 : decode cX11_asks 243 = .ok (.aload_n 0, 1) := by decide +kernel
theorem dX11_asks_244 : decode cX11_asks 244 = .ok (.iload_n 1, 1) := by decide +kernel
theorem dX11_asks_245 : decode cX11_asks 245 = .ok (.iload_n 2, 1) := by decide +kernel
theorem dX11_asks_246 : decode cX11_asks 246 = .ok (.iload 9, 2) := by decide +kernel
theorem dX11_asks_248 : decode cX11_asks 248 = .ok (.invokevirtual 122, 3) := by decide +kernel
theorem dX11_asks_251 : decode cX11_asks 251 = .ok (.iadd, 1) := by decide +kernel
theorem dX11_asks_252 : decode cX11_asks 252 = .ok (.iload_n 3, 1) := by decide +kernel
theorem dX11_asks_253 : decode cX11_asks 253 = .ok (.invokevirtual 139, 3) := by decide +kernel
theorem dX11_asks_256 : decode cX11_asks 256 = .ok (.iinc 9 1, 3) := by decide +kernel
theorem dX11_asks_259 : decode cX11_asks 259 = .ok (.goto (-25), 3) := by decide +kernel
theorem dX11_asks_262 : decode cX11_asks 262 = .ok (.goto 77, 3) := by decide +kernel
theorem dX11_asks_265 : decode cX11_asks 265 = .ok (.aload_n 0, 1) := by decide +kernel
theorem dX11_asks_266 : decode cX11_asks 266 = .ok (.iload_n 1, 1) := by decide +kernel
theorem dX11_asks_267 : decode cX11_asks 267 = .ok (.iload_n 2, 1) := by decide +kernel
theorem dX11_asks_268 : decode cX11_asks 268 = .ok (.iload_n 3, 1) := by decide +kernel
theorem dX11_asks_269 : decode cX11_asks 269 = .ok (.invokevirtual 142, 3) := by decide +kernel
theorem dX11_asks_272 : decode cX11_asks 272 = .ok (.goto 67, 3) := by decide +kernel
theorem dX11_asks_275 : decode cX11_asks 275 = .ok (.aload_n 0, 1) := by decide +kernel
theorem dX11_asks_276 : decode cX11_asks 276 = .ok (.iload 4, 2) := by decide +kernel
theorem dX11_asks_278 : decode cX11_asks 278 = .ok (.iconst 3, 1) := by decide +kernel
theorem dX11_asks_279 : decode cX11_asks 279 = .ok (.iload_n 2, 1) := by decide +kernel
theorem dX11_asks_280 : decode cX11_asks 280 = .ok (.imul, 1) := by decide +kernel
theorem dX11_asks_281 : decode cX11_asks 281 = .ok (.iadd, 1) := by decide +kernel
theorem dX11_asks_282 : decode cX11_asks 282 = .ok (.iload_n 3, 1) := by decide +kernel
theorem dX11_asks_283 : decode cX11_asks 283 = .ok (.invokevirtual 145, 3) := by decide +kernel
theorem dX11_asks_286 : decode cX11_asks 286 = .ok (.goto 53, 3) := by decide +kernel
theorem dX11_asks_289 : decode cX11_asks 289 = .ok (.iload 5, 2) := by decide +kernel
theorem dX11_asks_291 : decode cX11_asks 291 = .ok (.iload 6, 2) := by decide +kernel
theorem dX11_asks_293 : decode cX11_asks 293 = .ok (.if_icmp .eq 46, 3) := by decide +kernel
theorem dX11_asks_296 : decode cX11_asks 296 = .ok (.aload_n 0, 1) := by decide +kernel
theorem dX11_asks_297 : decode cX11_asks 297 = .ok (.iload 4, 2) := by decide +kernel
theorem dX11_asks_299 : decode cX11_asks 299 = .ok (.aload_n 0, 1) := by decide +kernel
theorem dX11_asks_300 : decode cX11_asks 300 = .ok (.iload_n 1, 1) := by decide +kernel
theorem dX11_asks_301 : decode cX11_asks 301 = .ok (.iload_n 2, 1) := by decide +kernel
theorem dX11_asks_302 : decode cX11_asks 302 = .ok (.iconst 0, 1) := by decide +kernel
theorem dX11_asks_303 : decode cX11_asks 303 = .ok (.invokevirtual 122, 3) := by decide +kernel
theorem dX11_asks_306 : decode cX11_asks 306 = .ok (.iadd, 1) := by decide +kernel
theorem dX11_asks_307 : decode cX11_asks 307 = .ok (.iload 6, 2) := by decide +kernel
theorem dX11_asks_309 : decode cX11_asks 309 = .ok (.iload_n 3, 1) := by decide +kernel
theorem dX11_asks_310 : decode cX11_asks 310 = .ok (.if_icmp .ne 7, 3) := by decide +kernel
theorem dX11_asks_313 : decode cX11_asks 313 = .ok (.iconst 1, 1) := by decide +kernel
theorem dX11_asks_314 : decode cX11_asks 314 = .ok (.goto 4, 3) := by decide +kernel
theorem dX11_asks_317 : decode cX11_asks 317 = .ok (.iconst 0, 1) := by decide +kernel
theorem dX11_asks_318 : decode cX11_asks 318 = .ok (.invokevirtual 139, 3) := by decide +kernel
theorem dX11_asks_321 : decode cX11_asks 321 = .ok (.goto 18, 3) := by decide +kernel
theorem dX11_asks_324 : decode cX11_asks 324 = .ok (.aload_n 0, 1) := by decide +kernel
theorem dX11_asks_325 : decode cX11_asks 325 = .ok (.iload 4, 2) := by decide +kernel
theorem dX11_asks_327 : decode cX11_asks 327 = .ok (.aload_n 0, 1) := by decide +kernel
theorem dX11_asks_328 : decode cX11_asks 328 = .ok (.iload_n 1, 1) := by decide +kernel
theorem dX11_asks_329 : decode cX11_asks 329 = .ok (.iload_n 2, 1) := by decide +kernel
theorem dX11_asks_330 : decode cX11_asks 330 = .ok (.iconst 0, 1) := by decide +kernel
theorem dX11_asks_331 : decode cX11_asks 331 = .ok (.invokevirtual 122, 3) := by decide +kernel
theorem dX11_asks_334 : decode cX11_asks 334 = .ok (.iadd, 1) := by decide +kernel
theorem dX11_asks_335 : decode cX11_asks 335 = .ok (.iload_n 3, 1) := by decide +kernel
theorem dX11_asks_336 : decode cX11_asks 336 = .ok (.invokevirtual 139, 3) := by decide +kernel
theorem dX11_asks_339 : decode cX11_asks 339 = .ok (.aload_n 0, 1) := by decide +kernel
theorem dX11_asks_340 : decode cX11_asks 340 = .ok (.getfield 49, 3) := by decide +kernel
theorem dX11_asks_343 : decode cX11_asks 343 = .ok (.iload 4, 2) := by decide +kernel
theorem dX11_asks_345 : decode cX11_asks 345 = .ok (.sipush 808, 3) := by decide +kernel
theorem dX11_asks_348 : decode cX11_asks 348 = .ok (.iadd, 1) := by decide +kernel
theorem dX11_asks_349 : decode cX11_asks 349 = .ok (.aload_n 0, 1) := by decide +kernel
theorem dX11_asks_350 : decode cX11_asks 350 = .ok (.getfield 49, 3) := by decide +kernel
theorem dX11_asks_353 : decode cX11_asks 353 = .ok (.iload 4, 2) := by decide +kernel
theorem dX11_asks_355 : decode cX11_asks 355 = .ok (.sipush 808, 3) := by decide +kernel
theorem dX11_asks_358 : decode cX11_asks 358 = .ok (.iadd, 1) := by decide +kernel
theorem dX11_asks_359 : decode cX11_asks 359 = .ok (.iaload, 1) := by decide +kernel
theorem dX11_asks_360 : decode cX11_asks 360 = .ok (.iconst 1, 1) := by decide +kernel
theorem dX11_asks_361 : decode cX11_asks 361 = .ok (.ishl, 1) := by decide +kernel
theorem dX11_asks_362 : decode cX11_asks 362 = .ok (.iload_n 3, 1) := by decide +kernel
theorem dX11_asks_363 : decode cX11_asks 363 = .ok (.ior, 1) := by decide +kernel
theorem dX11_asks_364 : decode cX11_asks 364 = .ok (.ldc 148, 2) := by decide +kernel
theorem dX11_asks_366 : decode cX11_asks 366 = .ok (.iand, 1) := by decide +kernel
theorem dX11_asks_367 : decode cX11_asks 367 = .ok (.iastore, 1) := by decide +kernel
theorem dX11_asks_368 : decode cX11_asks 368 = .ok (.aload_n 0, 1) := by decide +kernel
theorem dX11_asks_369 : decode cX11_asks 369 = .ok (.getfield 49, 3) := by decide +kernel
theorem dX11_asks_372 : decode cX11_asks 372 = .ok (.iload 4, 2) := by decide +kernel
theorem dX11_asks_374 : decode cX11_asks 374 = .ok (.sipush 384, 3) := by decide +kernel
theorem dX11_asks_377 : decode cX11_asks 377 = .ok (.iadd, 1) := by decide +kernel
theorem dX11_asks_378 : decode cX11_asks 378 = .ok (.iload_n 2, 1) := by decide +kernel
theorem dX11_asks_379 : decode cX11_asks 379 = .ok (.iadd, 1) := by decide +kernel
theorem dX11_asks_380 : decode cX11_asks 380 = .ok (.aload_n 0, 1) := by decide +kernel
theorem dX11_asks_381 : decode cX11_asks 381 = .ok (.getfield 49, 3) := by decide +kernel
theorem dX11_asks_384 : decode cX11_asks 384 = .ok (.iload 4, 2) := by decide +kernel
theorem dX11_asks_386 : decode cX11_asks 386 = .ok (.sipush 384, 3) := by decide +kernel
theorem dX11_asks_389 : decode cX11_asks 389 = .ok (.iadd, 1) := by decide +kernel
theorem dX11_asks_390 : decode cX11_asks 390 = .ok (.iload_n 2, 1) := by decide +kernel
theorem dX11_asks_391 : decode cX11_asks 391 = .ok (.iadd, 1) := by decide +kernel
theorem dX11_asks_392 : decode cX11_asks 392 = .ok (.iaload, 1) := by decide +kernel
theorem dX11_asks_393 : decode cX11_asks 393 = .ok (.iconst 1, 1) := by decide +kernel
theorem dX11_asks_394 : decode cX11_asks 394 = .ok (.ishl, 1) := by decide +kernel
theorem dX11_asks_395 : decode cX11_asks 395 = .ok (.iload_n 3, 1) := by decide +kernel
theorem dX11_asks_396 : decode cX11_asks 396 = .ok (.ior, 1) := by decide +kernel
theorem dX11_asks_397 : decode cX11_asks 397 = .ok (.ldc 148, 2) := by decide +kernel
theorem dX11_asks_399 : decode cX11_asks 399 = .ok (.iand, 1) := by decide +kernel
theorem dX11_asks_400 : decode cX11_asks 400 = .ok (.iastore, 1) := by decide +kernel
theorem dX11_asks_401 : decode cX11_asks 401 = .ok (.return_, 1) := by decide +kernel
theorem dX11_turn_0 : decode cX11_turn 0 = .ok (.aload_n 0, 1) := by decide +kernel
theorem dX11_turn_1 : decode cX11_turn 1 = .ok (.getfield 49, 3) := by decide +kernel
theorem dX11_turn_4 : decode cX11_turn 4 = .ok (.iload_n 1, 1) := by decide +kernel
theorem dX11_turn_5 : decode cX11_turn 5 = .ok (.iaload, 1) := by decide +kernel
theorem dX11_turn_6 : decode cX11_turn 6 = .ok (.istore_n 3, 1) := by decide +kernel
theorem dX11_turn_7 : decode cX11_turn 7 = .ok (.aload_n 0, 1) := by decide +kernel
theorem dX11_turn_8 : decode cX11_turn 8 = .ok (.getfield 49, 3) := by decide +kernel
theorem dX11_turn_11 : decode cX11_turn 11 = .ok (.iload_n 1, 1) := by decide +kernel
theorem dX11_turn_12 : decode cX11_turn 12 = .ok (.iload_n 2, 1) := by decide +kernel
theorem dX11_turn_13 : decode cX11_turn 13 = .ok (.iconst 1, 1) := by decide +kernel
theorem dX11_turn_14 : decode cX11_turn 14 = .ok (.if_icmp .ne 18, 3) := by decide +kernel
theorem dX11_turn_17 : decode cX11_turn 17 = .ok (.iload_n 3, 1) := by decide +kernel
theorem dX11_turn_18 : decode cX11_turn 18 = .ok (.iconst 3, 1) := by decide +kernel
theorem dX11_turn_19 : decode cX11_turn 19 = .ok (.if_icmp .ge 9, 3) := by decide +kernel
theorem dX11_turn_22 : decode cX11_turn 22 = .ok (.iload_n 3, 1) := by decide +kernel
theorem dX11_turn_23 : decode cX11_turn 23 = .ok (.iconst 1, 1) := by decide +kernel
theorem dX11_turn_24 : decode cX11_turn 24 = .ok (.iadd, 1) := by decide +kernel
theorem dX11_turn_25 : decode cX11_turn 25 = .ok (.goto 18, 3) := by decide +kernel
theorem dX11_turn_28 : decode cX11_turn 28 = .ok (.iconst 3, 1) := by decide +kernel
theorem dX11_turn_29 : decode cX11_turn 29 = .ok (.goto 14, 3) := by decide +kernel
theorem dX11_turn_32 : decode cX11_turn 32 = .ok (.iload_n 3, 1) := by decide +kernel
theorem dX11_turn_33 : decode cX11_turn 33 = .ok (.ifCond .le 9, 3) := by decide +kernel
theorem dX11_turn_36 : decode cX11_turn 36 = .ok (.iload_n 3, 1) := by decide +kernel
theorem dX11_turn_37 : decode cX11_turn 37 = .ok (.iconst 1, 1) := by decide +kernel
theorem dX11_turn_38 : decode cX11_turn 38 = .ok (.isub, 1) := by decide +kernel
theorem dX11_turn_39 : decode cX11_turn 39 = .ok (.goto 4, 3) := by decide +kernel
theorem dX11_turn_42 : decode cX11_turn 42 = .ok (.iconst 0, 1) := by decide +kernel
theorem dX11_turn_43 : decode cX11_turn 43 = .ok (.iastore, 1) := by decide +kernel
theorem dX11_turn_44 : decode cX11_turn 44 = .ok (.return_, 1) := by decide +kernel
theorem dX11_weigh_0 : decode cX11_weigh 0 = .ok (.aload_n 0, 1) := by decide +kernel
theorem dX11_weigh_1 : decode cX11_weigh 1 = .ok (.iload_n 1, 1) := by decide +kernel
theorem dX11_weigh_2 : decode cX11_weigh 2 = .ok (.iload_n 2, 1) := by decide +kernel
theorem dX11_weigh_3 : decode cX11_weigh 3 = .ok (.invokevirtual 126, 3) := by decide +kernel
theorem dX11_weigh_6 : decode cX11_weigh 6 = .ok (.istore 4, 2) := by decide +kernel
theorem dX11_weigh_8 : decode cX11_weigh 8 = .ok (.iload 4, 2) := by decide +kernel
theorem dX11_weigh_10 : decode cX11_weigh 10 = .ok (.ifCond .ge 9, 3) := by decide +kernel
theorem dX11_weigh_13 : decode cX11_weigh 13 = .ok (.iload 4, 2) := by decide +kernel
theorem dX11_weigh_15 : decode cX11_weigh 15 = .ok (.ineg, 1) := by decide +kernel
theorem dX11_weigh_16 : decode cX11_weigh 16 = .ok (.goto 5, 3) := by decide +kernel
theorem dX11_weigh_19 : decode cX11_weigh 19 = .ok (.iload 4, 2) := by decide +kernel
theorem dX11_weigh_21 : decode cX11_weigh 21 = .ok (.istore 5, 2) := by decide +kernel
theorem dX11_weigh_23 : decode cX11_weigh 23 = .ok (.iload 4, 2) := by decide +kernel
theorem dX11_weigh_25 : decode cX11_weigh 25 = .ok (.ifCond .lt 7, 3) := by decide +kernel
theorem dX11_weigh_28 : decode cX11_weigh 28 = .ok (.iconst 1, 1) := by decide +kernel
theorem dX11_weigh_29 : decode cX11_weigh 29 = .ok (.goto 4, 3) := by decide +kernel
theorem dX11_weigh_32 : decode cX11_weigh 32 = .ok (.iconst 0, 1) := by decide +kernel
theorem dX11_weigh_33 : decode cX11_weigh 33 = .ok (.iload_n 3, 1) := by decide +kernel
theorem dX11_weigh_34 : decode cX11_weigh 34 = .ok (.iconst 1, 1) := by decide +kernel
theorem dX11_weigh_35 : decode cX11_weigh 35 = .ok (.if_icmp .ne 7, 3) := by decide +kernel
theorem dX11_weigh_38 : decode cX11_weigh 38 = .ok (.iconst 1, 1) := by decide +kernel
theorem dX11_weigh_39 : decode cX11_weigh 39 = .ok (.goto 4, 3) := by decide +kernel
theorem dX11_weigh_42 : decode cX11_weigh 42 = .ok (.iconst 0, 1) := by decide +kernel
theorem dX11_weigh_43 : decode cX11_weigh 43 = .ok (.if_icmp .ne 15, 3) := by decide +kernel
theorem dX11_weigh_46 : decode cX11_weigh 46 = .ok (.iload 5, 2) := by decide +kernel
theorem dX11_weigh_48 : decode cX11_weigh 48 = .ok (.aload_n 0, 1) := by decide +kernel
theorem dX11_weigh_49 : decode cX11_weigh 49 = .ok (.getfield 43, 3) := by decide +kernel
theorem dX11_weigh_52 : decode cX11_weigh 52 = .ok (.iload_n 1, 1) := by decide +kernel
theorem dX11_weigh_53 : decode cX11_weigh 53 = .ok (.iaload, 1) := by decide +kernel
theorem dX11_weigh_54 : decode cX11_weigh 54 = .ok (.if_icmp .le 4, 3) := by decide +kernel
theorem dX11_weigh_57 : decode cX11_weigh 57 = .ok (.return_, 1) := by decide +kernel
theorem dX11_weigh_58 : decode cX11_weigh 58 = .ok (.sipush 812, 3) := by decide +kernel
theorem dX11_weigh_61 : decode cX11_weigh 61 = .ok (.iload_n 1, 1) := by decide +kernel
theorem dX11_weigh_62 : decode cX11_weigh 62 = .ok (.imul, 1) := by decide +kernel
theorem dX11_weigh_63 : decode cX11_weigh 63 = .ok (.bipush 9, 2) := by decide +kernel
theorem dX11_weigh_65 : decode cX11_weigh 65 = .ok (.aload_n 0, 1) := by decide +kernel
theorem dX11_weigh_66 : decode cX11_weigh 66 = .ok (.iload_n 1, 1) := by decide +kernel
theorem dX11_weigh_67 : decode cX11_weigh 67 = .ok (.iload_n 2, 1) := by decide +kernel
theorem dX11_weigh_68 : decode cX11_weigh 68 = .ok (.iconst 0, 1) := by decide +kernel
theorem dX11_weigh_69 : decode cX11_weigh 69 = .ok (.invokevirtual 122, 3) := by decide +kernel
theorem dX11_weigh_72 : decode cX11_weigh 72 = .ok (.imul, 1) := by decide +kernel
theorem dX11_weigh_73 : decode cX11_weigh 73 = .ok (.iadd, 1) := by decide +kernel
theorem dX11_weigh_74 : decode cX11_weigh 74 = .ok (.istore 6, 2) := by decide +kernel
theorem dX11_weigh_76 : decode cX11_weigh 76 = .ok (.iconst 0, 1) := by decide +kernel
theorem dX11_weigh_77 : decode cX11_weigh 77 = .ok (.istore 7, 2) := by decide +kernel
theorem dX11_weigh_79 : decode cX11_weigh 79 = .ok (.iload 7, 2) := by decide +kernel
theorem dX11_weigh_81 : decode cX11_weigh 81 = .ok (.aload_n 0, 1) := by decide +kernel
theorem dX11_weigh_82 : decode cX11_weigh 82 = .ok (.getfield 40, 3) := by decide +kernel
theorem dX11_weigh_85 : decode cX11_weigh 85 = .ok (.iload_n 1, 1) := by decide +kernel
theorem dX11_weigh_86 : decode cX11_weigh 86 = .ok (.iaload, 1) := by decide +kernel
theorem dX11_weigh_87 : decode cX11_weigh 87 = .ok (.if_icmp .gt 101, 3) := by decide +kernel
theorem dX11_weigh_90 : decode cX11_weigh 90 = .ok (.iload 7, 2) := by decide +kernel
theorem dX11_weigh_92 : decode cX11_weigh 92 = .ok (.ifCond .ne 7, 3) := by decide +kernel
theorem dX11_weigh_95 : decode cX11_weigh 95 = .ok (.iconst 1, 1) := by decide +kernel
theorem dX11_weigh_96 : decode cX11_weigh 96 = .ok (.goto 24, 3) := by decide +kernel
theorem dX11_weigh_99 : decode cX11_weigh 99 = .ok (.aload_n 0, 1) := by decide +kernel
theorem dX11_weigh_100 : decode cX11_weigh 100 = .ok (.getfield 49, 3) := by decide +kernel
theorem dX11_weigh_103 : decode cX11_weigh 103 = .ok (.sipush 812, 3) := by decide +kernel
theorem dX11_weigh_106 : decode cX11_weigh 106 = .ok (.iload_n 1, 1) := by decide +kernel
theorem dX11_weigh_107 : decode cX11_weigh 107 = .ok (.imul, 1) := by decide +kernel
theorem dX11_weigh_108 : decode cX11_weigh 108 = .ok (.sipush 808, 3) := by decide +kernel
theorem dX11_weigh_111 : decode cX11_weigh 111 = .ok (.iadd, 1) := by decide +kernel
theorem dX11_weigh_112 : decode cX11_weigh 112 = .ok (.iaload, 1) := by decide +kernel
theorem dX11_weigh_113 : decode cX11_weigh 113 = .ok (.iload 7, 2) := by decide +kernel
theorem dX11_weigh_115 : decode cX11_weigh 115 = .ok (.iconst 1, 1) := by decide +kernel
theorem dX11_weigh_116 : decode cX11_weigh 116 = .ok (.isub, 1) := by decide +kernel
theorem dX11_weigh_117 : decode cX11_weigh 117 = .ok (.ishr, 1) := by decide +kernel
theorem dX11_weigh_118 : decode cX11_weigh 118 = .ok (.iconst 1, 1) := by decide +kernel
theorem dX11_weigh_119 : decode cX11_weigh 119 = .ok (.iand, 1) := by decide +kernel
theorem dX11_weigh_120 : decode cX11_weigh 120 = .ok (.istore 8, 2) := by decide +kernel
theorem dX11_weigh_122 : decode cX11_weigh 122 = .ok (.aload_n 0, 1) := by decide +kernel
theorem dX11_weigh_123 : decode cX11_weigh 123 = .ok (.getfield 49, 3) := by decide +kernel
theorem dX11_weigh_126 : decode cX11_weigh 126 = .ok (.iload 6, 2) := by decide +kernel
theorem dX11_weigh_128 : decode cX11_weigh 128 = .ok (.iload 7, 2) := by decide +kernel
theorem dX11_weigh_130 : decode cX11_weigh 130 = .ok (.iadd, 1) := by decide +kernel
theorem dX11_weigh_131 : decode cX11_weigh 131 = .ok (.iaload, 1) := by decide +kernel
theorem dX11_weigh_132 : decode cX11_weigh 132 = .ok (.iload 8, 2) := by decide +kernel
theorem dX11_weigh_134 : decode cX11_weigh 134 = .ok (.iload_n 3, 1) := by decide +kernel
theorem dX11_weigh_135 : decode cX11_weigh 135 = .ok (.if_icmp .ne 7, 3) := by decide +kernel
theorem dX11_weigh_138 : decode cX11_weigh 138 = .ok (.iconst 1, 1) := by decide +kernel
theorem dX11_weigh_139 : decode cX11_weigh 139 = .ok (.goto 4, 3) := by decide +kernel
theorem dX11_weigh_142 : decode cX11_weigh 142 = .ok (.iconst (-1), 1) := by decide +kernel
theorem dX11_weigh_143 : decode cX11_weigh 143 = .ok (.iadd, 1) := by decide +kernel
theorem dX11_weigh_144 : decode cX11_weigh 144 = .ok (.istore 9, 2) := by decide +kernel
theorem dX11_weigh_146 : decode cX11_weigh 146 = .ok (.aload_n 0, 1) := by decide +kernel
theorem dX11_weigh_147 : decode cX11_weigh 147 = .ok (.getfield 49, 3) := by decide +kernel
theorem dX11_weigh_150 : decode cX11_weigh 150 = .ok (.iload 6, 2) := by decide +kernel
theorem dX11_weigh_152 : decode cX11_weigh 152 = .ok (.iload 7, 2) := by decide +kernel
theorem dX11_weigh_154 : decode cX11_weigh 154 = .ok (.iadd, 1) := by decide +kernel
theorem dX11_weigh_155 : decode cX11_weigh 155 = .ok (.iload 9, 2) := by decide +kernel
theorem dX11_weigh_157 : decode cX11_weigh 157 = .ok (.bipush 63, 2) := by decide +kernel
theorem dX11_weigh_159 : decode cX11_weigh 159 = .ok (.if_icmp .le 8, 3) := by decide +kernel
theorem dX11_weigh_162 : decode cX11_weigh 162 = .ok (.bipush 63, 2) := by decide +kernel
theorem dX11_weigh_164 : decode cX11_weigh 164 = .ok (.goto 17, 3) := by decide +kernel
theorem dX11_weigh_167 : decode cX11_weigh 167 = .ok (.iload 9, 2) := by decide +kernel
theorem dX11_weigh_169 : decode cX11_weigh 169 = .ok (.bipush (-64), 2) := by decide +kernel
theorem dX11_weigh_171 : decode cX11_weigh 171 = .ok (.if_icmp .ge 8, 3) := by decide +kernel
theorem dX11_weigh_174 : decode cX11_weigh 174 = .ok (.bipush (-64), 2) := by decide +kernel
theorem dX11_weigh_176 : decode cX11_weigh 176 = .ok (.goto 5, 3) := by decide +kernel
theorem dX11_weigh_179 : decode cX11_weigh 179 = .ok (.iload 9, 2) := by decide +kernel
theorem dX11_weigh_181 : decode cX11_weigh 181 = .ok (.iastore, 1) := by decide +kernel
theorem dX11_weigh_182 : decode cX11_weigh 182 = .ok (.iinc 7 1, 3) := by decide +kernel
theorem dX11_weigh_185 : decode cX11_weigh 185 = .ok (.goto (-106), 3) := by decide +kernel
theorem dX11_weigh_188 : decode cX11_weigh 188 = .ok (.return_, 1) := by decide +kernel
theorem dX11_loop_0 : decode cX11_loop 0 = .ok (.iload_n 2, 1) := by decide +kernel
theorem dX11_loop_1 : decode cX11_loop 1 = .ok (.iconst 1, 1) := by decide +kernel
theorem dX11_loop_2 : decode cX11_loop 2 = .ok (.if_icmp .ne 36, 3) := by decide +kernel
theorem dX11_loop_5 : decode cX11_loop 5 = .ok (.aload_n 0, 1) := by decide +kernel
theorem dX11_loop_6 : decode cX11_loop 6 = .ok (.getfield 49, 3) := by decide +kernel
theorem dX11_loop_9 : decode cX11_loop 9 = .ok (.iload_n 1, 1) := by decide +kernel
theorem dX11_loop_10 : decode cX11_loop 10 = .ok (.aload_n 0, 1) := by decide +kernel
theorem dX11_loop_11 : decode cX11_loop 11 = .ok (.getfield 49, 3) := by decide +kernel
theorem dX11_loop_14 : decode cX11_loop 14 = .ok (.iload_n 1, 1) := by decide +kernel
theorem dX11_loop_15 : decode cX11_loop 15 = .ok (.iaload, 1) := by decide +kernel
theorem dX11_loop_16 : decode cX11_loop 16 = .ok (.sipush 255, 3) := by decide +kernel
theorem dX11_loop_19 : decode cX11_loop 19 = .ok (.if_icmp .ge 14, 3) := by decide +kernel
theorem dX11_loop_22 : decode cX11_loop 22 = .ok (.aload_n 0, 1) := by decide +kernel
theorem dX11_loop_23 : decode cX11_loop 23 = .ok (.getfield 49, 3) := by decide +kernel
theorem dX11_loop_26 : decode cX11_loop 26 = .ok (.iload_n 1, 1) := by decide +kernel
theorem dX11_loop_27 : decode cX11_loop 27 = .ok (.iaload, 1) := by decide +kernel
theorem dX11_loop_28 : decode cX11_loop 28 = .ok (.iconst 1, 1) := by decide +kernel
theorem dX11_loop_29 : decode cX11_loop 29 = .ok (.iadd, 1) := by decide +kernel
theorem dX11_loop_30 : decode cX11_loop 30 = .ok (.goto 6, 3) := by decide +kernel
theorem dX11_loop_33 : decode cX11_loop 33 = .ok (.sipush 255, 3) := by decide +kernel
theorem dX11_loop_36 : decode cX11_loop 36 = .ok (.iastore, 1) := by decide +kernel
theorem dX11_loop_37 : decode cX11_loop 37 = .ok (.return_, 1) := by decide +kernel
theorem dX11_loop_38 : decode cX11_loop 38 = .ok (.aload_n 0, 1) := by decide +kernel
theorem dX11_loop_39 : decode cX11_loop 39 = .ok (.getfield 49, 3) := by decide +kernel
theorem dX11_loop_42 : decode cX11_loop 42 = .ok (.iload_n 1, 1) := by decide +kernel
theorem dX11_loop_43 : decode cX11_loop 43 = .ok (.iaload, 1) := by decide +kernel
theorem dX11_loop_44 : decode cX11_loop 44 = .ok (.aload_n 0, 1) := by decide +kernel
theorem dX11_loop_45 : decode cX11_loop 45 = .ok (.getfield 49, 3) := by decide +kernel
theorem dX11_loop_48 : decode cX11_loop 48 = .ok (.iload_n 1, 1) := by decide +kernel
theorem dX11_loop_49 : decode cX11_loop 49 = .ok (.iconst 1, 1) := by decide +kernel
theorem dX11_loop_50 : decode cX11_loop 50 = .ok (.iadd, 1) := by decide +kernel
theorem dX11_loop_51 : decode cX11_loop 51 = .ok (.iaload, 1) := by decide +kernel
theorem dX11_loop_52 : decode cX11_loop 52 = .ok (.if_icmp .ne 40, 3) := by decide +kernel
theorem dX11_loop_55 : decode cX11_loop 55 = .ok (.aload_n 0, 1) := by decide +kernel
theorem dX11_loop_56 : decode cX11_loop 56 = .ok (.getfield 49, 3) := by decide +kernel
theorem dX11_loop_59 : decode cX11_loop 59 = .ok (.iload_n 1, 1) := by decide +kernel
theorem dX11_loop_60 : decode cX11_loop 60 = .ok (.iconst 2, 1) := by decide +kernel
theorem dX11_loop_61 : decode cX11_loop 61 = .ok (.iadd, 1) := by decide +kernel
theorem dX11_loop_62 : decode cX11_loop 62 = .ok (.aload_n 0, 1) := by decide +kernel
theorem dX11_loop_63 : decode cX11_loop 63 = .ok (.getfield 49, 3) := by decide +kernel
theorem dX11_loop_66 : decode cX11_loop 66 = .ok (.iload_n 1, 1) := by decide +kernel
theorem dX11_loop_67 : decode cX11_loop 67 = .ok (.iconst 2, 1) := by decide +kernel
theorem dX11_loop_68 : decode cX11_loop 68 = .ok (.iadd, 1) := by decide +kernel
theorem dX11_loop_69 : decode cX11_loop 69 = .ok (.iaload, 1) := by decide +kernel
theorem dX11_loop_70 : decode cX11_loop 70 = .ok (.iconst 3, 1) := by decide +kernel
theorem dX11_loop_71 : decode cX11_loop 71 = .ok (.if_icmp .ge 16, 3) := by decide +kernel
theorem dX11_loop_74 : decode cX11_loop 74 = .ok (.aload_n 0, 1) := by decide +kernel
theorem dX11_loop_75 : decode cX11_loop 75 = .ok (.getfield 49, 3) := by decide +kernel
theorem dX11_loop_78 : decode cX11_loop 78 = .ok (.iload_n 1, 1) := by decide +kernel
theorem dX11_loop_79 : decode cX11_loop 79 = .ok (.iconst 2, 1) := by decide +kernel
theorem dX11_loop_80 : decode cX11_loop 80 = .ok (.iadd, 1) := by decide +kernel
theorem dX11_loop_81 : decode cX11_loop 81 = .ok (.iaload, 1) := by decide +kernel
theorem dX11_loop_82 : decode cX11_loop 82 = .ok (.iconst 1, 1) := by decide +kernel
theorem dX11_loop_83 : decode cX11_loop 83 = .ok (.iadd, 1) := by decide +kernel
theorem dX11_loop_84 : decode cX11_loop 84 = .ok (.goto 4, 3) := by decide +kernel
theorem dX11_loop_87 : decode cX11_loop 87 = .ok (.iconst 3, 1) := by decide +kernel
theorem dX11_loop_88 : decode cX11_loop 88 = .ok (.iastore, 1) := by decide +kernel
theorem dX11_loop_89 : decode cX11_loop 89 = .ok (.goto 26, 3) := by decide +kernel
theorem dX11_loop_92 : decode cX11_loop 92 = .ok (.aload_n 0, 1) := by decide +kernel
theorem dX11_loop_93 : decode cX11_loop 93 = .ok (.getfield 49, 3) := by decide +kernel
theorem dX11_loop_96 : decode cX11_loop 96 = .ok (.iload_n 1, 1) := by decide +kernel
theorem dX11_loop_97 : decode cX11_loop 97 = .ok (.iconst 2, 1) := by decide +kernel
theorem dX11_loop_98 : decode cX11_loop 98 = .ok (.iadd, 1) := by decide +kernel
theorem dX11_loop_99 : decode cX11_loop 99 = .ok (.iconst 0, 1) := by decide +kernel
theorem dX11_loop_100 : decode cX11_loop 100 = .ok (.iastore, 1) := by decide +kernel
theorem dX11_loop_101 : decode cX11_loop 101 = .ok (.aload_n 0, 1) := by decide +kernel
theorem dX11_loop_102 : decode cX11_loop 102 = .ok (.getfield 49, 3) := by decide +kernel
theorem dX11_loop_105 : decode cX11_loop 105 = .ok (.iload_n 1, 1) := by decide +kernel
theorem dX11_loop_106 : decode cX11_loop 106 = .ok (.iconst 1, 1) := by decide +kernel
theorem dX11_loop_107 : decode cX11_loop 107 = .ok (.iadd, 1) := by decide +kernel
theorem dX11_loop_108 : decode cX11_loop 108 = .ok (.aload_n 0, 1) := by decide +kernel
theorem dX11_loop_109 : decode cX11_loop 109 = .ok (.getfield 49, 3) := by decide +kernel
theorem dX11_loop_112 : decode cX11_loop 112 = .ok (.iload_n 1, 1) := by decide +kernel
theorem dX11_loop_113 : decode cX11_loop 113 = .ok (.iaload, 1) := by decide +kernel
theorem dX11_loop_114 : decode cX11_loop 114 = .ok (.iastore, 1) := by decide +kernel
theorem dX11_loop_115 : decode cX11_loop 115 = .ok (.aload_n 0, 1) := by decide +kernel
theorem dX11_loop_116 : decode cX11_loop 116 = .ok (.getfield 49, 3) := by decide +kernel
theorem dX11_loop_119 : decode cX11_loop 119 = .ok (.iload_n 1, 1) := by decide +kernel
theorem dX11_loop_120 : decode cX11_loop 120 = .ok (.iconst 0, 1) := by decide +kernel
theorem dX11_loop_121 : decode cX11_loop 121 = .ok (.iastore, 1) := by decide +kernel
theorem dX11_loop_122 : decode cX11_loop 122 = .ok (.return_, 1) := by decide +kernel
theorem dX11_guess_0 : decode cX11_guess 0 = .ok (.aload_n 0, 1) := by decide +kernel
theorem dX11_guess_1 : decode cX11_guess 1 = .ok (.iload_n 1, 1) := by decide +kernel
theorem dX11_guess_2 : decode cX11_guess 2 = .ok (.invokevirtual 107, 3) := by decide +kernel
theorem dX11_guess_5 : decode cX11_guess 5 = .ok (.ifCond .eq 10, 3) := by decide +kernel
theorem dX11_guess_8 : decode cX11_guess 8 = .ok (.iload_n 2, 1) := by decide +kernel
theorem dX11_guess_9 : decode cX11_guess 9 = .ok (.invokestatic 76, 3) := by decide +kernel
theorem dX11_guess_12 : decode cX11_guess 12 = .ok (.ifCond .ne 5, 3) := by decide +kernel
theorem dX11_guess_15 : decode cX11_guess 15 = .ok (.iconst (-1), 1) := by decide +kernel
theorem dX11_guess_16 : decode cX11_guess 16 = .ok (.ireturn, 1) := by decide +kernel
theorem dX11_guess_17 : decode cX11_guess 17 = .ok (.iconst 0, 1) := by decide +kernel
theorem dX11_guess_18 : decode cX11_guess 18 = .ok (.istore_n 3, 1) := by decide +kernel
theorem dX11_guess_19 : decode cX11_guess 19 = .ok (.iload_n 3, 1) := by decide +kernel
theorem dX11_guess_20 : decode cX11_guess 20 = .ok (.iload_n 1, 1) := by decide +kernel
theorem dX11_guess_21 : decode cX11_guess 21 = .ok (.if_icmp .gt 102, 3) := by decide +kernel
theorem dX11_guess_24 : decode cX11_guess 24 = .ok (.aload_n 0, 1) := by decide +kernel
theorem dX11_guess_25 : decode cX11_guess 25 = .ok (.getfield 34, 3) := by decide +kernel
theorem dX11_guess_28 : decode cX11_guess 28 = .ok (.iload_n 3, 1) := by decide +kernel
theorem dX11_guess_29 : decode cX11_guess 29 = .ok (.iaload, 1) := by decide +kernel
theorem dX11_guess_30 : decode cX11_guess 30 = .ok (.bipush 7, 2) := by decide +kernel
theorem dX11_guess_32 : decode cX11_guess 32 = .ok (.if_icmp .ne 7, 3) := by decide +kernel
theorem dX11_guess_35 : decode cX11_guess 35 = .ok (.iconst 1, 1) := by decide +kernel
theorem dX11_guess_36 : decode cX11_guess 36 = .ok (.goto 4, 3) := by decide +kernel
theorem dX11_guess_39 : decode cX11_guess 39 = .ok (.iconst 0, 1) := by decide +kernel
theorem dX11_guess_40 : decode cX11_guess 40 = .ok (.istore 4, 2) := by decide +kernel
theorem dX11_guess_42 : decode cX11_guess 42 = .ok (.aload_n 0, 1) := by decide +kernel
theorem dX11_guess_43 : decode cX11_guess 43 = .ok (.getfield 46, 3) := by decide +kernel
theorem dX11_guess_46 : decode cX11_guess 46 = .ok (.bipush 64, 2) := by decide +kernel
theorem dX11_guess_48 : decode cX11_guess 48 = .ok (.iload_n 3, 1) := by decide +kernel
theorem dX11_guess_49 : decode cX11_guess 49 = .ok (.imul, 1) := by decide +kernel
theorem dX11_guess_50 : decode cX11_guess 50 = .ok (.iload_n 2, 1) := by decide +kernel
theorem dX11_guess_51 : decode cX11_guess 51 = .ok (.iadd, 1) := by decide +kernel
theorem dX11_guess_52 : decode cX11_guess 52 = .ok (.iaload, 1) := by decide +kernel
theorem dX11_guess_53 : decode cX11_guess 53 = .ok (.istore 5, 2) := by decide +kernel
theorem dX11_guess_55 : decode cX11_guess 55 = .ok (.aload_n 0, 1) := by decide +kernel
theorem dX11_guess_56 : decode cX11_guess 56 = .ok (.getfield 62, 3) := by decide +kernel
theorem dX11_guess_59 : decode cX11_guess 59 = .ok (.iload_n 3, 1) := by decide +kernel
theorem dX11_guess_60 : decode cX11_guess 60 = .ok (.iload 5, 2) := by decide +kernel
theorem dX11_guess_62 : decode cX11_guess 62 = .ok (.ifCond .lt 8, 3) := by decide +kernel
theorem dX11_guess_65 : decode cX11_guess 65 = .ok (.iload 5, 2) := by decide +kernel
theorem dX11_guess_67 : decode cX11_guess 67 = .ok (.goto 49, 3) := by decide +kernel
theorem dX11_guess_70 : decode cX11_guess 70 = .ok (.aload_n 0, 1) := by decide +kernel
theorem dX11_guess_71 : decode cX11_guess 71 = .ok (.iload_n 3, 1) := by decide +kernel
theorem dX11_guess_72 : decode cX11_guess 72 = .ok (.iload_n 2, 1) := by decide +kernel
theorem dX11_guess_73 : decode cX11_guess 73 = .ok (.iload 4, 2) := by decide +kernel
theorem dX11_guess_75 : decode cX11_guess 75 = .ok (.ifCond .eq 17, 3) := by decide +kernel
theorem dX11_guess_78 : decode cX11_guess 78 = .ok (.aload_n 0, 1) := by decide +kernel
theorem dX11_guess_79 : decode cX11_guess 79 = .ok (.getfield 62, 3) := by decide +kernel
theorem dX11_guess_82 : decode cX11_guess 82 = .ok (.aload_n 0, 1) := by decide +kernel
theorem dX11_guess_83 : decode cX11_guess 83 = .ok (.getfield 37, 3) := by decide +kernel
theorem dX11_guess_86 : decode cX11_guess 86 = .ok (.iload_n 3, 1) := by decide +kernel
theorem dX11_guess_87 : decode cX11_guess 87 = .ok (.iaload, 1) := by decide +kernel
theorem dX11_guess_88 : decode cX11_guess 88 = .ok (.iaload, 1) := by decide +kernel
theorem dX11_guess_89 : decode cX11_guess 89 = .ok (.goto 4, 3) := by decide +kernel
theorem dX11_guess_92 : decode cX11_guess 92 = .ok (.iconst 0, 1) := by decide +kernel
theorem dX11_guess_93 : decode cX11_guess 93 = .ok (.iload 4, 2) := by decide +kernel
theorem dX11_guess_95 : decode cX11_guess 95 = .ok (.ifCond .eq 17, 3) := by decide +kernel
theorem dX11_guess_98 : decode cX11_guess 98 = .ok (.aload_n 0, 1) := by decide +kernel
theorem dX11_guess_99 : decode cX11_guess 99 = .ok (.getfield 62, 3) := by decide +kernel
theorem dX11_guess_102 : decode cX11_guess 102 = .ok (.aload_n 0, 1) := by decide +kernel
theorem dX11_guess_103 : decode cX11_guess 103 = .ok (.getfield 40, 3) := by decide +kernel
theorem dX11_guess_106 : decode cX11_guess 106 = .ok (.iload_n 3, 1) := by decide +kernel
theorem dX11_guess_107 : decode cX11_guess 107 = .ok (.iaload, 1) := by decide +kernel
theorem dX11_guess_108 : decode cX11_guess 108 = .ok (.iaload, 1) := by decide +kernel
theorem dX11_guess_109 : decode cX11_guess 109 = .ok (.goto 4, 3) := by decide +kernel
theorem dX11_guess_112 : decode cX11_guess 112 = .ok (.iconst 0, 1) := by decide +kernel
theorem dX11_guess_113 : decode cX11_guess 113 = .ok (.invokevirtual 135, 3) := by decide +kernel
theorem dX11_guess_116 : decode cX11_guess 116 = .ok (.iastore, 1) := by decide +kernel
theorem dX11_guess_117 : decode cX11_guess 117 = .ok (.iinc 3 1, 3) := by decide +kernel
theorem dX11_guess_120 : decode cX11_guess 120 = .ok (.goto (-101), 3) := by decide +kernel
theorem dX11_guess_123 : decode cX11_guess 123 = .ok (.aload_n 0, 1) := by decide +kernel
theorem dX11_guess_124 : decode cX11_guess 124 = .ok (.getfield 62, 3) := by decide +kernel
theorem dX11_guess_127 : decode cX11_guess 127 = .ok (.iload_n 1, 1) := by decide +kernel
theorem dX11_guess_128 : decode cX11_guess 128 = .ok (.iaload, 1) := by decide +kernel
theorem dX11_guess_129 : decode cX11_guess 129 = .ok (.ireturn, 1) := by decide +kernel
theorem dX11_hint_0 : decode cX11_hint 0 = .ok (.aload_n 0, 1) := by decide +kernel
theorem dX11_hint_1 : decode cX11_hint 1 = .ok (.iload_n 1, 1) := by decide +kernel
theorem dX11_hint_2 : decode cX11_hint 2 = .ok (.invokevirtual 107, 3) := by decide +kernel
theorem dX11_hint_5 : decode cX11_hint 5 = .ok (.ifCond .eq 10, 3) := by decide +kernel
theorem dX11_hint_8 : decode cX11_hint 8 = .ok (.iload_n 2, 1) := by decide +kernel
theorem dX11_hint_9 : decode cX11_hint 9 = .ok (.invokestatic 76, 3) := by decide +kernel
theorem dX11_hint_12 : decode cX11_hint 12 = .ok (.ifCond .ne 5, 3) := by decide +kernel
theorem dX11_hint_15 : decode cX11_hint 15 = .ok (.iconst (-1), 1) := by decide +kernel
theorem dX11_hint_16 : decode cX11_hint 16 = .ok (.ireturn, 1) := by decide +kernel
theorem dX11_hint_17 : decode cX11_hint 17 = .ok (.iload_n 3, 1) := by decide +kernel
theorem dX11_hint_18 : decode cX11_hint 18 = .ok (.iconst (-1), 1) := by decide +kernel
theorem dX11_hint_19 : decode cX11_hint 19 = .ok (.iconst 1, 1) := by decide +kernel
theorem dX11_hint_20 : decode cX11_hint 20 = .ok (.invokestatic 72, 3) := by decide +kernel
theorem dX11_hint_23 : decode cX11_hint 23 = .ok (.ifCond .ne 6, 3) := by decide +kernel
theorem dX11_hint_26 : decode cX11_hint 26 = .ok (.bipush (-2), 2) := by decide +kernel
theorem dX11_hint_28 : decode cX11_hint 28 = .ok (.ireturn, 1) := by decide +kernel
theorem dX11_hint_29 : decode cX11_hint 29 = .ok (.aload_n 0, 1) := by decide +kernel
theorem dX11_hint_30 : decode cX11_hint 30 = .ok (.getfield 46, 3) := by decide +kernel
theorem dX11_hint_33 : decode cX11_hint 33 = .ok (.bipush 64, 2) := by decide +kernel
theorem dX11_hint_35 : decode cX11_hint 35 = .ok (.iload_n 1, 1) := by decide +kernel
theorem dX11_hint_36 : decode cX11_hint 36 = .ok (.imul, 1) := by decide +kernel
theorem dX11_hint_37 : decode cX11_hint 37 = .ok (.iload_n 2, 1) := by decide +kernel
theorem dX11_hint_38 : decode cX11_hint 38 = .ok (.iadd, 1) := by decide +kernel
theorem dX11_hint_39 : decode cX11_hint 39 = .ok (.iaload, 1) := by decide +kernel
theorem dX11_hint_40 : decode cX11_hint 40 = .ok (.istore 4, 2) := by decide +kernel
theorem dX11_hint_42 : decode cX11_hint 42 = .ok (.aload_n 0, 1) := by decide +kernel
theorem dX11_hint_43 : decode cX11_hint 43 = .ok (.getfield 46, 3) := by decide +kernel
theorem dX11_hint_46 : decode cX11_hint 46 = .ok (.bipush 64, 2) := by decide +kernel
theorem dX11_hint_48 : decode cX11_hint 48 = .ok (.iload_n 1, 1) := by decide +kernel
theorem dX11_hint_49 : decode cX11_hint 49 = .ok (.imul, 1) := by decide +kernel
theorem dX11_hint_50 : decode cX11_hint 50 = .ok (.iload_n 2, 1) := by decide +kernel
theorem dX11_hint_51 : decode cX11_hint 51 = .ok (.iadd, 1) := by decide +kernel
theorem dX11_hint_52 : decode cX11_hint 52 = .ok (.iload_n 3, 1) := by decide +kernel
theorem dX11_hint_53 : decode cX11_hint 53 = .ok (.iastore, 1) := by decide +kernel
theorem dX11_hint_54 : decode cX11_hint 54 = .ok (.iload 4, 2) := by decide +kernel
theorem dX11_hint_56 : decode cX11_hint 56 = .ok (.ireturn, 1) := by decide +kernel
theorem dX11_times_0 : decode cX11_times 0 = .ok (.iconst 0, 1) := by decide +kernel
theorem dX11_times_1 : decode cX11_times 1 = .ok (.istore_n 3, 1) := by decide +kernel
theorem dX11_times_2 : decode cX11_times 2 = .ok (.iconst 0, 1) := by decide +kernel
theorem dX11_times_3 : decode cX11_times 3 = .ok (.istore 4, 2) := by decide +kernel
theorem dX11_times_5 : decode cX11_times 5 = .ok (.iload 4, 2) := by decide +kernel
theorem dX11_times_7 : decode cX11_times 7 = .ok (.aload_n 0, 1) := by decide +kernel
theorem dX11_times_8 : decode cX11_times 8 = .ok (.getfield 101, 3) := by decide +kernel
theorem dX11_times_11 : decode cX11_times 11 = .ok (.if_icmp .ge 43, 3) := by decide +kernel
theorem dX11_times_14 : decode cX11_times 14 = .ok (.iload_n 3, 1) := by decide +kernel
theorem dX11_times_15 : decode cX11_times 15 = .ok (.aload_n 0, 1) := by decide +kernel
theorem dX11_times_16 : decode cX11_times 16 = .ok (.getfield 28, 3) := by decide +kernel
theorem dX11_times_19 : decode cX11_times 19 = .ok (.iload 4, 2) := by decide +kernel
theorem dX11_times_21 : decode cX11_times 21 = .ok (.iaload, 1) := by decide +kernel
theorem dX11_times_22 : decode cX11_times 22 = .ok (.iload_n 1, 1) := by decide +kernel
theorem dX11_times_23 : decode cX11_times 23 = .ok (.if_icmp .ne 22, 3) := by decide +kernel
theorem dX11_times_26 : decode cX11_times 26 = .ok (.iload_n 2, 1) := by decide +kernel
theorem dX11_times_27 : decode cX11_times 27 = .ok (.ifCond .lt 14, 3) := by decide +kernel
theorem dX11_times_30 : decode cX11_times 30 = .ok (.aload_n 0, 1) := by decide +kernel
theorem dX11_times_31 : decode cX11_times 31 = .ok (.getfield 31, 3) := by decide +kernel
theorem dX11_times_34 : decode cX11_times 34 = .ok (.iload 4, 2) := by decide +kernel
theorem dX11_times_36 : decode cX11_times 36 = .ok (.iaload, 1) := by decide +kernel
theorem dX11_times_37 : decode cX11_times 37 = .ok (.iload_n 2, 1) := by decide +kernel
theorem dX11_times_38 : decode cX11_times 38 = .ok (.if_icmp .ne 7, 3) := by decide +kernel
theorem dX11_times_41 : decode cX11_times 41 = .ok (.iconst 1, 1) := by decide +kernel
theorem dX11_times_42 : decode cX11_times 42 = .ok (.goto 4, 3) := by decide +kernel
theorem dX11_times_45 : decode cX11_times 45 = .ok (.iconst 0, 1) := by decide +kernel
theorem dX11_times_46 : decode cX11_times 46 = .ok (.iadd, 1) := by decide +kernel
theorem dX11_times_47 : decode cX11_times 47 = .ok (.istore_n 3, 1) := by decide +kernel
theorem dX11_times_48 : decode cX11_times 48 = .ok (.iinc 4 1, 3) := by decide +kernel
theorem dX11_times_51 : decode cX11_times 51 = .ok (.goto (-46), 3) := by decide +kernel
theorem dX11_times_54 : decode cX11_times 54 = .ok (.iload_n 3, 1) := by decide +kernel
theorem dX11_times_55 : decode cX11_times 55 = .ok (.ireturn, 1) := by decide +kernel
theorem dX11_profile_0 : decode cX11_profile 0 = .ok (.aload_n 0, 1) := by decide +kernel
theorem dX11_profile_1 : decode cX11_profile 1 = .ok (.iload_n 1, 1) := by decide +kernel
theorem dX11_profile_2 : decode cX11_profile 2 = .ok (.invokevirtual 107, 3) := by decide +kernel
theorem dX11_profile_5 : decode cX11_profile 5 = .ok (.ifCond .ne 5, 3) := by decide +kernel
theorem dX11_profile_8 : decode cX11_profile 8 = .ok (.iconst (-1), 1) := by decide +kernel
theorem dX11_profile_9 : decode cX11_profile 9 = .ok (.ireturn, 1) := by decide +kernel
theorem dX11_profile_10 : decode cX11_profile 10 = .ok (.iconst 0, 1) := by decide +kernel
theorem dX11_profile_11 : decode cX11_profile 11 = .ok (.istore_n 2, 1) := by decide +kernel
theorem dX11_profile_12 : decode cX11_profile 12 = .ok (.iconst 0, 1) := by decide +kernel
theorem dX11_profile_13 : decode cX11_profile 13 = .ok (.istore_n 3, 1) := by decide +kernel
theorem dX11_profile_14 : decode cX11_profile 14 = .ok (.iload_n 3, 1) := by decide +kernel
theorem dX11_profile_15 : decode cX11_profile 15 = .ok (.bipush 64, 2) := by decide +kernel
theorem dX11_profile_17 : decode cX11_profile 17 = .ok (.if_icmp .ge 76, 3) := by decide +kernel
theorem dX11_profile_20 : decode cX11_profile 20 = .ok (.aload_n 0, 1) := by decide +kernel
theorem dX11_profile_21 : decode cX11_profile 21 = .ok (.iload_n 3, 1) := by decide +kernel
theorem dX11_profile_22 : decode cX11_profile 22 = .ok (.iconst 1, 1) := by decide +kernel
theorem dX11_profile_23 : decode cX11_profile 23 = .ok (.invokevirtual 149, 3) := by decide +kernel
theorem dX11_profile_26 : decode cX11_profile 26 = .ok (.istore 4, 2) := by decide +kernel
theorem dX11_profile_28 : decode cX11_profile 28 = .ok (.aload_n 0, 1) := by decide +kernel
theorem dX11_profile_29 : decode cX11_profile 29 = .ok (.iload_n 3, 1) := by decide +kernel
theorem dX11_profile_30 : decode cX11_profile 30 = .ok (.iconst 0, 1) := by decide +kernel
theorem dX11_profile_31 : decode cX11_profile 31 = .ok (.invokevirtual 149, 3) := by decide +kernel
theorem dX11_profile_34 : decode cX11_profile 34 = .ok (.istore 5, 2) := by decide +kernel
theorem dX11_profile_36 : decode cX11_profile 36 = .ok (.aload_n 0, 1) := by decide +kernel
theorem dX11_profile_37 : decode cX11_profile 37 = .ok (.getfield 46, 3) := by decide +kernel
theorem dX11_profile_40 : decode cX11_profile 40 = .ok (.bipush 64, 2) := by decide +kernel
theorem dX11_profile_42 : decode cX11_profile 42 = .ok (.iload_n 1, 1) := by decide +kernel
theorem dX11_profile_43 : decode cX11_profile 43 = .ok (.imul, 1) := by decide +kernel
theorem dX11_profile_44 : decode cX11_profile 44 = .ok (.iload_n 3, 1) := by decide +kernel
theorem dX11_profile_45 : decode cX11_profile 45 = .ok (.iadd, 1) := by decide +kernel
theorem dX11_profile_46 : decode cX11_profile 46 = .ok (.iload 4, 2) := by decide +kernel
theorem dX11_profile_48 : decode cX11_profile 48 = .ok (.iload 5, 2) := by decide +kernel
theorem dX11_profile_50 : decode cX11_profile 50 = .ok (.iadd, 1) := by decide +kernel
theorem dX11_profile_51 : decode cX11_profile 51 = .ok (.ifCond .ne 7, 3) := by decide +kernel
theorem dX11_profile_54 : decode cX11_profile 54 = .ok (.iconst (-1), 1) := by decide +kernel
theorem dX11_profile_55 : decode cX11_profile 55 = .ok (.goto 15, 3) := by decide +kernel
theorem dX11_profile_58 : decode cX11_profile 58 = .ok (.iload 4, 2) := by decide +kernel
theorem dX11_profile_60 : decode cX11_profile 60 = .ok (.iload 5, 2) := by decide +kernel
theorem dX11_profile_62 : decode cX11_profile 62 = .ok (.if_icmp .lt 7, 3) := by decide +kernel
theorem dX11_profile_65 : decode cX11_profile 65 = .ok (.iconst 1, 1) := by decide +kernel
theorem dX11_profile_66 : decode cX11_profile 66 = .ok (.goto 4, 3) := by decide +kernel
theorem dX11_profile_69 : decode cX11_profile 69 = .ok (.iconst 0, 1) := by decide +kernel
theorem dX11_profile_70 : decode cX11_profile 70 = .ok (.iastore, 1) := by decide +kernel
theorem dX11_profile_71 : decode cX11_profile 71 = .ok (.iload_n 2, 1) := by decide +kernel
theorem dX11_profile_72 : decode cX11_profile 72 = .ok (.iload 4, 2) := by decide +kernel
theorem dX11_profile_74 : decode cX11_profile 74 = .ok (.iload 5, 2) := by decide +kernel
theorem dX11_profile_76 : decode cX11_profile 76 = .ok (.iadd, 1) := by decide +kernel
theorem dX11_profile_77 : decode cX11_profile 77 = .ok (.ifCond .le 7, 3) := by decide +kernel
theorem dX11_profile_80 : decode cX11_profile 80 = .ok (.iconst 1, 1) := by decide +kernel
theorem dX11_profile_81 : decode cX11_profile 81 = .ok (.goto 4, 3) := by decide +kernel
theorem dX11_profile_84 : decode cX11_profile 84 = .ok (.iconst 0, 1) := by decide +kernel
theorem dX11_profile_85 : decode cX11_profile 85 = .ok (.iadd, 1) := by decide +kernel
theorem dX11_profile_86 : decode cX11_profile 86 = .ok (.istore_n 2, 1) := by decide +kernel
theorem dX11_profile_87 : decode cX11_profile 87 = .ok (.iinc 3 1, 3) := by decide +kernel
theorem dX11_profile_90 : decode cX11_profile 90 = .ok (.goto (-76), 3) := by decide +kernel
theorem dX11_profile_93 : decode cX11_profile 93 = .ok (.iload_n 2, 1) := by decide +kernel
theorem dX11_profile_94 : decode cX11_profile 94 = .ok (.ireturn, 1) := by decide +kernel
theorem dX11_missesOf_0 : decode cX11_missesOf 0 = .ok (.iconst 0, 1) := by decide +kernel
theorem dX11_missesOf_1 : decode cX11_missesOf 1 = .ok (.istore_n 2, 1) := by decide +kernel
theorem dX11_missesOf_2 : decode cX11_missesOf 2 = .ok (.iconst 0, 1) := by decide +kernel
theorem dX11_missesOf_3 : decode cX11_missesOf 3 = .ok (.istore_n 3, 1) := by decide +kernel
theorem dX11_missesOf_4 : decode cX11_missesOf 4 = .ok (.iload_n 3, 1) := by decide +kernel
theorem dX11_missesOf_5 : decode cX11_missesOf 5 = .ok (.bipush 64, 2) := by decide +kernel
theorem dX11_missesOf_7 : decode cX11_missesOf 7 = .ok (.if_icmp .ge 28, 3) := by decide +kernel
theorem dX11_missesOf_10 : decode cX11_missesOf 10 = .ok (.iload_n 2, 1) := by decide +kernel
theorem dX11_missesOf_11 : decode cX11_missesOf 11 = .ok (.aload_n 0, 1) := by decide +kernel
theorem dX11_missesOf_12 : decode cX11_missesOf 12 = .ok (.getfield 49, 3) := by decide +kernel
theorem dX11_missesOf_15 : decode cX11_missesOf 15 = .ok (.sipush 812, 3) := by decide +kernel
theorem dX11_missesOf_18 : decode cX11_missesOf 18 = .ok (.iload_n 1, 1) := by decide +kernel
theorem dX11_missesOf_19 : decode cX11_missesOf 19 = .ok (.imul, 1) := by decide +kernel
theorem dX11_missesOf_20 : decode cX11_missesOf 20 = .ok (.sipush 448, 3) := by decide +kernel
theorem dX11_missesOf_23 : decode cX11_missesOf 23 = .ok (.iadd, 1) := by decide +kernel
theorem dX11_missesOf_24 : decode cX11_missesOf 24 = .ok (.iload_n 3, 1) := by decide +kernel
theorem dX11_missesOf_25 : decode cX11_missesOf 25 = .ok (.iadd, 1) := by decide +kernel
theorem dX11_missesOf_26 : decode cX11_missesOf 26 = .ok (.iaload, 1) := by decide +kernel
theorem dX11_missesOf_27 : decode cX11_missesOf 27 = .ok (.iadd, 1) := by decide +kernel
theorem dX11_missesOf_28 : decode cX11_missesOf 28 = .ok (.istore_n 2, 1) := by decide +kernel
theorem dX11_missesOf_29 : decode cX11_missesOf 29 = .ok (.iinc 3 1, 3) := by decide +kernel
theorem dX11_missesOf_32 : decode cX11_missesOf 32 = .ok (.goto (-28), 3) := by decide +kernel
theorem dX11_missesOf_35 : decode cX11_missesOf 35 = .ok (.iload_n 2, 1) := by decide +kernel
theorem dX11_missesOf_36 : decode cX11_missesOf 36 = .ok (.ireturn, 1) := by decide +kernel
theorem dX11_misses_0 : decode cX11_misses 0 = .ok (.aload_n 0, 1) := by decide +kernel
theorem dX11_misses_1 : decode cX11_misses 1 = .ok (.iload_n 1, 1) := by decide +kernel
theorem dX11_misses_2 : decode cX11_misses 2 = .ok (.invokevirtual 107, 3) := by decide +kernel
theorem dX11_misses_5 : decode cX11_misses 5 = .ok (.ifCond .eq 13, 3) := by decide +kernel
theorem dX11_misses_8 : decode cX11_misses 8 = .ok (.iload_n 2, 1) := by decide +kernel
theorem dX11_misses_9 : decode cX11_misses 9 = .ok (.iconst (-1), 1) := by decide +kernel
theorem dX11_misses_10 : decode cX11_misses 10 = .ok (.bipush 63, 2) := by decide +kernel
theorem dX11_misses_12 : decode cX11_misses 12 = .ok (.invokestatic 72, 3) := by decide +kernel
theorem dX11_misses_15 : decode cX11_misses 15 = .ok (.ifCond .ne 5, 3) := by decide +kernel
theorem dX11_misses_18 : decode cX11_misses 18 = .ok (.iconst (-1), 1) := by decide +kernel
theorem dX11_misses_19 : decode cX11_misses 19 = .ok (.ireturn, 1) := by decide +kernel
theorem dX11_misses_20 : decode cX11_misses 20 = .ok (.iload_n 2, 1) := by decide +kernel
theorem dX11_misses_21 : decode cX11_misses 21 = .ok (.ifCond .ge 11, 3) := by decide +kernel
theorem dX11_misses_24 : decode cX11_misses 24 = .ok (.aload_n 0, 1) := by decide +kernel
theorem dX11_misses_25 : decode cX11_misses 25 = .ok (.iload_n 1, 1) := by decide +kernel
theorem dX11_misses_26 : decode cX11_misses 26 = .ok (.invokevirtual 152, 3) := by decide +kernel
theorem dX11_misses_29 : decode cX11_misses 29 = .ok (.goto 19, 3) := by decide +kernel
theorem dX11_misses_32 : decode cX11_misses 32 = .ok (.aload_n 0, 1) := by decide +kernel
theorem dX11_misses_33 : decode cX11_misses 33 = .ok (.getfield 49, 3) := by decide +kernel
theorem dX11_misses_36 : decode cX11_misses 36 = .ok (.sipush 812, 3) := by decide +kernel
theorem dX11_misses_39 : decode cX11_misses 39 = .ok (.iload_n 1, 1) := by decide +kernel
theorem dX11_misses_40 : decode cX11_misses 40 = .ok (.imul, 1) := by decide +kernel
theorem dX11_misses_41 : decode cX11_misses 41 = .ok (.sipush 448, 3) := by decide +kernel
theorem dX11_misses_44 : decode cX11_misses 44 = .ok (.iadd, 1) := by decide +kernel
theorem dX11_misses_45 : decode cX11_misses 45 = .ok (.iload_n 2, 1) := by decide +kernel
theorem dX11_misses_46 : decode cX11_misses 46 = .ok (.iadd, 1) := by decide +kernel
theorem dX11_misses_47 : decode cX11_misses 47 = .ok (.iaload, 1) := by decide +kernel
theorem dX11_misses_48 : decode cX11_misses 48 = .ok (.ireturn, 1) := by decide +kernel
theorem dX11_asked_0 : decode cX11_asked 0 = .ok (.aload_n 0, 1) := by decide +kernel
theorem dX11_asked_1 : decode cX11_asked 1 = .ok (.iload_n 1, 1) := by decide +kernel
theorem dX11_asked_2 : decode cX11_asked 2 = .ok (.invokevirtual 107, 3) := by decide +kernel
theorem dX11_asked_5 : decode cX11_asked 5 = .ok (.ifCond .eq 20, 3) := by decide +kernel
theorem dX11_asked_8 : decode cX11_asked 8 = .ok (.aload_n 0, 1) := by decide +kernel
theorem dX11_asked_9 : decode cX11_asked 9 = .ok (.getfield 49, 3) := by decide +kernel
theorem dX11_asked_12 : decode cX11_asked 12 = .ok (.sipush 812, 3) := by decide +kernel
theorem dX11_asked_15 : decode cX11_asked 15 = .ok (.iload_n 1, 1) := by decide +kernel
theorem dX11_asked_16 : decode cX11_asked 16 = .ok (.imul, 1) := by decide +kernel
theorem dX11_asked_17 : decode cX11_asked 17 = .ok (.sipush 809, 3) := by decide +kernel
theorem dX11_asked_20 : decode cX11_asked 20 = .ok (.iadd, 1) := by decide +kernel
theorem dX11_asked_21 : decode cX11_asked 21 = .ok (.iaload, 1) := by decide +kernel
theorem dX11_asked_22 : decode cX11_asked 22 = .ok (.goto 4, 3) := by decide +kernel
theorem dX11_asked_25 : decode cX11_asked 25 = .ok (.iconst (-1), 1) := by decide +kernel
theorem dX11_asked_26 : decode cX11_asked 26 = .ok (.ireturn, 1) := by decide +kernel
theorem dX11_clashes_0 : decode cX11_clashes 0 = .ok (.aload_n 0, 1) := by decide +kernel
theorem dX11_clashes_1 : decode cX11_clashes 1 = .ok (.iload_n 1, 1) := by decide +kernel
theorem dX11_clashes_2 : decode cX11_clashes 2 = .ok (.invokevirtual 107, 3) := by decide +kernel
theorem dX11_clashes_5 : decode cX11_clashes 5 = .ok (.ifCond .ne 7, 3) := by decide +kernel
theorem dX11_clashes_8 : decode cX11_clashes 8 = .ok (.iconst (-1), 1) := by decide +kernel
theorem dX11_clashes_9 : decode cX11_clashes 9 = .ok (.goto 30, 3) := by decide +kernel
theorem dX11_clashes_12 : decode cX11_clashes 12 = .ok (.aload_n 0, 1) := by decide +kernel
theorem dX11_clashes_13 : decode cX11_clashes 13 = .ok (.iload_n 1, 1) := by decide +kernel
theorem dX11_clashes_14 : decode cX11_clashes 14 = .ok (.invokevirtual 129, 3) := by decide +kernel
theorem dX11_clashes_17 : decode cX11_clashes 17 = .ok (.ifCond .eq 20, 3) := by decide +kernel
theorem dX11_clashes_20 : decode cX11_clashes 20 = .ok (.aload_n 0, 1) := by decide +kernel
theorem dX11_clashes_21 : decode cX11_clashes 21 = .ok (.getfield 49, 3) := by decide +kernel
theorem dX11_clashes_24 : decode cX11_clashes 24 = .ok (.sipush 812, 3) := by decide +kernel
theorem dX11_clashes_27 : decode cX11_clashes 27 = .ok (.iload_n 1, 1) := by decide +kernel
theorem dX11_clashes_28 : decode cX11_clashes 28 = .ok (.imul, 1) := by decide +kernel
theorem dX11_clashes_29 : decode cX11_clashes 29 = .ok (.sipush 810, 3) := by decide +kernel
theorem dX11_clashes_32 : decode cX11_clashes 32 = .ok (.iadd, 1) := by decide +kernel
theorem dX11_clashes_33 : decode cX11_clashes 33 = .ok (.iaload, 1) := by decide +kernel
theorem dX11_clashes_34 : decode cX11_clashes 34 = .ok (.goto 5, 3) := by decide +kernel
theorem dX11_clashes_37 : decode cX11_clashes 37 = .ok (.bipush (-5), 2) := by decide +kernel
theorem dX11_clashes_39 : decode cX11_clashes 39 = .ok (.ireturn, 1) := by decide +kernel
theorem dX11_pair_0 : decode cX11_pair 0 = .ok (.aload_n 0, 1) := by decide +kernel
theorem dX11_pair_1 : decode cX11_pair 1 = .ok (.iload_n 1, 1) := by decide +kernel
theorem dX11_pair_2 : decode cX11_pair 2 = .ok (.invokevirtual 107, 3) := by decide +kernel
theorem dX11_pair_5 : decode cX11_pair 5 = .ok (.ifCond .ne 5, 3) := by decide +kernel
theorem dX11_pair_8 : decode cX11_pair 8 = .ok (.iconst (-1), 1) := by decide +kernel
theorem dX11_pair_9 : decode cX11_pair 9 = .ok (.ireturn, 1) := by decide +kernel
theorem dX11_pair_10 : decode cX11_pair 10 = .ok (.aload_n 0, 1) := by decide +kernel
theorem dX11_pair_11 : decode cX11_pair 11 = .ok (.iload_n 1, 1) := by decide +kernel
theorem dX11_pair_12 : decode cX11_pair 12 = .ok (.invokevirtual 129, 3) := by decide +kernel
theorem dX11_pair_15 : decode cX11_pair 15 = .ok (.ifCond .ne 6, 3) := by decide +kernel
theorem dX11_pair_18 : decode cX11_pair 18 = .ok (.bipush (-5), 2) := by decide +kernel
theorem dX11_pair_20 : decode cX11_pair 20 = .ok (.ireturn, 1) := by decide +kernel
theorem dX11_pair_21 : decode cX11_pair 21 = .ok (.iload_n 2, 1) := by decide +kernel
theorem dX11_pair_22 : decode cX11_pair 22 = .ok (.iconst 0, 1) := by decide +kernel
theorem dX11_pair_23 : decode cX11_pair 23 = .ok (.aload_n 0, 1) := by decide +kernel
theorem dX11_pair_24 : decode cX11_pair 24 = .ok (.getfield 49, 3) := by decide +kernel
theorem dX11_pair_27 : decode cX11_pair 27 = .ok (.sipush 812, 3) := by decide +kernel
theorem dX11_pair_30 : decode cX11_pair 30 = .ok (.iload_n 1, 1) := by decide +kernel
theorem dX11_pair_31 : decode cX11_pair 31 = .ok (.imul, 1) := by decide +kernel
theorem dX11_pair_32 : decode cX11_pair 32 = .ok (.sipush 811, 3) := by decide +kernel
theorem dX11_pair_35 : decode cX11_pair 35 = .ok (.iadd, 1) := by decide +kernel
theorem dX11_pair_36 : decode cX11_pair 36 = .ok (.iaload, 1) := by decide +kernel
theorem dX11_pair_37 : decode cX11_pair 37 = .ok (.iconst 1, 1) := by decide +kernel
theorem dX11_pair_38 : decode cX11_pair 38 = .ok (.isub, 1) := by decide +kernel
theorem dX11_pair_39 : decode cX11_pair 39 = .ok (.invokestatic 72, 3) := by decide +kernel
theorem dX11_pair_42 : decode cX11_pair 42 = .ok (.ifCond .eq 22, 3) := by decide +kernel
theorem dX11_pair_45 : decode cX11_pair 45 = .ok (.aload_n 0, 1) := by decide +kernel
theorem dX11_pair_46 : decode cX11_pair 46 = .ok (.getfield 49, 3) := by decide +kernel
theorem dX11_pair_49 : decode cX11_pair 49 = .ok (.sipush 812, 3) := by decide +kernel
theorem dX11_pair_52 : decode cX11_pair 52 = .ok (.iload_n 1, 1) := by decide +kernel
theorem dX11_pair_53 : decode cX11_pair 53 = .ok (.imul, 1) := by decide +kernel
theorem dX11_pair_54 : decode cX11_pair 54 = .ok (.sipush 768, 3) := by decide +kernel
theorem dX11_pair_57 : decode cX11_pair 57 = .ok (.iadd, 1) := by decide +kernel
theorem dX11_pair_58 : decode cX11_pair 58 = .ok (.iload_n 2, 1) := by decide +kernel
theorem dX11_pair_59 : decode cX11_pair 59 = .ok (.iadd, 1) := by decide +kernel
theorem dX11_pair_60 : decode cX11_pair 60 = .ok (.iaload, 1) := by decide +kernel
theorem dX11_pair_61 : decode cX11_pair 61 = .ok (.goto 5, 3) := by decide +kernel
theorem dX11_pair_64 : decode cX11_pair 64 = .ok (.bipush (-6), 2) := by decide +kernel
theorem dX11_pair_66 : decode cX11_pair 66 = .ok (.ireturn, 1) := by decide +kernel
theorem dX11_inside_0 : decode cX11_inside 0 = .ok (.aload_n 0, 1) := by decide +kernel
theorem dX11_inside_1 : decode cX11_inside 1 = .ok (.iload_n 1, 1) := by decide +kernel
theorem dX11_inside_2 : decode cX11_inside 2 = .ok (.invokevirtual 107, 3) := by decide +kernel
theorem dX11_inside_5 : decode cX11_inside 5 = .ok (.ifCond .ne 7, 3) := by decide +kernel
theorem dX11_inside_8 : decode cX11_inside 8 = .ok (.sipush (-1000), 3) := by decide +kernel
theorem dX11_inside_11 : decode cX11_inside 11 = .ok (.ireturn, 1) := by decide +kernel
theorem dX11_inside_12 : decode cX11_inside 12 = .ok (.sipush 812, 3) := by decide +kernel
theorem dX11_inside_15 : decode cX11_inside 15 = .ok (.iload_n 1, 1) := by decide +kernel
theorem dX11_inside_16 : decode cX11_inside 16 = .ok (.imul, 1) := by decide +kernel
theorem dX11_inside_17 : decode cX11_inside 17 = .ok (.istore 4, 2) := by decide +kernel
theorem dX11_inside_19 : decode cX11_inside 19 = .ok (.aload_n 0, 1) := by decide +kernel
theorem dX11_inside_20 : decode cX11_inside 20 = .ok (.getfield 34, 3) := by decide +kernel
theorem dX11_inside_23 : decode cX11_inside 23 = .ok (.iload_n 1, 1) := by decide +kernel
theorem dX11_inside_24 : decode cX11_inside 24 = .ok (.iaload, 1) := by decide +kernel
theorem dX11_inside_25 : decode cX11_inside 25 = .ok (.tableswitch 227 0 7 #[47, 227, 227, 227, 51, 100, 153, 189], 47) := by decide +kernel
theorem dX11_inside_72 : decode cX11_inside 72 = .ok (.sipush (-1001), 3) := by decide +kernel
theorem dX11_inside_75 : decode cX11_inside 75 = .ok (.ireturn, 1) := by decide +kernel
theorem dX11_inside_76 : decode cX11_inside 76 = .ok (.iload_n 2, 1) := by decide +kernel
theorem dX11_inside_77 : decode cX11_inside 77 = .ok (.iconst 0, 1) := by decide +kernel
theorem dX11_inside_78 : decode cX11_inside 78 = .ok (.iconst 2, 1) := by decide +kernel
theorem dX11_inside_79 : decode cX11_inside 79 = .ok (.invokestatic 72, 3) := by decide +kernel
theorem dX11_inside_82 : decode cX11_inside 82 = .ok (.ifCond .eq 39, 3) := by decide +kernel
theorem dX11_inside_85 : decode cX11_inside 85 = .ok (.iload_n 3, 1) := by decide +kernel
theorem dX11_inside_86 : decode cX11_inside 86 = .ok (.iconst 0, 1) := by decide +kernel
theorem dX11_inside_87 : decode cX11_inside 87 = .ok (.iconst 1, 1) := by decide +kernel
theorem dX11_inside_88 : decode cX11_inside 88 = .ok (.aload_n 0, 1) := by decide +kernel
theorem dX11_inside_89 : decode cX11_inside 89 = .ok (.getfield 37, 3) := by decide +kernel
theorem dX11_inside_92 : decode cX11_inside 92 = .ok (.iload_n 1, 1) := by decide +kernel
theorem dX11_inside_93 : decode cX11_inside 93 = .ok (.iaload, 1) := by decide +kernel
theorem dX11_inside_94 : decode cX11_inside 94 = .ok (.ishl, 1) := by decide +kernel
theorem dX11_inside_95 : decode cX11_inside 95 = .ok (.iconst 1, 1) := by decide +kernel
theorem dX11_inside_96 : decode cX11_inside 96 = .ok (.isub, 1) := by decide +kernel
theorem dX11_inside_97 : decode cX11_inside 97 = .ok (.invokestatic 72, 3) := by decide +kernel
theorem dX11_inside_100 : decode cX11_inside 100 = .ok (.ifCond .eq 21, 3) := by decide +kernel
theorem dX11_inside_103 : decode cX11_inside 103 = .ok (.aload_n 0, 1) := by decide +kernel
theorem dX11_inside_104 : decode cX11_inside 104 = .ok (.getfield 49, 3) := by decide +kernel
theorem dX11_inside_107 : decode cX11_inside 107 = .ok (.iload 4, 2) := by decide +kernel
theorem dX11_inside_109 : decode cX11_inside 109 = .ok (.sipush 128, 3) := by decide +kernel
theorem dX11_inside_112 : decode cX11_inside 112 = .ok (.iload_n 2, 1) := by decide +kernel
theorem dX11_inside_113 : decode cX11_inside 113 = .ok (.imul, 1) := by decide +kernel
theorem dX11_inside_114 : decode cX11_inside 114 = .ok (.iadd, 1) := by decide +kernel
theorem dX11_inside_115 : decode cX11_inside 115 = .ok (.iload_n 3, 1) := by decide +kernel
theorem dX11_inside_116 : decode cX11_inside 116 = .ok (.iadd, 1) := by decide +kernel
theorem dX11_inside_117 : decode cX11_inside 117 = .ok (.iaload, 1) := by decide +kernel
theorem dX11_inside_118 : decode cX11_inside 118 = .ok (.goto 6, 3) := by decide +kernel
theorem dX11_inside_121 : decode cX11_inside 121 = .ok (.sipush (-1000), 3) := by decide +kernel
theorem dX11_inside_124 : decode cX11_inside 124 = .ok (.ireturn, 1) := by decide +kernel
theorem dX11_inside_125 : decode cX11_inside 125 = .ok (.iload_n 2, 1) := by decide +kernel
theorem dX11_inside_126 : decode cX11_inside 126 = .ok (.iconst 0, 1) := by decide +kernel
theorem dX11_inside_127 : decode cX11_inside 127 = .ok (.iconst 1, 1) := by decide +kernel
theorem dX11_inside_128 : decode cX11_inside 128 = .ok (.aload_n 0, 1) := by decide +kernel
theorem dX11_inside_129 : decode cX11_inside 129 = .ok (.getfield 37, 3) := by decide +kernel
theorem dX11_inside_132 : decode cX11_inside 132 = .ok (.iload_n 1, 1) := by decide +kernel
theorem dX11_inside_133 : decode cX11_inside 133 = .ok (.iaload, 1) := by decide +kernel
theorem dX11_inside_134 : decode cX11_inside 134 = .ok (.ishl, 1) := by decide +kernel
theorem dX11_inside_135 : decode cX11_inside 135 = .ok (.iconst 1, 1) := by decide +kernel
theorem dX11_inside_136 : decode cX11_inside 136 = .ok (.isub, 1) := by decide +kernel
theorem dX11_inside_137 : decode cX11_inside 137 = .ok (.invokestatic 72, 3) := by decide +kernel
theorem dX11_inside_140 : decode cX11_inside 140 = .ok (.ifCond .eq 34, 3) := by decide +kernel
theorem dX11_inside_143 : decode cX11_inside 143 = .ok (.iload_n 3, 1) := by decide +kernel
theorem dX11_inside_144 : decode cX11_inside 144 = .ok (.iconst 0, 1) := by decide +kernel
theorem dX11_inside_145 : decode cX11_inside 145 = .ok (.aload_n 0, 1) := by decide +kernel
theorem dX11_inside_146 : decode cX11_inside 146 = .ok (.getfield 40, 3) := by decide +kernel
theorem dX11_inside_149 : decode cX11_inside 149 = .ok (.iload_n 1, 1) := by decide +kernel
theorem dX11_inside_150 : decode cX11_inside 150 = .ok (.iaload, 1) := by decide +kernel
theorem dX11_inside_151 : decode cX11_inside 151 = .ok (.invokestatic 72, 3) := by decide +kernel
theorem dX11_inside_154 : decode cX11_inside 154 = .ok (.ifCond .eq 20, 3) := by decide +kernel
theorem dX11_inside_157 : decode cX11_inside 157 = .ok (.aload_n 0, 1) := by decide +kernel
theorem dX11_inside_158 : decode cX11_inside 158 = .ok (.getfield 49, 3) := by decide +kernel
theorem dX11_inside_161 : decode cX11_inside 161 = .ok (.iload 4, 2) := by decide +kernel
theorem dX11_inside_163 : decode cX11_inside 163 = .ok (.bipush 9, 2) := by decide +kernel
theorem dX11_inside_165 : decode cX11_inside 165 = .ok (.iload_n 2, 1) := by decide +kernel
theorem dX11_inside_166 : decode cX11_inside 166 = .ok (.imul, 1) := by decide +kernel
theorem dX11_inside_167 : decode cX11_inside 167 = .ok (.iadd, 1) := by decide +kernel
theorem dX11_inside_168 : decode cX11_inside 168 = .ok (.iload_n 3, 1) := by decide +kernel
theorem dX11_inside_169 : decode cX11_inside 169 = .ok (.iadd, 1) := by decide +kernel
theorem dX11_inside_170 : decode cX11_inside 170 = .ok (.iaload, 1) := by decide +kernel
theorem dX11_inside_171 : decode cX11_inside 171 = .ok (.goto 6, 3) := by decide +kernel
theorem dX11_inside_174 : decode cX11_inside 174 = .ok (.sipush (-1000), 3) := by decide +kernel
theorem dX11_inside_177 : decode cX11_inside 177 = .ok (.ireturn, 1) := by decide +kernel
theorem dX11_inside_178 : decode cX11_inside 178 = .ok (.iload_n 2, 1) := by decide +kernel
theorem dX11_inside_179 : decode cX11_inside 179 = .ok (.invokestatic 76, 3) := by decide +kernel
theorem dX11_inside_182 : decode cX11_inside 182 = .ok (.ifCond .eq 28, 3) := by decide +kernel
theorem dX11_inside_185 : decode cX11_inside 185 = .ok (.iload_n 3, 1) := by decide +kernel
theorem dX11_inside_186 : decode cX11_inside 186 = .ok (.iconst 0, 1) := by decide +kernel
theorem dX11_inside_187 : decode cX11_inside 187 = .ok (.iconst 2, 1) := by decide +kernel
theorem dX11_inside_188 : decode cX11_inside 188 = .ok (.invokestatic 72, 3) := by decide +kernel
theorem dX11_inside_191 : decode cX11_inside 191 = .ok (.ifCond .eq 19, 3) := by decide +kernel
theorem dX11_inside_194 : decode cX11_inside 194 = .ok (.aload_n 0, 1) := by decide +kernel
theorem dX11_inside_195 : decode cX11_inside 195 = .ok (.getfield 49, 3) := by decide +kernel
theorem dX11_inside_198 : decode cX11_inside 198 = .ok (.iload 4, 2) := by decide +kernel
theorem dX11_inside_200 : decode cX11_inside 200 = .ok (.iconst 3, 1) := by decide +kernel
theorem dX11_inside_201 : decode cX11_inside 201 = .ok (.iload_n 2, 1) := by decide +kernel
theorem dX11_inside_202 : decode cX11_inside 202 = .ok (.imul, 1) := by decide +kernel
theorem dX11_inside_203 : decode cX11_inside 203 = .ok (.iadd, 1) := by decide +kernel
theorem dX11_inside_204 : decode cX11_inside 204 = .ok (.iload_n 3, 1) := by decide +kernel
theorem dX11_inside_205 : decode cX11_inside 205 = .ok (.iadd, 1) := by decide +kernel
theorem dX11_inside_206 : decode cX11_inside 206 = .ok (.iaload, 1) := by decide +kernel
theorem dX11_inside_207 : decode cX11_inside 207 = .ok (.goto 6, 3) := by decide +kernel
theorem dX11_inside_210 : decode cX11_inside 210 = .ok (.sipush (-1000), 3) := by decide +kernel
theorem dX11_inside_213 : decode cX11_inside 213 = .ok (.ireturn, 1) := by decide +kernel
theorem dX11_inside_214 : decode cX11_inside 214 = .ok (.iload_n 2, 1) := by decide +kernel
theorem dX11_inside_215 : decode cX11_inside 215 = .ok (.ifCond .ne 33, 3) := by decide +kernel
theorem dX11_inside_218 : decode cX11_inside 218 = .ok (.iload_n 3, 1) := by decide +kernel
theorem dX11_inside_219 : decode cX11_inside 219 = .ok (.iconst 0, 1) := by decide +kernel
theorem dX11_inside_220 : decode cX11_inside 220 = .ok (.iconst 1, 1) := by decide +kernel
theorem dX11_inside_221 : decode cX11_inside 221 = .ok (.aload_n 0, 1) := by decide +kernel
theorem dX11_inside_222 : decode cX11_inside 222 = .ok (.getfield 43, 3) := by decide +kernel
theorem dX11_inside_225 : decode cX11_inside 225 = .ok (.iload_n 1, 1) := by decide +kernel
theorem dX11_inside_226 : decode cX11_inside 226 = .ok (.iaload, 1) := by decide +kernel
theorem dX11_inside_227 : decode cX11_inside 227 = .ok (.ishl, 1) := by decide +kernel
theorem dX11_inside_228 : decode cX11_inside 228 = .ok (.iconst 1, 1) := by decide +kernel
theorem dX11_inside_229 : decode cX11_inside 229 = .ok (.isub, 1) := by decide +kernel
theorem dX11_inside_230 : decode cX11_inside 230 = .ok (.invokestatic 72, 3) := by decide +kernel
theorem dX11_inside_233 : decode cX11_inside 233 = .ok (.ifCond .eq 15, 3) := by decide +kernel
theorem dX11_inside_236 : decode cX11_inside 236 = .ok (.aload_n 0, 1) := by decide +kernel
theorem dX11_inside_237 : decode cX11_inside 237 = .ok (.getfield 49, 3) := by decide +kernel
theorem dX11_inside_240 : decode cX11_inside 240 = .ok (.iload 4, 2) := by decide +kernel
theorem dX11_inside_242 : decode cX11_inside 242 = .ok (.iload_n 3, 1) := by decide +kernel
theorem dX11_inside_243 : decode cX11_inside 243 = .ok (.iadd, 1) := by decide +kernel
theorem dX11_inside_244 : decode cX11_inside 244 = .ok (.iaload, 1) := by decide +kernel
theorem dX11_inside_245 : decode cX11_inside 245 = .ok (.goto 6, 3) := by decide +kernel
theorem dX11_inside_248 : decode cX11_inside 248 = .ok (.sipush (-1000), 3) := by decide +kernel
theorem dX11_inside_251 : decode cX11_inside 251 = .ok (.ireturn, 1) := by decide +kernel
theorem dX11_inside_252 : decode cX11_inside 252 = .ok (.iload_n 2, 1) := by decide +kernel
theorem dX11_inside_253 : decode cX11_inside 253 = .ok (.ifCond .ne 33, 3) := by decide +kernel
theorem dX11_inside_256 : decode cX11_inside 256 = .ok (.iload_n 3, 1) := by decide +kernel
theorem dX11_inside_257 : decode cX11_inside 257 = .ok (.iconst 0, 1) := by decide +kernel
theorem dX11_inside_258 : decode cX11_inside 258 = .ok (.iconst 1, 1) := by decide +kernel
theorem dX11_inside_259 : decode cX11_inside 259 = .ok (.aload_n 0, 1) := by decide +kernel
theorem dX11_inside_260 : decode cX11_inside 260 = .ok (.getfield 37, 3) := by decide +kernel
theorem dX11_inside_263 : decode cX11_inside 263 = .ok (.iload_n 1, 1) := by decide +kernel
theorem dX11_inside_264 : decode cX11_inside 264 = .ok (.iaload, 1) := by decide +kernel
theorem dX11_inside_265 : decode cX11_inside 265 = .ok (.ishl, 1) := by decide +kernel
theorem dX11_inside_266 : decode cX11_inside 266 = .ok (.iconst 1, 1) := by decide +kernel
theorem dX11_inside_267 : decode cX11_inside 267 = .ok (.isub, 1) := by decide +kernel
theorem dX11_inside_268 : decode cX11_inside 268 = .ok (.invokestatic 72, 3) := by decide +kernel
theorem dX11_inside_271 : decode cX11_inside 271 = .ok (.ifCond .eq 15, 3) := by decide +kernel
theorem dX11_inside_274 : decode cX11_inside 274 = .ok (.aload_n 0, 1) := by decide +kernel
theorem dX11_inside_275 : decode cX11_inside 275 = .ok (.getfield 49, 3) := by decide +kernel
theorem dX11_inside_278 : decode cX11_inside 278 = .ok (.iload 4, 2) := by decide +kernel
theorem dX11_inside_280 : decode cX11_inside 280 = .ok (.iload_n 3, 1) := by decide +kernel
theorem dX11_inside_281 : decode cX11_inside 281 = .ok (.iadd, 1) := by decide +kernel
theorem dX11_inside_282 : decode cX11_inside 282 = .ok (.iaload, 1) := by decide +kernel
theorem dX11_inside_283 : decode cX11_inside 283 = .ok (.goto 6, 3) := by decide +kernel
theorem dX11_inside_286 : decode cX11_inside 286 = .ok (.sipush (-1000), 3) := by decide +kernel
theorem dX11_inside_289 : decode cX11_inside 289 = .ok (.ireturn, 1) := by decide +kernel
theorem dX11_fresh_0 : decode cX11_fresh 0 = .ok (.aload_n 0, 1) := by decide +kernel
theorem dX11_fresh_1 : decode cX11_fresh 1 = .ok (.iload_n 1, 1) := by decide +kernel
theorem dX11_fresh_2 : decode cX11_fresh 2 = .ok (.invokevirtual 107, 3) := by decide +kernel
theorem dX11_fresh_5 : decode cX11_fresh 5 = .ok (.ifCond .ne 5, 3) := by decide +kernel
theorem dX11_fresh_8 : decode cX11_fresh 8 = .ok (.iconst (-1), 1) := by decide +kernel
theorem dX11_fresh_9 : decode cX11_fresh 9 = .ok (.ireturn, 1) := by decide +kernel
theorem dX11_fresh_10 : decode cX11_fresh 10 = .ok (.aload_n 0, 1) := by decide +kernel
theorem dX11_fresh_11 : decode cX11_fresh 11 = .ok (.getfield 49, 3) := by decide +kernel
theorem dX11_fresh_14 : decode cX11_fresh 14 = .ok (.sipush 812, 3) := by decide +kernel
theorem dX11_fresh_17 : decode cX11_fresh 17 = .ok (.iload_n 1, 1) := by decide +kernel
theorem dX11_fresh_18 : decode cX11_fresh 18 = .ok (.imul, 1) := by decide +kernel
theorem dX11_fresh_19 : decode cX11_fresh 19 = .ok (.sipush 809, 3) := by decide +kernel
theorem dX11_fresh_22 : decode cX11_fresh 22 = .ok (.iadd, 1) := by decide +kernel
theorem dX11_fresh_23 : decode cX11_fresh 23 = .ok (.iaload, 1) := by decide +kernel
theorem dX11_fresh_24 : decode cX11_fresh 24 = .ok (.istore_n 2, 1) := by decide +kernel
theorem dX11_fresh_25 : decode cX11_fresh 25 = .ok (.aload_n 0, 1) := by decide +kernel
theorem dX11_fresh_26 : decode cX11_fresh 26 = .ok (.iload_n 1, 1) := by decide +kernel
theorem dX11_fresh_27 : decode cX11_fresh 27 = .ok (.invokevirtual 114, 3) := by decide +kernel
theorem dX11_fresh_30 : decode cX11_fresh 30 = .ok (.iload_n 2, 1) := by decide +kernel
theorem dX11_fresh_31 : decode cX11_fresh 31 = .ok (.ireturn, 1) := by decide +kernel
theorem dX11_again_0 : decode cX11_again 0 = .ok (.aload_n 0, 1) := by decide +kernel
theorem dX11_again_1 : decode cX11_again 1 = .ok (.iload_n 1, 1) := by decide +kernel
theorem dX11_again_2 : decode cX11_again 2 = .ok (.invokevirtual 107, 3) := by decide +kernel
theorem dX11_again_5 : decode cX11_again 5 = .ok (.ifCond .ne 5, 3) := by decide +kernel
theorem dX11_again_8 : decode cX11_again 8 = .ok (.iconst (-1), 1) := by decide +kernel
theorem dX11_again_9 : decode cX11_again 9 = .ok (.ireturn, 1) := by decide +kernel
theorem dX11_again_10 : decode cX11_again 10 = .ok (.iconst 1, 1) := by decide +kernel
theorem dX11_again_11 : decode cX11_again 11 = .ok (.iload_n 1, 1) := by decide +kernel
theorem dX11_again_12 : decode cX11_again 12 = .ok (.ishl, 1) := by decide +kernel
theorem dX11_again_13 : decode cX11_again 13 = .ok (.istore_n 2, 1) := by decide +kernel
theorem dX11_again_14 : decode cX11_again 14 = .ok (.iload_n 1, 1) := by decide +kernel
theorem dX11_again_15 : decode cX11_again 15 = .ok (.istore_n 3, 1) := by decide +kernel
theorem dX11_again_16 : decode cX11_again 16 = .ok (.iload_n 3, 1) := by decide +kernel
theorem dX11_again_17 : decode cX11_again 17 = .ok (.ifCond .lt 65, 3) := by decide +kernel
theorem dX11_again_20 : decode cX11_again 20 = .ok (.iload_n 2, 1) := by decide +kernel
theorem dX11_again_21 : decode cX11_again 21 = .ok (.iload_n 3, 1) := by decide +kernel
theorem dX11_again_22 : decode cX11_again 22 = .ok (.ishr, 1) := by decide +kernel
theorem dX11_again_23 : decode cX11_again 23 = .ok (.iconst 1, 1) := by decide +kernel
theorem dX11_again_24 : decode cX11_again 24 = .ok (.iand, 1) := by decide +kernel
theorem dX11_again_25 : decode cX11_again 25 = .ok (.iconst 1, 1) := by decide +kernel
theorem dX11_again_26 : decode cX11_again 26 = .ok (.if_icmp .ne 18, 3) := by decide +kernel
theorem dX11_again_29 : decode cX11_again 29 = .ok (.aload_n 0, 1) := by decide +kernel
theorem dX11_again_30 : decode cX11_again 30 = .ok (.getfield 34, 3) := by decide +kernel
theorem dX11_again_33 : decode cX11_again 33 = .ok (.iload_n 3, 1) := by decide +kernel
theorem dX11_again_34 : decode cX11_again 34 = .ok (.iaload, 1) := by decide +kernel
theorem dX11_again_35 : decode cX11_again 35 = .ok (.bipush 7, 2) := by decide +kernel
theorem dX11_again_37 : decode cX11_again 37 = .ok (.if_icmp .ne 7, 3) := by decide +kernel
theorem dX11_again_40 : decode cX11_again 40 = .ok (.iconst 1, 1) := by decide +kernel
theorem dX11_again_41 : decode cX11_again 41 = .ok (.goto 4, 3) := by decide +kernel
theorem dX11_again_44 : decode cX11_again 44 = .ok (.iconst 0, 1) := by decide +kernel
theorem dX11_again_45 : decode cX11_again 45 = .ok (.istore 4, 2) := by decide +kernel
theorem dX11_again_47 : decode cX11_again 47 = .ok (.iload_n 2, 1) := by decide +kernel
theorem dX11_again_48 : decode cX11_again 48 = .ok (.iload 4, 2) := by decide +kernel
theorem dX11_again_50 : decode cX11_again 50 = .ok (.ifCond .eq 23, 3) := by decide +kernel
theorem dX11_again_53 : decode cX11_again 53 = .ok (.iconst 1, 1) := by decide +kernel
theorem dX11_again_54 : decode cX11_again 54 = .ok (.aload_n 0, 1) := by decide +kernel
theorem dX11_again_55 : decode cX11_again 55 = .ok (.getfield 37, 3) := by decide +kernel
theorem dX11_again_58 : decode cX11_again 58 = .ok (.iload_n 3, 1) := by decide +kernel
theorem dX11_again_59 : decode cX11_again 59 = .ok (.iaload, 1) := by decide +kernel
theorem dX11_again_60 : decode cX11_again 60 = .ok (.ishl, 1) := by decide +kernel
theorem dX11_again_61 : decode cX11_again 61 = .ok (.iconst 1, 1) := by decide +kernel
theorem dX11_again_62 : decode cX11_again 62 = .ok (.aload_n 0, 1) := by decide +kernel
theorem dX11_again_63 : decode cX11_again 63 = .ok (.getfield 40, 3) := by decide +kernel
theorem dX11_again_66 : decode cX11_again 66 = .ok (.iload_n 3, 1) := by decide +kernel
theorem dX11_again_67 : decode cX11_again 67 = .ok (.iaload, 1) := by decide +kernel
theorem dX11_again_68 : decode cX11_again 68 = .ok (.ishl, 1) := by decide +kernel
theorem dX11_again_69 : decode cX11_again 69 = .ok (.ior, 1) := by decide +kernel
theorem dX11_again_70 : decode cX11_again 70 = .ok (.goto 4, 3) := by decide +kernel
theorem dX11_again_73 : decode cX11_again 73 = .ok (.iconst 0, 1) := by decide +kernel
theorem dX11_again_74 : decode cX11_again 74 = .ok (.ior, 1) := by decide +kernel
theorem dX11_again_75 : decode cX11_again 75 = .ok (.istore_n 2, 1) := by decide +kernel
theorem dX11_again_76 : decode cX11_again 76 = .ok (.iinc 3 (-1), 3) := by decide +kernel
theorem dX11_again_79 : decode cX11_again 79 = .ok (.goto (-63), 3) := by decide +kernel
theorem dX11_again_82 : decode cX11_again 82 = .ok (.iconst 0, 1) := by decide +kernel
theorem dX11_again_83 : decode cX11_again 83 = .ok (.istore_n 3, 1) := by decide +kernel
theorem dX11_again_84 : decode cX11_again 84 = .ok (.iload_n 3, 1) := by decide +kernel
theorem dX11_again_85 : decode cX11_again 85 = .ok (.iload_n 1, 1) := by decide +kernel
theorem dX11_again_86 : decode cX11_again 86 = .ok (.if_icmp .gt 23, 3) := by decide +kernel
theorem dX11_again_89 : decode cX11_again 89 = .ok (.iload_n 2, 1) := by decide +kernel
theorem dX11_again_90 : decode cX11_again 90 = .ok (.iload_n 3, 1) := by decide +kernel
theorem dX11_again_91 : decode cX11_again 91 = .ok (.ishr, 1) := by decide +kernel
theorem dX11_again_92 : decode cX11_again 92 = .ok (.iconst 1, 1) := by decide +kernel
theorem dX11_again_93 : decode cX11_again 93 = .ok (.iand, 1) := by decide +kernel
theorem dX11_again_94 : decode cX11_again 94 = .ok (.iconst 1, 1) := by decide +kernel
theorem dX11_again_95 : decode cX11_again 95 = .ok (.if_icmp .ne 8, 3) := by decide +kernel
theorem dX11_again_98 : decode cX11_again 98 = .ok (.aload_n 0, 1) := by decide +kernel
theorem dX11_again_99 : decode cX11_again 99 = .ok (.iload_n 3, 1) := by decide +kernel
theorem dX11_again_100 : decode cX11_again 100 = .ok (.invokevirtual 114, 3) := by decide +kernel
theorem dX11_again_103 : decode cX11_again 103 = .ok (.iinc 3 1, 3) := by decide +kernel
theorem dX11_again_106 : decode cX11_again 106 = .ok (.goto (-22), 3) := by decide +kernel
theorem dX11_again_109 : decode cX11_again 109 = .ok (.iconst 0, 1) := by decide +kernel
theorem dX11_again_110 : decode cX11_again 110 = .ok (.istore_n 3, 1) := by decide +kernel
theorem dX11_again_111 : decode cX11_again 111 = .ok (.iload_n 3, 1) := by decide +kernel
theorem dX11_again_112 : decode cX11_again 112 = .ok (.aload_n 0, 1) := by decide +kernel
theorem dX11_again_113 : decode cX11_again 113 = .ok (.getfield 101, 3) := by decide +kernel
theorem dX11_again_116 : decode cX11_again 116 = .ok (.if_icmp .ge 52, 3) := by decide +kernel
theorem dX11_again_119 : decode cX11_again 119 = .ok (.iconst 0, 1) := by decide +kernel
theorem dX11_again_120 : decode cX11_again 120 = .ok (.istore 4, 2) := by decide +kernel
theorem dX11_again_122 : decode cX11_again 122 = .ok (.iload 4, 2) := by decide +kernel
theorem dX11_again_124 : decode cX11_again 124 = .ok (.iload_n 1, 1) := by decide +kernel
theorem dX11_again_125 : decode cX11_again 125 = .ok (.if_icmp .gt 37, 3) := by decide +kernel
theorem dX11_again_128 : decode cX11_again 128 = .ok (.iload_n 2, 1) := by decide +kernel
theorem dX11_again_129 : decode cX11_again 129 = .ok (.iload 4, 2) := by decide +kernel
theorem dX11_again_131 : decode cX11_again 131 = .ok (.ishr, 1) := by decide +kernel
theorem dX11_again_132 : decode cX11_again 132 = .ok (.iconst 1, 1) := by decide +kernel
theorem dX11_again_133 : decode cX11_again 133 = .ok (.iand, 1) := by decide +kernel
theorem dX11_again_134 : decode cX11_again 134 = .ok (.iconst 1, 1) := by decide +kernel
theorem dX11_again_135 : decode cX11_again 135 = .ok (.if_icmp .ne 21, 3) := by decide +kernel
theorem dX11_again_138 : decode cX11_again 138 = .ok (.aload_n 0, 1) := by decide +kernel
theorem dX11_again_139 : decode cX11_again 139 = .ok (.iload 4, 2) := by decide +kernel
theorem dX11_again_141 : decode cX11_again 141 = .ok (.aload_n 0, 1) := by decide +kernel
theorem dX11_again_142 : decode cX11_again 142 = .ok (.getfield 28, 3) := by decide +kernel
theorem dX11_again_145 : decode cX11_again 145 = .ok (.iload_n 3, 1) := by decide +kernel
theorem dX11_again_146 : decode cX11_again 146 = .ok (.iaload, 1) := by decide +kernel
theorem dX11_again_147 : decode cX11_again 147 = .ok (.aload_n 0, 1) := by decide +kernel
theorem dX11_again_148 : decode cX11_again 148 = .ok (.getfield 31, 3) := by decide +kernel
theorem dX11_again_151 : decode cX11_again 151 = .ok (.iload_n 3, 1) := by decide +kernel
theorem dX11_again_152 : decode cX11_again 152 = .ok (.iaload, 1) := by decide +kernel
theorem dX11_again_153 : decode cX11_again 153 = .ok (.invokevirtual 97, 3) := by decide +kernel
theorem dX11_again_156 : decode cX11_again 156 = .ok (.iinc 4 1, 3) := by decide +kernel
theorem dX11_again_159 : decode cX11_again 159 = .ok (.goto (-37), 3) := by decide +kernel
theorem dX11_again_162 : decode cX11_again 162 = .ok (.iinc 3 1, 3) := by decide +kernel
theorem dX11_again_165 : decode cX11_again 165 = .ok (.goto (-54), 3) := by decide +kernel
theorem dX11_again_168 : decode cX11_again 168 = .ok (.aload_n 0, 1) := by decide +kernel
theorem dX11_again_169 : decode cX11_again 169 = .ok (.iload_n 1, 1) := by decide +kernel
theorem dX11_again_170 : decode cX11_again 170 = .ok (.invokevirtual 152, 3) := by decide +kernel
theorem dX11_again_173 : decode cX11_again 173 = .ok (.ireturn, 1) := by decide +kernel
theorem dX11_keep_0 : decode cX11_keep 0 = .ok (.aload_n 0, 1) := by decide +kernel
theorem dX11_keep_1 : decode cX11_keep 1 = .ok (.iload_n 1, 1) := by decide +kernel
theorem dX11_keep_2 : decode cX11_keep 2 = .ok (.invokevirtual 107, 3) := by decide +kernel
theorem dX11_keep_5 : decode cX11_keep 5 = .ok (.ifCond .eq 12, 3) := by decide +kernel
theorem dX11_keep_8 : decode cX11_keep 8 = .ok (.iload_n 2, 1) := by decide +kernel
theorem dX11_keep_9 : decode cX11_keep 9 = .ok (.iconst 0, 1) := by decide +kernel
theorem dX11_keep_10 : decode cX11_keep 10 = .ok (.iconst 1, 1) := by decide +kernel
theorem dX11_keep_11 : decode cX11_keep 11 = .ok (.invokestatic 72, 3) := by decide +kernel
theorem dX11_keep_14 : decode cX11_keep 14 = .ok (.ifCond .ne 5, 3) := by decide +kernel
theorem dX11_keep_17 : decode cX11_keep 17 = .ok (.iconst (-1), 1) := by decide +kernel
theorem dX11_keep_18 : decode cX11_keep 18 = .ok (.ireturn, 1) := by decide +kernel
theorem dX11_keep_19 : decode cX11_keep 19 = .ok (.iconst 0, 1) := by decide +kernel
theorem dX11_keep_20 : decode cX11_keep 20 = .ok (.istore_n 3, 1) := by decide +kernel
theorem dX11_keep_21 : decode cX11_keep 21 = .ok (.iload_n 3, 1) := by decide +kernel
theorem dX11_keep_22 : decode cX11_keep 22 = .ok (.sipush 812, 3) := by decide +kernel
theorem dX11_keep_25 : decode cX11_keep 25 = .ok (.if_icmp .ge 37, 3) := by decide +kernel
theorem dX11_keep_28 : decode cX11_keep 28 = .ok (.aload_n 0, 1) := by decide +kernel
theorem dX11_keep_29 : decode cX11_keep 29 = .ok (.getfield 52, 3) := by decide +kernel
theorem dX11_keep_32 : decode cX11_keep 32 = .ok (.sipush 812, 3) := by decide +kernel
theorem dX11_keep_35 : decode cX11_keep 35 = .ok (.iconst 2, 1) := by decide +kernel
theorem dX11_keep_36 : decode cX11_keep 36 = .ok (.iload_n 1, 1) := by decide +kernel
theorem dX11_keep_37 : decode cX11_keep 37 = .ok (.imul, 1) := by decide +kernel
theorem dX11_keep_38 : decode cX11_keep 38 = .ok (.iload_n 2, 1) := by decide +kernel
theorem dX11_keep_39 : decode cX11_keep 39 = .ok (.iadd, 1) := by decide +kernel
theorem dX11_keep_40 : decode cX11_keep 40 = .ok (.imul, 1) := by decide +kernel
theorem dX11_keep_41 : decode cX11_keep 41 = .ok (.iload_n 3, 1) := by decide +kernel
theorem dX11_keep_42 : decode cX11_keep 42 = .ok (.iadd, 1) := by decide +kernel
theorem dX11_keep_43 : decode cX11_keep 43 = .ok (.aload_n 0, 1) := by decide +kernel
theorem dX11_keep_44 : decode cX11_keep 44 = .ok (.getfield 49, 3) := by decide +kernel
theorem dX11_keep_47 : decode cX11_keep 47 = .ok (.sipush 812, 3) := by decide +kernel
theorem dX11_keep_50 : decode cX11_keep 50 = .ok (.iload_n 1, 1) := by decide +kernel
theorem dX11_keep_51 : decode cX11_keep 51 = .ok (.imul, 1) := by decide +kernel
theorem dX11_keep_52 : decode cX11_keep 52 = .ok (.iload_n 3, 1) := by decide +kernel
theorem dX11_keep_53 : decode cX11_keep 53 = .ok (.iadd, 1) := by decide +kernel
theorem dX11_keep_54 : decode cX11_keep 54 = .ok (.iaload, 1) := by decide +kernel
theorem dX11_keep_55 : decode cX11_keep 55 = .ok (.iastore, 1) := by decide +kernel
theorem dX11_keep_56 : decode cX11_keep 56 = .ok (.iinc 3 1, 3) := by decide +kernel
theorem dX11_keep_59 : decode cX11_keep 59 = .ok (.goto (-38), 3) := by decide +kernel
theorem dX11_keep_62 : decode cX11_keep 62 = .ok (.aload_n 0, 1) := by decide +kernel
theorem dX11_keep_63 : decode cX11_keep 63 = .ok (.getfield 55, 3) := by decide +kernel
theorem dX11_keep_66 : decode cX11_keep 66 = .ok (.iconst 2, 1) := by decide +kernel
theorem dX11_keep_67 : decode cX11_keep 67 = .ok (.iload_n 1, 1) := by decide +kernel
theorem dX11_keep_68 : decode cX11_keep 68 = .ok (.imul, 1) := by decide +kernel
theorem dX11_keep_69 : decode cX11_keep 69 = .ok (.iload_n 2, 1) := by decide +kernel
theorem dX11_keep_70 : decode cX11_keep 70 = .ok (.iadd, 1) := by decide +kernel
theorem dX11_keep_71 : decode cX11_keep 71 = .ok (.iconst 1, 1) := by decide +kernel
theorem dX11_keep_72 : decode cX11_keep 72 = .ok (.bastore, 1) := by decide +kernel
theorem dX11_keep_73 : decode cX11_keep 73 = .ok (.iconst 1, 1) := by decide +kernel
theorem dX11_keep_74 : decode cX11_keep 74 = .ok (.ireturn, 1) := by decide +kernel
theorem dX11_back_0 : decode cX11_back 0 = .ok (.aload_n 0, 1) := by decide +kernel
theorem dX11_back_1 : decode cX11_back 1 = .ok (.iload_n 1, 1) := by decide +kernel
theorem dX11_back_2 : decode cX11_back 2 = .ok (.invokevirtual 107, 3) := by decide +kernel
theorem dX11_back_5 : decode cX11_back 5 = .ok (.ifCond .eq 25, 3) := by decide +kernel
theorem dX11_back_8 : decode cX11_back 8 = .ok (.iload_n 2, 1) := by decide +kernel
theorem dX11_back_9 : decode cX11_back 9 = .ok (.iconst 0, 1) := by decide +kernel
theorem dX11_back_10 : decode cX11_back 10 = .ok (.iconst 1, 1) := by decide +kernel
theorem dX11_back_11 : decode cX11_back 11 = .ok (.invokestatic 72, 3) := by decide +kernel
theorem dX11_back_14 : decode cX11_back 14 = .ok (.ifCond .eq 16, 3) := by decide +kernel
theorem dX11_back_17 : decode cX11_back 17 = .ok (.aload_n 0, 1) := by decide +kernel
theorem dX11_back_18 : decode cX11_back 18 = .ok (.getfield 55, 3) := by decide +kernel
theorem dX11_back_21 : decode cX11_back 21 = .ok (.iconst 2, 1) := by decide +kernel
theorem dX11_back_22 : decode cX11_back 22 = .ok (.iload_n 1, 1) := by decide +kernel
theorem dX11_back_23 : decode cX11_back 23 = .ok (.imul, 1) := by decide +kernel
theorem dX11_back_24 : decode cX11_back 24 = .ok (.iload_n 2, 1) := by decide +kernel
theorem dX11_back_25 : decode cX11_back 25 = .ok (.iadd, 1) := by decide +kernel
theorem dX11_back_26 : decode cX11_back 26 = .ok (.baload, 1) := by decide +kernel
theorem dX11_back_27 : decode cX11_back 27 = .ok (.ifCond .ne 5, 3) := by decide +kernel
theorem dX11_back_30 : decode cX11_back 30 = .ok (.iconst (-1), 1) := by decide +kernel
theorem dX11_back_31 : decode cX11_back 31 = .ok (.ireturn, 1) := by decide +kernel
theorem dX11_back_32 : decode cX11_back 32 = .ok (.iconst 0, 1) := by decide +kernel
theorem dX11_back_33 : decode cX11_back 33 = .ok (.istore_n 3, 1) := by decide +kernel
theorem dX11_back_34 : decode cX11_back 34 = .ok (.iload_n 3, 1) := by decide +kernel
theorem dX11_back_35 : decode cX11_back 35 = .ok (.sipush 812, 3) := by decide +kernel
theorem dX11_back_38 : decode cX11_back 38 = .ok (.if_icmp .ge 37, 3) := by decide +kernel
theorem dX11_back_41 : decode cX11_back 41 = .ok (.aload_n 0, 1) := by decide +kernel
theorem dX11_back_42 : decode cX11_back 42 = .ok (.getfield 49, 3) := by decide +kernel
theorem dX11_back_45 : decode cX11_back 45 = .ok (.sipush 812, 3) := by decide +kernel
theorem dX11_back_48 : decode cX11_back 48 = .ok (.iload_n 1, 1) := by decide +kernel
theorem dX11_back_49 : decode cX11_back 49 = .ok (.imul, 1) := by decide +kernel
theorem dX11_back_50 : decode cX11_back 50 = .ok (.iload_n 3, 1) := by decide +kernel
theorem dX11_back_51 : decode cX11_back 51 = .ok (.iadd, 1) := by decide +kernel
theorem dX11_back_52 : decode cX11_back 52 = .ok (.aload_n 0, 1) := by decide +kernel
theorem dX11_back_53 : decode cX11_back 53 = .ok (.getfield 52, 3) := by decide +kernel
theorem dX11_back_56 : decode cX11_back 56 = .ok (.sipush 812, 3) := by decide +kernel
theorem dX11_back_59 : decode cX11_back 59 = .ok (.iconst 2, 1) := by decide +kernel
theorem dX11_back_60 : decode cX11_back 60 = .ok (.iload_n 1, 1) := by decide +kernel
theorem dX11_back_61 : decode cX11_back 61 = .ok (.imul, 1) := by decide +kernel
theorem dX11_back_62 : decode cX11_back 62 = .ok (.iload_n 2, 1) := by decide +kernel
theorem dX11_back_63 : decode cX11_back 63 = .ok (.iadd, 1) := by decide +kernel
theorem dX11_back_64 : decode cX11_back 64 = .ok (.imul, 1) := by decide +kernel
theorem dX11_back_65 : decode cX11_back 65 = .ok (.iload_n 3, 1) := by decide +kernel
theorem dX11_back_66 : decode cX11_back 66 = .ok (.iadd, 1) := by decide +kernel
theorem dX11_back_67 : decode cX11_back 67 = .ok (.iaload, 1) := by decide +kernel
theorem dX11_back_68 : decode cX11_back 68 = .ok (.iastore, 1) := by decide +kernel
theorem dX11_back_69 : decode cX11_back 69 = .ok (.iinc 3 1, 3) := by decide +kernel
theorem dX11_back_72 : decode cX11_back 72 = .ok (.goto (-38), 3) := by decide +kernel
theorem dX11_back_75 : decode cX11_back 75 = .ok (.aload_n 0, 1) := by decide +kernel
theorem dX11_back_76 : decode cX11_back 76 = .ok (.getfield 49, 3) := by decide +kernel
theorem dX11_back_79 : decode cX11_back 79 = .ok (.sipush 812, 3) := by decide +kernel
theorem dX11_back_82 : decode cX11_back 82 = .ok (.iload_n 1, 1) := by decide +kernel
theorem dX11_back_83 : decode cX11_back 83 = .ok (.imul, 1) := by decide +kernel
theorem dX11_back_84 : decode cX11_back 84 = .ok (.sipush 809, 3) := by decide +kernel
theorem dX11_back_87 : decode cX11_back 87 = .ok (.iadd, 1) := by decide +kernel
theorem dX11_back_88 : decode cX11_back 88 = .ok (.iaload, 1) := by decide +kernel
theorem dX11_back_89 : decode cX11_back 89 = .ok (.ireturn, 1) := by decide +kernel
theorem dX11_countAll_0 : decode cX11_countAll 0 = .ok (.iconst 0, 1) := by decide +kernel
theorem dX11_countAll_1 : decode cX11_countAll 1 = .ok (.istore_n 3, 1) := by decide +kernel
theorem dX11_countAll_2 : decode cX11_countAll 2 = .ok (.iload_n 3, 1) := by decide +kernel
theorem dX11_countAll_3 : decode cX11_countAll 3 = .ok (.ldc 65, 2) := by decide +kernel
theorem dX11_countAll_5 : decode cX11_countAll 5 = .ok (.if_icmp .ge 16, 3) := by decide +kernel
theorem dX11_countAll_8 : decode cX11_countAll 8 = .ok (.aload_n 0, 1) := by decide +kernel
theorem dX11_countAll_9 : decode cX11_countAll 9 = .ok (.getfield 66, 3) := by decide +kernel
theorem dX11_countAll_12 : decode cX11_countAll 12 = .ok (.iload_n 3, 1) := by decide +kernel
theorem dX11_countAll_13 : decode cX11_countAll 13 = .ok (.iconst 0, 1) := by decide +kernel
theorem dX11_countAll_14 : decode cX11_countAll 14 = .ok (.iastore, 1) := by decide +kernel
theorem dX11_countAll_15 : decode cX11_countAll 15 = .ok (.iinc 3 1, 3) := by decide +kernel
theorem dX11_countAll_18 : decode cX11_countAll 18 = .ok (.goto (-16), 3) := by decide +kernel
theorem dX11_countAll_21 : decode cX11_countAll 21 = .ok (.iconst 0, 1) := by decide +kernel
theorem dX11_countAll_22 : decode cX11_countAll 22 = .ok (.istore_n 3, 1) := by decide +kernel
theorem dX11_countAll_23 : decode cX11_countAll 23 = .ok (.iload_n 3, 1) := by decide +kernel
theorem dX11_countAll_24 : decode cX11_countAll 24 = .ok (.bipush 64, 2) := by decide +kernel
theorem dX11_countAll_26 : decode cX11_countAll 26 = .ok (.if_icmp .ge 16, 3) := by decide +kernel
theorem dX11_countAll_29 : decode cX11_countAll 29 = .ok (.aload_n 0, 1) := by decide +kernel
theorem dX11_countAll_30 : decode cX11_countAll 30 = .ok (.getfield 69, 3) := by decide +kernel
theorem dX11_countAll_33 : decode cX11_countAll 33 = .ok (.iload_n 3, 1) := by decide +kernel
theorem dX11_countAll_34 : decode cX11_countAll 34 = .ok (.iconst 0, 1) := by decide +kernel
theorem dX11_countAll_35 : decode cX11_countAll 35 = .ok (.iastore, 1) := by decide +kernel
theorem dX11_countAll_36 : decode cX11_countAll 36 = .ok (.iinc 3 1, 3) := by decide +kernel
theorem dX11_countAll_39 : decode cX11_countAll 39 = .ok (.goto (-16), 3) := by decide +kernel
theorem dX11_countAll_42 : decode cX11_countAll 42 = .ok (.iconst 0, 1) := by decide +kernel
theorem dX11_countAll_43 : decode cX11_countAll 43 = .ok (.istore_n 3, 1) := by decide +kernel
theorem dX11_countAll_44 : decode cX11_countAll 44 = .ok (.iconst 0, 1) := by decide +kernel
theorem dX11_countAll_45 : decode cX11_countAll 45 = .ok (.istore 4, 2) := by decide +kernel
theorem dX11_countAll_47 : decode cX11_countAll 47 = .ok (.iload 4, 2) := by decide +kernel
theorem dX11_countAll_49 : decode cX11_countAll 49 = .ok (.aload_n 0, 1) := by decide +kernel
theorem dX11_countAll_50 : decode cX11_countAll 50 = .ok (.getfield 101, 3) := by decide +kernel
theorem dX11_countAll_53 : decode cX11_countAll 53 = .ok (.if_icmp .ge 103, 3) := by decide +kernel
theorem dX11_countAll_56 : decode cX11_countAll 56 = .ok (.aload_n 0, 1) := by decide +kernel
theorem dX11_countAll_57 : decode cX11_countAll 57 = .ok (.getfield 28, 3) := by decide +kernel
theorem dX11_countAll_60 : decode cX11_countAll 60 = .ok (.iload 4, 2) := by decide +kernel
theorem dX11_countAll_62 : decode cX11_countAll 62 = .ok (.iaload, 1) := by decide +kernel
theorem dX11_countAll_63 : decode cX11_countAll 63 = .ok (.istore 5, 2) := by decide +kernel
theorem dX11_countAll_65 : decode cX11_countAll 65 = .ok (.aload_n 0, 1) := by decide +kernel
theorem dX11_countAll_66 : decode cX11_countAll 66 = .ok (.getfield 31, 3) := by decide +kernel
theorem dX11_countAll_69 : decode cX11_countAll 69 = .ok (.iload 4, 2) := by decide +kernel
theorem dX11_countAll_71 : decode cX11_countAll 71 = .ok (.iaload, 1) := by decide +kernel
theorem dX11_countAll_72 : decode cX11_countAll 72 = .ok (.istore 6, 2) := by decide +kernel
theorem dX11_countAll_74 : decode cX11_countAll 74 = .ok (.iload_n 2, 1) := by decide +kernel
theorem dX11_countAll_75 : decode cX11_countAll 75 = .ok (.ifCond .eq 13, 3) := by decide +kernel
theorem dX11_countAll_78 : decode cX11_countAll 78 = .ok (.aload_n 0, 1) := by decide +kernel
theorem dX11_countAll_79 : decode cX11_countAll 79 = .ok (.getfield 69, 3) := by decide +kernel
theorem dX11_countAll_82 : decode cX11_countAll 82 = .ok (.iload 5, 2) := by decide +kernel
theorem dX11_countAll_84 : decode cX11_countAll 84 = .ok (.iaload, 1) := by decide +kernel
theorem dX11_countAll_85 : decode cX11_countAll 85 = .ok (.goto 4, 3) := by decide +kernel
theorem dX11_countAll_88 : decode cX11_countAll 88 = .ok (.iload_n 3, 1) := by decide +kernel
theorem dX11_countAll_89 : decode cX11_countAll 89 = .ok (.iload_n 1, 1) := by decide +kernel
theorem dX11_countAll_90 : decode cX11_countAll 90 = .ok (.invokestatic 118, 3) := by decide +kernel
theorem dX11_countAll_93 : decode cX11_countAll 93 = .ok (.istore 7, 2) := by decide +kernel
theorem dX11_countAll_95 : decode cX11_countAll 95 = .ok (.aload_n 0, 1) := by decide +kernel
theorem dX11_countAll_96 : decode cX11_countAll 96 = .ok (.getfield 66, 3) := by decide +kernel
theorem dX11_countAll_99 : decode cX11_countAll 99 = .ok (.iconst 2, 1) := by decide +kernel
theorem dX11_countAll_100 : decode cX11_countAll 100 = .ok (.sipush 256, 3) := by decide +kernel
theorem dX11_countAll_103 : decode cX11_countAll 103 = .ok (.iload 5, 2) := by decide +kernel
theorem dX11_countAll_105 : decode cX11_countAll 105 = .ok (.imul, 1) := by decide +kernel
theorem dX11_countAll_106 : decode cX11_countAll 106 = .ok (.iload 7, 2) := by decide +kernel
theorem dX11_countAll_108 : decode cX11_countAll 108 = .ok (.iadd, 1) := by decide +kernel
theorem dX11_countAll_109 : decode cX11_countAll 109 = .ok (.imul, 1) := by decide +kernel
theorem dX11_countAll_110 : decode cX11_countAll 110 = .ok (.iload 6, 2) := by decide +kernel
theorem dX11_countAll_112 : decode cX11_countAll 112 = .ok (.iadd, 1) := by decide +kernel
theorem dX11_countAll_113 : decode cX11_countAll 113 = .ok (.dup2, 1) := by decide +kernel
theorem dX11_countAll_114 : decode cX11_countAll 114 = .ok (.iaload, 1) := by decide +kernel
theorem dX11_countAll_115 : decode cX11_countAll 115 = .ok (.iconst 1, 1) := by decide +kernel
theorem dX11_countAll_116 : decode cX11_countAll 116 = .ok (.iadd, 1) := by decide +kernel
theorem dX11_countAll_117 : decode cX11_countAll 117 = .ok (.iastore, 1) := by decide +kernel
theorem dX11_countAll_118 : decode cX11_countAll 118 = .ok (.iload_n 3, 1) := by decide +kernel
theorem dX11_countAll_119 : decode cX11_countAll 119 = .ok (.iconst 1, 1) := by decide +kernel
theorem dX11_countAll_120 : decode cX11_countAll 120 = .ok (.ishl, 1) := by decide +kernel
theorem dX11_countAll_121 : decode cX11_countAll 121 = .ok (.ldc 148, 2) := by decide +kernel
theorem dX11_countAll_123 : decode cX11_countAll 123 = .ok (.iand, 1) := by decide +kernel
theorem dX11_countAll_124 : decode cX11_countAll 124 = .ok (.iload 6, 2) := by decide +kernel
theorem dX11_countAll_126 : decode cX11_countAll 126 = .ok (.ior, 1) := by decide +kernel
theorem dX11_countAll_127 : decode cX11_countAll 127 = .ok (.istore_n 3, 1) := by decide +kernel
theorem dX11_countAll_128 : decode cX11_countAll 128 = .ok (.aload_n 0, 1) := by decide +kernel
theorem dX11_countAll_129 : decode cX11_countAll 129 = .ok (.getfield 69, 3) := by decide +kernel
theorem dX11_countAll_132 : decode cX11_countAll 132 = .ok (.iload 5, 2) := by decide +kernel
theorem dX11_countAll_134 : decode cX11_countAll 134 = .ok (.aload_n 0, 1) := by decide +kernel
theorem dX11_countAll_135 : decode cX11_countAll 135 = .ok (.getfield 69, 3) := by decide +kernel
theorem dX11_countAll_138 : decode cX11_countAll 138 = .ok (.iload 5, 2) := by decide +kernel
theorem dX11_countAll_140 : decode cX11_countAll 140 = .ok (.iaload, 1) := by decide +kernel
theorem dX11_countAll_141 : decode cX11_countAll 141 = .ok (.iconst 1, 1) := by decide +kernel
theorem dX11_countAll_142 : decode cX11_countAll 142 = .ok (.ishl, 1) := by decide +kernel
theorem dX11_countAll_143 : decode cX11_countAll 143 = .ok (.ldc 148, 2) := by decide +kernel
theorem dX11_countAll_145 : decode cX11_countAll 145 = .ok (.iand, 1) := by decide +kernel
theorem dX11_countAll_146 : decode cX11_countAll 146 = .ok (.iload 6, 2) := by decide +kernel
theorem dX11_countAll_148 : decode cX11_countAll 148 = .ok (.ior, 1) := by decide +kernel
theorem dX11_countAll_149 : decode cX11_countAll 149 = .ok (.iastore, 1) := by decide +kernel
theorem dX11_countAll_150 : decode cX11_countAll 150 = .ok (.iinc 4 1, 3) := by decide +kernel
theorem dX11_countAll_153 : decode cX11_countAll 153 = .ok (.goto (-106), 3) := by decide +kernel
theorem dX11_countAll_156 : decode cX11_countAll 156 = .ok (.return_, 1) := by decide +kernel
theorem dX11_best_0 : decode cX11_best 0 = .ok (.iload_n 1, 1) := by decide +kernel
theorem dX11_best_1 : decode cX11_best 1 = .ok (.iconst 0, 1) := by decide +kernel
theorem dX11_best_2 : decode cX11_best 2 = .ok (.bipush 8, 2) := by decide +kernel
theorem dX11_best_4 : decode cX11_best 4 = .ok (.invokestatic 72, 3) := by decide +kernel
theorem dX11_best_7 : decode cX11_best 7 = .ok (.ifCond .ne 6, 3) := by decide +kernel
theorem dX11_best_10 : decode cX11_best 10 = .ok (.bipush (-2), 2) := by decide +kernel
theorem dX11_best_12 : decode cX11_best 12 = .ok (.ireturn, 1) := by decide +kernel
theorem dX11_best_13 : decode cX11_best 13 = .ok (.aload_n 0, 1) := by decide +kernel
theorem dX11_best_14 : decode cX11_best 14 = .ok (.iload_n 1, 1) := by decide +kernel
theorem dX11_best_15 : decode cX11_best 15 = .ok (.iload_n 2, 1) := by decide +kernel
theorem dX11_best_16 : decode cX11_best 16 = .ok (.invokevirtual 156, 3) := by decide +kernel
theorem dX11_best_19 : decode cX11_best 19 = .ok (.iconst 0, 1) := by decide +kernel
theorem dX11_best_20 : decode cX11_best 20 = .ok (.istore_n 3, 1) := by decide +kernel
theorem dX11_best_21 : decode cX11_best 21 = .ok (.iconst 0, 1) := by decide +kernel
theorem dX11_best_22 : decode cX11_best 22 = .ok (.istore 4, 2) := by decide +kernel
theorem dX11_best_24 : decode cX11_best 24 = .ok (.iload 4, 2) := by decide +kernel
theorem dX11_best_26 : decode cX11_best 26 = .ok (.ldc 65, 2) := by decide +kernel
theorem dX11_best_28 : decode cX11_best 28 = .ok (.if_icmp .ge 50, 3) := by decide +kernel
theorem dX11_best_31 : decode cX11_best 31 = .ok (.iload_n 3, 1) := by decide +kernel
theorem dX11_best_32 : decode cX11_best 32 = .ok (.aload_n 0, 1) := by decide +kernel
theorem dX11_best_33 : decode cX11_best 33 = .ok (.getfield 66, 3) := by decide +kernel
theorem dX11_best_36 : decode cX11_best 36 = .ok (.iload 4, 2) := by decide +kernel
theorem dX11_best_38 : decode cX11_best 38 = .ok (.iaload, 1) := by decide +kernel
theorem dX11_best_39 : decode cX11_best 39 = .ok (.aload_n 0, 1) := by decide +kernel
theorem dX11_best_40 : decode cX11_best 40 = .ok (.getfield 66, 3) := by decide +kernel
theorem dX11_best_43 : decode cX11_best 43 = .ok (.iload 4, 2) := by decide +kernel
theorem dX11_best_45 : decode cX11_best 45 = .ok (.iconst 1, 1) := by decide +kernel
theorem dX11_best_46 : decode cX11_best 46 = .ok (.iadd, 1) := by decide +kernel
theorem dX11_best_47 : decode cX11_best 47 = .ok (.iaload, 1) := by decide +kernel
theorem dX11_best_48 : decode cX11_best 48 = .ok (.if_icmp .ge 13, 3) := by decide +kernel
theorem dX11_best_51 : decode cX11_best 51 = .ok (.aload_n 0, 1) := by decide +kernel
theorem dX11_best_52 : decode cX11_best 52 = .ok (.getfield 66, 3) := by decide +kernel
theorem dX11_best_55 : decode cX11_best 55 = .ok (.iload 4, 2) := by decide +kernel
theorem dX11_best_57 : decode cX11_best 57 = .ok (.iaload, 1) := by decide +kernel
theorem dX11_best_58 : decode cX11_best 58 = .ok (.goto 12, 3) := by decide +kernel
theorem dX11_best_61 : decode cX11_best 61 = .ok (.aload_n 0, 1) := by decide +kernel
theorem dX11_best_62 : decode cX11_best 62 = .ok (.getfield 66, 3) := by decide +kernel
theorem dX11_best_65 : decode cX11_best 65 = .ok (.iload 4, 2) := by decide +kernel
theorem dX11_best_67 : decode cX11_best 67 = .ok (.iconst 1, 1) := by decide +kernel
theorem dX11_best_68 : decode cX11_best 68 = .ok (.iadd, 1) := by decide +kernel
theorem dX11_best_69 : decode cX11_best 69 = .ok (.iaload, 1) := by decide +kernel
theorem dX11_best_70 : decode cX11_best 70 = .ok (.iadd, 1) := by decide +kernel
theorem dX11_best_71 : decode cX11_best 71 = .ok (.istore_n 3, 1) := by decide +kernel
theorem dX11_best_72 : decode cX11_best 72 = .ok (.iinc 4 2, 3) := by decide +kernel
theorem dX11_best_75 : decode cX11_best 75 = .ok (.goto (-51), 3) := by decide +kernel
theorem dX11_best_78 : decode cX11_best 78 = .ok (.iload_n 3, 1) := by decide +kernel
theorem dX11_best_79 : decode cX11_best 79 = .ok (.ireturn, 1) := by decide +kernel
theorem dX11_seen_0 : decode cX11_seen 0 = .ok (.iload_n 1, 1) := by decide +kernel
theorem dX11_seen_1 : decode cX11_seen 1 = .ok (.iconst 0, 1) := by decide +kernel
theorem dX11_seen_2 : decode cX11_seen 2 = .ok (.bipush 8, 2) := by decide +kernel
theorem dX11_seen_4 : decode cX11_seen 4 = .ok (.invokestatic 72, 3) := by decide +kernel
theorem dX11_seen_7 : decode cX11_seen 7 = .ok (.ifCond .ne 6, 3) := by decide +kernel
theorem dX11_seen_10 : decode cX11_seen 10 = .ok (.bipush (-2), 2) := by decide +kernel
theorem dX11_seen_12 : decode cX11_seen 12 = .ok (.ireturn, 1) := by decide +kernel
theorem dX11_seen_13 : decode cX11_seen 13 = .ok (.aload_n 0, 1) := by decide +kernel
theorem dX11_seen_14 : decode cX11_seen 14 = .ok (.iload_n 1, 1) := by decide +kernel
theorem dX11_seen_15 : decode cX11_seen 15 = .ok (.iload_n 2, 1) := by decide +kernel
theorem dX11_seen_16 : decode cX11_seen 16 = .ok (.invokevirtual 156, 3) := by decide +kernel
theorem dX11_seen_19 : decode cX11_seen 19 = .ok (.iconst 0, 1) := by decide +kernel
theorem dX11_seen_20 : decode cX11_seen 20 = .ok (.istore_n 3, 1) := by decide +kernel
theorem dX11_seen_21 : decode cX11_seen 21 = .ok (.iconst 0, 1) := by decide +kernel
theorem dX11_seen_22 : decode cX11_seen 22 = .ok (.istore 4, 2) := by decide +kernel
theorem dX11_seen_24 : decode cX11_seen 24 = .ok (.iload 4, 2) := by decide +kernel
theorem dX11_seen_26 : decode cX11_seen 26 = .ok (.ldc 65, 2) := by decide +kernel
theorem dX11_seen_28 : decode cX11_seen 28 = .ok (.if_icmp .ge 37, 3) := by decide +kernel
theorem dX11_seen_31 : decode cX11_seen 31 = .ok (.iload_n 3, 1) := by decide +kernel
theorem dX11_seen_32 : decode cX11_seen 32 = .ok (.aload_n 0, 1) := by decide +kernel
theorem dX11_seen_33 : decode cX11_seen 33 = .ok (.getfield 66, 3) := by decide +kernel
theorem dX11_seen_36 : decode cX11_seen 36 = .ok (.iload 4, 2) := by decide +kernel
theorem dX11_seen_38 : decode cX11_seen 38 = .ok (.iaload, 1) := by decide +kernel
theorem dX11_seen_39 : decode cX11_seen 39 = .ok (.aload_n 0, 1) := by decide +kernel
theorem dX11_seen_40 : decode cX11_seen 40 = .ok (.getfield 66, 3) := by decide +kernel
theorem dX11_seen_43 : decode cX11_seen 43 = .ok (.iload 4, 2) := by decide +kernel
theorem dX11_seen_45 : decode cX11_seen 45 = .ok (.iconst 1, 1) := by decide +kernel
theorem dX11_seen_46 : decode cX11_seen 46 = .ok (.iadd, 1) := by decide +kernel
theorem dX11_seen_47 : decode cX11_seen 47 = .ok (.iaload, 1) := by decide +kernel
theorem dX11_seen_48 : decode cX11_seen 48 = .ok (.iadd, 1) := by decide +kernel
theorem dX11_seen_49 : decode cX11_seen 49 = .ok (.ifCond .le 7, 3) := by decide +kernel
theorem dX11_seen_52 : decode cX11_seen 52 = .ok (.iconst 1, 1) := by decide +kernel
theorem dX11_seen_53 : decode cX11_seen 53 = .ok (.goto 4, 3) := by decide +kernel
theorem dX11_seen_56 : decode cX11_seen 56 = .ok (.iconst 0, 1) := by decide +kernel
theorem dX11_seen_57 : decode cX11_seen 57 = .ok (.iadd, 1) := by decide +kernel
theorem dX11_seen_58 : decode cX11_seen 58 = .ok (.istore_n 3, 1) := by decide +kernel
theorem dX11_seen_59 : decode cX11_seen 59 = .ok (.iinc 4 2, 3) := by decide +kernel
theorem dX11_seen_62 : decode cX11_seen 62 = .ok (.goto (-38), 3) := by decide +kernel
theorem dX11_seen_65 : decode cX11_seen 65 = .ok (.iload_n 3, 1) := by decide +kernel
theorem dX11_seen_66 : decode cX11_seen 66 = .ok (.ireturn, 1) := by decide +kernel
theorem dX11_often_0 : decode cX11_often 0 = .ok (.iload_n 1, 1) := by decide +kernel
theorem dX11_often_1 : decode cX11_often 1 = .ok (.invokestatic 76, 3) := by decide +kernel
theorem dX11_often_4 : decode cX11_often 4 = .ok (.ifCond .ne 5, 3) := by decide +kernel
theorem dX11_often_7 : decode cX11_often 7 = .ok (.iconst (-1), 1) := by decide +kernel
theorem dX11_often_8 : decode cX11_often 8 = .ok (.ireturn, 1) := by decide +kernel
theorem dX11_often_9 : decode cX11_often 9 = .ok (.iload_n 2, 1) := by decide +kernel
theorem dX11_often_10 : decode cX11_often 10 = .ok (.iconst (-1), 1) := by decide +kernel
theorem dX11_often_11 : decode cX11_often 11 = .ok (.iconst 1, 1) := by decide +kernel
theorem dX11_often_12 : decode cX11_often 12 = .ok (.invokestatic 72, 3) := by decide +kernel
theorem dX11_often_15 : decode cX11_often 15 = .ok (.ifCond .eq 12, 3) := by decide +kernel
theorem dX11_often_18 : decode cX11_often 18 = .ok (.aload_n 0, 1) := by decide +kernel
theorem dX11_often_19 : decode cX11_often 19 = .ok (.iload_n 1, 1) := by decide +kernel
theorem dX11_often_20 : decode cX11_often 20 = .ok (.iload_n 2, 1) := by decide +kernel
theorem dX11_often_21 : decode cX11_often 21 = .ok (.invokevirtual 149, 3) := by decide +kernel
theorem dX11_often_24 : decode cX11_often 24 = .ok (.goto 5, 3) := by decide +kernel
theorem dX11_often_27 : decode cX11_often 27 = .ok (.bipush (-2), 2) := by decide +kernel
theorem dX11_often_29 : decode cX11_often 29 = .ok (.ireturn, 1) := by decide +kernel
theorem dX11_ticks_0 : decode cX11_ticks 0 = .ok (.aload_n 0, 1) := by decide +kernel
theorem dX11_ticks_1 : decode cX11_ticks 1 = .ok (.iload_n 1, 1) := by decide +kernel
theorem dX11_ticks_2 : decode cX11_ticks 2 = .ok (.invokevirtual 107, 3) := by decide +kernel
theorem dX11_ticks_5 : decode cX11_ticks 5 = .ok (.ifCond .ne 5, 3) := by decide +kernel
theorem dX11_ticks_8 : decode cX11_ticks 8 = .ok (.iconst (-1), 1) := by decide +kernel
theorem dX11_ticks_9 : decode cX11_ticks 9 = .ok (.ireturn, 1) := by decide +kernel
theorem dX11_ticks_10 : decode cX11_ticks 10 = .ok (.iload_n 2, 1) := by decide +kernel
theorem dX11_ticks_11 : decode cX11_ticks 11 = .ok (.iconst 0, 1) := by decide +kernel
theorem dX11_ticks_12 : decode cX11_ticks 12 = .ok (.bipush 100, 2) := by decide +kernel
theorem dX11_ticks_14 : decode cX11_ticks 14 = .ok (.invokestatic 72, 3) := by decide +kernel
theorem dX11_ticks_17 : decode cX11_ticks 17 = .ok (.ifCond .eq 18, 3) := by decide +kernel
theorem dX11_ticks_20 : decode cX11_ticks 20 = .ok (.aload_n 0, 1) := by decide +kernel
theorem dX11_ticks_21 : decode cX11_ticks 21 = .ok (.getfield 88, 3) := by decide +kernel
theorem dX11_ticks_24 : decode cX11_ticks 24 = .ok (.iload_n 2, 1) := by decide +kernel
theorem dX11_ticks_25 : decode cX11_ticks 25 = .ok (.aload_n 0, 1) := by decide +kernel
theorem dX11_ticks_26 : decode cX11_ticks 26 = .ok (.iload_n 1, 1) := by decide +kernel
theorem dX11_ticks_27 : decode cX11_ticks 27 = .ok (.invokevirtual 152, 3) := by decide +kernel
theorem dX11_ticks_30 : decode cX11_ticks 30 = .ok (.imul, 1) := by decide +kernel
theorem dX11_ticks_31 : decode cX11_ticks 31 = .ok (.iadd, 1) := by decide +kernel
theorem dX11_ticks_32 : decode cX11_ticks 32 = .ok (.goto 5, 3) := by decide +kernel
theorem dX11_ticks_35 : decode cX11_ticks 35 = .ok (.bipush (-2), 2) := by decide +kernel
theorem dX11_ticks_37 : decode cX11_ticks 37 = .ok (.ireturn, 1) := by decide +kernel
theorem dX11_told_0 : decode cX11_told 0 = .ok (.iload_n 1, 1) := by decide +kernel
theorem dX11_told_1 : decode cX11_told 1 = .ok (.tableswitch 60 0 4 #[35, 40, 45, 50, 55], 35) := by decide +kernel
theorem dX11_told_36 : decode cX11_told 36 = .ok (.aload_n 0, 1) := by decide +kernel
theorem dX11_told_37 : decode cX11_told 37 = .ok (.getfield 80, 3) := by decide +kernel
theorem dX11_told_40 : decode cX11_told 40 = .ok (.ireturn, 1) := by decide +kernel
theorem dX11_told_41 : decode cX11_told 41 = .ok (.aload_n 0, 1) := by decide +kernel
theorem dX11_told_42 : decode cX11_told 42 = .ok (.getfield 88, 3) := by decide +kernel
theorem dX11_told_45 : decode cX11_told 45 = .ok (.ireturn, 1) := by decide +kernel
theorem dX11_told_46 : decode cX11_told 46 = .ok (.aload_n 0, 1) := by decide +kernel
theorem dX11_told_47 : decode cX11_told 47 = .ok (.getfield 104, 3) := by decide +kernel
theorem dX11_told_50 : decode cX11_told 50 = .ok (.ireturn, 1) := by decide +kernel
theorem dX11_told_51 : decode cX11_told 51 = .ok (.aload_n 0, 1) := by decide +kernel
theorem dX11_told_52 : decode cX11_told 52 = .ok (.getfield 101, 3) := by decide +kernel
theorem dX11_told_55 : decode cX11_told 55 = .ok (.ireturn, 1) := by decide +kernel
theorem dX11_told_56 : decode cX11_told 56 = .ok (.aload_n 0, 1) := by decide +kernel
theorem dX11_told_57 : decode cX11_told 57 = .ok (.getfield 94, 3) := by decide +kernel
theorem dX11_told_60 : decode cX11_told 60 = .ok (.ireturn, 1) := by decide +kernel
theorem dX11_told_61 : decode cX11_told 61 = .ok (.bipush (-2), 2) := by decide +kernel
theorem dX11_told_63 : decode cX11_told 63 = .ok (.ireturn, 1) := by decide +kernel
theorem dX11_empty_0 : decode cX11_empty 0 = .ok (.aload_n 0, 1) := by decide +kernel
theorem dX11_empty_1 : decode cX11_empty 1 = .ok (.getfield 101, 3) := by decide +kernel
theorem dX11_empty_4 : decode cX11_empty 4 = .ok (.istore_n 1, 1) := by decide +kernel
theorem dX11_empty_5 : decode cX11_empty 5 = .ok (.aload_n 0, 1) := by decide +kernel
theorem dX11_empty_6 : decode cX11_empty 6 = .ok (.iconst 0, 1) := by decide +kernel
theorem dX11_empty_7 : decode cX11_empty 7 = .ok (.putfield 101, 3) := by decide +kernel
theorem dX11_empty_10 : decode cX11_empty 10 = .ok (.iload_n 1, 1) := by decide +kernel
theorem dX11_empty_11 : decode cX11_empty 11 = .ok (.ireturn, 1) := by decide +kernel
