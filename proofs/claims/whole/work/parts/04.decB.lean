theorem dX11_init_0 : decode cX11_init 0 = .ok (.aload_n 0, 1) := by decide +kernel
theorem dX11_init_1 : decode cX11_init 1 = .ok (.invokespecial 1, 3) := by decide +kernel
theorem dX11_init_4 : decode cX11_init 4 = .ok (.aload_n 0, 1) := by decide +kernel
theorem dX11_init_5 : decode cX11_init 5 = .ok (.sipush 768, 3) := by decide +kernel
theorem dX11_init_8 : decode cX11_init 8 = .ok (.newarray .int, 2) := by decide +kernel
theorem dX11_init_10 : decode cX11_init 10 = .ok (.putfield 7, 3) := by decide +kernel
theorem dX11_init_13 : decode cX11_init 13 = .ok (.aload_n 0, 1) := by decide +kernel
theorem dX11_init_14 : decode cX11_init 14 = .ok (.bipush 9, 2) := by decide +kernel
theorem dX11_init_16 : decode cX11_init 16 = .ok (.newarray .int, 2) := by decide +kernel
theorem dX11_init_18 : decode cX11_init 18 = .ok (.putfield 13, 3) := by decide +kernel
theorem dX11_init_21 : decode cX11_init 21 = .ok (.aload_n 0, 1) := by decide +kernel
theorem dX11_init_22 : decode cX11_init 22 = .ok (.sipush 3072, 3) := by decide +kernel
theorem dX11_init_25 : decode cX11_init 25 = .ok (.newarray .int, 2) := by decide +kernel
theorem dX11_init_27 : decode cX11_init 27 = .ok (.putfield 16, 3) := by decide +kernel
theorem dX11_init_30 : decode cX11_init 30 = .ok (.aload_n 0, 1) := by decide +kernel
theorem dX11_init_31 : decode cX11_init 31 = .ok (.sipush 3072, 3) := by decide +kernel
theorem dX11_init_34 : decode cX11_init 34 = .ok (.newarray .int, 2) := by decide +kernel
theorem dX11_init_36 : decode cX11_init 36 = .ok (.putfield 19, 3) := by decide +kernel
theorem dX11_init_39 : decode cX11_init 39 = .ok (.aload_n 0, 1) := by decide +kernel
theorem dX11_init_40 : decode cX11_init 40 = .ok (.iconst 3, 1) := by decide +kernel
theorem dX11_init_41 : decode cX11_init 41 = .ok (.newarray .int, 2) := by decide +kernel
theorem dX11_init_43 : decode cX11_init 43 = .ok (.putfield 22, 3) := by decide +kernel
theorem dX11_init_46 : decode cX11_init 46 = .ok (.aload_n 0, 1) := by decide +kernel
theorem dX11_init_47 : decode cX11_init 47 = .ok (.iconst 3, 1) := by decide +kernel
theorem dX11_init_48 : decode cX11_init 48 = .ok (.newarray .int, 2) := by decide +kernel
theorem dX11_init_50 : decode cX11_init 50 = .ok (.putfield 25, 3) := by decide +kernel
theorem dX11_init_53 : decode cX11_init 53 = .ok (.aload_n 0, 1) := by decide +kernel
theorem dX11_init_54 : decode cX11_init 54 = .ok (.bipush 9, 2) := by decide +kernel
theorem dX11_init_56 : decode cX11_init 56 = .ok (.newarray .int, 2) := by decide +kernel
theorem dX11_init_58 : decode cX11_init 58 = .ok (.putfield 28, 3) := by decide +kernel
theorem dX11_init_61 : decode cX11_init 61 = .ok (.aload_n 0, 1) := by decide +kernel
theorem dX11_init_62 : decode cX11_init 62 = .ok (.sipush 3072, 3) := by decide +kernel
theorem dX11_init_65 : decode cX11_init 65 = .ok (.newarray .int, 2) := by decide +kernel
theorem dX11_init_67 : decode cX11_init 67 = .ok (.putfield 31, 3) := by decide +kernel
theorem dX11_init_70 : decode cX11_init 70 = .ok (.aload_n 0, 1) := by decide +kernel
theorem dX11_init_71 : decode cX11_init 71 = .ok (.sipush 3072, 3) := by decide +kernel
theorem dX11_init_74 : decode cX11_init 74 = .ok (.newarray .int, 2) := by decide +kernel
theorem dX11_init_76 : decode cX11_init 76 = .ok (.putfield 34, 3) := by decide +kernel
theorem dX11_init_79 : decode cX11_init 79 = .ok (.aload_n 0, 1) := by decide +kernel
theorem dX11_init_80 : decode cX11_init 80 = .ok (.iconst 3, 1) := by decide +kernel
theorem dX11_init_81 : decode cX11_init 81 = .ok (.newarray .int, 2) := by decide +kernel
theorem dX11_init_83 : decode cX11_init 83 = .ok (.putfield 37, 3) := by decide +kernel
theorem dX11_init_86 : decode cX11_init 86 = .ok (.aload_n 0, 1) := by decide +kernel
theorem dX11_init_87 : decode cX11_init 87 = .ok (.bipush 9, 2) := by decide +kernel
theorem dX11_init_89 : decode cX11_init 89 = .ok (.newarray .int, 2) := by decide +kernel
theorem dX11_init_91 : decode cX11_init 91 = .ok (.putfield 40, 3) := by decide +kernel
theorem dX11_init_94 : decode cX11_init 94 = .ok (.aload_n 0, 1) := by decide +kernel
theorem dX11_init_95 : decode cX11_init 95 = .ok (.iconst 4, 1) := by decide +kernel
theorem dX11_init_96 : decode cX11_init 96 = .ok (.newarray .boolean, 2) := by decide +kernel
theorem dX11_init_98 : decode cX11_init 98 = .ok (.putfield 43, 3) := by decide +kernel
theorem dX11_init_101 : decode cX11_init 101 = .ok (.aload_n 0, 1) := by decide +kernel
theorem dX11_init_102 : decode cX11_init 102 = .ok (.sipush 4000, 3) := by decide +kernel
theorem dX11_init_105 : decode cX11_init 105 = .ok (.newarray .int, 2) := by decide +kernel
theorem dX11_init_107 : decode cX11_init 107 = .ok (.putfield 47, 3) := by decide +kernel
theorem dX11_init_110 : decode cX11_init 110 = .ok (.aload_n 0, 1) := by decide +kernel
theorem dX11_init_111 : decode cX11_init 111 = .ok (.sipush 4000, 3) := by decide +kernel
theorem dX11_init_114 : decode cX11_init 114 = .ok (.newarray .int, 2) := by decide +kernel
theorem dX11_init_116 : decode cX11_init 116 = .ok (.putfield 50, 3) := by decide +kernel
theorem dX11_init_119 : decode cX11_init 119 = .ok (.aload_n 0, 1) := by decide +kernel
theorem dX11_init_120 : decode cX11_init 120 = .ok (.sipush 4000, 3) := by decide +kernel
theorem dX11_init_123 : decode cX11_init 123 = .ok (.newarray .int, 2) := by decide +kernel
theorem dX11_init_125 : decode cX11_init 125 = .ok (.putfield 53, 3) := by decide +kernel
theorem dX11_init_128 : decode cX11_init 128 = .ok (.aload_n 0, 1) := by decide +kernel
theorem dX11_init_129 : decode cX11_init 129 = .ok (.iload_n 1, 1) := by decide +kernel
theorem dX11_init_130 : decode cX11_init 130 = .ok (.bipush 16, 2) := by decide +kernel
theorem dX11_init_132 : decode cX11_init 132 = .ok (.invokestatic 56, 3) := by decide +kernel
theorem dX11_init_135 : decode cX11_init 135 = .ok (.putfield 60, 3) := by decide +kernel
theorem dX11_init_138 : decode cX11_init 138 = .ok (.aload_n 0, 1) := by decide +kernel
theorem dX11_init_139 : decode cX11_init 139 = .ok (.iload_n 2, 1) := by decide +kernel
theorem dX11_init_140 : decode cX11_init 140 = .ok (.bipush 16, 2) := by decide +kernel
theorem dX11_init_142 : decode cX11_init 142 = .ok (.invokestatic 56, 3) := by decide +kernel
theorem dX11_init_145 : decode cX11_init 145 = .ok (.putfield 64, 3) := by decide +kernel
theorem dX11_init_148 : decode cX11_init 148 = .ok (.aload_n 0, 1) := by decide +kernel
theorem dX11_init_149 : decode cX11_init 149 = .ok (.iload_n 3, 1) := by decide +kernel
theorem dX11_init_150 : decode cX11_init 150 = .ok (.bipush 8, 2) := by decide +kernel
theorem dX11_init_152 : decode cX11_init 152 = .ok (.invokestatic 56, 3) := by decide +kernel
theorem dX11_init_155 : decode cX11_init 155 = .ok (.putfield 67, 3) := by decide +kernel
theorem dX11_init_158 : decode cX11_init 158 = .ok (.aload_n 0, 1) := by decide +kernel
theorem dX11_init_159 : decode cX11_init 159 = .ok (.iload 4, 2) := by decide +kernel
theorem dX11_init_161 : decode cX11_init 161 = .ok (.iconst 3, 1) := by decide +kernel
theorem dX11_init_162 : decode cX11_init 162 = .ok (.invokestatic 56, 3) := by decide +kernel
theorem dX11_init_165 : decode cX11_init 165 = .ok (.putfield 70, 3) := by decide +kernel
theorem dX11_init_168 : decode cX11_init 168 = .ok (.aload_n 0, 1) := by decide +kernel
theorem dX11_init_169 : decode cX11_init 169 = .ok (.iconst 1, 1) := by decide +kernel
theorem dX11_init_170 : decode cX11_init 170 = .ok (.aload_n 0, 1) := by decide +kernel
theorem dX11_init_171 : decode cX11_init 171 = .ok (.getfield 67, 3) := by decide +kernel
theorem dX11_init_174 : decode cX11_init 174 = .ok (.iconst 1, 1) := by decide +kernel
theorem dX11_init_175 : decode cX11_init 175 = .ok (.isub, 1) := by decide +kernel
theorem dX11_init_176 : decode cX11_init 176 = .ok (.ishl, 1) := by decide +kernel
theorem dX11_init_177 : decode cX11_init 177 = .ok (.putfield 73, 3) := by decide +kernel
theorem dX11_init_180 : decode cX11_init 180 = .ok (.aload_n 0, 1) := by decide +kernel
theorem dX11_init_181 : decode cX11_init 181 = .ok (.iconst 1, 1) := by decide +kernel
theorem dX11_init_182 : decode cX11_init 182 = .ok (.aload_n 0, 1) := by decide +kernel
theorem dX11_init_183 : decode cX11_init 183 = .ok (.getfield 67, 3) := by decide +kernel
theorem dX11_init_186 : decode cX11_init 186 = .ok (.ishl, 1) := by decide +kernel
theorem dX11_init_187 : decode cX11_init 187 = .ok (.putfield 76, 3) := by decide +kernel
theorem dX11_init_190 : decode cX11_init 190 = .ok (.aload_n 0, 1) := by decide +kernel
theorem dX11_init_191 : decode cX11_init 191 = .ok (.invokevirtual 79, 3) := by decide +kernel
theorem dX11_init_194 : decode cX11_init 194 = .ok (.return_, 1) := by decide +kernel
theorem dX11_nearest_0 : decode cX11_nearest 0 = .ok (.iload_n 0, 1) := by decide +kernel
theorem dX11_nearest_1 : decode cX11_nearest 1 = .ok (.iconst 1, 1) := by decide +kernel
theorem dX11_nearest_2 : decode cX11_nearest 2 = .ok (.if_icmp .ge 7, 3) := by decide +kernel
theorem dX11_nearest_5 : decode cX11_nearest 5 = .ok (.iconst 1, 1) := by decide +kernel
theorem dX11_nearest_6 : decode cX11_nearest 6 = .ok (.goto 13, 3) := by decide +kernel
theorem dX11_nearest_9 : decode cX11_nearest 9 = .ok (.iload_n 0, 1) := by decide +kernel
theorem dX11_nearest_10 : decode cX11_nearest 10 = .ok (.iload_n 1, 1) := by decide +kernel
theorem dX11_nearest_11 : decode cX11_nearest 11 = .ok (.if_icmp .le 7, 3) := by decide +kernel
theorem dX11_nearest_14 : decode cX11_nearest 14 = .ok (.iload_n 1, 1) := by decide +kernel
theorem dX11_nearest_15 : decode cX11_nearest 15 = .ok (.goto 4, 3) := by decide +kernel
theorem dX11_nearest_18 : decode cX11_nearest 18 = .ok (.iload_n 0, 1) := by decide +kernel
theorem dX11_nearest_19 : decode cX11_nearest 19 = .ok (.ireturn, 1) := by decide +kernel
theorem dX11_thrown_0 : decode cX11_thrown 0 = .ok (.aload_n 0, 1) := by decide +kernel
theorem dX11_thrown_1 : decode cX11_thrown 1 = .ok (.getfield 82, 3) := by decide +kernel
theorem dX11_thrown_4 : decode cX11_thrown 4 = .ok (.ireturn, 1) := by decide +kernel
theorem dX11_in_0 : decode cX11_in 0 = .ok (.iload_n 0, 1) := by decide +kernel
theorem dX11_in_1 : decode cX11_in 1 = .ok (.iload_n 1, 1) := by decide +kernel
theorem dX11_in_2 : decode cX11_in 2 = .ok (.if_icmp .lt 12, 3) := by decide +kernel
theorem dX11_in_5 : decode cX11_in 5 = .ok (.iload_n 0, 1) := by decide +kernel
theorem dX11_in_6 : decode cX11_in 6 = .ok (.iload_n 2, 1) := by decide +kernel
theorem dX11_in_7 : decode cX11_in 7 = .ok (.if_icmp .gt 7, 3) := by decide +kernel
theorem dX11_in_10 : decode cX11_in 10 = .ok (.iconst 1, 1) := by decide +kernel
theorem dX11_in_11 : decode cX11_in 11 = .ok (.goto 4, 3) := by decide +kernel
theorem dX11_in_14 : decode cX11_in 14 = .ok (.iconst 0, 1) := by decide +kernel
theorem dX11_in_15 : decode cX11_in 15 = .ok (.ireturn, 1) := by decide +kernel
theorem dX11_keepNew_0 : decode cX11_keepNew 0 = .ok (.aload_n 0, 1) := by decide +kernel
theorem dX11_keepNew_1 : decode cX11_keepNew 1 = .ok (.invokevirtual 85, 3) := by decide +kernel
theorem dX11_keepNew_4 : decode cX11_keepNew 4 = .ok (.aload_n 0, 1) := by decide +kernel
theorem dX11_keepNew_5 : decode cX11_keepNew 5 = .ok (.invokevirtual 88, 3) := by decide +kernel
theorem dX11_keepNew_8 : decode cX11_keepNew 8 = .ok (.iconst 0, 1) := by decide +kernel
theorem dX11_keepNew_9 : decode cX11_keepNew 9 = .ok (.istore_n 1, 1) := by decide +kernel
theorem dX11_keepNew_10 : decode cX11_keepNew 10 = .ok (.iload_n 1, 1) := by decide +kernel
theorem dX11_keepNew_11 : decode cX11_keepNew 11 = .ok (.iconst 4, 1) := by decide +kernel
theorem dX11_keepNew_12 : decode cX11_keepNew 12 = .ok (.if_icmp .ge 16, 3) := by decide +kernel
theorem dX11_keepNew_15 : decode cX11_keepNew 15 = .ok (.aload_n 0, 1) := by decide +kernel
theorem dX11_keepNew_16 : decode cX11_keepNew 16 = .ok (.getfield 43, 3) := by decide +kernel
theorem dX11_keepNew_19 : decode cX11_keepNew 19 = .ok (.iload_n 1, 1) := by decide +kernel
theorem dX11_keepNew_20 : decode cX11_keepNew 20 = .ok (.iconst 0, 1) := by decide +kernel
theorem dX11_keepNew_21 : decode cX11_keepNew 21 = .ok (.bastore, 1) := by decide +kernel
theorem dX11_keepNew_22 : decode cX11_keepNew 22 = .ok (.iinc 1 1, 3) := by decide +kernel
theorem dX11_keepNew_25 : decode cX11_keepNew 25 = .ok (.goto (-15), 3) := by decide +kernel
theorem dX11_keepNew_28 : decode cX11_keepNew 28 = .ok (.aload_n 0, 1) := by decide +kernel
theorem dX11_keepNew_29 : decode cX11_keepNew 29 = .ok (.iconst 0, 1) := by decide +kernel
theorem dX11_keepNew_30 : decode cX11_keepNew 30 = .ok (.putfield 91, 3) := by decide +kernel
theorem dX11_keepNew_33 : decode cX11_keepNew 33 = .ok (.aload_n 0, 1) := by decide +kernel
theorem dX11_keepNew_34 : decode cX11_keepNew 34 = .ok (.iconst 0, 1) := by decide +kernel
theorem dX11_keepNew_35 : decode cX11_keepNew 35 = .ok (.putfield 94, 3) := by decide +kernel
theorem dX11_keepNew_38 : decode cX11_keepNew 38 = .ok (.return_, 1) := by decide +kernel
theorem dX11_clear_0 : decode cX11_clear 0 = .ok (.aload_n 0, 1) := by decide +kernel
theorem dX11_clear_1 : decode cX11_clear 1 = .ok (.iconst 0, 1) := by decide +kernel
theorem dX11_clear_2 : decode cX11_clear 2 = .ok (.putfield 82, 3) := by decide +kernel
theorem dX11_clear_5 : decode cX11_clear 5 = .ok (.iconst 0, 1) := by decide +kernel
theorem dX11_clear_6 : decode cX11_clear 6 = .ok (.istore_n 1, 1) := by decide +kernel
theorem dX11_clear_7 : decode cX11_clear 7 = .ok (.iload_n 1, 1) := by decide +kernel
theorem dX11_clear_8 : decode cX11_clear 8 = .ok (.sipush 768, 3) := by decide +kernel
theorem dX11_clear_11 : decode cX11_clear 11 = .ok (.if_icmp .ge 16, 3) := by decide +kernel
theorem dX11_clear_14 : decode cX11_clear 14 = .ok (.aload_n 0, 1) := by decide +kernel
theorem dX11_clear_15 : decode cX11_clear 15 = .ok (.getfield 7, 3) := by decide +kernel
theorem dX11_clear_18 : decode cX11_clear 18 = .ok (.iload_n 1, 1) := by decide +kernel
theorem dX11_clear_19 : decode cX11_clear 19 = .ok (.iconst 0, 1) := by decide +kernel
theorem dX11_clear_20 : decode cX11_clear 20 = .ok (.iastore, 1) := by decide +kernel
theorem dX11_clear_21 : decode cX11_clear 21 = .ok (.iinc 1 1, 3) := by decide +kernel
theorem dX11_clear_24 : decode cX11_clear 24 = .ok (.goto (-17), 3) := by decide +kernel
theorem dX11_clear_27 : decode cX11_clear 27 = .ok (.aload_n 0, 1) := by decide +kernel
theorem dX11_clear_28 : decode cX11_clear 28 = .ok (.invokevirtual 79, 3) := by decide +kernel
theorem dX11_clear_31 : decode cX11_clear 31 = .ok (.return_, 1) := by decide +kernel
theorem dX11_isPlace_0 : decode cX11_isPlace 0 = .ok (.iload_n 1, 1) := by decide +kernel
theorem dX11_isPlace_1 : decode cX11_isPlace 1 = .ok (.iconst 0, 1) := by decide +kernel
theorem dX11_isPlace_2 : decode cX11_isPlace 2 = .ok (.aload_n 0, 1) := by decide +kernel
theorem dX11_isPlace_3 : decode cX11_isPlace 3 = .ok (.getfield 60, 3) := by decide +kernel
theorem dX11_isPlace_6 : decode cX11_isPlace 6 = .ok (.iconst 1, 1) := by decide +kernel
theorem dX11_isPlace_7 : decode cX11_isPlace 7 = .ok (.isub, 1) := by decide +kernel
theorem dX11_isPlace_8 : decode cX11_isPlace 8 = .ok (.invokestatic 97, 3) := by decide +kernel
theorem dX11_isPlace_11 : decode cX11_isPlace 11 = .ok (.ifCond .eq 35, 3) := by decide +kernel
theorem dX11_isPlace_14 : decode cX11_isPlace 14 = .ok (.iload_n 2, 1) := by decide +kernel
theorem dX11_isPlace_15 : decode cX11_isPlace 15 = .ok (.iconst 0, 1) := by decide +kernel
theorem dX11_isPlace_16 : decode cX11_isPlace 16 = .ok (.aload_n 0, 1) := by decide +kernel
theorem dX11_isPlace_17 : decode cX11_isPlace 17 = .ok (.getfield 64, 3) := by decide +kernel
theorem dX11_isPlace_20 : decode cX11_isPlace 20 = .ok (.iconst 1, 1) := by decide +kernel
theorem dX11_isPlace_21 : decode cX11_isPlace 21 = .ok (.isub, 1) := by decide +kernel
theorem dX11_isPlace_22 : decode cX11_isPlace 22 = .ok (.invokestatic 97, 3) := by decide +kernel
theorem dX11_isPlace_25 : decode cX11_isPlace 25 = .ok (.ifCond .eq 21, 3) := by decide +kernel
theorem dX11_isPlace_28 : decode cX11_isPlace 28 = .ok (.iload_n 3, 1) := by decide +kernel
theorem dX11_isPlace_29 : decode cX11_isPlace 29 = .ok (.iconst 0, 1) := by decide +kernel
theorem dX11_isPlace_30 : decode cX11_isPlace 30 = .ok (.aload_n 0, 1) := by decide +kernel
theorem dX11_isPlace_31 : decode cX11_isPlace 31 = .ok (.getfield 70, 3) := by decide +kernel
theorem dX11_isPlace_34 : decode cX11_isPlace 34 = .ok (.iconst 1, 1) := by decide +kernel
theorem dX11_isPlace_35 : decode cX11_isPlace 35 = .ok (.isub, 1) := by decide +kernel
theorem dX11_isPlace_36 : decode cX11_isPlace 36 = .ok (.invokestatic 97, 3) := by decide +kernel
theorem dX11_isPlace_39 : decode cX11_isPlace 39 = .ok (.ifCond .eq 7, 3) := by decide +kernel
theorem dX11_isPlace_42 : decode cX11_isPlace 42 = .ok (.iconst 1, 1) := by decide +kernel
theorem dX11_isPlace_43 : decode cX11_isPlace 43 = .ok (.goto 4, 3) := by decide +kernel
theorem dX11_isPlace_46 : decode cX11_isPlace 46 = .ok (.iconst 0, 1) := by decide +kernel
theorem dX11_isPlace_47 : decode cX11_isPlace 47 = .ok (.ireturn, 1) := by decide +kernel
theorem dX11_spot_0 : decode cX11_spot 0 = .ok (.iconst 3, 1) := by decide +kernel
theorem dX11_spot_1 : decode cX11_spot 1 = .ok (.bipush 16, 2) := by decide +kernel
theorem dX11_spot_3 : decode cX11_spot 3 = .ok (.iload_n 1, 1) := by decide +kernel
theorem dX11_spot_4 : decode cX11_spot 4 = .ok (.imul, 1) := by decide +kernel
theorem dX11_spot_5 : decode cX11_spot 5 = .ok (.iload_n 0, 1) := by decide +kernel
theorem dX11_spot_6 : decode cX11_spot 6 = .ok (.iadd, 1) := by decide +kernel
theorem dX11_spot_7 : decode cX11_spot 7 = .ok (.imul, 1) := by decide +kernel
theorem dX11_spot_8 : decode cX11_spot 8 = .ok (.iload_n 2, 1) := by decide +kernel
theorem dX11_spot_9 : decode cX11_spot 9 = .ok (.iadd, 1) := by decide +kernel
theorem dX11_spot_10 : decode cX11_spot 10 = .ok (.ireturn, 1) := by decide +kernel
theorem dX11_put_0 : decode cX11_put 0 = .ok (.aload_n 0, 1) := by decide +kernel
theorem dX11_put_1 : decode cX11_put 1 = .ok (.aload_n 0, 1) := by decide +kernel
theorem dX11_put_2 : decode cX11_put 2 = .ok (.iload_n 1, 1) := by decide +kernel
theorem dX11_put_3 : decode cX11_put 3 = .ok (.iload_n 2, 1) := by decide +kernel
theorem dX11_put_4 : decode cX11_put 4 = .ok (.iload_n 3, 1) := by decide +kernel
theorem dX11_put_5 : decode cX11_put 5 = .ok (.invokevirtual 101, 3) := by decide +kernel
theorem dX11_put_8 : decode cX11_put 8 = .ok (.ifCond .ne 7, 3) := by decide +kernel
theorem dX11_put_11 : decode cX11_put 11 = .ok (.iconst 1, 1) := by decide +kernel
theorem dX11_put_12 : decode cX11_put 12 = .ok (.goto 23, 3) := by decide +kernel
theorem dX11_put_15 : decode cX11_put 15 = .ok (.iload 4, 2) := by decide +kernel
theorem dX11_put_17 : decode cX11_put 17 = .ok (.iconst 0, 1) := by decide +kernel
theorem dX11_put_18 : decode cX11_put 18 = .ok (.aload_n 0, 1) := by decide +kernel
theorem dX11_put_19 : decode cX11_put 19 = .ok (.getfield 76, 3) := by decide +kernel
theorem dX11_put_22 : decode cX11_put 22 = .ok (.iconst 1, 1) := by decide +kernel
theorem dX11_put_23 : decode cX11_put 23 = .ok (.isub, 1) := by decide +kernel
theorem dX11_put_24 : decode cX11_put 24 = .ok (.invokestatic 97, 3) := by decide +kernel
theorem dX11_put_27 : decode cX11_put 27 = .ok (.ifCond .ne 7, 3) := by decide +kernel
theorem dX11_put_30 : decode cX11_put 30 = .ok (.iconst 2, 1) := by decide +kernel
theorem dX11_put_31 : decode cX11_put 31 = .ok (.goto 4, 3) := by decide +kernel
theorem dX11_put_34 : decode cX11_put 34 = .ok (.iconst 0, 1) := by decide +kernel
theorem dX11_put_35 : decode cX11_put 35 = .ok (.putfield 82, 3) := by decide +kernel
theorem dX11_put_38 : decode cX11_put 38 = .ok (.aload_n 0, 1) := by decide +kernel
theorem dX11_put_39 : decode cX11_put 39 = .ok (.getfield 82, 3) := by decide +kernel
theorem dX11_put_42 : decode cX11_put 42 = .ok (.ifCond .le 5, 3) := by decide +kernel
theorem dX11_put_45 : decode cX11_put 45 = .ok (.iconst 0, 1) := by decide +kernel
theorem dX11_put_46 : decode cX11_put 46 = .ok (.ireturn, 1) := by decide +kernel
theorem dX11_put_47 : decode cX11_put 47 = .ok (.aload_n 0, 1) := by decide +kernel
theorem dX11_put_48 : decode cX11_put 48 = .ok (.getfield 7, 3) := by decide +kernel
theorem dX11_put_51 : decode cX11_put 51 = .ok (.iload_n 1, 1) := by decide +kernel
theorem dX11_put_52 : decode cX11_put 52 = .ok (.iload_n 2, 1) := by decide +kernel
theorem dX11_put_53 : decode cX11_put 53 = .ok (.iload_n 3, 1) := by decide +kernel
theorem dX11_put_54 : decode cX11_put 54 = .ok (.invokestatic 104, 3) := by decide +kernel
theorem dX11_put_57 : decode cX11_put 57 = .ok (.iaload, 1) := by decide +kernel
theorem dX11_put_58 : decode cX11_put 58 = .ok (.iload 4, 2) := by decide +kernel
theorem dX11_put_60 : decode cX11_put 60 = .ok (.if_icmp .eq 7, 3) := by decide +kernel
theorem dX11_put_63 : decode cX11_put 63 = .ok (.iconst 1, 1) := by decide +kernel
theorem dX11_put_64 : decode cX11_put 64 = .ok (.goto 4, 3) := by decide +kernel
theorem dX11_put_67 : decode cX11_put 67 = .ok (.iconst 0, 1) := by decide +kernel
theorem dX11_put_68 : decode cX11_put 68 = .ok (.istore 5, 2) := by decide +kernel
theorem dX11_put_70 : decode cX11_put 70 = .ok (.aload_n 0, 1) := by decide +kernel
theorem dX11_put_71 : decode cX11_put 71 = .ok (.getfield 7, 3) := by decide +kernel
theorem dX11_put_74 : decode cX11_put 74 = .ok (.iload_n 1, 1) := by decide +kernel
theorem dX11_put_75 : decode cX11_put 75 = .ok (.iload_n 2, 1) := by decide +kernel
theorem dX11_put_76 : decode cX11_put 76 = .ok (.iload_n 3, 1) := by decide +kernel
theorem dX11_put_77 : decode cX11_put 77 = .ok (.invokestatic 104, 3) := by decide +kernel
theorem dX11_put_80 : decode cX11_put 80 = .ok (.iload 4, 2) := by decide +kernel
theorem dX11_put_82 : decode cX11_put 82 = .ok (.iastore, 1) := by decide +kernel
theorem dX11_put_83 : decode cX11_put 83 = .ok (.iload 5, 2) := by decide +kernel
theorem dX11_put_85 : decode cX11_put 85 = .ok (.ireturn, 1) := by decide +kernel
theorem dX11_paint_0 : decode cX11_paint 0 = .ok (.aload_n 0, 1) := by decide +kernel
theorem dX11_paint_1 : decode cX11_paint 1 = .ok (.iconst 0, 1) := by decide +kernel
theorem dX11_paint_2 : decode cX11_paint 2 = .ok (.putfield 82, 3) := by decide +kernel
theorem dX11_paint_5 : decode cX11_paint 5 = .ok (.iconst 0, 1) := by decide +kernel
theorem dX11_paint_6 : decode cX11_paint 6 = .ok (.istore_n 3, 1) := by decide +kernel
theorem dX11_paint_7 : decode cX11_paint 7 = .ok (.iload_n 1, 1) := by decide +kernel
theorem dX11_paint_8 : decode cX11_paint 8 = .ok (.istore 4, 2) := by decide +kernel
theorem dX11_paint_10 : decode cX11_paint 10 = .ok (.iconst 0, 1) := by decide +kernel
theorem dX11_paint_11 : decode cX11_paint 11 = .ok (.istore 5, 2) := by decide +kernel
theorem dX11_paint_13 : decode cX11_paint 13 = .ok (.iload 5, 2) := by decide +kernel
theorem dX11_paint_15 : decode cX11_paint 15 = .ok (.aload_n 0, 1) := by decide +kernel
theorem dX11_paint_16 : decode cX11_paint 16 = .ok (.getfield 64, 3) := by decide +kernel
theorem dX11_paint_19 : decode cX11_paint 19 = .ok (.if_icmp .ge 105, 3) := by decide +kernel
theorem dX11_paint_22 : decode cX11_paint 22 = .ok (.iconst 0, 1) := by decide +kernel
theorem dX11_paint_23 : decode cX11_paint 23 = .ok (.istore 6, 2) := by decide +kernel
theorem dX11_paint_25 : decode cX11_paint 25 = .ok (.iload 6, 2) := by decide +kernel
theorem dX11_paint_27 : decode cX11_paint 27 = .ok (.aload_n 0, 1) := by decide +kernel
theorem dX11_paint_28 : decode cX11_paint 28 = .ok (.getfield 60, 3) := by decide +kernel
theorem dX11_paint_31 : decode cX11_paint 31 = .ok (.if_icmp .ge 87, 3) := by decide +kernel
theorem dX11_paint_34 : decode cX11_paint 34 = .ok (.iconst 0, 1) := by decide +kernel
theorem dX11_paint_35 : decode cX11_paint 35 = .ok (.istore 7, 2) := by decide +kernel
theorem dX11_paint_37 : decode cX11_paint 37 = .ok (.iload 7, 2) := by decide +kernel
theorem dX11_paint_39 : decode cX11_paint 39 = .ok (.aload_n 0, 1) := by decide +kernel
theorem dX11_paint_40 : decode cX11_paint 40 = .ok (.getfield 70, 3) := by decide +kernel
theorem dX11_paint_43 : decode cX11_paint 43 = .ok (.if_icmp .ge 69, 3) := by decide +kernel
theorem dX11_paint_46 : decode cX11_paint 46 = .ok (.iload 4, 2) := by decide +kernel
theorem dX11_paint_48 : decode cX11_paint 48 = .ok (.aload_n 0, 1) := by decide +kernel
theorem dX11_paint_49 : decode cX11_paint 49 = .ok (.getfield 76, 3) := by decide +kernel
theorem dX11_paint_52 : decode cX11_paint 52 = .ok (.iconst 1, 1) := by decide +kernel
theorem dX11_paint_53 : decode cX11_paint 53 = .ok (.isub, 1) := by decide +kernel
theorem dX11_paint_54 : decode cX11_paint 54 = .ok (.iand, 1) := by decide +kernel
theorem dX11_paint_55 : decode cX11_paint 55 = .ok (.istore 8, 2) := by decide +kernel
theorem dX11_paint_57 : decode cX11_paint 57 = .ok (.iload_n 3, 1) := by decide +kernel
theorem dX11_paint_58 : decode cX11_paint 58 = .ok (.aload_n 0, 1) := by decide +kernel
theorem dX11_paint_59 : decode cX11_paint 59 = .ok (.getfield 7, 3) := by decide +kernel
theorem dX11_paint_62 : decode cX11_paint 62 = .ok (.iload 6, 2) := by decide +kernel
theorem dX11_paint_64 : decode cX11_paint 64 = .ok (.iload 5, 2) := by decide +kernel
theorem dX11_paint_66 : decode cX11_paint 66 = .ok (.iload 7, 2) := by decide +kernel
theorem dX11_paint_68 : decode cX11_paint 68 = .ok (.invokestatic 104, 3) := by decide +kernel
theorem dX11_paint_71 : decode cX11_paint 71 = .ok (.iaload, 1) := by decide +kernel
theorem dX11_paint_72 : decode cX11_paint 72 = .ok (.iload 8, 2) := by decide +kernel
theorem dX11_paint_74 : decode cX11_paint 74 = .ok (.if_icmp .eq 7, 3) := by decide +kernel
theorem dX11_paint_77 : decode cX11_paint 77 = .ok (.iconst 1, 1) := by decide +kernel
theorem dX11_paint_78 : decode cX11_paint 78 = .ok (.goto 4, 3) := by decide +kernel
theorem dX11_paint_81 : decode cX11_paint 81 = .ok (.iconst 0, 1) := by decide +kernel
theorem dX11_paint_82 : decode cX11_paint 82 = .ok (.iadd, 1) := by decide +kernel
theorem dX11_paint_83 : decode cX11_paint 83 = .ok (.istore_n 3, 1) := by decide +kernel
theorem dX11_paint_84 : decode cX11_paint 84 = .ok (.aload_n 0, 1) := by decide +kernel
theorem dX11_paint_85 : decode cX11_paint 85 = .ok (.getfield 7, 3) := by decide +kernel
theorem dX11_paint_88 : decode cX11_paint 88 = .ok (.iload 6, 2) := by decide +kernel
theorem dX11_paint_90 : decode cX11_paint 90 = .ok (.iload 5, 2) := by decide +kernel
theorem dX11_paint_92 : decode cX11_paint 92 = .ok (.iload 7, 2) := by decide +kernel
theorem dX11_paint_94 : decode cX11_paint 94 = .ok (.invokestatic 104, 3) := by decide +kernel
theorem dX11_paint_97 : decode cX11_paint 97 = .ok (.iload 8, 2) := by decide +kernel
theorem dX11_paint_99 : decode cX11_paint 99 = .ok (.iastore, 1) := by decide +kernel
theorem dX11_paint_100 : decode cX11_paint 100 = .ok (.iload 4, 2) := by decide +kernel
theorem dX11_paint_102 : decode cX11_paint 102 = .ok (.iload_n 2, 1) := by decide +kernel
theorem dX11_paint_103 : decode cX11_paint 103 = .ok (.iadd, 1) := by decide +kernel
theorem dX11_paint_104 : decode cX11_paint 104 = .ok (.istore 4, 2) := by decide +kernel
theorem dX11_paint_106 : decode cX11_paint 106 = .ok (.iinc 7 1, 3) := by decide +kernel
theorem dX11_paint_109 : decode cX11_paint 109 = .ok (.goto (-72), 3) := by decide +kernel
theorem dX11_paint_112 : decode cX11_paint 112 = .ok (.iinc 6 1, 3) := by decide +kernel
theorem dX11_paint_115 : decode cX11_paint 115 = .ok (.goto (-90), 3) := by decide +kernel
theorem dX11_paint_118 : decode cX11_paint 118 = .ok (.iinc 5 1, 3) := by decide +kernel
theorem dX11_paint_121 : decode cX11_paint 121 = .ok (.goto (-108), 3) := by decide +kernel
theorem dX11_paint_124 : decode cX11_paint 124 = .ok (.iload_n 3, 1) := by decide +kernel
theorem dX11_paint_125 : decode cX11_paint 125 = .ok (.ireturn, 1) := by decide +kernel
theorem dX11_at_0 : decode cX11_at 0 = .ok (.aload_n 0, 1) := by decide +kernel
theorem dX11_at_1 : decode cX11_at 1 = .ok (.aload_n 0, 1) := by decide +kernel
theorem dX11_at_2 : decode cX11_at 2 = .ok (.iload_n 1, 1) := by decide +kernel
theorem dX11_at_3 : decode cX11_at 3 = .ok (.iload_n 2, 1) := by decide +kernel
theorem dX11_at_4 : decode cX11_at 4 = .ok (.iload_n 3, 1) := by decide +kernel
theorem dX11_at_5 : decode cX11_at 5 = .ok (.invokevirtual 101, 3) := by decide +kernel
theorem dX11_at_8 : decode cX11_at 8 = .ok (.ifCond .eq 7, 3) := by decide +kernel
theorem dX11_at_11 : decode cX11_at 11 = .ok (.iconst 0, 1) := by decide +kernel
theorem dX11_at_12 : decode cX11_at 12 = .ok (.goto 4, 3) := by decide +kernel
theorem dX11_at_15 : decode cX11_at 15 = .ok (.iconst 1, 1) := by decide +kernel
theorem dX11_at_16 : decode cX11_at 16 = .ok (.putfield 82, 3) := by decide +kernel
theorem dX11_at_19 : decode cX11_at 19 = .ok (.aload_n 0, 1) := by decide +kernel
theorem dX11_at_20 : decode cX11_at 20 = .ok (.getfield 82, 3) := by decide +kernel
theorem dX11_at_23 : decode cX11_at 23 = .ok (.ifCond .le 7, 3) := by decide +kernel
theorem dX11_at_26 : decode cX11_at 26 = .ok (.iconst 0, 1) := by decide +kernel
theorem dX11_at_27 : decode cX11_at 27 = .ok (.goto 14, 3) := by decide +kernel
theorem dX11_at_30 : decode cX11_at 30 = .ok (.aload_n 0, 1) := by decide +kernel
theorem dX11_at_31 : decode cX11_at 31 = .ok (.getfield 7, 3) := by decide +kernel
theorem dX11_at_34 : decode cX11_at 34 = .ok (.iload_n 1, 1) := by decide +kernel
theorem dX11_at_35 : decode cX11_at 35 = .ok (.iload_n 2, 1) := by decide +kernel
theorem dX11_at_36 : decode cX11_at 36 = .ok (.iload_n 3, 1) := by decide +kernel
theorem dX11_at_37 : decode cX11_at 37 = .ok (.invokestatic 104, 3) := by decide +kernel
theorem dX11_at_40 : decode cX11_at 40 = .ok (.iaload, 1) := by decide +kernel
theorem dX11_at_41 : decode cX11_at 41 = .ok (.ireturn, 1) := by decide +kernel
theorem dX11_near_0 : decode cX11_near 0 = .ok (.iload_n 1, 1) := by decide +kernel
theorem dX11_near_1 : decode cX11_near 1 = .ok (.iload 4, 2) := by decide +kernel
theorem dX11_near_3 : decode cX11_near 3 = .ok (.iadd, 1) := by decide +kernel
theorem dX11_near_4 : decode cX11_near 4 = .ok (.istore 6, 2) := by decide +kernel
theorem dX11_near_6 : decode cX11_near 6 = .ok (.iload_n 2, 1) := by decide +kernel
theorem dX11_near_7 : decode cX11_near 7 = .ok (.iload 5, 2) := by decide +kernel
theorem dX11_near_9 : decode cX11_near 9 = .ok (.iadd, 1) := by decide +kernel
theorem dX11_near_10 : decode cX11_near 10 = .ok (.istore 7, 2) := by decide +kernel
theorem dX11_near_12 : decode cX11_near 12 = .ok (.iload 6, 2) := by decide +kernel
theorem dX11_near_14 : decode cX11_near 14 = .ok (.ifCond .lt 54, 3) := by decide +kernel
theorem dX11_near_17 : decode cX11_near 17 = .ok (.iload 7, 2) := by decide +kernel
theorem dX11_near_19 : decode cX11_near 19 = .ok (.ifCond .lt 49, 3) := by decide +kernel
theorem dX11_near_22 : decode cX11_near 22 = .ok (.iload 6, 2) := by decide +kernel
theorem dX11_near_24 : decode cX11_near 24 = .ok (.aload_n 0, 1) := by decide +kernel
theorem dX11_near_25 : decode cX11_near 25 = .ok (.getfield 60, 3) := by decide +kernel
theorem dX11_near_28 : decode cX11_near 28 = .ok (.if_icmp .ge 40, 3) := by decide +kernel
theorem dX11_near_31 : decode cX11_near 31 = .ok (.iload 7, 2) := by decide +kernel
theorem dX11_near_33 : decode cX11_near 33 = .ok (.aload_n 0, 1) := by decide +kernel
theorem dX11_near_34 : decode cX11_near 34 = .ok (.getfield 64, 3) := by decide +kernel
theorem dX11_near_37 : decode cX11_near 37 = .ok (.if_icmp .ge 31, 3) := by decide +kernel
theorem dX11_near_40 : decode cX11_near 40 = .ok (.iload 6, 2) := by decide +kernel
theorem dX11_near_42 : decode cX11_near 42 = .ok (.bipush 8, 2) := by decide +kernel
theorem dX11_near_44 : decode cX11_near 44 = .ok (.idiv, 1) := by decide +kernel
theorem dX11_near_45 : decode cX11_near 45 = .ok (.iload_n 1, 1) := by decide +kernel
theorem dX11_near_46 : decode cX11_near 46 = .ok (.bipush 8, 2) := by decide +kernel
theorem dX11_near_48 : decode cX11_near 48 = .ok (.idiv, 1) := by decide +kernel
theorem dX11_near_49 : decode cX11_near 49 = .ok (.if_icmp .ne 19, 3) := by decide +kernel
theorem dX11_near_52 : decode cX11_near 52 = .ok (.iload 7, 2) := by decide +kernel
theorem dX11_near_54 : decode cX11_near 54 = .ok (.bipush 8, 2) := by decide +kernel
theorem dX11_near_56 : decode cX11_near 56 = .ok (.idiv, 1) := by decide +kernel
theorem dX11_near_57 : decode cX11_near 57 = .ok (.iload_n 2, 1) := by decide +kernel
theorem dX11_near_58 : decode cX11_near 58 = .ok (.bipush 8, 2) := by decide +kernel
theorem dX11_near_60 : decode cX11_near 60 = .ok (.idiv, 1) := by decide +kernel
theorem dX11_near_61 : decode cX11_near 61 = .ok (.if_icmp .ne 7, 3) := by decide +kernel
theorem dX11_near_64 : decode cX11_near 64 = .ok (.iconst 1, 1) := by decide +kernel
theorem dX11_near_65 : decode cX11_near 65 = .ok (.goto 4, 3) := by decide +kernel
theorem dX11_near_68 : decode cX11_near 68 = .ok (.iconst 0, 1) := by decide +kernel
theorem dX11_near_69 : decode cX11_near 69 = .ok (.istore 8, 2) := by decide +kernel
theorem dX11_near_71 : decode cX11_near 71 = .ok (.iload 8, 2) := by decide +kernel
theorem dX11_near_73 : decode cX11_near 73 = .ok (.ifCond .eq 19, 3) := by decide +kernel
theorem dX11_near_76 : decode cX11_near 76 = .ok (.aload_n 0, 1) := by decide +kernel
theorem dX11_near_77 : decode cX11_near 77 = .ok (.getfield 7, 3) := by decide +kernel
theorem dX11_near_80 : decode cX11_near 80 = .ok (.iload 6, 2) := by decide +kernel
theorem dX11_near_82 : decode cX11_near 82 = .ok (.iload 7, 2) := by decide +kernel
theorem dX11_near_84 : decode cX11_near 84 = .ok (.iload_n 3, 1) := by decide +kernel
theorem dX11_near_85 : decode cX11_near 85 = .ok (.invokestatic 104, 3) := by decide +kernel
theorem dX11_near_88 : decode cX11_near 88 = .ok (.iaload, 1) := by decide +kernel
theorem dX11_near_89 : decode cX11_near 89 = .ok (.goto 7, 3) := by decide +kernel
theorem dX11_near_92 : decode cX11_near 92 = .ok (.aload_n 0, 1) := by decide +kernel
theorem dX11_near_93 : decode cX11_near 93 = .ok (.getfield 73, 3) := by decide +kernel
theorem dX11_near_96 : decode cX11_near 96 = .ok (.ireturn, 1) := by decide +kernel
theorem dX11_halfOf_0 : decode cX11_halfOf 0 = .ok (.iload_n 0, 1) := by decide +kernel
theorem dX11_halfOf_1 : decode cX11_halfOf 1 = .ok (.iconst 1, 1) := by decide +kernel
theorem dX11_halfOf_2 : decode cX11_halfOf 2 = .ok (.ishr, 1) := by decide +kernel
theorem dX11_halfOf_3 : decode cX11_halfOf 3 = .ok (.ireturn, 1) := by decide +kernel
theorem dX11_expect_0 : decode cX11_expect 0 = .ok (.aload_n 0, 1) := by decide +kernel
theorem dX11_expect_1 : decode cX11_expect 1 = .ok (.iload_n 1, 1) := by decide +kernel
theorem dX11_expect_2 : decode cX11_expect 2 = .ok (.iload_n 2, 1) := by decide +kernel
theorem dX11_expect_3 : decode cX11_expect 3 = .ok (.iload_n 3, 1) := by decide +kernel
theorem dX11_expect_4 : decode cX11_expect 4 = .ok (.iconst (-1), 1) := by decide +kernel
theorem dX11_expect_5 : decode cX11_expect 5 = .ok (.iconst 0, 1) := by decide +kernel
theorem dX11_expect_6 : decode cX11_expect 6 = .ok (.invokevirtual 108, 3) := by decide +kernel
theorem dX11_expect_9 : decode cX11_expect 9 = .ok (.istore 5, 2) := by decide +kernel
theorem dX11_expect_11 : decode cX11_expect 11 = .ok (.aload_n 0, 1) := by decide +kernel
theorem dX11_expect_12 : decode cX11_expect 12 = .ok (.iload_n 1, 1) := by decide +kernel
theorem dX11_expect_13 : decode cX11_expect 13 = .ok (.iload_n 2, 1) := by decide +kernel
theorem dX11_expect_14 : decode cX11_expect 14 = .ok (.iload_n 3, 1) := by decide +kernel
theorem dX11_expect_15 : decode cX11_expect 15 = .ok (.iconst 0, 1) := by decide +kernel
theorem dX11_expect_16 : decode cX11_expect 16 = .ok (.iconst (-1), 1) := by decide +kernel
theorem dX11_expect_17 : decode cX11_expect 17 = .ok (.invokevirtual 108, 3) := by decide +kernel
theorem dX11_expect_20 : decode cX11_expect 20 = .ok (.istore 6, 2) := by decide +kernel
theorem dX11_expect_22 : decode cX11_expect 22 = .ok (.aload_n 0, 1) := by decide +kernel
theorem dX11_expect_23 : decode cX11_expect 23 = .ok (.iload_n 1, 1) := by decide +kernel
theorem dX11_expect_24 : decode cX11_expect 24 = .ok (.iload_n 2, 1) := by decide +kernel
theorem dX11_expect_25 : decode cX11_expect 25 = .ok (.iload_n 3, 1) := by decide +kernel
theorem dX11_expect_26 : decode cX11_expect 26 = .ok (.iconst (-1), 1) := by decide +kernel
theorem dX11_expect_27 : decode cX11_expect 27 = .ok (.iconst (-1), 1) := by decide +kernel
theorem dX11_expect_28 : decode cX11_expect 28 = .ok (.invokevirtual 108, 3) := by decide +kernel
theorem dX11_expect_31 : decode cX11_expect 31 = .ok (.istore 7, 2) := by decide +kernel
theorem dX11_expect_33 : decode cX11_expect 33 = .ok (.iload 4, 2) := by decide +kernel
theorem dX11_expect_35 : decode cX11_expect 35 = .ok (.tableswitch 138 0 7 #[45, 52, 59, 66, 80, 93, 106, 122], 45) := by decide +kernel
theorem dX11_expect_80 : decode cX11_expect 80 = .ok (.iload 5, 2) := by decide +kernel
theorem dX11_expect_82 : decode cX11_expect 82 = .ok (.istore 8, 2) := by decide +kernel
theorem dX11_expect_84 : decode cX11_expect 84 = .ok (.goto 115, 3) := by decide +kernel
theorem dX11_expect_87 : decode cX11_expect 87 = .ok (.iload 6, 2) := by decide +kernel
theorem dX11_expect_89 : decode cX11_expect 89 = .ok (.istore 8, 2) := by decide +kernel
theorem dX11_expect_91 : decode cX11_expect 91 = .ok (.goto 108, 3) := by decide +kernel
theorem dX11_expect_94 : decode cX11_expect 94 = .ok (.iload 7, 2) := by decide +kernel
theorem dX11_expect_96 : decode cX11_expect 96 = .ok (.istore 8, 2) := by decide +kernel
theorem dX11_expect_98 : decode cX11_expect 98 = .ok (.goto 101, 3) := by decide +kernel
theorem dX11_expect_101 : decode cX11_expect 101 = .ok (.aload_n 0, 1) := by decide +kernel
theorem dX11_expect_102 : decode cX11_expect 102 = .ok (.iload_n 1, 1) := by decide +kernel
theorem dX11_expect_103 : decode cX11_expect 103 = .ok (.iload_n 2, 1) := by decide +kernel
theorem dX11_expect_104 : decode cX11_expect 104 = .ok (.iload_n 3, 1) := by decide +kernel
theorem dX11_expect_105 : decode cX11_expect 105 = .ok (.iconst 1, 1) := by decide +kernel
theorem dX11_expect_106 : decode cX11_expect 106 = .ok (.iconst (-1), 1) := by decide +kernel
theorem dX11_expect_107 : decode cX11_expect 107 = .ok (.invokevirtual 108, 3) := by decide +kernel
theorem dX11_expect_110 : decode cX11_expect 110 = .ok (.istore 8, 2) := by decide +kernel
theorem dX11_expect_112 : decode cX11_expect 112 = .ok (.goto 87, 3) := by decide +kernel
theorem dX11_expect_115 : decode cX11_expect 115 = .ok (.iload 5, 2) := by decide +kernel
theorem dX11_expect_117 : decode cX11_expect 117 = .ok (.iload 6, 2) := by decide +kernel
theorem dX11_expect_119 : decode cX11_expect 119 = .ok (.iadd, 1) := by decide +kernel
theorem dX11_expect_120 : decode cX11_expect 120 = .ok (.iload 7, 2) := by decide +kernel
theorem dX11_expect_122 : decode cX11_expect 122 = .ok (.isub, 1) := by decide +kernel
theorem dX11_expect_123 : decode cX11_expect 123 = .ok (.istore 8, 2) := by decide +kernel
theorem dX11_expect_125 : decode cX11_expect 125 = .ok (.goto 74, 3) := by decide +kernel
theorem dX11_expect_128 : decode cX11_expect 128 = .ok (.iload 5, 2) := by decide +kernel
theorem dX11_expect_130 : decode cX11_expect 130 = .ok (.iload 6, 2) := by decide +kernel
theorem dX11_expect_132 : decode cX11_expect 132 = .ok (.iadd, 1) := by decide +kernel
theorem dX11_expect_133 : decode cX11_expect 133 = .ok (.invokestatic 112, 3) := by decide +kernel
theorem dX11_expect_136 : decode cX11_expect 136 = .ok (.istore 8, 2) := by decide +kernel
theorem dX11_expect_138 : decode cX11_expect 138 = .ok (.goto 61, 3) := by decide +kernel
theorem dX11_expect_141 : decode cX11_expect 141 = .ok (.iload 5, 2) := by decide +kernel
theorem dX11_expect_143 : decode cX11_expect 143 = .ok (.iload 6, 2) := by decide +kernel
theorem dX11_expect_145 : decode cX11_expect 145 = .ok (.iload 7, 2) := by decide +kernel
theorem dX11_expect_147 : decode cX11_expect 147 = .ok (.isub, 1) := by decide +kernel
theorem dX11_expect_148 : decode cX11_expect 148 = .ok (.invokestatic 112, 3) := by decide +kernel
theorem dX11_expect_151 : decode cX11_expect 151 = .ok (.iadd, 1) := by decide +kernel
theorem dX11_expect_152 : decode cX11_expect 152 = .ok (.istore 8, 2) := by decide +kernel
theorem dX11_expect_154 : decode cX11_expect 154 = .ok (.goto 45, 3) := by decide +kernel
theorem dX11_expect_157 : decode cX11_expect 157 = .ok (.iload 6, 2) := by decide +kernel
theorem dX11_expect_159 : decode cX11_expect 159 = .ok (.iload 5, 2) := by decide +kernel
theorem dX11_expect_161 : decode cX11_expect 161 = .ok (.iload 7, 2) := by decide +kernel
theorem dX11_expect_163 : decode cX11_expect 163 = .ok (.isub, 1) := by decide +kernel
theorem dX11_expect_164 : decode cX11_expect 164 = .ok (.invokestatic 112, 3) := by decide +kernel
theorem dX11_expect_167 : decode cX11_expect 167 = .ok (.iadd, 1) := by decide +kernel
theorem dX11_expect_168 : decode cX11_expect 168 = .ok (.istore 8, 2) := by decide +kernel
theorem dX11_expect_170 : decode cX11_expect 170 = .ok (.goto 29, 3) := by decide +kernel
theorem dX11_expect_173 : decode cX11_expect 173 = .ok (.iload_n 3, 1) := by decide +kernel
theorem dX11_expect_174 : decode cX11_expect 174 = .ok (.ifCond .ne 10, 3) := by decide +kernel
theorem dX11_expect_177 : decode cX11_expect 177 = .ok (.aload_n 0, 1) := by decide +kernel
theorem dX11_expect_178 : decode cX11_expect 178 = .ok (.getfield 73, 3) := by decide +kernel
theorem dX11_expect_181 : decode cX11_expect 181 = .ok (.goto 16, 3) := by decide +kernel
theorem dX11_expect_184 : decode cX11_expect 184 = .ok (.aload_n 0, 1) := by decide +kernel
theorem dX11_expect_185 : decode cX11_expect 185 = .ok (.getfield 7, 3) := by decide +kernel
theorem dX11_expect_188 : decode cX11_expect 188 = .ok (.iload_n 1, 1) := by decide +kernel
theorem dX11_expect_189 : decode cX11_expect 189 = .ok (.iload_n 2, 1) := by decide +kernel
theorem dX11_expect_190 : decode cX11_expect 190 = .ok (.iload_n 3, 1) := by decide +kernel
theorem dX11_expect_191 : decode cX11_expect 191 = .ok (.iconst 1, 1) := by decide +kernel
theorem dX11_expect_192 : decode cX11_expect 192 = .ok (.isub, 1) := by decide +kernel
theorem dX11_expect_193 : decode cX11_expect 193 = .ok (.invokestatic 104, 3) := by decide +kernel
theorem dX11_expect_196 : decode cX11_expect 196 = .ok (.iaload, 1) := by decide +kernel
theorem dX11_expect_197 : decode cX11_expect 197 = .ok (.istore 8, 2) := by decide +kernel
theorem dX11_expect_199 : decode cX11_expect 199 = .ok (.iload 8, 2) := by decide +kernel
theorem dX11_expect_201 : decode cX11_expect 201 = .ok (.ifCond .ge 7, 3) := by decide +kernel
theorem dX11_expect_204 : decode cX11_expect 204 = .ok (.iconst 0, 1) := by decide +kernel
theorem dX11_expect_205 : decode cX11_expect 205 = .ok (.goto 25, 3) := by decide +kernel
theorem dX11_expect_208 : decode cX11_expect 208 = .ok (.iload 8, 2) := by decide +kernel
theorem dX11_expect_210 : decode cX11_expect 210 = .ok (.aload_n 0, 1) := by decide +kernel
theorem dX11_expect_211 : decode cX11_expect 211 = .ok (.getfield 76, 3) := by decide +kernel
theorem dX11_expect_214 : decode cX11_expect 214 = .ok (.iconst 1, 1) := by decide +kernel
theorem dX11_expect_215 : decode cX11_expect 215 = .ok (.isub, 1) := by decide +kernel
theorem dX11_expect_216 : decode cX11_expect 216 = .ok (.if_icmp .le 12, 3) := by decide +kernel
theorem dX11_expect_219 : decode cX11_expect 219 = .ok (.aload_n 0, 1) := by decide +kernel
theorem dX11_expect_220 : decode cX11_expect 220 = .ok (.getfield 76, 3) := by decide +kernel
theorem dX11_expect_223 : decode cX11_expect 223 = .ok (.iconst 1, 1) := by decide +kernel
theorem dX11_expect_224 : decode cX11_expect 224 = .ok (.isub, 1) := by decide +kernel
theorem dX11_expect_225 : decode cX11_expect 225 = .ok (.goto 5, 3) := by decide +kernel
theorem dX11_expect_228 : decode cX11_expect 228 = .ok (.iload 8, 2) := by decide +kernel
theorem dX11_expect_230 : decode cX11_expect 230 = .ok (.ireturn, 1) := by decide +kernel
theorem dX11_predicted_0 : decode cX11_predicted 0 = .ok (.aload_n 0, 1) := by decide +kernel
theorem dX11_predicted_1 : decode cX11_predicted 1 = .ok (.aload_n 0, 1) := by decide +kernel
theorem dX11_predicted_2 : decode cX11_predicted 2 = .ok (.iload_n 1, 1) := by decide +kernel
theorem dX11_predicted_3 : decode cX11_predicted 3 = .ok (.iload_n 2, 1) := by decide +kernel
theorem dX11_predicted_4 : decode cX11_predicted 4 = .ok (.iload_n 3, 1) := by decide +kernel
theorem dX11_predicted_5 : decode cX11_predicted 5 = .ok (.invokevirtual 101, 3) := by decide +kernel
theorem dX11_predicted_8 : decode cX11_predicted 8 = .ok (.ifCond .eq 18, 3) := by decide +kernel
theorem dX11_predicted_11 : decode cX11_predicted 11 = .ok (.iload 4, 2) := by decide +kernel
theorem dX11_predicted_13 : decode cX11_predicted 13 = .ok (.iconst 0, 1) := by decide +kernel
theorem dX11_predicted_14 : decode cX11_predicted 14 = .ok (.bipush 8, 2) := by decide +kernel
theorem dX11_predicted_16 : decode cX11_predicted 16 = .ok (.invokestatic 97, 3) := by decide +kernel
theorem dX11_predicted_19 : decode cX11_predicted 19 = .ok (.ifCond .eq 7, 3) := by decide +kernel
theorem dX11_predicted_22 : decode cX11_predicted 22 = .ok (.iconst 0, 1) := by decide +kernel
theorem dX11_predicted_23 : decode cX11_predicted 23 = .ok (.goto 4, 3) := by decide +kernel
theorem dX11_predicted_26 : decode cX11_predicted 26 = .ok (.iconst 1, 1) := by decide +kernel
theorem dX11_predicted_27 : decode cX11_predicted 27 = .ok (.putfield 82, 3) := by decide +kernel
theorem dX11_predicted_30 : decode cX11_predicted 30 = .ok (.aload_n 0, 1) := by decide +kernel
theorem dX11_predicted_31 : decode cX11_predicted 31 = .ok (.getfield 82, 3) := by decide +kernel
theorem dX11_predicted_34 : decode cX11_predicted 34 = .ok (.ifCond .le 7, 3) := by decide +kernel
theorem dX11_predicted_37 : decode cX11_predicted 37 = .ok (.iconst 0, 1) := by decide +kernel
theorem dX11_predicted_38 : decode cX11_predicted 38 = .ok (.goto 12, 3) := by decide +kernel
theorem dX11_predicted_41 : decode cX11_predicted 41 = .ok (.aload_n 0, 1) := by decide +kernel
theorem dX11_predicted_42 : decode cX11_predicted 42 = .ok (.iload_n 1, 1) := by decide +kernel
theorem dX11_predicted_43 : decode cX11_predicted 43 = .ok (.iload_n 2, 1) := by decide +kernel
theorem dX11_predicted_44 : decode cX11_predicted 44 = .ok (.iload_n 3, 1) := by decide +kernel
theorem dX11_predicted_45 : decode cX11_predicted 45 = .ok (.iload 4, 2) := by decide +kernel
theorem dX11_predicted_47 : decode cX11_predicted 47 = .ok (.invokevirtual 116, 3) := by decide +kernel
theorem dX11_predicted_50 : decode cX11_predicted 50 = .ok (.ireturn, 1) := by decide +kernel
theorem dX11_mix_0 : decode cX11_mix 0 = .ok (.iconst 0, 1) := by decide +kernel
theorem dX11_mix_1 : decode cX11_mix 1 = .ok (.istore 4, 2) := by decide +kernel
theorem dX11_mix_3 : decode cX11_mix 3 = .ok (.iconst 0, 1) := by decide +kernel
theorem dX11_mix_4 : decode cX11_mix 4 = .ok (.istore 5, 2) := by decide +kernel
theorem dX11_mix_6 : decode cX11_mix 6 = .ok (.iconst 0, 1) := by decide +kernel
theorem dX11_mix_7 : decode cX11_mix 7 = .ok (.istore 6, 2) := by decide +kernel
theorem dX11_mix_9 : decode cX11_mix 9 = .ok (.iload 6, 2) := by decide +kernel
theorem dX11_mix_11 : decode cX11_mix 11 = .ok (.bipush 9, 2) := by decide +kernel
theorem dX11_mix_13 : decode cX11_mix 13 = .ok (.if_icmp .ge 57, 3) := by decide +kernel
theorem dX11_mix_16 : decode cX11_mix 16 = .ok (.aload_n 0, 1) := by decide +kernel
theorem dX11_mix_17 : decode cX11_mix 17 = .ok (.getfield 40, 3) := by decide +kernel
theorem dX11_mix_20 : decode cX11_mix 20 = .ok (.iload 6, 2) := by decide +kernel
theorem dX11_mix_22 : decode cX11_mix 22 = .ok (.aload_n 0, 1) := by decide +kernel
theorem dX11_mix_23 : decode cX11_mix 23 = .ok (.iload_n 1, 1) := by decide +kernel
theorem dX11_mix_24 : decode cX11_mix 24 = .ok (.iload_n 2, 1) := by decide +kernel
theorem dX11_mix_25 : decode cX11_mix 25 = .ok (.iload_n 3, 1) := by decide +kernel
theorem dX11_mix_26 : decode cX11_mix 26 = .ok (.iload 6, 2) := by decide +kernel
theorem dX11_mix_28 : decode cX11_mix 28 = .ok (.invokevirtual 116, 3) := by decide +kernel
theorem dX11_mix_31 : decode cX11_mix 31 = .ok (.iastore, 1) := by decide +kernel
theorem dX11_mix_32 : decode cX11_mix 32 = .ok (.iload 4, 2) := by decide +kernel
theorem dX11_mix_34 : decode cX11_mix 34 = .ok (.aload_n 0, 1) := by decide +kernel
theorem dX11_mix_35 : decode cX11_mix 35 = .ok (.getfield 13, 3) := by decide +kernel
theorem dX11_mix_38 : decode cX11_mix 38 = .ok (.iload 6, 2) := by decide +kernel
theorem dX11_mix_40 : decode cX11_mix 40 = .ok (.iaload, 1) := by decide +kernel
theorem dX11_mix_41 : decode cX11_mix 41 = .ok (.iadd, 1) := by decide +kernel
theorem dX11_mix_42 : decode cX11_mix 42 = .ok (.istore 4, 2) := by decide +kernel
theorem dX11_mix_44 : decode cX11_mix 44 = .ok (.iload 5, 2) := by decide +kernel
theorem dX11_mix_46 : decode cX11_mix 46 = .ok (.aload_n 0, 1) := by decide +kernel
theorem dX11_mix_47 : decode cX11_mix 47 = .ok (.getfield 13, 3) := by decide +kernel
theorem dX11_mix_50 : decode cX11_mix 50 = .ok (.iload 6, 2) := by decide +kernel
theorem dX11_mix_52 : decode cX11_mix 52 = .ok (.iaload, 1) := by decide +kernel
theorem dX11_mix_53 : decode cX11_mix 53 = .ok (.aload_n 0, 1) := by decide +kernel
theorem dX11_mix_54 : decode cX11_mix 54 = .ok (.getfield 40, 3) := by decide +kernel
theorem dX11_mix_57 : decode cX11_mix 57 = .ok (.iload 6, 2) := by decide +kernel
theorem dX11_mix_59 : decode cX11_mix 59 = .ok (.iaload, 1) := by decide +kernel
theorem dX11_mix_60 : decode cX11_mix 60 = .ok (.imul, 1) := by decide +kernel
theorem dX11_mix_61 : decode cX11_mix 61 = .ok (.iadd, 1) := by decide +kernel
theorem dX11_mix_62 : decode cX11_mix 62 = .ok (.istore 5, 2) := by decide +kernel
theorem dX11_mix_64 : decode cX11_mix 64 = .ok (.iinc 6 1, 3) := by decide +kernel
theorem dX11_mix_67 : decode cX11_mix 67 = .ok (.goto (-58), 3) := by decide +kernel
theorem dX11_mix_70 : decode cX11_mix 70 = .ok (.aload_n 0, 1) := by decide +kernel
theorem dX11_mix_71 : decode cX11_mix 71 = .ok (.iload 5, 2) := by decide +kernel
theorem dX11_mix_73 : decode cX11_mix 73 = .ok (.iload 4, 2) := by decide +kernel
theorem dX11_mix_75 : decode cX11_mix 75 = .ok (.iconst 2, 1) := by decide +kernel
theorem dX11_mix_76 : decode cX11_mix 76 = .ok (.idiv, 1) := by decide +kernel
theorem dX11_mix_77 : decode cX11_mix 77 = .ok (.iadd, 1) := by decide +kernel
theorem dX11_mix_78 : decode cX11_mix 78 = .ok (.iload 4, 2) := by decide +kernel
theorem dX11_mix_80 : decode cX11_mix 80 = .ok (.idiv, 1) := by decide +kernel
theorem dX11_mix_81 : decode cX11_mix 81 = .ok (.putfield 120, 3) := by decide +kernel
theorem dX11_mix_84 : decode cX11_mix 84 = .ok (.return_, 1) := by decide +kernel
theorem dX11_learn_0 : decode cX11_learn 0 = .ok (.iconst 0, 1) := by decide +kernel
theorem dX11_learn_1 : decode cX11_learn 1 = .ok (.istore_n 2, 1) := by decide +kernel
theorem dX11_learn_2 : decode cX11_learn 2 = .ok (.iload_n 2, 1) := by decide +kernel
theorem dX11_learn_3 : decode cX11_learn 3 = .ok (.bipush 9, 2) := by decide +kernel
theorem dX11_learn_5 : decode cX11_learn 5 = .ok (.if_icmp .ge 177, 3) := by decide +kernel
theorem dX11_learn_8 : decode cX11_learn 8 = .ok (.iload_n 1, 1) := by decide +kernel
theorem dX11_learn_9 : decode cX11_learn 9 = .ok (.aload_n 0, 1) := by decide +kernel
theorem dX11_learn_10 : decode cX11_learn 10 = .ok (.getfield 120, 3) := by decide +kernel
theorem dX11_learn_13 : decode cX11_learn 13 = .ok (.if_icmp .eq 169, 3) := by decide +kernel
theorem dX11_learn_16 : decode cX11_learn 16 = .ok (.iload_n 1, 1) := by decide +kernel
theorem dX11_learn_17 : decode cX11_learn 17 = .ok (.aload_n 0, 1) := by decide +kernel
theorem dX11_learn_18 : decode cX11_learn 18 = .ok (.getfield 120, 3) := by decide +kernel
theorem dX11_learn_21 : decode cX11_learn 21 = .ok (.if_icmp .le 24, 3) := by decide +kernel
theorem dX11_learn_24 : decode cX11_learn 24 = .ok (.aload_n 0, 1) := by decide +kernel
theorem dX11_learn_25 : decode cX11_learn 25 = .ok (.getfield 40, 3) := by decide +kernel
theorem dX11_learn_28 : decode cX11_learn 28 = .ok (.iload_n 2, 1) := by decide +kernel
theorem dX11_learn_29 : decode cX11_learn 29 = .ok (.iaload, 1) := by decide +kernel
theorem dX11_learn_30 : decode cX11_learn 30 = .ok (.aload_n 0, 1) := by decide +kernel
theorem dX11_learn_31 : decode cX11_learn 31 = .ok (.getfield 120, 3) := by decide +kernel
theorem dX11_learn_34 : decode cX11_learn 34 = .ok (.if_icmp .le 7, 3) := by decide +kernel
theorem dX11_learn_37 : decode cX11_learn 37 = .ok (.iconst 1, 1) := by decide +kernel
theorem dX11_learn_38 : decode cX11_learn 38 = .ok (.goto 25, 3) := by decide +kernel
theorem dX11_learn_41 : decode cX11_learn 41 = .ok (.iconst 0, 1) := by decide +kernel
theorem dX11_learn_42 : decode cX11_learn 42 = .ok (.goto 21, 3) := by decide +kernel
theorem dX11_learn_45 : decode cX11_learn 45 = .ok (.aload_n 0, 1) := by decide +kernel
theorem dX11_learn_46 : decode cX11_learn 46 = .ok (.getfield 40, 3) := by decide +kernel
theorem dX11_learn_49 : decode cX11_learn 49 = .ok (.iload_n 2, 1) := by decide +kernel
theorem dX11_learn_50 : decode cX11_learn 50 = .ok (.iaload, 1) := by decide +kernel
theorem dX11_learn_51 : decode cX11_learn 51 = .ok (.aload_n 0, 1) := by decide +kernel
theorem dX11_learn_52 : decode cX11_learn 52 = .ok (.getfield 120, 3) := by decide +kernel
theorem dX11_learn_55 : decode cX11_learn 55 = .ok (.if_icmp .ge 7, 3) := by decide +kernel
theorem dX11_learn_58 : decode cX11_learn 58 = .ok (.iconst 1, 1) := by decide +kernel
theorem dX11_learn_59 : decode cX11_learn 59 = .ok (.goto 4, 3) := by decide +kernel
theorem dX11_learn_62 : decode cX11_learn 62 = .ok (.iconst 0, 1) := by decide +kernel
theorem dX11_learn_63 : decode cX11_learn 63 = .ok (.istore_n 3, 1) := by decide +kernel
theorem dX11_learn_64 : decode cX11_learn 64 = .ok (.iload_n 1, 1) := by decide +kernel
theorem dX11_learn_65 : decode cX11_learn 65 = .ok (.aload_n 0, 1) := by decide +kernel
theorem dX11_learn_66 : decode cX11_learn 66 = .ok (.getfield 120, 3) := by decide +kernel
theorem dX11_learn_69 : decode cX11_learn 69 = .ok (.if_icmp .le 24, 3) := by decide +kernel
theorem dX11_learn_72 : decode cX11_learn 72 = .ok (.aload_n 0, 1) := by decide +kernel
theorem dX11_learn_73 : decode cX11_learn 73 = .ok (.getfield 40, 3) := by decide +kernel
theorem dX11_learn_76 : decode cX11_learn 76 = .ok (.iload_n 2, 1) := by decide +kernel
theorem dX11_learn_77 : decode cX11_learn 77 = .ok (.iaload, 1) := by decide +kernel
theorem dX11_learn_78 : decode cX11_learn 78 = .ok (.aload_n 0, 1) := by decide +kernel
theorem dX11_learn_79 : decode cX11_learn 79 = .ok (.getfield 120, 3) := by decide +kernel
theorem dX11_learn_82 : decode cX11_learn 82 = .ok (.if_icmp .ge 7, 3) := by decide +kernel
theorem dX11_learn_85 : decode cX11_learn 85 = .ok (.iconst 1, 1) := by decide +kernel
theorem dX11_learn_86 : decode cX11_learn 86 = .ok (.goto 25, 3) := by decide +kernel
theorem dX11_learn_89 : decode cX11_learn 89 = .ok (.iconst 0, 1) := by decide +kernel
theorem dX11_learn_90 : decode cX11_learn 90 = .ok (.goto 21, 3) := by decide +kernel
theorem dX11_learn_93 : decode cX11_learn 93 = .ok (.aload_n 0, 1) := by decide +kernel
theorem dX11_learn_94 : decode cX11_learn 94 = .ok (.getfield 40, 3) := by decide +kernel
theorem dX11_learn_97 : decode cX11_learn 97 = .ok (.iload_n 2, 1) := by decide +kernel
theorem dX11_learn_98 : decode cX11_learn 98 = .ok (.iaload, 1) := by decide +kernel
theorem dX11_learn_99 : decode cX11_learn 99 = .ok (.aload_n 0, 1) := by decide +kernel
theorem dX11_learn_100 : decode cX11_learn 100 = .ok (.getfield 120, 3) := by decide +kernel
theorem dX11_learn_103 : decode cX11_learn 103 = .ok (.if_icmp .le 7, 3) := by decide +kernel
theorem dX11_learn_106 : decode cX11_learn 106 = .ok (.iconst 1, 1) := by decide +kernel
theorem dX11_learn_107 : decode cX11_learn 107 = .ok (.goto 4, 3) := by decide +kernel
theorem dX11_learn_110 : decode cX11_learn 110 = .ok (.iconst 0, 1) := by decide +kernel
theorem dX11_learn_111 : decode cX11_learn 111 = .ok (.istore 4, 2) := by decide +kernel
theorem dX11_learn_113 : decode cX11_learn 113 = .ok (.aload_n 0, 1) := by decide +kernel
theorem dX11_learn_114 : decode cX11_learn 114 = .ok (.getfield 13, 3) := by decide +kernel
theorem dX11_learn_117 : decode cX11_learn 117 = .ok (.iload_n 2, 1) := by decide +kernel
theorem dX11_learn_118 : decode cX11_learn 118 = .ok (.iaload, 1) := by decide +kernel
theorem dX11_learn_119 : decode cX11_learn 119 = .ok (.iload_n 3, 1) := by decide +kernel
theorem dX11_learn_120 : decode cX11_learn 120 = .ok (.ifCond .eq 8, 3) := by decide +kernel
theorem dX11_learn_123 : decode cX11_learn 123 = .ok (.bipush 8, 2) := by decide +kernel
theorem dX11_learn_125 : decode cX11_learn 125 = .ok (.goto 14, 3) := by decide +kernel
theorem dX11_learn_128 : decode cX11_learn 128 = .ok (.iload 4, 2) := by decide +kernel
theorem dX11_learn_130 : decode cX11_learn 130 = .ok (.ifCond .eq 8, 3) := by decide +kernel
theorem dX11_learn_133 : decode cX11_learn 133 = .ok (.bipush (-8), 2) := by decide +kernel
theorem dX11_learn_135 : decode cX11_learn 135 = .ok (.goto 4, 3) := by decide +kernel
theorem dX11_learn_138 : decode cX11_learn 138 = .ok (.iconst 0, 1) := by decide +kernel
theorem dX11_learn_139 : decode cX11_learn 139 = .ok (.iadd, 1) := by decide +kernel
theorem dX11_learn_140 : decode cX11_learn 140 = .ok (.istore 5, 2) := by decide +kernel
theorem dX11_learn_142 : decode cX11_learn 142 = .ok (.aload_n 0, 1) := by decide +kernel
theorem dX11_learn_143 : decode cX11_learn 143 = .ok (.getfield 13, 3) := by decide +kernel
theorem dX11_learn_146 : decode cX11_learn 146 = .ok (.iload_n 2, 1) := by decide +kernel
theorem dX11_learn_147 : decode cX11_learn 147 = .ok (.iload 5, 2) := by decide +kernel
theorem dX11_learn_149 : decode cX11_learn 149 = .ok (.sipush 1024, 3) := by decide +kernel
theorem dX11_learn_152 : decode cX11_learn 152 = .ok (.if_icmp .le 9, 3) := by decide +kernel
theorem dX11_learn_155 : decode cX11_learn 155 = .ok (.sipush 1024, 3) := by decide +kernel
theorem dX11_learn_158 : decode cX11_learn 158 = .ok (.goto 17, 3) := by decide +kernel
theorem dX11_learn_161 : decode cX11_learn 161 = .ok (.iload 5, 2) := by decide +kernel
theorem dX11_learn_163 : decode cX11_learn 163 = .ok (.bipush 8, 2) := by decide +kernel
theorem dX11_learn_165 : decode cX11_learn 165 = .ok (.if_icmp .ge 8, 3) := by decide +kernel
theorem dX11_learn_168 : decode cX11_learn 168 = .ok (.bipush 8, 2) := by decide +kernel
theorem dX11_learn_170 : decode cX11_learn 170 = .ok (.goto 5, 3) := by decide +kernel
theorem dX11_learn_173 : decode cX11_learn 173 = .ok (.iload 5, 2) := by decide +kernel
theorem dX11_learn_175 : decode cX11_learn 175 = .ok (.iastore, 1) := by decide +kernel
theorem dX11_learn_176 : decode cX11_learn 176 = .ok (.iinc 2 1, 3) := by decide +kernel
theorem dX11_learn_179 : decode cX11_learn 179 = .ok (.goto (-177), 3) := by decide +kernel
theorem dX11_learn_182 : decode cX11_learn 182 = .ok (.return_, 1) := by decide +kernel
theorem dX11_begin_0 : decode cX11_begin 0 = .ok (.iconst 0, 1) := by decide +kernel
theorem dX11_begin_1 : decode cX11_begin 1 = .ok (.istore_n 1, 1) := by decide +kernel
theorem dX11_begin_2 : decode cX11_begin 2 = .ok (.iload_n 1, 1) := by decide +kernel
theorem dX11_begin_3 : decode cX11_begin 3 = .ok (.bipush 9, 2) := by decide +kernel
theorem dX11_begin_5 : decode cX11_begin 5 = .ok (.if_icmp .ge 18, 3) := by decide +kernel
theorem dX11_begin_8 : decode cX11_begin 8 = .ok (.aload_n 0, 1) := by decide +kernel
theorem dX11_begin_9 : decode cX11_begin 9 = .ok (.getfield 13, 3) := by decide +kernel
theorem dX11_begin_12 : decode cX11_begin 12 = .ok (.iload_n 1, 1) := by decide +kernel
theorem dX11_begin_13 : decode cX11_begin 13 = .ok (.sipush 256, 3) := by decide +kernel
theorem dX11_begin_16 : decode cX11_begin 16 = .ok (.iastore, 1) := by decide +kernel
theorem dX11_begin_17 : decode cX11_begin 17 = .ok (.iinc 1 1, 3) := by decide +kernel
theorem dX11_begin_20 : decode cX11_begin 20 = .ok (.goto (-18), 3) := by decide +kernel
theorem dX11_begin_23 : decode cX11_begin 23 = .ok (.iconst 0, 1) := by decide +kernel
theorem dX11_begin_24 : decode cX11_begin 24 = .ok (.istore_n 1, 1) := by decide +kernel
theorem dX11_begin_25 : decode cX11_begin 25 = .ok (.iload_n 1, 1) := by decide +kernel
theorem dX11_begin_26 : decode cX11_begin 26 = .ok (.sipush 3072, 3) := by decide +kernel
theorem dX11_begin_29 : decode cX11_begin 29 = .ok (.if_icmp .ge 25, 3) := by decide +kernel
theorem dX11_begin_32 : decode cX11_begin 32 = .ok (.aload_n 0, 1) := by decide +kernel
theorem dX11_begin_33 : decode cX11_begin 33 = .ok (.getfield 16, 3) := by decide +kernel
theorem dX11_begin_36 : decode cX11_begin 36 = .ok (.iload_n 1, 1) := by decide +kernel
theorem dX11_begin_37 : decode cX11_begin 37 = .ok (.ldc 123, 2) := by decide +kernel
theorem dX11_begin_39 : decode cX11_begin 39 = .ok (.iastore, 1) := by decide +kernel
theorem dX11_begin_40 : decode cX11_begin 40 = .ok (.aload_n 0, 1) := by decide +kernel
theorem dX11_begin_41 : decode cX11_begin 41 = .ok (.getfield 19, 3) := by decide +kernel
theorem dX11_begin_44 : decode cX11_begin 44 = .ok (.iload_n 1, 1) := by decide +kernel
theorem dX11_begin_45 : decode cX11_begin 45 = .ok (.ldc 123, 2) := by decide +kernel
theorem dX11_begin_47 : decode cX11_begin 47 = .ok (.iastore, 1) := by decide +kernel
theorem dX11_begin_48 : decode cX11_begin 48 = .ok (.iinc 1 1, 3) := by decide +kernel
theorem dX11_begin_51 : decode cX11_begin 51 = .ok (.goto (-26), 3) := by decide +kernel
theorem dX11_begin_54 : decode cX11_begin 54 = .ok (.iconst 0, 1) := by decide +kernel
theorem dX11_begin_55 : decode cX11_begin 55 = .ok (.istore_n 1, 1) := by decide +kernel
theorem dX11_begin_56 : decode cX11_begin 56 = .ok (.iload_n 1, 1) := by decide +kernel
theorem dX11_begin_57 : decode cX11_begin 57 = .ok (.iconst 3, 1) := by decide +kernel
theorem dX11_begin_58 : decode cX11_begin 58 = .ok (.if_icmp .ge 24, 3) := by decide +kernel
theorem dX11_begin_61 : decode cX11_begin 61 = .ok (.aload_n 0, 1) := by decide +kernel
theorem dX11_begin_62 : decode cX11_begin 62 = .ok (.getfield 22, 3) := by decide +kernel
theorem dX11_begin_65 : decode cX11_begin 65 = .ok (.iload_n 1, 1) := by decide +kernel
theorem dX11_begin_66 : decode cX11_begin 66 = .ok (.bipush 32, 2) := by decide +kernel
theorem dX11_begin_68 : decode cX11_begin 68 = .ok (.iastore, 1) := by decide +kernel
theorem dX11_begin_69 : decode cX11_begin 69 = .ok (.aload_n 0, 1) := by decide +kernel
theorem dX11_begin_70 : decode cX11_begin 70 = .ok (.getfield 25, 3) := by decide +kernel
theorem dX11_begin_73 : decode cX11_begin 73 = .ok (.iload_n 1, 1) := by decide +kernel
theorem dX11_begin_74 : decode cX11_begin 74 = .ok (.iconst 0, 1) := by decide +kernel
theorem dX11_begin_75 : decode cX11_begin 75 = .ok (.iastore, 1) := by decide +kernel
theorem dX11_begin_76 : decode cX11_begin 76 = .ok (.iinc 1 1, 3) := by decide +kernel
theorem dX11_begin_79 : decode cX11_begin 79 = .ok (.goto (-23), 3) := by decide +kernel
theorem dX11_begin_82 : decode cX11_begin 82 = .ok (.return_, 1) := by decide +kernel
theorem dX11_keep_0 : decode cX11_keep 0 = .ok (.iconst 0, 1) := by decide +kernel
theorem dX11_keep_1 : decode cX11_keep 1 = .ok (.istore_n 1, 1) := by decide +kernel
theorem dX11_keep_2 : decode cX11_keep 2 = .ok (.iload_n 1, 1) := by decide +kernel
theorem dX11_keep_3 : decode cX11_keep 3 = .ok (.bipush 9, 2) := by decide +kernel
theorem dX11_keep_5 : decode cX11_keep 5 = .ok (.if_icmp .ge 21, 3) := by decide +kernel
theorem dX11_keep_8 : decode cX11_keep 8 = .ok (.aload_n 0, 1) := by decide +kernel
theorem dX11_keep_9 : decode cX11_keep 9 = .ok (.getfield 28, 3) := by decide +kernel
theorem dX11_keep_12 : decode cX11_keep 12 = .ok (.iload_n 1, 1) := by decide +kernel
theorem dX11_keep_13 : decode cX11_keep 13 = .ok (.aload_n 0, 1) := by decide +kernel
theorem dX11_keep_14 : decode cX11_keep 14 = .ok (.getfield 13, 3) := by decide +kernel
theorem dX11_keep_17 : decode cX11_keep 17 = .ok (.iload_n 1, 1) := by decide +kernel
theorem dX11_keep_18 : decode cX11_keep 18 = .ok (.iaload, 1) := by decide +kernel
theorem dX11_keep_19 : decode cX11_keep 19 = .ok (.iastore, 1) := by decide +kernel
theorem dX11_keep_20 : decode cX11_keep 20 = .ok (.iinc 1 1, 3) := by decide +kernel
theorem dX11_keep_23 : decode cX11_keep 23 = .ok (.goto (-21), 3) := by decide +kernel
theorem dX11_keep_26 : decode cX11_keep 26 = .ok (.iconst 0, 1) := by decide +kernel
theorem dX11_keep_27 : decode cX11_keep 27 = .ok (.istore_n 1, 1) := by decide +kernel
theorem dX11_keep_28 : decode cX11_keep 28 = .ok (.iload_n 1, 1) := by decide +kernel
theorem dX11_keep_29 : decode cX11_keep 29 = .ok (.sipush 3072, 3) := by decide +kernel
theorem dX11_keep_32 : decode cX11_keep 32 = .ok (.if_icmp .ge 33, 3) := by decide +kernel
theorem dX11_keep_35 : decode cX11_keep 35 = .ok (.aload_n 0, 1) := by decide +kernel
theorem dX11_keep_36 : decode cX11_keep 36 = .ok (.getfield 31, 3) := by decide +kernel
theorem dX11_keep_39 : decode cX11_keep 39 = .ok (.iload_n 1, 1) := by decide +kernel
theorem dX11_keep_40 : decode cX11_keep 40 = .ok (.aload_n 0, 1) := by decide +kernel
theorem dX11_keep_41 : decode cX11_keep 41 = .ok (.getfield 16, 3) := by decide +kernel
theorem dX11_keep_44 : decode cX11_keep 44 = .ok (.iload_n 1, 1) := by decide +kernel
theorem dX11_keep_45 : decode cX11_keep 45 = .ok (.iaload, 1) := by decide +kernel
theorem dX11_keep_46 : decode cX11_keep 46 = .ok (.iastore, 1) := by decide +kernel
theorem dX11_keep_47 : decode cX11_keep 47 = .ok (.aload_n 0, 1) := by decide +kernel
theorem dX11_keep_48 : decode cX11_keep 48 = .ok (.getfield 34, 3) := by decide +kernel
theorem dX11_keep_51 : decode cX11_keep 51 = .ok (.iload_n 1, 1) := by decide +kernel
theorem dX11_keep_52 : decode cX11_keep 52 = .ok (.aload_n 0, 1) := by decide +kernel
theorem dX11_keep_53 : decode cX11_keep 53 = .ok (.getfield 19, 3) := by decide +kernel
theorem dX11_keep_56 : decode cX11_keep 56 = .ok (.iload_n 1, 1) := by decide +kernel
theorem dX11_keep_57 : decode cX11_keep 57 = .ok (.iaload, 1) := by decide +kernel
theorem dX11_keep_58 : decode cX11_keep 58 = .ok (.iastore, 1) := by decide +kernel
theorem dX11_keep_59 : decode cX11_keep 59 = .ok (.iinc 1 1, 3) := by decide +kernel
theorem dX11_keep_62 : decode cX11_keep 62 = .ok (.goto (-34), 3) := by decide +kernel
theorem dX11_keep_65 : decode cX11_keep 65 = .ok (.iconst 0, 1) := by decide +kernel
theorem dX11_keep_66 : decode cX11_keep 66 = .ok (.istore_n 1, 1) := by decide +kernel
theorem dX11_keep_67 : decode cX11_keep 67 = .ok (.iload_n 1, 1) := by decide +kernel
theorem dX11_keep_68 : decode cX11_keep 68 = .ok (.iconst 3, 1) := by decide +kernel
theorem dX11_keep_69 : decode cX11_keep 69 = .ok (.if_icmp .ge 21, 3) := by decide +kernel
theorem dX11_keep_72 : decode cX11_keep 72 = .ok (.aload_n 0, 1) := by decide +kernel
theorem dX11_keep_73 : decode cX11_keep 73 = .ok (.getfield 37, 3) := by decide +kernel
theorem dX11_keep_76 : decode cX11_keep 76 = .ok (.iload_n 1, 1) := by decide +kernel
theorem dX11_keep_77 : decode cX11_keep 77 = .ok (.aload_n 0, 1) := by decide +kernel
theorem dX11_keep_78 : decode cX11_keep 78 = .ok (.getfield 22, 3) := by decide +kernel
theorem dX11_keep_81 : decode cX11_keep 81 = .ok (.iload_n 1, 1) := by decide +kernel
theorem dX11_keep_82 : decode cX11_keep 82 = .ok (.iaload, 1) := by decide +kernel
theorem dX11_keep_83 : decode cX11_keep 83 = .ok (.iastore, 1) := by decide +kernel
theorem dX11_keep_84 : decode cX11_keep 84 = .ok (.iinc 1 1, 3) := by decide +kernel
theorem dX11_keep_87 : decode cX11_keep 87 = .ok (.goto (-20), 3) := by decide +kernel
theorem dX11_keep_90 : decode cX11_keep 90 = .ok (.return_, 1) := by decide +kernel
theorem dX11_nextByte_0 : decode cX11_nextByte 0 = .ok (.aload_n 0, 1) := by decide +kernel
theorem dX11_nextByte_1 : decode cX11_nextByte 1 = .ok (.getfield 124, 3) := by decide +kernel
theorem dX11_nextByte_4 : decode cX11_nextByte 4 = .ok (.aload_n 0, 1) := by decide +kernel
theorem dX11_nextByte_5 : decode cX11_nextByte 5 = .ok (.getfield 127, 3) := by decide +kernel
theorem dX11_nextByte_8 : decode cX11_nextByte 8 = .ok (.if_icmp .ge 15, 3) := by decide +kernel
theorem dX11_nextByte_11 : decode cX11_nextByte 11 = .ok (.aload_n 0, 1) := by decide +kernel
theorem dX11_nextByte_12 : decode cX11_nextByte 12 = .ok (.getfield 53, 3) := by decide +kernel
theorem dX11_nextByte_15 : decode cX11_nextByte 15 = .ok (.aload_n 0, 1) := by decide +kernel
theorem dX11_nextByte_16 : decode cX11_nextByte 16 = .ok (.getfield 124, 3) := by decide +kernel
theorem dX11_nextByte_19 : decode cX11_nextByte 19 = .ok (.iaload, 1) := by decide +kernel
theorem dX11_nextByte_20 : decode cX11_nextByte 20 = .ok (.goto 4, 3) := by decide +kernel
theorem dX11_nextByte_23 : decode cX11_nextByte 23 = .ok (.iconst 0, 1) := by decide +kernel
theorem dX11_nextByte_24 : decode cX11_nextByte 24 = .ok (.istore_n 1, 1) := by decide +kernel
theorem dX11_nextByte_25 : decode cX11_nextByte 25 = .ok (.aload_n 0, 1) := by decide +kernel
theorem dX11_nextByte_26 : decode cX11_nextByte 26 = .ok (.dup, 1) := by decide +kernel
theorem dX11_nextByte_27 : decode cX11_nextByte 27 = .ok (.getfield 124, 3) := by decide +kernel
theorem dX11_nextByte_30 : decode cX11_nextByte 30 = .ok (.iconst 1, 1) := by decide +kernel
theorem dX11_nextByte_31 : decode cX11_nextByte 31 = .ok (.iadd, 1) := by decide +kernel
theorem dX11_nextByte_32 : decode cX11_nextByte 32 = .ok (.putfield 124, 3) := by decide +kernel
theorem dX11_nextByte_35 : decode cX11_nextByte 35 = .ok (.iload_n 1, 1) := by decide +kernel
theorem dX11_nextByte_36 : decode cX11_nextByte 36 = .ok (.ireturn, 1) := by decide +kernel
theorem dX11_putOut_0 : decode cX11_putOut 0 = .ok (.aload_n 0, 1) := by decide +kernel
theorem dX11_putOut_1 : decode cX11_putOut 1 = .ok (.getfield 47, 3) := by decide +kernel
theorem dX11_putOut_4 : decode cX11_putOut 4 = .ok (.aload_n 0, 1) := by decide +kernel
theorem dX11_putOut_5 : decode cX11_putOut 5 = .ok (.getfield 130, 3) := by decide +kernel
theorem dX11_putOut_8 : decode cX11_putOut 8 = .ok (.iload_n 1, 1) := by decide +kernel
theorem dX11_putOut_9 : decode cX11_putOut 9 = .ok (.iastore, 1) := by decide +kernel
theorem dX11_putOut_10 : decode cX11_putOut 10 = .ok (.aload_n 0, 1) := by decide +kernel
theorem dX11_putOut_11 : decode cX11_putOut 11 = .ok (.dup, 1) := by decide +kernel
theorem dX11_putOut_12 : decode cX11_putOut 12 = .ok (.getfield 130, 3) := by decide +kernel
theorem dX11_putOut_15 : decode cX11_putOut 15 = .ok (.iconst 1, 1) := by decide +kernel
theorem dX11_putOut_16 : decode cX11_putOut 16 = .ok (.iadd, 1) := by decide +kernel
theorem dX11_putOut_17 : decode cX11_putOut 17 = .ok (.putfield 130, 3) := by decide +kernel
theorem dX11_putOut_20 : decode cX11_putOut 20 = .ok (.return_, 1) := by decide +kernel
theorem dX11_narrow_0 : decode cX11_narrow 0 = .ok (.aload_n 0, 1) := by decide +kernel
theorem dX11_narrow_1 : decode cX11_narrow 1 = .ok (.getfield 133, 3) := by decide +kernel
theorem dX11_narrow_4 : decode cX11_narrow 4 = .ok (.bipush 24, 2) := by decide +kernel
theorem dX11_narrow_6 : decode cX11_narrow 6 = .ok (.lshr, 1) := by decide +kernel
theorem dX11_narrow_7 : decode cX11_narrow 7 = .ok (.aload_n 0, 1) := by decide +kernel
theorem dX11_narrow_8 : decode cX11_narrow 8 = .ok (.getfield 137, 3) := by decide +kernel
theorem dX11_narrow_11 : decode cX11_narrow 11 = .ok (.bipush 24, 2) := by decide +kernel
theorem dX11_narrow_13 : decode cX11_narrow 13 = .ok (.lshr, 1) := by decide +kernel
theorem dX11_narrow_14 : decode cX11_narrow 14 = .ok (.lcmp, 1) := by decide +kernel
theorem dX11_narrow_15 : decode cX11_narrow 15 = .ok (.ifCond .ne 83, 3) := by decide +kernel
theorem dX11_narrow_18 : decode cX11_narrow 18 = .ok (.aload_n 0, 1) := by decide +kernel
theorem dX11_narrow_19 : decode cX11_narrow 19 = .ok (.getfield 140, 3) := by decide +kernel
theorem dX11_narrow_22 : decode cX11_narrow 22 = .ok (.ifCond .eq 18, 3) := by decide +kernel
theorem dX11_narrow_25 : decode cX11_narrow 25 = .ok (.aload_n 0, 1) := by decide +kernel
theorem dX11_narrow_26 : decode cX11_narrow 26 = .ok (.aload_n 0, 1) := by decide +kernel
theorem dX11_narrow_27 : decode cX11_narrow 27 = .ok (.getfield 133, 3) := by decide +kernel
theorem dX11_narrow_30 : decode cX11_narrow 30 = .ok (.bipush 24, 2) := by decide +kernel
theorem dX11_narrow_32 : decode cX11_narrow 32 = .ok (.lshr, 1) := by decide +kernel
theorem dX11_narrow_33 : decode cX11_narrow 33 = .ok (.l2i, 1) := by decide +kernel
theorem dX11_narrow_34 : decode cX11_narrow 34 = .ok (.invokevirtual 144, 3) := by decide +kernel
theorem dX11_narrow_37 : decode cX11_narrow 37 = .ok (.goto 24, 3) := by decide +kernel
theorem dX11_narrow_40 : decode cX11_narrow 40 = .ok (.aload_n 0, 1) := by decide +kernel
theorem dX11_narrow_41 : decode cX11_narrow 41 = .ok (.aload_n 0, 1) := by decide +kernel
theorem dX11_narrow_42 : decode cX11_narrow 42 = .ok (.getfield 148, 3) := by decide +kernel
theorem dX11_narrow_45 : decode cX11_narrow 45 = .ok (.bipush 8, 2) := by decide +kernel
theorem dX11_narrow_47 : decode cX11_narrow 47 = .ok (.lshl, 1) := by decide +kernel
theorem dX11_narrow_48 : decode cX11_narrow 48 = .ok (.ldc2_w 151, 3) := by decide +kernel
theorem dX11_narrow_51 : decode cX11_narrow 51 = .ok (.land, 1) := by decide +kernel
theorem dX11_narrow_52 : decode cX11_narrow 52 = .ok (.aload_n 0, 1) := by decide +kernel
theorem dX11_narrow_53 : decode cX11_narrow 53 = .ok (.invokevirtual 153, 3) := by decide +kernel
theorem dX11_narrow_56 : decode cX11_narrow 56 = .ok (.i2l, 1) := by decide +kernel
theorem dX11_narrow_57 : decode cX11_narrow 57 = .ok (.ladd, 1) := by decide +kernel
theorem dX11_narrow_58 : decode cX11_narrow 58 = .ok (.putfield 148, 3) := by decide +kernel
theorem dX11_narrow_61 : decode cX11_narrow 61 = .ok (.aload_n 0, 1) := by decide +kernel
theorem dX11_narrow_62 : decode cX11_narrow 62 = .ok (.aload_n 0, 1) := by decide +kernel
theorem dX11_narrow_63 : decode cX11_narrow 63 = .ok (.getfield 133, 3) := by decide +kernel
theorem dX11_narrow_66 : decode cX11_narrow 66 = .ok (.bipush 8, 2) := by decide +kernel
theorem dX11_narrow_68 : decode cX11_narrow 68 = .ok (.lshl, 1) := by decide +kernel
theorem dX11_narrow_69 : decode cX11_narrow 69 = .ok (.ldc2_w 151, 3) := by decide +kernel
theorem dX11_narrow_72 : decode cX11_narrow 72 = .ok (.land, 1) := by decide +kernel
theorem dX11_narrow_73 : decode cX11_narrow 73 = .ok (.putfield 133, 3) := by decide +kernel
theorem dX11_narrow_76 : decode cX11_narrow 76 = .ok (.aload_n 0, 1) := by decide +kernel
theorem dX11_narrow_77 : decode cX11_narrow 77 = .ok (.aload_n 0, 1) := by decide +kernel
theorem dX11_narrow_78 : decode cX11_narrow 78 = .ok (.getfield 137, 3) := by decide +kernel
theorem dX11_narrow_81 : decode cX11_narrow 81 = .ok (.bipush 8, 2) := by decide +kernel
theorem dX11_narrow_83 : decode cX11_narrow 83 = .ok (.lshl, 1) := by decide +kernel
theorem dX11_narrow_84 : decode cX11_narrow 84 = .ok (.ldc2_w 151, 3) := by decide +kernel
theorem dX11_narrow_87 : decode cX11_narrow 87 = .ok (.land, 1) := by decide +kernel
theorem dX11_narrow_88 : decode cX11_narrow 88 = .ok (.ldc2_w 157, 3) := by decide +kernel
theorem dX11_narrow_91 : decode cX11_narrow 91 = .ok (.ladd, 1) := by decide +kernel
theorem dX11_narrow_92 : decode cX11_narrow 92 = .ok (.putfield 137, 3) := by decide +kernel
theorem dX11_narrow_95 : decode cX11_narrow 95 = .ok (.goto (-95), 3) := by decide +kernel
theorem dX11_narrow_98 : decode cX11_narrow 98 = .ok (.return_, 1) := by decide +kernel
theorem dX11_bit_0 : decode cX11_bit 0 = .ok (.aload_n 0, 1) := by decide +kernel
theorem dX11_bit_1 : decode cX11_bit 1 = .ok (.getfield 16, 3) := by decide +kernel
theorem dX11_bit_4 : decode cX11_bit 4 = .ok (.iload_n 2, 1) := by decide +kernel
theorem dX11_bit_5 : decode cX11_bit 5 = .ok (.iaload, 1) := by decide +kernel
theorem dX11_bit_6 : decode cX11_bit 6 = .ok (.aload_n 0, 1) := by decide +kernel
theorem dX11_bit_7 : decode cX11_bit 7 = .ok (.getfield 22, 3) := by decide +kernel
theorem dX11_bit_10 : decode cX11_bit 10 = .ok (.iload_n 1, 1) := by decide +kernel
theorem dX11_bit_11 : decode cX11_bit 11 = .ok (.iaload, 1) := by decide +kernel
theorem dX11_bit_12 : decode cX11_bit 12 = .ok (.imul, 1) := by decide +kernel
theorem dX11_bit_13 : decode cX11_bit 13 = .ok (.aload_n 0, 1) := by decide +kernel
theorem dX11_bit_14 : decode cX11_bit 14 = .ok (.getfield 19, 3) := by decide +kernel
theorem dX11_bit_17 : decode cX11_bit 17 = .ok (.iload_n 3, 1) := by decide +kernel
theorem dX11_bit_18 : decode cX11_bit 18 = .ok (.iaload, 1) := by decide +kernel
theorem dX11_bit_19 : decode cX11_bit 19 = .ok (.bipush 64, 2) := by decide +kernel
theorem dX11_bit_21 : decode cX11_bit 21 = .ok (.aload_n 0, 1) := by decide +kernel
theorem dX11_bit_22 : decode cX11_bit 22 = .ok (.getfield 22, 3) := by decide +kernel
theorem dX11_bit_25 : decode cX11_bit 25 = .ok (.iload_n 1, 1) := by decide +kernel
theorem dX11_bit_26 : decode cX11_bit 26 = .ok (.iaload, 1) := by decide +kernel
theorem dX11_bit_27 : decode cX11_bit 27 = .ok (.isub, 1) := by decide +kernel
theorem dX11_bit_28 : decode cX11_bit 28 = .ok (.imul, 1) := by decide +kernel
theorem dX11_bit_29 : decode cX11_bit 29 = .ok (.iadd, 1) := by decide +kernel
theorem dX11_bit_30 : decode cX11_bit 30 = .ok (.bipush 64, 2) := by decide +kernel
theorem dX11_bit_32 : decode cX11_bit 32 = .ok (.idiv, 1) := by decide +kernel
theorem dX11_bit_33 : decode cX11_bit 33 = .ok (.istore 5, 2) := by decide +kernel
theorem dX11_bit_35 : decode cX11_bit 35 = .ok (.iload 5, 2) := by decide +kernel
theorem dX11_bit_37 : decode cX11_bit 37 = .ok (.bipush 64, 2) := by decide +kernel
theorem dX11_bit_39 : decode cX11_bit 39 = .ok (.if_icmp .ge 8, 3) := by decide +kernel
theorem dX11_bit_42 : decode cX11_bit 42 = .ok (.bipush 64, 2) := by decide +kernel
theorem dX11_bit_44 : decode cX11_bit 44 = .ok (.goto 17, 3) := by decide +kernel
theorem dX11_bit_47 : decode cX11_bit 47 = .ok (.iload 5, 2) := by decide +kernel
theorem dX11_bit_49 : decode cX11_bit 49 = .ok (.ldc 159, 2) := by decide +kernel
theorem dX11_bit_51 : decode cX11_bit 51 = .ok (.if_icmp .le 8, 3) := by decide +kernel
theorem dX11_bit_54 : decode cX11_bit 54 = .ok (.ldc 159, 2) := by decide +kernel
theorem dX11_bit_56 : decode cX11_bit 56 = .ok (.goto 5, 3) := by decide +kernel
theorem dX11_bit_59 : decode cX11_bit 59 = .ok (.iload 5, 2) := by decide +kernel
theorem dX11_bit_61 : decode cX11_bit 61 = .ok (.istore 5, 2) := by decide +kernel
theorem dX11_bit_63 : decode cX11_bit 63 = .ok (.aload_n 0, 1) := by decide +kernel
theorem dX11_bit_64 : decode cX11_bit 64 = .ok (.getfield 133, 3) := by decide +kernel
theorem dX11_bit_67 : decode cX11_bit 67 = .ok (.aload_n 0, 1) := by decide +kernel
theorem dX11_bit_68 : decode cX11_bit 68 = .ok (.getfield 137, 3) := by decide +kernel
theorem dX11_bit_71 : decode cX11_bit 71 = .ok (.aload_n 0, 1) := by decide +kernel
theorem dX11_bit_72 : decode cX11_bit 72 = .ok (.getfield 133, 3) := by decide +kernel
theorem dX11_bit_75 : decode cX11_bit 75 = .ok (.lsub, 1) := by decide +kernel
theorem dX11_bit_76 : decode cX11_bit 76 = .ok (.iload 5, 2) := by decide +kernel
theorem dX11_bit_78 : decode cX11_bit 78 = .ok (.i2l, 1) := by decide +kernel
theorem dX11_bit_79 : decode cX11_bit 79 = .ok (.lmul, 1) := by decide +kernel
theorem dX11_bit_80 : decode cX11_bit 80 = .ok (.ldc2_w 160, 3) := by decide +kernel
theorem dX11_bit_83 : decode cX11_bit 83 = .ok (.ldiv, 1) := by decide +kernel
theorem dX11_bit_84 : decode cX11_bit 84 = .ok (.ladd, 1) := by decide +kernel
theorem dX11_bit_85 : decode cX11_bit 85 = .ok (.lstore 6, 2) := by decide +kernel
theorem dX11_bit_87 : decode cX11_bit 87 = .ok (.aload_n 0, 1) := by decide +kernel
theorem dX11_bit_88 : decode cX11_bit 88 = .ok (.getfield 140, 3) := by decide +kernel
theorem dX11_bit_91 : decode cX11_bit 91 = .ok (.ifCond .eq 8, 3) := by decide +kernel
theorem dX11_bit_94 : decode cX11_bit 94 = .ok (.iload 4, 2) := by decide +kernel
theorem dX11_bit_96 : decode cX11_bit 96 = .ok (.goto 18, 3) := by decide +kernel
theorem dX11_bit_99 : decode cX11_bit 99 = .ok (.aload_n 0, 1) := by decide +kernel
theorem dX11_bit_100 : decode cX11_bit 100 = .ok (.getfield 148, 3) := by decide +kernel
theorem dX11_bit_103 : decode cX11_bit 103 = .ok (.lload 6, 2) := by decide +kernel
theorem dX11_bit_105 : decode cX11_bit 105 = .ok (.lcmp, 1) := by decide +kernel
theorem dX11_bit_106 : decode cX11_bit 106 = .ok (.ifCond .gt 7, 3) := by decide +kernel
theorem dX11_bit_109 : decode cX11_bit 109 = .ok (.iconst 1, 1) := by decide +kernel
theorem dX11_bit_110 : decode cX11_bit 110 = .ok (.goto 4, 3) := by decide +kernel
theorem dX11_bit_113 : decode cX11_bit 113 = .ok (.iconst 0, 1) := by decide +kernel
theorem dX11_bit_114 : decode cX11_bit 114 = .ok (.istore 8, 2) := by decide +kernel
theorem dX11_bit_116 : decode cX11_bit 116 = .ok (.iload 8, 2) := by decide +kernel
theorem dX11_bit_118 : decode cX11_bit 118 = .ok (.iconst 1, 1) := by decide +kernel
theorem dX11_bit_119 : decode cX11_bit 119 = .ok (.if_icmp .ne 12, 3) := by decide +kernel
theorem dX11_bit_122 : decode cX11_bit 122 = .ok (.aload_n 0, 1) := by decide +kernel
theorem dX11_bit_123 : decode cX11_bit 123 = .ok (.lload 6, 2) := by decide +kernel
theorem dX11_bit_125 : decode cX11_bit 125 = .ok (.putfield 137, 3) := by decide +kernel
theorem dX11_bit_128 : decode cX11_bit 128 = .ok (.goto 11, 3) := by decide +kernel
theorem dX11_bit_131 : decode cX11_bit 131 = .ok (.aload_n 0, 1) := by decide +kernel
theorem dX11_bit_132 : decode cX11_bit 132 = .ok (.lload 6, 2) := by decide +kernel
theorem dX11_bit_134 : decode cX11_bit 134 = .ok (.lconst 1, 1) := by decide +kernel
theorem dX11_bit_135 : decode cX11_bit 135 = .ok (.ladd, 1) := by decide +kernel
theorem dX11_bit_136 : decode cX11_bit 136 = .ok (.putfield 133, 3) := by decide +kernel
theorem dX11_bit_139 : decode cX11_bit 139 = .ok (.aload_n 0, 1) := by decide +kernel
theorem dX11_bit_140 : decode cX11_bit 140 = .ok (.invokevirtual 162, 3) := by decide +kernel
theorem dX11_bit_143 : decode cX11_bit 143 = .ok (.aload_n 0, 1) := by decide +kernel
theorem dX11_bit_144 : decode cX11_bit 144 = .ok (.getfield 16, 3) := by decide +kernel
theorem dX11_bit_147 : decode cX11_bit 147 = .ok (.iload_n 2, 1) := by decide +kernel
theorem dX11_bit_148 : decode cX11_bit 148 = .ok (.iaload, 1) := by decide +kernel
theorem dX11_bit_149 : decode cX11_bit 149 = .ok (.aload_n 0, 1) := by decide +kernel
theorem dX11_bit_150 : decode cX11_bit 150 = .ok (.getfield 19, 3) := by decide +kernel
theorem dX11_bit_153 : decode cX11_bit 153 = .ok (.iload_n 3, 1) := by decide +kernel
theorem dX11_bit_154 : decode cX11_bit 154 = .ok (.iaload, 1) := by decide +kernel
theorem dX11_bit_155 : decode cX11_bit 155 = .ok (.if_icmp .le 7, 3) := by decide +kernel
theorem dX11_bit_158 : decode cX11_bit 158 = .ok (.iconst 1, 1) := by decide +kernel
theorem dX11_bit_159 : decode cX11_bit 159 = .ok (.goto 23, 3) := by decide +kernel
theorem dX11_bit_162 : decode cX11_bit 162 = .ok (.aload_n 0, 1) := by decide +kernel
theorem dX11_bit_163 : decode cX11_bit 163 = .ok (.getfield 16, 3) := by decide +kernel
theorem dX11_bit_166 : decode cX11_bit 166 = .ok (.iload_n 2, 1) := by decide +kernel
theorem dX11_bit_167 : decode cX11_bit 167 = .ok (.iaload, 1) := by decide +kernel
theorem dX11_bit_168 : decode cX11_bit 168 = .ok (.aload_n 0, 1) := by decide +kernel
theorem dX11_bit_169 : decode cX11_bit 169 = .ok (.getfield 19, 3) := by decide +kernel
theorem dX11_bit_172 : decode cX11_bit 172 = .ok (.iload_n 3, 1) := by decide +kernel
theorem dX11_bit_173 : decode cX11_bit 173 = .ok (.iaload, 1) := by decide +kernel
theorem dX11_bit_174 : decode cX11_bit 174 = .ok (.if_icmp .ge 7, 3) := by decide +kernel
theorem dX11_bit_177 : decode cX11_bit 177 = .ok (.iconst (-1), 1) := by decide +kernel
theorem dX11_bit_178 : decode cX11_bit 178 = .ok (.goto 4, 3) := by decide +kernel
theorem dX11_bit_181 : decode cX11_bit 181 = .ok (.iconst 0, 1) := by decide +kernel
theorem dX11_bit_182 : decode cX11_bit 182 = .ok (.istore 9, 2) := by decide +kernel
theorem dX11_bit_184 : decode cX11_bit 184 = .ok (.aload_n 0, 1) := by decide +kernel
theorem dX11_bit_185 : decode cX11_bit 185 = .ok (.getfield 22, 3) := by decide +kernel
theorem dX11_bit_188 : decode cX11_bit 188 = .ok (.iload_n 1, 1) := by decide +kernel
theorem dX11_bit_189 : decode cX11_bit 189 = .ok (.iaload, 1) := by decide +kernel
theorem dX11_bit_190 : decode cX11_bit 190 = .ok (.iload 8, 2) := by decide +kernel
theorem dX11_bit_192 : decode cX11_bit 192 = .ok (.iconst 1, 1) := by decide +kernel
theorem dX11_bit_193 : decode cX11_bit 193 = .ok (.if_icmp .ne 8, 3) := by decide +kernel
theorem dX11_bit_196 : decode cX11_bit 196 = .ok (.iload 9, 2) := by decide +kernel
theorem dX11_bit_198 : decode cX11_bit 198 = .ok (.goto 6, 3) := by decide +kernel
theorem dX11_bit_201 : decode cX11_bit 201 = .ok (.iload 9, 2) := by decide +kernel
theorem dX11_bit_203 : decode cX11_bit 203 = .ok (.ineg, 1) := by decide +kernel
theorem dX11_bit_204 : decode cX11_bit 204 = .ok (.iadd, 1) := by decide +kernel
theorem dX11_bit_205 : decode cX11_bit 205 = .ok (.istore 10, 2) := by decide +kernel
theorem dX11_bit_207 : decode cX11_bit 207 = .ok (.aload_n 0, 1) := by decide +kernel
theorem dX11_bit_208 : decode cX11_bit 208 = .ok (.getfield 22, 3) := by decide +kernel
theorem dX11_bit_211 : decode cX11_bit 211 = .ok (.iload_n 1, 1) := by decide +kernel
theorem dX11_bit_212 : decode cX11_bit 212 = .ok (.iload 10, 2) := by decide +kernel
theorem dX11_bit_214 : decode cX11_bit 214 = .ok (.bipush 63, 2) := by decide +kernel
theorem dX11_bit_216 : decode cX11_bit 216 = .ok (.if_icmp .le 8, 3) := by decide +kernel
theorem dX11_bit_219 : decode cX11_bit 219 = .ok (.bipush 63, 2) := by decide +kernel
theorem dX11_bit_221 : decode cX11_bit 221 = .ok (.goto 15, 3) := by decide +kernel
theorem dX11_bit_224 : decode cX11_bit 224 = .ok (.iload 10, 2) := by decide +kernel
theorem dX11_bit_226 : decode cX11_bit 226 = .ok (.iconst 1, 1) := by decide +kernel
theorem dX11_bit_227 : decode cX11_bit 227 = .ok (.if_icmp .ge 7, 3) := by decide +kernel
theorem dX11_bit_230 : decode cX11_bit 230 = .ok (.iconst 1, 1) := by decide +kernel
theorem dX11_bit_231 : decode cX11_bit 231 = .ok (.goto 5, 3) := by decide +kernel
theorem dX11_bit_234 : decode cX11_bit 234 = .ok (.iload 10, 2) := by decide +kernel
theorem dX11_bit_236 : decode cX11_bit 236 = .ok (.iastore, 1) := by decide +kernel
theorem dX11_bit_237 : decode cX11_bit 237 = .ok (.aload_n 0, 1) := by decide +kernel
theorem dX11_bit_238 : decode cX11_bit 238 = .ok (.getfield 16, 3) := by decide +kernel
theorem dX11_bit_241 : decode cX11_bit 241 = .ok (.iload_n 2, 1) := by decide +kernel
theorem dX11_bit_242 : decode cX11_bit 242 = .ok (.dup2, 1) := by decide +kernel
theorem dX11_bit_243 : decode cX11_bit 243 = .ok (.iaload, 1) := by decide +kernel
theorem dX11_bit_244 : decode cX11_bit 244 = .ok (.iload 8, 2) := by decide +kernel
theorem dX11_bit_246 : decode cX11_bit 246 = .ok (.iconst 1, 1) := by decide +kernel
theorem dX11_bit_247 : decode cX11_bit 247 = .ok (.if_icmp .ne 18, 3) := by decide +kernel
theorem dX11_bit_250 : decode cX11_bit 250 = .ok (.ldc 165, 2) := by decide +kernel
theorem dX11_bit_252 : decode cX11_bit 252 = .ok (.aload_n 0, 1) := by decide +kernel
theorem dX11_bit_253 : decode cX11_bit 253 = .ok (.getfield 16, 3) := by decide +kernel
theorem dX11_bit_256 : decode cX11_bit 256 = .ok (.iload_n 2, 1) := by decide +kernel
theorem dX11_bit_257 : decode cX11_bit 257 = .ok (.iaload, 1) := by decide +kernel
theorem dX11_bit_258 : decode cX11_bit 258 = .ok (.isub, 1) := by decide +kernel
theorem dX11_bit_259 : decode cX11_bit 259 = .ok (.bipush 16, 2) := by decide +kernel
theorem dX11_bit_261 : decode cX11_bit 261 = .ok (.idiv, 1) := by decide +kernel
theorem dX11_bit_262 : decode cX11_bit 262 = .ok (.goto 13, 3) := by decide +kernel
theorem dX11_bit_265 : decode cX11_bit 265 = .ok (.aload_n 0, 1) := by decide +kernel
theorem dX11_bit_266 : decode cX11_bit 266 = .ok (.getfield 16, 3) := by decide +kernel
theorem dX11_bit_269 : decode cX11_bit 269 = .ok (.iload_n 2, 1) := by decide +kernel
theorem dX11_bit_270 : decode cX11_bit 270 = .ok (.iaload, 1) := by decide +kernel
theorem dX11_bit_271 : decode cX11_bit 271 = .ok (.bipush 16, 2) := by decide +kernel
theorem dX11_bit_273 : decode cX11_bit 273 = .ok (.idiv, 1) := by decide +kernel
theorem dX11_bit_274 : decode cX11_bit 274 = .ok (.ineg, 1) := by decide +kernel
theorem dX11_bit_275 : decode cX11_bit 275 = .ok (.iadd, 1) := by decide +kernel
theorem dX11_bit_276 : decode cX11_bit 276 = .ok (.iastore, 1) := by decide +kernel
theorem dX11_bit_277 : decode cX11_bit 277 = .ok (.aload_n 0, 1) := by decide +kernel
theorem dX11_bit_278 : decode cX11_bit 278 = .ok (.getfield 19, 3) := by decide +kernel
theorem dX11_bit_281 : decode cX11_bit 281 = .ok (.iload_n 3, 1) := by decide +kernel
theorem dX11_bit_282 : decode cX11_bit 282 = .ok (.dup2, 1) := by decide +kernel
theorem dX11_bit_283 : decode cX11_bit 283 = .ok (.iaload, 1) := by decide +kernel
theorem dX11_bit_284 : decode cX11_bit 284 = .ok (.iload 8, 2) := by decide +kernel
theorem dX11_bit_286 : decode cX11_bit 286 = .ok (.iconst 1, 1) := by decide +kernel
theorem dX11_bit_287 : decode cX11_bit 287 = .ok (.if_icmp .ne 18, 3) := by decide +kernel
theorem dX11_bit_290 : decode cX11_bit 290 = .ok (.ldc 165, 2) := by decide +kernel
theorem dX11_bit_292 : decode cX11_bit 292 = .ok (.aload_n 0, 1) := by decide +kernel
theorem dX11_bit_293 : decode cX11_bit 293 = .ok (.getfield 19, 3) := by decide +kernel
theorem dX11_bit_296 : decode cX11_bit 296 = .ok (.iload_n 3, 1) := by decide +kernel
theorem dX11_bit_297 : decode cX11_bit 297 = .ok (.iaload, 1) := by decide +kernel
theorem dX11_bit_298 : decode cX11_bit 298 = .ok (.isub, 1) := by decide +kernel
theorem dX11_bit_299 : decode cX11_bit 299 = .ok (.bipush 32, 2) := by decide +kernel
theorem dX11_bit_301 : decode cX11_bit 301 = .ok (.idiv, 1) := by decide +kernel
theorem dX11_bit_302 : decode cX11_bit 302 = .ok (.goto 13, 3) := by decide +kernel
theorem dX11_bit_305 : decode cX11_bit 305 = .ok (.aload_n 0, 1) := by decide +kernel
theorem dX11_bit_306 : decode cX11_bit 306 = .ok (.getfield 19, 3) := by decide +kernel
theorem dX11_bit_309 : decode cX11_bit 309 = .ok (.iload_n 3, 1) := by decide +kernel
theorem dX11_bit_310 : decode cX11_bit 310 = .ok (.iaload, 1) := by decide +kernel
theorem dX11_bit_311 : decode cX11_bit 311 = .ok (.bipush 32, 2) := by decide +kernel
theorem dX11_bit_313 : decode cX11_bit 313 = .ok (.idiv, 1) := by decide +kernel
theorem dX11_bit_314 : decode cX11_bit 314 = .ok (.ineg, 1) := by decide +kernel
theorem dX11_bit_315 : decode cX11_bit 315 = .ok (.iadd, 1) := by decide +kernel
theorem dX11_bit_316 : decode cX11_bit 316 = .ok (.iastore, 1) := by decide +kernel
theorem dX11_bit_317 : decode cX11_bit 317 = .ok (.iload 8, 2) := by decide +kernel
theorem dX11_bit_319 : decode cX11_bit 319 = .ok (.ireturn, 1) := by decide +kernel
theorem dX11_lesser_0 : decode cX11_lesser 0 = .ok (.iload_n 0, 1) := by decide +kernel
theorem dX11_lesser_1 : decode cX11_lesser 1 = .ok (.iload_n 1, 1) := by decide +kernel
theorem dX11_lesser_2 : decode cX11_lesser 2 = .ok (.if_icmp .ge 7, 3) := by decide +kernel
theorem dX11_lesser_5 : decode cX11_lesser 5 = .ok (.iload_n 0, 1) := by decide +kernel
theorem dX11_lesser_6 : decode cX11_lesser 6 = .ok (.goto 4, 3) := by decide +kernel
theorem dX11_lesser_9 : decode cX11_lesser 9 = .ok (.iload_n 1, 1) := by decide +kernel
theorem dX11_lesser_10 : decode cX11_lesser 10 = .ok (.ireturn, 1) := by decide +kernel
theorem dX11_off_0 : decode cX11_off 0 = .ok (.iload_n 0, 1) := by decide +kernel
theorem dX11_off_1 : decode cX11_off 1 = .ok (.iload_n 1, 1) := by decide +kernel
theorem dX11_off_2 : decode cX11_off 2 = .ok (.if_icmp .ge 9, 3) := by decide +kernel
theorem dX11_off_5 : decode cX11_off 5 = .ok (.iload_n 1, 1) := by decide +kernel
theorem dX11_off_6 : decode cX11_off 6 = .ok (.iload_n 0, 1) := by decide +kernel
theorem dX11_off_7 : decode cX11_off 7 = .ok (.isub, 1) := by decide +kernel
theorem dX11_off_8 : decode cX11_off 8 = .ok (.goto 6, 3) := by decide +kernel
theorem dX11_off_11 : decode cX11_off 11 = .ok (.iload_n 0, 1) := by decide +kernel
theorem dX11_off_12 : decode cX11_off 12 = .ok (.iload_n 1, 1) := by decide +kernel
theorem dX11_off_13 : decode cX11_off 13 = .ok (.isub, 1) := by decide +kernel
theorem dX11_off_14 : decode cX11_off 14 = .ok (.ireturn, 1) := by decide +kernel
theorem dX11_sample_0 : decode cX11_sample 0 = .ok (.aload_n 0, 1) := by decide +kernel
theorem dX11_sample_1 : decode cX11_sample 1 = .ok (.iload_n 1, 1) := by decide +kernel
theorem dX11_sample_2 : decode cX11_sample 2 = .ok (.iload_n 2, 1) := by decide +kernel
theorem dX11_sample_3 : decode cX11_sample 3 = .ok (.iload_n 3, 1) := by decide +kernel
theorem dX11_sample_4 : decode cX11_sample 4 = .ok (.invokevirtual 166, 3) := by decide +kernel
theorem dX11_sample_7 : decode cX11_sample 7 = .ok (.aload_n 0, 1) := by decide +kernel
theorem dX11_sample_8 : decode cX11_sample 8 = .ok (.getfield 7, 3) := by decide +kernel
theorem dX11_sample_11 : decode cX11_sample 11 = .ok (.iload_n 1, 1) := by decide +kernel
theorem dX11_sample_12 : decode cX11_sample 12 = .ok (.iload_n 2, 1) := by decide +kernel
theorem dX11_sample_13 : decode cX11_sample 13 = .ok (.iload_n 3, 1) := by decide +kernel
theorem dX11_sample_14 : decode cX11_sample 14 = .ok (.invokestatic 104, 3) := by decide +kernel
theorem dX11_sample_17 : decode cX11_sample 17 = .ok (.iaload, 1) := by decide +kernel
theorem dX11_sample_18 : decode cX11_sample 18 = .ok (.istore 4, 2) := by decide +kernel
theorem dX11_sample_20 : decode cX11_sample 20 = .ok (.iload 4, 2) := by decide +kernel
theorem dX11_sample_22 : decode cX11_sample 22 = .ok (.aload_n 0, 1) := by decide +kernel
theorem dX11_sample_23 : decode cX11_sample 23 = .ok (.getfield 120, 3) := by decide +kernel
theorem dX11_sample_26 : decode cX11_sample 26 = .ok (.isub, 1) := by decide +kernel
theorem dX11_sample_27 : decode cX11_sample 27 = .ok (.aload_n 0, 1) := by decide +kernel
theorem dX11_sample_28 : decode cX11_sample 28 = .ok (.getfield 76, 3) := by decide +kernel
theorem dX11_sample_31 : decode cX11_sample 31 = .ok (.iconst 1, 1) := by decide +kernel
theorem dX11_sample_32 : decode cX11_sample 32 = .ok (.isub, 1) := by decide +kernel
theorem dX11_sample_33 : decode cX11_sample 33 = .ok (.iand, 1) := by decide +kernel
theorem dX11_sample_34 : decode cX11_sample 34 = .ok (.istore 5, 2) := by decide +kernel
theorem dX11_sample_36 : decode cX11_sample 36 = .ok (.iload 5, 2) := by decide +kernel
theorem dX11_sample_38 : decode cX11_sample 38 = .ok (.aload_n 0, 1) := by decide +kernel
theorem dX11_sample_39 : decode cX11_sample 39 = .ok (.getfield 73, 3) := by decide +kernel
theorem dX11_sample_42 : decode cX11_sample 42 = .ok (.if_icmp .ge 10, 3) := by decide +kernel
theorem dX11_sample_45 : decode cX11_sample 45 = .ok (.iconst 2, 1) := by decide +kernel
theorem dX11_sample_46 : decode cX11_sample 46 = .ok (.iload 5, 2) := by decide +kernel
theorem dX11_sample_48 : decode cX11_sample 48 = .ok (.imul, 1) := by decide +kernel
theorem dX11_sample_49 : decode cX11_sample 49 = .ok (.goto 14, 3) := by decide +kernel
theorem dX11_sample_52 : decode cX11_sample 52 = .ok (.iconst 2, 1) := by decide +kernel
theorem dX11_sample_53 : decode cX11_sample 53 = .ok (.aload_n 0, 1) := by decide +kernel
theorem dX11_sample_54 : decode cX11_sample 54 = .ok (.getfield 76, 3) := by decide +kernel
theorem dX11_sample_57 : decode cX11_sample 57 = .ok (.iload 5, 2) := by decide +kernel
theorem dX11_sample_59 : decode cX11_sample 59 = .ok (.isub, 1) := by decide +kernel
theorem dX11_sample_60 : decode cX11_sample 60 = .ok (.imul, 1) := by decide +kernel
theorem dX11_sample_61 : decode cX11_sample 61 = .ok (.iconst 1, 1) := by decide +kernel
theorem dX11_sample_62 : decode cX11_sample 62 = .ok (.isub, 1) := by decide +kernel
theorem dX11_sample_63 : decode cX11_sample 63 = .ok (.istore 6, 2) := by decide +kernel
theorem dX11_sample_65 : decode cX11_sample 65 = .ok (.aload_n 0, 1) := by decide +kernel
theorem dX11_sample_66 : decode cX11_sample 66 = .ok (.iload_n 1, 1) := by decide +kernel
theorem dX11_sample_67 : decode cX11_sample 67 = .ok (.iload_n 2, 1) := by decide +kernel
theorem dX11_sample_68 : decode cX11_sample 68 = .ok (.iload_n 3, 1) := by decide +kernel
theorem dX11_sample_69 : decode cX11_sample 69 = .ok (.iconst (-1), 1) := by decide +kernel
theorem dX11_sample_70 : decode cX11_sample 70 = .ok (.iconst 0, 1) := by decide +kernel
theorem dX11_sample_71 : decode cX11_sample 71 = .ok (.invokevirtual 108, 3) := by decide +kernel
theorem dX11_sample_74 : decode cX11_sample 74 = .ok (.istore 7, 2) := by decide +kernel
theorem dX11_sample_76 : decode cX11_sample 76 = .ok (.aload_n 0, 1) := by decide +kernel
theorem dX11_sample_77 : decode cX11_sample 77 = .ok (.iload_n 1, 1) := by decide +kernel
theorem dX11_sample_78 : decode cX11_sample 78 = .ok (.iload_n 2, 1) := by decide +kernel
theorem dX11_sample_79 : decode cX11_sample 79 = .ok (.iload_n 3, 1) := by decide +kernel
theorem dX11_sample_80 : decode cX11_sample 80 = .ok (.iconst 0, 1) := by decide +kernel
theorem dX11_sample_81 : decode cX11_sample 81 = .ok (.iconst (-1), 1) := by decide +kernel
theorem dX11_sample_82 : decode cX11_sample 82 = .ok (.invokevirtual 108, 3) := by decide +kernel
theorem dX11_sample_85 : decode cX11_sample 85 = .ok (.istore 8, 2) := by decide +kernel
theorem dX11_sample_87 : decode cX11_sample 87 = .ok (.aload_n 0, 1) := by decide +kernel
theorem dX11_sample_88 : decode cX11_sample 88 = .ok (.iload_n 1, 1) := by decide +kernel
theorem dX11_sample_89 : decode cX11_sample 89 = .ok (.iload_n 2, 1) := by decide +kernel
theorem dX11_sample_90 : decode cX11_sample 90 = .ok (.iload_n 3, 1) := by decide +kernel
theorem dX11_sample_91 : decode cX11_sample 91 = .ok (.iconst (-1), 1) := by decide +kernel
theorem dX11_sample_92 : decode cX11_sample 92 = .ok (.iconst (-1), 1) := by decide +kernel
theorem dX11_sample_93 : decode cX11_sample 93 = .ok (.invokevirtual 108, 3) := by decide +kernel
theorem dX11_sample_96 : decode cX11_sample 96 = .ok (.istore 9, 2) := by decide +kernel
theorem dX11_sample_98 : decode cX11_sample 98 = .ok (.iconst 3, 1) := by decide +kernel
theorem dX11_sample_99 : decode cX11_sample 99 = .ok (.iload 7, 2) := by decide +kernel
theorem dX11_sample_101 : decode cX11_sample 101 = .ok (.iload 9, 2) := by decide +kernel
theorem dX11_sample_103 : decode cX11_sample 103 = .ok (.invokestatic 170, 3) := by decide +kernel
theorem dX11_sample_106 : decode cX11_sample 106 = .ok (.iload 8, 2) := by decide +kernel
theorem dX11_sample_108 : decode cX11_sample 108 = .ok (.iload 9, 2) := by decide +kernel
theorem dX11_sample_110 : decode cX11_sample 110 = .ok (.invokestatic 170, 3) := by decide +kernel
theorem dX11_sample_113 : decode cX11_sample 113 = .ok (.iadd, 1) := by decide +kernel
theorem dX11_sample_114 : decode cX11_sample 114 = .ok (.iconst 4, 1) := by decide +kernel
theorem dX11_sample_115 : decode cX11_sample 115 = .ok (.idiv, 1) := by decide +kernel
theorem dX11_sample_116 : decode cX11_sample 116 = .ok (.invokestatic 173, 3) := by decide +kernel
theorem dX11_sample_119 : decode cX11_sample 119 = .ok (.istore 10, 2) := by decide +kernel
theorem dX11_sample_121 : decode cX11_sample 121 = .ok (.iconst 3, 1) := by decide +kernel
theorem dX11_sample_122 : decode cX11_sample 122 = .ok (.aload_n 0, 1) := by decide +kernel
theorem dX11_sample_123 : decode cX11_sample 123 = .ok (.getfield 25, 3) := by decide +kernel
theorem dX11_sample_126 : decode cX11_sample 126 = .ok (.iload_n 3, 1) := by decide +kernel
theorem dX11_sample_127 : decode cX11_sample 127 = .ok (.iaload, 1) := by decide +kernel
theorem dX11_sample_128 : decode cX11_sample 128 = .ok (.iconst 2, 1) := by decide +kernel
theorem dX11_sample_129 : decode cX11_sample 129 = .ok (.idiv, 1) := by decide +kernel
theorem dX11_sample_130 : decode cX11_sample 130 = .ok (.invokestatic 173, 3) := by decide +kernel
theorem dX11_sample_133 : decode cX11_sample 133 = .ok (.istore 11, 2) := by decide +kernel
theorem dX11_sample_135 : decode cX11_sample 135 = .ok (.iconst 1, 1) := by decide +kernel
theorem dX11_sample_136 : decode cX11_sample 136 = .ok (.istore 12, 2) := by decide +kernel
theorem dX11_sample_138 : decode cX11_sample 138 = .ok (.aload_n 0, 1) := by decide +kernel
theorem dX11_sample_139 : decode cX11_sample 139 = .ok (.getfield 67, 3) := by decide +kernel
theorem dX11_sample_142 : decode cX11_sample 142 = .ok (.iconst 1, 1) := by decide +kernel
theorem dX11_sample_143 : decode cX11_sample 143 = .ok (.isub, 1) := by decide +kernel
theorem dX11_sample_144 : decode cX11_sample 144 = .ok (.istore 13, 2) := by decide +kernel
theorem dX11_sample_146 : decode cX11_sample 146 = .ok (.iload 13, 2) := by decide +kernel
theorem dX11_sample_148 : decode cX11_sample 148 = .ok (.ifCond .lt 62, 3) := by decide +kernel
theorem dX11_sample_151 : decode cX11_sample 151 = .ok (.sipush 256, 3) := by decide +kernel
theorem dX11_sample_154 : decode cX11_sample 154 = .ok (.iconst 4, 1) := by decide +kernel
theorem dX11_sample_155 : decode cX11_sample 155 = .ok (.iload_n 3, 1) := by decide +kernel
theorem dX11_sample_156 : decode cX11_sample 156 = .ok (.imul, 1) := by decide +kernel
theorem dX11_sample_157 : decode cX11_sample 157 = .ok (.iload 10, 2) := by decide +kernel
theorem dX11_sample_159 : decode cX11_sample 159 = .ok (.iadd, 1) := by decide +kernel
theorem dX11_sample_160 : decode cX11_sample 160 = .ok (.imul, 1) := by decide +kernel
theorem dX11_sample_161 : decode cX11_sample 161 = .ok (.iload 12, 2) := by decide +kernel
theorem dX11_sample_163 : decode cX11_sample 163 = .ok (.iadd, 1) := by decide +kernel
theorem dX11_sample_164 : decode cX11_sample 164 = .ok (.istore 14, 2) := by decide +kernel
theorem dX11_sample_166 : decode cX11_sample 166 = .ok (.sipush 256, 3) := by decide +kernel
theorem dX11_sample_169 : decode cX11_sample 169 = .ok (.iconst 4, 1) := by decide +kernel
theorem dX11_sample_170 : decode cX11_sample 170 = .ok (.iload_n 3, 1) := by decide +kernel
theorem dX11_sample_171 : decode cX11_sample 171 = .ok (.imul, 1) := by decide +kernel
theorem dX11_sample_172 : decode cX11_sample 172 = .ok (.iload 11, 2) := by decide +kernel
theorem dX11_sample_174 : decode cX11_sample 174 = .ok (.iadd, 1) := by decide +kernel
theorem dX11_sample_175 : decode cX11_sample 175 = .ok (.imul, 1) := by decide +kernel
theorem dX11_sample_176 : decode cX11_sample 176 = .ok (.iload 12, 2) := by decide +kernel
theorem dX11_sample_178 : decode cX11_sample 178 = .ok (.iadd, 1) := by decide +kernel
theorem dX11_sample_179 : decode cX11_sample 179 = .ok (.istore 15, 2) := by decide +kernel
theorem dX11_sample_181 : decode cX11_sample 181 = .ok (.iconst 2, 1) := by decide +kernel
theorem dX11_sample_182 : decode cX11_sample 182 = .ok (.iload 12, 2) := by decide +kernel
theorem dX11_sample_184 : decode cX11_sample 184 = .ok (.imul, 1) := by decide +kernel
theorem dX11_sample_185 : decode cX11_sample 185 = .ok (.aload_n 0, 1) := by decide +kernel
theorem dX11_sample_186 : decode cX11_sample 186 = .ok (.iload_n 3, 1) := by decide +kernel
theorem dX11_sample_187 : decode cX11_sample 187 = .ok (.iload 14, 2) := by decide +kernel
theorem dX11_sample_189 : decode cX11_sample 189 = .ok (.iload 15, 2) := by decide +kernel
theorem dX11_sample_191 : decode cX11_sample 191 = .ok (.iload 6, 2) := by decide +kernel
theorem dX11_sample_193 : decode cX11_sample 193 = .ok (.iload 13, 2) := by decide +kernel
theorem dX11_sample_195 : decode cX11_sample 195 = .ok (.ishr, 1) := by decide +kernel
theorem dX11_sample_196 : decode cX11_sample 196 = .ok (.iconst 1, 1) := by decide +kernel
theorem dX11_sample_197 : decode cX11_sample 197 = .ok (.iand, 1) := by decide +kernel
theorem dX11_sample_198 : decode cX11_sample 198 = .ok (.invokevirtual 176, 3) := by decide +kernel
theorem dX11_sample_201 : decode cX11_sample 201 = .ok (.iadd, 1) := by decide +kernel
theorem dX11_sample_202 : decode cX11_sample 202 = .ok (.istore 12, 2) := by decide +kernel
theorem dX11_sample_204 : decode cX11_sample 204 = .ok (.iinc 13 (-1), 3) := by decide +kernel
theorem dX11_sample_207 : decode cX11_sample 207 = .ok (.goto (-61), 3) := by decide +kernel
theorem dX11_sample_210 : decode cX11_sample 210 = .ok (.iload 12, 2) := by decide +kernel
theorem dX11_sample_212 : decode cX11_sample 212 = .ok (.aload_n 0, 1) := by decide +kernel
theorem dX11_sample_213 : decode cX11_sample 213 = .ok (.getfield 76, 3) := by decide +kernel
theorem dX11_sample_216 : decode cX11_sample 216 = .ok (.isub, 1) := by decide +kernel
theorem dX11_sample_217 : decode cX11_sample 217 = .ok (.istore 6, 2) := by decide +kernel
theorem dX11_sample_219 : decode cX11_sample 219 = .ok (.iload 6, 2) := by decide +kernel
theorem dX11_sample_221 : decode cX11_sample 221 = .ok (.iconst 1, 1) := by decide +kernel
theorem dX11_sample_222 : decode cX11_sample 222 = .ok (.iand, 1) := by decide +kernel
theorem dX11_sample_223 : decode cX11_sample 223 = .ok (.ifCond .ne 10, 3) := by decide +kernel
theorem dX11_sample_226 : decode cX11_sample 226 = .ok (.iload 6, 2) := by decide +kernel
theorem dX11_sample_228 : decode cX11_sample 228 = .ok (.iconst 2, 1) := by decide +kernel
theorem dX11_sample_229 : decode cX11_sample 229 = .ok (.idiv, 1) := by decide +kernel
theorem dX11_sample_230 : decode cX11_sample 230 = .ok (.goto 14, 3) := by decide +kernel
theorem dX11_sample_233 : decode cX11_sample 233 = .ok (.aload_n 0, 1) := by decide +kernel
theorem dX11_sample_234 : decode cX11_sample 234 = .ok (.getfield 76, 3) := by decide +kernel
theorem dX11_sample_237 : decode cX11_sample 237 = .ok (.iload 6, 2) := by decide +kernel
theorem dX11_sample_239 : decode cX11_sample 239 = .ok (.iconst 1, 1) := by decide +kernel
theorem dX11_sample_240 : decode cX11_sample 240 = .ok (.iadd, 1) := by decide +kernel
theorem dX11_sample_241 : decode cX11_sample 241 = .ok (.iconst 2, 1) := by decide +kernel
theorem dX11_sample_242 : decode cX11_sample 242 = .ok (.idiv, 1) := by decide +kernel
theorem dX11_sample_243 : decode cX11_sample 243 = .ok (.isub, 1) := by decide +kernel
theorem dX11_sample_244 : decode cX11_sample 244 = .ok (.istore 5, 2) := by decide +kernel
theorem dX11_sample_246 : decode cX11_sample 246 = .ok (.aload_n 0, 1) := by decide +kernel
theorem dX11_sample_247 : decode cX11_sample 247 = .ok (.getfield 120, 3) := by decide +kernel
theorem dX11_sample_250 : decode cX11_sample 250 = .ok (.iload 5, 2) := by decide +kernel
theorem dX11_sample_252 : decode cX11_sample 252 = .ok (.iadd, 1) := by decide +kernel
theorem dX11_sample_253 : decode cX11_sample 253 = .ok (.aload_n 0, 1) := by decide +kernel
theorem dX11_sample_254 : decode cX11_sample 254 = .ok (.getfield 76, 3) := by decide +kernel
theorem dX11_sample_257 : decode cX11_sample 257 = .ok (.iconst 1, 1) := by decide +kernel
theorem dX11_sample_258 : decode cX11_sample 258 = .ok (.isub, 1) := by decide +kernel
theorem dX11_sample_259 : decode cX11_sample 259 = .ok (.iand, 1) := by decide +kernel
theorem dX11_sample_260 : decode cX11_sample 260 = .ok (.istore 4, 2) := by decide +kernel
theorem dX11_sample_262 : decode cX11_sample 262 = .ok (.aload_n 0, 1) := by decide +kernel
theorem dX11_sample_263 : decode cX11_sample 263 = .ok (.getfield 7, 3) := by decide +kernel
theorem dX11_sample_266 : decode cX11_sample 266 = .ok (.iload_n 1, 1) := by decide +kernel
theorem dX11_sample_267 : decode cX11_sample 267 = .ok (.iload_n 2, 1) := by decide +kernel
theorem dX11_sample_268 : decode cX11_sample 268 = .ok (.iload_n 3, 1) := by decide +kernel
theorem dX11_sample_269 : decode cX11_sample 269 = .ok (.invokestatic 104, 3) := by decide +kernel
theorem dX11_sample_272 : decode cX11_sample 272 = .ok (.iload 4, 2) := by decide +kernel
theorem dX11_sample_274 : decode cX11_sample 274 = .ok (.iastore, 1) := by decide +kernel
theorem dX11_sample_275 : decode cX11_sample 275 = .ok (.aload_n 0, 1) := by decide +kernel
theorem dX11_sample_276 : decode cX11_sample 276 = .ok (.getfield 25, 3) := by decide +kernel
theorem dX11_sample_279 : decode cX11_sample 279 = .ok (.iload_n 3, 1) := by decide +kernel
theorem dX11_sample_280 : decode cX11_sample 280 = .ok (.iload 6, 2) := by decide +kernel
theorem dX11_sample_282 : decode cX11_sample 282 = .ok (.iastore, 1) := by decide +kernel
theorem dX11_sample_283 : decode cX11_sample 283 = .ok (.aload_n 0, 1) := by decide +kernel
theorem dX11_sample_284 : decode cX11_sample 284 = .ok (.iload 4, 2) := by decide +kernel
theorem dX11_sample_286 : decode cX11_sample 286 = .ok (.invokevirtual 179, 3) := by decide +kernel
theorem dX11_sample_289 : decode cX11_sample 289 = .ok (.return_, 1) := by decide +kernel
theorem dX11_across_0 : decode cX11_across 0 = .ok (.aload_n 0, 1) := by decide +kernel
theorem dX11_across_1 : decode cX11_across 1 = .ok (.getfield 60, 3) := by decide +kernel
theorem dX11_across_4 : decode cX11_across 4 = .ok (.bipush 8, 2) := by decide +kernel
theorem dX11_across_6 : decode cX11_across 6 = .ok (.iadd, 1) := by decide +kernel
theorem dX11_across_7 : decode cX11_across 7 = .ok (.iconst 1, 1) := by decide +kernel
theorem dX11_across_8 : decode cX11_across 8 = .ok (.isub, 1) := by decide +kernel
theorem dX11_across_9 : decode cX11_across 9 = .ok (.bipush 8, 2) := by decide +kernel
theorem dX11_across_11 : decode cX11_across 11 = .ok (.idiv, 1) := by decide +kernel
theorem dX11_across_12 : decode cX11_across 12 = .ok (.ireturn, 1) := by decide +kernel
theorem dX11_tiles_0 : decode cX11_tiles 0 = .ok (.aload_n 0, 1) := by decide +kernel
theorem dX11_tiles_1 : decode cX11_tiles 1 = .ok (.invokevirtual 182, 3) := by decide +kernel
theorem dX11_tiles_4 : decode cX11_tiles 4 = .ok (.aload_n 0, 1) := by decide +kernel
theorem dX11_tiles_5 : decode cX11_tiles 5 = .ok (.getfield 64, 3) := by decide +kernel
theorem dX11_tiles_8 : decode cX11_tiles 8 = .ok (.bipush 8, 2) := by decide +kernel
theorem dX11_tiles_10 : decode cX11_tiles 10 = .ok (.iadd, 1) := by decide +kernel
theorem dX11_tiles_11 : decode cX11_tiles 11 = .ok (.iconst 1, 1) := by decide +kernel
theorem dX11_tiles_12 : decode cX11_tiles 12 = .ok (.isub, 1) := by decide +kernel
theorem dX11_tiles_13 : decode cX11_tiles 13 = .ok (.bipush 8, 2) := by decide +kernel
theorem dX11_tiles_15 : decode cX11_tiles 15 = .ok (.idiv, 1) := by decide +kernel
theorem dX11_tiles_16 : decode cX11_tiles 16 = .ok (.imul, 1) := by decide +kernel
theorem dX11_tiles_17 : decode cX11_tiles 17 = .ok (.ireturn, 1) := by decide +kernel
theorem dX11_rightOf_0 : decode cX11_rightOf 0 = .ok (.aload_n 0, 1) := by decide +kernel
theorem dX11_rightOf_1 : decode cX11_rightOf 1 = .ok (.getfield 60, 3) := by decide +kernel
theorem dX11_rightOf_4 : decode cX11_rightOf 4 = .ok (.iload_n 1, 1) := by decide +kernel
theorem dX11_rightOf_5 : decode cX11_rightOf 5 = .ok (.aload_n 0, 1) := by decide +kernel
theorem dX11_rightOf_6 : decode cX11_rightOf 6 = .ok (.invokevirtual 182, 3) := by decide +kernel
theorem dX11_rightOf_9 : decode cX11_rightOf 9 = .ok (.irem, 1) := by decide +kernel
theorem dX11_rightOf_10 : decode cX11_rightOf 10 = .ok (.bipush 8, 2) := by decide +kernel
theorem dX11_rightOf_12 : decode cX11_rightOf 12 = .ok (.imul, 1) := by decide +kernel
theorem dX11_rightOf_13 : decode cX11_rightOf 13 = .ok (.bipush 8, 2) := by decide +kernel
theorem dX11_rightOf_15 : decode cX11_rightOf 15 = .ok (.iadd, 1) := by decide +kernel
theorem dX11_rightOf_16 : decode cX11_rightOf 16 = .ok (.invokestatic 173, 3) := by decide +kernel
theorem dX11_rightOf_19 : decode cX11_rightOf 19 = .ok (.ireturn, 1) := by decide +kernel
theorem dX11_lowerOf_0 : decode cX11_lowerOf 0 = .ok (.aload_n 0, 1) := by decide +kernel
theorem dX11_lowerOf_1 : decode cX11_lowerOf 1 = .ok (.getfield 64, 3) := by decide +kernel
theorem dX11_lowerOf_4 : decode cX11_lowerOf 4 = .ok (.iload_n 1, 1) := by decide +kernel
theorem dX11_lowerOf_5 : decode cX11_lowerOf 5 = .ok (.aload_n 0, 1) := by decide +kernel
theorem dX11_lowerOf_6 : decode cX11_lowerOf 6 = .ok (.invokevirtual 182, 3) := by decide +kernel
theorem dX11_lowerOf_9 : decode cX11_lowerOf 9 = .ok (.idiv, 1) := by decide +kernel
theorem dX11_lowerOf_10 : decode cX11_lowerOf 10 = .ok (.bipush 8, 2) := by decide +kernel
theorem dX11_lowerOf_12 : decode cX11_lowerOf 12 = .ok (.imul, 1) := by decide +kernel
theorem dX11_lowerOf_13 : decode cX11_lowerOf 13 = .ok (.bipush 8, 2) := by decide +kernel
theorem dX11_lowerOf_15 : decode cX11_lowerOf 15 = .ok (.iadd, 1) := by decide +kernel
theorem dX11_lowerOf_16 : decode cX11_lowerOf 16 = .ok (.invokestatic 173, 3) := by decide +kernel
theorem dX11_lowerOf_19 : decode cX11_lowerOf 19 = .ok (.ireturn, 1) := by decide +kernel
theorem dX11_samplesOf_0 : decode cX11_samplesOf 0 = .ok (.aload_n 0, 1) := by decide +kernel
theorem dX11_samplesOf_1 : decode cX11_samplesOf 1 = .ok (.iload_n 1, 1) := by decide +kernel
theorem dX11_samplesOf_2 : decode cX11_samplesOf 2 = .ok (.invokevirtual 185, 3) := by decide +kernel
theorem dX11_samplesOf_5 : decode cX11_samplesOf 5 = .ok (.iload_n 1, 1) := by decide +kernel
theorem dX11_samplesOf_6 : decode cX11_samplesOf 6 = .ok (.aload_n 0, 1) := by decide +kernel
theorem dX11_samplesOf_7 : decode cX11_samplesOf 7 = .ok (.invokevirtual 182, 3) := by decide +kernel
theorem dX11_samplesOf_10 : decode cX11_samplesOf 10 = .ok (.irem, 1) := by decide +kernel
theorem dX11_samplesOf_11 : decode cX11_samplesOf 11 = .ok (.bipush 8, 2) := by decide +kernel
theorem dX11_samplesOf_13 : decode cX11_samplesOf 13 = .ok (.imul, 1) := by decide +kernel
theorem dX11_samplesOf_14 : decode cX11_samplesOf 14 = .ok (.isub, 1) := by decide +kernel
theorem dX11_samplesOf_15 : decode cX11_samplesOf 15 = .ok (.aload_n 0, 1) := by decide +kernel
theorem dX11_samplesOf_16 : decode cX11_samplesOf 16 = .ok (.iload_n 1, 1) := by decide +kernel
theorem dX11_samplesOf_17 : decode cX11_samplesOf 17 = .ok (.invokevirtual 188, 3) := by decide +kernel
theorem dX11_samplesOf_20 : decode cX11_samplesOf 20 = .ok (.iload_n 1, 1) := by decide +kernel
theorem dX11_samplesOf_21 : decode cX11_samplesOf 21 = .ok (.aload_n 0, 1) := by decide +kernel
theorem dX11_samplesOf_22 : decode cX11_samplesOf 22 = .ok (.invokevirtual 182, 3) := by decide +kernel
theorem dX11_samplesOf_25 : decode cX11_samplesOf 25 = .ok (.idiv, 1) := by decide +kernel
theorem dX11_samplesOf_26 : decode cX11_samplesOf 26 = .ok (.bipush 8, 2) := by decide +kernel
theorem dX11_samplesOf_28 : decode cX11_samplesOf 28 = .ok (.imul, 1) := by decide +kernel
theorem dX11_samplesOf_29 : decode cX11_samplesOf 29 = .ok (.isub, 1) := by decide +kernel
theorem dX11_samplesOf_30 : decode cX11_samplesOf 30 = .ok (.imul, 1) := by decide +kernel
theorem dX11_samplesOf_31 : decode cX11_samplesOf 31 = .ok (.aload_n 0, 1) := by decide +kernel
theorem dX11_samplesOf_32 : decode cX11_samplesOf 32 = .ok (.getfield 70, 3) := by decide +kernel
theorem dX11_samplesOf_35 : decode cX11_samplesOf 35 = .ok (.imul, 1) := by decide +kernel
theorem dX11_samplesOf_36 : decode cX11_samplesOf 36 = .ok (.ireturn, 1) := by decide +kernel
theorem dX11_walk_0 : decode cX11_walk 0 = .ok (.aload_n 0, 1) := by decide +kernel
theorem dX11_walk_1 : decode cX11_walk 1 = .ok (.invokevirtual 85, 3) := by decide +kernel
theorem dX11_walk_4 : decode cX11_walk 4 = .ok (.aload_n 0, 1) := by decide +kernel
theorem dX11_walk_5 : decode cX11_walk 5 = .ok (.lconst 0, 1) := by decide +kernel
theorem dX11_walk_6 : decode cX11_walk 6 = .ok (.putfield 133, 3) := by decide +kernel
theorem dX11_walk_9 : decode cX11_walk 9 = .ok (.aload_n 0, 1) := by decide +kernel
theorem dX11_walk_10 : decode cX11_walk 10 = .ok (.ldc2_w 151, 3) := by decide +kernel
theorem dX11_walk_13 : decode cX11_walk 13 = .ok (.putfield 137, 3) := by decide +kernel
theorem dX11_walk_16 : decode cX11_walk 16 = .ok (.iload_n 1, 1) := by decide +kernel
theorem dX11_walk_17 : decode cX11_walk 17 = .ok (.aload_n 0, 1) := by decide +kernel
theorem dX11_walk_18 : decode cX11_walk 18 = .ok (.invokevirtual 182, 3) := by decide +kernel
theorem dX11_walk_21 : decode cX11_walk 21 = .ok (.idiv, 1) := by decide +kernel
theorem dX11_walk_22 : decode cX11_walk 22 = .ok (.bipush 8, 2) := by decide +kernel
theorem dX11_walk_24 : decode cX11_walk 24 = .ok (.imul, 1) := by decide +kernel
theorem dX11_walk_25 : decode cX11_walk 25 = .ok (.istore_n 2, 1) := by decide +kernel
theorem dX11_walk_26 : decode cX11_walk 26 = .ok (.iload_n 2, 1) := by decide +kernel
theorem dX11_walk_27 : decode cX11_walk 27 = .ok (.aload_n 0, 1) := by decide +kernel
theorem dX11_walk_28 : decode cX11_walk 28 = .ok (.iload_n 1, 1) := by decide +kernel
theorem dX11_walk_29 : decode cX11_walk 29 = .ok (.invokevirtual 188, 3) := by decide +kernel
theorem dX11_walk_32 : decode cX11_walk 32 = .ok (.if_icmp .ge 60, 3) := by decide +kernel
theorem dX11_walk_35 : decode cX11_walk 35 = .ok (.iload_n 1, 1) := by decide +kernel
theorem dX11_walk_36 : decode cX11_walk 36 = .ok (.aload_n 0, 1) := by decide +kernel
theorem dX11_walk_37 : decode cX11_walk 37 = .ok (.invokevirtual 182, 3) := by decide +kernel
theorem dX11_walk_40 : decode cX11_walk 40 = .ok (.irem, 1) := by decide +kernel
theorem dX11_walk_41 : decode cX11_walk 41 = .ok (.bipush 8, 2) := by decide +kernel
theorem dX11_walk_43 : decode cX11_walk 43 = .ok (.imul, 1) := by decide +kernel
theorem dX11_walk_44 : decode cX11_walk 44 = .ok (.istore_n 3, 1) := by decide +kernel
theorem dX11_walk_45 : decode cX11_walk 45 = .ok (.iload_n 3, 1) := by decide +kernel
theorem dX11_walk_46 : decode cX11_walk 46 = .ok (.aload_n 0, 1) := by decide +kernel
theorem dX11_walk_47 : decode cX11_walk 47 = .ok (.iload_n 1, 1) := by decide +kernel
theorem dX11_walk_48 : decode cX11_walk 48 = .ok (.invokevirtual 185, 3) := by decide +kernel
theorem dX11_walk_51 : decode cX11_walk 51 = .ok (.if_icmp .ge 35, 3) := by decide +kernel
theorem dX11_walk_54 : decode cX11_walk 54 = .ok (.iconst 0, 1) := by decide +kernel
theorem dX11_walk_55 : decode cX11_walk 55 = .ok (.istore 4, 2) := by decide +kernel
theorem dX11_walk_57 : decode cX11_walk 57 = .ok (.iload 4, 2) := by decide +kernel
theorem dX11_walk_59 : decode cX11_walk 59 = .ok (.aload_n 0, 1) := by decide +kernel
theorem dX11_walk_60 : decode cX11_walk 60 = .ok (.getfield 70, 3) := by decide +kernel
theorem dX11_walk_63 : decode cX11_walk 63 = .ok (.if_icmp .ge 17, 3) := by decide +kernel
theorem dX11_walk_66 : decode cX11_walk 66 = .ok (.aload_n 0, 1) := by decide +kernel
theorem dX11_walk_67 : decode cX11_walk 67 = .ok (.iload_n 3, 1) := by decide +kernel
theorem dX11_walk_68 : decode cX11_walk 68 = .ok (.iload_n 2, 1) := by decide +kernel
theorem dX11_walk_69 : decode cX11_walk 69 = .ok (.iload 4, 2) := by decide +kernel
theorem dX11_walk_71 : decode cX11_walk 71 = .ok (.invokevirtual 191, 3) := by decide +kernel
theorem dX11_walk_74 : decode cX11_walk 74 = .ok (.iinc 4 1, 3) := by decide +kernel
theorem dX11_walk_77 : decode cX11_walk 77 = .ok (.goto (-20), 3) := by decide +kernel
theorem dX11_walk_80 : decode cX11_walk 80 = .ok (.iinc 3 1, 3) := by decide +kernel
theorem dX11_walk_83 : decode cX11_walk 83 = .ok (.goto (-38), 3) := by decide +kernel
theorem dX11_walk_86 : decode cX11_walk 86 = .ok (.iinc 2 1, 3) := by decide +kernel
theorem dX11_walk_89 : decode cX11_walk 89 = .ok (.goto (-63), 3) := by decide +kernel
theorem dX11_walk_92 : decode cX11_walk 92 = .ok (.return_, 1) := by decide +kernel
theorem dX11_plainBytes_0 : decode cX11_plainBytes 0 = .ok (.aload_n 0, 1) := by decide +kernel
theorem dX11_plainBytes_1 : decode cX11_plainBytes 1 = .ok (.iconst 0, 1) := by decide +kernel
theorem dX11_plainBytes_2 : decode cX11_plainBytes 2 = .ok (.putfield 130, 3) := by decide +kernel
theorem dX11_plainBytes_5 : decode cX11_plainBytes 5 = .ok (.iload_n 1, 1) := by decide +kernel
theorem dX11_plainBytes_6 : decode cX11_plainBytes 6 = .ok (.aload_n 0, 1) := by decide +kernel
theorem dX11_plainBytes_7 : decode cX11_plainBytes 7 = .ok (.invokevirtual 182, 3) := by decide +kernel
theorem dX11_plainBytes_10 : decode cX11_plainBytes 10 = .ok (.idiv, 1) := by decide +kernel
theorem dX11_plainBytes_11 : decode cX11_plainBytes 11 = .ok (.bipush 8, 2) := by decide +kernel
theorem dX11_plainBytes_13 : decode cX11_plainBytes 13 = .ok (.imul, 1) := by decide +kernel
theorem dX11_plainBytes_14 : decode cX11_plainBytes 14 = .ok (.istore_n 2, 1) := by decide +kernel
theorem dX11_plainBytes_15 : decode cX11_plainBytes 15 = .ok (.iload_n 2, 1) := by decide +kernel
theorem dX11_plainBytes_16 : decode cX11_plainBytes 16 = .ok (.aload_n 0, 1) := by decide +kernel
theorem dX11_plainBytes_17 : decode cX11_plainBytes 17 = .ok (.iload_n 1, 1) := by decide +kernel
theorem dX11_plainBytes_18 : decode cX11_plainBytes 18 = .ok (.invokevirtual 188, 3) := by decide +kernel
theorem dX11_plainBytes_21 : decode cX11_plainBytes 21 = .ok (.if_icmp .ge 68, 3) := by decide +kernel
theorem dX11_plainBytes_24 : decode cX11_plainBytes 24 = .ok (.iload_n 1, 1) := by decide +kernel
theorem dX11_plainBytes_25 : decode cX11_plainBytes 25 = .ok (.aload_n 0, 1) := by decide +kernel
theorem dX11_plainBytes_26 : decode cX11_plainBytes 26 = .ok (.invokevirtual 182, 3) := by decide +kernel
theorem dX11_plainBytes_29 : decode cX11_plainBytes 29 = .ok (.irem, 1) := by decide +kernel
theorem dX11_plainBytes_30 : decode cX11_plainBytes 30 = .ok (.bipush 8, 2) := by decide +kernel
theorem dX11_plainBytes_32 : decode cX11_plainBytes 32 = .ok (.imul, 1) := by decide +kernel
theorem dX11_plainBytes_33 : decode cX11_plainBytes 33 = .ok (.istore_n 3, 1) := by decide +kernel
theorem dX11_plainBytes_34 : decode cX11_plainBytes 34 = .ok (.iload_n 3, 1) := by decide +kernel
theorem dX11_plainBytes_35 : decode cX11_plainBytes 35 = .ok (.aload_n 0, 1) := by decide +kernel
theorem dX11_plainBytes_36 : decode cX11_plainBytes 36 = .ok (.iload_n 1, 1) := by decide +kernel
theorem dX11_plainBytes_37 : decode cX11_plainBytes 37 = .ok (.invokevirtual 185, 3) := by decide +kernel
theorem dX11_plainBytes_40 : decode cX11_plainBytes 40 = .ok (.if_icmp .ge 43, 3) := by decide +kernel
theorem dX11_plainBytes_43 : decode cX11_plainBytes 43 = .ok (.iconst 0, 1) := by decide +kernel
theorem dX11_plainBytes_44 : decode cX11_plainBytes 44 = .ok (.istore 4, 2) := by decide +kernel
theorem dX11_plainBytes_46 : decode cX11_plainBytes 46 = .ok (.iload 4, 2) := by decide +kernel
theorem dX11_plainBytes_48 : decode cX11_plainBytes 48 = .ok (.aload_n 0, 1) := by decide +kernel
theorem dX11_plainBytes_49 : decode cX11_plainBytes 49 = .ok (.getfield 70, 3) := by decide +kernel
theorem dX11_plainBytes_52 : decode cX11_plainBytes 52 = .ok (.if_icmp .ge 25, 3) := by decide +kernel
theorem dX11_plainBytes_55 : decode cX11_plainBytes 55 = .ok (.aload_n 0, 1) := by decide +kernel
theorem dX11_plainBytes_56 : decode cX11_plainBytes 56 = .ok (.aload_n 0, 1) := by decide +kernel
theorem dX11_plainBytes_57 : decode cX11_plainBytes 57 = .ok (.getfield 7, 3) := by decide +kernel
theorem dX11_plainBytes_60 : decode cX11_plainBytes 60 = .ok (.iload_n 3, 1) := by decide +kernel
theorem dX11_plainBytes_61 : decode cX11_plainBytes 61 = .ok (.iload_n 2, 1) := by decide +kernel
theorem dX11_plainBytes_62 : decode cX11_plainBytes 62 = .ok (.iload 4, 2) := by decide +kernel
theorem dX11_plainBytes_64 : decode cX11_plainBytes 64 = .ok (.invokestatic 104, 3) := by decide +kernel
theorem dX11_plainBytes_67 : decode cX11_plainBytes 67 = .ok (.iaload, 1) := by decide +kernel
theorem dX11_plainBytes_68 : decode cX11_plainBytes 68 = .ok (.invokevirtual 144, 3) := by decide +kernel
theorem dX11_plainBytes_71 : decode cX11_plainBytes 71 = .ok (.iinc 4 1, 3) := by decide +kernel
theorem dX11_plainBytes_74 : decode cX11_plainBytes 74 = .ok (.goto (-28), 3) := by decide +kernel
theorem dX11_plainBytes_77 : decode cX11_plainBytes 77 = .ok (.iinc 3 1, 3) := by decide +kernel
theorem dX11_plainBytes_80 : decode cX11_plainBytes 80 = .ok (.goto (-46), 3) := by decide +kernel
theorem dX11_plainBytes_83 : decode cX11_plainBytes 83 = .ok (.iinc 2 1, 3) := by decide +kernel
theorem dX11_plainBytes_86 : decode cX11_plainBytes 86 = .ok (.goto (-71), 3) := by decide +kernel
theorem dX11_plainBytes_89 : decode cX11_plainBytes 89 = .ok (.return_, 1) := by decide +kernel
theorem dX11_add_0 : decode cX11_add 0 = .ok (.aload_n 0, 1) := by decide +kernel
theorem dX11_add_1 : decode cX11_add 1 = .ok (.getfield 50, 3) := by decide +kernel
theorem dX11_add_4 : decode cX11_add 4 = .ok (.aload_n 0, 1) := by decide +kernel
theorem dX11_add_5 : decode cX11_add 5 = .ok (.getfield 91, 3) := by decide +kernel
theorem dX11_add_8 : decode cX11_add 8 = .ok (.iload_n 1, 1) := by decide +kernel
theorem dX11_add_9 : decode cX11_add 9 = .ok (.iastore, 1) := by decide +kernel
theorem dX11_add_10 : decode cX11_add 10 = .ok (.aload_n 0, 1) := by decide +kernel
theorem dX11_add_11 : decode cX11_add 11 = .ok (.dup, 1) := by decide +kernel
theorem dX11_add_12 : decode cX11_add 12 = .ok (.getfield 91, 3) := by decide +kernel
theorem dX11_add_15 : decode cX11_add 15 = .ok (.iconst 1, 1) := by decide +kernel
theorem dX11_add_16 : decode cX11_add 16 = .ok (.iadd, 1) := by decide +kernel
theorem dX11_add_17 : decode cX11_add 17 = .ok (.putfield 91, 3) := by decide +kernel
theorem dX11_add_20 : decode cX11_add 20 = .ok (.return_, 1) := by decide +kernel
theorem dX11_encode_0 : decode cX11_encode 0 = .ok (.aload_n 0, 1) := by decide +kernel
theorem dX11_encode_1 : decode cX11_encode 1 = .ok (.iconst 0, 1) := by decide +kernel
theorem dX11_encode_2 : decode cX11_encode 2 = .ok (.putfield 82, 3) := by decide +kernel
theorem dX11_encode_5 : decode cX11_encode 5 = .ok (.aload_n 0, 1) := by decide +kernel
theorem dX11_encode_6 : decode cX11_encode 6 = .ok (.iconst 0, 1) := by decide +kernel
theorem dX11_encode_7 : decode cX11_encode 7 = .ok (.putfield 91, 3) := by decide +kernel
theorem dX11_encode_10 : decode cX11_encode 10 = .ok (.iconst 0, 1) := by decide +kernel
theorem dX11_encode_11 : decode cX11_encode 11 = .ok (.istore_n 1, 1) := by decide +kernel
theorem dX11_encode_12 : decode cX11_encode 12 = .ok (.iload_n 1, 1) := by decide +kernel
theorem dX11_encode_13 : decode cX11_encode 13 = .ok (.aload_n 0, 1) := by decide +kernel
theorem dX11_encode_14 : decode cX11_encode 14 = .ok (.invokevirtual 194, 3) := by decide +kernel
theorem dX11_encode_17 : decode cX11_encode 17 = .ok (.if_icmp .ge 224, 3) := by decide +kernel
theorem dX11_encode_20 : decode cX11_encode 20 = .ok (.aload_n 0, 1) := by decide +kernel
theorem dX11_encode_21 : decode cX11_encode 21 = .ok (.iconst 1, 1) := by decide +kernel
theorem dX11_encode_22 : decode cX11_encode 22 = .ok (.putfield 140, 3) := by decide +kernel
theorem dX11_encode_25 : decode cX11_encode 25 = .ok (.aload_n 0, 1) := by decide +kernel
theorem dX11_encode_26 : decode cX11_encode 26 = .ok (.iconst 0, 1) := by decide +kernel
theorem dX11_encode_27 : decode cX11_encode 27 = .ok (.putfield 130, 3) := by decide +kernel
theorem dX11_encode_30 : decode cX11_encode 30 = .ok (.aload_n 0, 1) := by decide +kernel
theorem dX11_encode_31 : decode cX11_encode 31 = .ok (.iload_n 1, 1) := by decide +kernel
theorem dX11_encode_32 : decode cX11_encode 32 = .ok (.invokevirtual 197, 3) := by decide +kernel
theorem dX11_encode_35 : decode cX11_encode 35 = .ok (.aload_n 0, 1) := by decide +kernel
theorem dX11_encode_36 : decode cX11_encode 36 = .ok (.getfield 133, 3) := by decide +kernel
theorem dX11_encode_39 : decode cX11_encode 39 = .ok (.ldc2_w 200, 3) := by decide +kernel
theorem dX11_encode_42 : decode cX11_encode 42 = .ok (.ladd, 1) := by decide +kernel
theorem dX11_encode_43 : decode cX11_encode 43 = .ok (.ldc2_w 151, 3) := by decide +kernel
theorem dX11_encode_46 : decode cX11_encode 46 = .ok (.land, 1) := by decide +kernel
theorem dX11_encode_47 : decode cX11_encode 47 = .ok (.lstore_n 2, 1) := by decide +kernel
theorem dX11_encode_48 : decode cX11_encode 48 = .ok (.aload_n 0, 1) := by decide +kernel
theorem dX11_encode_49 : decode cX11_encode 49 = .ok (.lload_n 2, 1) := by decide +kernel
theorem dX11_encode_50 : decode cX11_encode 50 = .ok (.bipush 24, 2) := by decide +kernel
theorem dX11_encode_52 : decode cX11_encode 52 = .ok (.lshr, 1) := by decide +kernel
theorem dX11_encode_53 : decode cX11_encode 53 = .ok (.l2i, 1) := by decide +kernel
theorem dX11_encode_54 : decode cX11_encode 54 = .ok (.invokevirtual 144, 3) := by decide +kernel
theorem dX11_encode_57 : decode cX11_encode 57 = .ok (.aload_n 0, 1) := by decide +kernel
theorem dX11_encode_58 : decode cX11_encode 58 = .ok (.lload_n 2, 1) := by decide +kernel
theorem dX11_encode_59 : decode cX11_encode 59 = .ok (.bipush 16, 2) := by decide +kernel
theorem dX11_encode_61 : decode cX11_encode 61 = .ok (.lshr, 1) := by decide +kernel
theorem dX11_encode_62 : decode cX11_encode 62 = .ok (.ldc2_w 157, 3) := by decide +kernel
theorem dX11_encode_65 : decode cX11_encode 65 = .ok (.land, 1) := by decide +kernel
theorem dX11_encode_66 : decode cX11_encode 66 = .ok (.l2i, 1) := by decide +kernel
theorem dX11_encode_67 : decode cX11_encode 67 = .ok (.invokevirtual 144, 3) := by decide +kernel
theorem dX11_encode_70 : decode cX11_encode 70 = .ok (.aload_n 0, 1) := by decide +kernel
theorem dX11_encode_71 : decode cX11_encode 71 = .ok (.getfield 43, 3) := by decide +kernel
theorem dX11_encode_74 : decode cX11_encode 74 = .ok (.iload_n 1, 1) := by decide +kernel
theorem dX11_encode_75 : decode cX11_encode 75 = .ok (.aload_n 0, 1) := by decide +kernel
theorem dX11_encode_76 : decode cX11_encode 76 = .ok (.getfield 130, 3) := by decide +kernel
theorem dX11_encode_79 : decode cX11_encode 79 = .ok (.aload_n 0, 1) := by decide +kernel
theorem dX11_encode_80 : decode cX11_encode 80 = .ok (.iload_n 1, 1) := by decide +kernel
theorem dX11_encode_81 : decode cX11_encode 81 = .ok (.invokevirtual 202, 3) := by decide +kernel
theorem dX11_encode_84 : decode cX11_encode 84 = .ok (.if_icmp .lt 7, 3) := by decide +kernel
theorem dX11_encode_87 : decode cX11_encode 87 = .ok (.iconst 1, 1) := by decide +kernel
theorem dX11_encode_88 : decode cX11_encode 88 = .ok (.goto 4, 3) := by decide +kernel
theorem dX11_encode_91 : decode cX11_encode 91 = .ok (.iconst 0, 1) := by decide +kernel
theorem dX11_encode_92 : decode cX11_encode 92 = .ok (.bastore, 1) := by decide +kernel
theorem dX11_encode_93 : decode cX11_encode 93 = .ok (.aload_n 0, 1) := by decide +kernel
theorem dX11_encode_94 : decode cX11_encode 94 = .ok (.getfield 43, 3) := by decide +kernel
theorem dX11_encode_97 : decode cX11_encode 97 = .ok (.iload_n 1, 1) := by decide +kernel
theorem dX11_encode_98 : decode cX11_encode 98 = .ok (.baload, 1) := by decide +kernel
theorem dX11_encode_99 : decode cX11_encode 99 = .ok (.ifCond .eq 8, 3) := by decide +kernel
theorem dX11_encode_102 : decode cX11_encode 102 = .ok (.aload_n 0, 1) := by decide +kernel
theorem dX11_encode_103 : decode cX11_encode 103 = .ok (.iload_n 1, 1) := by decide +kernel
theorem dX11_encode_104 : decode cX11_encode 104 = .ok (.invokevirtual 205, 3) := by decide +kernel
theorem dX11_encode_107 : decode cX11_encode 107 = .ok (.sipush 165, 3) := by decide +kernel
theorem dX11_encode_110 : decode cX11_encode 110 = .ok (.aload_n 0, 1) := by decide +kernel
theorem dX11_encode_111 : decode cX11_encode 111 = .ok (.getfield 130, 3) := by decide +kernel
theorem dX11_encode_114 : decode cX11_encode 114 = .ok (.sipush 255, 3) := by decide +kernel
theorem dX11_encode_117 : decode cX11_encode 117 = .ok (.iand, 1) := by decide +kernel
theorem dX11_encode_118 : decode cX11_encode 118 = .ok (.ixor, 1) := by decide +kernel
theorem dX11_encode_119 : decode cX11_encode 119 = .ok (.aload_n 0, 1) := by decide +kernel
theorem dX11_encode_120 : decode cX11_encode 120 = .ok (.getfield 130, 3) := by decide +kernel
theorem dX11_encode_123 : decode cX11_encode 123 = .ok (.bipush 8, 2) := by decide +kernel
theorem dX11_encode_125 : decode cX11_encode 125 = .ok (.ishr, 1) := by decide +kernel
theorem dX11_encode_126 : decode cX11_encode 126 = .ok (.ixor, 1) := by decide +kernel
theorem dX11_encode_127 : decode cX11_encode 127 = .ok (.istore 4, 2) := by decide +kernel
theorem dX11_encode_129 : decode cX11_encode 129 = .ok (.iconst 0, 1) := by decide +kernel
theorem dX11_encode_130 : decode cX11_encode 130 = .ok (.istore 5, 2) := by decide +kernel
theorem dX11_encode_132 : decode cX11_encode 132 = .ok (.iload 5, 2) := by decide +kernel
theorem dX11_encode_134 : decode cX11_encode 134 = .ok (.aload_n 0, 1) := by decide +kernel
theorem dX11_encode_135 : decode cX11_encode 135 = .ok (.getfield 130, 3) := by decide +kernel
theorem dX11_encode_138 : decode cX11_encode 138 = .ok (.if_icmp .ge 21, 3) := by decide +kernel
theorem dX11_encode_141 : decode cX11_encode 141 = .ok (.iload 4, 2) := by decide +kernel
theorem dX11_encode_143 : decode cX11_encode 143 = .ok (.aload_n 0, 1) := by decide +kernel
theorem dX11_encode_144 : decode cX11_encode 144 = .ok (.getfield 47, 3) := by decide +kernel
theorem dX11_encode_147 : decode cX11_encode 147 = .ok (.iload 5, 2) := by decide +kernel
theorem dX11_encode_149 : decode cX11_encode 149 = .ok (.iaload, 1) := by decide +kernel
theorem dX11_encode_150 : decode cX11_encode 150 = .ok (.ixor, 1) := by decide +kernel
theorem dX11_encode_151 : decode cX11_encode 151 = .ok (.istore 4, 2) := by decide +kernel
theorem dX11_encode_153 : decode cX11_encode 153 = .ok (.iinc 5 1, 3) := by decide +kernel
theorem dX11_encode_156 : decode cX11_encode 156 = .ok (.goto (-24), 3) := by decide +kernel
theorem dX11_encode_159 : decode cX11_encode 159 = .ok (.aload_n 0, 1) := by decide +kernel
theorem dX11_encode_160 : decode cX11_encode 160 = .ok (.aload_n 0, 1) := by decide +kernel
theorem dX11_encode_161 : decode cX11_encode 161 = .ok (.getfield 43, 3) := by decide +kernel
theorem dX11_encode_164 : decode cX11_encode 164 = .ok (.iload_n 1, 1) := by decide +kernel
theorem dX11_encode_165 : decode cX11_encode 165 = .ok (.baload, 1) := by decide +kernel
theorem dX11_encode_166 : decode cX11_encode 166 = .ok (.ifCond .eq 7, 3) := by decide +kernel
theorem dX11_encode_169 : decode cX11_encode 169 = .ok (.iconst 0, 1) := by decide +kernel
theorem dX11_encode_170 : decode cX11_encode 170 = .ok (.goto 4, 3) := by decide +kernel
theorem dX11_encode_173 : decode cX11_encode 173 = .ok (.iconst 1, 1) := by decide +kernel
theorem dX11_encode_174 : decode cX11_encode 174 = .ok (.invokevirtual 208, 3) := by decide +kernel
theorem dX11_encode_177 : decode cX11_encode 177 = .ok (.aload_n 0, 1) := by decide +kernel
theorem dX11_encode_178 : decode cX11_encode 178 = .ok (.aload_n 0, 1) := by decide +kernel
theorem dX11_encode_179 : decode cX11_encode 179 = .ok (.getfield 130, 3) := by decide +kernel
theorem dX11_encode_182 : decode cX11_encode 182 = .ok (.sipush 255, 3) := by decide +kernel
theorem dX11_encode_185 : decode cX11_encode 185 = .ok (.iand, 1) := by decide +kernel
theorem dX11_encode_186 : decode cX11_encode 186 = .ok (.invokevirtual 208, 3) := by decide +kernel
theorem dX11_encode_189 : decode cX11_encode 189 = .ok (.aload_n 0, 1) := by decide +kernel
theorem dX11_encode_190 : decode cX11_encode 190 = .ok (.aload_n 0, 1) := by decide +kernel
theorem dX11_encode_191 : decode cX11_encode 191 = .ok (.getfield 130, 3) := by decide +kernel
theorem dX11_encode_194 : decode cX11_encode 194 = .ok (.bipush 8, 2) := by decide +kernel
theorem dX11_encode_196 : decode cX11_encode 196 = .ok (.ishr, 1) := by decide +kernel
theorem dX11_encode_197 : decode cX11_encode 197 = .ok (.invokevirtual 208, 3) := by decide +kernel
theorem dX11_encode_200 : decode cX11_encode 200 = .ok (.aload_n 0, 1) := by decide +kernel
theorem dX11_encode_201 : decode cX11_encode 201 = .ok (.iload 4, 2) := by decide +kernel
theorem dX11_encode_203 : decode cX11_encode 203 = .ok (.invokevirtual 208, 3) := by decide +kernel
theorem dX11_encode_206 : decode cX11_encode 206 = .ok (.iconst 0, 1) := by decide +kernel
theorem dX11_encode_207 : decode cX11_encode 207 = .ok (.istore 5, 2) := by decide +kernel
theorem dX11_encode_209 : decode cX11_encode 209 = .ok (.iload 5, 2) := by decide +kernel
theorem dX11_encode_211 : decode cX11_encode 211 = .ok (.aload_n 0, 1) := by decide +kernel
theorem dX11_encode_212 : decode cX11_encode 212 = .ok (.getfield 130, 3) := by decide +kernel
theorem dX11_encode_215 : decode cX11_encode 215 = .ok (.if_icmp .ge 20, 3) := by decide +kernel
theorem dX11_encode_218 : decode cX11_encode 218 = .ok (.aload_n 0, 1) := by decide +kernel
theorem dX11_encode_219 : decode cX11_encode 219 = .ok (.aload_n 0, 1) := by decide +kernel
theorem dX11_encode_220 : decode cX11_encode 220 = .ok (.getfield 47, 3) := by decide +kernel
theorem dX11_encode_223 : decode cX11_encode 223 = .ok (.iload 5, 2) := by decide +kernel
theorem dX11_encode_225 : decode cX11_encode 225 = .ok (.iaload, 1) := by decide +kernel
theorem dX11_encode_226 : decode cX11_encode 226 = .ok (.invokevirtual 208, 3) := by decide +kernel
theorem dX11_encode_229 : decode cX11_encode 229 = .ok (.iinc 5 1, 3) := by decide +kernel
theorem dX11_encode_232 : decode cX11_encode 232 = .ok (.goto (-23), 3) := by decide +kernel
theorem dX11_encode_235 : decode cX11_encode 235 = .ok (.iinc 1 1, 3) := by decide +kernel
theorem dX11_encode_238 : decode cX11_encode 238 = .ok (.goto (-226), 3) := by decide +kernel
theorem dX11_encode_241 : decode cX11_encode 241 = .ok (.aload_n 0, 1) := by decide +kernel
theorem dX11_encode_242 : decode cX11_encode 242 = .ok (.invokevirtual 88, 3) := by decide +kernel
theorem dX11_encode_245 : decode cX11_encode 245 = .ok (.aload_n 0, 1) := by decide +kernel
theorem dX11_encode_246 : decode cX11_encode 246 = .ok (.getfield 91, 3) := by decide +kernel
theorem dX11_encode_249 : decode cX11_encode 249 = .ok (.ireturn, 1) := by decide +kernel
theorem dX11_byteAt_0 : decode cX11_byteAt 0 = .ok (.aload_n 0, 1) := by decide +kernel
theorem dX11_byteAt_1 : decode cX11_byteAt 1 = .ok (.iload_n 1, 1) := by decide +kernel
theorem dX11_byteAt_2 : decode cX11_byteAt 2 = .ok (.iconst 0, 1) := by decide +kernel
theorem dX11_byteAt_3 : decode cX11_byteAt 3 = .ok (.aload_n 0, 1) := by decide +kernel
theorem dX11_byteAt_4 : decode cX11_byteAt 4 = .ok (.getfield 91, 3) := by decide +kernel
theorem dX11_byteAt_7 : decode cX11_byteAt 7 = .ok (.iconst 1, 1) := by decide +kernel
theorem dX11_byteAt_8 : decode cX11_byteAt 8 = .ok (.isub, 1) := by decide +kernel
theorem dX11_byteAt_9 : decode cX11_byteAt 9 = .ok (.invokestatic 97, 3) := by decide +kernel
theorem dX11_byteAt_12 : decode cX11_byteAt 12 = .ok (.ifCond .eq 7, 3) := by decide +kernel
theorem dX11_byteAt_15 : decode cX11_byteAt 15 = .ok (.iconst 0, 1) := by decide +kernel
theorem dX11_byteAt_16 : decode cX11_byteAt 16 = .ok (.goto 4, 3) := by decide +kernel
theorem dX11_byteAt_19 : decode cX11_byteAt 19 = .ok (.iconst 1, 1) := by decide +kernel
theorem dX11_byteAt_20 : decode cX11_byteAt 20 = .ok (.putfield 82, 3) := by decide +kernel
theorem dX11_byteAt_23 : decode cX11_byteAt 23 = .ok (.aload_n 0, 1) := by decide +kernel
theorem dX11_byteAt_24 : decode cX11_byteAt 24 = .ok (.getfield 82, 3) := by decide +kernel
theorem dX11_byteAt_27 : decode cX11_byteAt 27 = .ok (.ifCond .le 7, 3) := by decide +kernel
theorem dX11_byteAt_30 : decode cX11_byteAt 30 = .ok (.iconst 0, 1) := by decide +kernel
theorem dX11_byteAt_31 : decode cX11_byteAt 31 = .ok (.goto 9, 3) := by decide +kernel
theorem dX11_byteAt_34 : decode cX11_byteAt 34 = .ok (.aload_n 0, 1) := by decide +kernel
theorem dX11_byteAt_35 : decode cX11_byteAt 35 = .ok (.getfield 50, 3) := by decide +kernel
theorem dX11_byteAt_38 : decode cX11_byteAt 38 = .ok (.iload_n 1, 1) := by decide +kernel
theorem dX11_byteAt_39 : decode cX11_byteAt 39 = .ok (.iaload, 1) := by decide +kernel
theorem dX11_byteAt_40 : decode cX11_byteAt 40 = .ok (.ireturn, 1) := by decide +kernel
theorem dX11_plain_0 : decode cX11_plain 0 = .ok (.aload_n 0, 1) := by decide +kernel
theorem dX11_plain_1 : decode cX11_plain 1 = .ok (.iload_n 1, 1) := by decide +kernel
theorem dX11_plain_2 : decode cX11_plain 2 = .ok (.iconst 0, 1) := by decide +kernel
theorem dX11_plain_3 : decode cX11_plain 3 = .ok (.aload_n 0, 1) := by decide +kernel
theorem dX11_plain_4 : decode cX11_plain 4 = .ok (.invokevirtual 194, 3) := by decide +kernel
theorem dX11_plain_7 : decode cX11_plain 7 = .ok (.iconst 1, 1) := by decide +kernel
theorem dX11_plain_8 : decode cX11_plain 8 = .ok (.isub, 1) := by decide +kernel
theorem dX11_plain_9 : decode cX11_plain 9 = .ok (.invokestatic 97, 3) := by decide +kernel
theorem dX11_plain_12 : decode cX11_plain 12 = .ok (.ifCond .eq 7, 3) := by decide +kernel
theorem dX11_plain_15 : decode cX11_plain 15 = .ok (.iconst 0, 1) := by decide +kernel
theorem dX11_plain_16 : decode cX11_plain 16 = .ok (.goto 4, 3) := by decide +kernel
theorem dX11_plain_19 : decode cX11_plain 19 = .ok (.iconst 1, 1) := by decide +kernel
theorem dX11_plain_20 : decode cX11_plain 20 = .ok (.putfield 82, 3) := by decide +kernel
theorem dX11_plain_23 : decode cX11_plain 23 = .ok (.aload_n 0, 1) := by decide +kernel
theorem dX11_plain_24 : decode cX11_plain 24 = .ok (.getfield 82, 3) := by decide +kernel
theorem dX11_plain_27 : decode cX11_plain 27 = .ok (.ifCond .ne 16, 3) := by decide +kernel
theorem dX11_plain_30 : decode cX11_plain 30 = .ok (.aload_n 0, 1) := by decide +kernel
theorem dX11_plain_31 : decode cX11_plain 31 = .ok (.getfield 43, 3) := by decide +kernel
theorem dX11_plain_34 : decode cX11_plain 34 = .ok (.iload_n 1, 1) := by decide +kernel
theorem dX11_plain_35 : decode cX11_plain 35 = .ok (.baload, 1) := by decide +kernel
theorem dX11_plain_36 : decode cX11_plain 36 = .ok (.ifCond .eq 7, 3) := by decide +kernel
theorem dX11_plain_39 : decode cX11_plain 39 = .ok (.iconst 1, 1) := by decide +kernel
theorem dX11_plain_40 : decode cX11_plain 40 = .ok (.goto 4, 3) := by decide +kernel
theorem dX11_plain_43 : decode cX11_plain 43 = .ok (.iconst 0, 1) := by decide +kernel
theorem dX11_plain_44 : decode cX11_plain 44 = .ok (.ireturn, 1) := by decide +kernel
theorem dX11_weight_0 : decode cX11_weight 0 = .ok (.aload_n 0, 1) := by decide +kernel
theorem dX11_weight_1 : decode cX11_weight 1 = .ok (.iload_n 1, 1) := by decide +kernel
theorem dX11_weight_2 : decode cX11_weight 2 = .ok (.iconst 0, 1) := by decide +kernel
theorem dX11_weight_3 : decode cX11_weight 3 = .ok (.bipush 8, 2) := by decide +kernel
theorem dX11_weight_5 : decode cX11_weight 5 = .ok (.invokestatic 97, 3) := by decide +kernel
theorem dX11_weight_8 : decode cX11_weight 8 = .ok (.ifCond .eq 7, 3) := by decide +kernel
theorem dX11_weight_11 : decode cX11_weight 11 = .ok (.iconst 0, 1) := by decide +kernel
theorem dX11_weight_12 : decode cX11_weight 12 = .ok (.goto 4, 3) := by decide +kernel
theorem dX11_weight_15 : decode cX11_weight 15 = .ok (.iconst 1, 1) := by decide +kernel
theorem dX11_weight_16 : decode cX11_weight 16 = .ok (.putfield 82, 3) := by decide +kernel
theorem dX11_weight_19 : decode cX11_weight 19 = .ok (.aload_n 0, 1) := by decide +kernel
theorem dX11_weight_20 : decode cX11_weight 20 = .ok (.getfield 82, 3) := by decide +kernel
theorem dX11_weight_23 : decode cX11_weight 23 = .ok (.ifCond .le 7, 3) := by decide +kernel
theorem dX11_weight_26 : decode cX11_weight 26 = .ok (.iconst 0, 1) := by decide +kernel
theorem dX11_weight_27 : decode cX11_weight 27 = .ok (.goto 9, 3) := by decide +kernel
theorem dX11_weight_30 : decode cX11_weight 30 = .ok (.aload_n 0, 1) := by decide +kernel
theorem dX11_weight_31 : decode cX11_weight 31 = .ok (.getfield 28, 3) := by decide +kernel
theorem dX11_weight_34 : decode cX11_weight 34 = .ok (.iload_n 1, 1) := by decide +kernel
theorem dX11_weight_35 : decode cX11_weight 35 = .ok (.iaload, 1) := by decide +kernel
theorem dX11_weight_36 : decode cX11_weight 36 = .ok (.ireturn, 1) := by decide +kernel
theorem dX11_chance_0 : decode cX11_chance 0 = .ok (.aload_n 0, 1) := by decide +kernel
theorem dX11_chance_1 : decode cX11_chance 1 = .ok (.iload_n 2, 1) := by decide +kernel
theorem dX11_chance_2 : decode cX11_chance 2 = .ok (.iconst 0, 1) := by decide +kernel
theorem dX11_chance_3 : decode cX11_chance 3 = .ok (.aload_n 0, 1) := by decide +kernel
theorem dX11_chance_4 : decode cX11_chance 4 = .ok (.getfield 70, 3) := by decide +kernel
theorem dX11_chance_7 : decode cX11_chance 7 = .ok (.iconst 1, 1) := by decide +kernel
theorem dX11_chance_8 : decode cX11_chance 8 = .ok (.isub, 1) := by decide +kernel
theorem dX11_chance_9 : decode cX11_chance 9 = .ok (.invokestatic 97, 3) := by decide +kernel
theorem dX11_chance_12 : decode cX11_chance 12 = .ok (.ifCond .ne 7, 3) := by decide +kernel
theorem dX11_chance_15 : decode cX11_chance 15 = .ok (.iconst 1, 1) := by decide +kernel
theorem dX11_chance_16 : decode cX11_chance 16 = .ok (.goto 32, 3) := by decide +kernel
theorem dX11_chance_19 : decode cX11_chance 19 = .ok (.iload_n 3, 1) := by decide +kernel
theorem dX11_chance_20 : decode cX11_chance 20 = .ok (.iconst 0, 1) := by decide +kernel
theorem dX11_chance_21 : decode cX11_chance 21 = .ok (.iconst 3, 1) := by decide +kernel
theorem dX11_chance_22 : decode cX11_chance 22 = .ok (.invokestatic 97, 3) := by decide +kernel
theorem dX11_chance_25 : decode cX11_chance 25 = .ok (.ifCond .eq 18, 3) := by decide +kernel
theorem dX11_chance_28 : decode cX11_chance 28 = .ok (.iload 4, 2) := by decide +kernel
theorem dX11_chance_30 : decode cX11_chance 30 = .ok (.iconst 1, 1) := by decide +kernel
theorem dX11_chance_31 : decode cX11_chance 31 = .ok (.aload_n 0, 1) := by decide +kernel
theorem dX11_chance_32 : decode cX11_chance 32 = .ok (.getfield 76, 3) := by decide +kernel
theorem dX11_chance_35 : decode cX11_chance 35 = .ok (.iconst 1, 1) := by decide +kernel
theorem dX11_chance_36 : decode cX11_chance 36 = .ok (.isub, 1) := by decide +kernel
theorem dX11_chance_37 : decode cX11_chance 37 = .ok (.invokestatic 97, 3) := by decide +kernel
theorem dX11_chance_40 : decode cX11_chance 40 = .ok (.ifCond .ne 7, 3) := by decide +kernel
theorem dX11_chance_43 : decode cX11_chance 43 = .ok (.iconst 2, 1) := by decide +kernel
theorem dX11_chance_44 : decode cX11_chance 44 = .ok (.goto 4, 3) := by decide +kernel
theorem dX11_chance_47 : decode cX11_chance 47 = .ok (.iconst 0, 1) := by decide +kernel
theorem dX11_chance_48 : decode cX11_chance 48 = .ok (.putfield 82, 3) := by decide +kernel
theorem dX11_chance_51 : decode cX11_chance 51 = .ok (.sipush 256, 3) := by decide +kernel
theorem dX11_chance_54 : decode cX11_chance 54 = .ok (.iconst 4, 1) := by decide +kernel
theorem dX11_chance_55 : decode cX11_chance 55 = .ok (.iload_n 2, 1) := by decide +kernel
theorem dX11_chance_56 : decode cX11_chance 56 = .ok (.imul, 1) := by decide +kernel
theorem dX11_chance_57 : decode cX11_chance 57 = .ok (.iload_n 3, 1) := by decide +kernel
theorem dX11_chance_58 : decode cX11_chance 58 = .ok (.iadd, 1) := by decide +kernel
theorem dX11_chance_59 : decode cX11_chance 59 = .ok (.imul, 1) := by decide +kernel
theorem dX11_chance_60 : decode cX11_chance 60 = .ok (.iload 4, 2) := by decide +kernel
theorem dX11_chance_62 : decode cX11_chance 62 = .ok (.iadd, 1) := by decide +kernel
theorem dX11_chance_63 : decode cX11_chance 63 = .ok (.istore 5, 2) := by decide +kernel
theorem dX11_chance_65 : decode cX11_chance 65 = .ok (.aload_n 0, 1) := by decide +kernel
theorem dX11_chance_66 : decode cX11_chance 66 = .ok (.getfield 82, 3) := by decide +kernel
theorem dX11_chance_69 : decode cX11_chance 69 = .ok (.ifCond .le 7, 3) := by decide +kernel
theorem dX11_chance_72 : decode cX11_chance 72 = .ok (.iconst 0, 1) := by decide +kernel
theorem dX11_chance_73 : decode cX11_chance 73 = .ok (.goto 24, 3) := by decide +kernel
theorem dX11_chance_76 : decode cX11_chance 76 = .ok (.iload_n 1, 1) := by decide +kernel
theorem dX11_chance_77 : decode cX11_chance 77 = .ok (.ifCond .eq 13, 3) := by decide +kernel
theorem dX11_chance_80 : decode cX11_chance 80 = .ok (.aload_n 0, 1) := by decide +kernel
theorem dX11_chance_81 : decode cX11_chance 81 = .ok (.getfield 31, 3) := by decide +kernel
theorem dX11_chance_84 : decode cX11_chance 84 = .ok (.iload 5, 2) := by decide +kernel
theorem dX11_chance_86 : decode cX11_chance 86 = .ok (.iaload, 1) := by decide +kernel
theorem dX11_chance_87 : decode cX11_chance 87 = .ok (.goto 10, 3) := by decide +kernel
theorem dX11_chance_90 : decode cX11_chance 90 = .ok (.aload_n 0, 1) := by decide +kernel
theorem dX11_chance_91 : decode cX11_chance 91 = .ok (.getfield 34, 3) := by decide +kernel
theorem dX11_chance_94 : decode cX11_chance 94 = .ok (.iload 5, 2) := by decide +kernel
theorem dX11_chance_96 : decode cX11_chance 96 = .ok (.iaload, 1) := by decide +kernel
theorem dX11_chance_97 : decode cX11_chance 97 = .ok (.ireturn, 1) := by decide +kernel
theorem dX11_share_0 : decode cX11_share 0 = .ok (.aload_n 0, 1) := by decide +kernel
theorem dX11_share_1 : decode cX11_share 1 = .ok (.iload_n 1, 1) := by decide +kernel
theorem dX11_share_2 : decode cX11_share 2 = .ok (.iconst 0, 1) := by decide +kernel
theorem dX11_share_3 : decode cX11_share 3 = .ok (.aload_n 0, 1) := by decide +kernel
theorem dX11_share_4 : decode cX11_share 4 = .ok (.getfield 70, 3) := by decide +kernel
theorem dX11_share_7 : decode cX11_share 7 = .ok (.iconst 1, 1) := by decide +kernel
theorem dX11_share_8 : decode cX11_share 8 = .ok (.isub, 1) := by decide +kernel
theorem dX11_share_9 : decode cX11_share 9 = .ok (.invokestatic 97, 3) := by decide +kernel
theorem dX11_share_12 : decode cX11_share 12 = .ok (.ifCond .eq 7, 3) := by decide +kernel
theorem dX11_share_15 : decode cX11_share 15 = .ok (.iconst 0, 1) := by decide +kernel
theorem dX11_share_16 : decode cX11_share 16 = .ok (.goto 4, 3) := by decide +kernel
theorem dX11_share_19 : decode cX11_share 19 = .ok (.iconst 1, 1) := by decide +kernel
theorem dX11_share_20 : decode cX11_share 20 = .ok (.putfield 82, 3) := by decide +kernel
theorem dX11_share_23 : decode cX11_share 23 = .ok (.aload_n 0, 1) := by decide +kernel
theorem dX11_share_24 : decode cX11_share 24 = .ok (.getfield 82, 3) := by decide +kernel
theorem dX11_share_27 : decode cX11_share 27 = .ok (.ifCond .le 7, 3) := by decide +kernel
theorem dX11_share_30 : decode cX11_share 30 = .ok (.iconst 0, 1) := by decide +kernel
theorem dX11_share_31 : decode cX11_share 31 = .ok (.goto 9, 3) := by decide +kernel
theorem dX11_share_34 : decode cX11_share 34 = .ok (.aload_n 0, 1) := by decide +kernel
theorem dX11_share_35 : decode cX11_share 35 = .ok (.getfield 37, 3) := by decide +kernel
theorem dX11_share_38 : decode cX11_share 38 = .ok (.iload_n 1, 1) := by decide +kernel
theorem dX11_share_39 : decode cX11_share 39 = .ok (.iaload, 1) := by decide +kernel
theorem dX11_share_40 : decode cX11_share 40 = .ok (.ireturn, 1) := by decide +kernel
theorem dX11_feed_0 : decode cX11_feed 0 = .ok (.aload_n 0, 1) := by decide +kernel
theorem dX11_feed_1 : decode cX11_feed 1 = .ok (.iload_n 1, 1) := by decide +kernel
theorem dX11_feed_2 : decode cX11_feed 2 = .ok (.iconst 0, 1) := by decide +kernel
theorem dX11_feed_3 : decode cX11_feed 3 = .ok (.sipush 255, 3) := by decide +kernel
theorem dX11_feed_6 : decode cX11_feed 6 = .ok (.invokestatic 97, 3) := by decide +kernel
theorem dX11_feed_9 : decode cX11_feed 9 = .ok (.ifCond .ne 7, 3) := by decide +kernel
theorem dX11_feed_12 : decode cX11_feed 12 = .ok (.iconst 1, 1) := by decide +kernel
theorem dX11_feed_13 : decode cX11_feed 13 = .ok (.goto 18, 3) := by decide +kernel
theorem dX11_feed_16 : decode cX11_feed 16 = .ok (.aload_n 0, 1) := by decide +kernel
theorem dX11_feed_17 : decode cX11_feed 17 = .ok (.getfield 94, 3) := by decide +kernel
theorem dX11_feed_20 : decode cX11_feed 20 = .ok (.sipush 4000, 3) := by decide +kernel
theorem dX11_feed_23 : decode cX11_feed 23 = .ok (.if_icmp .ne 7, 3) := by decide +kernel
theorem dX11_feed_26 : decode cX11_feed 26 = .ok (.iconst 2, 1) := by decide +kernel
theorem dX11_feed_27 : decode cX11_feed 27 = .ok (.goto 4, 3) := by decide +kernel
theorem dX11_feed_30 : decode cX11_feed 30 = .ok (.iconst 0, 1) := by decide +kernel
theorem dX11_feed_31 : decode cX11_feed 31 = .ok (.putfield 82, 3) := by decide +kernel
theorem dX11_feed_34 : decode cX11_feed 34 = .ok (.aload_n 0, 1) := by decide +kernel
theorem dX11_feed_35 : decode cX11_feed 35 = .ok (.getfield 82, 3) := by decide +kernel
theorem dX11_feed_38 : decode cX11_feed 38 = .ok (.ifCond .le 5, 3) := by decide +kernel
theorem dX11_feed_41 : decode cX11_feed 41 = .ok (.iconst 0, 1) := by decide +kernel
theorem dX11_feed_42 : decode cX11_feed 42 = .ok (.ireturn, 1) := by decide +kernel
theorem dX11_feed_43 : decode cX11_feed 43 = .ok (.aload_n 0, 1) := by decide +kernel
theorem dX11_feed_44 : decode cX11_feed 44 = .ok (.getfield 53, 3) := by decide +kernel
theorem dX11_feed_47 : decode cX11_feed 47 = .ok (.aload_n 0, 1) := by decide +kernel
theorem dX11_feed_48 : decode cX11_feed 48 = .ok (.getfield 94, 3) := by decide +kernel
theorem dX11_feed_51 : decode cX11_feed 51 = .ok (.iload_n 1, 1) := by decide +kernel
theorem dX11_feed_52 : decode cX11_feed 52 = .ok (.iastore, 1) := by decide +kernel
theorem dX11_feed_53 : decode cX11_feed 53 = .ok (.aload_n 0, 1) := by decide +kernel
theorem dX11_feed_54 : decode cX11_feed 54 = .ok (.dup, 1) := by decide +kernel
theorem dX11_feed_55 : decode cX11_feed 55 = .ok (.getfield 94, 3) := by decide +kernel
theorem dX11_feed_58 : decode cX11_feed 58 = .ok (.iconst 1, 1) := by decide +kernel
theorem dX11_feed_59 : decode cX11_feed 59 = .ok (.iadd, 1) := by decide +kernel
theorem dX11_feed_60 : decode cX11_feed 60 = .ok (.putfield 94, 3) := by decide +kernel
theorem dX11_feed_63 : decode cX11_feed 63 = .ok (.aload_n 0, 1) := by decide +kernel
theorem dX11_feed_64 : decode cX11_feed 64 = .ok (.getfield 94, 3) := by decide +kernel
theorem dX11_feed_67 : decode cX11_feed 67 = .ok (.ireturn, 1) := by decide +kernel
theorem dX11_pass_0 : decode cX11_pass 0 = .ok (.aload_n 0, 1) := by decide +kernel
theorem dX11_pass_1 : decode cX11_pass 1 = .ok (.aload_n 0, 1) := by decide +kernel
theorem dX11_pass_2 : decode cX11_pass 2 = .ok (.getfield 94, 3) := by decide +kernel
theorem dX11_pass_5 : decode cX11_pass 5 = .ok (.aload_n 0, 1) := by decide +kernel
theorem dX11_pass_6 : decode cX11_pass 6 = .ok (.getfield 91, 3) := by decide +kernel
theorem dX11_pass_9 : decode cX11_pass 9 = .ok (.iadd, 1) := by decide +kernel
theorem dX11_pass_10 : decode cX11_pass 10 = .ok (.sipush 4000, 3) := by decide +kernel
theorem dX11_pass_13 : decode cX11_pass 13 = .ok (.if_icmp .le 7, 3) := by decide +kernel
theorem dX11_pass_16 : decode cX11_pass 16 = .ok (.iconst 1, 1) := by decide +kernel
theorem dX11_pass_17 : decode cX11_pass 17 = .ok (.goto 4, 3) := by decide +kernel
theorem dX11_pass_20 : decode cX11_pass 20 = .ok (.iconst 0, 1) := by decide +kernel
theorem dX11_pass_21 : decode cX11_pass 21 = .ok (.putfield 82, 3) := by decide +kernel
theorem dX11_pass_24 : decode cX11_pass 24 = .ok (.aload_n 0, 1) := by decide +kernel
theorem dX11_pass_25 : decode cX11_pass 25 = .ok (.getfield 82, 3) := by decide +kernel
theorem dX11_pass_28 : decode cX11_pass 28 = .ok (.ifCond .le 5, 3) := by decide +kernel
theorem dX11_pass_31 : decode cX11_pass 31 = .ok (.iconst 0, 1) := by decide +kernel
theorem dX11_pass_32 : decode cX11_pass 32 = .ok (.ireturn, 1) := by decide +kernel
theorem dX11_pass_33 : decode cX11_pass 33 = .ok (.iconst 0, 1) := by decide +kernel
theorem dX11_pass_34 : decode cX11_pass 34 = .ok (.istore_n 1, 1) := by decide +kernel
theorem dX11_pass_35 : decode cX11_pass 35 = .ok (.iload_n 1, 1) := by decide +kernel
theorem dX11_pass_36 : decode cX11_pass 36 = .ok (.aload_n 0, 1) := by decide +kernel
theorem dX11_pass_37 : decode cX11_pass 37 = .ok (.getfield 91, 3) := by decide +kernel
theorem dX11_pass_40 : decode cX11_pass 40 = .ok (.if_icmp .ge 34, 3) := by decide +kernel
theorem dX11_pass_43 : decode cX11_pass 43 = .ok (.aload_n 0, 1) := by decide +kernel
theorem dX11_pass_44 : decode cX11_pass 44 = .ok (.getfield 53, 3) := by decide +kernel
theorem dX11_pass_47 : decode cX11_pass 47 = .ok (.aload_n 0, 1) := by decide +kernel
theorem dX11_pass_48 : decode cX11_pass 48 = .ok (.getfield 94, 3) := by decide +kernel
theorem dX11_pass_51 : decode cX11_pass 51 = .ok (.aload_n 0, 1) := by decide +kernel
theorem dX11_pass_52 : decode cX11_pass 52 = .ok (.getfield 50, 3) := by decide +kernel
theorem dX11_pass_55 : decode cX11_pass 55 = .ok (.iload_n 1, 1) := by decide +kernel
theorem dX11_pass_56 : decode cX11_pass 56 = .ok (.iaload, 1) := by decide +kernel
theorem dX11_pass_57 : decode cX11_pass 57 = .ok (.iastore, 1) := by decide +kernel
theorem dX11_pass_58 : decode cX11_pass 58 = .ok (.aload_n 0, 1) := by decide +kernel
theorem dX11_pass_59 : decode cX11_pass 59 = .ok (.dup, 1) := by decide +kernel
theorem dX11_pass_60 : decode cX11_pass 60 = .ok (.getfield 94, 3) := by decide +kernel
theorem dX11_pass_63 : decode cX11_pass 63 = .ok (.iconst 1, 1) := by decide +kernel
theorem dX11_pass_64 : decode cX11_pass 64 = .ok (.iadd, 1) := by decide +kernel
theorem dX11_pass_65 : decode cX11_pass 65 = .ok (.putfield 94, 3) := by decide +kernel
theorem dX11_pass_68 : decode cX11_pass 68 = .ok (.iinc 1 1, 3) := by decide +kernel
theorem dX11_pass_71 : decode cX11_pass 71 = .ok (.goto (-36), 3) := by decide +kernel
theorem dX11_pass_74 : decode cX11_pass 74 = .ok (.aload_n 0, 1) := by decide +kernel
theorem dX11_pass_75 : decode cX11_pass 75 = .ok (.getfield 94, 3) := by decide +kernel
theorem dX11_pass_78 : decode cX11_pass 78 = .ok (.ireturn, 1) := by decide +kernel
theorem dX11_poke_0 : decode cX11_poke 0 = .ok (.aload_n 0, 1) := by decide +kernel
theorem dX11_poke_1 : decode cX11_poke 1 = .ok (.iload_n 1, 1) := by decide +kernel
theorem dX11_poke_2 : decode cX11_poke 2 = .ok (.iconst 0, 1) := by decide +kernel
theorem dX11_poke_3 : decode cX11_poke 3 = .ok (.aload_n 0, 1) := by decide +kernel
theorem dX11_poke_4 : decode cX11_poke 4 = .ok (.getfield 94, 3) := by decide +kernel
theorem dX11_poke_7 : decode cX11_poke 7 = .ok (.iconst 1, 1) := by decide +kernel
theorem dX11_poke_8 : decode cX11_poke 8 = .ok (.isub, 1) := by decide +kernel
theorem dX11_poke_9 : decode cX11_poke 9 = .ok (.invokestatic 97, 3) := by decide +kernel
theorem dX11_poke_12 : decode cX11_poke 12 = .ok (.ifCond .ne 7, 3) := by decide +kernel
theorem dX11_poke_15 : decode cX11_poke 15 = .ok (.iconst 1, 1) := by decide +kernel
theorem dX11_poke_16 : decode cX11_poke 16 = .ok (.goto 19, 3) := by decide +kernel
theorem dX11_poke_19 : decode cX11_poke 19 = .ok (.iload_n 2, 1) := by decide +kernel
theorem dX11_poke_20 : decode cX11_poke 20 = .ok (.iconst 0, 1) := by decide +kernel
theorem dX11_poke_21 : decode cX11_poke 21 = .ok (.sipush 255, 3) := by decide +kernel
theorem dX11_poke_24 : decode cX11_poke 24 = .ok (.invokestatic 97, 3) := by decide +kernel
theorem dX11_poke_27 : decode cX11_poke 27 = .ok (.ifCond .ne 7, 3) := by decide +kernel
theorem dX11_poke_30 : decode cX11_poke 30 = .ok (.iconst 2, 1) := by decide +kernel
theorem dX11_poke_31 : decode cX11_poke 31 = .ok (.goto 4, 3) := by decide +kernel
theorem dX11_poke_34 : decode cX11_poke 34 = .ok (.iconst 0, 1) := by decide +kernel
theorem dX11_poke_35 : decode cX11_poke 35 = .ok (.putfield 82, 3) := by decide +kernel
theorem dX11_poke_38 : decode cX11_poke 38 = .ok (.aload_n 0, 1) := by decide +kernel
theorem dX11_poke_39 : decode cX11_poke 39 = .ok (.getfield 82, 3) := by decide +kernel
theorem dX11_poke_42 : decode cX11_poke 42 = .ok (.ifCond .le 5, 3) := by decide +kernel
theorem dX11_poke_45 : decode cX11_poke 45 = .ok (.iconst 0, 1) := by decide +kernel
theorem dX11_poke_46 : decode cX11_poke 46 = .ok (.ireturn, 1) := by decide +kernel
theorem dX11_poke_47 : decode cX11_poke 47 = .ok (.aload_n 0, 1) := by decide +kernel
theorem dX11_poke_48 : decode cX11_poke 48 = .ok (.getfield 53, 3) := by decide +kernel
theorem dX11_poke_51 : decode cX11_poke 51 = .ok (.iload_n 1, 1) := by decide +kernel
theorem dX11_poke_52 : decode cX11_poke 52 = .ok (.dup2, 1) := by decide +kernel
theorem dX11_poke_53 : decode cX11_poke 53 = .ok (.iaload, 1) := by decide +kernel
theorem dX11_poke_54 : decode cX11_poke 54 = .ok (.iload_n 2, 1) := by decide +kernel
theorem dX11_poke_55 : decode cX11_poke 55 = .ok (.ixor, 1) := by decide +kernel
theorem dX11_poke_56 : decode cX11_poke 56 = .ok (.iastore, 1) := by decide +kernel
theorem dX11_poke_57 : decode cX11_poke 57 = .ok (.aload_n 0, 1) := by decide +kernel
theorem dX11_poke_58 : decode cX11_poke 58 = .ok (.getfield 53, 3) := by decide +kernel
theorem dX11_poke_61 : decode cX11_poke 61 = .ok (.iload_n 1, 1) := by decide +kernel
theorem dX11_poke_62 : decode cX11_poke 62 = .ok (.iaload, 1) := by decide +kernel
theorem dX11_poke_63 : decode cX11_poke 63 = .ok (.ireturn, 1) := by decide +kernel
theorem dX11_isGood_0 : decode cX11_isGood 0 = .ok (.iload_n 1, 1) := by decide +kernel
theorem dX11_isGood_1 : decode cX11_isGood 1 = .ok (.iconst 4, 1) := by decide +kernel
theorem dX11_isGood_2 : decode cX11_isGood 2 = .ok (.iadd, 1) := by decide +kernel
theorem dX11_isGood_3 : decode cX11_isGood 3 = .ok (.aload_n 0, 1) := by decide +kernel
theorem dX11_isGood_4 : decode cX11_isGood 4 = .ok (.getfield 94, 3) := by decide +kernel
theorem dX11_isGood_7 : decode cX11_isGood 7 = .ok (.if_icmp .gt 13, 3) := by decide +kernel
theorem dX11_isGood_10 : decode cX11_isGood 10 = .ok (.aload_n 0, 1) := by decide +kernel
theorem dX11_isGood_11 : decode cX11_isGood 11 = .ok (.getfield 53, 3) := by decide +kernel
theorem dX11_isGood_14 : decode cX11_isGood 14 = .ok (.iload_n 1, 1) := by decide +kernel
theorem dX11_isGood_15 : decode cX11_isGood 15 = .ok (.iaload, 1) := by decide +kernel
theorem dX11_isGood_16 : decode cX11_isGood 16 = .ok (.iconst 1, 1) := by decide +kernel
theorem dX11_isGood_17 : decode cX11_isGood 17 = .ok (.if_icmp .le 5, 3) := by decide +kernel
theorem dX11_isGood_20 : decode cX11_isGood 20 = .ok (.iconst 0, 1) := by decide +kernel
theorem dX11_isGood_21 : decode cX11_isGood 21 = .ok (.ireturn, 1) := by decide +kernel
theorem dX11_isGood_22 : decode cX11_isGood 22 = .ok (.aload_n 0, 1) := by decide +kernel
theorem dX11_isGood_23 : decode cX11_isGood 23 = .ok (.getfield 53, 3) := by decide +kernel
theorem dX11_isGood_26 : decode cX11_isGood 26 = .ok (.iload_n 1, 1) := by decide +kernel
theorem dX11_isGood_27 : decode cX11_isGood 27 = .ok (.iconst 1, 1) := by decide +kernel
theorem dX11_isGood_28 : decode cX11_isGood 28 = .ok (.iadd, 1) := by decide +kernel
theorem dX11_isGood_29 : decode cX11_isGood 29 = .ok (.iaload, 1) := by decide +kernel
theorem dX11_isGood_30 : decode cX11_isGood 30 = .ok (.sipush 256, 3) := by decide +kernel
theorem dX11_isGood_33 : decode cX11_isGood 33 = .ok (.aload_n 0, 1) := by decide +kernel
theorem dX11_isGood_34 : decode cX11_isGood 34 = .ok (.getfield 53, 3) := by decide +kernel
theorem dX11_isGood_37 : decode cX11_isGood 37 = .ok (.iload_n 1, 1) := by decide +kernel
theorem dX11_isGood_38 : decode cX11_isGood 38 = .ok (.iconst 2, 1) := by decide +kernel
theorem dX11_isGood_39 : decode cX11_isGood 39 = .ok (.iadd, 1) := by decide +kernel
theorem dX11_isGood_40 : decode cX11_isGood 40 = .ok (.iaload, 1) := by decide +kernel
theorem dX11_isGood_41 : decode cX11_isGood 41 = .ok (.imul, 1) := by decide +kernel
theorem dX11_isGood_42 : decode cX11_isGood 42 = .ok (.iadd, 1) := by decide +kernel
theorem dX11_isGood_43 : decode cX11_isGood 43 = .ok (.istore_n 3, 1) := by decide +kernel
theorem dX11_isGood_44 : decode cX11_isGood 44 = .ok (.iload_n 1, 1) := by decide +kernel
theorem dX11_isGood_45 : decode cX11_isGood 45 = .ok (.iconst 4, 1) := by decide +kernel
theorem dX11_isGood_46 : decode cX11_isGood 46 = .ok (.iadd, 1) := by decide +kernel
theorem dX11_isGood_47 : decode cX11_isGood 47 = .ok (.iload_n 3, 1) := by decide +kernel
theorem dX11_isGood_48 : decode cX11_isGood 48 = .ok (.iadd, 1) := by decide +kernel
theorem dX11_isGood_49 : decode cX11_isGood 49 = .ok (.aload_n 0, 1) := by decide +kernel
theorem dX11_isGood_50 : decode cX11_isGood 50 = .ok (.getfield 94, 3) := by decide +kernel
theorem dX11_isGood_53 : decode cX11_isGood 53 = .ok (.if_icmp .le 5, 3) := by decide +kernel
theorem dX11_isGood_56 : decode cX11_isGood 56 = .ok (.iconst 0, 1) := by decide +kernel
theorem dX11_isGood_57 : decode cX11_isGood 57 = .ok (.ireturn, 1) := by decide +kernel
theorem dX11_isGood_58 : decode cX11_isGood 58 = .ok (.sipush 165, 3) := by decide +kernel
theorem dX11_isGood_61 : decode cX11_isGood 61 = .ok (.aload_n 0, 1) := by decide +kernel
theorem dX11_isGood_62 : decode cX11_isGood 62 = .ok (.getfield 53, 3) := by decide +kernel
theorem dX11_isGood_65 : decode cX11_isGood 65 = .ok (.iload_n 1, 1) := by decide +kernel
theorem dX11_isGood_66 : decode cX11_isGood 66 = .ok (.iconst 1, 1) := by decide +kernel
theorem dX11_isGood_67 : decode cX11_isGood 67 = .ok (.iadd, 1) := by decide +kernel
theorem dX11_isGood_68 : decode cX11_isGood 68 = .ok (.iaload, 1) := by decide +kernel
theorem dX11_isGood_69 : decode cX11_isGood 69 = .ok (.ixor, 1) := by decide +kernel
theorem dX11_isGood_70 : decode cX11_isGood 70 = .ok (.aload_n 0, 1) := by decide +kernel
theorem dX11_isGood_71 : decode cX11_isGood 71 = .ok (.getfield 53, 3) := by decide +kernel
theorem dX11_isGood_74 : decode cX11_isGood 74 = .ok (.iload_n 1, 1) := by decide +kernel
theorem dX11_isGood_75 : decode cX11_isGood 75 = .ok (.iconst 2, 1) := by decide +kernel
theorem dX11_isGood_76 : decode cX11_isGood 76 = .ok (.iadd, 1) := by decide +kernel
theorem dX11_isGood_77 : decode cX11_isGood 77 = .ok (.iaload, 1) := by decide +kernel
theorem dX11_isGood_78 : decode cX11_isGood 78 = .ok (.ixor, 1) := by decide +kernel
theorem dX11_isGood_79 : decode cX11_isGood 79 = .ok (.istore 4, 2) := by decide +kernel
theorem dX11_isGood_81 : decode cX11_isGood 81 = .ok (.iconst 1, 1) := by decide +kernel
theorem dX11_isGood_82 : decode cX11_isGood 82 = .ok (.istore 5, 2) := by decide +kernel
theorem dX11_isGood_84 : decode cX11_isGood 84 = .ok (.iload_n 1, 1) := by decide +kernel
theorem dX11_isGood_85 : decode cX11_isGood 85 = .ok (.iconst 4, 1) := by decide +kernel
theorem dX11_isGood_86 : decode cX11_isGood 86 = .ok (.iadd, 1) := by decide +kernel
theorem dX11_isGood_87 : decode cX11_isGood 87 = .ok (.istore 6, 2) := by decide +kernel
theorem dX11_isGood_89 : decode cX11_isGood 89 = .ok (.iload 6, 2) := by decide +kernel
theorem dX11_isGood_91 : decode cX11_isGood 91 = .ok (.iload_n 1, 1) := by decide +kernel
theorem dX11_isGood_92 : decode cX11_isGood 92 = .ok (.iconst 4, 1) := by decide +kernel
theorem dX11_isGood_93 : decode cX11_isGood 93 = .ok (.iadd, 1) := by decide +kernel
theorem dX11_isGood_94 : decode cX11_isGood 94 = .ok (.iload_n 3, 1) := by decide +kernel
theorem dX11_isGood_95 : decode cX11_isGood 95 = .ok (.iadd, 1) := by decide +kernel
theorem dX11_isGood_96 : decode cX11_isGood 96 = .ok (.if_icmp .ge 47, 3) := by decide +kernel
theorem dX11_isGood_99 : decode cX11_isGood 99 = .ok (.iload 4, 2) := by decide +kernel
theorem dX11_isGood_101 : decode cX11_isGood 101 = .ok (.aload_n 0, 1) := by decide +kernel
theorem dX11_isGood_102 : decode cX11_isGood 102 = .ok (.getfield 53, 3) := by decide +kernel
theorem dX11_isGood_105 : decode cX11_isGood 105 = .ok (.iload 6, 2) := by decide +kernel
theorem dX11_isGood_107 : decode cX11_isGood 107 = .ok (.iaload, 1) := by decide +kernel
theorem dX11_isGood_108 : decode cX11_isGood 108 = .ok (.ixor, 1) := by decide +kernel
theorem dX11_isGood_109 : decode cX11_isGood 109 = .ok (.istore 4, 2) := by decide +kernel
theorem dX11_isGood_111 : decode cX11_isGood 111 = .ok (.iload 5, 2) := by decide +kernel
theorem dX11_isGood_113 : decode cX11_isGood 113 = .ok (.ifCond .eq 21, 3) := by decide +kernel
theorem dX11_isGood_116 : decode cX11_isGood 116 = .ok (.aload_n 0, 1) := by decide +kernel
theorem dX11_isGood_117 : decode cX11_isGood 117 = .ok (.getfield 53, 3) := by decide +kernel
theorem dX11_isGood_120 : decode cX11_isGood 120 = .ok (.iload 6, 2) := by decide +kernel
theorem dX11_isGood_122 : decode cX11_isGood 122 = .ok (.iaload, 1) := by decide +kernel
theorem dX11_isGood_123 : decode cX11_isGood 123 = .ok (.aload_n 0, 1) := by decide +kernel
theorem dX11_isGood_124 : decode cX11_isGood 124 = .ok (.getfield 76, 3) := by decide +kernel
theorem dX11_isGood_127 : decode cX11_isGood 127 = .ok (.if_icmp .ge 7, 3) := by decide +kernel
theorem dX11_isGood_130 : decode cX11_isGood 130 = .ok (.iconst 1, 1) := by decide +kernel
theorem dX11_isGood_131 : decode cX11_isGood 131 = .ok (.goto 4, 3) := by decide +kernel
theorem dX11_isGood_134 : decode cX11_isGood 134 = .ok (.iconst 0, 1) := by decide +kernel
theorem dX11_isGood_135 : decode cX11_isGood 135 = .ok (.istore 5, 2) := by decide +kernel
theorem dX11_isGood_137 : decode cX11_isGood 137 = .ok (.iinc 6 1, 3) := by decide +kernel
theorem dX11_isGood_140 : decode cX11_isGood 140 = .ok (.goto (-51), 3) := by decide +kernel
theorem dX11_isGood_143 : decode cX11_isGood 143 = .ok (.iload 4, 2) := by decide +kernel
theorem dX11_isGood_145 : decode cX11_isGood 145 = .ok (.aload_n 0, 1) := by decide +kernel
theorem dX11_isGood_146 : decode cX11_isGood 146 = .ok (.getfield 53, 3) := by decide +kernel
theorem dX11_isGood_149 : decode cX11_isGood 149 = .ok (.iload_n 1, 1) := by decide +kernel
theorem dX11_isGood_150 : decode cX11_isGood 150 = .ok (.iconst 3, 1) := by decide +kernel
theorem dX11_isGood_151 : decode cX11_isGood 151 = .ok (.iadd, 1) := by decide +kernel
theorem dX11_isGood_152 : decode cX11_isGood 152 = .ok (.iaload, 1) := by decide +kernel
theorem dX11_isGood_153 : decode cX11_isGood 153 = .ok (.if_icmp .ne 31, 3) := by decide +kernel
theorem dX11_isGood_156 : decode cX11_isGood 156 = .ok (.aload_n 0, 1) := by decide +kernel
theorem dX11_isGood_157 : decode cX11_isGood 157 = .ok (.getfield 53, 3) := by decide +kernel
theorem dX11_isGood_160 : decode cX11_isGood 160 = .ok (.iload_n 1, 1) := by decide +kernel
theorem dX11_isGood_161 : decode cX11_isGood 161 = .ok (.iaload, 1) := by decide +kernel
theorem dX11_isGood_162 : decode cX11_isGood 162 = .ok (.iconst 1, 1) := by decide +kernel
theorem dX11_isGood_163 : decode cX11_isGood 163 = .ok (.if_icmp .eq 17, 3) := by decide +kernel
theorem dX11_isGood_166 : decode cX11_isGood 166 = .ok (.iload_n 3, 1) := by decide +kernel
theorem dX11_isGood_167 : decode cX11_isGood 167 = .ok (.aload_n 0, 1) := by decide +kernel
theorem dX11_isGood_168 : decode cX11_isGood 168 = .ok (.iload_n 2, 1) := by decide +kernel
theorem dX11_isGood_169 : decode cX11_isGood 169 = .ok (.invokevirtual 202, 3) := by decide +kernel
theorem dX11_isGood_172 : decode cX11_isGood 172 = .ok (.if_icmp .ne 12, 3) := by decide +kernel
theorem dX11_isGood_175 : decode cX11_isGood 175 = .ok (.iload 5, 2) := by decide +kernel
theorem dX11_isGood_177 : decode cX11_isGood 177 = .ok (.ifCond .eq 7, 3) := by decide +kernel
theorem dX11_isGood_180 : decode cX11_isGood 180 = .ok (.iconst 1, 1) := by decide +kernel
theorem dX11_isGood_181 : decode cX11_isGood 181 = .ok (.goto 4, 3) := by decide +kernel
theorem dX11_isGood_184 : decode cX11_isGood 184 = .ok (.iconst 0, 1) := by decide +kernel
theorem dX11_isGood_185 : decode cX11_isGood 185 = .ok (.ireturn, 1) := by decide +kernel
theorem dX11_readPlain_0 : decode cX11_readPlain 0 = .ok (.iload_n 1, 1) := by decide +kernel
theorem dX11_readPlain_1 : decode cX11_readPlain 1 = .ok (.istore_n 3, 1) := by decide +kernel
theorem dX11_readPlain_2 : decode cX11_readPlain 2 = .ok (.iload_n 2, 1) := by decide +kernel
theorem dX11_readPlain_3 : decode cX11_readPlain 3 = .ok (.aload_n 0, 1) := by decide +kernel
theorem dX11_readPlain_4 : decode cX11_readPlain 4 = .ok (.invokevirtual 182, 3) := by decide +kernel
theorem dX11_readPlain_7 : decode cX11_readPlain 7 = .ok (.idiv, 1) := by decide +kernel
theorem dX11_readPlain_8 : decode cX11_readPlain 8 = .ok (.bipush 8, 2) := by decide +kernel
theorem dX11_readPlain_10 : decode cX11_readPlain 10 = .ok (.imul, 1) := by decide +kernel
theorem dX11_readPlain_11 : decode cX11_readPlain 11 = .ok (.istore 4, 2) := by decide +kernel
theorem dX11_readPlain_13 : decode cX11_readPlain 13 = .ok (.iload 4, 2) := by decide +kernel
theorem dX11_readPlain_15 : decode cX11_readPlain 15 = .ok (.aload_n 0, 1) := by decide +kernel
theorem dX11_readPlain_16 : decode cX11_readPlain 16 = .ok (.iload_n 2, 1) := by decide +kernel
theorem dX11_readPlain_17 : decode cX11_readPlain 17 = .ok (.invokevirtual 188, 3) := by decide +kernel
theorem dX11_readPlain_20 : decode cX11_readPlain 20 = .ok (.if_icmp .ge 77, 3) := by decide +kernel
theorem dX11_readPlain_23 : decode cX11_readPlain 23 = .ok (.iload_n 2, 1) := by decide +kernel
theorem dX11_readPlain_24 : decode cX11_readPlain 24 = .ok (.aload_n 0, 1) := by decide +kernel
theorem dX11_readPlain_25 : decode cX11_readPlain 25 = .ok (.invokevirtual 182, 3) := by decide +kernel
theorem dX11_readPlain_28 : decode cX11_readPlain 28 = .ok (.irem, 1) := by decide +kernel
theorem dX11_readPlain_29 : decode cX11_readPlain 29 = .ok (.bipush 8, 2) := by decide +kernel
theorem dX11_readPlain_31 : decode cX11_readPlain 31 = .ok (.imul, 1) := by decide +kernel
theorem dX11_readPlain_32 : decode cX11_readPlain 32 = .ok (.istore 5, 2) := by decide +kernel
theorem dX11_readPlain_34 : decode cX11_readPlain 34 = .ok (.iload 5, 2) := by decide +kernel
theorem dX11_readPlain_36 : decode cX11_readPlain 36 = .ok (.aload_n 0, 1) := by decide +kernel
theorem dX11_readPlain_37 : decode cX11_readPlain 37 = .ok (.iload_n 2, 1) := by decide +kernel
theorem dX11_readPlain_38 : decode cX11_readPlain 38 = .ok (.invokevirtual 185, 3) := by decide +kernel
theorem dX11_readPlain_41 : decode cX11_readPlain 41 = .ok (.if_icmp .ge 50, 3) := by decide +kernel
theorem dX11_readPlain_44 : decode cX11_readPlain 44 = .ok (.iconst 0, 1) := by decide +kernel
theorem dX11_readPlain_45 : decode cX11_readPlain 45 = .ok (.istore 6, 2) := by decide +kernel
theorem dX11_readPlain_47 : decode cX11_readPlain 47 = .ok (.iload 6, 2) := by decide +kernel
theorem dX11_readPlain_49 : decode cX11_readPlain 49 = .ok (.aload_n 0, 1) := by decide +kernel
theorem dX11_readPlain_50 : decode cX11_readPlain 50 = .ok (.getfield 70, 3) := by decide +kernel
theorem dX11_readPlain_53 : decode cX11_readPlain 53 = .ok (.if_icmp .ge 32, 3) := by decide +kernel
theorem dX11_readPlain_56 : decode cX11_readPlain 56 = .ok (.aload_n 0, 1) := by decide +kernel
theorem dX11_readPlain_57 : decode cX11_readPlain 57 = .ok (.getfield 7, 3) := by decide +kernel
theorem dX11_readPlain_60 : decode cX11_readPlain 60 = .ok (.iload 5, 2) := by decide +kernel
theorem dX11_readPlain_62 : decode cX11_readPlain 62 = .ok (.iload 4, 2) := by decide +kernel
theorem dX11_readPlain_64 : decode cX11_readPlain 64 = .ok (.iload 6, 2) := by decide +kernel
theorem dX11_readPlain_66 : decode cX11_readPlain 66 = .ok (.invokestatic 104, 3) := by decide +kernel
theorem dX11_readPlain_69 : decode cX11_readPlain 69 = .ok (.aload_n 0, 1) := by decide +kernel
theorem dX11_readPlain_70 : decode cX11_readPlain 70 = .ok (.getfield 53, 3) := by decide +kernel
theorem dX11_readPlain_73 : decode cX11_readPlain 73 = .ok (.iload_n 3, 1) := by decide +kernel
theorem dX11_readPlain_74 : decode cX11_readPlain 74 = .ok (.iaload, 1) := by decide +kernel
theorem dX11_readPlain_75 : decode cX11_readPlain 75 = .ok (.iastore, 1) := by decide +kernel
theorem dX11_readPlain_76 : decode cX11_readPlain 76 = .ok (.iinc 3 1, 3) := by decide +kernel
theorem dX11_readPlain_79 : decode cX11_readPlain 79 = .ok (.iinc 6 1, 3) := by decide +kernel
theorem dX11_readPlain_82 : decode cX11_readPlain 82 = .ok (.goto (-35), 3) := by decide +kernel
theorem dX11_readPlain_85 : decode cX11_readPlain 85 = .ok (.iinc 5 1, 3) := by decide +kernel
theorem dX11_readPlain_88 : decode cX11_readPlain 88 = .ok (.goto (-54), 3) := by decide +kernel
theorem dX11_readPlain_91 : decode cX11_readPlain 91 = .ok (.iinc 4 1, 3) := by decide +kernel
theorem dX11_readPlain_94 : decode cX11_readPlain 94 = .ok (.goto (-81), 3) := by decide +kernel
theorem dX11_readPlain_97 : decode cX11_readPlain 97 = .ok (.return_, 1) := by decide +kernel
theorem dX11_readTile_0 : decode cX11_readTile 0 = .ok (.aload_n 0, 1) := by decide +kernel
theorem dX11_readTile_1 : decode cX11_readTile 1 = .ok (.iconst 0, 1) := by decide +kernel
theorem dX11_readTile_2 : decode cX11_readTile 2 = .ok (.putfield 140, 3) := by decide +kernel
theorem dX11_readTile_5 : decode cX11_readTile 5 = .ok (.aload_n 0, 1) := by decide +kernel
theorem dX11_readTile_6 : decode cX11_readTile 6 = .ok (.iload_n 1, 1) := by decide +kernel
theorem dX11_readTile_7 : decode cX11_readTile 7 = .ok (.putfield 124, 3) := by decide +kernel
theorem dX11_readTile_10 : decode cX11_readTile 10 = .ok (.aload_n 0, 1) := by decide +kernel
theorem dX11_readTile_11 : decode cX11_readTile 11 = .ok (.iload_n 1, 1) := by decide +kernel
theorem dX11_readTile_12 : decode cX11_readTile 12 = .ok (.iload_n 2, 1) := by decide +kernel
theorem dX11_readTile_13 : decode cX11_readTile 13 = .ok (.iadd, 1) := by decide +kernel
theorem dX11_readTile_14 : decode cX11_readTile 14 = .ok (.putfield 127, 3) := by decide +kernel
theorem dX11_readTile_17 : decode cX11_readTile 17 = .ok (.aload_n 0, 1) := by decide +kernel
theorem dX11_readTile_18 : decode cX11_readTile 18 = .ok (.lconst 0, 1) := by decide +kernel
theorem dX11_readTile_19 : decode cX11_readTile 19 = .ok (.putfield 148, 3) := by decide +kernel
theorem dX11_readTile_22 : decode cX11_readTile 22 = .ok (.iconst 0, 1) := by decide +kernel
theorem dX11_readTile_23 : decode cX11_readTile 23 = .ok (.istore 4, 2) := by decide +kernel
theorem dX11_readTile_25 : decode cX11_readTile 25 = .ok (.iload 4, 2) := by decide +kernel
theorem dX11_readTile_27 : decode cX11_readTile 27 = .ok (.iconst 4, 1) := by decide +kernel
theorem dX11_readTile_28 : decode cX11_readTile 28 = .ok (.if_icmp .ge 26, 3) := by decide +kernel
theorem dX11_readTile_31 : decode cX11_readTile 31 = .ok (.aload_n 0, 1) := by decide +kernel
theorem dX11_readTile_32 : decode cX11_readTile 32 = .ok (.aload_n 0, 1) := by decide +kernel
theorem dX11_readTile_33 : decode cX11_readTile 33 = .ok (.getfield 148, 3) := by decide +kernel
theorem dX11_readTile_36 : decode cX11_readTile 36 = .ok (.bipush 8, 2) := by decide +kernel
theorem dX11_readTile_38 : decode cX11_readTile 38 = .ok (.lshl, 1) := by decide +kernel
theorem dX11_readTile_39 : decode cX11_readTile 39 = .ok (.aload_n 0, 1) := by decide +kernel
theorem dX11_readTile_40 : decode cX11_readTile 40 = .ok (.invokevirtual 153, 3) := by decide +kernel
theorem dX11_readTile_43 : decode cX11_readTile 43 = .ok (.i2l, 1) := by decide +kernel
theorem dX11_readTile_44 : decode cX11_readTile 44 = .ok (.ladd, 1) := by decide +kernel
theorem dX11_readTile_45 : decode cX11_readTile 45 = .ok (.putfield 148, 3) := by decide +kernel
theorem dX11_readTile_48 : decode cX11_readTile 48 = .ok (.iinc 4 1, 3) := by decide +kernel
theorem dX11_readTile_51 : decode cX11_readTile 51 = .ok (.goto (-26), 3) := by decide +kernel
theorem dX11_readTile_54 : decode cX11_readTile 54 = .ok (.aload_n 0, 1) := by decide +kernel
theorem dX11_readTile_55 : decode cX11_readTile 55 = .ok (.iload_n 3, 1) := by decide +kernel
theorem dX11_readTile_56 : decode cX11_readTile 56 = .ok (.invokevirtual 197, 3) := by decide +kernel
theorem dX11_readTile_59 : decode cX11_readTile 59 = .ok (.return_, 1) := by decide +kernel
theorem dX11_decode_0 : decode cX11_decode 0 = .ok (.aload_n 0, 1) := by decide +kernel
theorem dX11_decode_1 : decode cX11_decode 1 = .ok (.iconst 0, 1) := by decide +kernel
theorem dX11_decode_2 : decode cX11_decode 2 = .ok (.putfield 82, 3) := by decide +kernel
theorem dX11_decode_5 : decode cX11_decode 5 = .ok (.iconst 0, 1) := by decide +kernel
theorem dX11_decode_6 : decode cX11_decode 6 = .ok (.istore_n 1, 1) := by decide +kernel
theorem dX11_decode_7 : decode cX11_decode 7 = .ok (.iconst 0, 1) := by decide +kernel
theorem dX11_decode_8 : decode cX11_decode 8 = .ok (.istore_n 2, 1) := by decide +kernel
theorem dX11_decode_9 : decode cX11_decode 9 = .ok (.iconst 0, 1) := by decide +kernel
theorem dX11_decode_10 : decode cX11_decode 10 = .ok (.istore_n 3, 1) := by decide +kernel
theorem dX11_decode_11 : decode cX11_decode 11 = .ok (.iload_n 3, 1) := by decide +kernel
theorem dX11_decode_12 : decode cX11_decode 12 = .ok (.aload_n 0, 1) := by decide +kernel
theorem dX11_decode_13 : decode cX11_decode 13 = .ok (.invokevirtual 194, 3) := by decide +kernel
theorem dX11_decode_16 : decode cX11_decode 16 = .ok (.if_icmp .ge 95, 3) := by decide +kernel
theorem dX11_decode_19 : decode cX11_decode 19 = .ok (.aload_n 0, 1) := by decide +kernel
theorem dX11_decode_20 : decode cX11_decode 20 = .ok (.iload_n 1, 1) := by decide +kernel
theorem dX11_decode_21 : decode cX11_decode 21 = .ok (.iload_n 3, 1) := by decide +kernel
theorem dX11_decode_22 : decode cX11_decode 22 = .ok (.invokevirtual 211, 3) := by decide +kernel
theorem dX11_decode_25 : decode cX11_decode 25 = .ok (.ifCond .ne 12, 3) := by decide +kernel
theorem dX11_decode_28 : decode cX11_decode 28 = .ok (.aload_n 0, 1) := by decide +kernel
theorem dX11_decode_29 : decode cX11_decode 29 = .ok (.iconst 0, 1) := by decide +kernel
theorem dX11_decode_30 : decode cX11_decode 30 = .ok (.putfield 94, 3) := by decide +kernel
theorem dX11_decode_33 : decode cX11_decode 33 = .ok (.iconst (-1), 1) := by decide +kernel
theorem dX11_decode_34 : decode cX11_decode 34 = .ok (.iload_n 3, 1) := by decide +kernel
theorem dX11_decode_35 : decode cX11_decode 35 = .ok (.isub, 1) := by decide +kernel
theorem dX11_decode_36 : decode cX11_decode 36 = .ok (.ireturn, 1) := by decide +kernel
theorem dX11_decode_37 : decode cX11_decode 37 = .ok (.aload_n 0, 1) := by decide +kernel
theorem dX11_decode_38 : decode cX11_decode 38 = .ok (.getfield 53, 3) := by decide +kernel
theorem dX11_decode_41 : decode cX11_decode 41 = .ok (.iload_n 1, 1) := by decide +kernel
theorem dX11_decode_42 : decode cX11_decode 42 = .ok (.iconst 1, 1) := by decide +kernel
theorem dX11_decode_43 : decode cX11_decode 43 = .ok (.iadd, 1) := by decide +kernel
theorem dX11_decode_44 : decode cX11_decode 44 = .ok (.iaload, 1) := by decide +kernel
theorem dX11_decode_45 : decode cX11_decode 45 = .ok (.sipush 256, 3) := by decide +kernel
theorem dX11_decode_48 : decode cX11_decode 48 = .ok (.aload_n 0, 1) := by decide +kernel
theorem dX11_decode_49 : decode cX11_decode 49 = .ok (.getfield 53, 3) := by decide +kernel
theorem dX11_decode_52 : decode cX11_decode 52 = .ok (.iload_n 1, 1) := by decide +kernel
theorem dX11_decode_53 : decode cX11_decode 53 = .ok (.iconst 2, 1) := by decide +kernel
theorem dX11_decode_54 : decode cX11_decode 54 = .ok (.iadd, 1) := by decide +kernel
theorem dX11_decode_55 : decode cX11_decode 55 = .ok (.iaload, 1) := by decide +kernel
theorem dX11_decode_56 : decode cX11_decode 56 = .ok (.imul, 1) := by decide +kernel
theorem dX11_decode_57 : decode cX11_decode 57 = .ok (.iadd, 1) := by decide +kernel
theorem dX11_decode_58 : decode cX11_decode 58 = .ok (.istore 4, 2) := by decide +kernel
theorem dX11_decode_60 : decode cX11_decode 60 = .ok (.aload_n 0, 1) := by decide +kernel
theorem dX11_decode_61 : decode cX11_decode 61 = .ok (.getfield 53, 3) := by decide +kernel
theorem dX11_decode_64 : decode cX11_decode 64 = .ok (.iload_n 1, 1) := by decide +kernel
theorem dX11_decode_65 : decode cX11_decode 65 = .ok (.iaload, 1) := by decide +kernel
theorem dX11_decode_66 : decode cX11_decode 66 = .ok (.ifCond .ne 14, 3) := by decide +kernel
theorem dX11_decode_69 : decode cX11_decode 69 = .ok (.aload_n 0, 1) := by decide +kernel
theorem dX11_decode_70 : decode cX11_decode 70 = .ok (.iload_n 1, 1) := by decide +kernel
theorem dX11_decode_71 : decode cX11_decode 71 = .ok (.iconst 4, 1) := by decide +kernel
theorem dX11_decode_72 : decode cX11_decode 72 = .ok (.iadd, 1) := by decide +kernel
theorem dX11_decode_73 : decode cX11_decode 73 = .ok (.iload_n 3, 1) := by decide +kernel
theorem dX11_decode_74 : decode cX11_decode 74 = .ok (.invokevirtual 215, 3) := by decide +kernel
theorem dX11_decode_77 : decode cX11_decode 77 = .ok (.goto 13, 3) := by decide +kernel
theorem dX11_decode_80 : decode cX11_decode 80 = .ok (.aload_n 0, 1) := by decide +kernel
theorem dX11_decode_81 : decode cX11_decode 81 = .ok (.iload_n 1, 1) := by decide +kernel
theorem dX11_decode_82 : decode cX11_decode 82 = .ok (.iconst 4, 1) := by decide +kernel
theorem dX11_decode_83 : decode cX11_decode 83 = .ok (.iadd, 1) := by decide +kernel
theorem dX11_decode_84 : decode cX11_decode 84 = .ok (.iload 4, 2) := by decide +kernel
theorem dX11_decode_86 : decode cX11_decode 86 = .ok (.iload_n 3, 1) := by decide +kernel
theorem dX11_decode_87 : decode cX11_decode 87 = .ok (.invokevirtual 219, 3) := by decide +kernel
theorem dX11_decode_90 : decode cX11_decode 90 = .ok (.iload_n 1, 1) := by decide +kernel
theorem dX11_decode_91 : decode cX11_decode 91 = .ok (.iconst 4, 1) := by decide +kernel
theorem dX11_decode_92 : decode cX11_decode 92 = .ok (.iload 4, 2) := by decide +kernel
theorem dX11_decode_94 : decode cX11_decode 94 = .ok (.iadd, 1) := by decide +kernel
theorem dX11_decode_95 : decode cX11_decode 95 = .ok (.iadd, 1) := by decide +kernel
theorem dX11_decode_96 : decode cX11_decode 96 = .ok (.istore_n 1, 1) := by decide +kernel
theorem dX11_decode_97 : decode cX11_decode 97 = .ok (.iload_n 2, 1) := by decide +kernel
theorem dX11_decode_98 : decode cX11_decode 98 = .ok (.aload_n 0, 1) := by decide +kernel
theorem dX11_decode_99 : decode cX11_decode 99 = .ok (.iload_n 3, 1) := by decide +kernel
theorem dX11_decode_100 : decode cX11_decode 100 = .ok (.invokevirtual 202, 3) := by decide +kernel
theorem dX11_decode_103 : decode cX11_decode 103 = .ok (.iadd, 1) := by decide +kernel
theorem dX11_decode_104 : decode cX11_decode 104 = .ok (.istore_n 2, 1) := by decide +kernel
theorem dX11_decode_105 : decode cX11_decode 105 = .ok (.iinc 3 1, 3) := by decide +kernel
theorem dX11_decode_108 : decode cX11_decode 108 = .ok (.goto (-97), 3) := by decide +kernel
theorem dX11_decode_111 : decode cX11_decode 111 = .ok (.aload_n 0, 1) := by decide +kernel
theorem dX11_decode_112 : decode cX11_decode 112 = .ok (.iconst 0, 1) := by decide +kernel
theorem dX11_decode_113 : decode cX11_decode 113 = .ok (.putfield 94, 3) := by decide +kernel
theorem dX11_decode_116 : decode cX11_decode 116 = .ok (.iload_n 2, 1) := by decide +kernel
theorem dX11_decode_117 : decode cX11_decode 117 = .ok (.ireturn, 1) := by decide +kernel
theorem dX11_told_0 : decode cX11_told 0 = .ok (.aload_n 0, 1) := by decide +kernel
theorem dX11_told_1 : decode cX11_told 1 = .ok (.iconst 0, 1) := by decide +kernel
theorem dX11_told_2 : decode cX11_told 2 = .ok (.putfield 82, 3) := by decide +kernel
theorem dX11_told_5 : decode cX11_told 5 = .ok (.iload_n 1, 1) := by decide +kernel
theorem dX11_told_6 : decode cX11_told 6 = .ok (.tableswitch 77 0 6 #[42, 47, 52, 57, 62, 67, 72], 42) := by decide +kernel
theorem dX11_told_48 : decode cX11_told 48 = .ok (.aload_n 0, 1) := by decide +kernel
theorem dX11_told_49 : decode cX11_told 49 = .ok (.invokevirtual 194, 3) := by decide +kernel
theorem dX11_told_52 : decode cX11_told 52 = .ok (.ireturn, 1) := by decide +kernel
theorem dX11_told_53 : decode cX11_told 53 = .ok (.aload_n 0, 1) := by decide +kernel
theorem dX11_told_54 : decode cX11_told 54 = .ok (.getfield 91, 3) := by decide +kernel
theorem dX11_told_57 : decode cX11_told 57 = .ok (.ireturn, 1) := by decide +kernel
theorem dX11_told_58 : decode cX11_told 58 = .ok (.aload_n 0, 1) := by decide +kernel
theorem dX11_told_59 : decode cX11_told 59 = .ok (.getfield 94, 3) := by decide +kernel
theorem dX11_told_62 : decode cX11_told 62 = .ok (.ireturn, 1) := by decide +kernel
theorem dX11_told_63 : decode cX11_told 63 = .ok (.aload_n 0, 1) := by decide +kernel
theorem dX11_told_64 : decode cX11_told 64 = .ok (.getfield 60, 3) := by decide +kernel
theorem dX11_told_67 : decode cX11_told 67 = .ok (.ireturn, 1) := by decide +kernel
theorem dX11_told_68 : decode cX11_told 68 = .ok (.aload_n 0, 1) := by decide +kernel
theorem dX11_told_69 : decode cX11_told 69 = .ok (.getfield 64, 3) := by decide +kernel
theorem dX11_told_72 : decode cX11_told 72 = .ok (.ireturn, 1) := by decide +kernel
theorem dX11_told_73 : decode cX11_told 73 = .ok (.aload_n 0, 1) := by decide +kernel
theorem dX11_told_74 : decode cX11_told 74 = .ok (.getfield 67, 3) := by decide +kernel
theorem dX11_told_77 : decode cX11_told 77 = .ok (.ireturn, 1) := by decide +kernel
theorem dX11_told_78 : decode cX11_told 78 = .ok (.aload_n 0, 1) := by decide +kernel
theorem dX11_told_79 : decode cX11_told 79 = .ok (.getfield 70, 3) := by decide +kernel
theorem dX11_told_82 : decode cX11_told 82 = .ok (.ireturn, 1) := by decide +kernel
theorem dX11_told_83 : decode cX11_told 83 = .ok (.iconst (-1), 1) := by decide +kernel
theorem dX11_told_84 : decode cX11_told 84 = .ok (.ireturn, 1) := by decide +kernel
