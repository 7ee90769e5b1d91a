theorem dX0_init_0 : decode cX0_init 0 = .ok (.aload_n 0, 1) := by decide +kernel
theorem dX0_init_1 : decode cX0_init 1 = .ok (.invokespecial 3, 3) := by decide +kernel
theorem dX0_init_4 : decode cX0_init 4 = .ok (.aload_n 0, 1) := by decide +kernel
theorem dX0_init_5 : decode cX0_init 5 = .ok (.aload_n 1, 1) := by decide +kernel
theorem dX0_init_6 : decode cX0_init 6 = .ok (.putfield 9, 3) := by decide +kernel
theorem dX0_init_9 : decode cX0_init 9 = .ok (.return_, 1) := by decide +kernel
theorem dX0_look_0 : decode cX0_look 0 = .ok (.iload_n 1, 1) := by decide +kernel
theorem dX0_look_1 : decode cX0_look 1 = .ok (.bipush 8, 2) := by decide +kernel
theorem dX0_look_3 : decode cX0_look 3 = .ok (.irem, 1) := by decide +kernel
theorem dX0_look_4 : decode cX0_look 4 = .ok (.ifCond .le 7, 3) := by decide +kernel
theorem dX0_look_7 : decode cX0_look 7 = .ok (.iconst 1, 1) := by decide +kernel
theorem dX0_look_8 : decode cX0_look 8 = .ok (.goto 4, 3) := by decide +kernel
theorem dX0_look_11 : decode cX0_look 11 = .ok (.iconst 0, 1) := by decide +kernel
theorem dX0_look_12 : decode cX0_look 12 = .ok (.istore 4, 2) := by decide +kernel
theorem dX0_look_14 : decode cX0_look 14 = .ok (.iload_n 2, 1) := by decide +kernel
theorem dX0_look_15 : decode cX0_look 15 = .ok (.bipush 8, 2) := by decide +kernel
theorem dX0_look_17 : decode cX0_look 17 = .ok (.irem, 1) := by decide +kernel
theorem dX0_look_18 : decode cX0_look 18 = .ok (.ifCond .le 7, 3) := by decide +kernel
theorem dX0_look_21 : decode cX0_look 21 = .ok (.iconst 1, 1) := by decide +kernel
theorem dX0_look_22 : decode cX0_look 22 = .ok (.goto 4, 3) := by decide +kernel
theorem dX0_look_25 : decode cX0_look 25 = .ok (.iconst 0, 1) := by decide +kernel
theorem dX0_look_26 : decode cX0_look 26 = .ok (.istore 5, 2) := by decide +kernel
theorem dX0_look_28 : decode cX0_look 28 = .ok (.iload_n 1, 1) := by decide +kernel
theorem dX0_look_29 : decode cX0_look 29 = .ok (.bipush 8, 2) := by decide +kernel
theorem dX0_look_31 : decode cX0_look 31 = .ok (.irem, 1) := by decide +kernel
theorem dX0_look_32 : decode cX0_look 32 = .ok (.bipush 7, 2) := by decide +kernel
theorem dX0_look_34 : decode cX0_look 34 = .ok (.if_icmp .ge 20, 3) := by decide +kernel
theorem dX0_look_37 : decode cX0_look 37 = .ok (.iload_n 1, 1) := by decide +kernel
theorem dX0_look_38 : decode cX0_look 38 = .ok (.iconst 1, 1) := by decide +kernel
theorem dX0_look_39 : decode cX0_look 39 = .ok (.iadd, 1) := by decide +kernel
theorem dX0_look_40 : decode cX0_look 40 = .ok (.aload_n 0, 1) := by decide +kernel
theorem dX0_look_41 : decode cX0_look 41 = .ok (.getfield 9, 3) := by decide +kernel
theorem dX0_look_44 : decode cX0_look 44 = .ok (.getfield 15, 3) := by decide +kernel
theorem dX0_look_47 : decode cX0_look 47 = .ok (.if_icmp .ge 7, 3) := by decide +kernel
theorem dX0_look_50 : decode cX0_look 50 = .ok (.iconst 1, 1) := by decide +kernel
theorem dX0_look_51 : decode cX0_look 51 = .ok (.goto 4, 3) := by decide +kernel
theorem dX0_look_54 : decode cX0_look 54 = .ok (.iconst 0, 1) := by decide +kernel
theorem dX0_look_55 : decode cX0_look 55 = .ok (.istore 6, 2) := by decide +kernel
theorem dX0_look_57 : decode cX0_look 57 = .ok (.aload_n 0, 1) := by decide +kernel
theorem dX0_look_58 : decode cX0_look 58 = .ok (.iload 4, 2) := by decide +kernel
theorem dX0_look_60 : decode cX0_look 60 = .ok (.ifCond .eq 18, 3) := by decide +kernel
theorem dX0_look_63 : decode cX0_look 63 = .ok (.aload_n 0, 1) := by decide +kernel
theorem dX0_look_64 : decode cX0_look 64 = .ok (.getfield 9, 3) := by decide +kernel
theorem dX0_look_67 : decode cX0_look 67 = .ok (.iload_n 1, 1) := by decide +kernel
theorem dX0_look_68 : decode cX0_look 68 = .ok (.iconst 1, 1) := by decide +kernel
theorem dX0_look_69 : decode cX0_look 69 = .ok (.isub, 1) := by decide +kernel
theorem dX0_look_70 : decode cX0_look 70 = .ok (.iload_n 2, 1) := by decide +kernel
theorem dX0_look_71 : decode cX0_look 71 = .ok (.iload_n 3, 1) := by decide +kernel
theorem dX0_look_72 : decode cX0_look 72 = .ok (.invokevirtual 21, 3) := by decide +kernel
theorem dX0_look_75 : decode cX0_look 75 = .ok (.goto 10, 3) := by decide +kernel
theorem dX0_look_78 : decode cX0_look 78 = .ok (.aload_n 0, 1) := by decide +kernel
theorem dX0_look_79 : decode cX0_look 79 = .ok (.getfield 9, 3) := by decide +kernel
theorem dX0_look_82 : decode cX0_look 82 = .ok (.getfield 25, 3) := by decide +kernel
theorem dX0_look_85 : decode cX0_look 85 = .ok (.putfield 28, 3) := by decide +kernel
theorem dX0_look_88 : decode cX0_look 88 = .ok (.aload_n 0, 1) := by decide +kernel
theorem dX0_look_89 : decode cX0_look 89 = .ok (.iload 5, 2) := by decide +kernel
theorem dX0_look_91 : decode cX0_look 91 = .ok (.ifCond .eq 18, 3) := by decide +kernel
theorem dX0_look_94 : decode cX0_look 94 = .ok (.aload_n 0, 1) := by decide +kernel
theorem dX0_look_95 : decode cX0_look 95 = .ok (.getfield 9, 3) := by decide +kernel
theorem dX0_look_98 : decode cX0_look 98 = .ok (.iload_n 1, 1) := by decide +kernel
theorem dX0_look_99 : decode cX0_look 99 = .ok (.iload_n 2, 1) := by decide +kernel
theorem dX0_look_100 : decode cX0_look 100 = .ok (.iconst 1, 1) := by decide +kernel
theorem dX0_look_101 : decode cX0_look 101 = .ok (.isub, 1) := by decide +kernel
theorem dX0_look_102 : decode cX0_look 102 = .ok (.iload_n 3, 1) := by decide +kernel
theorem dX0_look_103 : decode cX0_look 103 = .ok (.invokevirtual 21, 3) := by decide +kernel
theorem dX0_look_106 : decode cX0_look 106 = .ok (.goto 10, 3) := by decide +kernel
theorem dX0_look_109 : decode cX0_look 109 = .ok (.aload_n 0, 1) := by decide +kernel
theorem dX0_look_110 : decode cX0_look 110 = .ok (.getfield 9, 3) := by decide +kernel
theorem dX0_look_113 : decode cX0_look 113 = .ok (.getfield 25, 3) := by decide +kernel
theorem dX0_look_116 : decode cX0_look 116 = .ok (.putfield 31, 3) := by decide +kernel
theorem dX0_look_119 : decode cX0_look 119 = .ok (.aload_n 0, 1) := by decide +kernel
theorem dX0_look_120 : decode cX0_look 120 = .ok (.iload 4, 2) := by decide +kernel
theorem dX0_look_122 : decode cX0_look 122 = .ok (.ifCond .eq 25, 3) := by decide +kernel
theorem dX0_look_125 : decode cX0_look 125 = .ok (.iload 5, 2) := by decide +kernel
theorem dX0_look_127 : decode cX0_look 127 = .ok (.ifCond .eq 20, 3) := by decide +kernel
theorem dX0_look_130 : decode cX0_look 130 = .ok (.aload_n 0, 1) := by decide +kernel
theorem dX0_look_131 : decode cX0_look 131 = .ok (.getfield 9, 3) := by decide +kernel
theorem dX0_look_134 : decode cX0_look 134 = .ok (.iload_n 1, 1) := by decide +kernel
theorem dX0_look_135 : decode cX0_look 135 = .ok (.iconst 1, 1) := by decide +kernel
theorem dX0_look_136 : decode cX0_look 136 = .ok (.isub, 1) := by decide +kernel
theorem dX0_look_137 : decode cX0_look 137 = .ok (.iload_n 2, 1) := by decide +kernel
theorem dX0_look_138 : decode cX0_look 138 = .ok (.iconst 1, 1) := by decide +kernel
theorem dX0_look_139 : decode cX0_look 139 = .ok (.isub, 1) := by decide +kernel
theorem dX0_look_140 : decode cX0_look 140 = .ok (.iload_n 3, 1) := by decide +kernel
theorem dX0_look_141 : decode cX0_look 141 = .ok (.invokevirtual 21, 3) := by decide +kernel
theorem dX0_look_144 : decode cX0_look 144 = .ok (.goto 10, 3) := by decide +kernel
theorem dX0_look_147 : decode cX0_look 147 = .ok (.aload_n 0, 1) := by decide +kernel
theorem dX0_look_148 : decode cX0_look 148 = .ok (.getfield 9, 3) := by decide +kernel
theorem dX0_look_151 : decode cX0_look 151 = .ok (.getfield 25, 3) := by decide +kernel
theorem dX0_look_154 : decode cX0_look 154 = .ok (.putfield 34, 3) := by decide +kernel
theorem dX0_look_157 : decode cX0_look 157 = .ok (.aload_n 0, 1) := by decide +kernel
theorem dX0_look_158 : decode cX0_look 158 = .ok (.iload 6, 2) := by decide +kernel
theorem dX0_look_160 : decode cX0_look 160 = .ok (.ifCond .eq 25, 3) := by decide +kernel
theorem dX0_look_163 : decode cX0_look 163 = .ok (.iload 5, 2) := by decide +kernel
theorem dX0_look_165 : decode cX0_look 165 = .ok (.ifCond .eq 20, 3) := by decide +kernel
theorem dX0_look_168 : decode cX0_look 168 = .ok (.aload_n 0, 1) := by decide +kernel
theorem dX0_look_169 : decode cX0_look 169 = .ok (.getfield 9, 3) := by decide +kernel
theorem dX0_look_172 : decode cX0_look 172 = .ok (.iload_n 1, 1) := by decide +kernel
theorem dX0_look_173 : decode cX0_look 173 = .ok (.iconst 1, 1) := by decide +kernel
theorem dX0_look_174 : decode cX0_look 174 = .ok (.iadd, 1) := by decide +kernel
theorem dX0_look_175 : decode cX0_look 175 = .ok (.iload_n 2, 1) := by decide +kernel
theorem dX0_look_176 : decode cX0_look 176 = .ok (.iconst 1, 1) := by decide +kernel
theorem dX0_look_177 : decode cX0_look 177 = .ok (.isub, 1) := by decide +kernel
theorem dX0_look_178 : decode cX0_look 178 = .ok (.iload_n 3, 1) := by decide +kernel
theorem dX0_look_179 : decode cX0_look 179 = .ok (.invokevirtual 21, 3) := by decide +kernel
theorem dX0_look_182 : decode cX0_look 182 = .ok (.goto 10, 3) := by decide +kernel
theorem dX0_look_185 : decode cX0_look 185 = .ok (.aload_n 0, 1) := by decide +kernel
theorem dX0_look_186 : decode cX0_look 186 = .ok (.getfield 9, 3) := by decide +kernel
theorem dX0_look_189 : decode cX0_look 189 = .ok (.getfield 25, 3) := by decide +kernel
theorem dX0_look_192 : decode cX0_look 192 = .ok (.putfield 37, 3) := by decide +kernel
theorem dX0_look_195 : decode cX0_look 195 = .ok (.aload_n 0, 1) := by decide +kernel
theorem dX0_look_196 : decode cX0_look 196 = .ok (.iload_n 3, 1) := by decide +kernel
theorem dX0_look_197 : decode cX0_look 197 = .ok (.ifCond .le 18, 3) := by decide +kernel
theorem dX0_look_200 : decode cX0_look 200 = .ok (.aload_n 0, 1) := by decide +kernel
theorem dX0_look_201 : decode cX0_look 201 = .ok (.getfield 9, 3) := by decide +kernel
theorem dX0_look_204 : decode cX0_look 204 = .ok (.iload_n 1, 1) := by decide +kernel
theorem dX0_look_205 : decode cX0_look 205 = .ok (.iload_n 2, 1) := by decide +kernel
theorem dX0_look_206 : decode cX0_look 206 = .ok (.iload_n 3, 1) := by decide +kernel
theorem dX0_look_207 : decode cX0_look 207 = .ok (.iconst 1, 1) := by decide +kernel
theorem dX0_look_208 : decode cX0_look 208 = .ok (.isub, 1) := by decide +kernel
theorem dX0_look_209 : decode cX0_look 209 = .ok (.invokevirtual 21, 3) := by decide +kernel
theorem dX0_look_212 : decode cX0_look 212 = .ok (.goto 10, 3) := by decide +kernel
theorem dX0_look_215 : decode cX0_look 215 = .ok (.aload_n 0, 1) := by decide +kernel
theorem dX0_look_216 : decode cX0_look 216 = .ok (.getfield 9, 3) := by decide +kernel
theorem dX0_look_219 : decode cX0_look 219 = .ok (.getfield 25, 3) := by decide +kernel
theorem dX0_look_222 : decode cX0_look 222 = .ok (.putfield 40, 3) := by decide +kernel
theorem dX0_look_225 : decode cX0_look 225 = .ok (.return_, 1) := by decide +kernel
theorem dX0_expected_0 : decode cX0_expected 0 = .ok (.iload_n 1, 1) := by decide +kernel
theorem dX0_expected_1 : decode cX0_expected 1 = .ok (.tableswitch 149 0 7 #[47, 52, 57, 62, 67, 89, 101, 125], 47) := by decide +kernel
theorem dX0_expected_48 : decode cX0_expected 48 = .ok (.aload_n 0, 1) := by decide +kernel
theorem dX0_expected_49 : decode cX0_expected 49 = .ok (.getfield 28, 3) := by decide +kernel
theorem dX0_expected_52 : decode cX0_expected 52 = .ok (.ireturn, 1) := by decide +kernel
theorem dX0_expected_53 : decode cX0_expected 53 = .ok (.aload_n 0, 1) := by decide +kernel
theorem dX0_expected_54 : decode cX0_expected 54 = .ok (.getfield 31, 3) := by decide +kernel
theorem dX0_expected_57 : decode cX0_expected 57 = .ok (.ireturn, 1) := by decide +kernel
theorem dX0_expected_58 : decode cX0_expected 58 = .ok (.aload_n 0, 1) := by decide +kernel
theorem dX0_expected_59 : decode cX0_expected 59 = .ok (.getfield 34, 3) := by decide +kernel
theorem dX0_expected_62 : decode cX0_expected 62 = .ok (.ireturn, 1) := by decide +kernel
theorem dX0_expected_63 : decode cX0_expected 63 = .ok (.aload_n 0, 1) := by decide +kernel
theorem dX0_expected_64 : decode cX0_expected 64 = .ok (.getfield 37, 3) := by decide +kernel
theorem dX0_expected_67 : decode cX0_expected 67 = .ok (.ireturn, 1) := by decide +kernel
theorem dX0_expected_68 : decode cX0_expected 68 = .ok (.aload_n 0, 1) := by decide +kernel
theorem dX0_expected_69 : decode cX0_expected 69 = .ok (.getfield 9, 3) := by decide +kernel
theorem dX0_expected_72 : decode cX0_expected 72 = .ok (.aload_n 0, 1) := by decide +kernel
theorem dX0_expected_73 : decode cX0_expected 73 = .ok (.getfield 28, 3) := by decide +kernel
theorem dX0_expected_76 : decode cX0_expected 76 = .ok (.aload_n 0, 1) := by decide +kernel
theorem dX0_expected_77 : decode cX0_expected 77 = .ok (.getfield 31, 3) := by decide +kernel
theorem dX0_expected_80 : decode cX0_expected 80 = .ok (.iadd, 1) := by decide +kernel
theorem dX0_expected_81 : decode cX0_expected 81 = .ok (.aload_n 0, 1) := by decide +kernel
theorem dX0_expected_82 : decode cX0_expected 82 = .ok (.getfield 34, 3) := by decide +kernel
theorem dX0_expected_85 : decode cX0_expected 85 = .ok (.isub, 1) := by decide +kernel
theorem dX0_expected_86 : decode cX0_expected 86 = .ok (.invokevirtual 43, 3) := by decide +kernel
theorem dX0_expected_89 : decode cX0_expected 89 = .ok (.ireturn, 1) := by decide +kernel
theorem dX0_expected_90 : decode cX0_expected 90 = .ok (.aload_n 0, 1) := by decide +kernel
theorem dX0_expected_91 : decode cX0_expected 91 = .ok (.getfield 28, 3) := by decide +kernel
theorem dX0_expected_94 : decode cX0_expected 94 = .ok (.aload_n 0, 1) := by decide +kernel
theorem dX0_expected_95 : decode cX0_expected 95 = .ok (.getfield 31, 3) := by decide +kernel
theorem dX0_expected_98 : decode cX0_expected 98 = .ok (.iadd, 1) := by decide +kernel
theorem dX0_expected_99 : decode cX0_expected 99 = .ok (.iconst 1, 1) := by decide +kernel
theorem dX0_expected_100 : decode cX0_expected 100 = .ok (.ishr, 1) := by decide +kernel
theorem dX0_expected_101 : decode cX0_expected 101 = .ok (.ireturn, 1) := by decide +kernel
theorem dX0_expected_102 : decode cX0_expected 102 = .ok (.aload_n 0, 1) := by decide +kernel
theorem dX0_expected_103 : decode cX0_expected 103 = .ok (.getfield 9, 3) := by decide +kernel
theorem dX0_expected_106 : decode cX0_expected 106 = .ok (.aload_n 0, 1) := by decide +kernel
theorem dX0_expected_107 : decode cX0_expected 107 = .ok (.getfield 28, 3) := by decide +kernel
theorem dX0_expected_110 : decode cX0_expected 110 = .ok (.aload_n 0, 1) := by decide +kernel
theorem dX0_expected_111 : decode cX0_expected 111 = .ok (.getfield 31, 3) := by decide +kernel
theorem dX0_expected_114 : decode cX0_expected 114 = .ok (.aload_n 0, 1) := by decide +kernel
theorem dX0_expected_115 : decode cX0_expected 115 = .ok (.getfield 34, 3) := by decide +kernel
theorem dX0_expected_118 : decode cX0_expected 118 = .ok (.isub, 1) := by decide +kernel
theorem dX0_expected_119 : decode cX0_expected 119 = .ok (.iconst 1, 1) := by decide +kernel
theorem dX0_expected_120 : decode cX0_expected 120 = .ok (.ishr, 1) := by decide +kernel
theorem dX0_expected_121 : decode cX0_expected 121 = .ok (.iadd, 1) := by decide +kernel
theorem dX0_expected_122 : decode cX0_expected 122 = .ok (.invokevirtual 43, 3) := by decide +kernel
theorem dX0_expected_125 : decode cX0_expected 125 = .ok (.ireturn, 1) := by decide +kernel
theorem dX0_expected_126 : decode cX0_expected 126 = .ok (.aload_n 0, 1) := by decide +kernel
theorem dX0_expected_127 : decode cX0_expected 127 = .ok (.getfield 9, 3) := by decide +kernel
theorem dX0_expected_130 : decode cX0_expected 130 = .ok (.aload_n 0, 1) := by decide +kernel
theorem dX0_expected_131 : decode cX0_expected 131 = .ok (.getfield 31, 3) := by decide +kernel
theorem dX0_expected_134 : decode cX0_expected 134 = .ok (.aload_n 0, 1) := by decide +kernel
theorem dX0_expected_135 : decode cX0_expected 135 = .ok (.getfield 28, 3) := by decide +kernel
theorem dX0_expected_138 : decode cX0_expected 138 = .ok (.aload_n 0, 1) := by decide +kernel
theorem dX0_expected_139 : decode cX0_expected 139 = .ok (.getfield 34, 3) := by decide +kernel
theorem dX0_expected_142 : decode cX0_expected 142 = .ok (.isub, 1) := by decide +kernel
theorem dX0_expected_143 : decode cX0_expected 143 = .ok (.iconst 1, 1) := by decide +kernel
theorem dX0_expected_144 : decode cX0_expected 144 = .ok (.ishr, 1) := by decide +kernel
theorem dX0_expected_145 : decode cX0_expected 145 = .ok (.iadd, 1) := by decide +kernel
theorem dX0_expected_146 : decode cX0_expected 146 = .ok (.invokevirtual 43, 3) := by decide +kernel
theorem dX0_expected_149 : decode cX0_expected 149 = .ok (.ireturn, 1) := by decide +kernel
theorem dX0_expected_150 : decode cX0_expected 150 = .ok (.aload_n 0, 1) := by decide +kernel
theorem dX0_expected_151 : decode cX0_expected 151 = .ok (.getfield 40, 3) := by decide +kernel
theorem dX0_expected_154 : decode cX0_expected 154 = .ok (.ireturn, 1) := by decide +kernel
theorem dX0_texture_0 : decode cX0_texture 0 = .ok (.iconst 3, 1) := by decide +kernel
theorem dX0_texture_1 : decode cX0_texture 1 = .ok (.aload_n 0, 1) := by decide +kernel
theorem dX0_texture_2 : decode cX0_texture 2 = .ok (.getfield 28, 3) := by decide +kernel
theorem dX0_texture_5 : decode cX0_texture 5 = .ok (.aload_n 0, 1) := by decide +kernel
theorem dX0_texture_6 : decode cX0_texture 6 = .ok (.getfield 34, 3) := by decide +kernel
theorem dX0_texture_9 : decode cX0_texture 9 = .ok (.isub, 1) := by decide +kernel
theorem dX0_texture_10 : decode cX0_texture 10 = .ok (.invokestatic 47, 3) := by decide +kernel
theorem dX0_texture_13 : decode cX0_texture 13 = .ok (.aload_n 0, 1) := by decide +kernel
theorem dX0_texture_14 : decode cX0_texture 14 = .ok (.getfield 31, 3) := by decide +kernel
theorem dX0_texture_17 : decode cX0_texture 17 = .ok (.aload_n 0, 1) := by decide +kernel
theorem dX0_texture_18 : decode cX0_texture 18 = .ok (.getfield 34, 3) := by decide +kernel
theorem dX0_texture_21 : decode cX0_texture 21 = .ok (.isub, 1) := by decide +kernel
theorem dX0_texture_22 : decode cX0_texture 22 = .ok (.invokestatic 47, 3) := by decide +kernel
theorem dX0_texture_25 : decode cX0_texture 25 = .ok (.iadd, 1) := by decide +kernel
theorem dX0_texture_26 : decode cX0_texture 26 = .ok (.iconst 4, 1) := by decide +kernel
theorem dX0_texture_27 : decode cX0_texture 27 = .ok (.idiv, 1) := by decide +kernel
theorem dX0_texture_28 : decode cX0_texture 28 = .ok (.invokestatic 52, 3) := by decide +kernel
theorem dX0_texture_31 : decode cX0_texture 31 = .ok (.ireturn, 1) := by decide +kernel
theorem dX1_init_0 : decode cX1_init 0 = .ok (.aload_n 0, 1) := by decide +kernel
theorem dX1_init_1 : decode cX1_init 1 = .ok (.invokespecial 1, 3) := by decide +kernel
theorem dX1_init_4 : decode cX1_init 4 = .ok (.aload_n 0, 1) := by decide +kernel
theorem dX1_init_5 : decode cX1_init 5 = .ok (.iconst 0, 1) := by decide +kernel
theorem dX1_init_6 : decode cX1_init 6 = .ok (.iload_n 1, 1) := by decide +kernel
theorem dX1_init_7 : decode cX1_init 7 = .ok (.invokestatic 7, 3) := by decide +kernel
theorem dX1_init_10 : decode cX1_init 10 = .ok (.newarray .int, 2) := by decide +kernel
theorem dX1_init_12 : decode cX1_init 12 = .ok (.putfield 13, 3) := by decide +kernel
theorem dX1_init_15 : decode cX1_init 15 = .ok (.return_, 1) := by decide +kernel
theorem dX1_count_0 : decode cX1_count 0 = .ok (.aload_n 0, 1) := by decide +kernel
theorem dX1_count_1 : decode cX1_count 1 = .ok (.getfield 19, 3) := by decide +kernel
theorem dX1_count_4 : decode cX1_count 4 = .ok (.ireturn, 1) := by decide +kernel
theorem dX1_has_0 : decode cX1_has 0 = .ok (.iload_n 1, 1) := by decide +kernel
theorem dX1_has_1 : decode cX1_has 1 = .ok (.ifCond .lt 15, 3) := by decide +kernel
theorem dX1_has_4 : decode cX1_has 4 = .ok (.iload_n 1, 1) := by decide +kernel
theorem dX1_has_5 : decode cX1_has 5 = .ok (.aload_n 0, 1) := by decide +kernel
theorem dX1_has_6 : decode cX1_has 6 = .ok (.getfield 19, 3) := by decide +kernel
theorem dX1_has_9 : decode cX1_has 9 = .ok (.if_icmp .ge 7, 3) := by decide +kernel
theorem dX1_has_12 : decode cX1_has 12 = .ok (.iconst 1, 1) := by decide +kernel
theorem dX1_has_13 : decode cX1_has 13 = .ok (.goto 4, 3) := by decide +kernel
theorem dX1_has_16 : decode cX1_has 16 = .ok (.iconst 0, 1) := by decide +kernel
theorem dX1_has_17 : decode cX1_has 17 = .ok (.ireturn, 1) := by decide +kernel
theorem dX1_get_0 : decode cX1_get 0 = .ok (.iload_n 1, 1) := by decide +kernel
theorem dX1_get_1 : decode cX1_get 1 = .ok (.ifCond .lt 29, 3) := by decide +kernel
theorem dX1_get_4 : decode cX1_get 4 = .ok (.iload_n 1, 1) := by decide +kernel
theorem dX1_get_5 : decode cX1_get 5 = .ok (.aload_n 0, 1) := by decide +kernel
theorem dX1_get_6 : decode cX1_get 6 = .ok (.getfield 19, 3) := by decide +kernel
theorem dX1_get_9 : decode cX1_get 9 = .ok (.if_icmp .ge 21, 3) := by decide +kernel
theorem dX1_get_12 : decode cX1_get 12 = .ok (.iload_n 1, 1) := by decide +kernel
theorem dX1_get_13 : decode cX1_get 13 = .ok (.aload_n 0, 1) := by decide +kernel
theorem dX1_get_14 : decode cX1_get 14 = .ok (.getfield 13, 3) := by decide +kernel
theorem dX1_get_17 : decode cX1_get 17 = .ok (.arraylength, 1) := by decide +kernel
theorem dX1_get_18 : decode cX1_get 18 = .ok (.if_icmp .ge 12, 3) := by decide +kernel
theorem dX1_get_21 : decode cX1_get 21 = .ok (.aload_n 0, 1) := by decide +kernel
theorem dX1_get_22 : decode cX1_get 22 = .ok (.getfield 13, 3) := by decide +kernel
theorem dX1_get_25 : decode cX1_get 25 = .ok (.iload_n 1, 1) := by decide +kernel
theorem dX1_get_26 : decode cX1_get 26 = .ok (.iaload, 1) := by decide +kernel
theorem dX1_get_27 : decode cX1_get 27 = .ok (.goto 4, 3) := by decide +kernel
theorem dX1_get_30 : decode cX1_get 30 = .ok (.iconst 0, 1) := by decide +kernel
theorem dX1_get_31 : decode cX1_get 31 = .ok (.ireturn, 1) := by decide +kernel
theorem dX1_set_0 : decode cX1_set 0 = .ok (.iload_n 1, 1) := by decide +kernel
theorem dX1_set_1 : decode cX1_set 1 = .ok (.ifCond .lt 27, 3) := by decide +kernel
theorem dX1_set_4 : decode cX1_set 4 = .ok (.iload_n 1, 1) := by decide +kernel
theorem dX1_set_5 : decode cX1_set 5 = .ok (.aload_n 0, 1) := by decide +kernel
theorem dX1_set_6 : decode cX1_set 6 = .ok (.getfield 19, 3) := by decide +kernel
theorem dX1_set_9 : decode cX1_set 9 = .ok (.if_icmp .ge 19, 3) := by decide +kernel
theorem dX1_set_12 : decode cX1_set 12 = .ok (.iload_n 1, 1) := by decide +kernel
theorem dX1_set_13 : decode cX1_set 13 = .ok (.aload_n 0, 1) := by decide +kernel
theorem dX1_set_14 : decode cX1_set 14 = .ok (.getfield 13, 3) := by decide +kernel
theorem dX1_set_17 : decode cX1_set 17 = .ok (.arraylength, 1) := by decide +kernel
theorem dX1_set_18 : decode cX1_set 18 = .ok (.if_icmp .ge 10, 3) := by decide +kernel
theorem dX1_set_21 : decode cX1_set 21 = .ok (.aload_n 0, 1) := by decide +kernel
theorem dX1_set_22 : decode cX1_set 22 = .ok (.getfield 13, 3) := by decide +kernel
theorem dX1_set_25 : decode cX1_set 25 = .ok (.iload_n 1, 1) := by decide +kernel
theorem dX1_set_26 : decode cX1_set 26 = .ok (.iload_n 2, 1) := by decide +kernel
theorem dX1_set_27 : decode cX1_set 27 = .ok (.iastore, 1) := by decide +kernel
theorem dX1_set_28 : decode cX1_set 28 = .ok (.return_, 1) := by decide +kernel
theorem dX1_add_0 : decode cX1_add 0 = .ok (.aload_n 0, 1) := by decide +kernel
theorem dX1_add_1 : decode cX1_add 1 = .ok (.getfield 19, 3) := by decide +kernel
theorem dX1_add_4 : decode cX1_add 4 = .ok (.ifCond .lt 35, 3) := by decide +kernel
theorem dX1_add_7 : decode cX1_add 7 = .ok (.aload_n 0, 1) := by decide +kernel
theorem dX1_add_8 : decode cX1_add 8 = .ok (.getfield 19, 3) := by decide +kernel
theorem dX1_add_11 : decode cX1_add 11 = .ok (.aload_n 0, 1) := by decide +kernel
theorem dX1_add_12 : decode cX1_add 12 = .ok (.getfield 13, 3) := by decide +kernel
theorem dX1_add_15 : decode cX1_add 15 = .ok (.arraylength, 1) := by decide +kernel
theorem dX1_add_16 : decode cX1_add 16 = .ok (.if_icmp .ge 23, 3) := by decide +kernel
theorem dX1_add_19 : decode cX1_add 19 = .ok (.aload_n 0, 1) := by decide +kernel
theorem dX1_add_20 : decode cX1_add 20 = .ok (.getfield 13, 3) := by decide +kernel
theorem dX1_add_23 : decode cX1_add 23 = .ok (.aload_n 0, 1) := by decide +kernel
theorem dX1_add_24 : decode cX1_add 24 = .ok (.getfield 19, 3) := by decide +kernel
theorem dX1_add_27 : decode cX1_add 27 = .ok (.iload_n 1, 1) := by decide +kernel
theorem dX1_add_28 : decode cX1_add 28 = .ok (.iastore, 1) := by decide +kernel
theorem dX1_add_29 : decode cX1_add 29 = .ok (.aload_n 0, 1) := by decide +kernel
theorem dX1_add_30 : decode cX1_add 30 = .ok (.dup, 1) := by decide +kernel
theorem dX1_add_31 : decode cX1_add 31 = .ok (.getfield 19, 3) := by decide +kernel
theorem dX1_add_34 : decode cX1_add 34 = .ok (.iconst 1, 1) := by decide +kernel
theorem dX1_add_35 : decode cX1_add 35 = .ok (.iadd, 1) := by decide +kernel
theorem dX1_add_36 : decode cX1_add 36 = .ok (.putfield 19, 3) := by decide +kernel
theorem dX1_add_39 : decode cX1_add 39 = .ok (.return_, 1) := by decide +kernel
theorem dX1_addAll_0 : decode cX1_addAll 0 = .ok (.iconst 0, 1) := by decide +kernel
theorem dX1_addAll_1 : decode cX1_addAll 1 = .ok (.istore_n 2, 1) := by decide +kernel
theorem dX1_addAll_2 : decode cX1_addAll 2 = .ok (.iload_n 2, 1) := by decide +kernel
theorem dX1_addAll_3 : decode cX1_addAll 3 = .ok (.aload_n 1, 1) := by decide +kernel
theorem dX1_addAll_4 : decode cX1_addAll 4 = .ok (.getfield 19, 3) := by decide +kernel
theorem dX1_addAll_7 : decode cX1_addAll 7 = .ok (.if_icmp .ge 18, 3) := by decide +kernel
theorem dX1_addAll_10 : decode cX1_addAll 10 = .ok (.aload_n 0, 1) := by decide +kernel
theorem dX1_addAll_11 : decode cX1_addAll 11 = .ok (.aload_n 1, 1) := by decide +kernel
theorem dX1_addAll_12 : decode cX1_addAll 12 = .ok (.iload_n 2, 1) := by decide +kernel
theorem dX1_addAll_13 : decode cX1_addAll 13 = .ok (.invokevirtual 23, 3) := by decide +kernel
theorem dX1_addAll_16 : decode cX1_addAll 16 = .ok (.invokevirtual 27, 3) := by decide +kernel
theorem dX1_addAll_19 : decode cX1_addAll 19 = .ok (.iinc 2 1, 3) := by decide +kernel
theorem dX1_addAll_22 : decode cX1_addAll 22 = .ok (.goto (-20), 3) := by decide +kernel
theorem dX1_addAll_25 : decode cX1_addAll 25 = .ok (.return_, 1) := by decide +kernel
theorem dX1_forget_0 : decode cX1_forget 0 = .ok (.aload_n 0, 1) := by decide +kernel
theorem dX1_forget_1 : decode cX1_forget 1 = .ok (.iconst 0, 1) := by decide +kernel
theorem dX1_forget_2 : decode cX1_forget 2 = .ok (.putfield 19, 3) := by decide +kernel
theorem dX1_forget_5 : decode cX1_forget 5 = .ok (.return_, 1) := by decide +kernel
theorem dX2_init_0 : decode cX2_init 0 = .ok (.aload_n 0, 1) := by decide +kernel
theorem dX2_init_1 : decode cX2_init 1 = .ok (.invokespecial 3, 3) := by decide +kernel
theorem dX2_init_4 : decode cX2_init 4 = .ok (.aload_n 0, 1) := by decide +kernel
theorem dX2_init_5 : decode cX2_init 5 = .ok (.iload_n 1, 1) := by decide +kernel
theorem dX2_init_6 : decode cX2_init 6 = .ok (.putfield 9, 3) := by decide +kernel
theorem dX2_init_9 : decode cX2_init 9 = .ok (.aload_n 0, 1) := by decide +kernel
theorem dX2_init_10 : decode cX2_init 10 = .ok (.new 15, 3) := by decide +kernel
theorem dX2_init_13 : decode cX2_init 13 = .ok (.dup, 1) := by decide +kernel
theorem dX2_init_14 : decode cX2_init 14 = .ok (.iload_n 2, 1) := by decide +kernel
theorem dX2_init_15 : decode cX2_init 15 = .ok (.iconst 4, 1) := by decide +kernel
theorem dX2_init_16 : decode cX2_init 16 = .ok (.imul, 1) := by decide +kernel
theorem dX2_init_17 : decode cX2_init 17 = .ok (.iload_n 1, 1) := by decide +kernel
theorem dX2_init_18 : decode cX2_init 18 = .ok (.ishl, 1) := by decide +kernel
theorem dX2_init_19 : decode cX2_init 19 = .ok (.invokespecial 17, 3) := by decide +kernel
theorem dX2_init_22 : decode cX2_init 22 = .ok (.putfield 20, 3) := by decide +kernel
theorem dX2_init_25 : decode cX2_init 25 = .ok (.aload_n 0, 1) := by decide +kernel
theorem dX2_init_26 : decode cX2_init 26 = .ok (.new 15, 3) := by decide +kernel
theorem dX2_init_29 : decode cX2_init 29 = .ok (.dup, 1) := by decide +kernel
theorem dX2_init_30 : decode cX2_init 30 = .ok (.iload_n 2, 1) := by decide +kernel
theorem dX2_init_31 : decode cX2_init 31 = .ok (.iconst 4, 1) := by decide +kernel
theorem dX2_init_32 : decode cX2_init 32 = .ok (.imul, 1) := by decide +kernel
theorem dX2_init_33 : decode cX2_init 33 = .ok (.iload_n 1, 1) := by decide +kernel
theorem dX2_init_34 : decode cX2_init 34 = .ok (.ishl, 1) := by decide +kernel
theorem dX2_init_35 : decode cX2_init 35 = .ok (.invokespecial 17, 3) := by decide +kernel
theorem dX2_init_38 : decode cX2_init 38 = .ok (.putfield 24, 3) := by decide +kernel
theorem dX2_init_41 : decode cX2_init 41 = .ok (.aload_n 0, 1) := by decide +kernel
theorem dX2_init_42 : decode cX2_init 42 = .ok (.new 15, 3) := by decide +kernel
theorem dX2_init_45 : decode cX2_init 45 = .ok (.dup, 1) := by decide +kernel
theorem dX2_init_46 : decode cX2_init 46 = .ok (.iload_n 2, 1) := by decide +kernel
theorem dX2_init_47 : decode cX2_init 47 = .ok (.invokespecial 17, 3) := by decide +kernel
theorem dX2_init_50 : decode cX2_init 50 = .ok (.putfield 27, 3) := by decide +kernel
theorem dX2_init_53 : decode cX2_init 53 = .ok (.return_, 1) := by decide +kernel
theorem dX2_begin_0 : decode cX2_begin 0 = .ok (.aload_n 0, 1) := by decide +kernel
theorem dX2_begin_1 : decode cX2_begin 1 = .ok (.getfield 20, 3) := by decide +kernel
theorem dX2_begin_4 : decode cX2_begin 4 = .ok (.ldc 30, 2) := by decide +kernel
theorem dX2_begin_6 : decode cX2_begin 6 = .ok (.invokevirtual 31, 3) := by decide +kernel
theorem dX2_begin_9 : decode cX2_begin 9 = .ok (.aload_n 0, 1) := by decide +kernel
theorem dX2_begin_10 : decode cX2_begin 10 = .ok (.getfield 24, 3) := by decide +kernel
theorem dX2_begin_13 : decode cX2_begin 13 = .ok (.ldc 30, 2) := by decide +kernel
theorem dX2_begin_15 : decode cX2_begin 15 = .ok (.invokevirtual 31, 3) := by decide +kernel
theorem dX2_begin_18 : decode cX2_begin 18 = .ok (.aload_n 0, 1) := by decide +kernel
theorem dX2_begin_19 : decode cX2_begin 19 = .ok (.getfield 27, 3) := by decide +kernel
theorem dX2_begin_22 : decode cX2_begin 22 = .ok (.bipush 32, 2) := by decide +kernel
theorem dX2_begin_24 : decode cX2_begin 24 = .ok (.invokevirtual 31, 3) := by decide +kernel
theorem dX2_begin_27 : decode cX2_begin 27 = .ok (.return_, 1) := by decide +kernel
theorem dX2_place_0 : decode cX2_place 0 = .ok (.iload_n 1, 1) := by decide +kernel
theorem dX2_place_1 : decode cX2_place 1 = .ok (.iconst 4, 1) := by decide +kernel
theorem dX2_place_2 : decode cX2_place 2 = .ok (.imul, 1) := by decide +kernel
theorem dX2_place_3 : decode cX2_place 3 = .ok (.iload_n 2, 1) := by decide +kernel
theorem dX2_place_4 : decode cX2_place 4 = .ok (.iadd, 1) := by decide +kernel
theorem dX2_place_5 : decode cX2_place 5 = .ok (.aload_n 0, 1) := by decide +kernel
theorem dX2_place_6 : decode cX2_place 6 = .ok (.getfield 9, 3) := by decide +kernel
theorem dX2_place_9 : decode cX2_place 9 = .ok (.ishl, 1) := by decide +kernel
theorem dX2_place_10 : decode cX2_place 10 = .ok (.iload_n 3, 1) := by decide +kernel
theorem dX2_place_11 : decode cX2_place 11 = .ok (.iadd, 1) := by decide +kernel
theorem dX2_place_12 : decode cX2_place 12 = .ok (.ireturn, 1) := by decide +kernel
theorem dX2_mix_0 : decode cX2_mix 0 = .ok (.aload_n 0, 1) := by decide +kernel
theorem dX2_mix_1 : decode cX2_mix 1 = .ok (.getfield 27, 3) := by decide +kernel
theorem dX2_mix_4 : decode cX2_mix 4 = .ok (.iload_n 1, 1) := by decide +kernel
theorem dX2_mix_5 : decode cX2_mix 5 = .ok (.invokevirtual 34, 3) := by decide +kernel
theorem dX2_mix_8 : decode cX2_mix 8 = .ok (.istore 4, 2) := by decide +kernel
theorem dX2_mix_10 : decode cX2_mix 10 = .ok (.aload_n 0, 1) := by decide +kernel
theorem dX2_mix_11 : decode cX2_mix 11 = .ok (.getfield 20, 3) := by decide +kernel
theorem dX2_mix_14 : decode cX2_mix 14 = .ok (.iload_n 2, 1) := by decide +kernel
theorem dX2_mix_15 : decode cX2_mix 15 = .ok (.invokevirtual 34, 3) := by decide +kernel
theorem dX2_mix_18 : decode cX2_mix 18 = .ok (.iload 4, 2) := by decide +kernel
theorem dX2_mix_20 : decode cX2_mix 20 = .ok (.imul, 1) := by decide +kernel
theorem dX2_mix_21 : decode cX2_mix 21 = .ok (.aload_n 0, 1) := by decide +kernel
theorem dX2_mix_22 : decode cX2_mix 22 = .ok (.getfield 24, 3) := by decide +kernel
theorem dX2_mix_25 : decode cX2_mix 25 = .ok (.iload_n 3, 1) := by decide +kernel
theorem dX2_mix_26 : decode cX2_mix 26 = .ok (.invokevirtual 34, 3) := by decide +kernel
theorem dX2_mix_29 : decode cX2_mix 29 = .ok (.bipush 64, 2) := by decide +kernel
theorem dX2_mix_31 : decode cX2_mix 31 = .ok (.iload 4, 2) := by decide +kernel
theorem dX2_mix_33 : decode cX2_mix 33 = .ok (.isub, 1) := by decide +kernel
theorem dX2_mix_34 : decode cX2_mix 34 = .ok (.imul, 1) := by decide +kernel
theorem dX2_mix_35 : decode cX2_mix 35 = .ok (.iadd, 1) := by decide +kernel
theorem dX2_mix_36 : decode cX2_mix 36 = .ok (.bipush 64, 2) := by decide +kernel
theorem dX2_mix_38 : decode cX2_mix 38 = .ok (.idiv, 1) := by decide +kernel
theorem dX2_mix_39 : decode cX2_mix 39 = .ok (.istore 5, 2) := by decide +kernel
theorem dX2_mix_41 : decode cX2_mix 41 = .ok (.iload 5, 2) := by decide +kernel
theorem dX2_mix_43 : decode cX2_mix 43 = .ok (.bipush 64, 2) := by decide +kernel
theorem dX2_mix_45 : decode cX2_mix 45 = .ok (.ldc 38, 2) := by decide +kernel
theorem dX2_mix_47 : decode cX2_mix 47 = .ok (.invokestatic 39, 3) := by decide +kernel
theorem dX2_mix_50 : decode cX2_mix 50 = .ok (.ireturn, 1) := by decide +kernel
theorem dX2_learn_0 : decode cX2_learn 0 = .ok (.aload_n 0, 1) := by decide +kernel
theorem dX2_learn_1 : decode cX2_learn 1 = .ok (.getfield 20, 3) := by decide +kernel
theorem dX2_learn_4 : decode cX2_learn 4 = .ok (.iload_n 2, 1) := by decide +kernel
theorem dX2_learn_5 : decode cX2_learn 5 = .ok (.invokevirtual 34, 3) := by decide +kernel
theorem dX2_learn_8 : decode cX2_learn 8 = .ok (.istore 5, 2) := by decide +kernel
theorem dX2_learn_10 : decode cX2_learn 10 = .ok (.aload_n 0, 1) := by decide +kernel
theorem dX2_learn_11 : decode cX2_learn 11 = .ok (.getfield 24, 3) := by decide +kernel
theorem dX2_learn_14 : decode cX2_learn 14 = .ok (.iload_n 3, 1) := by decide +kernel
theorem dX2_learn_15 : decode cX2_learn 15 = .ok (.invokevirtual 34, 3) := by decide +kernel
theorem dX2_learn_18 : decode cX2_learn 18 = .ok (.istore 6, 2) := by decide +kernel
theorem dX2_learn_20 : decode cX2_learn 20 = .ok (.iload 5, 2) := by decide +kernel
theorem dX2_learn_22 : decode cX2_learn 22 = .ok (.iload 6, 2) := by decide +kernel
theorem dX2_learn_24 : decode cX2_learn 24 = .ok (.if_icmp .eq 69, 3) := by decide +kernel
theorem dX2_learn_27 : decode cX2_learn 27 = .ok (.iload 5, 2) := by decide +kernel
theorem dX2_learn_29 : decode cX2_learn 29 = .ok (.iload 6, 2) := by decide +kernel
theorem dX2_learn_31 : decode cX2_learn 31 = .ok (.if_icmp .le 7, 3) := by decide +kernel
theorem dX2_learn_34 : decode cX2_learn 34 = .ok (.iconst 1, 1) := by decide +kernel
theorem dX2_learn_35 : decode cX2_learn 35 = .ok (.goto 4, 3) := by decide +kernel
theorem dX2_learn_38 : decode cX2_learn 38 = .ok (.iconst 0, 1) := by decide +kernel
theorem dX2_learn_39 : decode cX2_learn 39 = .ok (.iload 4, 2) := by decide +kernel
theorem dX2_learn_41 : decode cX2_learn 41 = .ok (.iconst 1, 1) := by decide +kernel
theorem dX2_learn_42 : decode cX2_learn 42 = .ok (.if_icmp .ne 7, 3) := by decide +kernel
theorem dX2_learn_45 : decode cX2_learn 45 = .ok (.iconst 1, 1) := by decide +kernel
theorem dX2_learn_46 : decode cX2_learn 46 = .ok (.goto 4, 3) := by decide +kernel
theorem dX2_learn_49 : decode cX2_learn 49 = .ok (.iconst 0, 1) := by decide +kernel
theorem dX2_learn_50 : decode cX2_learn 50 = .ok (.if_icmp .ne 7, 3) := by decide +kernel
theorem dX2_learn_53 : decode cX2_learn 53 = .ok (.iconst 1, 1) := by decide +kernel
theorem dX2_learn_54 : decode cX2_learn 54 = .ok (.goto 4, 3) := by decide +kernel
theorem dX2_learn_57 : decode cX2_learn 57 = .ok (.iconst 0, 1) := by decide +kernel
theorem dX2_learn_58 : decode cX2_learn 58 = .ok (.istore 7, 2) := by decide +kernel
theorem dX2_learn_60 : decode cX2_learn 60 = .ok (.aload_n 0, 1) := by decide +kernel
theorem dX2_learn_61 : decode cX2_learn 61 = .ok (.getfield 27, 3) := by decide +kernel
theorem dX2_learn_64 : decode cX2_learn 64 = .ok (.iload_n 1, 1) := by decide +kernel
theorem dX2_learn_65 : decode cX2_learn 65 = .ok (.aload_n 0, 1) := by decide +kernel
theorem dX2_learn_66 : decode cX2_learn 66 = .ok (.getfield 27, 3) := by decide +kernel
theorem dX2_learn_69 : decode cX2_learn 69 = .ok (.iload_n 1, 1) := by decide +kernel
theorem dX2_learn_70 : decode cX2_learn 70 = .ok (.invokevirtual 34, 3) := by decide +kernel
theorem dX2_learn_73 : decode cX2_learn 73 = .ok (.iload 7, 2) := by decide +kernel
theorem dX2_learn_75 : decode cX2_learn 75 = .ok (.ifCond .eq 7, 3) := by decide +kernel
theorem dX2_learn_78 : decode cX2_learn 78 = .ok (.iconst 1, 1) := by decide +kernel
theorem dX2_learn_79 : decode cX2_learn 79 = .ok (.goto 4, 3) := by decide +kernel
theorem dX2_learn_82 : decode cX2_learn 82 = .ok (.iconst (-1), 1) := by decide +kernel
theorem dX2_learn_83 : decode cX2_learn 83 = .ok (.iadd, 1) := by decide +kernel
theorem dX2_learn_84 : decode cX2_learn 84 = .ok (.iconst 1, 1) := by decide +kernel
theorem dX2_learn_85 : decode cX2_learn 85 = .ok (.bipush 63, 2) := by decide +kernel
theorem dX2_learn_87 : decode cX2_learn 87 = .ok (.invokestatic 39, 3) := by decide +kernel
theorem dX2_learn_90 : decode cX2_learn 90 = .ok (.invokevirtual 43, 3) := by decide +kernel
theorem dX2_learn_93 : decode cX2_learn 93 = .ok (.aload_n 0, 1) := by decide +kernel
theorem dX2_learn_94 : decode cX2_learn 94 = .ok (.getfield 20, 3) := by decide +kernel
theorem dX2_learn_97 : decode cX2_learn 97 = .ok (.iload_n 2, 1) := by decide +kernel
theorem dX2_learn_98 : decode cX2_learn 98 = .ok (.iload 4, 2) := by decide +kernel
theorem dX2_learn_100 : decode cX2_learn 100 = .ok (.iconst 1, 1) := by decide +kernel
theorem dX2_learn_101 : decode cX2_learn 101 = .ok (.if_icmp .ne 17, 3) := by decide +kernel
theorem dX2_learn_104 : decode cX2_learn 104 = .ok (.iload 5, 2) := by decide +kernel
theorem dX2_learn_106 : decode cX2_learn 106 = .ok (.ldc 47, 2) := by decide +kernel
theorem dX2_learn_108 : decode cX2_learn 108 = .ok (.iload 5, 2) := by decide +kernel
theorem dX2_learn_110 : decode cX2_learn 110 = .ok (.isub, 1) := by decide +kernel
theorem dX2_learn_111 : decode cX2_learn 111 = .ok (.bipush 16, 2) := by decide +kernel
theorem dX2_learn_113 : decode cX2_learn 113 = .ok (.idiv, 1) := by decide +kernel
theorem dX2_learn_114 : decode cX2_learn 114 = .ok (.iadd, 1) := by decide +kernel
theorem dX2_learn_115 : decode cX2_learn 115 = .ok (.goto 11, 3) := by decide +kernel
theorem dX2_learn_118 : decode cX2_learn 118 = .ok (.iload 5, 2) := by decide +kernel
theorem dX2_learn_120 : decode cX2_learn 120 = .ok (.iload 5, 2) := by decide +kernel
theorem dX2_learn_122 : decode cX2_learn 122 = .ok (.bipush 16, 2) := by decide +kernel
theorem dX2_learn_124 : decode cX2_learn 124 = .ok (.idiv, 1) := by decide +kernel
theorem dX2_learn_125 : decode cX2_learn 125 = .ok (.isub, 1) := by decide +kernel
theorem dX2_learn_126 : decode cX2_learn 126 = .ok (.invokevirtual 43, 3) := by decide +kernel
theorem dX2_learn_129 : decode cX2_learn 129 = .ok (.aload_n 0, 1) := by decide +kernel
theorem dX2_learn_130 : decode cX2_learn 130 = .ok (.getfield 24, 3) := by decide +kernel
theorem dX2_learn_133 : decode cX2_learn 133 = .ok (.iload_n 3, 1) := by decide +kernel
theorem dX2_learn_134 : decode cX2_learn 134 = .ok (.iload 4, 2) := by decide +kernel
theorem dX2_learn_136 : decode cX2_learn 136 = .ok (.iconst 1, 1) := by decide +kernel
theorem dX2_learn_137 : decode cX2_learn 137 = .ok (.if_icmp .ne 17, 3) := by decide +kernel
theorem dX2_learn_140 : decode cX2_learn 140 = .ok (.iload 6, 2) := by decide +kernel
theorem dX2_learn_142 : decode cX2_learn 142 = .ok (.ldc 47, 2) := by decide +kernel
theorem dX2_learn_144 : decode cX2_learn 144 = .ok (.iload 6, 2) := by decide +kernel
theorem dX2_learn_146 : decode cX2_learn 146 = .ok (.isub, 1) := by decide +kernel
theorem dX2_learn_147 : decode cX2_learn 147 = .ok (.bipush 32, 2) := by decide +kernel
theorem dX2_learn_149 : decode cX2_learn 149 = .ok (.idiv, 1) := by decide +kernel
theorem dX2_learn_150 : decode cX2_learn 150 = .ok (.iadd, 1) := by decide +kernel
theorem dX2_learn_151 : decode cX2_learn 151 = .ok (.goto 11, 3) := by decide +kernel
theorem dX2_learn_154 : decode cX2_learn 154 = .ok (.iload 6, 2) := by decide +kernel
theorem dX2_learn_156 : decode cX2_learn 156 = .ok (.iload 6, 2) := by decide +kernel
theorem dX2_learn_158 : decode cX2_learn 158 = .ok (.bipush 32, 2) := by decide +kernel
theorem dX2_learn_160 : decode cX2_learn 160 = .ok (.idiv, 1) := by decide +kernel
theorem dX2_learn_161 : decode cX2_learn 161 = .ok (.isub, 1) := by decide +kernel
theorem dX2_learn_162 : decode cX2_learn 162 = .ok (.invokevirtual 43, 3) := by decide +kernel
theorem dX2_learn_165 : decode cX2_learn 165 = .ok (.return_, 1) := by decide +kernel
theorem dX3_init_0 : decode cX3_init 0 = .ok (.aload_n 0, 1) := by decide +kernel
theorem dX3_init_1 : decode cX3_init 1 = .ok (.invokespecial 1, 3) := by decide +kernel
theorem dX3_init_4 : decode cX3_init 4 = .ok (.return_, 1) := by decide +kernel
theorem dX3_open_0 : decode cX3_open 0 = .ok (.aload_n 0, 1) := by decide +kernel
theorem dX3_open_1 : decode cX3_open 1 = .ok (.lconst 0, 1) := by decide +kernel
theorem dX3_open_2 : decode cX3_open 2 = .ok (.putfield 7, 3) := by decide +kernel
theorem dX3_open_5 : decode cX3_open 5 = .ok (.aload_n 0, 1) := by decide +kernel
theorem dX3_open_6 : decode cX3_open 6 = .ok (.ldc2_w 13, 3) := by decide +kernel
theorem dX3_open_9 : decode cX3_open 9 = .ok (.putfield 15, 3) := by decide +kernel
theorem dX3_open_12 : decode cX3_open 12 = .ok (.return_, 1) := by decide +kernel
theorem dX3_narrow_0 : decode cX3_narrow 0 = .ok (.aload_n 0, 1) := by decide +kernel
theorem dX3_narrow_1 : decode cX3_narrow 1 = .ok (.getfield 7, 3) := by decide +kernel
theorem dX3_narrow_4 : decode cX3_narrow 4 = .ok (.aload_n 0, 1) := by decide +kernel
theorem dX3_narrow_5 : decode cX3_narrow 5 = .ok (.getfield 15, 3) := by decide +kernel
theorem dX3_narrow_8 : decode cX3_narrow 8 = .ok (.aload_n 0, 1) := by decide +kernel
theorem dX3_narrow_9 : decode cX3_narrow 9 = .ok (.getfield 7, 3) := by decide +kernel
theorem dX3_narrow_12 : decode cX3_narrow 12 = .ok (.lsub, 1) := by decide +kernel
theorem dX3_narrow_13 : decode cX3_narrow 13 = .ok (.iload_n 1, 1) := by decide +kernel
theorem dX3_narrow_14 : decode cX3_narrow 14 = .ok (.i2l, 1) := by decide +kernel
theorem dX3_narrow_15 : decode cX3_narrow 15 = .ok (.lmul, 1) := by decide +kernel
theorem dX3_narrow_16 : decode cX3_narrow 16 = .ok (.ldc2_w 18, 3) := by decide +kernel
theorem dX3_narrow_19 : decode cX3_narrow 19 = .ok (.ldiv, 1) := by decide +kernel
theorem dX3_narrow_20 : decode cX3_narrow 20 = .ok (.ladd, 1) := by decide +kernel
theorem dX3_narrow_21 : decode cX3_narrow 21 = .ok (.lstore_n 3, 1) := by decide +kernel
theorem dX3_narrow_22 : decode cX3_narrow 22 = .ok (.aload_n 0, 1) := by decide +kernel
theorem dX3_narrow_23 : decode cX3_narrow 23 = .ok (.lload_n 3, 1) := by decide +kernel
theorem dX3_narrow_24 : decode cX3_narrow 24 = .ok (.iload_n 2, 1) := by decide +kernel
theorem dX3_narrow_25 : decode cX3_narrow 25 = .ok (.invokevirtual 20, 3) := by decide +kernel
theorem dX3_narrow_28 : decode cX3_narrow 28 = .ok (.istore 5, 2) := by decide +kernel
theorem dX3_narrow_30 : decode cX3_narrow 30 = .ok (.iload 5, 2) := by decide +kernel
theorem dX3_narrow_32 : decode cX3_narrow 32 = .ok (.iconst 1, 1) := by decide +kernel
theorem dX3_narrow_33 : decode cX3_narrow 33 = .ok (.if_icmp .ne 11, 3) := by decide +kernel
theorem dX3_narrow_36 : decode cX3_narrow 36 = .ok (.aload_n 0, 1) := by decide +kernel
theorem dX3_narrow_37 : decode cX3_narrow 37 = .ok (.lload_n 3, 1) := by decide +kernel
theorem dX3_narrow_38 : decode cX3_narrow 38 = .ok (.putfield 15, 3) := by decide +kernel
theorem dX3_narrow_41 : decode cX3_narrow 41 = .ok (.goto 10, 3) := by decide +kernel
theorem dX3_narrow_44 : decode cX3_narrow 44 = .ok (.aload_n 0, 1) := by decide +kernel
theorem dX3_narrow_45 : decode cX3_narrow 45 = .ok (.lload_n 3, 1) := by decide +kernel
theorem dX3_narrow_46 : decode cX3_narrow 46 = .ok (.lconst 1, 1) := by decide +kernel
theorem dX3_narrow_47 : decode cX3_narrow 47 = .ok (.ladd, 1) := by decide +kernel
theorem dX3_narrow_48 : decode cX3_narrow 48 = .ok (.putfield 7, 3) := by decide +kernel
theorem dX3_narrow_51 : decode cX3_narrow 51 = .ok (.iconst 0, 1) := by decide +kernel
theorem dX3_narrow_52 : decode cX3_narrow 52 = .ok (.istore 6, 2) := by decide +kernel
theorem dX3_narrow_54 : decode cX3_narrow 54 = .ok (.iload 6, 2) := by decide +kernel
theorem dX3_narrow_56 : decode cX3_narrow 56 = .ok (.iconst 4, 1) := by decide +kernel
theorem dX3_narrow_57 : decode cX3_narrow 57 = .ok (.if_icmp .ge 73, 3) := by decide +kernel
theorem dX3_narrow_60 : decode cX3_narrow 60 = .ok (.aload_n 0, 1) := by decide +kernel
theorem dX3_narrow_61 : decode cX3_narrow 61 = .ok (.getfield 7, 3) := by decide +kernel
theorem dX3_narrow_64 : decode cX3_narrow 64 = .ok (.bipush 24, 2) := by decide +kernel
theorem dX3_narrow_66 : decode cX3_narrow 66 = .ok (.lshr, 1) := by decide +kernel
theorem dX3_narrow_67 : decode cX3_narrow 67 = .ok (.aload_n 0, 1) := by decide +kernel
theorem dX3_narrow_68 : decode cX3_narrow 68 = .ok (.getfield 15, 3) := by decide +kernel
theorem dX3_narrow_71 : decode cX3_narrow 71 = .ok (.bipush 24, 2) := by decide +kernel
theorem dX3_narrow_73 : decode cX3_narrow 73 = .ok (.lshr, 1) := by decide +kernel
theorem dX3_narrow_74 : decode cX3_narrow 74 = .ok (.lcmp, 1) := by decide +kernel
theorem dX3_narrow_75 : decode cX3_narrow 75 = .ok (.ifCond .ne 55, 3) := by decide +kernel
theorem dX3_narrow_78 : decode cX3_narrow 78 = .ok (.aload_n 0, 1) := by decide +kernel
theorem dX3_narrow_79 : decode cX3_narrow 79 = .ok (.aload_n 0, 1) := by decide +kernel
theorem dX3_narrow_80 : decode cX3_narrow 80 = .ok (.getfield 7, 3) := by decide +kernel
theorem dX3_narrow_83 : decode cX3_narrow 83 = .ok (.bipush 24, 2) := by decide +kernel
theorem dX3_narrow_85 : decode cX3_narrow 85 = .ok (.lshr, 1) := by decide +kernel
theorem dX3_narrow_86 : decode cX3_narrow 86 = .ok (.l2i, 1) := by decide +kernel
theorem dX3_narrow_87 : decode cX3_narrow 87 = .ok (.invokevirtual 24, 3) := by decide +kernel
theorem dX3_narrow_90 : decode cX3_narrow 90 = .ok (.aload_n 0, 1) := by decide +kernel
theorem dX3_narrow_91 : decode cX3_narrow 91 = .ok (.aload_n 0, 1) := by decide +kernel
theorem dX3_narrow_92 : decode cX3_narrow 92 = .ok (.getfield 7, 3) := by decide +kernel
theorem dX3_narrow_95 : decode cX3_narrow 95 = .ok (.bipush 8, 2) := by decide +kernel
theorem dX3_narrow_97 : decode cX3_narrow 97 = .ok (.lshl, 1) := by decide +kernel
theorem dX3_narrow_98 : decode cX3_narrow 98 = .ok (.ldc2_w 13, 3) := by decide +kernel
theorem dX3_narrow_101 : decode cX3_narrow 101 = .ok (.land, 1) := by decide +kernel
theorem dX3_narrow_102 : decode cX3_narrow 102 = .ok (.putfield 7, 3) := by decide +kernel
theorem dX3_narrow_105 : decode cX3_narrow 105 = .ok (.aload_n 0, 1) := by decide +kernel
theorem dX3_narrow_106 : decode cX3_narrow 106 = .ok (.aload_n 0, 1) := by decide +kernel
theorem dX3_narrow_107 : decode cX3_narrow 107 = .ok (.getfield 15, 3) := by decide +kernel
theorem dX3_narrow_110 : decode cX3_narrow 110 = .ok (.bipush 8, 2) := by decide +kernel
theorem dX3_narrow_112 : decode cX3_narrow 112 = .ok (.lshl, 1) := by decide +kernel
theorem dX3_narrow_113 : decode cX3_narrow 113 = .ok (.ldc2_w 13, 3) := by decide +kernel
theorem dX3_narrow_116 : decode cX3_narrow 116 = .ok (.land, 1) := by decide +kernel
theorem dX3_narrow_117 : decode cX3_narrow 117 = .ok (.ldc2_w 28, 3) := by decide +kernel
theorem dX3_narrow_120 : decode cX3_narrow 120 = .ok (.lor, 1) := by decide +kernel
theorem dX3_narrow_121 : decode cX3_narrow 121 = .ok (.putfield 15, 3) := by decide +kernel
theorem dX3_narrow_124 : decode cX3_narrow 124 = .ok (.iinc 6 1, 3) := by decide +kernel
theorem dX3_narrow_127 : decode cX3_narrow 127 = .ok (.goto (-73), 3) := by decide +kernel
theorem dX3_narrow_130 : decode cX3_narrow 130 = .ok (.iload 5, 2) := by decide +kernel
theorem dX3_narrow_132 : decode cX3_narrow 132 = .ok (.ireturn, 1) := by decide +kernel
theorem dX4_init_0 : decode cX4_init 0 = .ok (.aload_n 0, 1) := by decide +kernel
theorem dX4_init_1 : decode cX4_init 1 = .ok (.invokespecial 3, 3) := by decide +kernel
theorem dX4_init_4 : decode cX4_init 4 = .ok (.aload_n 0, 1) := by decide +kernel
theorem dX4_init_5 : decode cX4_init 5 = .ok (.iload_n 1, 1) := by decide +kernel
theorem dX4_init_6 : decode cX4_init 6 = .ok (.putfield 9, 3) := by decide +kernel
theorem dX4_init_9 : decode cX4_init 9 = .ok (.aload_n 0, 1) := by decide +kernel
theorem dX4_init_10 : decode cX4_init 10 = .ok (.iload_n 2, 1) := by decide +kernel
theorem dX4_init_11 : decode cX4_init 11 = .ok (.putfield 15, 3) := by decide +kernel
theorem dX4_init_14 : decode cX4_init 14 = .ok (.aload_n 0, 1) := by decide +kernel
theorem dX4_init_15 : decode cX4_init 15 = .ok (.iload_n 3, 1) := by decide +kernel
theorem dX4_init_16 : decode cX4_init 16 = .ok (.putfield 18, 3) := by decide +kernel
theorem dX4_init_19 : decode cX4_init 19 = .ok (.aload_n 0, 1) := by decide +kernel
theorem dX4_init_20 : decode cX4_init 20 = .ok (.iload 4, 2) := by decide +kernel
theorem dX4_init_22 : decode cX4_init 22 = .ok (.putfield 21, 3) := by decide +kernel
theorem dX4_init_25 : decode cX4_init 25 = .ok (.aload_n 0, 1) := by decide +kernel
theorem dX4_init_26 : decode cX4_init 26 = .ok (.iconst 1, 1) := by decide +kernel
theorem dX4_init_27 : decode cX4_init 27 = .ok (.iload_n 3, 1) := by decide +kernel
theorem dX4_init_28 : decode cX4_init 28 = .ok (.ishl, 1) := by decide +kernel
theorem dX4_init_29 : decode cX4_init 29 = .ok (.iconst 1, 1) := by decide +kernel
theorem dX4_init_30 : decode cX4_init 30 = .ok (.isub, 1) := by decide +kernel
theorem dX4_init_31 : decode cX4_init 31 = .ok (.putfield 24, 3) := by decide +kernel
theorem dX4_init_34 : decode cX4_init 34 = .ok (.aload_n 0, 1) := by decide +kernel
theorem dX4_init_35 : decode cX4_init 35 = .ok (.iconst 1, 1) := by decide +kernel
theorem dX4_init_36 : decode cX4_init 36 = .ok (.iload_n 3, 1) := by decide +kernel
theorem dX4_init_37 : decode cX4_init 37 = .ok (.iconst 1, 1) := by decide +kernel
theorem dX4_init_38 : decode cX4_init 38 = .ok (.isub, 1) := by decide +kernel
theorem dX4_init_39 : decode cX4_init 39 = .ok (.ishl, 1) := by decide +kernel
theorem dX4_init_40 : decode cX4_init 40 = .ok (.putfield 27, 3) := by decide +kernel
theorem dX4_init_43 : decode cX4_init 43 = .ok (.aload_n 0, 1) := by decide +kernel
theorem dX4_init_44 : decode cX4_init 44 = .ok (.iconst 1, 1) := by decide +kernel
theorem dX4_init_45 : decode cX4_init 45 = .ok (.iload_n 1, 1) := by decide +kernel
theorem dX4_init_46 : decode cX4_init 46 = .ok (.bipush 8, 2) := by decide +kernel
theorem dX4_init_48 : decode cX4_init 48 = .ok (.iadd, 1) := by decide +kernel
theorem dX4_init_49 : decode cX4_init 49 = .ok (.iconst 1, 1) := by decide +kernel
theorem dX4_init_50 : decode cX4_init 50 = .ok (.isub, 1) := by decide +kernel
theorem dX4_init_51 : decode cX4_init 51 = .ok (.bipush 8, 2) := by decide +kernel
theorem dX4_init_53 : decode cX4_init 53 = .ok (.idiv, 1) := by decide +kernel
theorem dX4_init_54 : decode cX4_init 54 = .ok (.invokestatic 30, 3) := by decide +kernel
theorem dX4_init_57 : decode cX4_init 57 = .ok (.putfield 36, 3) := by decide +kernel
theorem dX4_init_60 : decode cX4_init 60 = .ok (.aload_n 0, 1) := by decide +kernel
theorem dX4_init_61 : decode cX4_init 61 = .ok (.new 39, 3) := by decide +kernel
theorem dX4_init_64 : decode cX4_init 64 = .ok (.dup, 1) := by decide +kernel
theorem dX4_init_65 : decode cX4_init 65 = .ok (.iload_n 1, 1) := by decide +kernel
theorem dX4_init_66 : decode cX4_init 66 = .ok (.iload_n 2, 1) := by decide +kernel
theorem dX4_init_67 : decode cX4_init 67 = .ok (.imul, 1) := by decide +kernel
theorem dX4_init_68 : decode cX4_init 68 = .ok (.iload 4, 2) := by decide +kernel
theorem dX4_init_70 : decode cX4_init 70 = .ok (.imul, 1) := by decide +kernel
theorem dX4_init_71 : decode cX4_init 71 = .ok (.invokespecial 41, 3) := by decide +kernel
theorem dX4_init_74 : decode cX4_init 74 = .ok (.putfield 44, 3) := by decide +kernel
theorem dX4_init_77 : decode cX4_init 77 = .ok (.return_, 1) := by decide +kernel
theorem dX4_count_0 : decode cX4_count 0 = .ok (.aload_n 0, 1) := by decide +kernel
theorem dX4_count_1 : decode cX4_count 1 = .ok (.getfield 9, 3) := by decide +kernel
theorem dX4_count_4 : decode cX4_count 4 = .ok (.aload_n 0, 1) := by decide +kernel
theorem dX4_count_5 : decode cX4_count 5 = .ok (.getfield 15, 3) := by decide +kernel
theorem dX4_count_8 : decode cX4_count 8 = .ok (.imul, 1) := by decide +kernel
theorem dX4_count_9 : decode cX4_count 9 = .ok (.aload_n 0, 1) := by decide +kernel
theorem dX4_count_10 : decode cX4_count 10 = .ok (.getfield 21, 3) := by decide +kernel
theorem dX4_count_13 : decode cX4_count 13 = .ok (.imul, 1) := by decide +kernel
theorem dX4_count_14 : decode cX4_count 14 = .ok (.ireturn, 1) := by decide +kernel
theorem dX4_hasChannel_0 : decode cX4_hasChannel 0 = .ok (.iload_n 1, 1) := by decide +kernel
theorem dX4_hasChannel_1 : decode cX4_hasChannel 1 = .ok (.ifCond .lt 15, 3) := by decide +kernel
theorem dX4_hasChannel_4 : decode cX4_hasChannel 4 = .ok (.iload_n 1, 1) := by decide +kernel
theorem dX4_hasChannel_5 : decode cX4_hasChannel 5 = .ok (.aload_n 0, 1) := by decide +kernel
theorem dX4_hasChannel_6 : decode cX4_hasChannel 6 = .ok (.getfield 21, 3) := by decide +kernel
theorem dX4_hasChannel_9 : decode cX4_hasChannel 9 = .ok (.if_icmp .ge 7, 3) := by decide +kernel
theorem dX4_hasChannel_12 : decode cX4_hasChannel 12 = .ok (.iconst 1, 1) := by decide +kernel
theorem dX4_hasChannel_13 : decode cX4_hasChannel 13 = .ok (.goto 4, 3) := by decide +kernel
theorem dX4_hasChannel_16 : decode cX4_hasChannel 16 = .ok (.iconst 0, 1) := by decide +kernel
theorem dX4_hasChannel_17 : decode cX4_hasChannel 17 = .ok (.ireturn, 1) := by decide +kernel
theorem dX4_has_0 : decode cX4_has 0 = .ok (.iload_n 1, 1) := by decide +kernel
theorem dX4_has_1 : decode cX4_has 1 = .ok (.ifCond .lt 35, 3) := by decide +kernel
theorem dX4_has_4 : decode cX4_has 4 = .ok (.iload_n 1, 1) := by decide +kernel
theorem dX4_has_5 : decode cX4_has 5 = .ok (.aload_n 0, 1) := by decide +kernel
theorem dX4_has_6 : decode cX4_has 6 = .ok (.getfield 9, 3) := by decide +kernel
theorem dX4_has_9 : decode cX4_has 9 = .ok (.if_icmp .ge 27, 3) := by decide +kernel
theorem dX4_has_12 : decode cX4_has 12 = .ok (.iload_n 2, 1) := by decide +kernel
theorem dX4_has_13 : decode cX4_has 13 = .ok (.ifCond .lt 23, 3) := by decide +kernel
theorem dX4_has_16 : decode cX4_has 16 = .ok (.iload_n 2, 1) := by decide +kernel
theorem dX4_has_17 : decode cX4_has 17 = .ok (.aload_n 0, 1) := by decide +kernel
theorem dX4_has_18 : decode cX4_has 18 = .ok (.getfield 15, 3) := by decide +kernel
theorem dX4_has_21 : decode cX4_has 21 = .ok (.if_icmp .ge 15, 3) := by decide +kernel
theorem dX4_has_24 : decode cX4_has 24 = .ok (.aload_n 0, 1) := by decide +kernel
theorem dX4_has_25 : decode cX4_has 25 = .ok (.iload_n 3, 1) := by decide +kernel
theorem dX4_has_26 : decode cX4_has 26 = .ok (.invokevirtual 48, 3) := by decide +kernel
theorem dX4_has_29 : decode cX4_has 29 = .ok (.ifCond .eq 7, 3) := by decide +kernel
theorem dX4_has_32 : decode cX4_has 32 = .ok (.iconst 1, 1) := by decide +kernel
theorem dX4_has_33 : decode cX4_has 33 = .ok (.goto 4, 3) := by decide +kernel
theorem dX4_has_36 : decode cX4_has 36 = .ok (.iconst 0, 1) := by decide +kernel
theorem dX4_has_37 : decode cX4_has 37 = .ok (.ireturn, 1) := by decide +kernel
theorem dX4_sample_0 : decode cX4_sample 0 = .ok (.aload_n 0, 1) := by decide +kernel
theorem dX4_sample_1 : decode cX4_sample 1 = .ok (.getfield 44, 3) := by decide +kernel
theorem dX4_sample_4 : decode cX4_sample 4 = .ok (.iload_n 2, 1) := by decide +kernel
theorem dX4_sample_5 : decode cX4_sample 5 = .ok (.aload_n 0, 1) := by decide +kernel
theorem dX4_sample_6 : decode cX4_sample 6 = .ok (.getfield 9, 3) := by decide +kernel
theorem dX4_sample_9 : decode cX4_sample 9 = .ok (.imul, 1) := by decide +kernel
theorem dX4_sample_10 : decode cX4_sample 10 = .ok (.iload_n 1, 1) := by decide +kernel
theorem dX4_sample_11 : decode cX4_sample 11 = .ok (.iadd, 1) := by decide +kernel
theorem dX4_sample_12 : decode cX4_sample 12 = .ok (.aload_n 0, 1) := by decide +kernel
theorem dX4_sample_13 : decode cX4_sample 13 = .ok (.getfield 21, 3) := by decide +kernel
theorem dX4_sample_16 : decode cX4_sample 16 = .ok (.imul, 1) := by decide +kernel
theorem dX4_sample_17 : decode cX4_sample 17 = .ok (.iload_n 3, 1) := by decide +kernel
theorem dX4_sample_18 : decode cX4_sample 18 = .ok (.iadd, 1) := by decide +kernel
theorem dX4_sample_19 : decode cX4_sample 19 = .ok (.invokevirtual 52, 3) := by decide +kernel
theorem dX4_sample_22 : decode cX4_sample 22 = .ok (.ireturn, 1) := by decide +kernel
theorem dX4_change_0 : decode cX4_change 0 = .ok (.aload_n 0, 1) := by decide +kernel
theorem dX4_change_1 : decode cX4_change 1 = .ok (.iload_n 1, 1) := by decide +kernel
theorem dX4_change_2 : decode cX4_change 2 = .ok (.iload_n 2, 1) := by decide +kernel
theorem dX4_change_3 : decode cX4_change 3 = .ok (.iload_n 3, 1) := by decide +kernel
theorem dX4_change_4 : decode cX4_change 4 = .ok (.invokevirtual 56, 3) := by decide +kernel
theorem dX4_change_7 : decode cX4_change 7 = .ok (.iload 4, 2) := by decide +kernel
theorem dX4_change_9 : decode cX4_change 9 = .ok (.if_icmp .eq 7, 3) := by decide +kernel
theorem dX4_change_12 : decode cX4_change 12 = .ok (.iconst 1, 1) := by decide +kernel
theorem dX4_change_13 : decode cX4_change 13 = .ok (.goto 4, 3) := by decide +kernel
theorem dX4_change_16 : decode cX4_change 16 = .ok (.iconst 0, 1) := by decide +kernel
theorem dX4_change_17 : decode cX4_change 17 = .ok (.istore 5, 2) := by decide +kernel
theorem dX4_change_19 : decode cX4_change 19 = .ok (.aload_n 0, 1) := by decide +kernel
theorem dX4_change_20 : decode cX4_change 20 = .ok (.getfield 44, 3) := by decide +kernel
theorem dX4_change_23 : decode cX4_change 23 = .ok (.iload_n 2, 1) := by decide +kernel
theorem dX4_change_24 : decode cX4_change 24 = .ok (.aload_n 0, 1) := by decide +kernel
theorem dX4_change_25 : decode cX4_change 25 = .ok (.getfield 9, 3) := by decide +kernel
theorem dX4_change_28 : decode cX4_change 28 = .ok (.imul, 1) := by decide +kernel
theorem dX4_change_29 : decode cX4_change 29 = .ok (.iload_n 1, 1) := by decide +kernel
theorem dX4_change_30 : decode cX4_change 30 = .ok (.iadd, 1) := by decide +kernel
theorem dX4_change_31 : decode cX4_change 31 = .ok (.aload_n 0, 1) := by decide +kernel
theorem dX4_change_32 : decode cX4_change 32 = .ok (.getfield 21, 3) := by decide +kernel
theorem dX4_change_35 : decode cX4_change 35 = .ok (.imul, 1) := by decide +kernel
theorem dX4_change_36 : decode cX4_change 36 = .ok (.iload_n 3, 1) := by decide +kernel
theorem dX4_change_37 : decode cX4_change 37 = .ok (.iadd, 1) := by decide +kernel
theorem dX4_change_38 : decode cX4_change 38 = .ok (.iload 4, 2) := by decide +kernel
theorem dX4_change_40 : decode cX4_change 40 = .ok (.invokevirtual 60, 3) := by decide +kernel
theorem dX4_change_43 : decode cX4_change 43 = .ok (.iload 5, 2) := by decide +kernel
theorem dX4_change_45 : decode cX4_change 45 = .ok (.ireturn, 1) := by decide +kernel
theorem dX4_blacken_0 : decode cX4_blacken 0 = .ok (.aload_n 0, 1) := by decide +kernel
theorem dX4_blacken_1 : decode cX4_blacken 1 = .ok (.getfield 44, 3) := by decide +kernel
theorem dX4_blacken_4 : decode cX4_blacken 4 = .ok (.iconst 0, 1) := by decide +kernel
theorem dX4_blacken_5 : decode cX4_blacken 5 = .ok (.invokevirtual 64, 3) := by decide +kernel
theorem dX4_blacken_8 : decode cX4_blacken 8 = .ok (.return_, 1) := by decide +kernel
theorem dX4_inRange_0 : decode cX4_inRange 0 = .ok (.iload_n 1, 1) := by decide +kernel
theorem dX4_inRange_1 : decode cX4_inRange 1 = .ok (.iconst 0, 1) := by decide +kernel
theorem dX4_inRange_2 : decode cX4_inRange 2 = .ok (.aload_n 0, 1) := by decide +kernel
theorem dX4_inRange_3 : decode cX4_inRange 3 = .ok (.getfield 24, 3) := by decide +kernel
theorem dX4_inRange_6 : decode cX4_inRange 6 = .ok (.invokestatic 67, 3) := by decide +kernel
theorem dX4_inRange_9 : decode cX4_inRange 9 = .ok (.ireturn, 1) := by decide +kernel
theorem dX4_tiles_0 : decode cX4_tiles 0 = .ok (.aload_n 0, 1) := by decide +kernel
theorem dX4_tiles_1 : decode cX4_tiles 1 = .ok (.getfield 36, 3) := by decide +kernel
theorem dX4_tiles_4 : decode cX4_tiles 4 = .ok (.aload_n 0, 1) := by decide +kernel
theorem dX4_tiles_5 : decode cX4_tiles 5 = .ok (.getfield 15, 3) := by decide +kernel
theorem dX4_tiles_8 : decode cX4_tiles 8 = .ok (.bipush 8, 2) := by decide +kernel
theorem dX4_tiles_10 : decode cX4_tiles 10 = .ok (.iadd, 1) := by decide +kernel
theorem dX4_tiles_11 : decode cX4_tiles 11 = .ok (.iconst 1, 1) := by decide +kernel
theorem dX4_tiles_12 : decode cX4_tiles 12 = .ok (.isub, 1) := by decide +kernel
theorem dX4_tiles_13 : decode cX4_tiles 13 = .ok (.bipush 8, 2) := by decide +kernel
theorem dX4_tiles_15 : decode cX4_tiles 15 = .ok (.idiv, 1) := by decide +kernel
theorem dX4_tiles_16 : decode cX4_tiles 16 = .ok (.imul, 1) := by decide +kernel
theorem dX4_tiles_17 : decode cX4_tiles 17 = .ok (.ireturn, 1) := by decide +kernel
theorem dX4_left_0 : decode cX4_left 0 = .ok (.aload_n 0, 1) := by decide +kernel
theorem dX4_left_1 : decode cX4_left 1 = .ok (.getfield 36, 3) := by decide +kernel
theorem dX4_left_4 : decode cX4_left 4 = .ok (.ifCond .le 15, 3) := by decide +kernel
theorem dX4_left_7 : decode cX4_left 7 = .ok (.iload_n 1, 1) := by decide +kernel
theorem dX4_left_8 : decode cX4_left 8 = .ok (.aload_n 0, 1) := by decide +kernel
theorem dX4_left_9 : decode cX4_left 9 = .ok (.getfield 36, 3) := by decide +kernel
theorem dX4_left_12 : decode cX4_left 12 = .ok (.irem, 1) := by decide +kernel
theorem dX4_left_13 : decode cX4_left 13 = .ok (.bipush 8, 2) := by decide +kernel
theorem dX4_left_15 : decode cX4_left 15 = .ok (.imul, 1) := by decide +kernel
theorem dX4_left_16 : decode cX4_left 16 = .ok (.goto 4, 3) := by decide +kernel
theorem dX4_left_19 : decode cX4_left 19 = .ok (.iconst 0, 1) := by decide +kernel
theorem dX4_left_20 : decode cX4_left 20 = .ok (.ireturn, 1) := by decide +kernel
theorem dX4_top_0 : decode cX4_top 0 = .ok (.aload_n 0, 1) := by decide +kernel
theorem dX4_top_1 : decode cX4_top 1 = .ok (.getfield 36, 3) := by decide +kernel
theorem dX4_top_4 : decode cX4_top 4 = .ok (.ifCond .le 15, 3) := by decide +kernel
theorem dX4_top_7 : decode cX4_top 7 = .ok (.iload_n 1, 1) := by decide +kernel
theorem dX4_top_8 : decode cX4_top 8 = .ok (.aload_n 0, 1) := by decide +kernel
theorem dX4_top_9 : decode cX4_top 9 = .ok (.getfield 36, 3) := by decide +kernel
theorem dX4_top_12 : decode cX4_top 12 = .ok (.idiv, 1) := by decide +kernel
theorem dX4_top_13 : decode cX4_top 13 = .ok (.bipush 8, 2) := by decide +kernel
theorem dX4_top_15 : decode cX4_top 15 = .ok (.imul, 1) := by decide +kernel
theorem dX4_top_16 : decode cX4_top 16 = .ok (.goto 4, 3) := by decide +kernel
theorem dX4_top_19 : decode cX4_top 19 = .ok (.iconst 0, 1) := by decide +kernel
theorem dX4_top_20 : decode cX4_top 20 = .ok (.ireturn, 1) := by decide +kernel
theorem dX4_right_0 : decode cX4_right 0 = .ok (.aload_n 0, 1) := by decide +kernel
theorem dX4_right_1 : decode cX4_right 1 = .ok (.getfield 9, 3) := by decide +kernel
theorem dX4_right_4 : decode cX4_right 4 = .ok (.aload_n 0, 1) := by decide +kernel
theorem dX4_right_5 : decode cX4_right 5 = .ok (.iload_n 1, 1) := by decide +kernel
theorem dX4_right_6 : decode cX4_right 6 = .ok (.invokevirtual 70, 3) := by decide +kernel
theorem dX4_right_9 : decode cX4_right 9 = .ok (.bipush 8, 2) := by decide +kernel
theorem dX4_right_11 : decode cX4_right 11 = .ok (.iadd, 1) := by decide +kernel
theorem dX4_right_12 : decode cX4_right 12 = .ok (.invokestatic 73, 3) := by decide +kernel
theorem dX4_right_15 : decode cX4_right 15 = .ok (.ireturn, 1) := by decide +kernel
theorem dX4_bottom_0 : decode cX4_bottom 0 = .ok (.aload_n 0, 1) := by decide +kernel
theorem dX4_bottom_1 : decode cX4_bottom 1 = .ok (.getfield 15, 3) := by decide +kernel
theorem dX4_bottom_4 : decode cX4_bottom 4 = .ok (.aload_n 0, 1) := by decide +kernel
theorem dX4_bottom_5 : decode cX4_bottom 5 = .ok (.iload_n 1, 1) := by decide +kernel
theorem dX4_bottom_6 : decode cX4_bottom 6 = .ok (.invokevirtual 76, 3) := by decide +kernel
theorem dX4_bottom_9 : decode cX4_bottom 9 = .ok (.bipush 8, 2) := by decide +kernel
theorem dX4_bottom_11 : decode cX4_bottom 11 = .ok (.iadd, 1) := by decide +kernel
theorem dX4_bottom_12 : decode cX4_bottom 12 = .ok (.invokestatic 73, 3) := by decide +kernel
theorem dX4_bottom_15 : decode cX4_bottom 15 = .ok (.ireturn, 1) := by decide +kernel
theorem dX4_countIn_0 : decode cX4_countIn 0 = .ok (.aload_n 0, 1) := by decide +kernel
theorem dX4_countIn_1 : decode cX4_countIn 1 = .ok (.iload_n 1, 1) := by decide +kernel
theorem dX4_countIn_2 : decode cX4_countIn 2 = .ok (.invokevirtual 79, 3) := by decide +kernel
theorem dX4_countIn_5 : decode cX4_countIn 5 = .ok (.aload_n 0, 1) := by decide +kernel
theorem dX4_countIn_6 : decode cX4_countIn 6 = .ok (.iload_n 1, 1) := by decide +kernel
theorem dX4_countIn_7 : decode cX4_countIn 7 = .ok (.invokevirtual 70, 3) := by decide +kernel
theorem dX4_countIn_10 : decode cX4_countIn 10 = .ok (.isub, 1) := by decide +kernel
theorem dX4_countIn_11 : decode cX4_countIn 11 = .ok (.aload_n 0, 1) := by decide +kernel
theorem dX4_countIn_12 : decode cX4_countIn 12 = .ok (.iload_n 1, 1) := by decide +kernel
theorem dX4_countIn_13 : decode cX4_countIn 13 = .ok (.invokevirtual 82, 3) := by decide +kernel
theorem dX4_countIn_16 : decode cX4_countIn 16 = .ok (.aload_n 0, 1) := by decide +kernel
theorem dX4_countIn_17 : decode cX4_countIn 17 = .ok (.iload_n 1, 1) := by decide +kernel
theorem dX4_countIn_18 : decode cX4_countIn 18 = .ok (.invokevirtual 76, 3) := by decide +kernel
theorem dX4_countIn_21 : decode cX4_countIn 21 = .ok (.isub, 1) := by decide +kernel
theorem dX4_countIn_22 : decode cX4_countIn 22 = .ok (.imul, 1) := by decide +kernel
theorem dX4_countIn_23 : decode cX4_countIn 23 = .ok (.aload_n 0, 1) := by decide +kernel
theorem dX4_countIn_24 : decode cX4_countIn 24 = .ok (.getfield 21, 3) := by decide +kernel
theorem dX4_countIn_27 : decode cX4_countIn 27 = .ok (.imul, 1) := by decide +kernel
theorem dX4_countIn_28 : decode cX4_countIn 28 = .ok (.ireturn, 1) := by decide +kernel
theorem dX5_init_0 : decode cX5_init 0 = .ok (.aload_n 0, 1) := by decide +kernel
theorem dX5_init_1 : decode cX5_init 1 = .ok (.invokespecial 1, 3) := by decide +kernel
theorem dX5_init_4 : decode cX5_init 4 = .ok (.aload_n 0, 1) := by decide +kernel
theorem dX5_init_5 : decode cX5_init 5 = .ok (.aload_n 1, 1) := by decide +kernel
theorem dX5_init_6 : decode cX5_init 6 = .ok (.putfield 7, 3) := by decide +kernel
theorem dX5_init_9 : decode cX5_init 9 = .ok (.return_, 1) := by decide +kernel
theorem dX5_begin_0 : decode cX5_begin 0 = .ok (.aload_n 0, 1) := by decide +kernel
theorem dX5_begin_1 : decode cX5_begin 1 = .ok (.invokevirtual 13, 3) := by decide +kernel
theorem dX5_begin_4 : decode cX5_begin 4 = .ok (.aload_n 0, 1) := by decide +kernel
theorem dX5_begin_5 : decode cX5_begin 5 = .ok (.iload_n 1, 1) := by decide +kernel
theorem dX5_begin_6 : decode cX5_begin 6 = .ok (.putfield 16, 3) := by decide +kernel
theorem dX5_begin_9 : decode cX5_begin 9 = .ok (.aload_n 0, 1) := by decide +kernel
theorem dX5_begin_10 : decode cX5_begin 10 = .ok (.iload_n 2, 1) := by decide +kernel
theorem dX5_begin_11 : decode cX5_begin 11 = .ok (.putfield 20, 3) := by decide +kernel
theorem dX5_begin_14 : decode cX5_begin 14 = .ok (.aload_n 0, 1) := by decide +kernel
theorem dX5_begin_15 : decode cX5_begin 15 = .ok (.lconst 0, 1) := by decide +kernel
theorem dX5_begin_16 : decode cX5_begin 16 = .ok (.putfield 23, 3) := by decide +kernel
theorem dX5_begin_19 : decode cX5_begin 19 = .ok (.iconst 0, 1) := by decide +kernel
theorem dX5_begin_20 : decode cX5_begin 20 = .ok (.istore_n 3, 1) := by decide +kernel
theorem dX5_begin_21 : decode cX5_begin 21 = .ok (.iload_n 3, 1) := by decide +kernel
theorem dX5_begin_22 : decode cX5_begin 22 = .ok (.iconst 4, 1) := by decide +kernel
theorem dX5_begin_23 : decode cX5_begin 23 = .ok (.if_icmp .ge 14, 3) := by decide +kernel
theorem dX5_begin_26 : decode cX5_begin 26 = .ok (.aload_n 0, 1) := by decide +kernel
theorem dX5_begin_27 : decode cX5_begin 27 = .ok (.iconst 0, 1) := by decide +kernel
theorem dX5_begin_28 : decode cX5_begin 28 = .ok (.invokevirtual 27, 3) := by decide +kernel
theorem dX5_begin_31 : decode cX5_begin 31 = .ok (.iinc 3 1, 3) := by decide +kernel
theorem dX5_begin_34 : decode cX5_begin 34 = .ok (.goto (-13), 3) := by decide +kernel
theorem dX5_begin_37 : decode cX5_begin 37 = .ok (.return_, 1) := by decide +kernel
theorem dX5_choose_0 : decode cX5_choose 0 = .ok (.aload_n 0, 1) := by decide +kernel
theorem dX5_choose_1 : decode cX5_choose 1 = .ok (.getfield 23, 3) := by decide +kernel
theorem dX5_choose_4 : decode cX5_choose 4 = .ok (.lload_n 1, 1) := by decide +kernel
theorem dX5_choose_5 : decode cX5_choose 5 = .ok (.lcmp, 1) := by decide +kernel
theorem dX5_choose_6 : decode cX5_choose 6 = .ok (.ifCond .gt 7, 3) := by decide +kernel
theorem dX5_choose_9 : decode cX5_choose 9 = .ok (.iconst 1, 1) := by decide +kernel
theorem dX5_choose_10 : decode cX5_choose 10 = .ok (.goto 4, 3) := by decide +kernel
theorem dX5_choose_13 : decode cX5_choose 13 = .ok (.iconst 0, 1) := by decide +kernel
theorem dX5_choose_14 : decode cX5_choose 14 = .ok (.ireturn, 1) := by decide +kernel
theorem dX5_leave_0 : decode cX5_leave 0 = .ok (.aload_n 0, 1) := by decide +kernel
theorem dX5_leave_1 : decode cX5_leave 1 = .ok (.aload_n 0, 1) := by decide +kernel
theorem dX5_leave_2 : decode cX5_leave 2 = .ok (.getfield 23, 3) := by decide +kernel
theorem dX5_leave_5 : decode cX5_leave 5 = .ok (.bipush 8, 2) := by decide +kernel
theorem dX5_leave_7 : decode cX5_leave 7 = .ok (.lshl, 1) := by decide +kernel
theorem dX5_leave_8 : decode cX5_leave 8 = .ok (.ldc2_w 31, 3) := by decide +kernel
theorem dX5_leave_11 : decode cX5_leave 11 = .ok (.land, 1) := by decide +kernel
theorem dX5_leave_12 : decode cX5_leave 12 = .ok (.aload_n 0, 1) := by decide +kernel
theorem dX5_leave_13 : decode cX5_leave 13 = .ok (.getfield 16, 3) := by decide +kernel
theorem dX5_leave_16 : decode cX5_leave 16 = .ok (.aload_n 0, 1) := by decide +kernel
theorem dX5_leave_17 : decode cX5_leave 17 = .ok (.getfield 20, 3) := by decide +kernel
theorem dX5_leave_20 : decode cX5_leave 20 = .ok (.if_icmp .ge 17, 3) := by decide +kernel
theorem dX5_leave_23 : decode cX5_leave 23 = .ok (.aload_n 0, 1) := by decide +kernel
theorem dX5_leave_24 : decode cX5_leave 24 = .ok (.getfield 7, 3) := by decide +kernel
theorem dX5_leave_27 : decode cX5_leave 27 = .ok (.aload_n 0, 1) := by decide +kernel
theorem dX5_leave_28 : decode cX5_leave 28 = .ok (.getfield 16, 3) := by decide +kernel
theorem dX5_leave_31 : decode cX5_leave 31 = .ok (.invokevirtual 33, 3) := by decide +kernel
theorem dX5_leave_34 : decode cX5_leave 34 = .ok (.goto 4, 3) := by decide +kernel
theorem dX5_leave_37 : decode cX5_leave 37 = .ok (.iconst 0, 1) := by decide +kernel
theorem dX5_leave_38 : decode cX5_leave 38 = .ok (.i2l, 1) := by decide +kernel
theorem dX5_leave_39 : decode cX5_leave 39 = .ok (.lor, 1) := by decide +kernel
theorem dX5_leave_40 : decode cX5_leave 40 = .ok (.putfield 23, 3) := by decide +kernel
theorem dX5_leave_43 : decode cX5_leave 43 = .ok (.aload_n 0, 1) := by decide +kernel
theorem dX5_leave_44 : decode cX5_leave 44 = .ok (.dup, 1) := by decide +kernel
theorem dX5_leave_45 : decode cX5_leave 45 = .ok (.getfield 16, 3) := by decide +kernel
theorem dX5_leave_48 : decode cX5_leave 48 = .ok (.iconst 1, 1) := by decide +kernel
theorem dX5_leave_49 : decode cX5_leave 49 = .ok (.iadd, 1) := by decide +kernel
theorem dX5_leave_50 : decode cX5_leave 50 = .ok (.putfield 16, 3) := by decide +kernel
theorem dX5_leave_53 : decode cX5_leave 53 = .ok (.return_, 1) := by decide +kernel
theorem dX6_init_0 : decode cX6_init 0 = .ok (.aload_n 0, 1) := by decide +kernel
theorem dX6_init_1 : decode cX6_init 1 = .ok (.invokespecial 1, 3) := by decide +kernel
theorem dX6_init_4 : decode cX6_init 4 = .ok (.aload_n 0, 1) := by decide +kernel
theorem dX6_init_5 : decode cX6_init 5 = .ok (.iconst 0, 1) := by decide +kernel
theorem dX6_init_6 : decode cX6_init 6 = .ok (.iload_n 1, 1) := by decide +kernel
theorem dX6_init_7 : decode cX6_init 7 = .ok (.invokestatic 7, 3) := by decide +kernel
theorem dX6_init_10 : decode cX6_init 10 = .ok (.newarray .int, 2) := by decide +kernel
theorem dX6_init_12 : decode cX6_init 12 = .ok (.putfield 13, 3) := by decide +kernel
theorem dX6_init_15 : decode cX6_init 15 = .ok (.return_, 1) := by decide +kernel
theorem dX6_get_0 : decode cX6_get 0 = .ok (.iload_n 1, 1) := by decide +kernel
theorem dX6_get_1 : decode cX6_get 1 = .ok (.ifCond .lt 21, 3) := by decide +kernel
theorem dX6_get_4 : decode cX6_get 4 = .ok (.iload_n 1, 1) := by decide +kernel
theorem dX6_get_5 : decode cX6_get 5 = .ok (.aload_n 0, 1) := by decide +kernel
theorem dX6_get_6 : decode cX6_get 6 = .ok (.getfield 13, 3) := by decide +kernel
theorem dX6_get_9 : decode cX6_get 9 = .ok (.arraylength, 1) := by decide +kernel
theorem dX6_get_10 : decode cX6_get 10 = .ok (.if_icmp .ge 12, 3) := by decide +kernel
theorem dX6_get_13 : decode cX6_get 13 = .ok (.aload_n 0, 1) := by decide +kernel
theorem dX6_get_14 : decode cX6_get 14 = .ok (.getfield 13, 3) := by decide +kernel
theorem dX6_get_17 : decode cX6_get 17 = .ok (.iload_n 1, 1) := by decide +kernel
theorem dX6_get_18 : decode cX6_get 18 = .ok (.iaload, 1) := by decide +kernel
theorem dX6_get_19 : decode cX6_get 19 = .ok (.goto 4, 3) := by decide +kernel
theorem dX6_get_22 : decode cX6_get 22 = .ok (.iconst 0, 1) := by decide +kernel
theorem dX6_get_23 : decode cX6_get 23 = .ok (.ireturn, 1) := by decide +kernel
theorem dX6_set_0 : decode cX6_set 0 = .ok (.iload_n 1, 1) := by decide +kernel
theorem dX6_set_1 : decode cX6_set 1 = .ok (.ifCond .lt 19, 3) := by decide +kernel
theorem dX6_set_4 : decode cX6_set 4 = .ok (.iload_n 1, 1) := by decide +kernel
theorem dX6_set_5 : decode cX6_set 5 = .ok (.aload_n 0, 1) := by decide +kernel
theorem dX6_set_6 : decode cX6_set 6 = .ok (.getfield 13, 3) := by decide +kernel
theorem dX6_set_9 : decode cX6_set 9 = .ok (.arraylength, 1) := by decide +kernel
theorem dX6_set_10 : decode cX6_set 10 = .ok (.if_icmp .ge 10, 3) := by decide +kernel
theorem dX6_set_13 : decode cX6_set 13 = .ok (.aload_n 0, 1) := by decide +kernel
theorem dX6_set_14 : decode cX6_set 14 = .ok (.getfield 13, 3) := by decide +kernel
theorem dX6_set_17 : decode cX6_set 17 = .ok (.iload_n 1, 1) := by decide +kernel
theorem dX6_set_18 : decode cX6_set 18 = .ok (.iload_n 2, 1) := by decide +kernel
theorem dX6_set_19 : decode cX6_set 19 = .ok (.iastore, 1) := by decide +kernel
theorem dX6_set_20 : decode cX6_set 20 = .ok (.return_, 1) := by decide +kernel
theorem dX6_fill_0 : decode cX6_fill 0 = .ok (.aload_n 0, 1) := by decide +kernel
theorem dX6_fill_1 : decode cX6_fill 1 = .ok (.getfield 13, 3) := by decide +kernel
theorem dX6_fill_4 : decode cX6_fill 4 = .ok (.iload_n 1, 1) := by decide +kernel
theorem dX6_fill_5 : decode cX6_fill 5 = .ok (.invokestatic 19, 3) := by decide +kernel
theorem dX6_fill_8 : decode cX6_fill 8 = .ok (.return_, 1) := by decide +kernel
theorem dX7_init_0 : decode cX7_init 0 = .ok (.aload_n 0, 1) := by decide +kernel
theorem dX7_init_1 : decode cX7_init 1 = .ok (.invokespecial 3, 3) := by decide +kernel
theorem dX7_init_4 : decode cX7_init 4 = .ok (.aload_n 0, 1) := by decide +kernel
theorem dX7_init_5 : decode cX7_init 5 = .ok (.new 9, 3) := by decide +kernel
theorem dX7_init_8 : decode cX7_init 8 = .ok (.dup, 1) := by decide +kernel
theorem dX7_init_9 : decode cX7_init 9 = .ok (.invokespecial 11, 3) := by decide +kernel
theorem dX7_init_12 : decode cX7_init 12 = .ok (.putfield 12, 3) := by decide +kernel
theorem dX7_init_15 : decode cX7_init 15 = .ok (.aload_n 0, 1) := by decide +kernel
theorem dX7_init_16 : decode cX7_init 16 = .ok (.aload_n 1, 1) := by decide +kernel
theorem dX7_init_17 : decode cX7_init 17 = .ok (.putfield 18, 3) := by decide +kernel
theorem dX7_init_20 : decode cX7_init 20 = .ok (.aload_n 0, 1) := by decide +kernel
theorem dX7_init_21 : decode cX7_init 21 = .ok (.new 22, 3) := by decide +kernel
theorem dX7_init_24 : decode cX7_init 24 = .ok (.dup, 1) := by decide +kernel
theorem dX7_init_25 : decode cX7_init 25 = .ok (.aload_n 1, 1) := by decide +kernel
theorem dX7_init_26 : decode cX7_init 26 = .ok (.invokespecial 24, 3) := by decide +kernel
theorem dX7_init_29 : decode cX7_init 29 = .ok (.putfield 27, 3) := by decide +kernel
theorem dX7_init_32 : decode cX7_init 32 = .ok (.aload_n 0, 1) := by decide +kernel
theorem dX7_init_33 : decode cX7_init 33 = .ok (.new 31, 3) := by decide +kernel
theorem dX7_init_36 : decode cX7_init 36 = .ok (.dup, 1) := by decide +kernel
theorem dX7_init_37 : decode cX7_init 37 = .ok (.aload_n 1, 1) := by decide +kernel
theorem dX7_init_38 : decode cX7_init 38 = .ok (.getfield 33, 3) := by decide +kernel
theorem dX7_init_41 : decode cX7_init 41 = .ok (.aload_n 1, 1) := by decide +kernel
theorem dX7_init_42 : decode cX7_init 42 = .ok (.getfield 39, 3) := by decide +kernel
theorem dX7_init_45 : decode cX7_init 45 = .ok (.invokespecial 42, 3) := by decide +kernel
theorem dX7_init_48 : decode cX7_init 48 = .ok (.putfield 45, 3) := by decide +kernel
theorem dX7_init_51 : decode cX7_init 51 = .ok (.aload_n 0, 1) := by decide +kernel
theorem dX7_init_52 : decode cX7_init 52 = .ok (.new 49, 3) := by decide +kernel
theorem dX7_init_55 : decode cX7_init 55 = .ok (.dup, 1) := by decide +kernel
theorem dX7_init_56 : decode cX7_init 56 = .ok (.aload_n 1, 1) := by decide +kernel
theorem dX7_init_57 : decode cX7_init 57 = .ok (.getfield 39, 3) := by decide +kernel
theorem dX7_init_60 : decode cX7_init 60 = .ok (.invokespecial 51, 3) := by decide +kernel
theorem dX7_init_63 : decode cX7_init 63 = .ok (.putfield 54, 3) := by decide +kernel
theorem dX7_init_66 : decode cX7_init 66 = .ok (.aload_n 0, 1) := by decide +kernel
theorem dX7_init_67 : decode cX7_init 67 = .ok (.invokevirtual 58, 3) := by decide +kernel
theorem dX7_init_70 : decode cX7_init 70 = .ok (.return_, 1) := by decide +kernel
theorem dX7_begin_0 : decode cX7_begin 0 = .ok (.aload_n 0, 1) := by decide +kernel
theorem dX7_begin_1 : decode cX7_begin 1 = .ok (.getfield 12, 3) := by decide +kernel
theorem dX7_begin_4 : decode cX7_begin 4 = .ok (.invokevirtual 61, 3) := by decide +kernel
theorem dX7_begin_7 : decode cX7_begin 7 = .ok (.aload_n 0, 1) := by decide +kernel
theorem dX7_begin_8 : decode cX7_begin 8 = .ok (.getfield 45, 3) := by decide +kernel
theorem dX7_begin_11 : decode cX7_begin 11 = .ok (.invokevirtual 62, 3) := by decide +kernel
theorem dX7_begin_14 : decode cX7_begin 14 = .ok (.aload_n 0, 1) := by decide +kernel
theorem dX7_begin_15 : decode cX7_begin 15 = .ok (.getfield 54, 3) := by decide +kernel
theorem dX7_begin_18 : decode cX7_begin 18 = .ok (.iconst 0, 1) := by decide +kernel
theorem dX7_begin_19 : decode cX7_begin 19 = .ok (.invokevirtual 63, 3) := by decide +kernel
theorem dX7_begin_22 : decode cX7_begin 22 = .ok (.return_, 1) := by decide +kernel
theorem dX7_tell_0 : decode cX7_tell 0 = .ok (.aload_n 0, 1) := by decide +kernel
theorem dX7_tell_1 : decode cX7_tell 1 = .ok (.invokevirtual 58, 3) := by decide +kernel
theorem dX7_tell_4 : decode cX7_tell 4 = .ok (.iload_n 3, 1) := by decide +kernel
theorem dX7_tell_5 : decode cX7_tell 5 = .ok (.istore 4, 2) := by decide +kernel
theorem dX7_tell_7 : decode cX7_tell 7 = .ok (.iload 4, 2) := by decide +kernel
theorem dX7_tell_9 : decode cX7_tell 9 = .ok (.iload_n 3, 1) := by decide +kernel
theorem dX7_tell_10 : decode cX7_tell 10 = .ok (.bipush 8, 2) := by decide +kernel
theorem dX7_tell_12 : decode cX7_tell 12 = .ok (.iadd, 1) := by decide +kernel
theorem dX7_tell_13 : decode cX7_tell 13 = .ok (.if_icmp .ge 83, 3) := by decide +kernel
theorem dX7_tell_16 : decode cX7_tell 16 = .ok (.iload 4, 2) := by decide +kernel
theorem dX7_tell_18 : decode cX7_tell 18 = .ok (.aload_n 0, 1) := by decide +kernel
theorem dX7_tell_19 : decode cX7_tell 19 = .ok (.getfield 18, 3) := by decide +kernel
theorem dX7_tell_22 : decode cX7_tell 22 = .ok (.getfield 66, 3) := by decide +kernel
theorem dX7_tell_25 : decode cX7_tell 25 = .ok (.if_icmp .ge 71, 3) := by decide +kernel
theorem dX7_tell_28 : decode cX7_tell 28 = .ok (.iload_n 2, 1) := by decide +kernel
theorem dX7_tell_29 : decode cX7_tell 29 = .ok (.istore 5, 2) := by decide +kernel
theorem dX7_tell_31 : decode cX7_tell 31 = .ok (.iload 5, 2) := by decide +kernel
theorem dX7_tell_33 : decode cX7_tell 33 = .ok (.iload_n 2, 1) := by decide +kernel
theorem dX7_tell_34 : decode cX7_tell 34 = .ok (.bipush 8, 2) := by decide +kernel
theorem dX7_tell_36 : decode cX7_tell 36 = .ok (.iadd, 1) := by decide +kernel
theorem dX7_tell_37 : decode cX7_tell 37 = .ok (.if_icmp .ge 53, 3) := by decide +kernel
theorem dX7_tell_40 : decode cX7_tell 40 = .ok (.iload 5, 2) := by decide +kernel
theorem dX7_tell_42 : decode cX7_tell 42 = .ok (.aload_n 0, 1) := by decide +kernel
theorem dX7_tell_43 : decode cX7_tell 43 = .ok (.getfield 18, 3) := by decide +kernel
theorem dX7_tell_46 : decode cX7_tell 46 = .ok (.getfield 69, 3) := by decide +kernel
theorem dX7_tell_49 : decode cX7_tell 49 = .ok (.if_icmp .ge 41, 3) := by decide +kernel
theorem dX7_tell_52 : decode cX7_tell 52 = .ok (.iconst 0, 1) := by decide +kernel
theorem dX7_tell_53 : decode cX7_tell 53 = .ok (.istore 6, 2) := by decide +kernel
theorem dX7_tell_55 : decode cX7_tell 55 = .ok (.iload 6, 2) := by decide +kernel
theorem dX7_tell_57 : decode cX7_tell 57 = .ok (.aload_n 0, 1) := by decide +kernel
theorem dX7_tell_58 : decode cX7_tell 58 = .ok (.getfield 18, 3) := by decide +kernel
theorem dX7_tell_61 : decode cX7_tell 61 = .ok (.getfield 39, 3) := by decide +kernel
theorem dX7_tell_64 : decode cX7_tell 64 = .ok (.if_icmp .ge 20, 3) := by decide +kernel
theorem dX7_tell_67 : decode cX7_tell 67 = .ok (.aload_n 0, 1) := by decide +kernel
theorem dX7_tell_68 : decode cX7_tell 68 = .ok (.aload_n 1, 1) := by decide +kernel
theorem dX7_tell_69 : decode cX7_tell 69 = .ok (.iload 5, 2) := by decide +kernel
theorem dX7_tell_71 : decode cX7_tell 71 = .ok (.iload 4, 2) := by decide +kernel
theorem dX7_tell_73 : decode cX7_tell 73 = .ok (.iload 6, 2) := by decide +kernel
theorem dX7_tell_75 : decode cX7_tell 75 = .ok (.invokevirtual 72, 3) := by decide +kernel
theorem dX7_tell_78 : decode cX7_tell 78 = .ok (.iinc 6 1, 3) := by decide +kernel
theorem dX7_tell_81 : decode cX7_tell 81 = .ok (.goto (-26), 3) := by decide +kernel
theorem dX7_tell_84 : decode cX7_tell 84 = .ok (.iinc 5 1, 3) := by decide +kernel
theorem dX7_tell_87 : decode cX7_tell 87 = .ok (.goto (-56), 3) := by decide +kernel
theorem dX7_tell_90 : decode cX7_tell 90 = .ok (.iinc 4 1, 3) := by decide +kernel
theorem dX7_tell_93 : decode cX7_tell 93 = .ok (.goto (-86), 3) := by decide +kernel
theorem dX7_tell_96 : decode cX7_tell 96 = .ok (.return_, 1) := by decide +kernel
theorem dX7_tellSample_0 : decode cX7_tellSample 0 = .ok (.aload_n 0, 1) := by decide +kernel
theorem dX7_tellSample_1 : decode cX7_tellSample 1 = .ok (.getfield 27, 3) := by decide +kernel
theorem dX7_tellSample_4 : decode cX7_tellSample 4 = .ok (.iload_n 2, 1) := by decide +kernel
theorem dX7_tellSample_5 : decode cX7_tellSample 5 = .ok (.iload_n 3, 1) := by decide +kernel
theorem dX7_tellSample_6 : decode cX7_tellSample 6 = .ok (.iload 4, 2) := by decide +kernel
theorem dX7_tellSample_8 : decode cX7_tellSample 8 = .ok (.invokevirtual 76, 3) := by decide +kernel
theorem dX7_tellSample_11 : decode cX7_tellSample 11 = .ok (.aload_n 0, 1) := by decide +kernel
theorem dX7_tellSample_12 : decode cX7_tellSample 12 = .ok (.getfield 12, 3) := by decide +kernel
theorem dX7_tellSample_15 : decode cX7_tellSample 15 = .ok (.aload_n 0, 1) := by decide +kernel
theorem dX7_tellSample_16 : decode cX7_tellSample 16 = .ok (.getfield 27, 3) := by decide +kernel
theorem dX7_tellSample_19 : decode cX7_tellSample 19 = .ok (.invokevirtual 80, 3) := by decide +kernel
theorem dX7_tellSample_22 : decode cX7_tellSample 22 = .ok (.istore 5, 2) := by decide +kernel
theorem dX7_tellSample_24 : decode cX7_tellSample 24 = .ok (.aload_n 0, 1) := by decide +kernel
theorem dX7_tellSample_25 : decode cX7_tellSample 25 = .ok (.aload_n 0, 1) := by decide +kernel
theorem dX7_tellSample_26 : decode cX7_tellSample 26 = .ok (.getfield 18, 3) := by decide +kernel
theorem dX7_tellSample_29 : decode cX7_tellSample 29 = .ok (.iload_n 2, 1) := by decide +kernel
theorem dX7_tellSample_30 : decode cX7_tellSample 30 = .ok (.iload_n 3, 1) := by decide +kernel
theorem dX7_tellSample_31 : decode cX7_tellSample 31 = .ok (.iload 4, 2) := by decide +kernel
theorem dX7_tellSample_33 : decode cX7_tellSample 33 = .ok (.invokevirtual 84, 3) := by decide +kernel
theorem dX7_tellSample_36 : decode cX7_tellSample 36 = .ok (.iload 5, 2) := by decide +kernel
theorem dX7_tellSample_38 : decode cX7_tellSample 38 = .ok (.isub, 1) := by decide +kernel
theorem dX7_tellSample_39 : decode cX7_tellSample 39 = .ok (.aload_n 0, 1) := by decide +kernel
theorem dX7_tellSample_40 : decode cX7_tellSample 40 = .ok (.getfield 18, 3) := by decide +kernel
theorem dX7_tellSample_43 : decode cX7_tellSample 43 = .ok (.getfield 88, 3) := by decide +kernel
theorem dX7_tellSample_46 : decode cX7_tellSample 46 = .ok (.iand, 1) := by decide +kernel
theorem dX7_tellSample_47 : decode cX7_tellSample 47 = .ok (.invokevirtual 91, 3) := by decide +kernel
theorem dX7_tellSample_50 : decode cX7_tellSample 50 = .ok (.istore 6, 2) := by decide +kernel
theorem dX7_tellSample_52 : decode cX7_tellSample 52 = .ok (.aload_n 0, 1) := by decide +kernel
theorem dX7_tellSample_53 : decode cX7_tellSample 53 = .ok (.aload_n 1, 1) := by decide +kernel
theorem dX7_tellSample_54 : decode cX7_tellSample 54 = .ok (.iload 4, 2) := by decide +kernel
theorem dX7_tellSample_56 : decode cX7_tellSample 56 = .ok (.iload 6, 2) := by decide +kernel
theorem dX7_tellSample_58 : decode cX7_tellSample 58 = .ok (.invokevirtual 95, 3) := by decide +kernel
theorem dX7_tellSample_61 : decode cX7_tellSample 61 = .ok (.istore 7, 2) := by decide +kernel
theorem dX7_tellSample_63 : decode cX7_tellSample 63 = .ok (.iload 5, 2) := by decide +kernel
theorem dX7_tellSample_65 : decode cX7_tellSample 65 = .ok (.aload_n 0, 1) := by decide +kernel
theorem dX7_tellSample_66 : decode cX7_tellSample 66 = .ok (.iload 7, 2) := by decide +kernel
theorem dX7_tellSample_68 : decode cX7_tellSample 68 = .ok (.invokevirtual 99, 3) := by decide +kernel
theorem dX7_tellSample_71 : decode cX7_tellSample 71 = .ok (.iadd, 1) := by decide +kernel
theorem dX7_tellSample_72 : decode cX7_tellSample 72 = .ok (.aload_n 0, 1) := by decide +kernel
theorem dX7_tellSample_73 : decode cX7_tellSample 73 = .ok (.getfield 18, 3) := by decide +kernel
theorem dX7_tellSample_76 : decode cX7_tellSample 76 = .ok (.getfield 88, 3) := by decide +kernel
theorem dX7_tellSample_79 : decode cX7_tellSample 79 = .ok (.iand, 1) := by decide +kernel
theorem dX7_tellSample_80 : decode cX7_tellSample 80 = .ok (.istore 8, 2) := by decide +kernel
theorem dX7_tellSample_82 : decode cX7_tellSample 82 = .ok (.aload_n 0, 1) := by decide +kernel
theorem dX7_tellSample_83 : decode cX7_tellSample 83 = .ok (.getfield 54, 3) := by decide +kernel
theorem dX7_tellSample_86 : decode cX7_tellSample 86 = .ok (.iload 4, 2) := by decide +kernel
theorem dX7_tellSample_88 : decode cX7_tellSample 88 = .ok (.iconst 3, 1) := by decide +kernel
theorem dX7_tellSample_89 : decode cX7_tellSample 89 = .ok (.iload 7, 2) := by decide +kernel
theorem dX7_tellSample_91 : decode cX7_tellSample 91 = .ok (.iconst 2, 1) := by decide +kernel
theorem dX7_tellSample_92 : decode cX7_tellSample 92 = .ok (.idiv, 1) := by decide +kernel
theorem dX7_tellSample_93 : decode cX7_tellSample 93 = .ok (.invokestatic 102, 3) := by decide +kernel
theorem dX7_tellSample_96 : decode cX7_tellSample 96 = .ok (.invokevirtual 108, 3) := by decide +kernel
theorem dX7_tellSample_99 : decode cX7_tellSample 99 = .ok (.aload_n 0, 1) := by decide +kernel
theorem dX7_tellSample_100 : decode cX7_tellSample 100 = .ok (.getfield 12, 3) := by decide +kernel
theorem dX7_tellSample_103 : decode cX7_tellSample 103 = .ok (.iload 5, 2) := by decide +kernel
theorem dX7_tellSample_105 : decode cX7_tellSample 105 = .ok (.iload 8, 2) := by decide +kernel
theorem dX7_tellSample_107 : decode cX7_tellSample 107 = .ok (.invokevirtual 111, 3) := by decide +kernel
theorem dX7_tellSample_110 : decode cX7_tellSample 110 = .ok (.aload_n 0, 1) := by decide +kernel
theorem dX7_tellSample_111 : decode cX7_tellSample 111 = .ok (.getfield 18, 3) := by decide +kernel
theorem dX7_tellSample_114 : decode cX7_tellSample 114 = .ok (.iload_n 2, 1) := by decide +kernel
theorem dX7_tellSample_115 : decode cX7_tellSample 115 = .ok (.iload_n 3, 1) := by decide +kernel
theorem dX7_tellSample_116 : decode cX7_tellSample 116 = .ok (.iload 4, 2) := by decide +kernel
theorem dX7_tellSample_118 : decode cX7_tellSample 118 = .ok (.iload 8, 2) := by decide +kernel
theorem dX7_tellSample_120 : decode cX7_tellSample 120 = .ok (.invokevirtual 114, 3) := by decide +kernel
theorem dX7_tellSample_123 : decode cX7_tellSample 123 = .ok (.pop, 1) := by decide +kernel
theorem dX7_tellSample_124 : decode cX7_tellSample 124 = .ok (.return_, 1) := by decide +kernel
theorem dX7_tellFolded_0 : decode cX7_tellFolded 0 = .ok (.aload_n 0, 1) := by decide +kernel
theorem dX7_tellFolded_1 : decode cX7_tellFolded 1 = .ok (.getfield 27, 3) := by decide +kernel
theorem dX7_tellFolded_4 : decode cX7_tellFolded 4 = .ok (.invokevirtual 118, 3) := by decide +kernel
theorem dX7_tellFolded_7 : decode cX7_tellFolded 7 = .ok (.istore 4, 2) := by decide +kernel
theorem dX7_tellFolded_9 : decode cX7_tellFolded 9 = .ok (.aload_n 0, 1) := by decide +kernel
theorem dX7_tellFolded_10 : decode cX7_tellFolded 10 = .ok (.getfield 54, 3) := by decide +kernel
theorem dX7_tellFolded_13 : decode cX7_tellFolded 13 = .ok (.iload_n 2, 1) := by decide +kernel
theorem dX7_tellFolded_14 : decode cX7_tellFolded 14 = .ok (.invokevirtual 122, 3) := by decide +kernel
theorem dX7_tellFolded_17 : decode cX7_tellFolded 17 = .ok (.istore 5, 2) := by decide +kernel
theorem dX7_tellFolded_19 : decode cX7_tellFolded 19 = .ok (.iconst 1, 1) := by decide +kernel
theorem dX7_tellFolded_20 : decode cX7_tellFolded 20 = .ok (.istore 6, 2) := by decide +kernel
theorem dX7_tellFolded_22 : decode cX7_tellFolded 22 = .ok (.aload_n 0, 1) := by decide +kernel
theorem dX7_tellFolded_23 : decode cX7_tellFolded 23 = .ok (.getfield 18, 3) := by decide +kernel
theorem dX7_tellFolded_26 : decode cX7_tellFolded 26 = .ok (.getfield 33, 3) := by decide +kernel
theorem dX7_tellFolded_29 : decode cX7_tellFolded 29 = .ok (.iconst 1, 1) := by decide +kernel
theorem dX7_tellFolded_30 : decode cX7_tellFolded 30 = .ok (.isub, 1) := by decide +kernel
theorem dX7_tellFolded_31 : decode cX7_tellFolded 31 = .ok (.istore 7, 2) := by decide +kernel
theorem dX7_tellFolded_33 : decode cX7_tellFolded 33 = .ok (.iload 7, 2) := by decide +kernel
theorem dX7_tellFolded_35 : decode cX7_tellFolded 35 = .ok (.ifCond .lt 84, 3) := by decide +kernel
theorem dX7_tellFolded_38 : decode cX7_tellFolded 38 = .ok (.aload_n 0, 1) := by decide +kernel
theorem dX7_tellFolded_39 : decode cX7_tellFolded 39 = .ok (.getfield 45, 3) := by decide +kernel
theorem dX7_tellFolded_42 : decode cX7_tellFolded 42 = .ok (.iload_n 2, 1) := by decide +kernel
theorem dX7_tellFolded_43 : decode cX7_tellFolded 43 = .ok (.iload 4, 2) := by decide +kernel
theorem dX7_tellFolded_45 : decode cX7_tellFolded 45 = .ok (.iload 6, 2) := by decide +kernel
theorem dX7_tellFolded_47 : decode cX7_tellFolded 47 = .ok (.invokevirtual 125, 3) := by decide +kernel
theorem dX7_tellFolded_50 : decode cX7_tellFolded 50 = .ok (.istore 8, 2) := by decide +kernel
theorem dX7_tellFolded_52 : decode cX7_tellFolded 52 = .ok (.aload_n 0, 1) := by decide +kernel
theorem dX7_tellFolded_53 : decode cX7_tellFolded 53 = .ok (.getfield 45, 3) := by decide +kernel
theorem dX7_tellFolded_56 : decode cX7_tellFolded 56 = .ok (.iload_n 2, 1) := by decide +kernel
theorem dX7_tellFolded_57 : decode cX7_tellFolded 57 = .ok (.iload 5, 2) := by decide +kernel
theorem dX7_tellFolded_59 : decode cX7_tellFolded 59 = .ok (.iload 6, 2) := by decide +kernel
theorem dX7_tellFolded_61 : decode cX7_tellFolded 61 = .ok (.invokevirtual 125, 3) := by decide +kernel
theorem dX7_tellFolded_64 : decode cX7_tellFolded 64 = .ok (.istore 9, 2) := by decide +kernel
theorem dX7_tellFolded_66 : decode cX7_tellFolded 66 = .ok (.aload_n 1, 1) := by decide +kernel
theorem dX7_tellFolded_67 : decode cX7_tellFolded 67 = .ok (.aload_n 0, 1) := by decide +kernel
theorem dX7_tellFolded_68 : decode cX7_tellFolded 68 = .ok (.getfield 45, 3) := by decide +kernel
theorem dX7_tellFolded_71 : decode cX7_tellFolded 71 = .ok (.iload_n 2, 1) := by decide +kernel
theorem dX7_tellFolded_72 : decode cX7_tellFolded 72 = .ok (.iload 8, 2) := by decide +kernel
theorem dX7_tellFolded_74 : decode cX7_tellFolded 74 = .ok (.iload 9, 2) := by decide +kernel
theorem dX7_tellFolded_76 : decode cX7_tellFolded 76 = .ok (.invokevirtual 128, 3) := by decide +kernel
theorem dX7_tellFolded_79 : decode cX7_tellFolded 79 = .ok (.iload_n 3, 1) := by decide +kernel
theorem dX7_tellFolded_80 : decode cX7_tellFolded 80 = .ok (.iload 7, 2) := by decide +kernel
theorem dX7_tellFolded_82 : decode cX7_tellFolded 82 = .ok (.ishr, 1) := by decide +kernel
theorem dX7_tellFolded_83 : decode cX7_tellFolded 83 = .ok (.iconst 1, 1) := by decide +kernel
theorem dX7_tellFolded_84 : decode cX7_tellFolded 84 = .ok (.iand, 1) := by decide +kernel
theorem dX7_tellFolded_85 : decode cX7_tellFolded 85 = .ok (.invokevirtual 130, 3) := by decide +kernel
theorem dX7_tellFolded_88 : decode cX7_tellFolded 88 = .ok (.istore 10, 2) := by decide +kernel
theorem dX7_tellFolded_90 : decode cX7_tellFolded 90 = .ok (.aload_n 0, 1) := by decide +kernel
theorem dX7_tellFolded_91 : decode cX7_tellFolded 91 = .ok (.getfield 45, 3) := by decide +kernel
theorem dX7_tellFolded_94 : decode cX7_tellFolded 94 = .ok (.iload_n 2, 1) := by decide +kernel
theorem dX7_tellFolded_95 : decode cX7_tellFolded 95 = .ok (.iload 8, 2) := by decide +kernel
theorem dX7_tellFolded_97 : decode cX7_tellFolded 97 = .ok (.iload 9, 2) := by decide +kernel
theorem dX7_tellFolded_99 : decode cX7_tellFolded 99 = .ok (.iload 10, 2) := by decide +kernel
theorem dX7_tellFolded_101 : decode cX7_tellFolded 101 = .ok (.invokevirtual 135, 3) := by decide +kernel
theorem dX7_tellFolded_104 : decode cX7_tellFolded 104 = .ok (.iconst 2, 1) := by decide +kernel
theorem dX7_tellFolded_105 : decode cX7_tellFolded 105 = .ok (.iload 6, 2) := by decide +kernel
theorem dX7_tellFolded_107 : decode cX7_tellFolded 107 = .ok (.imul, 1) := by decide +kernel
theorem dX7_tellFolded_108 : decode cX7_tellFolded 108 = .ok (.iload 10, 2) := by decide +kernel
theorem dX7_tellFolded_110 : decode cX7_tellFolded 110 = .ok (.iadd, 1) := by decide +kernel
theorem dX7_tellFolded_111 : decode cX7_tellFolded 111 = .ok (.istore 6, 2) := by decide +kernel
theorem dX7_tellFolded_113 : decode cX7_tellFolded 113 = .ok (.iinc 7 (-1), 3) := by decide +kernel
theorem dX7_tellFolded_116 : decode cX7_tellFolded 116 = .ok (.goto (-83), 3) := by decide +kernel
theorem dX7_tellFolded_119 : decode cX7_tellFolded 119 = .ok (.iload 6, 2) := by decide +kernel
theorem dX7_tellFolded_121 : decode cX7_tellFolded 121 = .ok (.iconst 1, 1) := by decide +kernel
theorem dX7_tellFolded_122 : decode cX7_tellFolded 122 = .ok (.aload_n 0, 1) := by decide +kernel
theorem dX7_tellFolded_123 : decode cX7_tellFolded 123 = .ok (.getfield 18, 3) := by decide +kernel
theorem dX7_tellFolded_126 : decode cX7_tellFolded 126 = .ok (.getfield 33, 3) := by decide +kernel
theorem dX7_tellFolded_129 : decode cX7_tellFolded 129 = .ok (.ishl, 1) := by decide +kernel
theorem dX7_tellFolded_130 : decode cX7_tellFolded 130 = .ok (.isub, 1) := by decide +kernel
theorem dX7_tellFolded_131 : decode cX7_tellFolded 131 = .ok (.ireturn, 1) := by decide +kernel
theorem dX7_fold_0 : decode cX7_fold 0 = .ok (.iload_n 1, 1) := by decide +kernel
theorem dX7_fold_1 : decode cX7_fold 1 = .ok (.aload_n 0, 1) := by decide +kernel
theorem dX7_fold_2 : decode cX7_fold 2 = .ok (.getfield 18, 3) := by decide +kernel
theorem dX7_fold_5 : decode cX7_fold 5 = .ok (.getfield 138, 3) := by decide +kernel
theorem dX7_fold_8 : decode cX7_fold 8 = .ok (.if_icmp .ge 9, 3) := by decide +kernel
theorem dX7_fold_11 : decode cX7_fold 11 = .ok (.iconst 2, 1) := by decide +kernel
theorem dX7_fold_12 : decode cX7_fold 12 = .ok (.iload_n 1, 1) := by decide +kernel
theorem dX7_fold_13 : decode cX7_fold 13 = .ok (.imul, 1) := by decide +kernel
theorem dX7_fold_14 : decode cX7_fold 14 = .ok (.goto 18, 3) := by decide +kernel
theorem dX7_fold_17 : decode cX7_fold 17 = .ok (.iconst 2, 1) := by decide +kernel
theorem dX7_fold_18 : decode cX7_fold 18 = .ok (.aload_n 0, 1) := by decide +kernel
theorem dX7_fold_19 : decode cX7_fold 19 = .ok (.getfield 18, 3) := by decide +kernel
theorem dX7_fold_22 : decode cX7_fold 22 = .ok (.getfield 88, 3) := by decide +kernel
theorem dX7_fold_25 : decode cX7_fold 25 = .ok (.iconst 1, 1) := by decide +kernel
theorem dX7_fold_26 : decode cX7_fold 26 = .ok (.iadd, 1) := by decide +kernel
theorem dX7_fold_27 : decode cX7_fold 27 = .ok (.iload_n 1, 1) := by decide +kernel
theorem dX7_fold_28 : decode cX7_fold 28 = .ok (.isub, 1) := by decide +kernel
theorem dX7_fold_29 : decode cX7_fold 29 = .ok (.imul, 1) := by decide +kernel
theorem dX7_fold_30 : decode cX7_fold 30 = .ok (.iconst 1, 1) := by decide +kernel
theorem dX7_fold_31 : decode cX7_fold 31 = .ok (.isub, 1) := by decide +kernel
theorem dX7_fold_32 : decode cX7_fold 32 = .ok (.ireturn, 1) := by decide +kernel
theorem dX7_unfold_0 : decode cX7_unfold 0 = .ok (.iload_n 1, 1) := by decide +kernel
theorem dX7_unfold_1 : decode cX7_unfold 1 = .ok (.iconst 1, 1) := by decide +kernel
theorem dX7_unfold_2 : decode cX7_unfold 2 = .ok (.iand, 1) := by decide +kernel
theorem dX7_unfold_3 : decode cX7_unfold 3 = .ok (.ifCond .ne 9, 3) := by decide +kernel
theorem dX7_unfold_6 : decode cX7_unfold 6 = .ok (.iload_n 1, 1) := by decide +kernel
theorem dX7_unfold_7 : decode cX7_unfold 7 = .ok (.iconst 2, 1) := by decide +kernel
theorem dX7_unfold_8 : decode cX7_unfold 8 = .ok (.idiv, 1) := by decide +kernel
theorem dX7_unfold_9 : decode cX7_unfold 9 = .ok (.goto 18, 3) := by decide +kernel
theorem dX7_unfold_12 : decode cX7_unfold 12 = .ok (.aload_n 0, 1) := by decide +kernel
theorem dX7_unfold_13 : decode cX7_unfold 13 = .ok (.getfield 18, 3) := by decide +kernel
theorem dX7_unfold_16 : decode cX7_unfold 16 = .ok (.getfield 88, 3) := by decide +kernel
theorem dX7_unfold_19 : decode cX7_unfold 19 = .ok (.iconst 1, 1) := by decide +kernel
theorem dX7_unfold_20 : decode cX7_unfold 20 = .ok (.iadd, 1) := by decide +kernel
theorem dX7_unfold_21 : decode cX7_unfold 21 = .ok (.iload_n 1, 1) := by decide +kernel
theorem dX7_unfold_22 : decode cX7_unfold 22 = .ok (.iconst 1, 1) := by decide +kernel
theorem dX7_unfold_23 : decode cX7_unfold 23 = .ok (.iadd, 1) := by decide +kernel
theorem dX7_unfold_24 : decode cX7_unfold 24 = .ok (.iconst 2, 1) := by decide +kernel
theorem dX7_unfold_25 : decode cX7_unfold 25 = .ok (.idiv, 1) := by decide +kernel
theorem dX7_unfold_26 : decode cX7_unfold 26 = .ok (.isub, 1) := by decide +kernel
theorem dX7_unfold_27 : decode cX7_unfold 27 = .ok (.ireturn, 1) := by decide +kernel
theorem dX8_init_0 : decode cX8_init 0 = .ok (.aload_n 0, 1) := by decide +kernel
theorem dX8_init_1 : decode cX8_init 1 = .ok (.invokespecial 3, 3) := by decide +kernel
theorem dX8_init_4 : decode cX8_init 4 = .ok (.aload_n 0, 1) := by decide +kernel
theorem dX8_init_5 : decode cX8_init 5 = .ok (.new 9, 3) := by decide +kernel
theorem dX8_init_8 : decode cX8_init 8 = .ok (.dup, 1) := by decide +kernel
theorem dX8_init_9 : decode cX8_init 9 = .ok (.bipush 9, 2) := by decide +kernel
theorem dX8_init_11 : decode cX8_init 11 = .ok (.invokespecial 11, 3) := by decide +kernel
theorem dX8_init_14 : decode cX8_init 14 = .ok (.putfield 14, 3) := by decide +kernel
theorem dX8_init_17 : decode cX8_init 17 = .ok (.aload_n 0, 1) := by decide +kernel
theorem dX8_init_18 : decode cX8_init 18 = .ok (.new 9, 3) := by decide +kernel
theorem dX8_init_21 : decode cX8_init 21 = .ok (.dup, 1) := by decide +kernel
theorem dX8_init_22 : decode cX8_init 22 = .ok (.bipush 9, 2) := by decide +kernel
theorem dX8_init_24 : decode cX8_init 24 = .ok (.invokespecial 11, 3) := by decide +kernel
theorem dX8_init_27 : decode cX8_init 27 = .ok (.putfield 20, 3) := by decide +kernel
theorem dX8_init_30 : decode cX8_init 30 = .ok (.return_, 1) := by decide +kernel
theorem dX8_begin_0 : decode cX8_begin 0 = .ok (.aload_n 0, 1) := by decide +kernel
theorem dX8_begin_1 : decode cX8_begin 1 = .ok (.getfield 14, 3) := by decide +kernel
theorem dX8_begin_4 : decode cX8_begin 4 = .ok (.sipush 256, 3) := by decide +kernel
theorem dX8_begin_7 : decode cX8_begin 7 = .ok (.invokevirtual 23, 3) := by decide +kernel
theorem dX8_begin_10 : decode cX8_begin 10 = .ok (.return_, 1) := by decide +kernel
theorem dX8_get_0 : decode cX8_get 0 = .ok (.aload_n 0, 1) := by decide +kernel
theorem dX8_get_1 : decode cX8_get 1 = .ok (.getfield 14, 3) := by decide +kernel
theorem dX8_get_4 : decode cX8_get 4 = .ok (.iload_n 1, 1) := by decide +kernel
theorem dX8_get_5 : decode cX8_get 5 = .ok (.invokevirtual 26, 3) := by decide +kernel
theorem dX8_get_8 : decode cX8_get 8 = .ok (.ireturn, 1) := by decide +kernel
theorem dX8_mix_0 : decode cX8_mix 0 = .ok (.iconst 0, 1) := by decide +kernel
theorem dX8_mix_1 : decode cX8_mix 1 = .ok (.istore_n 2, 1) := by decide +kernel
theorem dX8_mix_2 : decode cX8_mix 2 = .ok (.iconst 0, 1) := by decide +kernel
theorem dX8_mix_3 : decode cX8_mix 3 = .ok (.istore_n 3, 1) := by decide +kernel
theorem dX8_mix_4 : decode cX8_mix 4 = .ok (.iconst 0, 1) := by decide +kernel
theorem dX8_mix_5 : decode cX8_mix 5 = .ok (.istore 4, 2) := by decide +kernel
theorem dX8_mix_7 : decode cX8_mix 7 = .ok (.iload 4, 2) := by decide +kernel
theorem dX8_mix_9 : decode cX8_mix 9 = .ok (.bipush 9, 2) := by decide +kernel
theorem dX8_mix_11 : decode cX8_mix 11 = .ok (.if_icmp .ge 55, 3) := by decide +kernel
theorem dX8_mix_14 : decode cX8_mix 14 = .ok (.aload_n 1, 1) := by decide +kernel
theorem dX8_mix_15 : decode cX8_mix 15 = .ok (.iload 4, 2) := by decide +kernel
theorem dX8_mix_17 : decode cX8_mix 17 = .ok (.invokevirtual 30, 3) := by decide +kernel
theorem dX8_mix_20 : decode cX8_mix 20 = .ok (.istore 5, 2) := by decide +kernel
theorem dX8_mix_22 : decode cX8_mix 22 = .ok (.aload_n 0, 1) := by decide +kernel
theorem dX8_mix_23 : decode cX8_mix 23 = .ok (.getfield 20, 3) := by decide +kernel
theorem dX8_mix_26 : decode cX8_mix 26 = .ok (.iload 4, 2) := by decide +kernel
theorem dX8_mix_28 : decode cX8_mix 28 = .ok (.iload 5, 2) := by decide +kernel
theorem dX8_mix_30 : decode cX8_mix 30 = .ok (.invokevirtual 34, 3) := by decide +kernel
theorem dX8_mix_33 : decode cX8_mix 33 = .ok (.iload_n 2, 1) := by decide +kernel
theorem dX8_mix_34 : decode cX8_mix 34 = .ok (.aload_n 0, 1) := by decide +kernel
theorem dX8_mix_35 : decode cX8_mix 35 = .ok (.getfield 14, 3) := by decide +kernel
theorem dX8_mix_38 : decode cX8_mix 38 = .ok (.iload 4, 2) := by decide +kernel
theorem dX8_mix_40 : decode cX8_mix 40 = .ok (.invokevirtual 26, 3) := by decide +kernel
theorem dX8_mix_43 : decode cX8_mix 43 = .ok (.iadd, 1) := by decide +kernel
theorem dX8_mix_44 : decode cX8_mix 44 = .ok (.istore_n 2, 1) := by decide +kernel
theorem dX8_mix_45 : decode cX8_mix 45 = .ok (.iload_n 3, 1) := by decide +kernel
theorem dX8_mix_46 : decode cX8_mix 46 = .ok (.aload_n 0, 1) := by decide +kernel
theorem dX8_mix_47 : decode cX8_mix 47 = .ok (.getfield 14, 3) := by decide +kernel
theorem dX8_mix_50 : decode cX8_mix 50 = .ok (.iload 4, 2) := by decide +kernel
theorem dX8_mix_52 : decode cX8_mix 52 = .ok (.invokevirtual 26, 3) := by decide +kernel
theorem dX8_mix_55 : decode cX8_mix 55 = .ok (.iload 5, 2) := by decide +kernel
theorem dX8_mix_57 : decode cX8_mix 57 = .ok (.imul, 1) := by decide +kernel
theorem dX8_mix_58 : decode cX8_mix 58 = .ok (.iadd, 1) := by decide +kernel
theorem dX8_mix_59 : decode cX8_mix 59 = .ok (.istore_n 3, 1) := by decide +kernel
theorem dX8_mix_60 : decode cX8_mix 60 = .ok (.iinc 4 1, 3) := by decide +kernel
theorem dX8_mix_63 : decode cX8_mix 63 = .ok (.goto (-56), 3) := by decide +kernel
theorem dX8_mix_66 : decode cX8_mix 66 = .ok (.iload_n 2, 1) := by decide +kernel
theorem dX8_mix_67 : decode cX8_mix 67 = .ok (.ifCond .le 13, 3) := by decide +kernel
theorem dX8_mix_70 : decode cX8_mix 70 = .ok (.iload_n 3, 1) := by decide +kernel
theorem dX8_mix_71 : decode cX8_mix 71 = .ok (.iload_n 2, 1) := by decide +kernel
theorem dX8_mix_72 : decode cX8_mix 72 = .ok (.iconst 2, 1) := by decide +kernel
theorem dX8_mix_73 : decode cX8_mix 73 = .ok (.idiv, 1) := by decide +kernel
theorem dX8_mix_74 : decode cX8_mix 74 = .ok (.iadd, 1) := by decide +kernel
theorem dX8_mix_75 : decode cX8_mix 75 = .ok (.iload_n 2, 1) := by decide +kernel
theorem dX8_mix_76 : decode cX8_mix 76 = .ok (.idiv, 1) := by decide +kernel
theorem dX8_mix_77 : decode cX8_mix 77 = .ok (.goto 4, 3) := by decide +kernel
theorem dX8_mix_80 : decode cX8_mix 80 = .ok (.iconst 0, 1) := by decide +kernel
theorem dX8_mix_81 : decode cX8_mix 81 = .ok (.ireturn, 1) := by decide +kernel
theorem dX8_learn_0 : decode cX8_learn 0 = .ok (.iload_n 2, 1) := by decide +kernel
theorem dX8_learn_1 : decode cX8_learn 1 = .ok (.iload_n 1, 1) := by decide +kernel
theorem dX8_learn_2 : decode cX8_learn 2 = .ok (.if_icmp .ne 4, 3) := by decide +kernel
theorem dX8_learn_5 : decode cX8_learn 5 = .ok (.return_, 1) := by decide +kernel
theorem dX8_learn_6 : decode cX8_learn 6 = .ok (.iconst 0, 1) := by decide +kernel
theorem dX8_learn_7 : decode cX8_learn 7 = .ok (.istore_n 3, 1) := by decide +kernel
theorem dX8_learn_8 : decode cX8_learn 8 = .ok (.iload_n 3, 1) := by decide +kernel
theorem dX8_learn_9 : decode cX8_learn 9 = .ok (.bipush 9, 2) := by decide +kernel
theorem dX8_learn_11 : decode cX8_learn 11 = .ok (.if_icmp .ge 93, 3) := by decide +kernel
theorem dX8_learn_14 : decode cX8_learn 14 = .ok (.aload_n 0, 1) := by decide +kernel
theorem dX8_learn_15 : decode cX8_learn 15 = .ok (.getfield 20, 3) := by decide +kernel
theorem dX8_learn_18 : decode cX8_learn 18 = .ok (.iload_n 3, 1) := by decide +kernel
theorem dX8_learn_19 : decode cX8_learn 19 = .ok (.invokevirtual 26, 3) := by decide +kernel
theorem dX8_learn_22 : decode cX8_learn 22 = .ok (.istore 4, 2) := by decide +kernel
theorem dX8_learn_24 : decode cX8_learn 24 = .ok (.iload 4, 2) := by decide +kernel
theorem dX8_learn_26 : decode cX8_learn 26 = .ok (.iload_n 1, 1) := by decide +kernel
theorem dX8_learn_27 : decode cX8_learn 27 = .ok (.if_icmp .eq 71, 3) := by decide +kernel
theorem dX8_learn_30 : decode cX8_learn 30 = .ok (.iload 4, 2) := by decide +kernel
theorem dX8_learn_32 : decode cX8_learn 32 = .ok (.iload_n 1, 1) := by decide +kernel
theorem dX8_learn_33 : decode cX8_learn 33 = .ok (.if_icmp .le 7, 3) := by decide +kernel
theorem dX8_learn_36 : decode cX8_learn 36 = .ok (.iconst 1, 1) := by decide +kernel
theorem dX8_learn_37 : decode cX8_learn 37 = .ok (.goto 4, 3) := by decide +kernel
theorem dX8_learn_40 : decode cX8_learn 40 = .ok (.iconst 0, 1) := by decide +kernel
theorem dX8_learn_41 : decode cX8_learn 41 = .ok (.iload_n 2, 1) := by decide +kernel
theorem dX8_learn_42 : decode cX8_learn 42 = .ok (.iload_n 1, 1) := by decide +kernel
theorem dX8_learn_43 : decode cX8_learn 43 = .ok (.if_icmp .le 7, 3) := by decide +kernel
theorem dX8_learn_46 : decode cX8_learn 46 = .ok (.iconst 1, 1) := by decide +kernel
theorem dX8_learn_47 : decode cX8_learn 47 = .ok (.goto 4, 3) := by decide +kernel
theorem dX8_learn_50 : decode cX8_learn 50 = .ok (.iconst 0, 1) := by decide +kernel
theorem dX8_learn_51 : decode cX8_learn 51 = .ok (.if_icmp .ne 7, 3) := by decide +kernel
theorem dX8_learn_54 : decode cX8_learn 54 = .ok (.iconst 1, 1) := by decide +kernel
theorem dX8_learn_55 : decode cX8_learn 55 = .ok (.goto 4, 3) := by decide +kernel
theorem dX8_learn_58 : decode cX8_learn 58 = .ok (.iconst 0, 1) := by decide +kernel
theorem dX8_learn_59 : decode cX8_learn 59 = .ok (.istore 5, 2) := by decide +kernel
theorem dX8_learn_61 : decode cX8_learn 61 = .ok (.aload_n 0, 1) := by decide +kernel
theorem dX8_learn_62 : decode cX8_learn 62 = .ok (.getfield 14, 3) := by decide +kernel
theorem dX8_learn_65 : decode cX8_learn 65 = .ok (.iload_n 3, 1) := by decide +kernel
theorem dX8_learn_66 : decode cX8_learn 66 = .ok (.aload_n 0, 1) := by decide +kernel
theorem dX8_learn_67 : decode cX8_learn 67 = .ok (.getfield 14, 3) := by decide +kernel
theorem dX8_learn_70 : decode cX8_learn 70 = .ok (.iload_n 3, 1) := by decide +kernel
theorem dX8_learn_71 : decode cX8_learn 71 = .ok (.invokevirtual 26, 3) := by decide +kernel
theorem dX8_learn_74 : decode cX8_learn 74 = .ok (.iload 5, 2) := by decide +kernel
theorem dX8_learn_76 : decode cX8_learn 76 = .ok (.ifCond .eq 8, 3) := by decide +kernel
theorem dX8_learn_79 : decode cX8_learn 79 = .ok (.bipush 8, 2) := by decide +kernel
theorem dX8_learn_81 : decode cX8_learn 81 = .ok (.goto 5, 3) := by decide +kernel
theorem dX8_learn_84 : decode cX8_learn 84 = .ok (.bipush (-8), 2) := by decide +kernel
theorem dX8_learn_86 : decode cX8_learn 86 = .ok (.iadd, 1) := by decide +kernel
theorem dX8_learn_87 : decode cX8_learn 87 = .ok (.bipush 8, 2) := by decide +kernel
theorem dX8_learn_89 : decode cX8_learn 89 = .ok (.sipush 1024, 3) := by decide +kernel
theorem dX8_learn_92 : decode cX8_learn 92 = .ok (.invokestatic 38, 3) := by decide +kernel
theorem dX8_learn_95 : decode cX8_learn 95 = .ok (.invokevirtual 34, 3) := by decide +kernel
theorem dX8_learn_98 : decode cX8_learn 98 = .ok (.iinc 3 1, 3) := by decide +kernel
theorem dX8_learn_101 : decode cX8_learn 101 = .ok (.goto (-93), 3) := by decide +kernel
theorem dX8_learn_104 : decode cX8_learn 104 = .ok (.return_, 1) := by decide +kernel
theorem dX9_init_0 : decode cX9_init 0 = .ok (.aload_n 0, 1) := by decide +kernel
theorem dX9_init_1 : decode cX9_init 1 = .ok (.invokespecial 1, 3) := by decide +kernel
theorem dX9_init_4 : decode cX9_init 4 = .ok (.aload_n 0, 1) := by decide +kernel
theorem dX9_init_5 : decode cX9_init 5 = .ok (.aload_n 1, 1) := by decide +kernel
theorem dX9_init_6 : decode cX9_init 6 = .ok (.putfield 7, 3) := by decide +kernel
theorem dX9_init_9 : decode cX9_init 9 = .ok (.return_, 1) := by decide +kernel
theorem dX9_begin_0 : decode cX9_begin 0 = .ok (.aload_n 0, 1) := by decide +kernel
theorem dX9_begin_1 : decode cX9_begin 1 = .ok (.getfield 7, 3) := by decide +kernel
theorem dX9_begin_4 : decode cX9_begin 4 = .ok (.invokevirtual 13, 3) := by decide +kernel
theorem dX9_begin_7 : decode cX9_begin 7 = .ok (.aload_n 0, 1) := by decide +kernel
theorem dX9_begin_8 : decode cX9_begin 8 = .ok (.invokevirtual 18, 3) := by decide +kernel
theorem dX9_begin_11 : decode cX9_begin 11 = .ok (.return_, 1) := by decide +kernel
theorem dX9_choose_0 : decode cX9_choose 0 = .ok (.iload_n 3, 1) := by decide +kernel
theorem dX9_choose_1 : decode cX9_choose 1 = .ok (.ireturn, 1) := by decide +kernel
theorem dX9_leave_0 : decode cX9_leave 0 = .ok (.aload_n 0, 1) := by decide +kernel
theorem dX9_leave_1 : decode cX9_leave 1 = .ok (.getfield 7, 3) := by decide +kernel
theorem dX9_leave_4 : decode cX9_leave 4 = .ok (.iload_n 1, 1) := by decide +kernel
theorem dX9_leave_5 : decode cX9_leave 5 = .ok (.invokevirtual 21, 3) := by decide +kernel
theorem dX9_leave_8 : decode cX9_leave 8 = .ok (.return_, 1) := by decide +kernel
theorem dX9_end_0 : decode cX9_end 0 = .ok (.aload_n 0, 1) := by decide +kernel
theorem dX9_end_1 : decode cX9_end 1 = .ok (.getfield 25, 3) := by decide +kernel
theorem dX9_end_4 : decode cX9_end 4 = .ok (.ldc2_w 29, 3) := by decide +kernel
theorem dX9_end_7 : decode cX9_end 7 = .ok (.ladd, 1) := by decide +kernel
theorem dX9_end_8 : decode cX9_end 8 = .ok (.ldc2_w 31, 3) := by decide +kernel
theorem dX9_end_11 : decode cX9_end 11 = .ok (.land, 1) := by decide +kernel
theorem dX9_end_12 : decode cX9_end 12 = .ok (.lstore_n 1, 1) := by decide +kernel
theorem dX9_end_13 : decode cX9_end 13 = .ok (.aload_n 0, 1) := by decide +kernel
theorem dX9_end_14 : decode cX9_end 14 = .ok (.getfield 7, 3) := by decide +kernel
theorem dX9_end_17 : decode cX9_end 17 = .ok (.lload_n 1, 1) := by decide +kernel
theorem dX9_end_18 : decode cX9_end 18 = .ok (.bipush 24, 2) := by decide +kernel
theorem dX9_end_20 : decode cX9_end 20 = .ok (.lshr, 1) := by decide +kernel
theorem dX9_end_21 : decode cX9_end 21 = .ok (.l2i, 1) := by decide +kernel
theorem dX9_end_22 : decode cX9_end 22 = .ok (.invokevirtual 21, 3) := by decide +kernel
theorem dX9_end_25 : decode cX9_end 25 = .ok (.aload_n 0, 1) := by decide +kernel
theorem dX9_end_26 : decode cX9_end 26 = .ok (.getfield 7, 3) := by decide +kernel
theorem dX9_end_29 : decode cX9_end 29 = .ok (.lload_n 1, 1) := by decide +kernel
theorem dX9_end_30 : decode cX9_end 30 = .ok (.bipush 16, 2) := by decide +kernel
theorem dX9_end_32 : decode cX9_end 32 = .ok (.lshr, 1) := by decide +kernel
theorem dX9_end_33 : decode cX9_end 33 = .ok (.ldc2_w 33, 3) := by decide +kernel
theorem dX9_end_36 : decode cX9_end 36 = .ok (.land, 1) := by decide +kernel
theorem dX9_end_37 : decode cX9_end 37 = .ok (.l2i, 1) := by decide +kernel
theorem dX9_end_38 : decode cX9_end 38 = .ok (.invokevirtual 21, 3) := by decide +kernel
theorem dX9_end_41 : decode cX9_end 41 = .ok (.return_, 1) := by decide +kernel
theorem dJ9_abs_0f7a4_0 : decode cJ9_abs_0f7a4 0 = .ok (.iload_n 0, 1) := by decide +kernel
theorem dJ9_abs_0f7a4_1 : decode cJ9_abs_0f7a4 1 = .ok (.ifCond .ge 8, 3) := by decide +kernel
theorem dJ9_abs_0f7a4_4 : decode cJ9_abs_0f7a4 4 = .ok (.iload_n 0, 1) := by decide +kernel
theorem dJ9_abs_0f7a4_5 : decode cJ9_abs_0f7a4 5 = .ok (.ineg, 1) := by decide +kernel
theorem dJ9_abs_0f7a4_6 : decode cJ9_abs_0f7a4 6 = .ok (.goto 4, 3) := by decide +kernel
theorem dJ9_abs_0f7a4_9 : decode cJ9_abs_0f7a4 9 = .ok (.iload_n 0, 1) := by decide +kernel
theorem dJ9_abs_0f7a4_10 : decode cJ9_abs_0f7a4 10 = .ok (.ireturn, 1) := by decide +kernel
theorem dJ9_max_7cf53_0 : decode cJ9_max_7cf53 0 = .ok (.iload_n 0, 1) := by decide +kernel
theorem dJ9_max_7cf53_1 : decode cJ9_max_7cf53 1 = .ok (.iload_n 1, 1) := by decide +kernel
theorem dJ9_max_7cf53_2 : decode cJ9_max_7cf53 2 = .ok (.if_icmp .lt 7, 3) := by decide +kernel
theorem dJ9_max_7cf53_5 : decode cJ9_max_7cf53 5 = .ok (.iload_n 0, 1) := by decide +kernel
theorem dJ9_max_7cf53_6 : decode cJ9_max_7cf53 6 = .ok (.goto 4, 3) := by decide +kernel
theorem dJ9_max_7cf53_9 : decode cJ9_max_7cf53 9 = .ok (.iload_n 1, 1) := by decide +kernel
theorem dJ9_max_7cf53_10 : decode cJ9_max_7cf53 10 = .ok (.ireturn, 1) := by decide +kernel
theorem dJ9_min_7cf53_0 : decode cJ9_min_7cf53 0 = .ok (.iload_n 0, 1) := by decide +kernel
theorem dJ9_min_7cf53_1 : decode cJ9_min_7cf53 1 = .ok (.iload_n 1, 1) := by decide +kernel
theorem dJ9_min_7cf53_2 : decode cJ9_min_7cf53 2 = .ok (.if_icmp .gt 7, 3) := by decide +kernel
theorem dJ9_min_7cf53_5 : decode cJ9_min_7cf53 5 = .ok (.iload_n 0, 1) := by decide +kernel
theorem dJ9_min_7cf53_6 : decode cJ9_min_7cf53 6 = .ok (.goto 4, 3) := by decide +kernel
theorem dJ9_min_7cf53_9 : decode cJ9_min_7cf53 9 = .ok (.iload_n 1, 1) := by decide +kernel
theorem dJ9_min_7cf53_10 : decode cJ9_min_7cf53 10 = .ok (.ireturn, 1) := by decide +kernel
theorem dJ7_fill_53178_0 : decode cJ7_fill_53178 0 = .ok (.iconst 0, 1) := by decide +kernel
theorem dJ7_fill_53178_1 : decode cJ7_fill_53178 1 = .ok (.istore_n 2, 1) := by decide +kernel
theorem dJ7_fill_53178_2 : decode cJ7_fill_53178 2 = .ok (.aload_n 0, 1) := by decide +kernel
theorem dJ7_fill_53178_3 : decode cJ7_fill_53178 3 = .ok (.arraylength, 1) := by decide +kernel
theorem dJ7_fill_53178_4 : decode cJ7_fill_53178 4 = .ok (.istore_n 3, 1) := by decide +kernel
theorem dJ7_fill_53178_5 : decode cJ7_fill_53178 5 = .ok (.iload_n 2, 1) := by decide +kernel
theorem dJ7_fill_53178_6 : decode cJ7_fill_53178 6 = .ok (.iload_n 3, 1) := by decide +kernel
theorem dJ7_fill_53178_7 : decode cJ7_fill_53178 7 = .ok (.if_icmp .ge 13, 3) := by decide +kernel
theorem dJ7_fill_53178_10 : decode cJ7_fill_53178 10 = .ok (.aload_n 0, 1) := by decide +kernel
theorem dJ7_fill_53178_11 : decode cJ7_fill_53178 11 = .ok (.iload_n 2, 1) := by decide +kernel
theorem dJ7_fill_53178_12 : decode cJ7_fill_53178 12 = .ok (.iload_n 1, 1) := by decide +kernel
theorem dJ7_fill_53178_13 : decode cJ7_fill_53178 13 = .ok (.iastore, 1) := by decide +kernel
theorem dJ7_fill_53178_14 : decode cJ7_fill_53178 14 = .ok (.iinc 2 1, 3) := by decide +kernel
theorem dJ7_fill_53178_17 : decode cJ7_fill_53178 17 = .ok (.goto (-12), 3) := by decide +kernel
theorem dJ7_fill_53178_20 : decode cJ7_fill_53178 20 = .ok (.return_, 1) := by decide +kernel
theorem dX10_init_0 : decode cX10_init 0 = .ok (.aload_n 0, 1) := by decide +kernel
theorem dX10_init_1 : decode cX10_init 1 = .ok (.invokespecial 3, 3) := by decide +kernel
theorem dX10_init_4 : decode cX10_init 4 = .ok (.aload_n 0, 1) := by decide +kernel
theorem dX10_init_5 : decode cX10_init 5 = .ok (.new 9, 3) := by decide +kernel
theorem dX10_init_8 : decode cX10_init 8 = .ok (.dup, 1) := by decide +kernel
theorem dX10_init_9 : decode cX10_init 9 = .ok (.sipush 192, 3) := by decide +kernel
theorem dX10_init_12 : decode cX10_init 12 = .ok (.invokespecial 11, 3) := by decide +kernel
theorem dX10_init_15 : decode cX10_init 15 = .ok (.putfield 14, 3) := by decide +kernel
theorem dX10_init_18 : decode cX10_init 18 = .ok (.aload_n 0, 1) := by decide +kernel
theorem dX10_init_19 : decode cX10_init 19 = .ok (.new 9, 3) := by decide +kernel
theorem dX10_init_22 : decode cX10_init 22 = .ok (.dup, 1) := by decide +kernel
theorem dX10_init_23 : decode cX10_init 23 = .ok (.sipush 784, 3) := by decide +kernel
theorem dX10_init_26 : decode cX10_init 26 = .ok (.invokespecial 11, 3) := by decide +kernel
theorem dX10_init_29 : decode cX10_init 29 = .ok (.putfield 18, 3) := by decide +kernel
theorem dX10_init_32 : decode cX10_init 32 = .ok (.aload_n 0, 1) := by decide +kernel
theorem dX10_init_33 : decode cX10_init 33 = .ok (.new 9, 3) := by decide +kernel
theorem dX10_init_36 : decode cX10_init 36 = .ok (.dup, 1) := by decide +kernel
theorem dX10_init_37 : decode cX10_init 37 = .ok (.sipush 4000, 3) := by decide +kernel
theorem dX10_init_40 : decode cX10_init 40 = .ok (.invokespecial 11, 3) := by decide +kernel
theorem dX10_init_43 : decode cX10_init 43 = .ok (.putfield 21, 3) := by decide +kernel
theorem dX10_init_46 : decode cX10_init 46 = .ok (.aload_n 0, 1) := by decide +kernel
theorem dX10_init_47 : decode cX10_init 47 = .ok (.new 24, 3) := by decide +kernel
theorem dX10_init_50 : decode cX10_init 50 = .ok (.dup, 1) := by decide +kernel
theorem dX10_init_51 : decode cX10_init 51 = .ok (.aload_n 0, 1) := by decide +kernel
theorem dX10_init_52 : decode cX10_init 52 = .ok (.getfield 14, 3) := by decide +kernel
theorem dX10_init_55 : decode cX10_init 55 = .ok (.invokespecial 26, 3) := by decide +kernel
theorem dX10_init_58 : decode cX10_init 58 = .ok (.putfield 29, 3) := by decide +kernel
theorem dX10_init_61 : decode cX10_init 61 = .ok (.aload_n 0, 1) := by decide +kernel
theorem dX10_init_62 : decode cX10_init 62 = .ok (.new 33, 3) := by decide +kernel
theorem dX10_init_65 : decode cX10_init 65 = .ok (.dup, 1) := by decide +kernel
theorem dX10_init_66 : decode cX10_init 66 = .ok (.aload_n 0, 1) := by decide +kernel
theorem dX10_init_67 : decode cX10_init 67 = .ok (.getfield 21, 3) := by decide +kernel
theorem dX10_init_70 : decode cX10_init 70 = .ok (.invokespecial 35, 3) := by decide +kernel
theorem dX10_init_73 : decode cX10_init 73 = .ok (.putfield 36, 3) := by decide +kernel
theorem dX10_init_76 : decode cX10_init 76 = .ok (.aload_n 0, 1) := by decide +kernel
theorem dX10_init_77 : decode cX10_init 77 = .ok (.new 40, 3) := by decide +kernel
theorem dX10_init_80 : decode cX10_init 80 = .ok (.dup, 1) := by decide +kernel
theorem dX10_init_81 : decode cX10_init 81 = .ok (.iconst 4, 1) := by decide +kernel
theorem dX10_init_82 : decode cX10_init 82 = .ok (.invokespecial 42, 3) := by decide +kernel
theorem dX10_init_85 : decode cX10_init 85 = .ok (.putfield 43, 3) := by decide +kernel
theorem dX10_init_88 : decode cX10_init 88 = .ok (.aload_n 0, 1) := by decide +kernel
theorem dX10_init_89 : decode cX10_init 89 = .ok (.new 47, 3) := by decide +kernel
theorem dX10_init_92 : decode cX10_init 92 = .ok (.dup, 1) := by decide +kernel
theorem dX10_init_93 : decode cX10_init 93 = .ok (.iload_n 1, 1) := by decide +kernel
theorem dX10_init_94 : decode cX10_init 94 = .ok (.iconst 1, 1) := by decide +kernel
theorem dX10_init_95 : decode cX10_init 95 = .ok (.bipush 16, 2) := by decide +kernel
theorem dX10_init_97 : decode cX10_init 97 = .ok (.invokestatic 49, 3) := by decide +kernel
theorem dX10_init_100 : decode cX10_init 100 = .ok (.iload_n 2, 1) := by decide +kernel
theorem dX10_init_101 : decode cX10_init 101 = .ok (.iconst 1, 1) := by decide +kernel
theorem dX10_init_102 : decode cX10_init 102 = .ok (.bipush 16, 2) := by decide +kernel
theorem dX10_init_104 : decode cX10_init 104 = .ok (.invokestatic 49, 3) := by decide +kernel
theorem dX10_init_107 : decode cX10_init 107 = .ok (.iload_n 3, 1) := by decide +kernel
theorem dX10_init_108 : decode cX10_init 108 = .ok (.iconst 1, 1) := by decide +kernel
theorem dX10_init_109 : decode cX10_init 109 = .ok (.bipush 8, 2) := by decide +kernel
theorem dX10_init_111 : decode cX10_init 111 = .ok (.invokestatic 49, 3) := by decide +kernel
theorem dX10_init_114 : decode cX10_init 114 = .ok (.iload 4, 2) := by decide +kernel
theorem dX10_init_116 : decode cX10_init 116 = .ok (.iconst 1, 1) := by decide +kernel
theorem dX10_init_117 : decode cX10_init 117 = .ok (.iconst 3, 1) := by decide +kernel
theorem dX10_init_118 : decode cX10_init 118 = .ok (.invokestatic 49, 3) := by decide +kernel
theorem dX10_init_121 : decode cX10_init 121 = .ok (.invokespecial 53, 3) := by decide +kernel
theorem dX10_init_124 : decode cX10_init 124 = .ok (.putfield 56, 3) := by decide +kernel
theorem dX10_init_127 : decode cX10_init 127 = .ok (.aload_n 0, 1) := by decide +kernel
theorem dX10_init_128 : decode cX10_init 128 = .ok (.new 60, 3) := by decide +kernel
theorem dX10_init_131 : decode cX10_init 131 = .ok (.dup, 1) := by decide +kernel
theorem dX10_init_132 : decode cX10_init 132 = .ok (.aload_n 0, 1) := by decide +kernel
theorem dX10_init_133 : decode cX10_init 133 = .ok (.getfield 56, 3) := by decide +kernel
theorem dX10_init_136 : decode cX10_init 136 = .ok (.invokespecial 62, 3) := by decide +kernel
theorem dX10_init_139 : decode cX10_init 139 = .ok (.putfield 65, 3) := by decide +kernel
theorem dX10_init_142 : decode cX10_init 142 = .ok (.aload_n 0, 1) := by decide +kernel
theorem dX10_init_143 : decode cX10_init 143 = .ok (.new 69, 3) := by decide +kernel
theorem dX10_init_146 : decode cX10_init 146 = .ok (.dup, 1) := by decide +kernel
theorem dX10_init_147 : decode cX10_init 147 = .ok (.aload_n 0, 1) := by decide +kernel
theorem dX10_init_148 : decode cX10_init 148 = .ok (.getfield 56, 3) := by decide +kernel
theorem dX10_init_151 : decode cX10_init 151 = .ok (.invokespecial 71, 3) := by decide +kernel
theorem dX10_init_154 : decode cX10_init 154 = .ok (.putfield 72, 3) := by decide +kernel
theorem dX10_init_157 : decode cX10_init 157 = .ok (.aload_n 0, 1) := by decide +kernel
theorem dX10_init_158 : decode cX10_init 158 = .ok (.new 69, 3) := by decide +kernel
theorem dX10_init_161 : decode cX10_init 161 = .ok (.dup, 1) := by decide +kernel
theorem dX10_init_162 : decode cX10_init 162 = .ok (.aload_n 0, 1) := by decide +kernel
theorem dX10_init_163 : decode cX10_init 163 = .ok (.getfield 56, 3) := by decide +kernel
theorem dX10_init_166 : decode cX10_init 166 = .ok (.invokespecial 71, 3) := by decide +kernel
theorem dX10_init_169 : decode cX10_init 169 = .ok (.putfield 76, 3) := by decide +kernel
theorem dX10_init_172 : decode cX10_init 172 = .ok (.return_, 1) := by decide +kernel
theorem dX10_put_0 : decode cX10_put 0 = .ok (.aload_n 0, 1) := by decide +kernel
theorem dX10_put_1 : decode cX10_put 1 = .ok (.getfield 56, 3) := by decide +kernel
theorem dX10_put_4 : decode cX10_put 4 = .ok (.iload_n 1, 1) := by decide +kernel
theorem dX10_put_5 : decode cX10_put 5 = .ok (.iload_n 2, 1) := by decide +kernel
theorem dX10_put_6 : decode cX10_put 6 = .ok (.iload_n 3, 1) := by decide +kernel
theorem dX10_put_7 : decode cX10_put 7 = .ok (.invokevirtual 79, 3) := by decide +kernel
theorem dX10_put_10 : decode cX10_put 10 = .ok (.ifCond .ne 13, 3) := by decide +kernel
theorem dX10_put_13 : decode cX10_put 13 = .ok (.new 83, 3) := by decide +kernel
theorem dX10_put_16 : decode cX10_put 16 = .ok (.dup, 1) := by decide +kernel
theorem dX10_put_17 : decode cX10_put 17 = .ok (.ldc 85, 2) := by decide +kernel
theorem dX10_put_19 : decode cX10_put 19 = .ok (.invokespecial 87, 3) := by decide +kernel
theorem dX10_put_22 : decode cX10_put 22 = .ok (.athrow, 1) := by decide +kernel
theorem dX10_put_23 : decode cX10_put 23 = .ok (.iload 4, 2) := by decide +kernel
theorem dX10_put_25 : decode cX10_put 25 = .ok (.ifCond .lt 15, 3) := by decide +kernel
theorem dX10_put_28 : decode cX10_put 28 = .ok (.iload 4, 2) := by decide +kernel
theorem dX10_put_30 : decode cX10_put 30 = .ok (.aload_n 0, 1) := by decide +kernel
theorem dX10_put_31 : decode cX10_put 31 = .ok (.getfield 56, 3) := by decide +kernel
theorem dX10_put_34 : decode cX10_put 34 = .ok (.getfield 90, 3) := by decide +kernel
theorem dX10_put_37 : decode cX10_put 37 = .ok (.if_icmp .le 13, 3) := by decide +kernel
theorem dX10_put_40 : decode cX10_put 40 = .ok (.new 94, 3) := by decide +kernel
theorem dX10_put_43 : decode cX10_put 43 = .ok (.dup, 1) := by decide +kernel
theorem dX10_put_44 : decode cX10_put 44 = .ok (.ldc 96, 2) := by decide +kernel
theorem dX10_put_46 : decode cX10_put 46 = .ok (.invokespecial 98, 3) := by decide +kernel
theorem dX10_put_49 : decode cX10_put 49 = .ok (.athrow, 1) := by decide +kernel
theorem dX10_put_50 : decode cX10_put 50 = .ok (.aload_n 0, 1) := by decide +kernel
theorem dX10_put_51 : decode cX10_put 51 = .ok (.getfield 56, 3) := by decide +kernel
theorem dX10_put_54 : decode cX10_put 54 = .ok (.iload_n 1, 1) := by decide +kernel
theorem dX10_put_55 : decode cX10_put 55 = .ok (.iload_n 2, 1) := by decide +kernel
theorem dX10_put_56 : decode cX10_put 56 = .ok (.iload_n 3, 1) := by decide +kernel
theorem dX10_put_57 : decode cX10_put 57 = .ok (.iload 4, 2) := by decide +kernel
theorem dX10_put_59 : decode cX10_put 59 = .ok (.invokevirtual 99, 3) := by decide +kernel
theorem dX10_put_62 : decode cX10_put 62 = .ok (.ireturn, 1) := by decide +kernel
theorem dX10_paint_0 : decode cX10_paint 0 = .ok (.iconst 0, 1) := by decide +kernel
theorem dX10_paint_1 : decode cX10_paint 1 = .ok (.istore_n 3, 1) := by decide +kernel
theorem dX10_paint_2 : decode cX10_paint 2 = .ok (.iload_n 1, 1) := by decide +kernel
theorem dX10_paint_3 : decode cX10_paint 3 = .ok (.istore 4, 2) := by decide +kernel
theorem dX10_paint_5 : decode cX10_paint 5 = .ok (.iconst 0, 1) := by decide +kernel
theorem dX10_paint_6 : decode cX10_paint 6 = .ok (.istore 5, 2) := by decide +kernel
theorem dX10_paint_8 : decode cX10_paint 8 = .ok (.iload 5, 2) := by decide +kernel
theorem dX10_paint_10 : decode cX10_paint 10 = .ok (.aload_n 0, 1) := by decide +kernel
theorem dX10_paint_11 : decode cX10_paint 11 = .ok (.getfield 56, 3) := by decide +kernel
theorem dX10_paint_14 : decode cX10_paint 14 = .ok (.getfield 103, 3) := by decide +kernel
theorem dX10_paint_17 : decode cX10_paint 17 = .ok (.if_icmp .ge 86, 3) := by decide +kernel
theorem dX10_paint_20 : decode cX10_paint 20 = .ok (.iconst 0, 1) := by decide +kernel
theorem dX10_paint_21 : decode cX10_paint 21 = .ok (.istore 6, 2) := by decide +kernel
theorem dX10_paint_23 : decode cX10_paint 23 = .ok (.iload 6, 2) := by decide +kernel
theorem dX10_paint_25 : decode cX10_paint 25 = .ok (.aload_n 0, 1) := by decide +kernel
theorem dX10_paint_26 : decode cX10_paint 26 = .ok (.getfield 56, 3) := by decide +kernel
theorem dX10_paint_29 : decode cX10_paint 29 = .ok (.getfield 106, 3) := by decide +kernel
theorem dX10_paint_32 : decode cX10_paint 32 = .ok (.if_icmp .ge 65, 3) := by decide +kernel
theorem dX10_paint_35 : decode cX10_paint 35 = .ok (.iconst 0, 1) := by decide +kernel
theorem dX10_paint_36 : decode cX10_paint 36 = .ok (.istore 7, 2) := by decide +kernel
theorem dX10_paint_38 : decode cX10_paint 38 = .ok (.iload 7, 2) := by decide +kernel
theorem dX10_paint_40 : decode cX10_paint 40 = .ok (.aload_n 0, 1) := by decide +kernel
theorem dX10_paint_41 : decode cX10_paint 41 = .ok (.getfield 56, 3) := by decide +kernel
theorem dX10_paint_44 : decode cX10_paint 44 = .ok (.getfield 109, 3) := by decide +kernel
theorem dX10_paint_47 : decode cX10_paint 47 = .ok (.if_icmp .ge 44, 3) := by decide +kernel
theorem dX10_paint_50 : decode cX10_paint 50 = .ok (.aload_n 0, 1) := by decide +kernel
theorem dX10_paint_51 : decode cX10_paint 51 = .ok (.getfield 56, 3) := by decide +kernel
theorem dX10_paint_54 : decode cX10_paint 54 = .ok (.iload 6, 2) := by decide +kernel
theorem dX10_paint_56 : decode cX10_paint 56 = .ok (.iload 5, 2) := by decide +kernel
theorem dX10_paint_58 : decode cX10_paint 58 = .ok (.iload 7, 2) := by decide +kernel
theorem dX10_paint_60 : decode cX10_paint 60 = .ok (.iload 4, 2) := by decide +kernel
theorem dX10_paint_62 : decode cX10_paint 62 = .ok (.aload_n 0, 1) := by decide +kernel
theorem dX10_paint_63 : decode cX10_paint 63 = .ok (.getfield 56, 3) := by decide +kernel
theorem dX10_paint_66 : decode cX10_paint 66 = .ok (.getfield 90, 3) := by decide +kernel
theorem dX10_paint_69 : decode cX10_paint 69 = .ok (.iand, 1) := by decide +kernel
theorem dX10_paint_70 : decode cX10_paint 70 = .ok (.invokevirtual 99, 3) := by decide +kernel
theorem dX10_paint_73 : decode cX10_paint 73 = .ok (.ifCond .eq 6, 3) := by decide +kernel
theorem dX10_paint_76 : decode cX10_paint 76 = .ok (.iinc 3 1, 3) := by decide +kernel
theorem dX10_paint_79 : decode cX10_paint 79 = .ok (.iload 4, 2) := by decide +kernel
theorem dX10_paint_81 : decode cX10_paint 81 = .ok (.iload_n 2, 1) := by decide +kernel
theorem dX10_paint_82 : decode cX10_paint 82 = .ok (.iadd, 1) := by decide +kernel
theorem dX10_paint_83 : decode cX10_paint 83 = .ok (.istore 4, 2) := by decide +kernel
theorem dX10_paint_85 : decode cX10_paint 85 = .ok (.iinc 7 1, 3) := by decide +kernel
theorem dX10_paint_88 : decode cX10_paint 88 = .ok (.goto (-50), 3) := by decide +kernel
theorem dX10_paint_91 : decode cX10_paint 91 = .ok (.iinc 6 1, 3) := by decide +kernel
theorem dX10_paint_94 : decode cX10_paint 94 = .ok (.goto (-71), 3) := by decide +kernel
theorem dX10_paint_97 : decode cX10_paint 97 = .ok (.iinc 5 1, 3) := by decide +kernel
theorem dX10_paint_100 : decode cX10_paint 100 = .ok (.goto (-92), 3) := by decide +kernel
theorem dX10_paint_103 : decode cX10_paint 103 = .ok (.iload_n 3, 1) := by decide +kernel
theorem dX10_paint_104 : decode cX10_paint 104 = .ok (.ireturn, 1) := by decide +kernel
theorem dX10_at_0 : decode cX10_at 0 = .ok (.aload_n 0, 1) := by decide +kernel
theorem dX10_at_1 : decode cX10_at 1 = .ok (.getfield 56, 3) := by decide +kernel
theorem dX10_at_4 : decode cX10_at 4 = .ok (.iload_n 1, 1) := by decide +kernel
theorem dX10_at_5 : decode cX10_at 5 = .ok (.iload_n 2, 1) := by decide +kernel
theorem dX10_at_6 : decode cX10_at 6 = .ok (.iload_n 3, 1) := by decide +kernel
theorem dX10_at_7 : decode cX10_at 7 = .ok (.invokevirtual 79, 3) := by decide +kernel
theorem dX10_at_10 : decode cX10_at 10 = .ok (.ifCond .ne 13, 3) := by decide +kernel
theorem dX10_at_13 : decode cX10_at 13 = .ok (.new 83, 3) := by decide +kernel
theorem dX10_at_16 : decode cX10_at 16 = .ok (.dup, 1) := by decide +kernel
theorem dX10_at_17 : decode cX10_at 17 = .ok (.ldc 85, 2) := by decide +kernel
theorem dX10_at_19 : decode cX10_at 19 = .ok (.invokespecial 87, 3) := by decide +kernel
theorem dX10_at_22 : decode cX10_at 22 = .ok (.athrow, 1) := by decide +kernel
theorem dX10_at_23 : decode cX10_at 23 = .ok (.aload_n 0, 1) := by decide +kernel
theorem dX10_at_24 : decode cX10_at 24 = .ok (.getfield 56, 3) := by decide +kernel
theorem dX10_at_27 : decode cX10_at 27 = .ok (.iload_n 1, 1) := by decide +kernel
theorem dX10_at_28 : decode cX10_at 28 = .ok (.iload_n 2, 1) := by decide +kernel
theorem dX10_at_29 : decode cX10_at 29 = .ok (.iload_n 3, 1) := by decide +kernel
theorem dX10_at_30 : decode cX10_at 30 = .ok (.invokevirtual 112, 3) := by decide +kernel
theorem dX10_at_33 : decode cX10_at 33 = .ok (.ireturn, 1) := by decide +kernel
theorem dX10_predicted_0 : decode cX10_predicted 0 = .ok (.aload_n 0, 1) := by decide +kernel
theorem dX10_predicted_1 : decode cX10_predicted 1 = .ok (.getfield 56, 3) := by decide +kernel
theorem dX10_predicted_4 : decode cX10_predicted 4 = .ok (.iload_n 1, 1) := by decide +kernel
theorem dX10_predicted_5 : decode cX10_predicted 5 = .ok (.iload_n 2, 1) := by decide +kernel
theorem dX10_predicted_6 : decode cX10_predicted 6 = .ok (.iload_n 3, 1) := by decide +kernel
theorem dX10_predicted_7 : decode cX10_predicted 7 = .ok (.invokevirtual 79, 3) := by decide +kernel
theorem dX10_predicted_10 : decode cX10_predicted 10 = .ok (.ifCond .ne 13, 3) := by decide +kernel
theorem dX10_predicted_13 : decode cX10_predicted 13 = .ok (.new 83, 3) := by decide +kernel
theorem dX10_predicted_16 : decode cX10_predicted 16 = .ok (.dup, 1) := by decide +kernel
theorem dX10_predicted_17 : decode cX10_predicted 17 = .ok (.ldc 85, 2) := by decide +kernel
theorem dX10_predicted_19 : decode cX10_predicted 19 = .ok (.invokespecial 87, 3) := by decide +kernel
theorem dX10_predicted_22 : decode cX10_predicted 22 = .ok (.athrow, 1) := by decide +kernel
theorem dX10_predicted_23 : decode cX10_predicted 23 = .ok (.iload 4, 2) := by decide +kernel
theorem dX10_predicted_25 : decode cX10_predicted 25 = .ok (.ifCond .lt 10, 3) := by decide +kernel
theorem dX10_predicted_28 : decode cX10_predicted 28 = .ok (.iload 4, 2) := by decide +kernel
theorem dX10_predicted_30 : decode cX10_predicted 30 = .ok (.bipush 9, 2) := by decide +kernel
theorem dX10_predicted_32 : decode cX10_predicted 32 = .ok (.if_icmp .lt 13, 3) := by decide +kernel
theorem dX10_predicted_35 : decode cX10_predicted 35 = .ok (.new 83, 3) := by decide +kernel
theorem dX10_predicted_38 : decode cX10_predicted 38 = .ok (.dup, 1) := by decide +kernel
theorem dX10_predicted_39 : decode cX10_predicted 39 = .ok (.ldc 115, 2) := by decide +kernel
theorem dX10_predicted_41 : decode cX10_predicted 41 = .ok (.invokespecial 87, 3) := by decide +kernel
theorem dX10_predicted_44 : decode cX10_predicted 44 = .ok (.athrow, 1) := by decide +kernel
theorem dX10_predicted_45 : decode cX10_predicted 45 = .ok (.aload_n 0, 1) := by decide +kernel
theorem dX10_predicted_46 : decode cX10_predicted 46 = .ok (.getfield 65, 3) := by decide +kernel
theorem dX10_predicted_49 : decode cX10_predicted 49 = .ok (.iload_n 1, 1) := by decide +kernel
theorem dX10_predicted_50 : decode cX10_predicted 50 = .ok (.iload_n 2, 1) := by decide +kernel
theorem dX10_predicted_51 : decode cX10_predicted 51 = .ok (.iload_n 3, 1) := by decide +kernel
theorem dX10_predicted_52 : decode cX10_predicted 52 = .ok (.invokevirtual 117, 3) := by decide +kernel
theorem dX10_predicted_55 : decode cX10_predicted 55 = .ok (.aload_n 0, 1) := by decide +kernel
theorem dX10_predicted_56 : decode cX10_predicted 56 = .ok (.getfield 65, 3) := by decide +kernel
theorem dX10_predicted_59 : decode cX10_predicted 59 = .ok (.iload 4, 2) := by decide +kernel
theorem dX10_predicted_61 : decode cX10_predicted 61 = .ok (.invokevirtual 121, 3) := by decide +kernel
theorem dX10_predicted_64 : decode cX10_predicted 64 = .ok (.ireturn, 1) := by decide +kernel
theorem dX10_encode_0 : decode cX10_encode 0 = .ok (.aload_n 0, 1) := by decide +kernel
theorem dX10_encode_1 : decode cX10_encode 1 = .ok (.getfield 18, 3) := by decide +kernel
theorem dX10_encode_4 : decode cX10_encode 4 = .ok (.invokevirtual 125, 3) := by decide +kernel
theorem dX10_encode_7 : decode cX10_encode 7 = .ok (.iconst 0, 1) := by decide +kernel
theorem dX10_encode_8 : decode cX10_encode 8 = .ok (.istore_n 1, 1) := by decide +kernel
theorem dX10_encode_9 : decode cX10_encode 9 = .ok (.iload_n 1, 1) := by decide +kernel
theorem dX10_encode_10 : decode cX10_encode 10 = .ok (.aload_n 0, 1) := by decide +kernel
theorem dX10_encode_11 : decode cX10_encode 11 = .ok (.getfield 56, 3) := by decide +kernel
theorem dX10_encode_14 : decode cX10_encode 14 = .ok (.invokevirtual 128, 3) := by decide +kernel
theorem dX10_encode_17 : decode cX10_encode 17 = .ok (.if_icmp .ge 55, 3) := by decide +kernel
theorem dX10_encode_20 : decode cX10_encode 20 = .ok (.aload_n 0, 1) := by decide +kernel
theorem dX10_encode_21 : decode cX10_encode 21 = .ok (.getfield 29, 3) := by decide +kernel
theorem dX10_encode_24 : decode cX10_encode 24 = .ok (.invokevirtual 132, 3) := by decide +kernel
theorem dX10_encode_27 : decode cX10_encode 27 = .ok (.aload_n 0, 1) := by decide +kernel
theorem dX10_encode_28 : decode cX10_encode 28 = .ok (.getfield 72, 3) := by decide +kernel
theorem dX10_encode_31 : decode cX10_encode 31 = .ok (.aload_n 0, 1) := by decide +kernel
theorem dX10_encode_32 : decode cX10_encode 32 = .ok (.getfield 29, 3) := by decide +kernel
theorem dX10_encode_35 : decode cX10_encode 35 = .ok (.aload_n 0, 1) := by decide +kernel
theorem dX10_encode_36 : decode cX10_encode 36 = .ok (.getfield 56, 3) := by decide +kernel
theorem dX10_encode_39 : decode cX10_encode 39 = .ok (.iload_n 1, 1) := by decide +kernel
theorem dX10_encode_40 : decode cX10_encode 40 = .ok (.invokevirtual 135, 3) := by decide +kernel
theorem dX10_encode_43 : decode cX10_encode 43 = .ok (.aload_n 0, 1) := by decide +kernel
theorem dX10_encode_44 : decode cX10_encode 44 = .ok (.getfield 56, 3) := by decide +kernel
theorem dX10_encode_47 : decode cX10_encode 47 = .ok (.iload_n 1, 1) := by decide +kernel
theorem dX10_encode_48 : decode cX10_encode 48 = .ok (.invokevirtual 138, 3) := by decide +kernel
theorem dX10_encode_51 : decode cX10_encode 51 = .ok (.invokevirtual 141, 3) := by decide +kernel
theorem dX10_encode_54 : decode cX10_encode 54 = .ok (.aload_n 0, 1) := by decide +kernel
theorem dX10_encode_55 : decode cX10_encode 55 = .ok (.getfield 29, 3) := by decide +kernel
theorem dX10_encode_58 : decode cX10_encode 58 = .ok (.invokevirtual 145, 3) := by decide +kernel
theorem dX10_encode_61 : decode cX10_encode 61 = .ok (.aload_n 0, 1) := by decide +kernel
theorem dX10_encode_62 : decode cX10_encode 62 = .ok (.iload_n 1, 1) := by decide +kernel
theorem dX10_encode_63 : decode cX10_encode 63 = .ok (.invokevirtual 148, 3) := by decide +kernel
theorem dX10_encode_66 : decode cX10_encode 66 = .ok (.iinc 1 1, 3) := by decide +kernel
theorem dX10_encode_69 : decode cX10_encode 69 = .ok (.goto (-60), 3) := by decide +kernel
theorem dX10_encode_72 : decode cX10_encode 72 = .ok (.aload_n 0, 1) := by decide +kernel
theorem dX10_encode_73 : decode cX10_encode 73 = .ok (.getfield 18, 3) := by decide +kernel
theorem dX10_encode_76 : decode cX10_encode 76 = .ok (.invokevirtual 151, 3) := by decide +kernel
theorem dX10_encode_79 : decode cX10_encode 79 = .ok (.ireturn, 1) := by decide +kernel
theorem dX10_byteAt_0 : decode cX10_byteAt 0 = .ok (.aload_n 0, 1) := by decide +kernel
theorem dX10_byteAt_1 : decode cX10_byteAt 1 = .ok (.getfield 18, 3) := by decide +kernel
theorem dX10_byteAt_4 : decode cX10_byteAt 4 = .ok (.iload_n 1, 1) := by decide +kernel
theorem dX10_byteAt_5 : decode cX10_byteAt 5 = .ok (.invokevirtual 154, 3) := by decide +kernel
theorem dX10_byteAt_8 : decode cX10_byteAt 8 = .ok (.ifCond .ne 13, 3) := by decide +kernel
theorem dX10_byteAt_11 : decode cX10_byteAt 11 = .ok (.new 83, 3) := by decide +kernel
theorem dX10_byteAt_14 : decode cX10_byteAt 14 = .ok (.dup, 1) := by decide +kernel
theorem dX10_byteAt_15 : decode cX10_byteAt 15 = .ok (.ldc 157, 2) := by decide +kernel
theorem dX10_byteAt_17 : decode cX10_byteAt 17 = .ok (.invokespecial 87, 3) := by decide +kernel
theorem dX10_byteAt_20 : decode cX10_byteAt 20 = .ok (.athrow, 1) := by decide +kernel
theorem dX10_byteAt_21 : decode cX10_byteAt 21 = .ok (.aload_n 0, 1) := by decide +kernel
theorem dX10_byteAt_22 : decode cX10_byteAt 22 = .ok (.getfield 18, 3) := by decide +kernel
theorem dX10_byteAt_25 : decode cX10_byteAt 25 = .ok (.iload_n 1, 1) := by decide +kernel
theorem dX10_byteAt_26 : decode cX10_byteAt 26 = .ok (.invokevirtual 159, 3) := by decide +kernel
theorem dX10_byteAt_29 : decode cX10_byteAt 29 = .ok (.ireturn, 1) := by decide +kernel
theorem dX10_plain_0 : decode cX10_plain 0 = .ok (.iload_n 1, 1) := by decide +kernel
theorem dX10_plain_1 : decode cX10_plain 1 = .ok (.ifCond .lt 14, 3) := by decide +kernel
theorem dX10_plain_4 : decode cX10_plain 4 = .ok (.iload_n 1, 1) := by decide +kernel
theorem dX10_plain_5 : decode cX10_plain 5 = .ok (.aload_n 0, 1) := by decide +kernel
theorem dX10_plain_6 : decode cX10_plain 6 = .ok (.getfield 56, 3) := by decide +kernel
theorem dX10_plain_9 : decode cX10_plain 9 = .ok (.invokevirtual 128, 3) := by decide +kernel
theorem dX10_plain_12 : decode cX10_plain 12 = .ok (.if_icmp .lt 13, 3) := by decide +kernel
theorem dX10_plain_15 : decode cX10_plain 15 = .ok (.new 83, 3) := by decide +kernel
theorem dX10_plain_18 : decode cX10_plain 18 = .ok (.dup, 1) := by decide +kernel
theorem dX10_plain_19 : decode cX10_plain 19 = .ok (.ldc 162, 2) := by decide +kernel
theorem dX10_plain_21 : decode cX10_plain 21 = .ok (.invokespecial 87, 3) := by decide +kernel
theorem dX10_plain_24 : decode cX10_plain 24 = .ok (.athrow, 1) := by decide +kernel
theorem dX10_plain_25 : decode cX10_plain 25 = .ok (.aload_n 0, 1) := by decide +kernel
theorem dX10_plain_26 : decode cX10_plain 26 = .ok (.getfield 43, 3) := by decide +kernel
theorem dX10_plain_29 : decode cX10_plain 29 = .ok (.iload_n 1, 1) := by decide +kernel
theorem dX10_plain_30 : decode cX10_plain 30 = .ok (.invokevirtual 164, 3) := by decide +kernel
theorem dX10_plain_33 : decode cX10_plain 33 = .ok (.iconst 1, 1) := by decide +kernel
theorem dX10_plain_34 : decode cX10_plain 34 = .ok (.if_icmp .ne 7, 3) := by decide +kernel
theorem dX10_plain_37 : decode cX10_plain 37 = .ok (.iconst 1, 1) := by decide +kernel
theorem dX10_plain_38 : decode cX10_plain 38 = .ok (.goto 4, 3) := by decide +kernel
theorem dX10_plain_41 : decode cX10_plain 41 = .ok (.iconst 0, 1) := by decide +kernel
theorem dX10_plain_42 : decode cX10_plain 42 = .ok (.ireturn, 1) := by decide +kernel
theorem dX10_weight_0 : decode cX10_weight 0 = .ok (.iload_n 1, 1) := by decide +kernel
theorem dX10_weight_1 : decode cX10_weight 1 = .ok (.ifCond .lt 9, 3) := by decide +kernel
theorem dX10_weight_4 : decode cX10_weight 4 = .ok (.iload_n 1, 1) := by decide +kernel
theorem dX10_weight_5 : decode cX10_weight 5 = .ok (.bipush 9, 2) := by decide +kernel
theorem dX10_weight_7 : decode cX10_weight 7 = .ok (.if_icmp .lt 13, 3) := by decide +kernel
theorem dX10_weight_10 : decode cX10_weight 10 = .ok (.new 83, 3) := by decide +kernel
theorem dX10_weight_13 : decode cX10_weight 13 = .ok (.dup, 1) := by decide +kernel
theorem dX10_weight_14 : decode cX10_weight 14 = .ok (.ldc 115, 2) := by decide +kernel
theorem dX10_weight_16 : decode cX10_weight 16 = .ok (.invokespecial 87, 3) := by decide +kernel
theorem dX10_weight_19 : decode cX10_weight 19 = .ok (.athrow, 1) := by decide +kernel
theorem dX10_weight_20 : decode cX10_weight 20 = .ok (.aload_n 0, 1) := by decide +kernel
theorem dX10_weight_21 : decode cX10_weight 21 = .ok (.getfield 72, 3) := by decide +kernel
theorem dX10_weight_24 : decode cX10_weight 24 = .ok (.getfield 165, 3) := by decide +kernel
theorem dX10_weight_27 : decode cX10_weight 27 = .ok (.iload_n 1, 1) := by decide +kernel
theorem dX10_weight_28 : decode cX10_weight 28 = .ok (.invokevirtual 169, 3) := by decide +kernel
theorem dX10_weight_31 : decode cX10_weight 31 = .ok (.ireturn, 1) := by decide +kernel
theorem dX10_chance_0 : decode cX10_chance 0 = .ok (.aload_n 0, 1) := by decide +kernel
theorem dX10_chance_1 : decode cX10_chance 1 = .ok (.getfield 56, 3) := by decide +kernel
theorem dX10_chance_4 : decode cX10_chance 4 = .ok (.iload_n 2, 1) := by decide +kernel
theorem dX10_chance_5 : decode cX10_chance 5 = .ok (.invokevirtual 172, 3) := by decide +kernel
theorem dX10_chance_8 : decode cX10_chance 8 = .ok (.ifCond .ne 13, 3) := by decide +kernel
theorem dX10_chance_11 : decode cX10_chance 11 = .ok (.new 83, 3) := by decide +kernel
theorem dX10_chance_14 : decode cX10_chance 14 = .ok (.dup, 1) := by decide +kernel
theorem dX10_chance_15 : decode cX10_chance 15 = .ok (.ldc 175, 2) := by decide +kernel
theorem dX10_chance_17 : decode cX10_chance 17 = .ok (.invokespecial 87, 3) := by decide +kernel
theorem dX10_chance_20 : decode cX10_chance 20 = .ok (.athrow, 1) := by decide +kernel
theorem dX10_chance_21 : decode cX10_chance 21 = .ok (.iload_n 3, 1) := by decide +kernel
theorem dX10_chance_22 : decode cX10_chance 22 = .ok (.ifCond .lt 8, 3) := by decide +kernel
theorem dX10_chance_25 : decode cX10_chance 25 = .ok (.iload_n 3, 1) := by decide +kernel
theorem dX10_chance_26 : decode cX10_chance 26 = .ok (.iconst 4, 1) := by decide +kernel
theorem dX10_chance_27 : decode cX10_chance 27 = .ok (.if_icmp .lt 13, 3) := by decide +kernel
theorem dX10_chance_30 : decode cX10_chance 30 = .ok (.new 94, 3) := by decide +kernel
theorem dX10_chance_33 : decode cX10_chance 33 = .ok (.dup, 1) := by decide +kernel
theorem dX10_chance_34 : decode cX10_chance 34 = .ok (.ldc 177, 2) := by decide +kernel
theorem dX10_chance_36 : decode cX10_chance 36 = .ok (.invokespecial 98, 3) := by decide +kernel
theorem dX10_chance_39 : decode cX10_chance 39 = .ok (.athrow, 1) := by decide +kernel
theorem dX10_chance_40 : decode cX10_chance 40 = .ok (.iload 4, 2) := by decide +kernel
theorem dX10_chance_42 : decode cX10_chance 42 = .ok (.iconst 1, 1) := by decide +kernel
theorem dX10_chance_43 : decode cX10_chance 43 = .ok (.if_icmp .lt 15, 3) := by decide +kernel
theorem dX10_chance_46 : decode cX10_chance 46 = .ok (.iload 4, 2) := by decide +kernel
theorem dX10_chance_48 : decode cX10_chance 48 = .ok (.aload_n 0, 1) := by decide +kernel
theorem dX10_chance_49 : decode cX10_chance 49 = .ok (.getfield 56, 3) := by decide +kernel
theorem dX10_chance_52 : decode cX10_chance 52 = .ok (.getfield 90, 3) := by decide +kernel
theorem dX10_chance_55 : decode cX10_chance 55 = .ok (.if_icmp .le 13, 3) := by decide +kernel
theorem dX10_chance_58 : decode cX10_chance 58 = .ok (.new 94, 3) := by decide +kernel
theorem dX10_chance_61 : decode cX10_chance 61 = .ok (.dup, 1) := by decide +kernel
theorem dX10_chance_62 : decode cX10_chance 62 = .ok (.ldc 179, 2) := by decide +kernel
theorem dX10_chance_64 : decode cX10_chance 64 = .ok (.invokespecial 98, 3) := by decide +kernel
theorem dX10_chance_67 : decode cX10_chance 67 = .ok (.athrow, 1) := by decide +kernel
theorem dX10_chance_68 : decode cX10_chance 68 = .ok (.aload_n 0, 1) := by decide +kernel
theorem dX10_chance_69 : decode cX10_chance 69 = .ok (.getfield 72, 3) := by decide +kernel
theorem dX10_chance_72 : decode cX10_chance 72 = .ok (.getfield 181, 3) := by decide +kernel
theorem dX10_chance_75 : decode cX10_chance 75 = .ok (.astore 5, 2) := by decide +kernel
theorem dX10_chance_77 : decode cX10_chance 77 = .ok (.aload 5, 2) := by decide +kernel
theorem dX10_chance_79 : decode cX10_chance 79 = .ok (.iload_n 2, 1) := by decide +kernel
theorem dX10_chance_80 : decode cX10_chance 80 = .ok (.iload_n 3, 1) := by decide +kernel
theorem dX10_chance_81 : decode cX10_chance 81 = .ok (.iload 4, 2) := by decide +kernel
theorem dX10_chance_83 : decode cX10_chance 83 = .ok (.invokevirtual 185, 3) := by decide +kernel
theorem dX10_chance_86 : decode cX10_chance 86 = .ok (.istore 6, 2) := by decide +kernel
theorem dX10_chance_88 : decode cX10_chance 88 = .ok (.iload_n 1, 1) := by decide +kernel
theorem dX10_chance_89 : decode cX10_chance 89 = .ok (.ifCond .eq 16, 3) := by decide +kernel
theorem dX10_chance_92 : decode cX10_chance 92 = .ok (.aload 5, 2) := by decide +kernel
theorem dX10_chance_94 : decode cX10_chance 94 = .ok (.getfield 190, 3) := by decide +kernel
theorem dX10_chance_97 : decode cX10_chance 97 = .ok (.iload 6, 2) := by decide +kernel
theorem dX10_chance_99 : decode cX10_chance 99 = .ok (.invokevirtual 164, 3) := by decide +kernel
theorem dX10_chance_102 : decode cX10_chance 102 = .ok (.goto 13, 3) := by decide +kernel
theorem dX10_chance_105 : decode cX10_chance 105 = .ok (.aload 5, 2) := by decide +kernel
theorem dX10_chance_107 : decode cX10_chance 107 = .ok (.getfield 193, 3) := by decide +kernel
theorem dX10_chance_110 : decode cX10_chance 110 = .ok (.iload 6, 2) := by decide +kernel
theorem dX10_chance_112 : decode cX10_chance 112 = .ok (.invokevirtual 164, 3) := by decide +kernel
theorem dX10_chance_115 : decode cX10_chance 115 = .ok (.ireturn, 1) := by decide +kernel
theorem dX10_share_0 : decode cX10_share 0 = .ok (.aload_n 0, 1) := by decide +kernel
theorem dX10_share_1 : decode cX10_share 1 = .ok (.getfield 56, 3) := by decide +kernel
theorem dX10_share_4 : decode cX10_share 4 = .ok (.iload_n 1, 1) := by decide +kernel
theorem dX10_share_5 : decode cX10_share 5 = .ok (.invokevirtual 172, 3) := by decide +kernel
theorem dX10_share_8 : decode cX10_share 8 = .ok (.ifCond .ne 13, 3) := by decide +kernel
theorem dX10_share_11 : decode cX10_share 11 = .ok (.new 83, 3) := by decide +kernel
theorem dX10_share_14 : decode cX10_share 14 = .ok (.dup, 1) := by decide +kernel
theorem dX10_share_15 : decode cX10_share 15 = .ok (.ldc 175, 2) := by decide +kernel
theorem dX10_share_17 : decode cX10_share 17 = .ok (.invokespecial 87, 3) := by decide +kernel
theorem dX10_share_20 : decode cX10_share 20 = .ok (.athrow, 1) := by decide +kernel
theorem dX10_share_21 : decode cX10_share 21 = .ok (.aload_n 0, 1) := by decide +kernel
theorem dX10_share_22 : decode cX10_share 22 = .ok (.getfield 72, 3) := by decide +kernel
theorem dX10_share_25 : decode cX10_share 25 = .ok (.getfield 181, 3) := by decide +kernel
theorem dX10_share_28 : decode cX10_share 28 = .ok (.getfield 196, 3) := by decide +kernel
theorem dX10_share_31 : decode cX10_share 31 = .ok (.iload_n 1, 1) := by decide +kernel
theorem dX10_share_32 : decode cX10_share 32 = .ok (.invokevirtual 164, 3) := by decide +kernel
theorem dX10_share_35 : decode cX10_share 35 = .ok (.ireturn, 1) := by decide +kernel
theorem dX10_feed_0 : decode cX10_feed 0 = .ok (.iload_n 1, 1) := by decide +kernel
theorem dX10_feed_1 : decode cX10_feed 1 = .ok (.ifCond .lt 10, 3) := by decide +kernel
theorem dX10_feed_4 : decode cX10_feed 4 = .ok (.iload_n 1, 1) := by decide +kernel
theorem dX10_feed_5 : decode cX10_feed 5 = .ok (.sipush 255, 3) := by decide +kernel
theorem dX10_feed_8 : decode cX10_feed 8 = .ok (.if_icmp .le 13, 3) := by decide +kernel
theorem dX10_feed_11 : decode cX10_feed 11 = .ok (.new 94, 3) := by decide +kernel
theorem dX10_feed_14 : decode cX10_feed 14 = .ok (.dup, 1) := by decide +kernel
theorem dX10_feed_15 : decode cX10_feed 15 = .ok (.ldc 199, 2) := by decide +kernel
theorem dX10_feed_17 : decode cX10_feed 17 = .ok (.invokespecial 98, 3) := by decide +kernel
theorem dX10_feed_20 : decode cX10_feed 20 = .ok (.athrow, 1) := by decide +kernel
theorem dX10_feed_21 : decode cX10_feed 21 = .ok (.aload_n 0, 1) := by decide +kernel
theorem dX10_feed_22 : decode cX10_feed 22 = .ok (.getfield 21, 3) := by decide +kernel
theorem dX10_feed_25 : decode cX10_feed 25 = .ok (.invokevirtual 151, 3) := by decide +kernel
theorem dX10_feed_28 : decode cX10_feed 28 = .ok (.sipush 4000, 3) := by decide +kernel
theorem dX10_feed_31 : decode cX10_feed 31 = .ok (.if_icmp .lt 13, 3) := by decide +kernel
theorem dX10_feed_34 : decode cX10_feed 34 = .ok (.new 201, 3) := by decide +kernel
theorem dX10_feed_37 : decode cX10_feed 37 = .ok (.dup, 1) := by decide +kernel
theorem dX10_feed_38 : decode cX10_feed 38 = .ok (.ldc 203, 2) := by decide +kernel
theorem dX10_feed_40 : decode cX10_feed 40 = .ok (.invokespecial 205, 3) := by decide +kernel
theorem dX10_feed_43 : decode cX10_feed 43 = .ok (.athrow, 1) := by decide +kernel
theorem dX10_feed_44 : decode cX10_feed 44 = .ok (.aload_n 0, 1) := by decide +kernel
theorem dX10_feed_45 : decode cX10_feed 45 = .ok (.getfield 21, 3) := by decide +kernel
theorem dX10_feed_48 : decode cX10_feed 48 = .ok (.iload_n 1, 1) := by decide +kernel
theorem dX10_feed_49 : decode cX10_feed 49 = .ok (.invokevirtual 206, 3) := by decide +kernel
theorem dX10_feed_52 : decode cX10_feed 52 = .ok (.aload_n 0, 1) := by decide +kernel
theorem dX10_feed_53 : decode cX10_feed 53 = .ok (.getfield 21, 3) := by decide +kernel
theorem dX10_feed_56 : decode cX10_feed 56 = .ok (.invokevirtual 151, 3) := by decide +kernel
theorem dX10_feed_59 : decode cX10_feed 59 = .ok (.ireturn, 1) := by decide +kernel
theorem dX10_pass_0 : decode cX10_pass 0 = .ok (.aload_n 0, 1) := by decide +kernel
theorem dX10_pass_1 : decode cX10_pass 1 = .ok (.getfield 21, 3) := by decide +kernel
theorem dX10_pass_4 : decode cX10_pass 4 = .ok (.invokevirtual 151, 3) := by decide +kernel
theorem dX10_pass_7 : decode cX10_pass 7 = .ok (.aload_n 0, 1) := by decide +kernel
theorem dX10_pass_8 : decode cX10_pass 8 = .ok (.getfield 18, 3) := by decide +kernel
theorem dX10_pass_11 : decode cX10_pass 11 = .ok (.invokevirtual 151, 3) := by decide +kernel
theorem dX10_pass_14 : decode cX10_pass 14 = .ok (.iadd, 1) := by decide +kernel
theorem dX10_pass_15 : decode cX10_pass 15 = .ok (.sipush 4000, 3) := by decide +kernel
theorem dX10_pass_18 : decode cX10_pass 18 = .ok (.if_icmp .le 13, 3) := by decide +kernel
theorem dX10_pass_21 : decode cX10_pass 21 = .ok (.new 201, 3) := by decide +kernel
theorem dX10_pass_24 : decode cX10_pass 24 = .ok (.dup, 1) := by decide +kernel
theorem dX10_pass_25 : decode cX10_pass 25 = .ok (.ldc 203, 2) := by decide +kernel
theorem dX10_pass_27 : decode cX10_pass 27 = .ok (.invokespecial 205, 3) := by decide +kernel
theorem dX10_pass_30 : decode cX10_pass 30 = .ok (.athrow, 1) := by decide +kernel
theorem dX10_pass_31 : decode cX10_pass 31 = .ok (.aload_n 0, 1) := by decide +kernel
theorem dX10_pass_32 : decode cX10_pass 32 = .ok (.getfield 21, 3) := by decide +kernel
theorem dX10_pass_35 : decode cX10_pass 35 = .ok (.aload_n 0, 1) := by decide +kernel
theorem dX10_pass_36 : decode cX10_pass 36 = .ok (.getfield 18, 3) := by decide +kernel
theorem dX10_pass_39 : decode cX10_pass 39 = .ok (.invokevirtual 209, 3) := by decide +kernel
theorem dX10_pass_42 : decode cX10_pass 42 = .ok (.aload_n 0, 1) := by decide +kernel
theorem dX10_pass_43 : decode cX10_pass 43 = .ok (.getfield 21, 3) := by decide +kernel
theorem dX10_pass_46 : decode cX10_pass 46 = .ok (.invokevirtual 151, 3) := by decide +kernel
theorem dX10_pass_49 : decode cX10_pass 49 = .ok (.ireturn, 1) := by decide +kernel
theorem dX10_poke_0 : decode cX10_poke 0 = .ok (.aload_n 0, 1) := by decide +kernel
theorem dX10_poke_1 : decode cX10_poke 1 = .ok (.getfield 21, 3) := by decide +kernel
theorem dX10_poke_4 : decode cX10_poke 4 = .ok (.iload_n 1, 1) := by decide +kernel
theorem dX10_poke_5 : decode cX10_poke 5 = .ok (.invokevirtual 154, 3) := by decide +kernel
theorem dX10_poke_8 : decode cX10_poke 8 = .ok (.ifCond .ne 13, 3) := by decide +kernel
theorem dX10_poke_11 : decode cX10_poke 11 = .ok (.new 83, 3) := by decide +kernel
theorem dX10_poke_14 : decode cX10_poke 14 = .ok (.dup, 1) := by decide +kernel
theorem dX10_poke_15 : decode cX10_poke 15 = .ok (.ldc 212, 2) := by decide +kernel
theorem dX10_poke_17 : decode cX10_poke 17 = .ok (.invokespecial 87, 3) := by decide +kernel
theorem dX10_poke_20 : decode cX10_poke 20 = .ok (.athrow, 1) := by decide +kernel
theorem dX10_poke_21 : decode cX10_poke 21 = .ok (.iload_n 2, 1) := by decide +kernel
theorem dX10_poke_22 : decode cX10_poke 22 = .ok (.ifCond .lt 10, 3) := by decide +kernel
theorem dX10_poke_25 : decode cX10_poke 25 = .ok (.iload_n 2, 1) := by decide +kernel
theorem dX10_poke_26 : decode cX10_poke 26 = .ok (.sipush 255, 3) := by decide +kernel
theorem dX10_poke_29 : decode cX10_poke 29 = .ok (.if_icmp .le 13, 3) := by decide +kernel
theorem dX10_poke_32 : decode cX10_poke 32 = .ok (.new 94, 3) := by decide +kernel
theorem dX10_poke_35 : decode cX10_poke 35 = .ok (.dup, 1) := by decide +kernel
theorem dX10_poke_36 : decode cX10_poke 36 = .ok (.ldc 214, 2) := by decide +kernel
theorem dX10_poke_38 : decode cX10_poke 38 = .ok (.invokespecial 98, 3) := by decide +kernel
theorem dX10_poke_41 : decode cX10_poke 41 = .ok (.athrow, 1) := by decide +kernel
theorem dX10_poke_42 : decode cX10_poke 42 = .ok (.aload_n 0, 1) := by decide +kernel
theorem dX10_poke_43 : decode cX10_poke 43 = .ok (.getfield 21, 3) := by decide +kernel
theorem dX10_poke_46 : decode cX10_poke 46 = .ok (.iload_n 1, 1) := by decide +kernel
theorem dX10_poke_47 : decode cX10_poke 47 = .ok (.aload_n 0, 1) := by decide +kernel
theorem dX10_poke_48 : decode cX10_poke 48 = .ok (.getfield 21, 3) := by decide +kernel
theorem dX10_poke_51 : decode cX10_poke 51 = .ok (.iload_n 1, 1) := by decide +kernel
theorem dX10_poke_52 : decode cX10_poke 52 = .ok (.invokevirtual 159, 3) := by decide +kernel
theorem dX10_poke_55 : decode cX10_poke 55 = .ok (.iload_n 2, 1) := by decide +kernel
theorem dX10_poke_56 : decode cX10_poke 56 = .ok (.ixor, 1) := by decide +kernel
theorem dX10_poke_57 : decode cX10_poke 57 = .ok (.invokevirtual 216, 3) := by decide +kernel
theorem dX10_poke_60 : decode cX10_poke 60 = .ok (.aload_n 0, 1) := by decide +kernel
theorem dX10_poke_61 : decode cX10_poke 61 = .ok (.getfield 21, 3) := by decide +kernel
theorem dX10_poke_64 : decode cX10_poke 64 = .ok (.iload_n 1, 1) := by decide +kernel
theorem dX10_poke_65 : decode cX10_poke 65 = .ok (.invokevirtual 159, 3) := by decide +kernel
theorem dX10_poke_68 : decode cX10_poke 68 = .ok (.ireturn, 1) := by decide +kernel
theorem dX10_decode_0 : decode cX10_decode 0 = .ok (.iconst 0, 1) := by decide +kernel
theorem dX10_decode_1 : decode cX10_decode 1 = .ok (.istore_n 1, 1) := by decide +kernel
theorem dX10_decode_2 : decode cX10_decode 2 = .ok (.aload_n 0, 1) := by decide +kernel
theorem dX10_decode_3 : decode cX10_decode 3 = .ok (.getfield 56, 3) := by decide +kernel
theorem dX10_decode_6 : decode cX10_decode 6 = .ok (.invokevirtual 220, 3) := by decide +kernel
theorem dX10_decode_9 : decode cX10_decode 9 = .ok (.istore_n 2, 1) := by decide +kernel
theorem dX10_decode_10 : decode cX10_decode 10 = .ok (.iconst 0, 1) := by decide +kernel
theorem dX10_decode_11 : decode cX10_decode 11 = .ok (.istore_n 3, 1) := by decide +kernel
theorem dX10_decode_12 : decode cX10_decode 12 = .ok (.iload_n 3, 1) := by decide +kernel
theorem dX10_decode_13 : decode cX10_decode 13 = .ok (.aload_n 0, 1) := by decide +kernel
theorem dX10_decode_14 : decode cX10_decode 14 = .ok (.getfield 56, 3) := by decide +kernel
theorem dX10_decode_17 : decode cX10_decode 17 = .ok (.invokevirtual 128, 3) := by decide +kernel
theorem dX10_decode_20 : decode cX10_decode 20 = .ok (.if_icmp .ge 100, 3) := by decide +kernel
theorem dX10_decode_23 : decode cX10_decode 23 = .ok (.aload_n 0, 1) := by decide +kernel
theorem dX10_decode_24 : decode cX10_decode 24 = .ok (.iload_n 3, 1) := by decide +kernel
theorem dX10_decode_25 : decode cX10_decode 25 = .ok (.iload_n 1, 1) := by decide +kernel
theorem dX10_decode_26 : decode cX10_decode 26 = .ok (.invokevirtual 221, 3) := by decide +kernel
theorem dX10_decode_29 : decode cX10_decode 29 = .ok (.ifCond .ne 10, 3) := by decide +kernel
theorem dX10_decode_32 : decode cX10_decode 32 = .ok (.iconst (-1), 1) := by decide +kernel
theorem dX10_decode_33 : decode cX10_decode 33 = .ok (.iload_n 3, 1) := by decide +kernel
theorem dX10_decode_34 : decode cX10_decode 34 = .ok (.isub, 1) := by decide +kernel
theorem dX10_decode_35 : decode cX10_decode 35 = .ok (.istore_n 2, 1) := by decide +kernel
theorem dX10_decode_36 : decode cX10_decode 36 = .ok (.goto 84, 3) := by decide +kernel
theorem dX10_decode_39 : decode cX10_decode 39 = .ok (.iload_n 1, 1) := by decide +kernel
theorem dX10_decode_40 : decode cX10_decode 40 = .ok (.iconst 4, 1) := by decide +kernel
theorem dX10_decode_41 : decode cX10_decode 41 = .ok (.iadd, 1) := by decide +kernel
theorem dX10_decode_42 : decode cX10_decode 42 = .ok (.aload_n 0, 1) := by decide +kernel
theorem dX10_decode_43 : decode cX10_decode 43 = .ok (.iload_n 1, 1) := by decide +kernel
theorem dX10_decode_44 : decode cX10_decode 44 = .ok (.invokevirtual 225, 3) := by decide +kernel
theorem dX10_decode_47 : decode cX10_decode 47 = .ok (.iadd, 1) := by decide +kernel
theorem dX10_decode_48 : decode cX10_decode 48 = .ok (.istore 4, 2) := by decide +kernel
theorem dX10_decode_50 : decode cX10_decode 50 = .ok (.aload_n 0, 1) := by decide +kernel
theorem dX10_decode_51 : decode cX10_decode 51 = .ok (.getfield 21, 3) := by decide +kernel
theorem dX10_decode_54 : decode cX10_decode 54 = .ok (.iload_n 1, 1) := by decide +kernel
theorem dX10_decode_55 : decode cX10_decode 55 = .ok (.invokevirtual 159, 3) := by decide +kernel
theorem dX10_decode_58 : decode cX10_decode 58 = .ok (.ifCond .ne 14, 3) := by decide +kernel
theorem dX10_decode_61 : decode cX10_decode 61 = .ok (.aload_n 0, 1) := by decide +kernel
theorem dX10_decode_62 : decode cX10_decode 62 = .ok (.iload_n 3, 1) := by decide +kernel
theorem dX10_decode_63 : decode cX10_decode 63 = .ok (.iload_n 1, 1) := by decide +kernel
theorem dX10_decode_64 : decode cX10_decode 64 = .ok (.iconst 4, 1) := by decide +kernel
theorem dX10_decode_65 : decode cX10_decode 65 = .ok (.iadd, 1) := by decide +kernel
theorem dX10_decode_66 : decode cX10_decode 66 = .ok (.invokevirtual 228, 3) := by decide +kernel
theorem dX10_decode_69 : decode cX10_decode 69 = .ok (.goto 42, 3) := by decide +kernel
theorem dX10_decode_72 : decode cX10_decode 72 = .ok (.aload_n 0, 1) := by decide +kernel
theorem dX10_decode_73 : decode cX10_decode 73 = .ok (.getfield 36, 3) := by decide +kernel
theorem dX10_decode_76 : decode cX10_decode 76 = .ok (.iload_n 1, 1) := by decide +kernel
theorem dX10_decode_77 : decode cX10_decode 77 = .ok (.iconst 4, 1) := by decide +kernel
theorem dX10_decode_78 : decode cX10_decode 78 = .ok (.iadd, 1) := by decide +kernel
theorem dX10_decode_79 : decode cX10_decode 79 = .ok (.iload 4, 2) := by decide +kernel
theorem dX10_decode_81 : decode cX10_decode 81 = .ok (.invokevirtual 231, 3) := by decide +kernel
theorem dX10_decode_84 : decode cX10_decode 84 = .ok (.aload_n 0, 1) := by decide +kernel
theorem dX10_decode_85 : decode cX10_decode 85 = .ok (.getfield 76, 3) := by decide +kernel
theorem dX10_decode_88 : decode cX10_decode 88 = .ok (.aload_n 0, 1) := by decide +kernel
theorem dX10_decode_89 : decode cX10_decode 89 = .ok (.getfield 36, 3) := by decide +kernel
theorem dX10_decode_92 : decode cX10_decode 92 = .ok (.aload_n 0, 1) := by decide +kernel
theorem dX10_decode_93 : decode cX10_decode 93 = .ok (.getfield 56, 3) := by decide +kernel
theorem dX10_decode_96 : decode cX10_decode 96 = .ok (.iload_n 3, 1) := by decide +kernel
theorem dX10_decode_97 : decode cX10_decode 97 = .ok (.invokevirtual 135, 3) := by decide +kernel
theorem dX10_decode_100 : decode cX10_decode 100 = .ok (.aload_n 0, 1) := by decide +kernel
theorem dX10_decode_101 : decode cX10_decode 101 = .ok (.getfield 56, 3) := by decide +kernel
theorem dX10_decode_104 : decode cX10_decode 104 = .ok (.iload_n 3, 1) := by decide +kernel
theorem dX10_decode_105 : decode cX10_decode 105 = .ok (.invokevirtual 138, 3) := by decide +kernel
theorem dX10_decode_108 : decode cX10_decode 108 = .ok (.invokevirtual 141, 3) := by decide +kernel
theorem dX10_decode_111 : decode cX10_decode 111 = .ok (.iload 4, 2) := by decide +kernel
theorem dX10_decode_113 : decode cX10_decode 113 = .ok (.istore_n 1, 1) := by decide +kernel
theorem dX10_decode_114 : decode cX10_decode 114 = .ok (.iinc 3 1, 3) := by decide +kernel
theorem dX10_decode_117 : decode cX10_decode 117 = .ok (.goto (-105), 3) := by decide +kernel
theorem dX10_decode_120 : decode cX10_decode 120 = .ok (.aload_n 0, 1) := by decide +kernel
theorem dX10_decode_121 : decode cX10_decode 121 = .ok (.getfield 21, 3) := by decide +kernel
theorem dX10_decode_124 : decode cX10_decode 124 = .ok (.invokevirtual 125, 3) := by decide +kernel
theorem dX10_decode_127 : decode cX10_decode 127 = .ok (.iload_n 2, 1) := by decide +kernel
theorem dX10_decode_128 : decode cX10_decode 128 = .ok (.ireturn, 1) := by decide +kernel
theorem dX10_told_0 : decode cX10_told 0 = .ok (.iload_n 1, 1) := by decide +kernel
theorem dX10_told_1 : decode cX10_told 1 = .ok (.tableswitch 99 0 6 #[43, 51, 59, 67, 75, 83, 91], 43) := by decide +kernel
theorem dX10_told_44 : decode cX10_told 44 = .ok (.aload_n 0, 1) := by decide +kernel
theorem dX10_told_45 : decode cX10_told 45 = .ok (.getfield 56, 3) := by decide +kernel
theorem dX10_told_48 : decode cX10_told 48 = .ok (.invokevirtual 128, 3) := by decide +kernel
theorem dX10_told_51 : decode cX10_told 51 = .ok (.ireturn, 1) := by decide +kernel
theorem dX10_told_52 : decode cX10_told 52 = .ok (.aload_n 0, 1) := by decide +kernel
theorem dX10_told_53 : decode cX10_told 53 = .ok (.getfield 18, 3) := by decide +kernel
theorem dX10_told_56 : decode cX10_told 56 = .ok (.invokevirtual 151, 3) := by decide +kernel
theorem dX10_told_59 : decode cX10_told 59 = .ok (.ireturn, 1) := by decide +kernel
theorem dX10_told_60 : decode cX10_told 60 = .ok (.aload_n 0, 1) := by decide +kernel
theorem dX10_told_61 : decode cX10_told 61 = .ok (.getfield 21, 3) := by decide +kernel
theorem dX10_told_64 : decode cX10_told 64 = .ok (.invokevirtual 151, 3) := by decide +kernel
theorem dX10_told_67 : decode cX10_told 67 = .ok (.ireturn, 1) := by decide +kernel
theorem dX10_told_68 : decode cX10_told 68 = .ok (.aload_n 0, 1) := by decide +kernel
theorem dX10_told_69 : decode cX10_told 69 = .ok (.getfield 56, 3) := by decide +kernel
theorem dX10_told_72 : decode cX10_told 72 = .ok (.getfield 106, 3) := by decide +kernel
theorem dX10_told_75 : decode cX10_told 75 = .ok (.ireturn, 1) := by decide +kernel
theorem dX10_told_76 : decode cX10_told 76 = .ok (.aload_n 0, 1) := by decide +kernel
theorem dX10_told_77 : decode cX10_told 77 = .ok (.getfield 56, 3) := by decide +kernel
theorem dX10_told_80 : decode cX10_told 80 = .ok (.getfield 103, 3) := by decide +kernel
theorem dX10_told_83 : decode cX10_told 83 = .ok (.ireturn, 1) := by decide +kernel
theorem dX10_told_84 : decode cX10_told 84 = .ok (.aload_n 0, 1) := by decide +kernel
theorem dX10_told_85 : decode cX10_told 85 = .ok (.getfield 56, 3) := by decide +kernel
theorem dX10_told_88 : decode cX10_told 88 = .ok (.getfield 233, 3) := by decide +kernel
theorem dX10_told_91 : decode cX10_told 91 = .ok (.ireturn, 1) := by decide +kernel
theorem dX10_told_92 : decode cX10_told 92 = .ok (.aload_n 0, 1) := by decide +kernel
theorem dX10_told_93 : decode cX10_told 93 = .ok (.getfield 56, 3) := by decide +kernel
theorem dX10_told_96 : decode cX10_told 96 = .ok (.getfield 109, 3) := by decide +kernel
theorem dX10_told_99 : decode cX10_told 99 = .ok (.ireturn, 1) := by decide +kernel
theorem dX10_told_100 : decode cX10_told 100 = .ok (.iconst (-1), 1) := by decide +kernel
theorem dX10_told_101 : decode cX10_told 101 = .ok (.ireturn, 1) := by decide +kernel
theorem dX10_clear_0 : decode cX10_clear 0 = .ok (.aload_n 0, 1) := by decide +kernel
theorem dX10_clear_1 : decode cX10_clear 1 = .ok (.getfield 56, 3) := by decide +kernel
theorem dX10_clear_4 : decode cX10_clear 4 = .ok (.invokevirtual 236, 3) := by decide +kernel
theorem dX10_clear_7 : decode cX10_clear 7 = .ok (.aload_n 0, 1) := by decide +kernel
theorem dX10_clear_8 : decode cX10_clear 8 = .ok (.getfield 18, 3) := by decide +kernel
theorem dX10_clear_11 : decode cX10_clear 11 = .ok (.invokevirtual 125, 3) := by decide +kernel
theorem dX10_clear_14 : decode cX10_clear 14 = .ok (.aload_n 0, 1) := by decide +kernel
theorem dX10_clear_15 : decode cX10_clear 15 = .ok (.getfield 21, 3) := by decide +kernel
theorem dX10_clear_18 : decode cX10_clear 18 = .ok (.invokevirtual 125, 3) := by decide +kernel
theorem dX10_clear_21 : decode cX10_clear 21 = .ok (.aload_n 0, 1) := by decide +kernel
theorem dX10_clear_22 : decode cX10_clear 22 = .ok (.getfield 43, 3) := by decide +kernel
theorem dX10_clear_25 : decode cX10_clear 25 = .ok (.iconst 0, 1) := by decide +kernel
theorem dX10_clear_26 : decode cX10_clear 26 = .ok (.invokevirtual 239, 3) := by decide +kernel
theorem dX10_clear_29 : decode cX10_clear 29 = .ok (.aload_n 0, 1) := by decide +kernel
theorem dX10_clear_30 : decode cX10_clear 30 = .ok (.getfield 72, 3) := by decide +kernel
theorem dX10_clear_33 : decode cX10_clear 33 = .ok (.invokevirtual 242, 3) := by decide +kernel
theorem dX10_clear_36 : decode cX10_clear 36 = .ok (.return_, 1) := by decide +kernel
theorem dX10_putOut_0 : decode cX10_putOut 0 = .ok (.aload_n 0, 1) := by decide +kernel
theorem dX10_putOut_1 : decode cX10_putOut 1 = .ok (.getfield 14, 3) := by decide +kernel
theorem dX10_putOut_4 : decode cX10_putOut 4 = .ok (.invokevirtual 151, 3) := by decide +kernel
theorem dX10_putOut_7 : decode cX10_putOut 7 = .ok (.aload_n 0, 1) := by decide +kernel
theorem dX10_putOut_8 : decode cX10_putOut 8 = .ok (.getfield 56, 3) := by decide +kernel
theorem dX10_putOut_11 : decode cX10_putOut 11 = .ok (.iload_n 1, 1) := by decide +kernel
theorem dX10_putOut_12 : decode cX10_putOut 12 = .ok (.invokevirtual 243, 3) := by decide +kernel
theorem dX10_putOut_15 : decode cX10_putOut 15 = .ok (.if_icmp .lt 7, 3) := by decide +kernel
theorem dX10_putOut_18 : decode cX10_putOut 18 = .ok (.iconst 1, 1) := by decide +kernel
theorem dX10_putOut_19 : decode cX10_putOut 19 = .ok (.goto 4, 3) := by decide +kernel
theorem dX10_putOut_22 : decode cX10_putOut 22 = .ok (.iconst 0, 1) := by decide +kernel
theorem dX10_putOut_23 : decode cX10_putOut 23 = .ok (.istore_n 2, 1) := by decide +kernel
theorem dX10_putOut_24 : decode cX10_putOut 24 = .ok (.iload_n 2, 1) := by decide +kernel
theorem dX10_putOut_25 : decode cX10_putOut 25 = .ok (.ifCond .eq 15, 3) := by decide +kernel
theorem dX10_putOut_28 : decode cX10_putOut 28 = .ok (.aload_n 0, 1) := by decide +kernel
theorem dX10_putOut_29 : decode cX10_putOut 29 = .ok (.getfield 14, 3) := by decide +kernel
theorem dX10_putOut_32 : decode cX10_putOut 32 = .ok (.invokevirtual 125, 3) := by decide +kernel
theorem dX10_putOut_35 : decode cX10_putOut 35 = .ok (.aload_n 0, 1) := by decide +kernel
theorem dX10_putOut_36 : decode cX10_putOut 36 = .ok (.iload_n 1, 1) := by decide +kernel
theorem dX10_putOut_37 : decode cX10_putOut 37 = .ok (.invokevirtual 246, 3) := by decide +kernel
theorem dX10_putOut_40 : decode cX10_putOut 40 = .ok (.aload_n 0, 1) := by decide +kernel
theorem dX10_putOut_41 : decode cX10_putOut 41 = .ok (.getfield 43, 3) := by decide +kernel
theorem dX10_putOut_44 : decode cX10_putOut 44 = .ok (.iload_n 1, 1) := by decide +kernel
theorem dX10_putOut_45 : decode cX10_putOut 45 = .ok (.iload_n 2, 1) := by decide +kernel
theorem dX10_putOut_46 : decode cX10_putOut 46 = .ok (.ifCond .eq 7, 3) := by decide +kernel
theorem dX10_putOut_49 : decode cX10_putOut 49 = .ok (.iconst 1, 1) := by decide +kernel
theorem dX10_putOut_50 : decode cX10_putOut 50 = .ok (.goto 4, 3) := by decide +kernel
theorem dX10_putOut_53 : decode cX10_putOut 53 = .ok (.iconst 0, 1) := by decide +kernel
theorem dX10_putOut_54 : decode cX10_putOut 54 = .ok (.invokevirtual 249, 3) := by decide +kernel
theorem dX10_putOut_57 : decode cX10_putOut 57 = .ok (.aload_n 0, 1) := by decide +kernel
theorem dX10_putOut_58 : decode cX10_putOut 58 = .ok (.getfield 18, 3) := by decide +kernel
theorem dX10_putOut_61 : decode cX10_putOut 61 = .ok (.iload_n 2, 1) := by decide +kernel
theorem dX10_putOut_62 : decode cX10_putOut 62 = .ok (.ifCond .eq 7, 3) := by decide +kernel
theorem dX10_putOut_65 : decode cX10_putOut 65 = .ok (.iconst 0, 1) := by decide +kernel
theorem dX10_putOut_66 : decode cX10_putOut 66 = .ok (.goto 4, 3) := by decide +kernel
theorem dX10_putOut_69 : decode cX10_putOut 69 = .ok (.iconst 1, 1) := by decide +kernel
theorem dX10_putOut_70 : decode cX10_putOut 70 = .ok (.invokevirtual 206, 3) := by decide +kernel
theorem dX10_putOut_73 : decode cX10_putOut 73 = .ok (.aload_n 0, 1) := by decide +kernel
theorem dX10_putOut_74 : decode cX10_putOut 74 = .ok (.getfield 18, 3) := by decide +kernel
theorem dX10_putOut_77 : decode cX10_putOut 77 = .ok (.aload_n 0, 1) := by decide +kernel
theorem dX10_putOut_78 : decode cX10_putOut 78 = .ok (.getfield 14, 3) := by decide +kernel
theorem dX10_putOut_81 : decode cX10_putOut 81 = .ok (.invokevirtual 151, 3) := by decide +kernel
theorem dX10_putOut_84 : decode cX10_putOut 84 = .ok (.sipush 255, 3) := by decide +kernel
theorem dX10_putOut_87 : decode cX10_putOut 87 = .ok (.iand, 1) := by decide +kernel
theorem dX10_putOut_88 : decode cX10_putOut 88 = .ok (.invokevirtual 206, 3) := by decide +kernel
theorem dX10_putOut_91 : decode cX10_putOut 91 = .ok (.aload_n 0, 1) := by decide +kernel
theorem dX10_putOut_92 : decode cX10_putOut 92 = .ok (.getfield 18, 3) := by decide +kernel
theorem dX10_putOut_95 : decode cX10_putOut 95 = .ok (.aload_n 0, 1) := by decide +kernel
theorem dX10_putOut_96 : decode cX10_putOut 96 = .ok (.getfield 14, 3) := by decide +kernel
theorem dX10_putOut_99 : decode cX10_putOut 99 = .ok (.invokevirtual 151, 3) := by decide +kernel
theorem dX10_putOut_102 : decode cX10_putOut 102 = .ok (.bipush 8, 2) := by decide +kernel
theorem dX10_putOut_104 : decode cX10_putOut 104 = .ok (.ishr, 1) := by decide +kernel
theorem dX10_putOut_105 : decode cX10_putOut 105 = .ok (.invokevirtual 206, 3) := by decide +kernel
theorem dX10_putOut_108 : decode cX10_putOut 108 = .ok (.aload_n 0, 1) := by decide +kernel
theorem dX10_putOut_109 : decode cX10_putOut 109 = .ok (.getfield 18, 3) := by decide +kernel
theorem dX10_putOut_112 : decode cX10_putOut 112 = .ok (.aload_n 0, 1) := by decide +kernel
theorem dX10_putOut_113 : decode cX10_putOut 113 = .ok (.getfield 14, 3) := by decide +kernel
theorem dX10_putOut_116 : decode cX10_putOut 116 = .ok (.iconst 0, 1) := by decide +kernel
theorem dX10_putOut_117 : decode cX10_putOut 117 = .ok (.aload_n 0, 1) := by decide +kernel
theorem dX10_putOut_118 : decode cX10_putOut 118 = .ok (.getfield 14, 3) := by decide +kernel
theorem dX10_putOut_121 : decode cX10_putOut 121 = .ok (.invokevirtual 151, 3) := by decide +kernel
theorem dX10_putOut_124 : decode cX10_putOut 124 = .ok (.invokestatic 250, 3) := by decide +kernel
theorem dX10_putOut_127 : decode cX10_putOut 127 = .ok (.invokevirtual 206, 3) := by decide +kernel
theorem dX10_putOut_130 : decode cX10_putOut 130 = .ok (.aload_n 0, 1) := by decide +kernel
theorem dX10_putOut_131 : decode cX10_putOut 131 = .ok (.getfield 18, 3) := by decide +kernel
theorem dX10_putOut_134 : decode cX10_putOut 134 = .ok (.aload_n 0, 1) := by decide +kernel
theorem dX10_putOut_135 : decode cX10_putOut 135 = .ok (.getfield 14, 3) := by decide +kernel
theorem dX10_putOut_138 : decode cX10_putOut 138 = .ok (.invokevirtual 209, 3) := by decide +kernel
theorem dX10_putOut_141 : decode cX10_putOut 141 = .ok (.return_, 1) := by decide +kernel
theorem dX10_spell_0 : decode cX10_spell 0 = .ok (.aload_n 0, 1) := by decide +kernel
theorem dX10_spell_1 : decode cX10_spell 1 = .ok (.getfield 56, 3) := by decide +kernel
theorem dX10_spell_4 : decode cX10_spell 4 = .ok (.iload_n 1, 1) := by decide +kernel
theorem dX10_spell_5 : decode cX10_spell 5 = .ok (.invokevirtual 138, 3) := by decide +kernel
theorem dX10_spell_8 : decode cX10_spell 8 = .ok (.istore_n 2, 1) := by decide +kernel
theorem dX10_spell_9 : decode cX10_spell 9 = .ok (.iload_n 2, 1) := by decide +kernel
theorem dX10_spell_10 : decode cX10_spell 10 = .ok (.aload_n 0, 1) := by decide +kernel
theorem dX10_spell_11 : decode cX10_spell 11 = .ok (.getfield 56, 3) := by decide +kernel
theorem dX10_spell_14 : decode cX10_spell 14 = .ok (.iload_n 1, 1) := by decide +kernel
theorem dX10_spell_15 : decode cX10_spell 15 = .ok (.invokevirtual 254, 3) := by decide +kernel
theorem dX10_spell_18 : decode cX10_spell 18 = .ok (.if_icmp .ge 75, 3) := by decide +kernel
theorem dX10_spell_21 : decode cX10_spell 21 = .ok (.aload_n 0, 1) := by decide +kernel
theorem dX10_spell_22 : decode cX10_spell 22 = .ok (.getfield 56, 3) := by decide +kernel
theorem dX10_spell_25 : decode cX10_spell 25 = .ok (.iload_n 1, 1) := by decide +kernel
theorem dX10_spell_26 : decode cX10_spell 26 = .ok (.invokevirtual 135, 3) := by decide +kernel
theorem dX10_spell_29 : decode cX10_spell 29 = .ok (.istore_n 3, 1) := by decide +kernel
theorem dX10_spell_30 : decode cX10_spell 30 = .ok (.iload_n 3, 1) := by decide +kernel
theorem dX10_spell_31 : decode cX10_spell 31 = .ok (.aload_n 0, 1) := by decide +kernel
theorem dX10_spell_32 : decode cX10_spell 32 = .ok (.getfield 56, 3) := by decide +kernel
theorem dX10_spell_35 : decode cX10_spell 35 = .ok (.iload_n 1, 1) := by decide +kernel
theorem dX10_spell_36 : decode cX10_spell 36 = .ok (.invokevirtual 257, 3) := by decide +kernel
theorem dX10_spell_39 : decode cX10_spell 39 = .ok (.if_icmp .ge 48, 3) := by decide +kernel
theorem dX10_spell_42 : decode cX10_spell 42 = .ok (.iconst 0, 1) := by decide +kernel
theorem dX10_spell_43 : decode cX10_spell 43 = .ok (.istore 4, 2) := by decide +kernel
theorem dX10_spell_45 : decode cX10_spell 45 = .ok (.iload 4, 2) := by decide +kernel
theorem dX10_spell_47 : decode cX10_spell 47 = .ok (.aload_n 0, 1) := by decide +kernel
theorem dX10_spell_48 : decode cX10_spell 48 = .ok (.getfield 56, 3) := by decide +kernel
theorem dX10_spell_51 : decode cX10_spell 51 = .ok (.getfield 109, 3) := by decide +kernel
theorem dX10_spell_54 : decode cX10_spell 54 = .ok (.if_icmp .ge 27, 3) := by decide +kernel
theorem dX10_spell_57 : decode cX10_spell 57 = .ok (.aload_n 0, 1) := by decide +kernel
theorem dX10_spell_58 : decode cX10_spell 58 = .ok (.getfield 14, 3) := by decide +kernel
theorem dX10_spell_61 : decode cX10_spell 61 = .ok (.aload_n 0, 1) := by decide +kernel
theorem dX10_spell_62 : decode cX10_spell 62 = .ok (.getfield 56, 3) := by decide +kernel
theorem dX10_spell_65 : decode cX10_spell 65 = .ok (.iload_n 3, 1) := by decide +kernel
theorem dX10_spell_66 : decode cX10_spell 66 = .ok (.iload_n 2, 1) := by decide +kernel
theorem dX10_spell_67 : decode cX10_spell 67 = .ok (.iload 4, 2) := by decide +kernel
theorem dX10_spell_69 : decode cX10_spell 69 = .ok (.invokevirtual 112, 3) := by decide +kernel
theorem dX10_spell_72 : decode cX10_spell 72 = .ok (.invokevirtual 206, 3) := by decide +kernel
theorem dX10_spell_75 : decode cX10_spell 75 = .ok (.iinc 4 1, 3) := by decide +kernel
theorem dX10_spell_78 : decode cX10_spell 78 = .ok (.goto (-33), 3) := by decide +kernel
theorem dX10_spell_81 : decode cX10_spell 81 = .ok (.iinc 3 1, 3) := by decide +kernel
theorem dX10_spell_84 : decode cX10_spell 84 = .ok (.goto (-54), 3) := by decide +kernel
theorem dX10_spell_87 : decode cX10_spell 87 = .ok (.iinc 2 1, 3) := by decide +kernel
theorem dX10_spell_90 : decode cX10_spell 90 = .ok (.goto (-81), 3) := by decide +kernel
theorem dX10_spell_93 : decode cX10_spell 93 = .ok (.return_, 1) := by decide +kernel
theorem dX10_isGood_0 : decode cX10_isGood 0 = .ok (.aload_n 0, 1) := by decide +kernel
theorem dX10_isGood_1 : decode cX10_isGood 1 = .ok (.getfield 21, 3) := by decide +kernel
theorem dX10_isGood_4 : decode cX10_isGood 4 = .ok (.iload_n 2, 1) := by decide +kernel
theorem dX10_isGood_5 : decode cX10_isGood 5 = .ok (.invokevirtual 159, 3) := by decide +kernel
theorem dX10_isGood_8 : decode cX10_isGood 8 = .ok (.istore_n 3, 1) := by decide +kernel
theorem dX10_isGood_9 : decode cX10_isGood 9 = .ok (.aload_n 0, 1) := by decide +kernel
theorem dX10_isGood_10 : decode cX10_isGood 10 = .ok (.iload_n 2, 1) := by decide +kernel
theorem dX10_isGood_11 : decode cX10_isGood 11 = .ok (.invokevirtual 225, 3) := by decide +kernel
theorem dX10_isGood_14 : decode cX10_isGood 14 = .ok (.istore 4, 2) := by decide +kernel
theorem dX10_isGood_16 : decode cX10_isGood 16 = .ok (.iload_n 2, 1) := by decide +kernel
theorem dX10_isGood_17 : decode cX10_isGood 17 = .ok (.iconst 4, 1) := by decide +kernel
theorem dX10_isGood_18 : decode cX10_isGood 18 = .ok (.iadd, 1) := by decide +kernel
theorem dX10_isGood_19 : decode cX10_isGood 19 = .ok (.iload 4, 2) := by decide +kernel
theorem dX10_isGood_21 : decode cX10_isGood 21 = .ok (.iadd, 1) := by decide +kernel
theorem dX10_isGood_22 : decode cX10_isGood 22 = .ok (.istore 5, 2) := by decide +kernel
theorem dX10_isGood_24 : decode cX10_isGood 24 = .ok (.iload 5, 2) := by decide +kernel
theorem dX10_isGood_26 : decode cX10_isGood 26 = .ok (.aload_n 0, 1) := by decide +kernel
theorem dX10_isGood_27 : decode cX10_isGood 27 = .ok (.getfield 21, 3) := by decide +kernel
theorem dX10_isGood_30 : decode cX10_isGood 30 = .ok (.invokevirtual 151, 3) := by decide +kernel
theorem dX10_isGood_33 : decode cX10_isGood 33 = .ok (.if_icmp .gt 28, 3) := by decide +kernel
theorem dX10_isGood_36 : decode cX10_isGood 36 = .ok (.aload_n 0, 1) := by decide +kernel
theorem dX10_isGood_37 : decode cX10_isGood 37 = .ok (.getfield 21, 3) := by decide +kernel
theorem dX10_isGood_40 : decode cX10_isGood 40 = .ok (.iload_n 2, 1) := by decide +kernel
theorem dX10_isGood_41 : decode cX10_isGood 41 = .ok (.iconst 3, 1) := by decide +kernel
theorem dX10_isGood_42 : decode cX10_isGood 42 = .ok (.iadd, 1) := by decide +kernel
theorem dX10_isGood_43 : decode cX10_isGood 43 = .ok (.invokevirtual 159, 3) := by decide +kernel
theorem dX10_isGood_46 : decode cX10_isGood 46 = .ok (.aload_n 0, 1) := by decide +kernel
theorem dX10_isGood_47 : decode cX10_isGood 47 = .ok (.getfield 21, 3) := by decide +kernel
theorem dX10_isGood_50 : decode cX10_isGood 50 = .ok (.iload_n 2, 1) := by decide +kernel
theorem dX10_isGood_51 : decode cX10_isGood 51 = .ok (.iconst 4, 1) := by decide +kernel
theorem dX10_isGood_52 : decode cX10_isGood 52 = .ok (.iadd, 1) := by decide +kernel
theorem dX10_isGood_53 : decode cX10_isGood 53 = .ok (.iload 4, 2) := by decide +kernel
theorem dX10_isGood_55 : decode cX10_isGood 55 = .ok (.invokestatic 250, 3) := by decide +kernel
theorem dX10_isGood_58 : decode cX10_isGood 58 = .ok (.if_icmp .eq 5, 3) := by decide +kernel
theorem dX10_isGood_61 : decode cX10_isGood 61 = .ok (.iconst 0, 1) := by decide +kernel
theorem dX10_isGood_62 : decode cX10_isGood 62 = .ok (.ireturn, 1) := by decide +kernel
theorem dX10_isGood_63 : decode cX10_isGood 63 = .ok (.iload_n 3, 1) := by decide +kernel
theorem dX10_isGood_64 : decode cX10_isGood 64 = .ok (.ifCond .ne 34, 3) := by decide +kernel
theorem dX10_isGood_67 : decode cX10_isGood 67 = .ok (.iload 4, 2) := by decide +kernel
theorem dX10_isGood_69 : decode cX10_isGood 69 = .ok (.aload_n 0, 1) := by decide +kernel
theorem dX10_isGood_70 : decode cX10_isGood 70 = .ok (.getfield 56, 3) := by decide +kernel
theorem dX10_isGood_73 : decode cX10_isGood 73 = .ok (.iload_n 1, 1) := by decide +kernel
theorem dX10_isGood_74 : decode cX10_isGood 74 = .ok (.invokevirtual 243, 3) := by decide +kernel
theorem dX10_isGood_77 : decode cX10_isGood 77 = .ok (.if_icmp .ne 19, 3) := by decide +kernel
theorem dX10_isGood_80 : decode cX10_isGood 80 = .ok (.aload_n 0, 1) := by decide +kernel
theorem dX10_isGood_81 : decode cX10_isGood 81 = .ok (.iload_n 2, 1) := by decide +kernel
theorem dX10_isGood_82 : decode cX10_isGood 82 = .ok (.iconst 4, 1) := by decide +kernel
theorem dX10_isGood_83 : decode cX10_isGood 83 = .ok (.iadd, 1) := by decide +kernel
theorem dX10_isGood_84 : decode cX10_isGood 84 = .ok (.iload 5, 2) := by decide +kernel
theorem dX10_isGood_86 : decode cX10_isGood 86 = .ok (.invokevirtual 260, 3) := by decide +kernel
theorem dX10_isGood_89 : decode cX10_isGood 89 = .ok (.ifCond .eq 7, 3) := by decide +kernel
theorem dX10_isGood_92 : decode cX10_isGood 92 = .ok (.iconst 1, 1) := by decide +kernel
theorem dX10_isGood_93 : decode cX10_isGood 93 = .ok (.goto 4, 3) := by decide +kernel
theorem dX10_isGood_96 : decode cX10_isGood 96 = .ok (.iconst 0, 1) := by decide +kernel
theorem dX10_isGood_97 : decode cX10_isGood 97 = .ok (.ireturn, 1) := by decide +kernel
theorem dX10_isGood_98 : decode cX10_isGood 98 = .ok (.iload_n 3, 1) := by decide +kernel
theorem dX10_isGood_99 : decode cX10_isGood 99 = .ok (.iconst 1, 1) := by decide +kernel
theorem dX10_isGood_100 : decode cX10_isGood 100 = .ok (.if_icmp .ne 7, 3) := by decide +kernel
theorem dX10_isGood_103 : decode cX10_isGood 103 = .ok (.iconst 1, 1) := by decide +kernel
theorem dX10_isGood_104 : decode cX10_isGood 104 = .ok (.goto 4, 3) := by decide +kernel
theorem dX10_isGood_107 : decode cX10_isGood 107 = .ok (.iconst 0, 1) := by decide +kernel
theorem dX10_isGood_108 : decode cX10_isGood 108 = .ok (.ireturn, 1) := by decide +kernel
theorem dX10_noneTooGreat_0 : decode cX10_noneTooGreat 0 = .ok (.iload_n 1, 1) := by decide +kernel
theorem dX10_noneTooGreat_1 : decode cX10_noneTooGreat 1 = .ok (.istore_n 3, 1) := by decide +kernel
theorem dX10_noneTooGreat_2 : decode cX10_noneTooGreat 2 = .ok (.iload_n 3, 1) := by decide +kernel
theorem dX10_noneTooGreat_3 : decode cX10_noneTooGreat 3 = .ok (.iload_n 2, 1) := by decide +kernel
theorem dX10_noneTooGreat_4 : decode cX10_noneTooGreat 4 = .ok (.if_icmp .ge 29, 3) := by decide +kernel
theorem dX10_noneTooGreat_7 : decode cX10_noneTooGreat 7 = .ok (.aload_n 0, 1) := by decide +kernel
theorem dX10_noneTooGreat_8 : decode cX10_noneTooGreat 8 = .ok (.getfield 21, 3) := by decide +kernel
theorem dX10_noneTooGreat_11 : decode cX10_noneTooGreat 11 = .ok (.iload_n 3, 1) := by decide +kernel
theorem dX10_noneTooGreat_12 : decode cX10_noneTooGreat 12 = .ok (.invokevirtual 159, 3) := by decide +kernel
theorem dX10_noneTooGreat_15 : decode cX10_noneTooGreat 15 = .ok (.aload_n 0, 1) := by decide +kernel
theorem dX10_noneTooGreat_16 : decode cX10_noneTooGreat 16 = .ok (.getfield 56, 3) := by decide +kernel
theorem dX10_noneTooGreat_19 : decode cX10_noneTooGreat 19 = .ok (.getfield 90, 3) := by decide +kernel
theorem dX10_noneTooGreat_22 : decode cX10_noneTooGreat 22 = .ok (.if_icmp .le 5, 3) := by decide +kernel
theorem dX10_noneTooGreat_25 : decode cX10_noneTooGreat 25 = .ok (.iconst 0, 1) := by decide +kernel
theorem dX10_noneTooGreat_26 : decode cX10_noneTooGreat 26 = .ok (.ireturn, 1) := by decide +kernel
theorem dX10_noneTooGreat_27 : decode cX10_noneTooGreat 27 = .ok (.iinc 3 1, 3) := by decide +kernel
theorem dX10_noneTooGreat_30 : decode cX10_noneTooGreat 30 = .ok (.goto (-28), 3) := by decide +kernel
theorem dX10_noneTooGreat_33 : decode cX10_noneTooGreat 33 = .ok (.iconst 1, 1) := by decide +kernel
theorem dX10_noneTooGreat_34 : decode cX10_noneTooGreat 34 = .ok (.ireturn, 1) := by decide +kernel
theorem dX10_takeAsItIs_0 : decode cX10_takeAsItIs 0 = .ok (.iload_n 2, 1) := by decide +kernel
theorem dX10_takeAsItIs_1 : decode cX10_takeAsItIs 1 = .ok (.istore_n 3, 1) := by decide +kernel
theorem dX10_takeAsItIs_2 : decode cX10_takeAsItIs 2 = .ok (.aload_n 0, 1) := by decide +kernel
theorem dX10_takeAsItIs_3 : decode cX10_takeAsItIs 3 = .ok (.getfield 56, 3) := by decide +kernel
theorem dX10_takeAsItIs_6 : decode cX10_takeAsItIs 6 = .ok (.iload_n 1, 1) := by decide +kernel
theorem dX10_takeAsItIs_7 : decode cX10_takeAsItIs 7 = .ok (.invokevirtual 138, 3) := by decide +kernel
theorem dX10_takeAsItIs_10 : decode cX10_takeAsItIs 10 = .ok (.istore 4, 2) := by decide +kernel
theorem dX10_takeAsItIs_12 : decode cX10_takeAsItIs 12 = .ok (.iload 4, 2) := by decide +kernel
theorem dX10_takeAsItIs_14 : decode cX10_takeAsItIs 14 = .ok (.aload_n 0, 1) := by decide +kernel
theorem dX10_takeAsItIs_15 : decode cX10_takeAsItIs 15 = .ok (.getfield 56, 3) := by decide +kernel
theorem dX10_takeAsItIs_18 : decode cX10_takeAsItIs 18 = .ok (.iload_n 1, 1) := by decide +kernel
theorem dX10_takeAsItIs_19 : decode cX10_takeAsItIs 19 = .ok (.invokevirtual 254, 3) := by decide +kernel
theorem dX10_takeAsItIs_22 : decode cX10_takeAsItIs 22 = .ok (.if_icmp .ge 84, 3) := by decide +kernel
theorem dX10_takeAsItIs_25 : decode cX10_takeAsItIs 25 = .ok (.aload_n 0, 1) := by decide +kernel
theorem dX10_takeAsItIs_26 : decode cX10_takeAsItIs 26 = .ok (.getfield 56, 3) := by decide +kernel
theorem dX10_takeAsItIs_29 : decode cX10_takeAsItIs 29 = .ok (.iload_n 1, 1) := by decide +kernel
theorem dX10_takeAsItIs_30 : decode cX10_takeAsItIs 30 = .ok (.invokevirtual 135, 3) := by decide +kernel
theorem dX10_takeAsItIs_33 : decode cX10_takeAsItIs 33 = .ok (.istore 5, 2) := by decide +kernel
theorem dX10_takeAsItIs_35 : decode cX10_takeAsItIs 35 = .ok (.iload 5, 2) := by decide +kernel
theorem dX10_takeAsItIs_37 : decode cX10_takeAsItIs 37 = .ok (.aload_n 0, 1) := by decide +kernel
theorem dX10_takeAsItIs_38 : decode cX10_takeAsItIs 38 = .ok (.getfield 56, 3) := by decide +kernel
theorem dX10_takeAsItIs_41 : decode cX10_takeAsItIs 41 = .ok (.iload_n 1, 1) := by decide +kernel
theorem dX10_takeAsItIs_42 : decode cX10_takeAsItIs 42 = .ok (.invokevirtual 257, 3) := by decide +kernel
theorem dX10_takeAsItIs_45 : decode cX10_takeAsItIs 45 = .ok (.if_icmp .ge 55, 3) := by decide +kernel
theorem dX10_takeAsItIs_48 : decode cX10_takeAsItIs 48 = .ok (.iconst 0, 1) := by decide +kernel
theorem dX10_takeAsItIs_49 : decode cX10_takeAsItIs 49 = .ok (.istore 6, 2) := by decide +kernel
theorem dX10_takeAsItIs_51 : decode cX10_takeAsItIs 51 = .ok (.iload 6, 2) := by decide +kernel
theorem dX10_takeAsItIs_53 : decode cX10_takeAsItIs 53 = .ok (.aload_n 0, 1) := by decide +kernel
theorem dX10_takeAsItIs_54 : decode cX10_takeAsItIs 54 = .ok (.getfield 56, 3) := by decide +kernel
theorem dX10_takeAsItIs_57 : decode cX10_takeAsItIs 57 = .ok (.getfield 109, 3) := by decide +kernel
theorem dX10_takeAsItIs_60 : decode cX10_takeAsItIs 60 = .ok (.if_icmp .ge 34, 3) := by decide +kernel
theorem dX10_takeAsItIs_63 : decode cX10_takeAsItIs 63 = .ok (.aload_n 0, 1) := by decide +kernel
theorem dX10_takeAsItIs_64 : decode cX10_takeAsItIs 64 = .ok (.getfield 56, 3) := by decide +kernel
theorem dX10_takeAsItIs_67 : decode cX10_takeAsItIs 67 = .ok (.iload 5, 2) := by decide +kernel
theorem dX10_takeAsItIs_69 : decode cX10_takeAsItIs 69 = .ok (.iload 4, 2) := by decide +kernel
theorem dX10_takeAsItIs_71 : decode cX10_takeAsItIs 71 = .ok (.iload 6, 2) := by decide +kernel
theorem dX10_takeAsItIs_73 : decode cX10_takeAsItIs 73 = .ok (.aload_n 0, 1) := by decide +kernel
theorem dX10_takeAsItIs_74 : decode cX10_takeAsItIs 74 = .ok (.getfield 21, 3) := by decide +kernel
theorem dX10_takeAsItIs_77 : decode cX10_takeAsItIs 77 = .ok (.iload_n 3, 1) := by decide +kernel
theorem dX10_takeAsItIs_78 : decode cX10_takeAsItIs 78 = .ok (.invokevirtual 159, 3) := by decide +kernel
theorem dX10_takeAsItIs_81 : decode cX10_takeAsItIs 81 = .ok (.invokevirtual 99, 3) := by decide +kernel
theorem dX10_takeAsItIs_84 : decode cX10_takeAsItIs 84 = .ok (.pop, 1) := by decide +kernel
theorem dX10_takeAsItIs_85 : decode cX10_takeAsItIs 85 = .ok (.iinc 3 1, 3) := by decide +kernel
theorem dX10_takeAsItIs_88 : decode cX10_takeAsItIs 88 = .ok (.iinc 6 1, 3) := by decide +kernel
theorem dX10_takeAsItIs_91 : decode cX10_takeAsItIs 91 = .ok (.goto (-40), 3) := by decide +kernel
theorem dX10_takeAsItIs_94 : decode cX10_takeAsItIs 94 = .ok (.iinc 5 1, 3) := by decide +kernel
theorem dX10_takeAsItIs_97 : decode cX10_takeAsItIs 97 = .ok (.goto (-62), 3) := by decide +kernel
theorem dX10_takeAsItIs_100 : decode cX10_takeAsItIs 100 = .ok (.iinc 4 1, 3) := by decide +kernel
theorem dX10_takeAsItIs_103 : decode cX10_takeAsItIs 103 = .ok (.goto (-91), 3) := by decide +kernel
theorem dX10_takeAsItIs_106 : decode cX10_takeAsItIs 106 = .ok (.return_, 1) := by decide +kernel
theorem dX10_following_0 : decode cX10_following 0 = .ok (.aload_n 0, 1) := by decide +kernel
theorem dX10_following_1 : decode cX10_following 1 = .ok (.getfield 21, 3) := by decide +kernel
theorem dX10_following_4 : decode cX10_following 4 = .ok (.iload_n 1, 1) := by decide +kernel
theorem dX10_following_5 : decode cX10_following 5 = .ok (.iconst 1, 1) := by decide +kernel
theorem dX10_following_6 : decode cX10_following 6 = .ok (.iadd, 1) := by decide +kernel
theorem dX10_following_7 : decode cX10_following 7 = .ok (.invokevirtual 159, 3) := by decide +kernel
theorem dX10_following_10 : decode cX10_following 10 = .ok (.sipush 256, 3) := by decide +kernel
theorem dX10_following_13 : decode cX10_following 13 = .ok (.aload_n 0, 1) := by decide +kernel
theorem dX10_following_14 : decode cX10_following 14 = .ok (.getfield 21, 3) := by decide +kernel
theorem dX10_following_17 : decode cX10_following 17 = .ok (.iload_n 1, 1) := by decide +kernel
theorem dX10_following_18 : decode cX10_following 18 = .ok (.iconst 2, 1) := by decide +kernel
theorem dX10_following_19 : decode cX10_following 19 = .ok (.iadd, 1) := by decide +kernel
theorem dX10_following_20 : decode cX10_following 20 = .ok (.invokevirtual 159, 3) := by decide +kernel
theorem dX10_following_23 : decode cX10_following 23 = .ok (.imul, 1) := by decide +kernel
theorem dX10_following_24 : decode cX10_following 24 = .ok (.iadd, 1) := by decide +kernel
theorem dX10_following_25 : decode cX10_following 25 = .ok (.ireturn, 1) := by decide +kernel
theorem dX10_sum_0 : decode cX10_sum 0 = .ok (.sipush 165, 3) := by decide +kernel
theorem dX10_sum_3 : decode cX10_sum 3 = .ok (.iload_n 2, 1) := by decide +kernel
theorem dX10_sum_4 : decode cX10_sum 4 = .ok (.sipush 255, 3) := by decide +kernel
theorem dX10_sum_7 : decode cX10_sum 7 = .ok (.iand, 1) := by decide +kernel
theorem dX10_sum_8 : decode cX10_sum 8 = .ok (.ixor, 1) := by decide +kernel
theorem dX10_sum_9 : decode cX10_sum 9 = .ok (.iload_n 2, 1) := by decide +kernel
theorem dX10_sum_10 : decode cX10_sum 10 = .ok (.bipush 8, 2) := by decide +kernel
theorem dX10_sum_12 : decode cX10_sum 12 = .ok (.ishr, 1) := by decide +kernel
theorem dX10_sum_13 : decode cX10_sum 13 = .ok (.ixor, 1) := by decide +kernel
theorem dX10_sum_14 : decode cX10_sum 14 = .ok (.istore_n 3, 1) := by decide +kernel
theorem dX10_sum_15 : decode cX10_sum 15 = .ok (.iconst 0, 1) := by decide +kernel
theorem dX10_sum_16 : decode cX10_sum 16 = .ok (.istore 4, 2) := by decide +kernel
theorem dX10_sum_18 : decode cX10_sum 18 = .ok (.iload 4, 2) := by decide +kernel
theorem dX10_sum_20 : decode cX10_sum 20 = .ok (.iload_n 2, 1) := by decide +kernel
theorem dX10_sum_21 : decode cX10_sum 21 = .ok (.if_icmp .ge 20, 3) := by decide +kernel
theorem dX10_sum_24 : decode cX10_sum 24 = .ok (.iload_n 3, 1) := by decide +kernel
theorem dX10_sum_25 : decode cX10_sum 25 = .ok (.aload_n 0, 1) := by decide +kernel
theorem dX10_sum_26 : decode cX10_sum 26 = .ok (.iload_n 1, 1) := by decide +kernel
theorem dX10_sum_27 : decode cX10_sum 27 = .ok (.iload 4, 2) := by decide +kernel
theorem dX10_sum_29 : decode cX10_sum 29 = .ok (.iadd, 1) := by decide +kernel
theorem dX10_sum_30 : decode cX10_sum 30 = .ok (.invokevirtual 159, 3) := by decide +kernel
theorem dX10_sum_33 : decode cX10_sum 33 = .ok (.ixor, 1) := by decide +kernel
theorem dX10_sum_34 : decode cX10_sum 34 = .ok (.istore_n 3, 1) := by decide +kernel
theorem dX10_sum_35 : decode cX10_sum 35 = .ok (.iinc 4 1, 3) := by decide +kernel
theorem dX10_sum_38 : decode cX10_sum 38 = .ok (.goto (-20), 3) := by decide +kernel
theorem dX10_sum_41 : decode cX10_sum 41 = .ok (.iload_n 3, 1) := by decide +kernel
theorem dX10_sum_42 : decode cX10_sum 42 = .ok (.ireturn, 1) := by decide +kernel
theorem dX10_brought_0 : decode cX10_brought 0 = .ok (.iload_n 0, 1) := by decide +kernel
theorem dX10_brought_1 : decode cX10_brought 1 = .ok (.iload_n 1, 1) := by decide +kernel
theorem dX10_brought_2 : decode cX10_brought 2 = .ok (.if_icmp .ge 7, 3) := by decide +kernel
theorem dX10_brought_5 : decode cX10_brought 5 = .ok (.iload_n 1, 1) := by decide +kernel
theorem dX10_brought_6 : decode cX10_brought 6 = .ok (.goto 13, 3) := by decide +kernel
theorem dX10_brought_9 : decode cX10_brought 9 = .ok (.iload_n 0, 1) := by decide +kernel
theorem dX10_brought_10 : decode cX10_brought 10 = .ok (.iload_n 2, 1) := by decide +kernel
theorem dX10_brought_11 : decode cX10_brought 11 = .ok (.if_icmp .le 7, 3) := by decide +kernel
theorem dX10_brought_14 : decode cX10_brought 14 = .ok (.iload_n 2, 1) := by decide +kernel
theorem dX10_brought_15 : decode cX10_brought 15 = .ok (.goto 4, 3) := by decide +kernel
theorem dX10_brought_18 : decode cX10_brought 18 = .ok (.iload_n 0, 1) := by decide +kernel
theorem dX10_brought_19 : decode cX10_brought 19 = .ok (.ireturn, 1) := by decide +kernel
