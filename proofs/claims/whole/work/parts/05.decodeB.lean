theorem dX7_init_0 : decode cX7_init 0 = .ok (.aload_n 0, 1) := by decide +kernel
theorem dX7_init_1 : decode cX7_init 1 = .ok (.invokespecial 1, 3) := by decide +kernel
theorem dX7_init_4 : decode cX7_init 4 = .ok (.aload_n 0, 1) := by decide +kernel
theorem dX7_init_5 : decode cX7_init 5 = .ok (.bipush 8, 2) := by decide +kernel
theorem dX7_init_7 : decode cX7_init 7 = .ok (.newarray .int, 2) := by decide +kernel
theorem dX7_init_9 : decode cX7_init 9 = .ok (.putfield 7, 3) := by decide +kernel
theorem dX7_init_12 : decode cX7_init 12 = .ok (.aload_n 0, 1) := by decide +kernel
theorem dX7_init_13 : decode cX7_init 13 = .ok (.iconst 3, 1) := by decide +kernel
theorem dX7_init_14 : decode cX7_init 14 = .ok (.newarray .int, 2) := by decide +kernel
theorem dX7_init_16 : decode cX7_init 16 = .ok (.putfield 13, 3) := by decide +kernel
theorem dX7_init_19 : decode cX7_init 19 = .ok (.aload_n 0, 1) := by decide +kernel
theorem dX7_init_20 : decode cX7_init 20 = .ok (.bipush 80, 2) := by decide +kernel
theorem dX7_init_22 : decode cX7_init 22 = .ok (.newarray .int, 2) := by decide +kernel
theorem dX7_init_24 : decode cX7_init 24 = .ok (.putfield 16, 3) := by decide +kernel
theorem dX7_init_27 : decode cX7_init 27 = .ok (.aload_n 0, 1) := by decide +kernel
theorem dX7_init_28 : decode cX7_init 28 = .ok (.bipush 80, 2) := by decide +kernel
theorem dX7_init_30 : decode cX7_init 30 = .ok (.newarray .int, 2) := by decide +kernel
theorem dX7_init_32 : decode cX7_init 32 = .ok (.putfield 19, 3) := by decide +kernel
theorem dX7_init_35 : decode cX7_init 35 = .ok (.aload_n 0, 1) := by decide +kernel
theorem dX7_init_36 : decode cX7_init 36 = .ok (.bipush 40, 2) := by decide +kernel
theorem dX7_init_38 : decode cX7_init 38 = .ok (.newarray .int, 2) := by decide +kernel
theorem dX7_init_40 : decode cX7_init 40 = .ok (.putfield 22, 3) := by decide +kernel
theorem dX7_init_43 : decode cX7_init 43 = .ok (.aload_n 0, 1) := by decide +kernel
theorem dX7_init_44 : decode cX7_init 44 = .ok (.bipush 40, 2) := by decide +kernel
theorem dX7_init_46 : decode cX7_init 46 = .ok (.newarray .int, 2) := by decide +kernel
theorem dX7_init_48 : decode cX7_init 48 = .ok (.putfield 25, 3) := by decide +kernel
theorem dX7_init_51 : decode cX7_init 51 = .ok (.aload_n 0, 1) := by decide +kernel
theorem dX7_init_52 : decode cX7_init 52 = .ok (.bipush 40, 2) := by decide +kernel
theorem dX7_init_54 : decode cX7_init 54 = .ok (.newarray .int, 2) := by decide +kernel
theorem dX7_init_56 : decode cX7_init 56 = .ok (.putfield 28, 3) := by decide +kernel
theorem dX7_init_59 : decode cX7_init 59 = .ok (.aload_n 0, 1) := by decide +kernel
theorem dX7_init_60 : decode cX7_init 60 = .ok (.bipush 40, 2) := by decide +kernel
theorem dX7_init_62 : decode cX7_init 62 = .ok (.newarray .int, 2) := by decide +kernel
theorem dX7_init_64 : decode cX7_init 64 = .ok (.putfield 31, 3) := by decide +kernel
theorem dX7_init_67 : decode cX7_init 67 = .ok (.aload_n 0, 1) := by decide +kernel
theorem dX7_init_68 : decode cX7_init 68 = .ok (.bipush 40, 2) := by decide +kernel
theorem dX7_init_70 : decode cX7_init 70 = .ok (.newarray .int, 2) := by decide +kernel
theorem dX7_init_72 : decode cX7_init 72 = .ok (.putfield 34, 3) := by decide +kernel
theorem dX7_init_75 : decode cX7_init 75 = .ok (.aload_n 0, 1) := by decide +kernel
theorem dX7_init_76 : decode cX7_init 76 = .ok (.bipush 40, 2) := by decide +kernel
theorem dX7_init_78 : decode cX7_init 78 = .ok (.newarray .int, 2) := by decide +kernel
theorem dX7_init_80 : decode cX7_init 80 = .ok (.putfield 37, 3) := by decide +kernel
theorem dX7_init_83 : decode cX7_init 83 = .ok (.aload_n 0, 1) := by decide +kernel
theorem dX7_init_84 : decode cX7_init 84 = .ok (.bipush 40, 2) := by decide +kernel
theorem dX7_init_86 : decode cX7_init 86 = .ok (.newarray .int, 2) := by decide +kernel
theorem dX7_init_88 : decode cX7_init 88 = .ok (.putfield 40, 3) := by decide +kernel
theorem dX7_init_91 : decode cX7_init 91 = .ok (.aload_n 0, 1) := by decide +kernel
theorem dX7_init_92 : decode cX7_init 92 = .ok (.bipush 40, 2) := by decide +kernel
theorem dX7_init_94 : decode cX7_init 94 = .ok (.newarray .int, 2) := by decide +kernel
theorem dX7_init_96 : decode cX7_init 96 = .ok (.putfield 43, 3) := by decide +kernel
theorem dX7_init_99 : decode cX7_init 99 = .ok (.aload_n 0, 1) := by decide +kernel
theorem dX7_init_100 : decode cX7_init 100 = .ok (.bipush 40, 2) := by decide +kernel
theorem dX7_init_102 : decode cX7_init 102 = .ok (.newarray .int, 2) := by decide +kernel
theorem dX7_init_104 : decode cX7_init 104 = .ok (.putfield 46, 3) := by decide +kernel
theorem dX7_init_107 : decode cX7_init 107 = .ok (.aload_n 0, 1) := by decide +kernel
theorem dX7_init_108 : decode cX7_init 108 = .ok (.bipush 40, 2) := by decide +kernel
theorem dX7_init_110 : decode cX7_init 110 = .ok (.newarray .char, 2) := by decide +kernel
theorem dX7_init_112 : decode cX7_init 112 = .ok (.putfield 49, 3) := by decide +kernel
theorem dX7_init_115 : decode cX7_init 115 = .ok (.aload_n 0, 1) := by decide +kernel
theorem dX7_init_116 : decode cX7_init 116 = .ok (.bipush 40, 2) := by decide +kernel
theorem dX7_init_118 : decode cX7_init 118 = .ok (.newarray .boolean, 2) := by decide +kernel
theorem dX7_init_120 : decode cX7_init 120 = .ok (.putfield 53, 3) := by decide +kernel
theorem dX7_init_123 : decode cX7_init 123 = .ok (.aload_n 0, 1) := by decide +kernel
theorem dX7_init_124 : decode cX7_init 124 = .ok (.bipush 6, 2) := by decide +kernel
theorem dX7_init_126 : decode cX7_init 126 = .ok (.newarray .boolean, 2) := by decide +kernel
theorem dX7_init_128 : decode cX7_init 128 = .ok (.putfield 57, 3) := by decide +kernel
theorem dX7_init_131 : decode cX7_init 131 = .ok (.aload_n 0, 1) := by decide +kernel
theorem dX7_init_132 : decode cX7_init 132 = .ok (.bipush 6, 2) := by decide +kernel
theorem dX7_init_134 : decode cX7_init 134 = .ok (.newarray .int, 2) := by decide +kernel
theorem dX7_init_136 : decode cX7_init 136 = .ok (.putfield 60, 3) := by decide +kernel
theorem dX7_init_139 : decode cX7_init 139 = .ok (.aload_n 0, 1) := by decide +kernel
theorem dX7_init_140 : decode cX7_init 140 = .ok (.bipush 8, 2) := by decide +kernel
theorem dX7_init_142 : decode cX7_init 142 = .ok (.newarray .int, 2) := by decide +kernel
theorem dX7_init_144 : decode cX7_init 144 = .ok (.putfield 63, 3) := by decide +kernel
theorem dX7_init_147 : decode cX7_init 147 = .ok (.aload_n 0, 1) := by decide +kernel
theorem dX7_init_148 : decode cX7_init 148 = .ok (.bipush 48, 2) := by decide +kernel
theorem dX7_init_150 : decode cX7_init 150 = .ok (.newarray .int, 2) := by decide +kernel
theorem dX7_init_152 : decode cX7_init 152 = .ok (.putfield 66, 3) := by decide +kernel
theorem dX7_init_155 : decode cX7_init 155 = .ok (.aload_n 0, 1) := by decide +kernel
theorem dX7_init_156 : decode cX7_init 156 = .ok (.iconst 0, 1) := by decide +kernel
theorem dX7_init_157 : decode cX7_init 157 = .ok (.putfield 69, 3) := by decide +kernel
theorem dX7_init_160 : decode cX7_init 160 = .ok (.aload_n 0, 1) := by decide +kernel
theorem dX7_init_161 : decode cX7_init 161 = .ok (.iconst 0, 1) := by decide +kernel
theorem dX7_init_162 : decode cX7_init 162 = .ok (.putfield 73, 3) := by decide +kernel
theorem dX7_init_165 : decode cX7_init 165 = .ok (.aload_n 0, 1) := by decide +kernel
theorem dX7_init_166 : decode cX7_init 166 = .ok (.iconst 0, 1) := by decide +kernel
theorem dX7_init_167 : decode cX7_init 167 = .ok (.putfield 76, 3) := by decide +kernel
theorem dX7_init_170 : decode cX7_init 170 = .ok (.aload_n 0, 1) := by decide +kernel
theorem dX7_init_171 : decode cX7_init 171 = .ok (.iconst 0, 1) := by decide +kernel
theorem dX7_init_172 : decode cX7_init 172 = .ok (.putfield 79, 3) := by decide +kernel
theorem dX7_init_175 : decode cX7_init 175 = .ok (.aload_n 0, 1) := by decide +kernel
theorem dX7_init_176 : decode cX7_init 176 = .ok (.iconst 0, 1) := by decide +kernel
theorem dX7_init_177 : decode cX7_init 177 = .ok (.putfield 82, 3) := by decide +kernel
theorem dX7_init_180 : decode cX7_init 180 = .ok (.aload_n 0, 1) := by decide +kernel
theorem dX7_init_181 : decode cX7_init 181 = .ok (.iconst 0, 1) := by decide +kernel
theorem dX7_init_182 : decode cX7_init 182 = .ok (.putfield 85, 3) := by decide +kernel
theorem dX7_init_185 : decode cX7_init 185 = .ok (.aload_n 0, 1) := by decide +kernel
theorem dX7_init_186 : decode cX7_init 186 = .ok (.iconst 0, 1) := by decide +kernel
theorem dX7_init_187 : decode cX7_init 187 = .ok (.putfield 88, 3) := by decide +kernel
theorem dX7_init_190 : decode cX7_init 190 = .ok (.aload_n 0, 1) := by decide +kernel
theorem dX7_init_191 : decode cX7_init 191 = .ok (.iconst 0, 1) := by decide +kernel
theorem dX7_init_192 : decode cX7_init 192 = .ok (.putfield 91, 3) := by decide +kernel
theorem dX7_init_195 : decode cX7_init 195 = .ok (.aload_n 0, 1) := by decide +kernel
theorem dX7_init_196 : decode cX7_init 196 = .ok (.iconst 0, 1) := by decide +kernel
theorem dX7_init_197 : decode cX7_init 197 = .ok (.putfield 94, 3) := by decide +kernel
theorem dX7_init_200 : decode cX7_init 200 = .ok (.aload_n 0, 1) := by decide +kernel
theorem dX7_init_201 : decode cX7_init 201 = .ok (.iconst 0, 1) := by decide +kernel
theorem dX7_init_202 : decode cX7_init 202 = .ok (.putfield 97, 3) := by decide +kernel
theorem dX7_init_205 : decode cX7_init 205 = .ok (.aload_n 0, 1) := by decide +kernel
theorem dX7_init_206 : decode cX7_init 206 = .ok (.lconst 0, 1) := by decide +kernel
theorem dX7_init_207 : decode cX7_init 207 = .ok (.putfield 100, 3) := by decide +kernel
theorem dX7_init_210 : decode cX7_init 210 = .ok (.aload_n 0, 1) := by decide +kernel
theorem dX7_init_211 : decode cX7_init 211 = .ok (.getfield 13, 3) := by decide +kernel
theorem dX7_init_214 : decode cX7_init 214 = .ok (.iconst 0, 1) := by decide +kernel
theorem dX7_init_215 : decode cX7_init 215 = .ok (.sipush 240, 3) := by decide +kernel
theorem dX7_init_218 : decode cX7_init 218 = .ok (.iastore, 1) := by decide +kernel
theorem dX7_init_219 : decode cX7_init 219 = .ok (.aload_n 0, 1) := by decide +kernel
theorem dX7_init_220 : decode cX7_init 220 = .ok (.getfield 13, 3) := by decide +kernel
theorem dX7_init_223 : decode cX7_init 223 = .ok (.iconst 1, 1) := by decide +kernel
theorem dX7_init_224 : decode cX7_init 224 = .ok (.bipush 120, 2) := by decide +kernel
theorem dX7_init_226 : decode cX7_init 226 = .ok (.iastore, 1) := by decide +kernel
theorem dX7_init_227 : decode cX7_init 227 = .ok (.aload_n 0, 1) := by decide +kernel
theorem dX7_init_228 : decode cX7_init 228 = .ok (.getfield 13, 3) := by decide +kernel
theorem dX7_init_231 : decode cX7_init 231 = .ok (.iconst 2, 1) := by decide +kernel
theorem dX7_init_232 : decode cX7_init 232 = .ok (.bipush 30, 2) := by decide +kernel
theorem dX7_init_234 : decode cX7_init 234 = .ok (.iastore, 1) := by decide +kernel
theorem dX7_init_235 : decode cX7_init 235 = .ok (.return_, 1) := by decide +kernel
theorem dX7_thrown_0 : decode cX7_thrown 0 = .ok (.aload_n 0, 1) := by decide +kernel
theorem dX7_thrown_1 : decode cX7_thrown 1 = .ok (.getfield 69, 3) := by decide +kernel
theorem dX7_thrown_4 : decode cX7_thrown 4 = .ok (.ireturn, 1) := by decide +kernel
theorem dX7_in_0 : decode cX7_in 0 = .ok (.iload_n 0, 1) := by decide +kernel
theorem dX7_in_1 : decode cX7_in 1 = .ok (.iload_n 1, 1) := by decide +kernel
theorem dX7_in_2 : decode cX7_in 2 = .ok (.if_icmp .lt 12, 3) := by decide +kernel
theorem dX7_in_5 : decode cX7_in 5 = .ok (.iload_n 0, 1) := by decide +kernel
theorem dX7_in_6 : decode cX7_in 6 = .ok (.iload_n 2, 1) := by decide +kernel
theorem dX7_in_7 : decode cX7_in 7 = .ok (.if_icmp .gt 7, 3) := by decide +kernel
theorem dX7_in_10 : decode cX7_in 10 = .ok (.iconst 1, 1) := by decide +kernel
theorem dX7_in_11 : decode cX7_in 11 = .ok (.goto 4, 3) := by decide +kernel
theorem dX7_in_14 : decode cX7_in 14 = .ok (.iconst 0, 1) := by decide +kernel
theorem dX7_in_15 : decode cX7_in 15 = .ok (.ireturn, 1) := by decide +kernel
theorem dX7_plain_0 : decode cX7_plain 0 = .ok (.aload_n 0, 1) := by decide +kernel
theorem dX7_plain_1 : decode cX7_plain 1 = .ok (.iconst 0, 1) := by decide +kernel
theorem dX7_plain_2 : decode cX7_plain 2 = .ok (.putfield 69, 3) := by decide +kernel
theorem dX7_plain_5 : decode cX7_plain 5 = .ok (.iload_n 1, 1) := by decide +kernel
theorem dX7_plain_6 : decode cX7_plain 6 = .ok (.ireturn, 1) := by decide +kernel
theorem dX7_checked_0 : decode cX7_checked 0 = .ok (.aload_n 0, 1) := by decide +kernel
theorem dX7_checked_1 : decode cX7_checked 1 = .ok (.iload_n 1, 1) := by decide +kernel
theorem dX7_checked_2 : decode cX7_checked 2 = .ok (.ifCond .eq 7, 3) := by decide +kernel
theorem dX7_checked_5 : decode cX7_checked 5 = .ok (.iconst 0, 1) := by decide +kernel
theorem dX7_checked_6 : decode cX7_checked 6 = .ok (.goto 4, 3) := by decide +kernel
theorem dX7_checked_9 : decode cX7_checked 9 = .ok (.iconst 1, 1) := by decide +kernel
theorem dX7_checked_10 : decode cX7_checked 10 = .ok (.putfield 69, 3) := by decide +kernel
theorem dX7_checked_13 : decode cX7_checked 13 = .ok (.aload_n 0, 1) := by decide +kernel
theorem dX7_checked_14 : decode cX7_checked 14 = .ok (.getfield 69, 3) := by decide +kernel
theorem dX7_checked_17 : decode cX7_checked 17 = .ok (.ireturn, 1) := by decide +kernel
theorem dX7_bits_0 : decode cX7_bits 0 = .ok (.iconst 0, 1) := by decide +kernel
theorem dX7_bits_1 : decode cX7_bits 1 = .ok (.istore_n 1, 1) := by decide +kernel
theorem dX7_bits_2 : decode cX7_bits 2 = .ok (.iconst 0, 1) := by decide +kernel
theorem dX7_bits_3 : decode cX7_bits 3 = .ok (.istore_n 2, 1) := by decide +kernel
theorem dX7_bits_4 : decode cX7_bits 4 = .ok (.iload_n 2, 1) := by decide +kernel
theorem dX7_bits_5 : decode cX7_bits 5 = .ok (.bipush 10, 2) := by decide +kernel
theorem dX7_bits_7 : decode cX7_bits 7 = .ok (.if_icmp .ge 17, 3) := by decide +kernel
theorem dX7_bits_10 : decode cX7_bits 10 = .ok (.iload_n 1, 1) := by decide +kernel
theorem dX7_bits_11 : decode cX7_bits 11 = .ok (.iload_n 0, 1) := by decide +kernel
theorem dX7_bits_12 : decode cX7_bits 12 = .ok (.iload_n 2, 1) := by decide +kernel
theorem dX7_bits_13 : decode cX7_bits 13 = .ok (.ishr, 1) := by decide +kernel
theorem dX7_bits_14 : decode cX7_bits 14 = .ok (.iconst 1, 1) := by decide +kernel
theorem dX7_bits_15 : decode cX7_bits 15 = .ok (.iand, 1) := by decide +kernel
theorem dX7_bits_16 : decode cX7_bits 16 = .ok (.iadd, 1) := by decide +kernel
theorem dX7_bits_17 : decode cX7_bits 17 = .ok (.istore_n 1, 1) := by decide +kernel
theorem dX7_bits_18 : decode cX7_bits 18 = .ok (.iinc 2 1, 3) := by decide +kernel
theorem dX7_bits_21 : decode cX7_bits 21 = .ok (.goto (-17), 3) := by decide +kernel
theorem dX7_bits_24 : decode cX7_bits 24 = .ok (.iload_n 1, 1) := by decide +kernel
theorem dX7_bits_25 : decode cX7_bits 25 = .ok (.ireturn, 1) := by decide +kernel
theorem dX7_isTicket_0 : decode cX7_isTicket 0 = .ok (.iload_n 1, 1) := by decide +kernel
theorem dX7_isTicket_1 : decode cX7_isTicket 1 = .ok (.iconst 0, 1) := by decide +kernel
theorem dX7_isTicket_2 : decode cX7_isTicket 2 = .ok (.aload_n 0, 1) := by decide +kernel
theorem dX7_isTicket_3 : decode cX7_isTicket 3 = .ok (.getfield 79, 3) := by decide +kernel
theorem dX7_isTicket_6 : decode cX7_isTicket 6 = .ok (.iconst 1, 1) := by decide +kernel
theorem dX7_isTicket_7 : decode cX7_isTicket 7 = .ok (.isub, 1) := by decide +kernel
theorem dX7_isTicket_8 : decode cX7_isTicket 8 = .ok (.invokestatic 104, 3) := by decide +kernel
theorem dX7_isTicket_11 : decode cX7_isTicket 11 = .ok (.ireturn, 1) := by decide +kernel
theorem dX7_isAgent_0 : decode cX7_isAgent 0 = .ok (.iload_n 1, 1) := by decide +kernel
theorem dX7_isAgent_1 : decode cX7_isAgent 1 = .ok (.iconst 0, 1) := by decide +kernel
theorem dX7_isAgent_2 : decode cX7_isAgent 2 = .ok (.aload_n 0, 1) := by decide +kernel
theorem dX7_isAgent_3 : decode cX7_isAgent 3 = .ok (.getfield 82, 3) := by decide +kernel
theorem dX7_isAgent_6 : decode cX7_isAgent 6 = .ok (.iconst 1, 1) := by decide +kernel
theorem dX7_isAgent_7 : decode cX7_isAgent 7 = .ok (.isub, 1) := by decide +kernel
theorem dX7_isAgent_8 : decode cX7_isAgent 8 = .ok (.invokestatic 104, 3) := by decide +kernel
theorem dX7_isAgent_11 : decode cX7_isAgent 11 = .ok (.ireturn, 1) := by decide +kernel
theorem dX7_isLive_0 : decode cX7_isLive 0 = .ok (.aload_n 0, 1) := by decide +kernel
theorem dX7_isLive_1 : decode cX7_isLive 1 = .ok (.getfield 49, 3) := by decide +kernel
theorem dX7_isLive_4 : decode cX7_isLive 4 = .ok (.iload_n 1, 1) := by decide +kernel
theorem dX7_isLive_5 : decode cX7_isLive 5 = .ok (.caload, 1) := by decide +kernel
theorem dX7_isLive_6 : decode cX7_isLive 6 = .ok (.bipush 111, 2) := by decide +kernel
theorem dX7_isLive_8 : decode cX7_isLive 8 = .ok (.if_icmp .eq 14, 3) := by decide +kernel
theorem dX7_isLive_11 : decode cX7_isLive 11 = .ok (.aload_n 0, 1) := by decide +kernel
theorem dX7_isLive_12 : decode cX7_isLive 12 = .ok (.getfield 49, 3) := by decide +kernel
theorem dX7_isLive_15 : decode cX7_isLive 15 = .ok (.iload_n 1, 1) := by decide +kernel
theorem dX7_isLive_16 : decode cX7_isLive 16 = .ok (.caload, 1) := by decide +kernel
theorem dX7_isLive_17 : decode cX7_isLive 17 = .ok (.bipush 104, 2) := by decide +kernel
theorem dX7_isLive_19 : decode cX7_isLive 19 = .ok (.if_icmp .ne 7, 3) := by decide +kernel
theorem dX7_isLive_22 : decode cX7_isLive 22 = .ok (.iconst 1, 1) := by decide +kernel
theorem dX7_isLive_23 : decode cX7_isLive 23 = .ok (.goto 4, 3) := by decide +kernel
theorem dX7_isLive_26 : decode cX7_isLive 26 = .ok (.iconst 0, 1) := by decide +kernel
theorem dX7_isLive_27 : decode cX7_isLive 27 = .ok (.ireturn, 1) := by decide +kernel
theorem dX7_leftFor_0 : decode cX7_leftFor 0 = .ok (.aload_n 0, 1) := by decide +kernel
theorem dX7_leftFor_1 : decode cX7_leftFor 1 = .ok (.getfield 13, 3) := by decide +kernel
theorem dX7_leftFor_4 : decode cX7_leftFor 4 = .ok (.aload_n 0, 1) := by decide +kernel
theorem dX7_leftFor_5 : decode cX7_leftFor 5 = .ok (.getfield 7, 3) := by decide +kernel
theorem dX7_leftFor_8 : decode cX7_leftFor 8 = .ok (.aload_n 0, 1) := by decide +kernel
theorem dX7_leftFor_9 : decode cX7_leftFor 9 = .ok (.getfield 22, 3) := by decide +kernel
theorem dX7_leftFor_12 : decode cX7_leftFor 12 = .ok (.iload_n 1, 1) := by decide +kernel
theorem dX7_leftFor_13 : decode cX7_leftFor 13 = .ok (.iaload, 1) := by decide +kernel
theorem dX7_leftFor_14 : decode cX7_leftFor 14 = .ok (.iaload, 1) := by decide +kernel
theorem dX7_leftFor_15 : decode cX7_leftFor 15 = .ok (.iaload, 1) := by decide +kernel
theorem dX7_leftFor_16 : decode cX7_leftFor 16 = .ok (.aload_n 0, 1) := by decide +kernel
theorem dX7_leftFor_17 : decode cX7_leftFor 17 = .ok (.getfield 31, 3) := by decide +kernel
theorem dX7_leftFor_20 : decode cX7_leftFor 20 = .ok (.iload_n 1, 1) := by decide +kernel
theorem dX7_leftFor_21 : decode cX7_leftFor 21 = .ok (.iaload, 1) := by decide +kernel
theorem dX7_leftFor_22 : decode cX7_leftFor 22 = .ok (.isub, 1) := by decide +kernel
theorem dX7_leftFor_23 : decode cX7_leftFor 23 = .ok (.ireturn, 1) := by decide +kernel
theorem dX7_minute_0 : decode cX7_minute 0 = .ok (.iconst 0, 1) := by decide +kernel
theorem dX7_minute_1 : decode cX7_minute 1 = .ok (.istore_n 1, 1) := by decide +kernel
theorem dX7_minute_2 : decode cX7_minute 2 = .ok (.aload_n 0, 1) := by decide +kernel
theorem dX7_minute_3 : decode cX7_minute 3 = .ok (.dup, 1) := by decide +kernel
theorem dX7_minute_4 : decode cX7_minute 4 = .ok (.getfield 73, 3) := by decide +kernel
theorem dX7_minute_7 : decode cX7_minute 7 = .ok (.iconst 1, 1) := by decide +kernel
theorem dX7_minute_8 : decode cX7_minute 8 = .ok (.iadd, 1) := by decide +kernel
theorem dX7_minute_9 : decode cX7_minute 9 = .ok (.putfield 73, 3) := by decide +kernel
theorem dX7_minute_12 : decode cX7_minute 12 = .ok (.iconst 0, 1) := by decide +kernel
theorem dX7_minute_13 : decode cX7_minute 13 = .ok (.istore_n 2, 1) := by decide +kernel
theorem dX7_minute_14 : decode cX7_minute 14 = .ok (.iload_n 2, 1) := by decide +kernel
theorem dX7_minute_15 : decode cX7_minute 15 = .ok (.aload_n 0, 1) := by decide +kernel
theorem dX7_minute_16 : decode cX7_minute 16 = .ok (.getfield 79, 3) := by decide +kernel
theorem dX7_minute_19 : decode cX7_minute 19 = .ok (.if_icmp .ge 73, 3) := by decide +kernel
theorem dX7_minute_22 : decode cX7_minute 22 = .ok (.aload_n 0, 1) := by decide +kernel
theorem dX7_minute_23 : decode cX7_minute 23 = .ok (.getfield 49, 3) := by decide +kernel
theorem dX7_minute_26 : decode cX7_minute 26 = .ok (.iload_n 2, 1) := by decide +kernel
theorem dX7_minute_27 : decode cX7_minute 27 = .ok (.caload, 1) := by decide +kernel
theorem dX7_minute_28 : decode cX7_minute 28 = .ok (.bipush 111, 2) := by decide +kernel
theorem dX7_minute_30 : decode cX7_minute 30 = .ok (.if_icmp .eq 6, 3) := by decide +kernel
theorem dX7_minute_33 : decode cX7_minute 33 = .ok (.goto 53, 3) := by decide +kernel
theorem dX7_minute_36 : decode cX7_minute 36 = .ok (.aload_n 0, 1) := by decide +kernel
theorem dX7_minute_37 : decode cX7_minute 37 = .ok (.getfield 31, 3) := by decide +kernel
theorem dX7_minute_40 : decode cX7_minute 40 = .ok (.iload_n 2, 1) := by decide +kernel
theorem dX7_minute_41 : decode cX7_minute 41 = .ok (.dup2, 1) := by decide +kernel
theorem dX7_minute_42 : decode cX7_minute 42 = .ok (.iaload, 1) := by decide +kernel
theorem dX7_minute_43 : decode cX7_minute 43 = .ok (.iconst 1, 1) := by decide +kernel
theorem dX7_minute_44 : decode cX7_minute 44 = .ok (.iadd, 1) := by decide +kernel
theorem dX7_minute_45 : decode cX7_minute 45 = .ok (.iastore, 1) := by decide +kernel
theorem dX7_minute_46 : decode cX7_minute 46 = .ok (.aload_n 0, 1) := by decide +kernel
theorem dX7_minute_47 : decode cX7_minute 47 = .ok (.dup, 1) := by decide +kernel
theorem dX7_minute_48 : decode cX7_minute 48 = .ok (.getfield 100, 3) := by decide +kernel
theorem dX7_minute_51 : decode cX7_minute 51 = .ok (.lconst 1, 1) := by decide +kernel
theorem dX7_minute_52 : decode cX7_minute 52 = .ok (.ladd, 1) := by decide +kernel
theorem dX7_minute_53 : decode cX7_minute 53 = .ok (.putfield 100, 3) := by decide +kernel
theorem dX7_minute_56 : decode cX7_minute 56 = .ok (.aload_n 0, 1) := by decide +kernel
theorem dX7_minute_57 : decode cX7_minute 57 = .ok (.iload_n 2, 1) := by decide +kernel
theorem dX7_minute_58 : decode cX7_minute 58 = .ok (.invokevirtual 108, 3) := by decide +kernel
theorem dX7_minute_61 : decode cX7_minute 61 = .ok (.ifCond .ge 25, 3) := by decide +kernel
theorem dX7_minute_64 : decode cX7_minute 64 = .ok (.aload_n 0, 1) := by decide +kernel
theorem dX7_minute_65 : decode cX7_minute 65 = .ok (.getfield 53, 3) := by decide +kernel
theorem dX7_minute_68 : decode cX7_minute 68 = .ok (.iload_n 2, 1) := by decide +kernel
theorem dX7_minute_69 : decode cX7_minute 69 = .ok (.baload, 1) := by decide +kernel
theorem dX7_minute_70 : decode cX7_minute 70 = .ok (.ifCond .eq 6, 3) := by decide +kernel
theorem dX7_minute_73 : decode cX7_minute 73 = .ok (.goto 13, 3) := by decide +kernel
theorem dX7_minute_76 : decode cX7_minute 76 = .ok (.aload_n 0, 1) := by decide +kernel
theorem dX7_minute_77 : decode cX7_minute 77 = .ok (.getfield 53, 3) := by decide +kernel
theorem dX7_minute_80 : decode cX7_minute 80 = .ok (.iload_n 2, 1) := by decide +kernel
theorem dX7_minute_81 : decode cX7_minute 81 = .ok (.iconst 1, 1) := by decide +kernel
theorem dX7_minute_82 : decode cX7_minute 82 = .ok (.bastore, 1) := by decide +kernel
theorem dX7_minute_83 : decode cX7_minute 83 = .ok (.iinc 1 1, 3) := by decide +kernel
theorem dX7_minute_86 : decode cX7_minute 86 = .ok (.iinc 2 1, 3) := by decide +kernel
theorem dX7_minute_89 : decode cX7_minute 89 = .ok (.goto (-75), 3) := by decide +kernel
theorem dX7_minute_92 : decode cX7_minute 92 = .ok (.aload_n 0, 1) := by decide +kernel
theorem dX7_minute_93 : decode cX7_minute 93 = .ok (.dup, 1) := by decide +kernel
theorem dX7_minute_94 : decode cX7_minute 94 = .ok (.getfield 88, 3) := by decide +kernel
theorem dX7_minute_97 : decode cX7_minute 97 = .ok (.iload_n 1, 1) := by decide +kernel
theorem dX7_minute_98 : decode cX7_minute 98 = .ok (.iadd, 1) := by decide +kernel
theorem dX7_minute_99 : decode cX7_minute 99 = .ok (.putfield 88, 3) := by decide +kernel
theorem dX7_minute_102 : decode cX7_minute 102 = .ok (.iload_n 1, 1) := by decide +kernel
theorem dX7_minute_103 : decode cX7_minute 103 = .ok (.ireturn, 1) := by decide +kernel
theorem dX7_pass_0 : decode cX7_pass 0 = .ok (.aload_n 0, 1) := by decide +kernel
theorem dX7_pass_1 : decode cX7_pass 1 = .ok (.iload_n 1, 1) := by decide +kernel
theorem dX7_pass_2 : decode cX7_pass 2 = .ok (.iconst 1, 1) := by decide +kernel
theorem dX7_pass_3 : decode cX7_pass 3 = .ok (.sipush 600, 3) := by decide +kernel
theorem dX7_pass_6 : decode cX7_pass 6 = .ok (.invokestatic 104, 3) := by decide +kernel
theorem dX7_pass_9 : decode cX7_pass 9 = .ok (.invokevirtual 112, 3) := by decide +kernel
theorem dX7_pass_12 : decode cX7_pass 12 = .ok (.ifCond .le 5, 3) := by decide +kernel
theorem dX7_pass_15 : decode cX7_pass 15 = .ok (.iconst 0, 1) := by decide +kernel
theorem dX7_pass_16 : decode cX7_pass 16 = .ok (.ireturn, 1) := by decide +kernel
theorem dX7_pass_17 : decode cX7_pass 17 = .ok (.iconst 0, 1) := by decide +kernel
theorem dX7_pass_18 : decode cX7_pass 18 = .ok (.istore_n 2, 1) := by decide +kernel
theorem dX7_pass_19 : decode cX7_pass 19 = .ok (.iconst 0, 1) := by decide +kernel
theorem dX7_pass_20 : decode cX7_pass 20 = .ok (.istore_n 3, 1) := by decide +kernel
theorem dX7_pass_21 : decode cX7_pass 21 = .ok (.iload_n 3, 1) := by decide +kernel
theorem dX7_pass_22 : decode cX7_pass 22 = .ok (.iload_n 1, 1) := by decide +kernel
theorem dX7_pass_23 : decode cX7_pass 23 = .ok (.if_icmp .ge 16, 3) := by decide +kernel
theorem dX7_pass_26 : decode cX7_pass 26 = .ok (.iload_n 2, 1) := by decide +kernel
theorem dX7_pass_27 : decode cX7_pass 27 = .ok (.aload_n 0, 1) := by decide +kernel
theorem dX7_pass_28 : decode cX7_pass 28 = .ok (.invokevirtual 116, 3) := by decide +kernel
theorem dX7_pass_31 : decode cX7_pass 31 = .ok (.iadd, 1) := by decide +kernel
theorem dX7_pass_32 : decode cX7_pass 32 = .ok (.istore_n 2, 1) := by decide +kernel
theorem dX7_pass_33 : decode cX7_pass 33 = .ok (.iinc 3 1, 3) := by decide +kernel
theorem dX7_pass_36 : decode cX7_pass 36 = .ok (.goto (-15), 3) := by decide +kernel
theorem dX7_pass_39 : decode cX7_pass 39 = .ok (.iload_n 2, 1) := by decide +kernel
theorem dX7_pass_40 : decode cX7_pass 40 = .ok (.ireturn, 1) := by decide +kernel
theorem dX7_time_0 : decode cX7_time 0 = .ok (.aload_n 0, 1) := by decide +kernel
theorem dX7_time_1 : decode cX7_time 1 = .ok (.aload_n 0, 1) := by decide +kernel
theorem dX7_time_2 : decode cX7_time 2 = .ok (.getfield 73, 3) := by decide +kernel
theorem dX7_time_5 : decode cX7_time 5 = .ok (.invokevirtual 120, 3) := by decide +kernel
theorem dX7_time_8 : decode cX7_time 8 = .ok (.ireturn, 1) := by decide +kernel
theorem dX7_setClass_0 : decode cX7_setClass 0 = .ok (.aload_n 0, 1) := by decide +kernel
theorem dX7_setClass_1 : decode cX7_setClass 1 = .ok (.iload_n 1, 1) := by decide +kernel
theorem dX7_setClass_2 : decode cX7_setClass 2 = .ok (.iconst 0, 1) := by decide +kernel
theorem dX7_setClass_3 : decode cX7_setClass 3 = .ok (.bipush 7, 2) := by decide +kernel
theorem dX7_setClass_5 : decode cX7_setClass 5 = .ok (.invokestatic 104, 3) := by decide +kernel
theorem dX7_setClass_8 : decode cX7_setClass 8 = .ok (.ifCond .eq 16, 3) := by decide +kernel
theorem dX7_setClass_11 : decode cX7_setClass 11 = .ok (.iload_n 2, 1) := by decide +kernel
theorem dX7_setClass_12 : decode cX7_setClass 12 = .ok (.iconst 0, 1) := by decide +kernel
theorem dX7_setClass_13 : decode cX7_setClass 13 = .ok (.iconst 2, 1) := by decide +kernel
theorem dX7_setClass_14 : decode cX7_setClass 14 = .ok (.invokestatic 104, 3) := by decide +kernel
theorem dX7_setClass_17 : decode cX7_setClass 17 = .ok (.ifCond .eq 7, 3) := by decide +kernel
theorem dX7_setClass_20 : decode cX7_setClass 20 = .ok (.iconst 1, 1) := by decide +kernel
theorem dX7_setClass_21 : decode cX7_setClass 21 = .ok (.goto 4, 3) := by decide +kernel
theorem dX7_setClass_24 : decode cX7_setClass 24 = .ok (.iconst 0, 1) := by decide +kernel
theorem dX7_setClass_25 : decode cX7_setClass 25 = .ok (.invokevirtual 112, 3) := by decide +kernel
theorem dX7_setClass_28 : decode cX7_setClass 28 = .ok (.ifCond .le 5, 3) := by decide +kernel
theorem dX7_setClass_31 : decode cX7_setClass 31 = .ok (.iconst 0, 1) := by decide +kernel
theorem dX7_setClass_32 : decode cX7_setClass 32 = .ok (.ireturn, 1) := by decide +kernel
theorem dX7_setClass_33 : decode cX7_setClass 33 = .ok (.aload_n 0, 1) := by decide +kernel
theorem dX7_setClass_34 : decode cX7_setClass 34 = .ok (.getfield 7, 3) := by decide +kernel
theorem dX7_setClass_37 : decode cX7_setClass 37 = .ok (.iload_n 1, 1) := by decide +kernel
theorem dX7_setClass_38 : decode cX7_setClass 38 = .ok (.iaload, 1) := by decide +kernel
theorem dX7_setClass_39 : decode cX7_setClass 39 = .ok (.istore_n 3, 1) := by decide +kernel
theorem dX7_setClass_40 : decode cX7_setClass 40 = .ok (.aload_n 0, 1) := by decide +kernel
theorem dX7_setClass_41 : decode cX7_setClass 41 = .ok (.getfield 7, 3) := by decide +kernel
theorem dX7_setClass_44 : decode cX7_setClass 44 = .ok (.iload_n 1, 1) := by decide +kernel
theorem dX7_setClass_45 : decode cX7_setClass 45 = .ok (.iload_n 2, 1) := by decide +kernel
theorem dX7_setClass_46 : decode cX7_setClass 46 = .ok (.iastore, 1) := by decide +kernel
theorem dX7_setClass_47 : decode cX7_setClass 47 = .ok (.iload_n 3, 1) := by decide +kernel
theorem dX7_setClass_48 : decode cX7_setClass 48 = .ok (.ireturn, 1) := by decide +kernel
theorem dX7_setPromise_0 : decode cX7_setPromise 0 = .ok (.aload_n 0, 1) := by decide +kernel
theorem dX7_setPromise_1 : decode cX7_setPromise 1 = .ok (.iload_n 1, 1) := by decide +kernel
theorem dX7_setPromise_2 : decode cX7_setPromise 2 = .ok (.iconst 0, 1) := by decide +kernel
theorem dX7_setPromise_3 : decode cX7_setPromise 3 = .ok (.iconst 2, 1) := by decide +kernel
theorem dX7_setPromise_4 : decode cX7_setPromise 4 = .ok (.invokestatic 104, 3) := by decide +kernel
theorem dX7_setPromise_7 : decode cX7_setPromise 7 = .ok (.ifCond .eq 18, 3) := by decide +kernel
theorem dX7_setPromise_10 : decode cX7_setPromise 10 = .ok (.iload_n 2, 1) := by decide +kernel
theorem dX7_setPromise_11 : decode cX7_setPromise 11 = .ok (.iconst 1, 1) := by decide +kernel
theorem dX7_setPromise_12 : decode cX7_setPromise 12 = .ok (.sipush 9999, 3) := by decide +kernel
theorem dX7_setPromise_15 : decode cX7_setPromise 15 = .ok (.invokestatic 104, 3) := by decide +kernel
theorem dX7_setPromise_18 : decode cX7_setPromise 18 = .ok (.ifCond .eq 7, 3) := by decide +kernel
theorem dX7_setPromise_21 : decode cX7_setPromise 21 = .ok (.iconst 1, 1) := by decide +kernel
theorem dX7_setPromise_22 : decode cX7_setPromise 22 = .ok (.goto 4, 3) := by decide +kernel
theorem dX7_setPromise_25 : decode cX7_setPromise 25 = .ok (.iconst 0, 1) := by decide +kernel
theorem dX7_setPromise_26 : decode cX7_setPromise 26 = .ok (.invokevirtual 112, 3) := by decide +kernel
theorem dX7_setPromise_29 : decode cX7_setPromise 29 = .ok (.ifCond .le 5, 3) := by decide +kernel
theorem dX7_setPromise_32 : decode cX7_setPromise 32 = .ok (.iconst 0, 1) := by decide +kernel
theorem dX7_setPromise_33 : decode cX7_setPromise 33 = .ok (.ireturn, 1) := by decide +kernel
theorem dX7_setPromise_34 : decode cX7_setPromise 34 = .ok (.aload_n 0, 1) := by decide +kernel
theorem dX7_setPromise_35 : decode cX7_setPromise 35 = .ok (.getfield 13, 3) := by decide +kernel
theorem dX7_setPromise_38 : decode cX7_setPromise 38 = .ok (.iload_n 1, 1) := by decide +kernel
theorem dX7_setPromise_39 : decode cX7_setPromise 39 = .ok (.iaload, 1) := by decide +kernel
theorem dX7_setPromise_40 : decode cX7_setPromise 40 = .ok (.istore_n 3, 1) := by decide +kernel
theorem dX7_setPromise_41 : decode cX7_setPromise 41 = .ok (.aload_n 0, 1) := by decide +kernel
theorem dX7_setPromise_42 : decode cX7_setPromise 42 = .ok (.getfield 13, 3) := by decide +kernel
theorem dX7_setPromise_45 : decode cX7_setPromise 45 = .ok (.iload_n 1, 1) := by decide +kernel
theorem dX7_setPromise_46 : decode cX7_setPromise 46 = .ok (.iload_n 2, 1) := by decide +kernel
theorem dX7_setPromise_47 : decode cX7_setPromise 47 = .ok (.iastore, 1) := by decide +kernel
theorem dX7_setPromise_48 : decode cX7_setPromise 48 = .ok (.iload_n 3, 1) := by decide +kernel
theorem dX7_setPromise_49 : decode cX7_setPromise 49 = .ok (.ireturn, 1) := by decide +kernel
theorem dX7_counts_0 : decode cX7_counts 0 = .ok (.aload_n 0, 1) := by decide +kernel
theorem dX7_counts_1 : decode cX7_counts 1 = .ok (.iload_n 1, 1) := by decide +kernel
theorem dX7_counts_2 : decode cX7_counts 2 = .ok (.invokevirtual 123, 3) := by decide +kernel
theorem dX7_counts_5 : decode cX7_counts 5 = .ok (.ifCond .ne 42, 3) := by decide +kernel
theorem dX7_counts_8 : decode cX7_counts 8 = .ok (.aload_n 0, 1) := by decide +kernel
theorem dX7_counts_9 : decode cX7_counts 9 = .ok (.getfield 49, 3) := by decide +kernel
theorem dX7_counts_12 : decode cX7_counts 12 = .ok (.iload_n 1, 1) := by decide +kernel
theorem dX7_counts_13 : decode cX7_counts 13 = .ok (.caload, 1) := by decide +kernel
theorem dX7_counts_14 : decode cX7_counts 14 = .ok (.bipush 97, 2) := by decide +kernel
theorem dX7_counts_16 : decode cX7_counts 16 = .ok (.if_icmp .eq 31, 3) := by decide +kernel
theorem dX7_counts_19 : decode cX7_counts 19 = .ok (.aload_n 0, 1) := by decide +kernel
theorem dX7_counts_20 : decode cX7_counts 20 = .ok (.getfield 49, 3) := by decide +kernel
theorem dX7_counts_23 : decode cX7_counts 23 = .ok (.iload_n 1, 1) := by decide +kernel
theorem dX7_counts_24 : decode cX7_counts 24 = .ok (.caload, 1) := by decide +kernel
theorem dX7_counts_25 : decode cX7_counts 25 = .ok (.bipush 99, 2) := by decide +kernel
theorem dX7_counts_27 : decode cX7_counts 27 = .ok (.if_icmp .ne 24, 3) := by decide +kernel
theorem dX7_counts_30 : decode cX7_counts 30 = .ok (.aload_n 0, 1) := by decide +kernel
theorem dX7_counts_31 : decode cX7_counts 31 = .ok (.getfield 73, 3) := by decide +kernel
theorem dX7_counts_34 : decode cX7_counts 34 = .ok (.aload_n 0, 1) := by decide +kernel
theorem dX7_counts_35 : decode cX7_counts 35 = .ok (.getfield 40, 3) := by decide +kernel
theorem dX7_counts_38 : decode cX7_counts 38 = .ok (.iload_n 1, 1) := by decide +kernel
theorem dX7_counts_39 : decode cX7_counts 39 = .ok (.iaload, 1) := by decide +kernel
theorem dX7_counts_40 : decode cX7_counts 40 = .ok (.isub, 1) := by decide +kernel
theorem dX7_counts_41 : decode cX7_counts 41 = .ok (.sipush 1440, 3) := by decide +kernel
theorem dX7_counts_44 : decode cX7_counts 44 = .ok (.if_icmp .gt 7, 3) := by decide +kernel
theorem dX7_counts_47 : decode cX7_counts 47 = .ok (.iconst 1, 1) := by decide +kernel
theorem dX7_counts_48 : decode cX7_counts 48 = .ok (.goto 4, 3) := by decide +kernel
theorem dX7_counts_51 : decode cX7_counts 51 = .ok (.iconst 0, 1) := by decide +kernel
theorem dX7_counts_52 : decode cX7_counts 52 = .ok (.ireturn, 1) := by decide +kernel
theorem dX7_latest_0 : decode cX7_latest 0 = .ok (.iconst (-1), 1) := by decide +kernel
theorem dX7_latest_1 : decode cX7_latest 1 = .ok (.istore_n 2, 1) := by decide +kernel
theorem dX7_latest_2 : decode cX7_latest 2 = .ok (.iconst 0, 1) := by decide +kernel
theorem dX7_latest_3 : decode cX7_latest 3 = .ok (.istore_n 3, 1) := by decide +kernel
theorem dX7_latest_4 : decode cX7_latest 4 = .ok (.iload_n 3, 1) := by decide +kernel
theorem dX7_latest_5 : decode cX7_latest 5 = .ok (.aload_n 0, 1) := by decide +kernel
theorem dX7_latest_6 : decode cX7_latest 6 = .ok (.getfield 76, 3) := by decide +kernel
theorem dX7_latest_9 : decode cX7_latest 9 = .ok (.if_icmp .ge 25, 3) := by decide +kernel
theorem dX7_latest_12 : decode cX7_latest 12 = .ok (.aload_n 0, 1) := by decide +kernel
theorem dX7_latest_13 : decode cX7_latest 13 = .ok (.getfield 16, 3) := by decide +kernel
theorem dX7_latest_16 : decode cX7_latest 16 = .ok (.iload_n 3, 1) := by decide +kernel
theorem dX7_latest_17 : decode cX7_latest 17 = .ok (.iaload, 1) := by decide +kernel
theorem dX7_latest_18 : decode cX7_latest 18 = .ok (.iload_n 1, 1) := by decide +kernel
theorem dX7_latest_19 : decode cX7_latest 19 = .ok (.if_icmp .ne 7, 3) := by decide +kernel
theorem dX7_latest_22 : decode cX7_latest 22 = .ok (.iload_n 3, 1) := by decide +kernel
theorem dX7_latest_23 : decode cX7_latest 23 = .ok (.goto 4, 3) := by decide +kernel
theorem dX7_latest_26 : decode cX7_latest 26 = .ok (.iload_n 2, 1) := by decide +kernel
theorem dX7_latest_27 : decode cX7_latest 27 = .ok (.istore_n 2, 1) := by decide +kernel
theorem dX7_latest_28 : decode cX7_latest 28 = .ok (.iinc 3 1, 3) := by decide +kernel
theorem dX7_latest_31 : decode cX7_latest 31 = .ok (.goto (-27), 3) := by decide +kernel
theorem dX7_latest_34 : decode cX7_latest 34 = .ok (.iload_n 2, 1) := by decide +kernel
theorem dX7_latest_35 : decode cX7_latest 35 = .ok (.ireturn, 1) := by decide +kernel
theorem dX7_joined_0 : decode cX7_joined 0 = .ok (.iload_n 3, 1) := by decide +kernel
theorem dX7_joined_1 : decode cX7_joined 1 = .ok (.ifCond .lt 38, 3) := by decide +kernel
theorem dX7_joined_4 : decode cX7_joined 4 = .ok (.aload_n 0, 1) := by decide +kernel
theorem dX7_joined_5 : decode cX7_joined 5 = .ok (.getfield 22, 3) := by decide +kernel
theorem dX7_joined_8 : decode cX7_joined 8 = .ok (.aload_n 0, 1) := by decide +kernel
theorem dX7_joined_9 : decode cX7_joined 9 = .ok (.getfield 16, 3) := by decide +kernel
theorem dX7_joined_12 : decode cX7_joined 12 = .ok (.iload_n 3, 1) := by decide +kernel
theorem dX7_joined_13 : decode cX7_joined 13 = .ok (.iaload, 1) := by decide +kernel
theorem dX7_joined_14 : decode cX7_joined 14 = .ok (.iaload, 1) := by decide +kernel
theorem dX7_joined_15 : decode cX7_joined 15 = .ok (.iload_n 1, 1) := by decide +kernel
theorem dX7_joined_16 : decode cX7_joined 16 = .ok (.if_icmp .ne 23, 3) := by decide +kernel
theorem dX7_joined_19 : decode cX7_joined 19 = .ok (.aload_n 0, 1) := by decide +kernel
theorem dX7_joined_20 : decode cX7_joined 20 = .ok (.aload_n 0, 1) := by decide +kernel
theorem dX7_joined_21 : decode cX7_joined 21 = .ok (.getfield 16, 3) := by decide +kernel
theorem dX7_joined_24 : decode cX7_joined 24 = .ok (.iload_n 3, 1) := by decide +kernel
theorem dX7_joined_25 : decode cX7_joined 25 = .ok (.iaload, 1) := by decide +kernel
theorem dX7_joined_26 : decode cX7_joined 26 = .ok (.invokevirtual 127, 3) := by decide +kernel
theorem dX7_joined_29 : decode cX7_joined 29 = .ok (.ifCond .eq 10, 3) := by decide +kernel
theorem dX7_joined_32 : decode cX7_joined 32 = .ok (.aload_n 0, 1) := by decide +kernel
theorem dX7_joined_33 : decode cX7_joined 33 = .ok (.getfield 16, 3) := by decide +kernel
theorem dX7_joined_36 : decode cX7_joined 36 = .ok (.iload_n 3, 1) := by decide +kernel
theorem dX7_joined_37 : decode cX7_joined 37 = .ok (.iaload, 1) := by decide +kernel
theorem dX7_joined_38 : decode cX7_joined 38 = .ok (.ireturn, 1) := by decide +kernel
theorem dX7_joined_39 : decode cX7_joined 39 = .ok (.iconst (-1), 1) := by decide +kernel
theorem dX7_joined_40 : decode cX7_joined 40 = .ok (.istore 4, 2) := by decide +kernel
theorem dX7_joined_42 : decode cX7_joined 42 = .ok (.iconst 0, 1) := by decide +kernel
theorem dX7_joined_43 : decode cX7_joined 43 = .ok (.istore 5, 2) := by decide +kernel
theorem dX7_joined_45 : decode cX7_joined 45 = .ok (.iload 5, 2) := by decide +kernel
theorem dX7_joined_47 : decode cX7_joined 47 = .ok (.aload_n 0, 1) := by decide +kernel
theorem dX7_joined_48 : decode cX7_joined 48 = .ok (.getfield 79, 3) := by decide +kernel
theorem dX7_joined_51 : decode cX7_joined 51 = .ok (.if_icmp .ge 67, 3) := by decide +kernel
theorem dX7_joined_54 : decode cX7_joined 54 = .ok (.aload_n 0, 1) := by decide +kernel
theorem dX7_joined_55 : decode cX7_joined 55 = .ok (.getfield 22, 3) := by decide +kernel
theorem dX7_joined_58 : decode cX7_joined 58 = .ok (.iload 5, 2) := by decide +kernel
theorem dX7_joined_60 : decode cX7_joined 60 = .ok (.iaload, 1) := by decide +kernel
theorem dX7_joined_61 : decode cX7_joined 61 = .ok (.iload_n 1, 1) := by decide +kernel
theorem dX7_joined_62 : decode cX7_joined 62 = .ok (.if_icmp .ne 50, 3) := by decide +kernel
theorem dX7_joined_65 : decode cX7_joined 65 = .ok (.aload_n 0, 1) := by decide +kernel
theorem dX7_joined_66 : decode cX7_joined 66 = .ok (.getfield 25, 3) := by decide +kernel
theorem dX7_joined_69 : decode cX7_joined 69 = .ok (.iload 5, 2) := by decide +kernel
theorem dX7_joined_71 : decode cX7_joined 71 = .ok (.iaload, 1) := by decide +kernel
theorem dX7_joined_72 : decode cX7_joined 72 = .ok (.iload_n 2, 1) := by decide +kernel
theorem dX7_joined_73 : decode cX7_joined 73 = .ok (.if_icmp .ne 39, 3) := by decide +kernel
theorem dX7_joined_76 : decode cX7_joined 76 = .ok (.aload_n 0, 1) := by decide +kernel
theorem dX7_joined_77 : decode cX7_joined 77 = .ok (.iload 5, 2) := by decide +kernel
theorem dX7_joined_79 : decode cX7_joined 79 = .ok (.invokevirtual 127, 3) := by decide +kernel
theorem dX7_joined_82 : decode cX7_joined 82 = .ok (.ifCond .ne 6, 3) := by decide +kernel
theorem dX7_joined_85 : decode cX7_joined 85 = .ok (.goto 27, 3) := by decide +kernel
theorem dX7_joined_88 : decode cX7_joined 88 = .ok (.iload 4, 2) := by decide +kernel
theorem dX7_joined_90 : decode cX7_joined 90 = .ok (.ifCond .lt 18, 3) := by decide +kernel
theorem dX7_joined_93 : decode cX7_joined 93 = .ok (.aload_n 0, 1) := by decide +kernel
theorem dX7_joined_94 : decode cX7_joined 94 = .ok (.iload 5, 2) := by decide +kernel
theorem dX7_joined_96 : decode cX7_joined 96 = .ok (.invokevirtual 130, 3) := by decide +kernel
theorem dX7_joined_99 : decode cX7_joined 99 = .ok (.aload_n 0, 1) := by decide +kernel
theorem dX7_joined_100 : decode cX7_joined 100 = .ok (.iload 4, 2) := by decide +kernel
theorem dX7_joined_102 : decode cX7_joined 102 = .ok (.invokevirtual 130, 3) := by decide +kernel
theorem dX7_joined_105 : decode cX7_joined 105 = .ok (.if_icmp .le 7, 3) := by decide +kernel
theorem dX7_joined_108 : decode cX7_joined 108 = .ok (.iload 5, 2) := by decide +kernel
theorem dX7_joined_110 : decode cX7_joined 110 = .ok (.istore 4, 2) := by decide +kernel
theorem dX7_joined_112 : decode cX7_joined 112 = .ok (.iinc 5 1, 3) := by decide +kernel
theorem dX7_joined_115 : decode cX7_joined 115 = .ok (.goto (-70), 3) := by decide +kernel
theorem dX7_joined_118 : decode cX7_joined 118 = .ok (.iload 4, 2) := by decide +kernel
theorem dX7_joined_120 : decode cX7_joined 120 = .ok (.ireturn, 1) := by decide +kernel
theorem dX7_makes_0 : decode cX7_makes 0 = .ok (.aload_n 0, 1) := by decide +kernel
theorem dX7_makes_1 : decode cX7_makes 1 = .ok (.getfield 22, 3) := by decide +kernel
theorem dX7_makes_4 : decode cX7_makes 4 = .ok (.aload_n 0, 1) := by decide +kernel
theorem dX7_makes_5 : decode cX7_makes 5 = .ok (.getfield 79, 3) := by decide +kernel
theorem dX7_makes_8 : decode cX7_makes 8 = .ok (.iload_n 1, 1) := by decide +kernel
theorem dX7_makes_9 : decode cX7_makes 9 = .ok (.iastore, 1) := by decide +kernel
theorem dX7_makes_10 : decode cX7_makes 10 = .ok (.aload_n 0, 1) := by decide +kernel
theorem dX7_makes_11 : decode cX7_makes 11 = .ok (.getfield 25, 3) := by decide +kernel
theorem dX7_makes_14 : decode cX7_makes 14 = .ok (.aload_n 0, 1) := by decide +kernel
theorem dX7_makes_15 : decode cX7_makes 15 = .ok (.getfield 79, 3) := by decide +kernel
theorem dX7_makes_18 : decode cX7_makes 18 = .ok (.iload_n 2, 1) := by decide +kernel
theorem dX7_makes_19 : decode cX7_makes 19 = .ok (.iastore, 1) := by decide +kernel
theorem dX7_makes_20 : decode cX7_makes 20 = .ok (.aload_n 0, 1) := by decide +kernel
theorem dX7_makes_21 : decode cX7_makes 21 = .ok (.getfield 28, 3) := by decide +kernel
theorem dX7_makes_24 : decode cX7_makes 24 = .ok (.aload_n 0, 1) := by decide +kernel
theorem dX7_makes_25 : decode cX7_makes 25 = .ok (.getfield 79, 3) := by decide +kernel
theorem dX7_makes_28 : decode cX7_makes 28 = .ok (.iload_n 3, 1) := by decide +kernel
theorem dX7_makes_29 : decode cX7_makes 29 = .ok (.iastore, 1) := by decide +kernel
theorem dX7_makes_30 : decode cX7_makes 30 = .ok (.aload_n 0, 1) := by decide +kernel
theorem dX7_makes_31 : decode cX7_makes 31 = .ok (.getfield 34, 3) := by decide +kernel
theorem dX7_makes_34 : decode cX7_makes 34 = .ok (.aload_n 0, 1) := by decide +kernel
theorem dX7_makes_35 : decode cX7_makes 35 = .ok (.getfield 79, 3) := by decide +kernel
theorem dX7_makes_38 : decode cX7_makes 38 = .ok (.iconst (-1), 1) := by decide +kernel
theorem dX7_makes_39 : decode cX7_makes 39 = .ok (.iastore, 1) := by decide +kernel
theorem dX7_makes_40 : decode cX7_makes 40 = .ok (.aload_n 0, 1) := by decide +kernel
theorem dX7_makes_41 : decode cX7_makes 41 = .ok (.getfield 43, 3) := by decide +kernel
theorem dX7_makes_44 : decode cX7_makes 44 = .ok (.aload_n 0, 1) := by decide +kernel
theorem dX7_makes_45 : decode cX7_makes 45 = .ok (.getfield 79, 3) := by decide +kernel
theorem dX7_makes_48 : decode cX7_makes 48 = .ok (.iconst (-1), 1) := by decide +kernel
theorem dX7_makes_49 : decode cX7_makes 49 = .ok (.iastore, 1) := by decide +kernel
theorem dX7_makes_50 : decode cX7_makes 50 = .ok (.aload_n 0, 1) := by decide +kernel
theorem dX7_makes_51 : decode cX7_makes 51 = .ok (.getfield 46, 3) := by decide +kernel
theorem dX7_makes_54 : decode cX7_makes 54 = .ok (.aload_n 0, 1) := by decide +kernel
theorem dX7_makes_55 : decode cX7_makes 55 = .ok (.getfield 79, 3) := by decide +kernel
theorem dX7_makes_58 : decode cX7_makes 58 = .ok (.iconst (-1), 1) := by decide +kernel
theorem dX7_makes_59 : decode cX7_makes 59 = .ok (.iastore, 1) := by decide +kernel
theorem dX7_makes_60 : decode cX7_makes 60 = .ok (.aload_n 0, 1) := by decide +kernel
theorem dX7_makes_61 : decode cX7_makes 61 = .ok (.getfield 49, 3) := by decide +kernel
theorem dX7_makes_64 : decode cX7_makes 64 = .ok (.aload_n 0, 1) := by decide +kernel
theorem dX7_makes_65 : decode cX7_makes 65 = .ok (.getfield 79, 3) := by decide +kernel
theorem dX7_makes_68 : decode cX7_makes 68 = .ok (.bipush 111, 2) := by decide +kernel
theorem dX7_makes_70 : decode cX7_makes 70 = .ok (.castore, 1) := by decide +kernel
theorem dX7_makes_71 : decode cX7_makes 71 = .ok (.aload_n 0, 1) := by decide +kernel
theorem dX7_makes_72 : decode cX7_makes 72 = .ok (.dup, 1) := by decide +kernel
theorem dX7_makes_73 : decode cX7_makes 73 = .ok (.getfield 79, 3) := by decide +kernel
theorem dX7_makes_76 : decode cX7_makes 76 = .ok (.iconst 1, 1) := by decide +kernel
theorem dX7_makes_77 : decode cX7_makes 77 = .ok (.iadd, 1) := by decide +kernel
theorem dX7_makes_78 : decode cX7_makes 78 = .ok (.putfield 79, 3) := by decide +kernel
theorem dX7_makes_81 : decode cX7_makes 81 = .ok (.return_, 1) := by decide +kernel
theorem dX7_learns_0 : decode cX7_learns 0 = .ok (.aload_n 0, 1) := by decide +kernel
theorem dX7_learns_1 : decode cX7_learns 1 = .ok (.getfield 46, 3) := by decide +kernel
theorem dX7_learns_4 : decode cX7_learns 4 = .ok (.iload_n 1, 1) := by decide +kernel
theorem dX7_learns_5 : decode cX7_learns 5 = .ok (.iaload, 1) := by decide +kernel
theorem dX7_learns_6 : decode cX7_learns 6 = .ok (.ifCond .ge 4, 3) := by decide +kernel
theorem dX7_learns_9 : decode cX7_learns 9 = .ok (.return_, 1) := by decide +kernel
theorem dX7_learns_10 : decode cX7_learns 10 = .ok (.bipush 6, 2) := by decide +kernel
theorem dX7_learns_12 : decode cX7_learns 12 = .ok (.aload_n 0, 1) := by decide +kernel
theorem dX7_learns_13 : decode cX7_learns 13 = .ok (.getfield 46, 3) := by decide +kernel
theorem dX7_learns_16 : decode cX7_learns 16 = .ok (.iload_n 1, 1) := by decide +kernel
theorem dX7_learns_17 : decode cX7_learns 17 = .ok (.iaload, 1) := by decide +kernel
theorem dX7_learns_18 : decode cX7_learns 18 = .ok (.imul, 1) := by decide +kernel
theorem dX7_learns_19 : decode cX7_learns 19 = .ok (.aload_n 0, 1) := by decide +kernel
theorem dX7_learns_20 : decode cX7_learns 20 = .ok (.getfield 28, 3) := by decide +kernel
theorem dX7_learns_23 : decode cX7_learns 23 = .ok (.iload_n 1, 1) := by decide +kernel
theorem dX7_learns_24 : decode cX7_learns 24 = .ok (.iaload, 1) := by decide +kernel
theorem dX7_learns_25 : decode cX7_learns 25 = .ok (.iadd, 1) := by decide +kernel
theorem dX7_learns_26 : decode cX7_learns 26 = .ok (.istore_n 3, 1) := by decide +kernel
theorem dX7_learns_27 : decode cX7_learns 27 = .ok (.aload_n 0, 1) := by decide +kernel
theorem dX7_learns_28 : decode cX7_learns 28 = .ok (.getfield 66, 3) := by decide +kernel
theorem dX7_learns_31 : decode cX7_learns 31 = .ok (.iload_n 3, 1) := by decide +kernel
theorem dX7_learns_32 : decode cX7_learns 32 = .ok (.iaload, 1) := by decide +kernel
theorem dX7_learns_33 : decode cX7_learns 33 = .ok (.iload_n 2, 1) := by decide +kernel
theorem dX7_learns_34 : decode cX7_learns 34 = .ok (.iadd, 1) := by decide +kernel
theorem dX7_learns_35 : decode cX7_learns 35 = .ok (.iconst 0, 1) := by decide +kernel
theorem dX7_learns_36 : decode cX7_learns 36 = .ok (.bipush 9, 2) := by decide +kernel
theorem dX7_learns_38 : decode cX7_learns 38 = .ok (.invokestatic 104, 3) := by decide +kernel
theorem dX7_learns_41 : decode cX7_learns 41 = .ok (.ifCond .eq 13, 3) := by decide +kernel
theorem dX7_learns_44 : decode cX7_learns 44 = .ok (.aload_n 0, 1) := by decide +kernel
theorem dX7_learns_45 : decode cX7_learns 45 = .ok (.getfield 66, 3) := by decide +kernel
theorem dX7_learns_48 : decode cX7_learns 48 = .ok (.iload_n 3, 1) := by decide +kernel
theorem dX7_learns_49 : decode cX7_learns 49 = .ok (.dup2, 1) := by decide +kernel
theorem dX7_learns_50 : decode cX7_learns 50 = .ok (.iaload, 1) := by decide +kernel
theorem dX7_learns_51 : decode cX7_learns 51 = .ok (.iload_n 2, 1) := by decide +kernel
theorem dX7_learns_52 : decode cX7_learns 52 = .ok (.iadd, 1) := by decide +kernel
theorem dX7_learns_53 : decode cX7_learns 53 = .ok (.iastore, 1) := by decide +kernel
theorem dX7_learns_54 : decode cX7_learns 54 = .ok (.aload_n 0, 1) := by decide +kernel
theorem dX7_learns_55 : decode cX7_learns 55 = .ok (.getfield 46, 3) := by decide +kernel
theorem dX7_learns_58 : decode cX7_learns 58 = .ok (.iload_n 1, 1) := by decide +kernel
theorem dX7_learns_59 : decode cX7_learns 59 = .ok (.iconst (-1), 1) := by decide +kernel
theorem dX7_learns_60 : decode cX7_learns 60 = .ok (.iastore, 1) := by decide +kernel
theorem dX7_learns_61 : decode cX7_learns 61 = .ok (.return_, 1) := by decide +kernel
theorem dX7_opens_0 : decode cX7_opens 0 = .ok (.aload_n 0, 1) := by decide +kernel
theorem dX7_opens_1 : decode cX7_opens 1 = .ok (.iload_n 1, 1) := by decide +kernel
theorem dX7_opens_2 : decode cX7_opens 2 = .ok (.invokevirtual 123, 3) := by decide +kernel
theorem dX7_opens_5 : decode cX7_opens 5 = .ok (.ifCond .eq 4, 3) := by decide +kernel
theorem dX7_opens_8 : decode cX7_opens 8 = .ok (.return_, 1) := by decide +kernel
theorem dX7_opens_9 : decode cX7_opens 9 = .ok (.aload_n 0, 1) := by decide +kernel
theorem dX7_opens_10 : decode cX7_opens 10 = .ok (.iload_n 1, 1) := by decide +kernel
theorem dX7_opens_11 : decode cX7_opens 11 = .ok (.iconst (-1), 1) := by decide +kernel
theorem dX7_opens_12 : decode cX7_opens 12 = .ok (.invokevirtual 133, 3) := by decide +kernel
theorem dX7_opens_15 : decode cX7_opens 15 = .ok (.aload_n 0, 1) := by decide +kernel
theorem dX7_opens_16 : decode cX7_opens 16 = .ok (.getfield 49, 3) := by decide +kernel
theorem dX7_opens_19 : decode cX7_opens 19 = .ok (.iload_n 1, 1) := by decide +kernel
theorem dX7_opens_20 : decode cX7_opens 20 = .ok (.bipush 111, 2) := by decide +kernel
theorem dX7_opens_22 : decode cX7_opens 22 = .ok (.castore, 1) := by decide +kernel
theorem dX7_opens_23 : decode cX7_opens 23 = .ok (.aload_n 0, 1) := by decide +kernel
theorem dX7_opens_24 : decode cX7_opens 24 = .ok (.getfield 31, 3) := by decide +kernel
theorem dX7_opens_27 : decode cX7_opens 27 = .ok (.iload_n 1, 1) := by decide +kernel
theorem dX7_opens_28 : decode cX7_opens 28 = .ok (.iconst 0, 1) := by decide +kernel
theorem dX7_opens_29 : decode cX7_opens 29 = .ok (.iastore, 1) := by decide +kernel
theorem dX7_opens_30 : decode cX7_opens 30 = .ok (.aload_n 0, 1) := by decide +kernel
theorem dX7_opens_31 : decode cX7_opens 31 = .ok (.getfield 53, 3) := by decide +kernel
theorem dX7_opens_34 : decode cX7_opens 34 = .ok (.iload_n 1, 1) := by decide +kernel
theorem dX7_opens_35 : decode cX7_opens 35 = .ok (.iconst 0, 1) := by decide +kernel
theorem dX7_opens_36 : decode cX7_opens 36 = .ok (.bastore, 1) := by decide +kernel
theorem dX7_opens_37 : decode cX7_opens 37 = .ok (.return_, 1) := by decide +kernel
theorem dX7_mail_0 : decode cX7_mail 0 = .ok (.aload_n 0, 1) := by decide +kernel
theorem dX7_mail_1 : decode cX7_mail 1 = .ok (.iload_n 1, 1) := by decide +kernel
theorem dX7_mail_2 : decode cX7_mail 2 = .ok (.iconst 0, 1) := by decide +kernel
theorem dX7_mail_3 : decode cX7_mail 3 = .ok (.bipush 7, 2) := by decide +kernel
theorem dX7_mail_5 : decode cX7_mail 5 = .ok (.invokestatic 104, 3) := by decide +kernel
theorem dX7_mail_8 : decode cX7_mail 8 = .ok (.ifCond .eq 35, 3) := by decide +kernel
theorem dX7_mail_11 : decode cX7_mail 11 = .ok (.iload_n 2, 1) := by decide +kernel
theorem dX7_mail_12 : decode cX7_mail 12 = .ok (.iconst 0, 1) := by decide +kernel
theorem dX7_mail_13 : decode cX7_mail 13 = .ok (.bipush 19, 2) := by decide +kernel
theorem dX7_mail_15 : decode cX7_mail 15 = .ok (.invokestatic 104, 3) := by decide +kernel
theorem dX7_mail_18 : decode cX7_mail 18 = .ok (.ifCond .eq 25, 3) := by decide +kernel
theorem dX7_mail_21 : decode cX7_mail 21 = .ok (.iload 4, 2) := by decide +kernel
theorem dX7_mail_23 : decode cX7_mail 23 = .ok (.iconst 0, 1) := by decide +kernel
theorem dX7_mail_24 : decode cX7_mail 24 = .ok (.iconst 5, 1) := by decide +kernel
theorem dX7_mail_25 : decode cX7_mail 25 = .ok (.invokestatic 104, 3) := by decide +kernel
theorem dX7_mail_28 : decode cX7_mail 28 = .ok (.ifCond .eq 15, 3) := by decide +kernel
theorem dX7_mail_31 : decode cX7_mail 31 = .ok (.iload 5, 2) := by decide +kernel
theorem dX7_mail_33 : decode cX7_mail 33 = .ok (.iconst 0, 1) := by decide +kernel
theorem dX7_mail_34 : decode cX7_mail 34 = .ok (.sipush 1023, 3) := by decide +kernel
theorem dX7_mail_37 : decode cX7_mail 37 = .ok (.invokestatic 104, 3) := by decide +kernel
theorem dX7_mail_40 : decode cX7_mail 40 = .ok (.ifCond .ne 7, 3) := by decide +kernel
theorem dX7_mail_43 : decode cX7_mail 43 = .ok (.iconst 1, 1) := by decide +kernel
theorem dX7_mail_44 : decode cX7_mail 44 = .ok (.goto 35, 3) := by decide +kernel
theorem dX7_mail_47 : decode cX7_mail 47 = .ok (.iload_n 3, 1) := by decide +kernel
theorem dX7_mail_48 : decode cX7_mail 48 = .ok (.iconst (-1), 1) := by decide +kernel
theorem dX7_mail_49 : decode cX7_mail 49 = .ok (.aload_n 0, 1) := by decide +kernel
theorem dX7_mail_50 : decode cX7_mail 50 = .ok (.getfield 76, 3) := by decide +kernel
theorem dX7_mail_53 : decode cX7_mail 53 = .ok (.iconst 1, 1) := by decide +kernel
theorem dX7_mail_54 : decode cX7_mail 54 = .ok (.isub, 1) := by decide +kernel
theorem dX7_mail_55 : decode cX7_mail 55 = .ok (.invokestatic 104, 3) := by decide +kernel
theorem dX7_mail_58 : decode cX7_mail 58 = .ok (.ifCond .ne 7, 3) := by decide +kernel
theorem dX7_mail_61 : decode cX7_mail 61 = .ok (.iconst 2, 1) := by decide +kernel
theorem dX7_mail_62 : decode cX7_mail 62 = .ok (.goto 17, 3) := by decide +kernel
theorem dX7_mail_65 : decode cX7_mail 65 = .ok (.aload_n 0, 1) := by decide +kernel
theorem dX7_mail_66 : decode cX7_mail 66 = .ok (.getfield 76, 3) := by decide +kernel
theorem dX7_mail_69 : decode cX7_mail 69 = .ok (.bipush 80, 2) := by decide +kernel
theorem dX7_mail_71 : decode cX7_mail 71 = .ok (.if_icmp .ne 7, 3) := by decide +kernel
theorem dX7_mail_74 : decode cX7_mail 74 = .ok (.iconst 3, 1) := by decide +kernel
theorem dX7_mail_75 : decode cX7_mail 75 = .ok (.goto 4, 3) := by decide +kernel
theorem dX7_mail_78 : decode cX7_mail 78 = .ok (.iconst 0, 1) := by decide +kernel
theorem dX7_mail_79 : decode cX7_mail 79 = .ok (.putfield 69, 3) := by decide +kernel
theorem dX7_mail_82 : decode cX7_mail 82 = .ok (.aload_n 0, 1) := by decide +kernel
theorem dX7_mail_83 : decode cX7_mail 83 = .ok (.getfield 69, 3) := by decide +kernel
theorem dX7_mail_86 : decode cX7_mail 86 = .ok (.ifCond .le 5, 3) := by decide +kernel
theorem dX7_mail_89 : decode cX7_mail 89 = .ok (.iconst 0, 1) := by decide +kernel
theorem dX7_mail_90 : decode cX7_mail 90 = .ok (.ireturn, 1) := by decide +kernel
theorem dX7_mail_91 : decode cX7_mail 91 = .ok (.aload_n 0, 1) := by decide +kernel
theorem dX7_mail_92 : decode cX7_mail 92 = .ok (.iload_n 1, 1) := by decide +kernel
theorem dX7_mail_93 : decode cX7_mail 93 = .ok (.iload_n 2, 1) := by decide +kernel
theorem dX7_mail_94 : decode cX7_mail 94 = .ok (.iload_n 3, 1) := by decide +kernel
theorem dX7_mail_95 : decode cX7_mail 95 = .ok (.invokevirtual 137, 3) := by decide +kernel
theorem dX7_mail_98 : decode cX7_mail 98 = .ok (.istore 6, 2) := by decide +kernel
theorem dX7_mail_100 : decode cX7_mail 100 = .ok (.aload_n 0, 1) := by decide +kernel
theorem dX7_mail_101 : decode cX7_mail 101 = .ok (.iload 6, 2) := by decide +kernel
theorem dX7_mail_103 : decode cX7_mail 103 = .ok (.ifCond .ge 16, 3) := by decide +kernel
theorem dX7_mail_106 : decode cX7_mail 106 = .ok (.aload_n 0, 1) := by decide +kernel
theorem dX7_mail_107 : decode cX7_mail 107 = .ok (.getfield 79, 3) := by decide +kernel
theorem dX7_mail_110 : decode cX7_mail 110 = .ok (.bipush 40, 2) := by decide +kernel
theorem dX7_mail_112 : decode cX7_mail 112 = .ok (.if_icmp .ne 7, 3) := by decide +kernel
theorem dX7_mail_115 : decode cX7_mail 115 = .ok (.iconst 3, 1) := by decide +kernel
theorem dX7_mail_116 : decode cX7_mail 116 = .ok (.goto 4, 3) := by decide +kernel
theorem dX7_mail_119 : decode cX7_mail 119 = .ok (.iconst 0, 1) := by decide +kernel
theorem dX7_mail_120 : decode cX7_mail 120 = .ok (.putfield 69, 3) := by decide +kernel
theorem dX7_mail_123 : decode cX7_mail 123 = .ok (.aload_n 0, 1) := by decide +kernel
theorem dX7_mail_124 : decode cX7_mail 124 = .ok (.getfield 69, 3) := by decide +kernel
theorem dX7_mail_127 : decode cX7_mail 127 = .ok (.ifCond .le 5, 3) := by decide +kernel
theorem dX7_mail_130 : decode cX7_mail 130 = .ok (.iconst 0, 1) := by decide +kernel
theorem dX7_mail_131 : decode cX7_mail 131 = .ok (.ireturn, 1) := by decide +kernel
theorem dX7_mail_132 : decode cX7_mail 132 = .ok (.iload 6, 2) := by decide +kernel
theorem dX7_mail_134 : decode cX7_mail 134 = .ok (.ifCond .ge 20, 3) := by decide +kernel
theorem dX7_mail_137 : decode cX7_mail 137 = .ok (.aload_n 0, 1) := by decide +kernel
theorem dX7_mail_138 : decode cX7_mail 138 = .ok (.getfield 79, 3) := by decide +kernel
theorem dX7_mail_141 : decode cX7_mail 141 = .ok (.istore 6, 2) := by decide +kernel
theorem dX7_mail_143 : decode cX7_mail 143 = .ok (.aload_n 0, 1) := by decide +kernel
theorem dX7_mail_144 : decode cX7_mail 144 = .ok (.iload_n 1, 1) := by decide +kernel
theorem dX7_mail_145 : decode cX7_mail 145 = .ok (.iload_n 2, 1) := by decide +kernel
theorem dX7_mail_146 : decode cX7_mail 146 = .ok (.iload 4, 2) := by decide +kernel
theorem dX7_mail_148 : decode cX7_mail 148 = .ok (.invokevirtual 141, 3) := by decide +kernel
theorem dX7_mail_151 : decode cX7_mail 151 = .ok (.goto 9, 3) := by decide +kernel
theorem dX7_mail_154 : decode cX7_mail 154 = .ok (.aload_n 0, 1) := by decide +kernel
theorem dX7_mail_155 : decode cX7_mail 155 = .ok (.iload 6, 2) := by decide +kernel
theorem dX7_mail_157 : decode cX7_mail 157 = .ok (.invokevirtual 145, 3) := by decide +kernel
theorem dX7_mail_160 : decode cX7_mail 160 = .ok (.aload_n 0, 1) := by decide +kernel
theorem dX7_mail_161 : decode cX7_mail 161 = .ok (.getfield 16, 3) := by decide +kernel
theorem dX7_mail_164 : decode cX7_mail 164 = .ok (.aload_n 0, 1) := by decide +kernel
theorem dX7_mail_165 : decode cX7_mail 165 = .ok (.getfield 76, 3) := by decide +kernel
theorem dX7_mail_168 : decode cX7_mail 168 = .ok (.iload 6, 2) := by decide +kernel
theorem dX7_mail_170 : decode cX7_mail 170 = .ok (.iastore, 1) := by decide +kernel
theorem dX7_mail_171 : decode cX7_mail 171 = .ok (.aload_n 0, 1) := by decide +kernel
theorem dX7_mail_172 : decode cX7_mail 172 = .ok (.getfield 19, 3) := by decide +kernel
theorem dX7_mail_175 : decode cX7_mail 175 = .ok (.aload_n 0, 1) := by decide +kernel
theorem dX7_mail_176 : decode cX7_mail 176 = .ok (.getfield 76, 3) := by decide +kernel
theorem dX7_mail_179 : decode cX7_mail 179 = .ok (.iload 5, 2) := by decide +kernel
theorem dX7_mail_181 : decode cX7_mail 181 = .ok (.iastore, 1) := by decide +kernel
theorem dX7_mail_182 : decode cX7_mail 182 = .ok (.aload_n 0, 1) := by decide +kernel
theorem dX7_mail_183 : decode cX7_mail 183 = .ok (.dup, 1) := by decide +kernel
theorem dX7_mail_184 : decode cX7_mail 184 = .ok (.getfield 76, 3) := by decide +kernel
theorem dX7_mail_187 : decode cX7_mail 187 = .ok (.iconst 1, 1) := by decide +kernel
theorem dX7_mail_188 : decode cX7_mail 188 = .ok (.iadd, 1) := by decide +kernel
theorem dX7_mail_189 : decode cX7_mail 189 = .ok (.putfield 76, 3) := by decide +kernel
theorem dX7_mail_192 : decode cX7_mail 192 = .ok (.iload 6, 2) := by decide +kernel
theorem dX7_mail_194 : decode cX7_mail 194 = .ok (.ireturn, 1) := by decide +kernel
theorem dX7_ticketOf_0 : decode cX7_ticketOf 0 = .ok (.aload_n 0, 1) := by decide +kernel
theorem dX7_ticketOf_1 : decode cX7_ticketOf 1 = .ok (.iload_n 1, 1) := by decide +kernel
theorem dX7_ticketOf_2 : decode cX7_ticketOf 2 = .ok (.iconst 0, 1) := by decide +kernel
theorem dX7_ticketOf_3 : decode cX7_ticketOf 3 = .ok (.aload_n 0, 1) := by decide +kernel
theorem dX7_ticketOf_4 : decode cX7_ticketOf 4 = .ok (.getfield 76, 3) := by decide +kernel
theorem dX7_ticketOf_7 : decode cX7_ticketOf 7 = .ok (.iconst 1, 1) := by decide +kernel
theorem dX7_ticketOf_8 : decode cX7_ticketOf 8 = .ok (.isub, 1) := by decide +kernel
theorem dX7_ticketOf_9 : decode cX7_ticketOf 9 = .ok (.invokestatic 104, 3) := by decide +kernel
theorem dX7_ticketOf_12 : decode cX7_ticketOf 12 = .ok (.invokevirtual 112, 3) := by decide +kernel
theorem dX7_ticketOf_15 : decode cX7_ticketOf 15 = .ok (.ifCond .le 7, 3) := by decide +kernel
theorem dX7_ticketOf_18 : decode cX7_ticketOf 18 = .ok (.iconst 0, 1) := by decide +kernel
theorem dX7_ticketOf_19 : decode cX7_ticketOf 19 = .ok (.goto 9, 3) := by decide +kernel
theorem dX7_ticketOf_22 : decode cX7_ticketOf 22 = .ok (.aload_n 0, 1) := by decide +kernel
theorem dX7_ticketOf_23 : decode cX7_ticketOf 23 = .ok (.getfield 16, 3) := by decide +kernel
theorem dX7_ticketOf_26 : decode cX7_ticketOf 26 = .ok (.iload_n 1, 1) := by decide +kernel
theorem dX7_ticketOf_27 : decode cX7_ticketOf 27 = .ok (.iaload, 1) := by decide +kernel
theorem dX7_ticketOf_28 : decode cX7_ticketOf 28 = .ok (.ireturn, 1) := by decide +kernel
theorem dX7_mails_0 : decode cX7_mails 0 = .ok (.aload_n 0, 1) := by decide +kernel
theorem dX7_mails_1 : decode cX7_mails 1 = .ok (.aload_n 0, 1) := by decide +kernel
theorem dX7_mails_2 : decode cX7_mails 2 = .ok (.getfield 76, 3) := by decide +kernel
theorem dX7_mails_5 : decode cX7_mails 5 = .ok (.invokevirtual 120, 3) := by decide +kernel
theorem dX7_mails_8 : decode cX7_mails 8 = .ok (.ireturn, 1) := by decide +kernel
theorem dX7_countOf_0 : decode cX7_countOf 0 = .ok (.iconst 0, 1) := by decide +kernel
theorem dX7_countOf_1 : decode cX7_countOf 1 = .ok (.istore_n 2, 1) := by decide +kernel
theorem dX7_countOf_2 : decode cX7_countOf 2 = .ok (.iconst 0, 1) := by decide +kernel
theorem dX7_countOf_3 : decode cX7_countOf 3 = .ok (.istore_n 3, 1) := by decide +kernel
theorem dX7_countOf_4 : decode cX7_countOf 4 = .ok (.iload_n 3, 1) := by decide +kernel
theorem dX7_countOf_5 : decode cX7_countOf 5 = .ok (.aload_n 0, 1) := by decide +kernel
theorem dX7_countOf_6 : decode cX7_countOf 6 = .ok (.getfield 76, 3) := by decide +kernel
theorem dX7_countOf_9 : decode cX7_countOf 9 = .ok (.if_icmp .ge 27, 3) := by decide +kernel
theorem dX7_countOf_12 : decode cX7_countOf 12 = .ok (.iload_n 2, 1) := by decide +kernel
theorem dX7_countOf_13 : decode cX7_countOf 13 = .ok (.aload_n 0, 1) := by decide +kernel
theorem dX7_countOf_14 : decode cX7_countOf 14 = .ok (.getfield 16, 3) := by decide +kernel
theorem dX7_countOf_17 : decode cX7_countOf 17 = .ok (.iload_n 3, 1) := by decide +kernel
theorem dX7_countOf_18 : decode cX7_countOf 18 = .ok (.iaload, 1) := by decide +kernel
theorem dX7_countOf_19 : decode cX7_countOf 19 = .ok (.iload_n 1, 1) := by decide +kernel
theorem dX7_countOf_20 : decode cX7_countOf 20 = .ok (.if_icmp .ne 7, 3) := by decide +kernel
theorem dX7_countOf_23 : decode cX7_countOf 23 = .ok (.iconst 1, 1) := by decide +kernel
theorem dX7_countOf_24 : decode cX7_countOf 24 = .ok (.goto 4, 3) := by decide +kernel
theorem dX7_countOf_27 : decode cX7_countOf 27 = .ok (.iconst 0, 1) := by decide +kernel
theorem dX7_countOf_28 : decode cX7_countOf 28 = .ok (.iadd, 1) := by decide +kernel
theorem dX7_countOf_29 : decode cX7_countOf 29 = .ok (.istore_n 2, 1) := by decide +kernel
theorem dX7_countOf_30 : decode cX7_countOf 30 = .ok (.iinc 3 1, 3) := by decide +kernel
theorem dX7_countOf_33 : decode cX7_countOf 33 = .ok (.goto (-29), 3) := by decide +kernel
theorem dX7_countOf_36 : decode cX7_countOf 36 = .ok (.iload_n 2, 1) := by decide +kernel
theorem dX7_countOf_37 : decode cX7_countOf 37 = .ok (.ireturn, 1) := by decide +kernel
theorem dX7_mailsOf_0 : decode cX7_mailsOf 0 = .ok (.aload_n 0, 1) := by decide +kernel
theorem dX7_mailsOf_1 : decode cX7_mailsOf 1 = .ok (.aload_n 0, 1) := by decide +kernel
theorem dX7_mailsOf_2 : decode cX7_mailsOf 2 = .ok (.iload_n 1, 1) := by decide +kernel
theorem dX7_mailsOf_3 : decode cX7_mailsOf 3 = .ok (.invokevirtual 149, 3) := by decide +kernel
theorem dX7_mailsOf_6 : decode cX7_mailsOf 6 = .ok (.invokevirtual 112, 3) := by decide +kernel
theorem dX7_mailsOf_9 : decode cX7_mailsOf 9 = .ok (.ifCond .le 7, 3) := by decide +kernel
theorem dX7_mailsOf_12 : decode cX7_mailsOf 12 = .ok (.iconst 0, 1) := by decide +kernel
theorem dX7_mailsOf_13 : decode cX7_mailsOf 13 = .ok (.goto 8, 3) := by decide +kernel
theorem dX7_mailsOf_16 : decode cX7_mailsOf 16 = .ok (.aload_n 0, 1) := by decide +kernel
theorem dX7_mailsOf_17 : decode cX7_mailsOf 17 = .ok (.iload_n 1, 1) := by decide +kernel
theorem dX7_mailsOf_18 : decode cX7_mailsOf 18 = .ok (.invokevirtual 152, 3) := by decide +kernel
theorem dX7_mailsOf_21 : decode cX7_mailsOf 21 = .ok (.ireturn, 1) := by decide +kernel
theorem dX7_mailAt_0 : decode cX7_mailAt 0 = .ok (.aload_n 0, 1) := by decide +kernel
theorem dX7_mailAt_1 : decode cX7_mailAt 1 = .ok (.aload_n 0, 1) := by decide +kernel
theorem dX7_mailAt_2 : decode cX7_mailAt 2 = .ok (.iload_n 1, 1) := by decide +kernel
theorem dX7_mailAt_3 : decode cX7_mailAt 3 = .ok (.invokevirtual 149, 3) := by decide +kernel
theorem dX7_mailAt_6 : decode cX7_mailAt 6 = .ok (.ifCond .ne 7, 3) := by decide +kernel
theorem dX7_mailAt_9 : decode cX7_mailAt 9 = .ok (.iconst 1, 1) := by decide +kernel
theorem dX7_mailAt_10 : decode cX7_mailAt 10 = .ok (.goto 23, 3) := by decide +kernel
theorem dX7_mailAt_13 : decode cX7_mailAt 13 = .ok (.iload_n 2, 1) := by decide +kernel
theorem dX7_mailAt_14 : decode cX7_mailAt 14 = .ok (.iconst 0, 1) := by decide +kernel
theorem dX7_mailAt_15 : decode cX7_mailAt 15 = .ok (.aload_n 0, 1) := by decide +kernel
theorem dX7_mailAt_16 : decode cX7_mailAt 16 = .ok (.iload_n 1, 1) := by decide +kernel
theorem dX7_mailAt_17 : decode cX7_mailAt 17 = .ok (.invokevirtual 152, 3) := by decide +kernel
theorem dX7_mailAt_20 : decode cX7_mailAt 20 = .ok (.iconst 1, 1) := by decide +kernel
theorem dX7_mailAt_21 : decode cX7_mailAt 21 = .ok (.isub, 1) := by decide +kernel
theorem dX7_mailAt_22 : decode cX7_mailAt 22 = .ok (.invokestatic 104, 3) := by decide +kernel
theorem dX7_mailAt_25 : decode cX7_mailAt 25 = .ok (.ifCond .ne 7, 3) := by decide +kernel
theorem dX7_mailAt_28 : decode cX7_mailAt 28 = .ok (.iconst 2, 1) := by decide +kernel
theorem dX7_mailAt_29 : decode cX7_mailAt 29 = .ok (.goto 4, 3) := by decide +kernel
theorem dX7_mailAt_32 : decode cX7_mailAt 32 = .ok (.iconst 0, 1) := by decide +kernel
theorem dX7_mailAt_33 : decode cX7_mailAt 33 = .ok (.putfield 69, 3) := by decide +kernel
theorem dX7_mailAt_36 : decode cX7_mailAt 36 = .ok (.aload_n 0, 1) := by decide +kernel
theorem dX7_mailAt_37 : decode cX7_mailAt 37 = .ok (.getfield 69, 3) := by decide +kernel
theorem dX7_mailAt_40 : decode cX7_mailAt 40 = .ok (.ifCond .le 5, 3) := by decide +kernel
theorem dX7_mailAt_43 : decode cX7_mailAt 43 = .ok (.iconst 0, 1) := by decide +kernel
theorem dX7_mailAt_44 : decode cX7_mailAt 44 = .ok (.ireturn, 1) := by decide +kernel
theorem dX7_mailAt_45 : decode cX7_mailAt 45 = .ok (.iconst (-1), 1) := by decide +kernel
theorem dX7_mailAt_46 : decode cX7_mailAt 46 = .ok (.istore_n 3, 1) := by decide +kernel
theorem dX7_mailAt_47 : decode cX7_mailAt 47 = .ok (.iload_n 2, 1) := by decide +kernel
theorem dX7_mailAt_48 : decode cX7_mailAt 48 = .ok (.istore 4, 2) := by decide +kernel
theorem dX7_mailAt_50 : decode cX7_mailAt 50 = .ok (.iload 4, 2) := by decide +kernel
theorem dX7_mailAt_52 : decode cX7_mailAt 52 = .ok (.ifCond .lt 28, 3) := by decide +kernel
theorem dX7_mailAt_55 : decode cX7_mailAt 55 = .ok (.iinc 3 1, 3) := by decide +kernel
theorem dX7_mailAt_58 : decode cX7_mailAt 58 = .ok (.aload_n 0, 1) := by decide +kernel
theorem dX7_mailAt_59 : decode cX7_mailAt 59 = .ok (.getfield 16, 3) := by decide +kernel
theorem dX7_mailAt_62 : decode cX7_mailAt 62 = .ok (.iload_n 3, 1) := by decide +kernel
theorem dX7_mailAt_63 : decode cX7_mailAt 63 = .ok (.iaload, 1) := by decide +kernel
theorem dX7_mailAt_64 : decode cX7_mailAt 64 = .ok (.iload_n 1, 1) := by decide +kernel
theorem dX7_mailAt_65 : decode cX7_mailAt 65 = .ok (.if_icmp .eq 9, 3) := by decide +kernel
theorem dX7_mailAt_68 : decode cX7_mailAt 68 = .ok (.iinc 3 1, 3) := by decide +kernel
theorem dX7_mailAt_71 : decode cX7_mailAt 71 = .ok (.goto (-13), 3) := by decide +kernel
theorem dX7_mailAt_74 : decode cX7_mailAt 74 = .ok (.iinc 4 (-1), 3) := by decide +kernel
theorem dX7_mailAt_77 : decode cX7_mailAt 77 = .ok (.goto (-27), 3) := by decide +kernel
theorem dX7_mailAt_80 : decode cX7_mailAt 80 = .ok (.iload_n 3, 1) := by decide +kernel
theorem dX7_mailAt_81 : decode cX7_mailAt 81 = .ok (.ireturn, 1) := by decide +kernel
theorem dX7_tickets_0 : decode cX7_tickets 0 = .ok (.aload_n 0, 1) := by decide +kernel
theorem dX7_tickets_1 : decode cX7_tickets 1 = .ok (.aload_n 0, 1) := by decide +kernel
theorem dX7_tickets_2 : decode cX7_tickets 2 = .ok (.getfield 79, 3) := by decide +kernel
theorem dX7_tickets_5 : decode cX7_tickets 5 = .ok (.invokevirtual 120, 3) := by decide +kernel
theorem dX7_tickets_8 : decode cX7_tickets 8 = .ok (.ireturn, 1) := by decide +kernel
theorem dX7_stateOf_0 : decode cX7_stateOf 0 = .ok (.aload_n 0, 1) := by decide +kernel
theorem dX7_stateOf_1 : decode cX7_stateOf 1 = .ok (.aload_n 0, 1) := by decide +kernel
theorem dX7_stateOf_2 : decode cX7_stateOf 2 = .ok (.iload_n 1, 1) := by decide +kernel
theorem dX7_stateOf_3 : decode cX7_stateOf 3 = .ok (.invokevirtual 149, 3) := by decide +kernel
theorem dX7_stateOf_6 : decode cX7_stateOf 6 = .ok (.invokevirtual 112, 3) := by decide +kernel
theorem dX7_stateOf_9 : decode cX7_stateOf 9 = .ok (.ifCond .le 8, 3) := by decide +kernel
theorem dX7_stateOf_12 : decode cX7_stateOf 12 = .ok (.bipush 63, 2) := by decide +kernel
theorem dX7_stateOf_14 : decode cX7_stateOf 14 = .ok (.goto 9, 3) := by decide +kernel
theorem dX7_stateOf_17 : decode cX7_stateOf 17 = .ok (.aload_n 0, 1) := by decide +kernel
theorem dX7_stateOf_18 : decode cX7_stateOf 18 = .ok (.getfield 49, 3) := by decide +kernel
theorem dX7_stateOf_21 : decode cX7_stateOf 21 = .ok (.iload_n 1, 1) := by decide +kernel
theorem dX7_stateOf_22 : decode cX7_stateOf 22 = .ok (.caload, 1) := by decide +kernel
theorem dX7_stateOf_23 : decode cX7_stateOf 23 = .ok (.ireturn, 1) := by decide +kernel
theorem dX7_mergedInto_0 : decode cX7_mergedInto 0 = .ok (.aload_n 0, 1) := by decide +kernel
theorem dX7_mergedInto_1 : decode cX7_mergedInto 1 = .ok (.aload_n 0, 1) := by decide +kernel
theorem dX7_mergedInto_2 : decode cX7_mergedInto 2 = .ok (.iload_n 1, 1) := by decide +kernel
theorem dX7_mergedInto_3 : decode cX7_mergedInto 3 = .ok (.invokevirtual 149, 3) := by decide +kernel
theorem dX7_mergedInto_6 : decode cX7_mergedInto 6 = .ok (.ifCond .ne 7, 3) := by decide +kernel
theorem dX7_mergedInto_9 : decode cX7_mergedInto 9 = .ok (.iconst 1, 1) := by decide +kernel
theorem dX7_mergedInto_10 : decode cX7_mergedInto 10 = .ok (.goto 17, 3) := by decide +kernel
theorem dX7_mergedInto_13 : decode cX7_mergedInto 13 = .ok (.aload_n 0, 1) := by decide +kernel
theorem dX7_mergedInto_14 : decode cX7_mergedInto 14 = .ok (.getfield 43, 3) := by decide +kernel
theorem dX7_mergedInto_17 : decode cX7_mergedInto 17 = .ok (.iload_n 1, 1) := by decide +kernel
theorem dX7_mergedInto_18 : decode cX7_mergedInto 18 = .ok (.iaload, 1) := by decide +kernel
theorem dX7_mergedInto_19 : decode cX7_mergedInto 19 = .ok (.ifCond .ge 7, 3) := by decide +kernel
theorem dX7_mergedInto_22 : decode cX7_mergedInto 22 = .ok (.iconst 2, 1) := by decide +kernel
theorem dX7_mergedInto_23 : decode cX7_mergedInto 23 = .ok (.goto 4, 3) := by decide +kernel
theorem dX7_mergedInto_26 : decode cX7_mergedInto 26 = .ok (.iconst 0, 1) := by decide +kernel
theorem dX7_mergedInto_27 : decode cX7_mergedInto 27 = .ok (.putfield 69, 3) := by decide +kernel
theorem dX7_mergedInto_30 : decode cX7_mergedInto 30 = .ok (.aload_n 0, 1) := by decide +kernel
theorem dX7_mergedInto_31 : decode cX7_mergedInto 31 = .ok (.getfield 69, 3) := by decide +kernel
theorem dX7_mergedInto_34 : decode cX7_mergedInto 34 = .ok (.ifCond .le 5, 3) := by decide +kernel
theorem dX7_mergedInto_37 : decode cX7_mergedInto 37 = .ok (.iconst 0, 1) := by decide +kernel
theorem dX7_mergedInto_38 : decode cX7_mergedInto 38 = .ok (.ireturn, 1) := by decide +kernel
theorem dX7_mergedInto_39 : decode cX7_mergedInto 39 = .ok (.iload_n 1, 1) := by decide +kernel
theorem dX7_mergedInto_40 : decode cX7_mergedInto 40 = .ok (.istore_n 2, 1) := by decide +kernel
theorem dX7_mergedInto_41 : decode cX7_mergedInto 41 = .ok (.aload_n 0, 1) := by decide +kernel
theorem dX7_mergedInto_42 : decode cX7_mergedInto 42 = .ok (.getfield 43, 3) := by decide +kernel
theorem dX7_mergedInto_45 : decode cX7_mergedInto 45 = .ok (.iload_n 2, 1) := by decide +kernel
theorem dX7_mergedInto_46 : decode cX7_mergedInto 46 = .ok (.iaload, 1) := by decide +kernel
theorem dX7_mergedInto_47 : decode cX7_mergedInto 47 = .ok (.ifCond .lt 13, 3) := by decide +kernel
theorem dX7_mergedInto_50 : decode cX7_mergedInto 50 = .ok (.aload_n 0, 1) := by decide +kernel
theorem dX7_mergedInto_51 : decode cX7_mergedInto 51 = .ok (.getfield 43, 3) := by decide +kernel
theorem dX7_mergedInto_54 : decode cX7_mergedInto 54 = .ok (.iload_n 2, 1) := by decide +kernel
theorem dX7_mergedInto_55 : decode cX7_mergedInto 55 = .ok (.iaload, 1) := by decide +kernel
theorem dX7_mergedInto_56 : decode cX7_mergedInto 56 = .ok (.istore_n 2, 1) := by decide +kernel
theorem dX7_mergedInto_57 : decode cX7_mergedInto 57 = .ok (.goto (-16), 3) := by decide +kernel
theorem dX7_mergedInto_60 : decode cX7_mergedInto 60 = .ok (.iload_n 2, 1) := by decide +kernel
theorem dX7_mergedInto_61 : decode cX7_mergedInto 61 = .ok (.ireturn, 1) := by decide +kernel
theorem dX7_hasSkill_0 : decode cX7_hasSkill 0 = .ok (.aload_n 0, 1) := by decide +kernel
theorem dX7_hasSkill_1 : decode cX7_hasSkill 1 = .ok (.getfield 60, 3) := by decide +kernel
theorem dX7_hasSkill_4 : decode cX7_hasSkill 4 = .ok (.iload_n 1, 1) := by decide +kernel
theorem dX7_hasSkill_5 : decode cX7_hasSkill 5 = .ok (.iaload, 1) := by decide +kernel
theorem dX7_hasSkill_6 : decode cX7_hasSkill 6 = .ok (.iload_n 2, 1) := by decide +kernel
theorem dX7_hasSkill_7 : decode cX7_hasSkill 7 = .ok (.ishr, 1) := by decide +kernel
theorem dX7_hasSkill_8 : decode cX7_hasSkill 8 = .ok (.iconst 1, 1) := by decide +kernel
theorem dX7_hasSkill_9 : decode cX7_hasSkill 9 = .ok (.iand, 1) := by decide +kernel
theorem dX7_hasSkill_10 : decode cX7_hasSkill 10 = .ok (.iconst 1, 1) := by decide +kernel
theorem dX7_hasSkill_11 : decode cX7_hasSkill 11 = .ok (.if_icmp .ne 7, 3) := by decide +kernel
theorem dX7_hasSkill_14 : decode cX7_hasSkill 14 = .ok (.iconst 1, 1) := by decide +kernel
theorem dX7_hasSkill_15 : decode cX7_hasSkill 15 = .ok (.goto 4, 3) := by decide +kernel
theorem dX7_hasSkill_18 : decode cX7_hasSkill 18 = .ok (.iconst 0, 1) := by decide +kernel
theorem dX7_hasSkill_19 : decode cX7_hasSkill 19 = .ok (.ireturn, 1) := by decide +kernel
theorem dX7_setTopic_0 : decode cX7_setTopic 0 = .ok (.aload_n 0, 1) := by decide +kernel
theorem dX7_setTopic_1 : decode cX7_setTopic 1 = .ok (.aload_n 0, 1) := by decide +kernel
theorem dX7_setTopic_2 : decode cX7_setTopic 2 = .ok (.iload_n 1, 1) := by decide +kernel
theorem dX7_setTopic_3 : decode cX7_setTopic 3 = .ok (.invokevirtual 149, 3) := by decide +kernel
theorem dX7_setTopic_6 : decode cX7_setTopic 6 = .ok (.ifCond .ne 7, 3) := by decide +kernel
theorem dX7_setTopic_9 : decode cX7_setTopic 9 = .ok (.iconst 1, 1) := by decide +kernel
theorem dX7_setTopic_10 : decode cX7_setTopic 10 = .ok (.goto 29, 3) := by decide +kernel
theorem dX7_setTopic_13 : decode cX7_setTopic 13 = .ok (.iload_n 2, 1) := by decide +kernel
theorem dX7_setTopic_14 : decode cX7_setTopic 14 = .ok (.iconst 0, 1) := by decide +kernel
theorem dX7_setTopic_15 : decode cX7_setTopic 15 = .ok (.iconst 5, 1) := by decide +kernel
theorem dX7_setTopic_16 : decode cX7_setTopic 16 = .ok (.invokestatic 104, 3) := by decide +kernel
theorem dX7_setTopic_19 : decode cX7_setTopic 19 = .ok (.ifCond .ne 7, 3) := by decide +kernel
theorem dX7_setTopic_22 : decode cX7_setTopic 22 = .ok (.iconst 2, 1) := by decide +kernel
theorem dX7_setTopic_23 : decode cX7_setTopic 23 = .ok (.goto 16, 3) := by decide +kernel
theorem dX7_setTopic_26 : decode cX7_setTopic 26 = .ok (.aload_n 0, 1) := by decide +kernel
theorem dX7_setTopic_27 : decode cX7_setTopic 27 = .ok (.iload_n 1, 1) := by decide +kernel
theorem dX7_setTopic_28 : decode cX7_setTopic 28 = .ok (.invokevirtual 123, 3) := by decide +kernel
theorem dX7_setTopic_31 : decode cX7_setTopic 31 = .ok (.ifCond .ne 7, 3) := by decide +kernel
theorem dX7_setTopic_34 : decode cX7_setTopic 34 = .ok (.iconst 3, 1) := by decide +kernel
theorem dX7_setTopic_35 : decode cX7_setTopic 35 = .ok (.goto 4, 3) := by decide +kernel
theorem dX7_setTopic_38 : decode cX7_setTopic 38 = .ok (.iconst 0, 1) := by decide +kernel
theorem dX7_setTopic_39 : decode cX7_setTopic 39 = .ok (.putfield 69, 3) := by decide +kernel
theorem dX7_setTopic_42 : decode cX7_setTopic 42 = .ok (.aload_n 0, 1) := by decide +kernel
theorem dX7_setTopic_43 : decode cX7_setTopic 43 = .ok (.getfield 69, 3) := by decide +kernel
theorem dX7_setTopic_46 : decode cX7_setTopic 46 = .ok (.ifCond .le 5, 3) := by decide +kernel
theorem dX7_setTopic_49 : decode cX7_setTopic 49 = .ok (.iconst 0, 1) := by decide +kernel
theorem dX7_setTopic_50 : decode cX7_setTopic 50 = .ok (.ireturn, 1) := by decide +kernel
theorem dX7_setTopic_51 : decode cX7_setTopic 51 = .ok (.aload_n 0, 1) := by decide +kernel
theorem dX7_setTopic_52 : decode cX7_setTopic 52 = .ok (.getfield 28, 3) := by decide +kernel
theorem dX7_setTopic_55 : decode cX7_setTopic 55 = .ok (.iload_n 1, 1) := by decide +kernel
theorem dX7_setTopic_56 : decode cX7_setTopic 56 = .ok (.iaload, 1) := by decide +kernel
theorem dX7_setTopic_57 : decode cX7_setTopic 57 = .ok (.istore_n 3, 1) := by decide +kernel
theorem dX7_setTopic_58 : decode cX7_setTopic 58 = .ok (.aload_n 0, 1) := by decide +kernel
theorem dX7_setTopic_59 : decode cX7_setTopic 59 = .ok (.getfield 28, 3) := by decide +kernel
theorem dX7_setTopic_62 : decode cX7_setTopic 62 = .ok (.iload_n 1, 1) := by decide +kernel
theorem dX7_setTopic_63 : decode cX7_setTopic 63 = .ok (.iload_n 2, 1) := by decide +kernel
theorem dX7_setTopic_64 : decode cX7_setTopic 64 = .ok (.iastore, 1) := by decide +kernel
theorem dX7_setTopic_65 : decode cX7_setTopic 65 = .ok (.aload_n 0, 1) := by decide +kernel
theorem dX7_setTopic_66 : decode cX7_setTopic 66 = .ok (.getfield 34, 3) := by decide +kernel
theorem dX7_setTopic_69 : decode cX7_setTopic 69 = .ok (.iload_n 1, 1) := by decide +kernel
theorem dX7_setTopic_70 : decode cX7_setTopic 70 = .ok (.iaload, 1) := by decide +kernel
theorem dX7_setTopic_71 : decode cX7_setTopic 71 = .ok (.ifCond .lt 24, 3) := by decide +kernel
theorem dX7_setTopic_74 : decode cX7_setTopic 74 = .ok (.aload_n 0, 1) := by decide +kernel
theorem dX7_setTopic_75 : decode cX7_setTopic 75 = .ok (.aload_n 0, 1) := by decide +kernel
theorem dX7_setTopic_76 : decode cX7_setTopic 76 = .ok (.getfield 34, 3) := by decide +kernel
theorem dX7_setTopic_79 : decode cX7_setTopic 79 = .ok (.iload_n 1, 1) := by decide +kernel
theorem dX7_setTopic_80 : decode cX7_setTopic 80 = .ok (.iaload, 1) := by decide +kernel
theorem dX7_setTopic_81 : decode cX7_setTopic 81 = .ok (.iload_n 2, 1) := by decide +kernel
theorem dX7_setTopic_82 : decode cX7_setTopic 82 = .ok (.invokevirtual 155, 3) := by decide +kernel
theorem dX7_setTopic_85 : decode cX7_setTopic 85 = .ok (.ifCond .ne 10, 3) := by decide +kernel
theorem dX7_setTopic_88 : decode cX7_setTopic 88 = .ok (.aload_n 0, 1) := by decide +kernel
theorem dX7_setTopic_89 : decode cX7_setTopic 89 = .ok (.getfield 34, 3) := by decide +kernel
theorem dX7_setTopic_92 : decode cX7_setTopic 92 = .ok (.iload_n 1, 1) := by decide +kernel
theorem dX7_setTopic_93 : decode cX7_setTopic 93 = .ok (.iconst (-1), 1) := by decide +kernel
theorem dX7_setTopic_94 : decode cX7_setTopic 94 = .ok (.iastore, 1) := by decide +kernel
theorem dX7_setTopic_95 : decode cX7_setTopic 95 = .ok (.iload_n 3, 1) := by decide +kernel
theorem dX7_setTopic_96 : decode cX7_setTopic 96 = .ok (.ireturn, 1) := by decide +kernel
theorem dX7_wrongLive_0 : decode cX7_wrongLive 0 = .ok (.aload_n 0, 1) := by decide +kernel
theorem dX7_wrongLive_1 : decode cX7_wrongLive 1 = .ok (.iload_n 1, 1) := by decide +kernel
theorem dX7_wrongLive_2 : decode cX7_wrongLive 2 = .ok (.invokevirtual 149, 3) := by decide +kernel
theorem dX7_wrongLive_5 : decode cX7_wrongLive 5 = .ok (.ifCond .ne 7, 3) := by decide +kernel
theorem dX7_wrongLive_8 : decode cX7_wrongLive 8 = .ok (.iconst 1, 1) := by decide +kernel
theorem dX7_wrongLive_9 : decode cX7_wrongLive 9 = .ok (.goto 16, 3) := by decide +kernel
theorem dX7_wrongLive_12 : decode cX7_wrongLive 12 = .ok (.aload_n 0, 1) := by decide +kernel
theorem dX7_wrongLive_13 : decode cX7_wrongLive 13 = .ok (.iload_n 1, 1) := by decide +kernel
theorem dX7_wrongLive_14 : decode cX7_wrongLive 14 = .ok (.invokevirtual 123, 3) := by decide +kernel
theorem dX7_wrongLive_17 : decode cX7_wrongLive 17 = .ok (.ifCond .ne 7, 3) := by decide +kernel
theorem dX7_wrongLive_20 : decode cX7_wrongLive 20 = .ok (.iconst 2, 1) := by decide +kernel
theorem dX7_wrongLive_21 : decode cX7_wrongLive 21 = .ok (.goto 4, 3) := by decide +kernel
theorem dX7_wrongLive_24 : decode cX7_wrongLive 24 = .ok (.iconst 0, 1) := by decide +kernel
theorem dX7_wrongLive_25 : decode cX7_wrongLive 25 = .ok (.ireturn, 1) := by decide +kernel
theorem dX7_clock_0 : decode cX7_clock 0 = .ok (.aload_n 0, 1) := by decide +kernel
theorem dX7_clock_1 : decode cX7_clock 1 = .ok (.aload_n 0, 1) := by decide +kernel
theorem dX7_clock_2 : decode cX7_clock 2 = .ok (.iload_n 1, 1) := by decide +kernel
theorem dX7_clock_3 : decode cX7_clock 3 = .ok (.invokevirtual 159, 3) := by decide +kernel
theorem dX7_clock_6 : decode cX7_clock 6 = .ok (.putfield 69, 3) := by decide +kernel
theorem dX7_clock_9 : decode cX7_clock 9 = .ok (.aload_n 0, 1) := by decide +kernel
theorem dX7_clock_10 : decode cX7_clock 10 = .ok (.getfield 69, 3) := by decide +kernel
theorem dX7_clock_13 : decode cX7_clock 13 = .ok (.ifCond .le 7, 3) := by decide +kernel
theorem dX7_clock_16 : decode cX7_clock 16 = .ok (.iconst 0, 1) := by decide +kernel
theorem dX7_clock_17 : decode cX7_clock 17 = .ok (.goto 9, 3) := by decide +kernel
theorem dX7_clock_20 : decode cX7_clock 20 = .ok (.aload_n 0, 1) := by decide +kernel
theorem dX7_clock_21 : decode cX7_clock 21 = .ok (.getfield 31, 3) := by decide +kernel
theorem dX7_clock_24 : decode cX7_clock 24 = .ok (.iload_n 1, 1) := by decide +kernel
theorem dX7_clock_25 : decode cX7_clock 25 = .ok (.iaload, 1) := by decide +kernel
theorem dX7_clock_26 : decode cX7_clock 26 = .ok (.ireturn, 1) := by decide +kernel
theorem dX7_leftOf_0 : decode cX7_leftOf 0 = .ok (.aload_n 0, 1) := by decide +kernel
theorem dX7_leftOf_1 : decode cX7_leftOf 1 = .ok (.aload_n 0, 1) := by decide +kernel
theorem dX7_leftOf_2 : decode cX7_leftOf 2 = .ok (.iload_n 1, 1) := by decide +kernel
theorem dX7_leftOf_3 : decode cX7_leftOf 3 = .ok (.invokevirtual 159, 3) := by decide +kernel
theorem dX7_leftOf_6 : decode cX7_leftOf 6 = .ok (.putfield 69, 3) := by decide +kernel
theorem dX7_leftOf_9 : decode cX7_leftOf 9 = .ok (.aload_n 0, 1) := by decide +kernel
theorem dX7_leftOf_10 : decode cX7_leftOf 10 = .ok (.getfield 69, 3) := by decide +kernel
theorem dX7_leftOf_13 : decode cX7_leftOf 13 = .ok (.ifCond .le 7, 3) := by decide +kernel
theorem dX7_leftOf_16 : decode cX7_leftOf 16 = .ok (.iconst 0, 1) := by decide +kernel
theorem dX7_leftOf_17 : decode cX7_leftOf 17 = .ok (.goto 8, 3) := by decide +kernel
theorem dX7_leftOf_20 : decode cX7_leftOf 20 = .ok (.aload_n 0, 1) := by decide +kernel
theorem dX7_leftOf_21 : decode cX7_leftOf 21 = .ok (.iload_n 1, 1) := by decide +kernel
theorem dX7_leftOf_22 : decode cX7_leftOf 22 = .ok (.invokevirtual 108, 3) := by decide +kernel
theorem dX7_leftOf_25 : decode cX7_leftOf 25 = .ok (.ireturn, 1) := by decide +kernel
theorem dX7_isBreached_0 : decode cX7_isBreached 0 = .ok (.aload_n 0, 1) := by decide +kernel
theorem dX7_isBreached_1 : decode cX7_isBreached 1 = .ok (.aload_n 0, 1) := by decide +kernel
theorem dX7_isBreached_2 : decode cX7_isBreached 2 = .ok (.iload_n 1, 1) := by decide +kernel
theorem dX7_isBreached_3 : decode cX7_isBreached 3 = .ok (.invokevirtual 149, 3) := by decide +kernel
theorem dX7_isBreached_6 : decode cX7_isBreached 6 = .ok (.invokevirtual 112, 3) := by decide +kernel
theorem dX7_isBreached_9 : decode cX7_isBreached 9 = .ok (.ifCond .ne 24, 3) := by decide +kernel
theorem dX7_isBreached_12 : decode cX7_isBreached 12 = .ok (.aload_n 0, 1) := by decide +kernel
theorem dX7_isBreached_13 : decode cX7_isBreached 13 = .ok (.iload_n 1, 1) := by decide +kernel
theorem dX7_isBreached_14 : decode cX7_isBreached 14 = .ok (.invokevirtual 123, 3) := by decide +kernel
theorem dX7_isBreached_17 : decode cX7_isBreached 17 = .ok (.ifCond .eq 16, 3) := by decide +kernel
theorem dX7_isBreached_20 : decode cX7_isBreached 20 = .ok (.aload_n 0, 1) := by decide +kernel
theorem dX7_isBreached_21 : decode cX7_isBreached 21 = .ok (.getfield 53, 3) := by decide +kernel
theorem dX7_isBreached_24 : decode cX7_isBreached 24 = .ok (.iload_n 1, 1) := by decide +kernel
theorem dX7_isBreached_25 : decode cX7_isBreached 25 = .ok (.baload, 1) := by decide +kernel
theorem dX7_isBreached_26 : decode cX7_isBreached 26 = .ok (.ifCond .eq 7, 3) := by decide +kernel
theorem dX7_isBreached_29 : decode cX7_isBreached 29 = .ok (.iconst 1, 1) := by decide +kernel
theorem dX7_isBreached_30 : decode cX7_isBreached 30 = .ok (.goto 4, 3) := by decide +kernel
theorem dX7_isBreached_33 : decode cX7_isBreached 33 = .ok (.iconst 0, 1) := by decide +kernel
theorem dX7_isBreached_34 : decode cX7_isBreached 34 = .ok (.ireturn, 1) := by decide +kernel
theorem dX7_addAgent_0 : decode cX7_addAgent 0 = .ok (.aload_n 0, 1) := by decide +kernel
theorem dX7_addAgent_1 : decode cX7_addAgent 1 = .ok (.iload_n 1, 1) := by decide +kernel
theorem dX7_addAgent_2 : decode cX7_addAgent 2 = .ok (.iconst 0, 1) := by decide +kernel
theorem dX7_addAgent_3 : decode cX7_addAgent 3 = .ok (.bipush 63, 2) := by decide +kernel
theorem dX7_addAgent_5 : decode cX7_addAgent 5 = .ok (.invokestatic 104, 3) := by decide +kernel
theorem dX7_addAgent_8 : decode cX7_addAgent 8 = .ok (.ifCond .ne 7, 3) := by decide +kernel
theorem dX7_addAgent_11 : decode cX7_addAgent 11 = .ok (.iconst 1, 1) := by decide +kernel
theorem dX7_addAgent_12 : decode cX7_addAgent 12 = .ok (.goto 17, 3) := by decide +kernel
theorem dX7_addAgent_15 : decode cX7_addAgent 15 = .ok (.aload_n 0, 1) := by decide +kernel
theorem dX7_addAgent_16 : decode cX7_addAgent 16 = .ok (.getfield 82, 3) := by decide +kernel
theorem dX7_addAgent_19 : decode cX7_addAgent 19 = .ok (.bipush 6, 2) := by decide +kernel
theorem dX7_addAgent_21 : decode cX7_addAgent 21 = .ok (.if_icmp .ne 7, 3) := by decide +kernel
theorem dX7_addAgent_24 : decode cX7_addAgent 24 = .ok (.iconst 2, 1) := by decide +kernel
theorem dX7_addAgent_25 : decode cX7_addAgent 25 = .ok (.goto 4, 3) := by decide +kernel
theorem dX7_addAgent_28 : decode cX7_addAgent 28 = .ok (.iconst 0, 1) := by decide +kernel
theorem dX7_addAgent_29 : decode cX7_addAgent 29 = .ok (.putfield 69, 3) := by decide +kernel
theorem dX7_addAgent_32 : decode cX7_addAgent 32 = .ok (.aload_n 0, 1) := by decide +kernel
theorem dX7_addAgent_33 : decode cX7_addAgent 33 = .ok (.getfield 69, 3) := by decide +kernel
theorem dX7_addAgent_36 : decode cX7_addAgent 36 = .ok (.ifCond .le 5, 3) := by decide +kernel
theorem dX7_addAgent_39 : decode cX7_addAgent 39 = .ok (.iconst 0, 1) := by decide +kernel
theorem dX7_addAgent_40 : decode cX7_addAgent 40 = .ok (.ireturn, 1) := by decide +kernel
theorem dX7_addAgent_41 : decode cX7_addAgent 41 = .ok (.aload_n 0, 1) := by decide +kernel
theorem dX7_addAgent_42 : decode cX7_addAgent 42 = .ok (.getfield 60, 3) := by decide +kernel
theorem dX7_addAgent_45 : decode cX7_addAgent 45 = .ok (.aload_n 0, 1) := by decide +kernel
theorem dX7_addAgent_46 : decode cX7_addAgent 46 = .ok (.getfield 82, 3) := by decide +kernel
theorem dX7_addAgent_49 : decode cX7_addAgent 49 = .ok (.iload_n 1, 1) := by decide +kernel
theorem dX7_addAgent_50 : decode cX7_addAgent 50 = .ok (.iastore, 1) := by decide +kernel
theorem dX7_addAgent_51 : decode cX7_addAgent 51 = .ok (.aload_n 0, 1) := by decide +kernel
theorem dX7_addAgent_52 : decode cX7_addAgent 52 = .ok (.dup, 1) := by decide +kernel
theorem dX7_addAgent_53 : decode cX7_addAgent 53 = .ok (.getfield 82, 3) := by decide +kernel
theorem dX7_addAgent_56 : decode cX7_addAgent 56 = .ok (.iconst 1, 1) := by decide +kernel
theorem dX7_addAgent_57 : decode cX7_addAgent 57 = .ok (.iadd, 1) := by decide +kernel
theorem dX7_addAgent_58 : decode cX7_addAgent 58 = .ok (.putfield 82, 3) := by decide +kernel
theorem dX7_addAgent_61 : decode cX7_addAgent 61 = .ok (.aload_n 0, 1) := by decide +kernel
theorem dX7_addAgent_62 : decode cX7_addAgent 62 = .ok (.getfield 82, 3) := by decide +kernel
theorem dX7_addAgent_65 : decode cX7_addAgent 65 = .ok (.iconst 1, 1) := by decide +kernel
theorem dX7_addAgent_66 : decode cX7_addAgent 66 = .ok (.isub, 1) := by decide +kernel
theorem dX7_addAgent_67 : decode cX7_addAgent 67 = .ok (.ireturn, 1) := by decide +kernel
theorem dX7_learn_0 : decode cX7_learn 0 = .ok (.aload_n 0, 1) := by decide +kernel
theorem dX7_learn_1 : decode cX7_learn 1 = .ok (.aload_n 0, 1) := by decide +kernel
theorem dX7_learn_2 : decode cX7_learn 2 = .ok (.iload_n 1, 1) := by decide +kernel
theorem dX7_learn_3 : decode cX7_learn 3 = .ok (.invokevirtual 162, 3) := by decide +kernel
theorem dX7_learn_6 : decode cX7_learn 6 = .ok (.ifCond .ne 7, 3) := by decide +kernel
theorem dX7_learn_9 : decode cX7_learn 9 = .ok (.iconst 1, 1) := by decide +kernel
theorem dX7_learn_10 : decode cX7_learn 10 = .ok (.goto 30, 3) := by decide +kernel
theorem dX7_learn_13 : decode cX7_learn 13 = .ok (.iload_n 2, 1) := by decide +kernel
theorem dX7_learn_14 : decode cX7_learn 14 = .ok (.iconst 0, 1) := by decide +kernel
theorem dX7_learn_15 : decode cX7_learn 15 = .ok (.iconst 5, 1) := by decide +kernel
theorem dX7_learn_16 : decode cX7_learn 16 = .ok (.invokestatic 104, 3) := by decide +kernel
theorem dX7_learn_19 : decode cX7_learn 19 = .ok (.ifCond .ne 7, 3) := by decide +kernel
theorem dX7_learn_22 : decode cX7_learn 22 = .ok (.iconst 2, 1) := by decide +kernel
theorem dX7_learn_23 : decode cX7_learn 23 = .ok (.goto 17, 3) := by decide +kernel
theorem dX7_learn_26 : decode cX7_learn 26 = .ok (.aload_n 0, 1) := by decide +kernel
theorem dX7_learn_27 : decode cX7_learn 27 = .ok (.iload_n 1, 1) := by decide +kernel
theorem dX7_learn_28 : decode cX7_learn 28 = .ok (.iload_n 2, 1) := by decide +kernel
theorem dX7_learn_29 : decode cX7_learn 29 = .ok (.invokevirtual 155, 3) := by decide +kernel
theorem dX7_learn_32 : decode cX7_learn 32 = .ok (.ifCond .eq 7, 3) := by decide +kernel
theorem dX7_learn_35 : decode cX7_learn 35 = .ok (.iconst 3, 1) := by decide +kernel
theorem dX7_learn_36 : decode cX7_learn 36 = .ok (.goto 4, 3) := by decide +kernel
theorem dX7_learn_39 : decode cX7_learn 39 = .ok (.iconst 0, 1) := by decide +kernel
theorem dX7_learn_40 : decode cX7_learn 40 = .ok (.putfield 69, 3) := by decide +kernel
theorem dX7_learn_43 : decode cX7_learn 43 = .ok (.aload_n 0, 1) := by decide +kernel
theorem dX7_learn_44 : decode cX7_learn 44 = .ok (.getfield 69, 3) := by decide +kernel
theorem dX7_learn_47 : decode cX7_learn 47 = .ok (.ifCond .le 5, 3) := by decide +kernel
theorem dX7_learn_50 : decode cX7_learn 50 = .ok (.iconst 0, 1) := by decide +kernel
theorem dX7_learn_51 : decode cX7_learn 51 = .ok (.ireturn, 1) := by decide +kernel
theorem dX7_learn_52 : decode cX7_learn 52 = .ok (.aload_n 0, 1) := by decide +kernel
theorem dX7_learn_53 : decode cX7_learn 53 = .ok (.getfield 60, 3) := by decide +kernel
theorem dX7_learn_56 : decode cX7_learn 56 = .ok (.iload_n 1, 1) := by decide +kernel
theorem dX7_learn_57 : decode cX7_learn 57 = .ok (.dup2, 1) := by decide +kernel
theorem dX7_learn_58 : decode cX7_learn 58 = .ok (.iaload, 1) := by decide +kernel
theorem dX7_learn_59 : decode cX7_learn 59 = .ok (.iconst 1, 1) := by decide +kernel
theorem dX7_learn_60 : decode cX7_learn 60 = .ok (.iload_n 2, 1) := by decide +kernel
theorem dX7_learn_61 : decode cX7_learn 61 = .ok (.ishl, 1) := by decide +kernel
theorem dX7_learn_62 : decode cX7_learn 62 = .ok (.ior, 1) := by decide +kernel
theorem dX7_learn_63 : decode cX7_learn 63 = .ok (.iastore, 1) := by decide +kernel
theorem dX7_learn_64 : decode cX7_learn 64 = .ok (.aload_n 0, 1) := by decide +kernel
theorem dX7_learn_65 : decode cX7_learn 65 = .ok (.getfield 60, 3) := by decide +kernel
theorem dX7_learn_68 : decode cX7_learn 68 = .ok (.iload_n 1, 1) := by decide +kernel
theorem dX7_learn_69 : decode cX7_learn 69 = .ok (.iaload, 1) := by decide +kernel
theorem dX7_learn_70 : decode cX7_learn 70 = .ok (.invokestatic 165, 3) := by decide +kernel
theorem dX7_learn_73 : decode cX7_learn 73 = .ok (.ireturn, 1) := by decide +kernel
theorem dX7_setOnShift_0 : decode cX7_setOnShift 0 = .ok (.aload_n 0, 1) := by decide +kernel
theorem dX7_setOnShift_1 : decode cX7_setOnShift 1 = .ok (.aload_n 0, 1) := by decide +kernel
theorem dX7_setOnShift_2 : decode cX7_setOnShift 2 = .ok (.iload_n 1, 1) := by decide +kernel
theorem dX7_setOnShift_3 : decode cX7_setOnShift 3 = .ok (.invokevirtual 162, 3) := by decide +kernel
theorem dX7_setOnShift_6 : decode cX7_setOnShift 6 = .ok (.invokevirtual 112, 3) := by decide +kernel
theorem dX7_setOnShift_9 : decode cX7_setOnShift 9 = .ok (.ifCond .le 5, 3) := by decide +kernel
theorem dX7_setOnShift_12 : decode cX7_setOnShift 12 = .ok (.iconst 0, 1) := by decide +kernel
theorem dX7_setOnShift_13 : decode cX7_setOnShift 13 = .ok (.ireturn, 1) := by decide +kernel
theorem dX7_setOnShift_14 : decode cX7_setOnShift 14 = .ok (.aload_n 0, 1) := by decide +kernel
theorem dX7_setOnShift_15 : decode cX7_setOnShift 15 = .ok (.getfield 57, 3) := by decide +kernel
theorem dX7_setOnShift_18 : decode cX7_setOnShift 18 = .ok (.iload_n 1, 1) := by decide +kernel
theorem dX7_setOnShift_19 : decode cX7_setOnShift 19 = .ok (.baload, 1) := by decide +kernel
theorem dX7_setOnShift_20 : decode cX7_setOnShift 20 = .ok (.istore_n 3, 1) := by decide +kernel
theorem dX7_setOnShift_21 : decode cX7_setOnShift 21 = .ok (.aload_n 0, 1) := by decide +kernel
theorem dX7_setOnShift_22 : decode cX7_setOnShift 22 = .ok (.getfield 57, 3) := by decide +kernel
theorem dX7_setOnShift_25 : decode cX7_setOnShift 25 = .ok (.iload_n 1, 1) := by decide +kernel
theorem dX7_setOnShift_26 : decode cX7_setOnShift 26 = .ok (.iload_n 2, 1) := by decide +kernel
theorem dX7_setOnShift_27 : decode cX7_setOnShift 27 = .ok (.bastore, 1) := by decide +kernel
theorem dX7_setOnShift_28 : decode cX7_setOnShift 28 = .ok (.iconst 0, 1) := by decide +kernel
theorem dX7_setOnShift_29 : decode cX7_setOnShift 29 = .ok (.istore 4, 2) := by decide +kernel
theorem dX7_setOnShift_31 : decode cX7_setOnShift 31 = .ok (.iload 4, 2) := by decide +kernel
theorem dX7_setOnShift_33 : decode cX7_setOnShift 33 = .ok (.aload_n 0, 1) := by decide +kernel
theorem dX7_setOnShift_34 : decode cX7_setOnShift 34 = .ok (.getfield 79, 3) := by decide +kernel
theorem dX7_setOnShift_37 : decode cX7_setOnShift 37 = .ok (.if_icmp .ge 32, 3) := by decide +kernel
theorem dX7_setOnShift_40 : decode cX7_setOnShift 40 = .ok (.iload_n 2, 1) := by decide +kernel
theorem dX7_setOnShift_41 : decode cX7_setOnShift 41 = .ok (.ifCond .ne 28, 3) := by decide +kernel
theorem dX7_setOnShift_44 : decode cX7_setOnShift 44 = .ok (.aload_n 0, 1) := by decide +kernel
theorem dX7_setOnShift_45 : decode cX7_setOnShift 45 = .ok (.getfield 34, 3) := by decide +kernel
theorem dX7_setOnShift_48 : decode cX7_setOnShift 48 = .ok (.iload 4, 2) := by decide +kernel
theorem dX7_setOnShift_50 : decode cX7_setOnShift 50 = .ok (.iaload, 1) := by decide +kernel
theorem dX7_setOnShift_51 : decode cX7_setOnShift 51 = .ok (.iload_n 1, 1) := by decide +kernel
theorem dX7_setOnShift_52 : decode cX7_setOnShift 52 = .ok (.if_icmp .ne 11, 3) := by decide +kernel
theorem dX7_setOnShift_55 : decode cX7_setOnShift 55 = .ok (.aload_n 0, 1) := by decide +kernel
theorem dX7_setOnShift_56 : decode cX7_setOnShift 56 = .ok (.getfield 34, 3) := by decide +kernel
theorem dX7_setOnShift_59 : decode cX7_setOnShift 59 = .ok (.iload 4, 2) := by decide +kernel
theorem dX7_setOnShift_61 : decode cX7_setOnShift 61 = .ok (.iconst (-1), 1) := by decide +kernel
theorem dX7_setOnShift_62 : decode cX7_setOnShift 62 = .ok (.iastore, 1) := by decide +kernel
theorem dX7_setOnShift_63 : decode cX7_setOnShift 63 = .ok (.iinc 4 1, 3) := by decide +kernel
theorem dX7_setOnShift_66 : decode cX7_setOnShift 66 = .ok (.goto (-35), 3) := by decide +kernel
theorem dX7_setOnShift_69 : decode cX7_setOnShift 69 = .ok (.iload_n 3, 1) := by decide +kernel
theorem dX7_setOnShift_70 : decode cX7_setOnShift 70 = .ok (.ireturn, 1) := by decide +kernel
theorem dX7_heldBy_0 : decode cX7_heldBy 0 = .ok (.iconst 0, 1) := by decide +kernel
theorem dX7_heldBy_1 : decode cX7_heldBy 1 = .ok (.istore_n 2, 1) := by decide +kernel
theorem dX7_heldBy_2 : decode cX7_heldBy 2 = .ok (.iconst 0, 1) := by decide +kernel
theorem dX7_heldBy_3 : decode cX7_heldBy 3 = .ok (.istore_n 3, 1) := by decide +kernel
theorem dX7_heldBy_4 : decode cX7_heldBy 4 = .ok (.iload_n 3, 1) := by decide +kernel
theorem dX7_heldBy_5 : decode cX7_heldBy 5 = .ok (.aload_n 0, 1) := by decide +kernel
theorem dX7_heldBy_6 : decode cX7_heldBy 6 = .ok (.getfield 79, 3) := by decide +kernel
theorem dX7_heldBy_9 : decode cX7_heldBy 9 = .ok (.if_icmp .ge 27, 3) := by decide +kernel
theorem dX7_heldBy_12 : decode cX7_heldBy 12 = .ok (.iload_n 2, 1) := by decide +kernel
theorem dX7_heldBy_13 : decode cX7_heldBy 13 = .ok (.aload_n 0, 1) := by decide +kernel
theorem dX7_heldBy_14 : decode cX7_heldBy 14 = .ok (.getfield 34, 3) := by decide +kernel
theorem dX7_heldBy_17 : decode cX7_heldBy 17 = .ok (.iload_n 3, 1) := by decide +kernel
theorem dX7_heldBy_18 : decode cX7_heldBy 18 = .ok (.iaload, 1) := by decide +kernel
theorem dX7_heldBy_19 : decode cX7_heldBy 19 = .ok (.iload_n 1, 1) := by decide +kernel
theorem dX7_heldBy_20 : decode cX7_heldBy 20 = .ok (.if_icmp .ne 7, 3) := by decide +kernel
theorem dX7_heldBy_23 : decode cX7_heldBy 23 = .ok (.iconst 1, 1) := by decide +kernel
theorem dX7_heldBy_24 : decode cX7_heldBy 24 = .ok (.goto 4, 3) := by decide +kernel
theorem dX7_heldBy_27 : decode cX7_heldBy 27 = .ok (.iconst 0, 1) := by decide +kernel
theorem dX7_heldBy_28 : decode cX7_heldBy 28 = .ok (.iadd, 1) := by decide +kernel
theorem dX7_heldBy_29 : decode cX7_heldBy 29 = .ok (.istore_n 2, 1) := by decide +kernel
theorem dX7_heldBy_30 : decode cX7_heldBy 30 = .ok (.iinc 3 1, 3) := by decide +kernel
theorem dX7_heldBy_33 : decode cX7_heldBy 33 = .ok (.goto (-29), 3) := by decide +kernel
theorem dX7_heldBy_36 : decode cX7_heldBy 36 = .ok (.iload_n 2, 1) := by decide +kernel
theorem dX7_heldBy_37 : decode cX7_heldBy 37 = .ok (.ireturn, 1) := by decide +kernel
theorem dX7_held_0 : decode cX7_held 0 = .ok (.aload_n 0, 1) := by decide +kernel
theorem dX7_held_1 : decode cX7_held 1 = .ok (.aload_n 0, 1) := by decide +kernel
theorem dX7_held_2 : decode cX7_held 2 = .ok (.iload_n 1, 1) := by decide +kernel
theorem dX7_held_3 : decode cX7_held 3 = .ok (.invokevirtual 162, 3) := by decide +kernel
theorem dX7_held_6 : decode cX7_held 6 = .ok (.invokevirtual 112, 3) := by decide +kernel
theorem dX7_held_9 : decode cX7_held 9 = .ok (.ifCond .le 7, 3) := by decide +kernel
theorem dX7_held_12 : decode cX7_held 12 = .ok (.iconst 0, 1) := by decide +kernel
theorem dX7_held_13 : decode cX7_held 13 = .ok (.goto 8, 3) := by decide +kernel
theorem dX7_held_16 : decode cX7_held 16 = .ok (.aload_n 0, 1) := by decide +kernel
theorem dX7_held_17 : decode cX7_held 17 = .ok (.iload_n 1, 1) := by decide +kernel
theorem dX7_held_18 : decode cX7_held 18 = .ok (.invokevirtual 168, 3) := by decide +kernel
theorem dX7_held_21 : decode cX7_held 21 = .ok (.ireturn, 1) := by decide +kernel
theorem dX7_agentOf_0 : decode cX7_agentOf 0 = .ok (.aload_n 0, 1) := by decide +kernel
theorem dX7_agentOf_1 : decode cX7_agentOf 1 = .ok (.aload_n 0, 1) := by decide +kernel
theorem dX7_agentOf_2 : decode cX7_agentOf 2 = .ok (.iload_n 1, 1) := by decide +kernel
theorem dX7_agentOf_3 : decode cX7_agentOf 3 = .ok (.invokevirtual 149, 3) := by decide +kernel
theorem dX7_agentOf_6 : decode cX7_agentOf 6 = .ok (.ifCond .ne 7, 3) := by decide +kernel
theorem dX7_agentOf_9 : decode cX7_agentOf 9 = .ok (.iconst 1, 1) := by decide +kernel
theorem dX7_agentOf_10 : decode cX7_agentOf 10 = .ok (.goto 17, 3) := by decide +kernel
theorem dX7_agentOf_13 : decode cX7_agentOf 13 = .ok (.aload_n 0, 1) := by decide +kernel
theorem dX7_agentOf_14 : decode cX7_agentOf 14 = .ok (.getfield 34, 3) := by decide +kernel
theorem dX7_agentOf_17 : decode cX7_agentOf 17 = .ok (.iload_n 1, 1) := by decide +kernel
theorem dX7_agentOf_18 : decode cX7_agentOf 18 = .ok (.iaload, 1) := by decide +kernel
theorem dX7_agentOf_19 : decode cX7_agentOf 19 = .ok (.ifCond .ge 7, 3) := by decide +kernel
theorem dX7_agentOf_22 : decode cX7_agentOf 22 = .ok (.iconst 2, 1) := by decide +kernel
theorem dX7_agentOf_23 : decode cX7_agentOf 23 = .ok (.goto 4, 3) := by decide +kernel
theorem dX7_agentOf_26 : decode cX7_agentOf 26 = .ok (.iconst 0, 1) := by decide +kernel
theorem dX7_agentOf_27 : decode cX7_agentOf 27 = .ok (.putfield 69, 3) := by decide +kernel
theorem dX7_agentOf_30 : decode cX7_agentOf 30 = .ok (.aload_n 0, 1) := by decide +kernel
theorem dX7_agentOf_31 : decode cX7_agentOf 31 = .ok (.getfield 69, 3) := by decide +kernel
theorem dX7_agentOf_34 : decode cX7_agentOf 34 = .ok (.ifCond .le 7, 3) := by decide +kernel
theorem dX7_agentOf_37 : decode cX7_agentOf 37 = .ok (.iconst 0, 1) := by decide +kernel
theorem dX7_agentOf_38 : decode cX7_agentOf 38 = .ok (.goto 9, 3) := by decide +kernel
theorem dX7_agentOf_41 : decode cX7_agentOf 41 = .ok (.aload_n 0, 1) := by decide +kernel
theorem dX7_agentOf_42 : decode cX7_agentOf 42 = .ok (.getfield 34, 3) := by decide +kernel
theorem dX7_agentOf_45 : decode cX7_agentOf 45 = .ok (.iload_n 1, 1) := by decide +kernel
theorem dX7_agentOf_46 : decode cX7_agentOf 46 = .ok (.iaload, 1) := by decide +kernel
theorem dX7_agentOf_47 : decode cX7_agentOf 47 = .ok (.ireturn, 1) := by decide +kernel
theorem dX7_canAnswer_0 : decode cX7_canAnswer 0 = .ok (.aload_n 0, 1) := by decide +kernel
theorem dX7_canAnswer_1 : decode cX7_canAnswer 1 = .ok (.getfield 57, 3) := by decide +kernel
theorem dX7_canAnswer_4 : decode cX7_canAnswer 4 = .ok (.iload_n 1, 1) := by decide +kernel
theorem dX7_canAnswer_5 : decode cX7_canAnswer 5 = .ok (.baload, 1) := by decide +kernel
theorem dX7_canAnswer_6 : decode cX7_canAnswer 6 = .ok (.ifCond .eq 21, 3) := by decide +kernel
theorem dX7_canAnswer_9 : decode cX7_canAnswer 9 = .ok (.aload_n 0, 1) := by decide +kernel
theorem dX7_canAnswer_10 : decode cX7_canAnswer 10 = .ok (.iload_n 1, 1) := by decide +kernel
theorem dX7_canAnswer_11 : decode cX7_canAnswer 11 = .ok (.aload_n 0, 1) := by decide +kernel
theorem dX7_canAnswer_12 : decode cX7_canAnswer 12 = .ok (.getfield 28, 3) := by decide +kernel
theorem dX7_canAnswer_15 : decode cX7_canAnswer 15 = .ok (.iload_n 2, 1) := by decide +kernel
theorem dX7_canAnswer_16 : decode cX7_canAnswer 16 = .ok (.iaload, 1) := by decide +kernel
theorem dX7_canAnswer_17 : decode cX7_canAnswer 17 = .ok (.invokevirtual 155, 3) := by decide +kernel
theorem dX7_canAnswer_20 : decode cX7_canAnswer 20 = .ok (.ifCond .eq 7, 3) := by decide +kernel
theorem dX7_canAnswer_23 : decode cX7_canAnswer 23 = .ok (.iconst 1, 1) := by decide +kernel
theorem dX7_canAnswer_24 : decode cX7_canAnswer 24 = .ok (.goto 4, 3) := by decide +kernel
theorem dX7_canAnswer_27 : decode cX7_canAnswer 27 = .ok (.iconst 0, 1) := by decide +kernel
theorem dX7_canAnswer_28 : decode cX7_canAnswer 28 = .ok (.ireturn, 1) := by decide +kernel
theorem dX7_isFor_0 : decode cX7_isFor 0 = .ok (.aload_n 0, 1) := by decide +kernel
theorem dX7_isFor_1 : decode cX7_isFor 1 = .ok (.getfield 49, 3) := by decide +kernel
theorem dX7_isFor_4 : decode cX7_isFor 4 = .ok (.iload_n 2, 1) := by decide +kernel
theorem dX7_isFor_5 : decode cX7_isFor 5 = .ok (.caload, 1) := by decide +kernel
theorem dX7_isFor_6 : decode cX7_isFor 6 = .ok (.bipush 111, 2) := by decide +kernel
theorem dX7_isFor_8 : decode cX7_isFor 8 = .ok (.if_icmp .ne 25, 3) := by decide +kernel
theorem dX7_isFor_11 : decode cX7_isFor 11 = .ok (.aload_n 0, 1) := by decide +kernel
theorem dX7_isFor_12 : decode cX7_isFor 12 = .ok (.getfield 34, 3) := by decide +kernel
theorem dX7_isFor_15 : decode cX7_isFor 15 = .ok (.iload_n 2, 1) := by decide +kernel
theorem dX7_isFor_16 : decode cX7_isFor 16 = .ok (.iaload, 1) := by decide +kernel
theorem dX7_isFor_17 : decode cX7_isFor 17 = .ok (.ifCond .ge 16, 3) := by decide +kernel
theorem dX7_isFor_20 : decode cX7_isFor 20 = .ok (.aload_n 0, 1) := by decide +kernel
theorem dX7_isFor_21 : decode cX7_isFor 21 = .ok (.iload_n 1, 1) := by decide +kernel
theorem dX7_isFor_22 : decode cX7_isFor 22 = .ok (.iload_n 2, 1) := by decide +kernel
theorem dX7_isFor_23 : decode cX7_isFor 23 = .ok (.invokevirtual 171, 3) := by decide +kernel
theorem dX7_isFor_26 : decode cX7_isFor 26 = .ok (.ifCond .eq 7, 3) := by decide +kernel
theorem dX7_isFor_29 : decode cX7_isFor 29 = .ok (.iconst 1, 1) := by decide +kernel
theorem dX7_isFor_30 : decode cX7_isFor 30 = .ok (.goto 4, 3) := by decide +kernel
theorem dX7_isFor_33 : decode cX7_isFor 33 = .ok (.iconst 0, 1) := by decide +kernel
theorem dX7_isFor_34 : decode cX7_isFor 34 = .ok (.ireturn, 1) := by decide +kernel
theorem dX7_isSooner_0 : decode cX7_isSooner 0 = .ok (.aload_n 0, 1) := by decide +kernel
theorem dX7_isSooner_1 : decode cX7_isSooner 1 = .ok (.iload_n 1, 1) := by decide +kernel
theorem dX7_isSooner_2 : decode cX7_isSooner 2 = .ok (.invokevirtual 108, 3) := by decide +kernel
theorem dX7_isSooner_5 : decode cX7_isSooner 5 = .ok (.aload_n 0, 1) := by decide +kernel
theorem dX7_isSooner_6 : decode cX7_isSooner 6 = .ok (.iload_n 2, 1) := by decide +kernel
theorem dX7_isSooner_7 : decode cX7_isSooner 7 = .ok (.invokevirtual 108, 3) := by decide +kernel
theorem dX7_isSooner_10 : decode cX7_isSooner 10 = .ok (.if_icmp .eq 22, 3) := by decide +kernel
theorem dX7_isSooner_13 : decode cX7_isSooner 13 = .ok (.aload_n 0, 1) := by decide +kernel
theorem dX7_isSooner_14 : decode cX7_isSooner 14 = .ok (.iload_n 1, 1) := by decide +kernel
theorem dX7_isSooner_15 : decode cX7_isSooner 15 = .ok (.invokevirtual 108, 3) := by decide +kernel
theorem dX7_isSooner_18 : decode cX7_isSooner 18 = .ok (.aload_n 0, 1) := by decide +kernel
theorem dX7_isSooner_19 : decode cX7_isSooner 19 = .ok (.iload_n 2, 1) := by decide +kernel
theorem dX7_isSooner_20 : decode cX7_isSooner 20 = .ok (.invokevirtual 108, 3) := by decide +kernel
theorem dX7_isSooner_23 : decode cX7_isSooner 23 = .ok (.if_icmp .ge 7, 3) := by decide +kernel
theorem dX7_isSooner_26 : decode cX7_isSooner 26 = .ok (.iconst 1, 1) := by decide +kernel
theorem dX7_isSooner_27 : decode cX7_isSooner 27 = .ok (.goto 4, 3) := by decide +kernel
theorem dX7_isSooner_30 : decode cX7_isSooner 30 = .ok (.iconst 0, 1) := by decide +kernel
theorem dX7_isSooner_31 : decode cX7_isSooner 31 = .ok (.ireturn, 1) := by decide +kernel
theorem dX7_isSooner_32 : decode cX7_isSooner 32 = .ok (.aload_n 0, 1) := by decide +kernel
theorem dX7_isSooner_33 : decode cX7_isSooner 33 = .ok (.getfield 7, 3) := by decide +kernel
theorem dX7_isSooner_36 : decode cX7_isSooner 36 = .ok (.aload_n 0, 1) := by decide +kernel
theorem dX7_isSooner_37 : decode cX7_isSooner 37 = .ok (.getfield 22, 3) := by decide +kernel
theorem dX7_isSooner_40 : decode cX7_isSooner 40 = .ok (.iload_n 1, 1) := by decide +kernel
theorem dX7_isSooner_41 : decode cX7_isSooner 41 = .ok (.iaload, 1) := by decide +kernel
theorem dX7_isSooner_42 : decode cX7_isSooner 42 = .ok (.iaload, 1) := by decide +kernel
theorem dX7_isSooner_43 : decode cX7_isSooner 43 = .ok (.aload_n 0, 1) := by decide +kernel
theorem dX7_isSooner_44 : decode cX7_isSooner 44 = .ok (.getfield 7, 3) := by decide +kernel
theorem dX7_isSooner_47 : decode cX7_isSooner 47 = .ok (.aload_n 0, 1) := by decide +kernel
theorem dX7_isSooner_48 : decode cX7_isSooner 48 = .ok (.getfield 22, 3) := by decide +kernel
theorem dX7_isSooner_51 : decode cX7_isSooner 51 = .ok (.iload_n 2, 1) := by decide +kernel
theorem dX7_isSooner_52 : decode cX7_isSooner 52 = .ok (.iaload, 1) := by decide +kernel
theorem dX7_isSooner_53 : decode cX7_isSooner 53 = .ok (.iaload, 1) := by decide +kernel
theorem dX7_isSooner_54 : decode cX7_isSooner 54 = .ok (.if_icmp .le 7, 3) := by decide +kernel
theorem dX7_isSooner_57 : decode cX7_isSooner 57 = .ok (.iconst 1, 1) := by decide +kernel
theorem dX7_isSooner_58 : decode cX7_isSooner 58 = .ok (.goto 4, 3) := by decide +kernel
theorem dX7_isSooner_61 : decode cX7_isSooner 61 = .ok (.iconst 0, 1) := by decide +kernel
theorem dX7_isSooner_62 : decode cX7_isSooner 62 = .ok (.ireturn, 1) := by decide +kernel
theorem dX7_next_0 : decode cX7_next 0 = .ok (.iconst (-1), 1) := by decide +kernel
theorem dX7_next_1 : decode cX7_next 1 = .ok (.istore_n 2, 1) := by decide +kernel
theorem dX7_next_2 : decode cX7_next 2 = .ok (.iconst 0, 1) := by decide +kernel
theorem dX7_next_3 : decode cX7_next 3 = .ok (.istore_n 3, 1) := by decide +kernel
theorem dX7_next_4 : decode cX7_next 4 = .ok (.iload_n 3, 1) := by decide +kernel
theorem dX7_next_5 : decode cX7_next 5 = .ok (.aload_n 0, 1) := by decide +kernel
theorem dX7_next_6 : decode cX7_next 6 = .ok (.getfield 79, 3) := by decide +kernel
theorem dX7_next_9 : decode cX7_next 9 = .ok (.if_icmp .ge 33, 3) := by decide +kernel
theorem dX7_next_12 : decode cX7_next 12 = .ok (.aload_n 0, 1) := by decide +kernel
theorem dX7_next_13 : decode cX7_next 13 = .ok (.iload_n 1, 1) := by decide +kernel
theorem dX7_next_14 : decode cX7_next 14 = .ok (.iload_n 3, 1) := by decide +kernel
theorem dX7_next_15 : decode cX7_next 15 = .ok (.invokevirtual 174, 3) := by decide +kernel
theorem dX7_next_18 : decode cX7_next 18 = .ok (.ifCond .eq 18, 3) := by decide +kernel
theorem dX7_next_21 : decode cX7_next 21 = .ok (.iload_n 2, 1) := by decide +kernel
theorem dX7_next_22 : decode cX7_next 22 = .ok (.ifCond .lt 12, 3) := by decide +kernel
theorem dX7_next_25 : decode cX7_next 25 = .ok (.aload_n 0, 1) := by decide +kernel
theorem dX7_next_26 : decode cX7_next 26 = .ok (.iload_n 3, 1) := by decide +kernel
theorem dX7_next_27 : decode cX7_next 27 = .ok (.iload_n 2, 1) := by decide +kernel
theorem dX7_next_28 : decode cX7_next 28 = .ok (.invokevirtual 177, 3) := by decide +kernel
theorem dX7_next_31 : decode cX7_next 31 = .ok (.ifCond .eq 5, 3) := by decide +kernel
theorem dX7_next_34 : decode cX7_next 34 = .ok (.iload_n 3, 1) := by decide +kernel
theorem dX7_next_35 : decode cX7_next 35 = .ok (.istore_n 2, 1) := by decide +kernel
theorem dX7_next_36 : decode cX7_next 36 = .ok (.iinc 3 1, 3) := by decide +kernel
theorem dX7_next_39 : decode cX7_next 39 = .ok (.goto (-35), 3) := by decide +kernel
theorem dX7_next_42 : decode cX7_next 42 = .ok (.iload_n 2, 1) := by decide +kernel
theorem dX7_next_43 : decode cX7_next 43 = .ok (.ireturn, 1) := by decide +kernel
theorem dX7_nextFor_0 : decode cX7_nextFor 0 = .ok (.aload_n 0, 1) := by decide +kernel
theorem dX7_nextFor_1 : decode cX7_nextFor 1 = .ok (.aload_n 0, 1) := by decide +kernel
theorem dX7_nextFor_2 : decode cX7_nextFor 2 = .ok (.iload_n 1, 1) := by decide +kernel
theorem dX7_nextFor_3 : decode cX7_nextFor 3 = .ok (.invokevirtual 162, 3) := by decide +kernel
theorem dX7_nextFor_6 : decode cX7_nextFor 6 = .ok (.ifCond .ne 7, 3) := by decide +kernel
theorem dX7_nextFor_9 : decode cX7_nextFor 9 = .ok (.iconst 1, 1) := by decide +kernel
theorem dX7_nextFor_10 : decode cX7_nextFor 10 = .ok (.goto 16, 3) := by decide +kernel
theorem dX7_nextFor_13 : decode cX7_nextFor 13 = .ok (.aload_n 0, 1) := by decide +kernel
theorem dX7_nextFor_14 : decode cX7_nextFor 14 = .ok (.iload_n 1, 1) := by decide +kernel
theorem dX7_nextFor_15 : decode cX7_nextFor 15 = .ok (.invokevirtual 180, 3) := by decide +kernel
theorem dX7_nextFor_18 : decode cX7_nextFor 18 = .ok (.ifCond .ge 7, 3) := by decide +kernel
theorem dX7_nextFor_21 : decode cX7_nextFor 21 = .ok (.iconst 2, 1) := by decide +kernel
theorem dX7_nextFor_22 : decode cX7_nextFor 22 = .ok (.goto 4, 3) := by decide +kernel
theorem dX7_nextFor_25 : decode cX7_nextFor 25 = .ok (.iconst 0, 1) := by decide +kernel
theorem dX7_nextFor_26 : decode cX7_nextFor 26 = .ok (.putfield 69, 3) := by decide +kernel
theorem dX7_nextFor_29 : decode cX7_nextFor 29 = .ok (.aload_n 0, 1) := by decide +kernel
theorem dX7_nextFor_30 : decode cX7_nextFor 30 = .ok (.getfield 69, 3) := by decide +kernel
theorem dX7_nextFor_33 : decode cX7_nextFor 33 = .ok (.ifCond .le 7, 3) := by decide +kernel
theorem dX7_nextFor_36 : decode cX7_nextFor 36 = .ok (.iconst 0, 1) := by decide +kernel
theorem dX7_nextFor_37 : decode cX7_nextFor 37 = .ok (.goto 8, 3) := by decide +kernel
theorem dX7_nextFor_40 : decode cX7_nextFor 40 = .ok (.aload_n 0, 1) := by decide +kernel
theorem dX7_nextFor_41 : decode cX7_nextFor 41 = .ok (.iload_n 1, 1) := by decide +kernel
theorem dX7_nextFor_42 : decode cX7_nextFor 42 = .ok (.invokevirtual 180, 3) := by decide +kernel
theorem dX7_nextFor_45 : decode cX7_nextFor 45 = .ok (.ireturn, 1) := by decide +kernel
theorem dX7_nextByTickets_0 : decode cX7_nextByTickets 0 = .ok (.aload_n 0, 1) := by decide +kernel
theorem dX7_nextByTickets_1 : decode cX7_nextByTickets 1 = .ok (.iload_n 1, 1) := by decide +kernel
theorem dX7_nextByTickets_2 : decode cX7_nextByTickets 2 = .ok (.invokevirtual 183, 3) := by decide +kernel
theorem dX7_nextByTickets_5 : decode cX7_nextByTickets 5 = .ok (.ireturn, 1) := by decide +kernel
theorem dX7_waiting_0 : decode cX7_waiting 0 = .ok (.aload_n 0, 1) := by decide +kernel
theorem dX7_waiting_1 : decode cX7_waiting 1 = .ok (.aload_n 0, 1) := by decide +kernel
theorem dX7_waiting_2 : decode cX7_waiting 2 = .ok (.iload_n 1, 1) := by decide +kernel
theorem dX7_waiting_3 : decode cX7_waiting 3 = .ok (.invokevirtual 162, 3) := by decide +kernel
theorem dX7_waiting_6 : decode cX7_waiting 6 = .ok (.invokevirtual 112, 3) := by decide +kernel
theorem dX7_waiting_9 : decode cX7_waiting 9 = .ok (.ifCond .le 5, 3) := by decide +kernel
theorem dX7_waiting_12 : decode cX7_waiting 12 = .ok (.iconst 0, 1) := by decide +kernel
theorem dX7_waiting_13 : decode cX7_waiting 13 = .ok (.ireturn, 1) := by decide +kernel
theorem dX7_waiting_14 : decode cX7_waiting 14 = .ok (.iconst 0, 1) := by decide +kernel
theorem dX7_waiting_15 : decode cX7_waiting 15 = .ok (.istore_n 2, 1) := by decide +kernel
theorem dX7_waiting_16 : decode cX7_waiting 16 = .ok (.iconst 0, 1) := by decide +kernel
theorem dX7_waiting_17 : decode cX7_waiting 17 = .ok (.istore_n 3, 1) := by decide +kernel
theorem dX7_waiting_18 : decode cX7_waiting 18 = .ok (.iload_n 3, 1) := by decide +kernel
theorem dX7_waiting_19 : decode cX7_waiting 19 = .ok (.aload_n 0, 1) := by decide +kernel
theorem dX7_waiting_20 : decode cX7_waiting 20 = .ok (.getfield 79, 3) := by decide +kernel
theorem dX7_waiting_23 : decode cX7_waiting 23 = .ok (.if_icmp .ge 26, 3) := by decide +kernel
theorem dX7_waiting_26 : decode cX7_waiting 26 = .ok (.iload_n 2, 1) := by decide +kernel
theorem dX7_waiting_27 : decode cX7_waiting 27 = .ok (.aload_n 0, 1) := by decide +kernel
theorem dX7_waiting_28 : decode cX7_waiting 28 = .ok (.iload_n 1, 1) := by decide +kernel
theorem dX7_waiting_29 : decode cX7_waiting 29 = .ok (.iload_n 3, 1) := by decide +kernel
theorem dX7_waiting_30 : decode cX7_waiting 30 = .ok (.invokevirtual 174, 3) := by decide +kernel
theorem dX7_waiting_33 : decode cX7_waiting 33 = .ok (.ifCond .eq 7, 3) := by decide +kernel
theorem dX7_waiting_36 : decode cX7_waiting 36 = .ok (.iconst 1, 1) := by decide +kernel
theorem dX7_waiting_37 : decode cX7_waiting 37 = .ok (.goto 4, 3) := by decide +kernel
theorem dX7_waiting_40 : decode cX7_waiting 40 = .ok (.iconst 0, 1) := by decide +kernel
theorem dX7_waiting_41 : decode cX7_waiting 41 = .ok (.iadd, 1) := by decide +kernel
theorem dX7_waiting_42 : decode cX7_waiting 42 = .ok (.istore_n 2, 1) := by decide +kernel
theorem dX7_waiting_43 : decode cX7_waiting 43 = .ok (.iinc 3 1, 3) := by decide +kernel
theorem dX7_waiting_46 : decode cX7_waiting 46 = .ok (.goto (-28), 3) := by decide +kernel
theorem dX7_waiting_49 : decode cX7_waiting 49 = .ok (.iload_n 2, 1) := by decide +kernel
theorem dX7_waiting_50 : decode cX7_waiting 50 = .ok (.ireturn, 1) := by decide +kernel
theorem dX7_take_0 : decode cX7_take 0 = .ok (.aload_n 0, 1) := by decide +kernel
theorem dX7_take_1 : decode cX7_take 1 = .ok (.aload_n 0, 1) := by decide +kernel
theorem dX7_take_2 : decode cX7_take 2 = .ok (.iload_n 1, 1) := by decide +kernel
theorem dX7_take_3 : decode cX7_take 3 = .ok (.invokevirtual 162, 3) := by decide +kernel
theorem dX7_take_6 : decode cX7_take 6 = .ok (.ifCond .ne 7, 3) := by decide +kernel
theorem dX7_take_9 : decode cX7_take 9 = .ok (.iconst 1, 1) := by decide +kernel
theorem dX7_take_10 : decode cX7_take 10 = .ok (.goto 38, 3) := by decide +kernel
theorem dX7_take_13 : decode cX7_take 13 = .ok (.aload_n 0, 1) := by decide +kernel
theorem dX7_take_14 : decode cX7_take 14 = .ok (.getfield 57, 3) := by decide +kernel
theorem dX7_take_17 : decode cX7_take 17 = .ok (.iload_n 1, 1) := by decide +kernel
theorem dX7_take_18 : decode cX7_take 18 = .ok (.baload, 1) := by decide +kernel
theorem dX7_take_19 : decode cX7_take 19 = .ok (.ifCond .eq 12, 3) := by decide +kernel
theorem dX7_take_22 : decode cX7_take 22 = .ok (.aload_n 0, 1) := by decide +kernel
theorem dX7_take_23 : decode cX7_take 23 = .ok (.iload_n 1, 1) := by decide +kernel
theorem dX7_take_24 : decode cX7_take 24 = .ok (.invokevirtual 168, 3) := by decide +kernel
theorem dX7_take_27 : decode cX7_take 27 = .ok (.iconst 3, 1) := by decide +kernel
theorem dX7_take_28 : decode cX7_take 28 = .ok (.if_icmp .ne 7, 3) := by decide +kernel
theorem dX7_take_31 : decode cX7_take 31 = .ok (.iconst 2, 1) := by decide +kernel
theorem dX7_take_32 : decode cX7_take 32 = .ok (.goto 16, 3) := by decide +kernel
theorem dX7_take_35 : decode cX7_take 35 = .ok (.aload_n 0, 1) := by decide +kernel
theorem dX7_take_36 : decode cX7_take 36 = .ok (.iload_n 1, 1) := by decide +kernel
theorem dX7_take_37 : decode cX7_take 37 = .ok (.invokevirtual 180, 3) := by decide +kernel
theorem dX7_take_40 : decode cX7_take 40 = .ok (.ifCond .ge 7, 3) := by decide +kernel
theorem dX7_take_43 : decode cX7_take 43 = .ok (.iconst 3, 1) := by decide +kernel
theorem dX7_take_44 : decode cX7_take 44 = .ok (.goto 4, 3) := by decide +kernel
theorem dX7_take_47 : decode cX7_take 47 = .ok (.iconst 0, 1) := by decide +kernel
theorem dX7_take_48 : decode cX7_take 48 = .ok (.putfield 69, 3) := by decide +kernel
theorem dX7_take_51 : decode cX7_take 51 = .ok (.aload_n 0, 1) := by decide +kernel
theorem dX7_take_52 : decode cX7_take 52 = .ok (.getfield 69, 3) := by decide +kernel
theorem dX7_take_55 : decode cX7_take 55 = .ok (.ifCond .le 5, 3) := by decide +kernel
theorem dX7_take_58 : decode cX7_take 58 = .ok (.iconst 0, 1) := by decide +kernel
theorem dX7_take_59 : decode cX7_take 59 = .ok (.ireturn, 1) := by decide +kernel
theorem dX7_take_60 : decode cX7_take 60 = .ok (.aload_n 0, 1) := by decide +kernel
theorem dX7_take_61 : decode cX7_take 61 = .ok (.iload_n 1, 1) := by decide +kernel
theorem dX7_take_62 : decode cX7_take 62 = .ok (.invokevirtual 180, 3) := by decide +kernel
theorem dX7_take_65 : decode cX7_take 65 = .ok (.istore_n 2, 1) := by decide +kernel
theorem dX7_take_66 : decode cX7_take 66 = .ok (.aload_n 0, 1) := by decide +kernel
theorem dX7_take_67 : decode cX7_take 67 = .ok (.getfield 34, 3) := by decide +kernel
theorem dX7_take_70 : decode cX7_take 70 = .ok (.iload_n 2, 1) := by decide +kernel
theorem dX7_take_71 : decode cX7_take 71 = .ok (.iload_n 1, 1) := by decide +kernel
theorem dX7_take_72 : decode cX7_take 72 = .ok (.iastore, 1) := by decide +kernel
theorem dX7_take_73 : decode cX7_take 73 = .ok (.iload_n 2, 1) := by decide +kernel
theorem dX7_take_74 : decode cX7_take 74 = .ok (.ireturn, 1) := by decide +kernel
theorem dX7_handOver_0 : decode cX7_handOver 0 = .ok (.aload_n 0, 1) := by decide +kernel
theorem dX7_handOver_1 : decode cX7_handOver 1 = .ok (.aload_n 0, 1) := by decide +kernel
theorem dX7_handOver_2 : decode cX7_handOver 2 = .ok (.iload_n 1, 1) := by decide +kernel
theorem dX7_handOver_3 : decode cX7_handOver 3 = .ok (.invokevirtual 149, 3) := by decide +kernel
theorem dX7_handOver_6 : decode cX7_handOver 6 = .ok (.ifCond .eq 11, 3) := by decide +kernel
theorem dX7_handOver_9 : decode cX7_handOver 9 = .ok (.aload_n 0, 1) := by decide +kernel
theorem dX7_handOver_10 : decode cX7_handOver 10 = .ok (.iload_n 2, 1) := by decide +kernel
theorem dX7_handOver_11 : decode cX7_handOver 11 = .ok (.invokevirtual 162, 3) := by decide +kernel
theorem dX7_handOver_14 : decode cX7_handOver 14 = .ok (.ifCond .ne 7, 3) := by decide +kernel
theorem dX7_handOver_17 : decode cX7_handOver 17 = .ok (.iconst 1, 1) := by decide +kernel
theorem dX7_handOver_18 : decode cX7_handOver 18 = .ok (.goto 49, 3) := by decide +kernel
theorem dX7_handOver_21 : decode cX7_handOver 21 = .ok (.aload_n 0, 1) := by decide +kernel
theorem dX7_handOver_22 : decode cX7_handOver 22 = .ok (.getfield 34, 3) := by decide +kernel
theorem dX7_handOver_25 : decode cX7_handOver 25 = .ok (.iload_n 1, 1) := by decide +kernel
theorem dX7_handOver_26 : decode cX7_handOver 26 = .ok (.iaload, 1) := by decide +kernel
theorem dX7_handOver_27 : decode cX7_handOver 27 = .ok (.ifCond .lt 22, 3) := by decide +kernel
theorem dX7_handOver_30 : decode cX7_handOver 30 = .ok (.aload_n 0, 1) := by decide +kernel
theorem dX7_handOver_31 : decode cX7_handOver 31 = .ok (.getfield 34, 3) := by decide +kernel
theorem dX7_handOver_34 : decode cX7_handOver 34 = .ok (.iload_n 1, 1) := by decide +kernel
theorem dX7_handOver_35 : decode cX7_handOver 35 = .ok (.iaload, 1) := by decide +kernel
theorem dX7_handOver_36 : decode cX7_handOver 36 = .ok (.iload_n 2, 1) := by decide +kernel
theorem dX7_handOver_37 : decode cX7_handOver 37 = .ok (.if_icmp .eq 12, 3) := by decide +kernel
theorem dX7_handOver_40 : decode cX7_handOver 40 = .ok (.aload_n 0, 1) := by decide +kernel
theorem dX7_handOver_41 : decode cX7_handOver 41 = .ok (.iload_n 2, 1) := by decide +kernel
theorem dX7_handOver_42 : decode cX7_handOver 42 = .ok (.invokevirtual 168, 3) := by decide +kernel
theorem dX7_handOver_45 : decode cX7_handOver 45 = .ok (.iconst 3, 1) := by decide +kernel
theorem dX7_handOver_46 : decode cX7_handOver 46 = .ok (.if_icmp .ne 7, 3) := by decide +kernel
theorem dX7_handOver_49 : decode cX7_handOver 49 = .ok (.iconst 2, 1) := by decide +kernel
theorem dX7_handOver_50 : decode cX7_handOver 50 = .ok (.goto 17, 3) := by decide +kernel
theorem dX7_handOver_53 : decode cX7_handOver 53 = .ok (.aload_n 0, 1) := by decide +kernel
theorem dX7_handOver_54 : decode cX7_handOver 54 = .ok (.iload_n 2, 1) := by decide +kernel
theorem dX7_handOver_55 : decode cX7_handOver 55 = .ok (.iload_n 1, 1) := by decide +kernel
theorem dX7_handOver_56 : decode cX7_handOver 56 = .ok (.invokevirtual 171, 3) := by decide +kernel
theorem dX7_handOver_59 : decode cX7_handOver 59 = .ok (.ifCond .ne 7, 3) := by decide +kernel
theorem dX7_handOver_62 : decode cX7_handOver 62 = .ok (.iconst 3, 1) := by decide +kernel
theorem dX7_handOver_63 : decode cX7_handOver 63 = .ok (.goto 4, 3) := by decide +kernel
theorem dX7_handOver_66 : decode cX7_handOver 66 = .ok (.iconst 0, 1) := by decide +kernel
theorem dX7_handOver_67 : decode cX7_handOver 67 = .ok (.putfield 69, 3) := by decide +kernel
theorem dX7_handOver_70 : decode cX7_handOver 70 = .ok (.aload_n 0, 1) := by decide +kernel
theorem dX7_handOver_71 : decode cX7_handOver 71 = .ok (.getfield 69, 3) := by decide +kernel
theorem dX7_handOver_74 : decode cX7_handOver 74 = .ok (.ifCond .le 5, 3) := by decide +kernel
theorem dX7_handOver_77 : decode cX7_handOver 77 = .ok (.iconst 0, 1) := by decide +kernel
theorem dX7_handOver_78 : decode cX7_handOver 78 = .ok (.ireturn, 1) := by decide +kernel
theorem dX7_handOver_79 : decode cX7_handOver 79 = .ok (.aload_n 0, 1) := by decide +kernel
theorem dX7_handOver_80 : decode cX7_handOver 80 = .ok (.getfield 34, 3) := by decide +kernel
theorem dX7_handOver_83 : decode cX7_handOver 83 = .ok (.iload_n 1, 1) := by decide +kernel
theorem dX7_handOver_84 : decode cX7_handOver 84 = .ok (.iload_n 2, 1) := by decide +kernel
theorem dX7_handOver_85 : decode cX7_handOver 85 = .ok (.iastore, 1) := by decide +kernel
theorem dX7_handOver_86 : decode cX7_handOver 86 = .ok (.aload_n 0, 1) := by decide +kernel
theorem dX7_handOver_87 : decode cX7_handOver 87 = .ok (.getfield 37, 3) := by decide +kernel
theorem dX7_handOver_90 : decode cX7_handOver 90 = .ok (.iload_n 1, 1) := by decide +kernel
theorem dX7_handOver_91 : decode cX7_handOver 91 = .ok (.dup2, 1) := by decide +kernel
theorem dX7_handOver_92 : decode cX7_handOver 92 = .ok (.iaload, 1) := by decide +kernel
theorem dX7_handOver_93 : decode cX7_handOver 93 = .ok (.iconst 1, 1) := by decide +kernel
theorem dX7_handOver_94 : decode cX7_handOver 94 = .ok (.iadd, 1) := by decide +kernel
theorem dX7_handOver_95 : decode cX7_handOver 95 = .ok (.iastore, 1) := by decide +kernel
theorem dX7_handOver_96 : decode cX7_handOver 96 = .ok (.aload_n 0, 1) := by decide +kernel
theorem dX7_handOver_97 : decode cX7_handOver 97 = .ok (.getfield 37, 3) := by decide +kernel
theorem dX7_handOver_100 : decode cX7_handOver 100 = .ok (.iload_n 1, 1) := by decide +kernel
theorem dX7_handOver_101 : decode cX7_handOver 101 = .ok (.iaload, 1) := by decide +kernel
theorem dX7_handOver_102 : decode cX7_handOver 102 = .ok (.ireturn, 1) := by decide +kernel
theorem dX7_giveBack_0 : decode cX7_giveBack 0 = .ok (.aload_n 0, 1) := by decide +kernel
theorem dX7_giveBack_1 : decode cX7_giveBack 1 = .ok (.aload_n 0, 1) := by decide +kernel
theorem dX7_giveBack_2 : decode cX7_giveBack 2 = .ok (.iload_n 1, 1) := by decide +kernel
theorem dX7_giveBack_3 : decode cX7_giveBack 3 = .ok (.invokevirtual 149, 3) := by decide +kernel
theorem dX7_giveBack_6 : decode cX7_giveBack 6 = .ok (.ifCond .ne 7, 3) := by decide +kernel
theorem dX7_giveBack_9 : decode cX7_giveBack 9 = .ok (.iconst 1, 1) := by decide +kernel
theorem dX7_giveBack_10 : decode cX7_giveBack 10 = .ok (.goto 17, 3) := by decide +kernel
theorem dX7_giveBack_13 : decode cX7_giveBack 13 = .ok (.aload_n 0, 1) := by decide +kernel
theorem dX7_giveBack_14 : decode cX7_giveBack 14 = .ok (.getfield 34, 3) := by decide +kernel
theorem dX7_giveBack_17 : decode cX7_giveBack 17 = .ok (.iload_n 1, 1) := by decide +kernel
theorem dX7_giveBack_18 : decode cX7_giveBack 18 = .ok (.iaload, 1) := by decide +kernel
theorem dX7_giveBack_19 : decode cX7_giveBack 19 = .ok (.ifCond .ge 7, 3) := by decide +kernel
theorem dX7_giveBack_22 : decode cX7_giveBack 22 = .ok (.iconst 2, 1) := by decide +kernel
theorem dX7_giveBack_23 : decode cX7_giveBack 23 = .ok (.goto 4, 3) := by decide +kernel
theorem dX7_giveBack_26 : decode cX7_giveBack 26 = .ok (.iconst 0, 1) := by decide +kernel
theorem dX7_giveBack_27 : decode cX7_giveBack 27 = .ok (.putfield 69, 3) := by decide +kernel
theorem dX7_giveBack_30 : decode cX7_giveBack 30 = .ok (.aload_n 0, 1) := by decide +kernel
theorem dX7_giveBack_31 : decode cX7_giveBack 31 = .ok (.getfield 69, 3) := by decide +kernel
theorem dX7_giveBack_34 : decode cX7_giveBack 34 = .ok (.ifCond .le 5, 3) := by decide +kernel
theorem dX7_giveBack_37 : decode cX7_giveBack 37 = .ok (.iconst 0, 1) := by decide +kernel
theorem dX7_giveBack_38 : decode cX7_giveBack 38 = .ok (.ireturn, 1) := by decide +kernel
theorem dX7_giveBack_39 : decode cX7_giveBack 39 = .ok (.aload_n 0, 1) := by decide +kernel
theorem dX7_giveBack_40 : decode cX7_giveBack 40 = .ok (.getfield 34, 3) := by decide +kernel
theorem dX7_giveBack_43 : decode cX7_giveBack 43 = .ok (.iload_n 1, 1) := by decide +kernel
theorem dX7_giveBack_44 : decode cX7_giveBack 44 = .ok (.iaload, 1) := by decide +kernel
theorem dX7_giveBack_45 : decode cX7_giveBack 45 = .ok (.istore_n 2, 1) := by decide +kernel
theorem dX7_giveBack_46 : decode cX7_giveBack 46 = .ok (.aload_n 0, 1) := by decide +kernel
theorem dX7_giveBack_47 : decode cX7_giveBack 47 = .ok (.getfield 34, 3) := by decide +kernel
theorem dX7_giveBack_50 : decode cX7_giveBack 50 = .ok (.iload_n 1, 1) := by decide +kernel
theorem dX7_giveBack_51 : decode cX7_giveBack 51 = .ok (.iconst (-1), 1) := by decide +kernel
theorem dX7_giveBack_52 : decode cX7_giveBack 52 = .ok (.iastore, 1) := by decide +kernel
theorem dX7_giveBack_53 : decode cX7_giveBack 53 = .ok (.aload_n 0, 1) := by decide +kernel
theorem dX7_giveBack_54 : decode cX7_giveBack 54 = .ok (.iload_n 2, 1) := by decide +kernel
theorem dX7_giveBack_55 : decode cX7_giveBack 55 = .ok (.invokevirtual 168, 3) := by decide +kernel
theorem dX7_giveBack_58 : decode cX7_giveBack 58 = .ok (.ireturn, 1) := by decide +kernel
theorem dX7_turns_0 : decode cX7_turns 0 = .ok (.aload_n 0, 1) := by decide +kernel
theorem dX7_turns_1 : decode cX7_turns 1 = .ok (.aload_n 0, 1) := by decide +kernel
theorem dX7_turns_2 : decode cX7_turns 2 = .ok (.iload_n 1, 1) := by decide +kernel
theorem dX7_turns_3 : decode cX7_turns 3 = .ok (.invokevirtual 149, 3) := by decide +kernel
theorem dX7_turns_6 : decode cX7_turns 6 = .ok (.ifCond .ne 7, 3) := by decide +kernel
theorem dX7_turns_9 : decode cX7_turns 9 = .ok (.iconst 1, 1) := by decide +kernel
theorem dX7_turns_10 : decode cX7_turns 10 = .ok (.goto 18, 3) := by decide +kernel
theorem dX7_turns_13 : decode cX7_turns 13 = .ok (.aload_n 0, 1) := by decide +kernel
theorem dX7_turns_14 : decode cX7_turns 14 = .ok (.getfield 49, 3) := by decide +kernel
theorem dX7_turns_17 : decode cX7_turns 17 = .ok (.iload_n 1, 1) := by decide +kernel
theorem dX7_turns_18 : decode cX7_turns 18 = .ok (.caload, 1) := by decide +kernel
theorem dX7_turns_19 : decode cX7_turns 19 = .ok (.iload_n 2, 1) := by decide +kernel
theorem dX7_turns_20 : decode cX7_turns 20 = .ok (.if_icmp .eq 7, 3) := by decide +kernel
theorem dX7_turns_23 : decode cX7_turns 23 = .ok (.iconst 2, 1) := by decide +kernel
theorem dX7_turns_24 : decode cX7_turns 24 = .ok (.goto 4, 3) := by decide +kernel
theorem dX7_turns_27 : decode cX7_turns 27 = .ok (.iconst 0, 1) := by decide +kernel
theorem dX7_turns_28 : decode cX7_turns 28 = .ok (.putfield 69, 3) := by decide +kernel
theorem dX7_turns_31 : decode cX7_turns 31 = .ok (.aload_n 0, 1) := by decide +kernel
theorem dX7_turns_32 : decode cX7_turns 32 = .ok (.getfield 69, 3) := by decide +kernel
theorem dX7_turns_35 : decode cX7_turns 35 = .ok (.ifCond .le 5, 3) := by decide +kernel
theorem dX7_turns_38 : decode cX7_turns 38 = .ok (.iconst 0, 1) := by decide +kernel
theorem dX7_turns_39 : decode cX7_turns 39 = .ok (.ireturn, 1) := by decide +kernel
theorem dX7_turns_40 : decode cX7_turns 40 = .ok (.aload_n 0, 1) := by decide +kernel
theorem dX7_turns_41 : decode cX7_turns 41 = .ok (.getfield 49, 3) := by decide +kernel
theorem dX7_turns_44 : decode cX7_turns 44 = .ok (.iload_n 1, 1) := by decide +kernel
theorem dX7_turns_45 : decode cX7_turns 45 = .ok (.iload_n 3, 1) := by decide +kernel
theorem dX7_turns_46 : decode cX7_turns 46 = .ok (.castore, 1) := by decide +kernel
theorem dX7_turns_47 : decode cX7_turns 47 = .ok (.aload_n 0, 1) := by decide +kernel
theorem dX7_turns_48 : decode cX7_turns 48 = .ok (.getfield 31, 3) := by decide +kernel
theorem dX7_turns_51 : decode cX7_turns 51 = .ok (.iload_n 1, 1) := by decide +kernel
theorem dX7_turns_52 : decode cX7_turns 52 = .ok (.iaload, 1) := by decide +kernel
theorem dX7_turns_53 : decode cX7_turns 53 = .ok (.ireturn, 1) := by decide +kernel
theorem dX7_hold_0 : decode cX7_hold 0 = .ok (.aload_n 0, 1) := by decide +kernel
theorem dX7_hold_1 : decode cX7_hold 1 = .ok (.iload_n 1, 1) := by decide +kernel
theorem dX7_hold_2 : decode cX7_hold 2 = .ok (.bipush 111, 2) := by decide +kernel
theorem dX7_hold_4 : decode cX7_hold 4 = .ok (.bipush 104, 2) := by decide +kernel
theorem dX7_hold_6 : decode cX7_hold 6 = .ok (.invokevirtual 186, 3) := by decide +kernel
theorem dX7_hold_9 : decode cX7_hold 9 = .ok (.ireturn, 1) := by decide +kernel
theorem dX7_resume_0 : decode cX7_resume 0 = .ok (.aload_n 0, 1) := by decide +kernel
theorem dX7_resume_1 : decode cX7_resume 1 = .ok (.iload_n 1, 1) := by decide +kernel
theorem dX7_resume_2 : decode cX7_resume 2 = .ok (.bipush 104, 2) := by decide +kernel
theorem dX7_resume_4 : decode cX7_resume 4 = .ok (.bipush 111, 2) := by decide +kernel
theorem dX7_resume_6 : decode cX7_resume 6 = .ok (.invokevirtual 186, 3) := by decide +kernel
theorem dX7_resume_9 : decode cX7_resume 9 = .ok (.ireturn, 1) := by decide +kernel
theorem dX7_answer_0 : decode cX7_answer 0 = .ok (.aload_n 0, 1) := by decide +kernel
theorem dX7_answer_1 : decode cX7_answer 1 = .ok (.aload_n 0, 1) := by decide +kernel
theorem dX7_answer_2 : decode cX7_answer 2 = .ok (.iload_n 1, 1) := by decide +kernel
theorem dX7_answer_3 : decode cX7_answer 3 = .ok (.invokevirtual 149, 3) := by decide +kernel
theorem dX7_answer_6 : decode cX7_answer 6 = .ok (.ifCond .ne 7, 3) := by decide +kernel
theorem dX7_answer_9 : decode cX7_answer 9 = .ok (.iconst 1, 1) := by decide +kernel
theorem dX7_answer_10 : decode cX7_answer 10 = .ok (.goto 46, 3) := by decide +kernel
theorem dX7_answer_13 : decode cX7_answer 13 = .ok (.aload_n 0, 1) := by decide +kernel
theorem dX7_answer_14 : decode cX7_answer 14 = .ok (.getfield 49, 3) := by decide +kernel
theorem dX7_answer_17 : decode cX7_answer 17 = .ok (.iload_n 1, 1) := by decide +kernel
theorem dX7_answer_18 : decode cX7_answer 18 = .ok (.caload, 1) := by decide +kernel
theorem dX7_answer_19 : decode cX7_answer 19 = .ok (.bipush 111, 2) := by decide +kernel
theorem dX7_answer_21 : decode cX7_answer 21 = .ok (.if_icmp .ne 12, 3) := by decide +kernel
theorem dX7_answer_24 : decode cX7_answer 24 = .ok (.aload_n 0, 1) := by decide +kernel
theorem dX7_answer_25 : decode cX7_answer 25 = .ok (.getfield 34, 3) := by decide +kernel
theorem dX7_answer_28 : decode cX7_answer 28 = .ok (.iload_n 1, 1) := by decide +kernel
theorem dX7_answer_29 : decode cX7_answer 29 = .ok (.iaload, 1) := by decide +kernel
theorem dX7_answer_30 : decode cX7_answer 30 = .ok (.ifCond .ge 7, 3) := by decide +kernel
theorem dX7_answer_33 : decode cX7_answer 33 = .ok (.iconst 2, 1) := by decide +kernel
theorem dX7_answer_34 : decode cX7_answer 34 = .ok (.goto 22, 3) := by decide +kernel
theorem dX7_answer_37 : decode cX7_answer 37 = .ok (.iload_n 2, 1) := by decide +kernel
theorem dX7_answer_38 : decode cX7_answer 38 = .ok (.iconst (-1), 1) := by decide +kernel
theorem dX7_answer_39 : decode cX7_answer 39 = .ok (.aload_n 0, 1) := by decide +kernel
theorem dX7_answer_40 : decode cX7_answer 40 = .ok (.getfield 85, 3) := by decide +kernel
theorem dX7_answer_43 : decode cX7_answer 43 = .ok (.iconst 1, 1) := by decide +kernel
theorem dX7_answer_44 : decode cX7_answer 44 = .ok (.isub, 1) := by decide +kernel
theorem dX7_answer_45 : decode cX7_answer 45 = .ok (.invokestatic 104, 3) := by decide +kernel
theorem dX7_answer_48 : decode cX7_answer 48 = .ok (.ifCond .ne 7, 3) := by decide +kernel
theorem dX7_answer_51 : decode cX7_answer 51 = .ok (.iconst 3, 1) := by decide +kernel
theorem dX7_answer_52 : decode cX7_answer 52 = .ok (.goto 4, 3) := by decide +kernel
theorem dX7_answer_55 : decode cX7_answer 55 = .ok (.iconst 0, 1) := by decide +kernel
theorem dX7_answer_56 : decode cX7_answer 56 = .ok (.putfield 69, 3) := by decide +kernel
theorem dX7_answer_59 : decode cX7_answer 59 = .ok (.aload_n 0, 1) := by decide +kernel
theorem dX7_answer_60 : decode cX7_answer 60 = .ok (.getfield 69, 3) := by decide +kernel
theorem dX7_answer_63 : decode cX7_answer 63 = .ok (.ifCond .le 5, 3) := by decide +kernel
theorem dX7_answer_66 : decode cX7_answer 66 = .ok (.iconst 0, 1) := by decide +kernel
theorem dX7_answer_67 : decode cX7_answer 67 = .ok (.ireturn, 1) := by decide +kernel
theorem dX7_answer_68 : decode cX7_answer 68 = .ok (.aload_n 0, 1) := by decide +kernel
theorem dX7_answer_69 : decode cX7_answer 69 = .ok (.getfield 49, 3) := by decide +kernel
theorem dX7_answer_72 : decode cX7_answer 72 = .ok (.iload_n 1, 1) := by decide +kernel
theorem dX7_answer_73 : decode cX7_answer 73 = .ok (.bipush 97, 2) := by decide +kernel
theorem dX7_answer_75 : decode cX7_answer 75 = .ok (.castore, 1) := by decide +kernel
theorem dX7_answer_76 : decode cX7_answer 76 = .ok (.aload_n 0, 1) := by decide +kernel
theorem dX7_answer_77 : decode cX7_answer 77 = .ok (.getfield 34, 3) := by decide +kernel
theorem dX7_answer_80 : decode cX7_answer 80 = .ok (.iload_n 1, 1) := by decide +kernel
theorem dX7_answer_81 : decode cX7_answer 81 = .ok (.iconst (-1), 1) := by decide +kernel
theorem dX7_answer_82 : decode cX7_answer 82 = .ok (.iastore, 1) := by decide +kernel
theorem dX7_answer_83 : decode cX7_answer 83 = .ok (.aload_n 0, 1) := by decide +kernel
theorem dX7_answer_84 : decode cX7_answer 84 = .ok (.getfield 46, 3) := by decide +kernel
theorem dX7_answer_87 : decode cX7_answer 87 = .ok (.iload_n 1, 1) := by decide +kernel
theorem dX7_answer_88 : decode cX7_answer 88 = .ok (.iload_n 2, 1) := by decide +kernel
theorem dX7_answer_89 : decode cX7_answer 89 = .ok (.iastore, 1) := by decide +kernel
theorem dX7_answer_90 : decode cX7_answer 90 = .ok (.aload_n 0, 1) := by decide +kernel
theorem dX7_answer_91 : decode cX7_answer 91 = .ok (.dup, 1) := by decide +kernel
theorem dX7_answer_92 : decode cX7_answer 92 = .ok (.getfield 91, 3) := by decide +kernel
theorem dX7_answer_95 : decode cX7_answer 95 = .ok (.iconst 1, 1) := by decide +kernel
theorem dX7_answer_96 : decode cX7_answer 96 = .ok (.iadd, 1) := by decide +kernel
theorem dX7_answer_97 : decode cX7_answer 97 = .ok (.putfield 91, 3) := by decide +kernel
theorem dX7_answer_100 : decode cX7_answer 100 = .ok (.aload_n 0, 1) := by decide +kernel
theorem dX7_answer_101 : decode cX7_answer 101 = .ok (.dup, 1) := by decide +kernel
theorem dX7_answer_102 : decode cX7_answer 102 = .ok (.getfield 94, 3) := by decide +kernel
theorem dX7_answer_105 : decode cX7_answer 105 = .ok (.aload_n 0, 1) := by decide +kernel
theorem dX7_answer_106 : decode cX7_answer 106 = .ok (.getfield 53, 3) := by decide +kernel
theorem dX7_answer_109 : decode cX7_answer 109 = .ok (.iload_n 1, 1) := by decide +kernel
theorem dX7_answer_110 : decode cX7_answer 110 = .ok (.baload, 1) := by decide +kernel
theorem dX7_answer_111 : decode cX7_answer 111 = .ok (.ifCond .eq 7, 3) := by decide +kernel
theorem dX7_answer_114 : decode cX7_answer 114 = .ok (.iconst 0, 1) := by decide +kernel
theorem dX7_answer_115 : decode cX7_answer 115 = .ok (.goto 4, 3) := by decide +kernel
theorem dX7_answer_118 : decode cX7_answer 118 = .ok (.iconst 1, 1) := by decide +kernel
theorem dX7_answer_119 : decode cX7_answer 119 = .ok (.iadd, 1) := by decide +kernel
theorem dX7_answer_120 : decode cX7_answer 120 = .ok (.putfield 94, 3) := by decide +kernel
theorem dX7_answer_123 : decode cX7_answer 123 = .ok (.aload_n 0, 1) := by decide +kernel
theorem dX7_answer_124 : decode cX7_answer 124 = .ok (.dup, 1) := by decide +kernel
theorem dX7_answer_125 : decode cX7_answer 125 = .ok (.getfield 97, 3) := by decide +kernel
theorem dX7_answer_128 : decode cX7_answer 128 = .ok (.aload_n 0, 1) := by decide +kernel
theorem dX7_answer_129 : decode cX7_answer 129 = .ok (.getfield 31, 3) := by decide +kernel
theorem dX7_answer_132 : decode cX7_answer 132 = .ok (.iload_n 1, 1) := by decide +kernel
theorem dX7_answer_133 : decode cX7_answer 133 = .ok (.iaload, 1) := by decide +kernel
theorem dX7_answer_134 : decode cX7_answer 134 = .ok (.iadd, 1) := by decide +kernel
theorem dX7_answer_135 : decode cX7_answer 135 = .ok (.putfield 97, 3) := by decide +kernel
theorem dX7_answer_138 : decode cX7_answer 138 = .ok (.aload_n 0, 1) := by decide +kernel
theorem dX7_answer_139 : decode cX7_answer 139 = .ok (.getfield 31, 3) := by decide +kernel
theorem dX7_answer_142 : decode cX7_answer 142 = .ok (.iload_n 1, 1) := by decide +kernel
theorem dX7_answer_143 : decode cX7_answer 143 = .ok (.iaload, 1) := by decide +kernel
theorem dX7_answer_144 : decode cX7_answer 144 = .ok (.ireturn, 1) := by decide +kernel
theorem dX7_close_0 : decode cX7_close 0 = .ok (.aload_n 0, 1) := by decide +kernel
theorem dX7_close_1 : decode cX7_close 1 = .ok (.aload_n 0, 1) := by decide +kernel
theorem dX7_close_2 : decode cX7_close 2 = .ok (.iload_n 1, 1) := by decide +kernel
theorem dX7_close_3 : decode cX7_close 3 = .ok (.invokevirtual 149, 3) := by decide +kernel
theorem dX7_close_6 : decode cX7_close 6 = .ok (.ifCond .ne 7, 3) := by decide +kernel
theorem dX7_close_9 : decode cX7_close 9 = .ok (.iconst 1, 1) := by decide +kernel
theorem dX7_close_10 : decode cX7_close 10 = .ok (.goto 19, 3) := by decide +kernel
theorem dX7_close_13 : decode cX7_close 13 = .ok (.aload_n 0, 1) := by decide +kernel
theorem dX7_close_14 : decode cX7_close 14 = .ok (.getfield 49, 3) := by decide +kernel
theorem dX7_close_17 : decode cX7_close 17 = .ok (.iload_n 1, 1) := by decide +kernel
theorem dX7_close_18 : decode cX7_close 18 = .ok (.caload, 1) := by decide +kernel
theorem dX7_close_19 : decode cX7_close 19 = .ok (.bipush 97, 2) := by decide +kernel
theorem dX7_close_21 : decode cX7_close 21 = .ok (.if_icmp .eq 7, 3) := by decide +kernel
theorem dX7_close_24 : decode cX7_close 24 = .ok (.iconst 2, 1) := by decide +kernel
theorem dX7_close_25 : decode cX7_close 25 = .ok (.goto 4, 3) := by decide +kernel
theorem dX7_close_28 : decode cX7_close 28 = .ok (.iconst 0, 1) := by decide +kernel
theorem dX7_close_29 : decode cX7_close 29 = .ok (.putfield 69, 3) := by decide +kernel
theorem dX7_close_32 : decode cX7_close 32 = .ok (.aload_n 0, 1) := by decide +kernel
theorem dX7_close_33 : decode cX7_close 33 = .ok (.getfield 69, 3) := by decide +kernel
theorem dX7_close_36 : decode cX7_close 36 = .ok (.ifCond .le 5, 3) := by decide +kernel
theorem dX7_close_39 : decode cX7_close 39 = .ok (.iconst 0, 1) := by decide +kernel
theorem dX7_close_40 : decode cX7_close 40 = .ok (.ireturn, 1) := by decide +kernel
theorem dX7_close_41 : decode cX7_close 41 = .ok (.aload_n 0, 1) := by decide +kernel
theorem dX7_close_42 : decode cX7_close 42 = .ok (.iload_n 1, 1) := by decide +kernel
theorem dX7_close_43 : decode cX7_close 43 = .ok (.iconst 1, 1) := by decide +kernel
theorem dX7_close_44 : decode cX7_close 44 = .ok (.invokevirtual 133, 3) := by decide +kernel
theorem dX7_close_47 : decode cX7_close 47 = .ok (.aload_n 0, 1) := by decide +kernel
theorem dX7_close_48 : decode cX7_close 48 = .ok (.getfield 49, 3) := by decide +kernel
theorem dX7_close_51 : decode cX7_close 51 = .ok (.iload_n 1, 1) := by decide +kernel
theorem dX7_close_52 : decode cX7_close 52 = .ok (.bipush 99, 2) := by decide +kernel
theorem dX7_close_54 : decode cX7_close 54 = .ok (.castore, 1) := by decide +kernel
theorem dX7_close_55 : decode cX7_close 55 = .ok (.aload_n 0, 1) := by decide +kernel
theorem dX7_close_56 : decode cX7_close 56 = .ok (.getfield 40, 3) := by decide +kernel
theorem dX7_close_59 : decode cX7_close 59 = .ok (.iload_n 1, 1) := by decide +kernel
theorem dX7_close_60 : decode cX7_close 60 = .ok (.aload_n 0, 1) := by decide +kernel
theorem dX7_close_61 : decode cX7_close 61 = .ok (.getfield 73, 3) := by decide +kernel
theorem dX7_close_64 : decode cX7_close 64 = .ok (.iastore, 1) := by decide +kernel
theorem dX7_close_65 : decode cX7_close 65 = .ok (.iconst 0, 1) := by decide +kernel
theorem dX7_close_66 : decode cX7_close 66 = .ok (.istore_n 2, 1) := by decide +kernel
theorem dX7_close_67 : decode cX7_close 67 = .ok (.iconst 0, 1) := by decide +kernel
theorem dX7_close_68 : decode cX7_close 68 = .ok (.istore_n 3, 1) := by decide +kernel
theorem dX7_close_69 : decode cX7_close 69 = .ok (.iload_n 3, 1) := by decide +kernel
theorem dX7_close_70 : decode cX7_close 70 = .ok (.aload_n 0, 1) := by decide +kernel
theorem dX7_close_71 : decode cX7_close 71 = .ok (.getfield 79, 3) := by decide +kernel
theorem dX7_close_74 : decode cX7_close 74 = .ok (.if_icmp .ge 28, 3) := by decide +kernel
theorem dX7_close_77 : decode cX7_close 77 = .ok (.iload_n 2, 1) := by decide +kernel
theorem dX7_close_78 : decode cX7_close 78 = .ok (.aload_n 0, 1) := by decide +kernel
theorem dX7_close_79 : decode cX7_close 79 = .ok (.getfield 49, 3) := by decide +kernel
theorem dX7_close_82 : decode cX7_close 82 = .ok (.iload_n 3, 1) := by decide +kernel
theorem dX7_close_83 : decode cX7_close 83 = .ok (.caload, 1) := by decide +kernel
theorem dX7_close_84 : decode cX7_close 84 = .ok (.bipush 99, 2) := by decide +kernel
theorem dX7_close_86 : decode cX7_close 86 = .ok (.if_icmp .ne 7, 3) := by decide +kernel
theorem dX7_close_89 : decode cX7_close 89 = .ok (.iconst 1, 1) := by decide +kernel
theorem dX7_close_90 : decode cX7_close 90 = .ok (.goto 4, 3) := by decide +kernel
theorem dX7_close_93 : decode cX7_close 93 = .ok (.iconst 0, 1) := by decide +kernel
theorem dX7_close_94 : decode cX7_close 94 = .ok (.iadd, 1) := by decide +kernel
theorem dX7_close_95 : decode cX7_close 95 = .ok (.istore_n 2, 1) := by decide +kernel
theorem dX7_close_96 : decode cX7_close 96 = .ok (.iinc 3 1, 3) := by decide +kernel
theorem dX7_close_99 : decode cX7_close 99 = .ok (.goto (-30), 3) := by decide +kernel
theorem dX7_close_102 : decode cX7_close 102 = .ok (.iload_n 2, 1) := by decide +kernel
theorem dX7_close_103 : decode cX7_close 103 = .ok (.ireturn, 1) := by decide +kernel
theorem dX7_merge_0 : decode cX7_merge 0 = .ok (.aload_n 0, 1) := by decide +kernel
theorem dX7_merge_1 : decode cX7_merge 1 = .ok (.aload_n 0, 1) := by decide +kernel
theorem dX7_merge_2 : decode cX7_merge 2 = .ok (.iload_n 1, 1) := by decide +kernel
theorem dX7_merge_3 : decode cX7_merge 3 = .ok (.invokevirtual 149, 3) := by decide +kernel
theorem dX7_merge_6 : decode cX7_merge 6 = .ok (.ifCond .eq 11, 3) := by decide +kernel
theorem dX7_merge_9 : decode cX7_merge 9 = .ok (.aload_n 0, 1) := by decide +kernel
theorem dX7_merge_10 : decode cX7_merge 10 = .ok (.iload_n 2, 1) := by decide +kernel
theorem dX7_merge_11 : decode cX7_merge 11 = .ok (.invokevirtual 149, 3) := by decide +kernel
theorem dX7_merge_14 : decode cX7_merge 14 = .ok (.ifCond .ne 7, 3) := by decide +kernel
theorem dX7_merge_17 : decode cX7_merge 17 = .ok (.iconst 1, 1) := by decide +kernel
theorem dX7_merge_18 : decode cX7_merge 18 = .ok (.goto 52, 3) := by decide +kernel
theorem dX7_merge_21 : decode cX7_merge 21 = .ok (.iload_n 1, 1) := by decide +kernel
theorem dX7_merge_22 : decode cX7_merge 22 = .ok (.iload_n 2, 1) := by decide +kernel
theorem dX7_merge_23 : decode cX7_merge 23 = .ok (.if_icmp .ne 7, 3) := by decide +kernel
theorem dX7_merge_26 : decode cX7_merge 26 = .ok (.iconst 2, 1) := by decide +kernel
theorem dX7_merge_27 : decode cX7_merge 27 = .ok (.goto 43, 3) := by decide +kernel
theorem dX7_merge_30 : decode cX7_merge 30 = .ok (.aload_n 0, 1) := by decide +kernel
theorem dX7_merge_31 : decode cX7_merge 31 = .ok (.iload_n 1, 1) := by decide +kernel
theorem dX7_merge_32 : decode cX7_merge 32 = .ok (.invokevirtual 123, 3) := by decide +kernel
theorem dX7_merge_35 : decode cX7_merge 35 = .ok (.ifCond .eq 11, 3) := by decide +kernel
theorem dX7_merge_38 : decode cX7_merge 38 = .ok (.aload_n 0, 1) := by decide +kernel
theorem dX7_merge_39 : decode cX7_merge 39 = .ok (.iload_n 2, 1) := by decide +kernel
theorem dX7_merge_40 : decode cX7_merge 40 = .ok (.invokevirtual 123, 3) := by decide +kernel
theorem dX7_merge_43 : decode cX7_merge 43 = .ok (.ifCond .ne 7, 3) := by decide +kernel
theorem dX7_merge_46 : decode cX7_merge 46 = .ok (.iconst 3, 1) := by decide +kernel
theorem dX7_merge_47 : decode cX7_merge 47 = .ok (.goto 23, 3) := by decide +kernel
theorem dX7_merge_50 : decode cX7_merge 50 = .ok (.aload_n 0, 1) := by decide +kernel
theorem dX7_merge_51 : decode cX7_merge 51 = .ok (.getfield 22, 3) := by decide +kernel
theorem dX7_merge_54 : decode cX7_merge 54 = .ok (.iload_n 1, 1) := by decide +kernel
theorem dX7_merge_55 : decode cX7_merge 55 = .ok (.iaload, 1) := by decide +kernel
theorem dX7_merge_56 : decode cX7_merge 56 = .ok (.aload_n 0, 1) := by decide +kernel
theorem dX7_merge_57 : decode cX7_merge 57 = .ok (.getfield 22, 3) := by decide +kernel
theorem dX7_merge_60 : decode cX7_merge 60 = .ok (.iload_n 2, 1) := by decide +kernel
theorem dX7_merge_61 : decode cX7_merge 61 = .ok (.iaload, 1) := by decide +kernel
theorem dX7_merge_62 : decode cX7_merge 62 = .ok (.if_icmp .eq 7, 3) := by decide +kernel
theorem dX7_merge_65 : decode cX7_merge 65 = .ok (.iconst 4, 1) := by decide +kernel
theorem dX7_merge_66 : decode cX7_merge 66 = .ok (.goto 4, 3) := by decide +kernel
theorem dX7_merge_69 : decode cX7_merge 69 = .ok (.iconst 0, 1) := by decide +kernel
theorem dX7_merge_70 : decode cX7_merge 70 = .ok (.putfield 69, 3) := by decide +kernel
theorem dX7_merge_73 : decode cX7_merge 73 = .ok (.aload_n 0, 1) := by decide +kernel
theorem dX7_merge_74 : decode cX7_merge 74 = .ok (.getfield 69, 3) := by decide +kernel
theorem dX7_merge_77 : decode cX7_merge 77 = .ok (.ifCond .le 5, 3) := by decide +kernel
theorem dX7_merge_80 : decode cX7_merge 80 = .ok (.iconst 0, 1) := by decide +kernel
theorem dX7_merge_81 : decode cX7_merge 81 = .ok (.ireturn, 1) := by decide +kernel
theorem dX7_merge_82 : decode cX7_merge 82 = .ok (.iconst 0, 1) := by decide +kernel
theorem dX7_merge_83 : decode cX7_merge 83 = .ok (.istore_n 3, 1) := by decide +kernel
theorem dX7_merge_84 : decode cX7_merge 84 = .ok (.iload_n 3, 1) := by decide +kernel
theorem dX7_merge_85 : decode cX7_merge 85 = .ok (.aload_n 0, 1) := by decide +kernel
theorem dX7_merge_86 : decode cX7_merge 86 = .ok (.getfield 76, 3) := by decide +kernel
theorem dX7_merge_89 : decode cX7_merge 89 = .ok (.if_icmp .ge 26, 3) := by decide +kernel
theorem dX7_merge_92 : decode cX7_merge 92 = .ok (.aload_n 0, 1) := by decide +kernel
theorem dX7_merge_93 : decode cX7_merge 93 = .ok (.getfield 16, 3) := by decide +kernel
theorem dX7_merge_96 : decode cX7_merge 96 = .ok (.iload_n 3, 1) := by decide +kernel
theorem dX7_merge_97 : decode cX7_merge 97 = .ok (.iaload, 1) := by decide +kernel
theorem dX7_merge_98 : decode cX7_merge 98 = .ok (.iload_n 1, 1) := by decide +kernel
theorem dX7_merge_99 : decode cX7_merge 99 = .ok (.if_icmp .ne 10, 3) := by decide +kernel
theorem dX7_merge_102 : decode cX7_merge 102 = .ok (.aload_n 0, 1) := by decide +kernel
theorem dX7_merge_103 : decode cX7_merge 103 = .ok (.getfield 16, 3) := by decide +kernel
theorem dX7_merge_106 : decode cX7_merge 106 = .ok (.iload_n 3, 1) := by decide +kernel
theorem dX7_merge_107 : decode cX7_merge 107 = .ok (.iload_n 2, 1) := by decide +kernel
theorem dX7_merge_108 : decode cX7_merge 108 = .ok (.iastore, 1) := by decide +kernel
theorem dX7_merge_109 : decode cX7_merge 109 = .ok (.iinc 3 1, 3) := by decide +kernel
theorem dX7_merge_112 : decode cX7_merge 112 = .ok (.goto (-28), 3) := by decide +kernel
theorem dX7_merge_115 : decode cX7_merge 115 = .ok (.aload_n 0, 1) := by decide +kernel
theorem dX7_merge_116 : decode cX7_merge 116 = .ok (.getfield 49, 3) := by decide +kernel
theorem dX7_merge_119 : decode cX7_merge 119 = .ok (.iload_n 1, 1) := by decide +kernel
theorem dX7_merge_120 : decode cX7_merge 120 = .ok (.bipush 109, 2) := by decide +kernel
theorem dX7_merge_122 : decode cX7_merge 122 = .ok (.castore, 1) := by decide +kernel
theorem dX7_merge_123 : decode cX7_merge 123 = .ok (.aload_n 0, 1) := by decide +kernel
theorem dX7_merge_124 : decode cX7_merge 124 = .ok (.getfield 34, 3) := by decide +kernel
theorem dX7_merge_127 : decode cX7_merge 127 = .ok (.iload_n 1, 1) := by decide +kernel
theorem dX7_merge_128 : decode cX7_merge 128 = .ok (.iconst (-1), 1) := by decide +kernel
theorem dX7_merge_129 : decode cX7_merge 129 = .ok (.iastore, 1) := by decide +kernel
theorem dX7_merge_130 : decode cX7_merge 130 = .ok (.aload_n 0, 1) := by decide +kernel
theorem dX7_merge_131 : decode cX7_merge 131 = .ok (.getfield 43, 3) := by decide +kernel
theorem dX7_merge_134 : decode cX7_merge 134 = .ok (.iload_n 1, 1) := by decide +kernel
theorem dX7_merge_135 : decode cX7_merge 135 = .ok (.iload_n 2, 1) := by decide +kernel
theorem dX7_merge_136 : decode cX7_merge 136 = .ok (.iastore, 1) := by decide +kernel
theorem dX7_merge_137 : decode cX7_merge 137 = .ok (.aload_n 0, 1) := by decide +kernel
theorem dX7_merge_138 : decode cX7_merge 138 = .ok (.getfield 31, 3) := by decide +kernel
theorem dX7_merge_141 : decode cX7_merge 141 = .ok (.iload_n 2, 1) := by decide +kernel
theorem dX7_merge_142 : decode cX7_merge 142 = .ok (.aload_n 0, 1) := by decide +kernel
theorem dX7_merge_143 : decode cX7_merge 143 = .ok (.getfield 31, 3) := by decide +kernel
theorem dX7_merge_146 : decode cX7_merge 146 = .ok (.iload_n 1, 1) := by decide +kernel
theorem dX7_merge_147 : decode cX7_merge 147 = .ok (.iaload, 1) := by decide +kernel
theorem dX7_merge_148 : decode cX7_merge 148 = .ok (.aload_n 0, 1) := by decide +kernel
theorem dX7_merge_149 : decode cX7_merge 149 = .ok (.getfield 31, 3) := by decide +kernel
theorem dX7_merge_152 : decode cX7_merge 152 = .ok (.iload_n 2, 1) := by decide +kernel
theorem dX7_merge_153 : decode cX7_merge 153 = .ok (.iaload, 1) := by decide +kernel
theorem dX7_merge_154 : decode cX7_merge 154 = .ok (.if_icmp .le 12, 3) := by decide +kernel
theorem dX7_merge_157 : decode cX7_merge 157 = .ok (.aload_n 0, 1) := by decide +kernel
theorem dX7_merge_158 : decode cX7_merge 158 = .ok (.getfield 31, 3) := by decide +kernel
theorem dX7_merge_161 : decode cX7_merge 161 = .ok (.iload_n 1, 1) := by decide +kernel
theorem dX7_merge_162 : decode cX7_merge 162 = .ok (.iaload, 1) := by decide +kernel
theorem dX7_merge_163 : decode cX7_merge 163 = .ok (.goto 9, 3) := by decide +kernel
theorem dX7_merge_166 : decode cX7_merge 166 = .ok (.aload_n 0, 1) := by decide +kernel
theorem dX7_merge_167 : decode cX7_merge 167 = .ok (.getfield 31, 3) := by decide +kernel
theorem dX7_merge_170 : decode cX7_merge 170 = .ok (.iload_n 2, 1) := by decide +kernel
theorem dX7_merge_171 : decode cX7_merge 171 = .ok (.iaload, 1) := by decide +kernel
theorem dX7_merge_172 : decode cX7_merge 172 = .ok (.iastore, 1) := by decide +kernel
theorem dX7_merge_173 : decode cX7_merge 173 = .ok (.aload_n 0, 1) := by decide +kernel
theorem dX7_merge_174 : decode cX7_merge 174 = .ok (.getfield 53, 3) := by decide +kernel
theorem dX7_merge_177 : decode cX7_merge 177 = .ok (.iload_n 2, 1) := by decide +kernel
theorem dX7_merge_178 : decode cX7_merge 178 = .ok (.aload_n 0, 1) := by decide +kernel
theorem dX7_merge_179 : decode cX7_merge 179 = .ok (.getfield 53, 3) := by decide +kernel
theorem dX7_merge_182 : decode cX7_merge 182 = .ok (.iload_n 2, 1) := by decide +kernel
theorem dX7_merge_183 : decode cX7_merge 183 = .ok (.baload, 1) := by decide +kernel
theorem dX7_merge_184 : decode cX7_merge 184 = .ok (.ifCond .ne 12, 3) := by decide +kernel
theorem dX7_merge_187 : decode cX7_merge 187 = .ok (.aload_n 0, 1) := by decide +kernel
theorem dX7_merge_188 : decode cX7_merge 188 = .ok (.getfield 53, 3) := by decide +kernel
theorem dX7_merge_191 : decode cX7_merge 191 = .ok (.iload_n 1, 1) := by decide +kernel
theorem dX7_merge_192 : decode cX7_merge 192 = .ok (.baload, 1) := by decide +kernel
theorem dX7_merge_193 : decode cX7_merge 193 = .ok (.ifCond .eq 7, 3) := by decide +kernel
theorem dX7_merge_196 : decode cX7_merge 196 = .ok (.iconst 1, 1) := by decide +kernel
theorem dX7_merge_197 : decode cX7_merge 197 = .ok (.goto 4, 3) := by decide +kernel
theorem dX7_merge_200 : decode cX7_merge 200 = .ok (.iconst 0, 1) := by decide +kernel
theorem dX7_merge_201 : decode cX7_merge 201 = .ok (.bastore, 1) := by decide +kernel
theorem dX7_merge_202 : decode cX7_merge 202 = .ok (.aload_n 0, 1) := by decide +kernel
theorem dX7_merge_203 : decode cX7_merge 203 = .ok (.iload_n 2, 1) := by decide +kernel
theorem dX7_merge_204 : decode cX7_merge 204 = .ok (.invokevirtual 152, 3) := by decide +kernel
theorem dX7_merge_207 : decode cX7_merge 207 = .ok (.ireturn, 1) := by decide +kernel
theorem dX7_addAnswer_0 : decode cX7_addAnswer 0 = .ok (.aload_n 0, 1) := by decide +kernel
theorem dX7_addAnswer_1 : decode cX7_addAnswer 1 = .ok (.iload_n 1, 1) := by decide +kernel
theorem dX7_addAnswer_2 : decode cX7_addAnswer 2 = .ok (.iconst 0, 1) := by decide +kernel
theorem dX7_addAnswer_3 : decode cX7_addAnswer 3 = .ok (.sipush 1023, 3) := by decide +kernel
theorem dX7_addAnswer_6 : decode cX7_addAnswer 6 = .ok (.invokestatic 104, 3) := by decide +kernel
theorem dX7_addAnswer_9 : decode cX7_addAnswer 9 = .ok (.ifCond .ne 7, 3) := by decide +kernel
theorem dX7_addAnswer_12 : decode cX7_addAnswer 12 = .ok (.iconst 1, 1) := by decide +kernel
theorem dX7_addAnswer_13 : decode cX7_addAnswer 13 = .ok (.goto 17, 3) := by decide +kernel
theorem dX7_addAnswer_16 : decode cX7_addAnswer 16 = .ok (.aload_n 0, 1) := by decide +kernel
theorem dX7_addAnswer_17 : decode cX7_addAnswer 17 = .ok (.getfield 85, 3) := by decide +kernel
theorem dX7_addAnswer_20 : decode cX7_addAnswer 20 = .ok (.bipush 8, 2) := by decide +kernel
theorem dX7_addAnswer_22 : decode cX7_addAnswer 22 = .ok (.if_icmp .ne 7, 3) := by decide +kernel
theorem dX7_addAnswer_25 : decode cX7_addAnswer 25 = .ok (.iconst 2, 1) := by decide +kernel
theorem dX7_addAnswer_26 : decode cX7_addAnswer 26 = .ok (.goto 4, 3) := by decide +kernel
theorem dX7_addAnswer_29 : decode cX7_addAnswer 29 = .ok (.iconst 0, 1) := by decide +kernel
theorem dX7_addAnswer_30 : decode cX7_addAnswer 30 = .ok (.putfield 69, 3) := by decide +kernel
theorem dX7_addAnswer_33 : decode cX7_addAnswer 33 = .ok (.aload_n 0, 1) := by decide +kernel
theorem dX7_addAnswer_34 : decode cX7_addAnswer 34 = .ok (.getfield 69, 3) := by decide +kernel
theorem dX7_addAnswer_37 : decode cX7_addAnswer 37 = .ok (.ifCond .le 5, 3) := by decide +kernel
theorem dX7_addAnswer_40 : decode cX7_addAnswer 40 = .ok (.iconst 0, 1) := by decide +kernel
theorem dX7_addAnswer_41 : decode cX7_addAnswer 41 = .ok (.ireturn, 1) := by decide +kernel
theorem dX7_addAnswer_42 : decode cX7_addAnswer 42 = .ok (.aload_n 0, 1) := by decide +kernel
theorem dX7_addAnswer_43 : decode cX7_addAnswer 43 = .ok (.getfield 63, 3) := by decide +kernel
theorem dX7_addAnswer_46 : decode cX7_addAnswer 46 = .ok (.aload_n 0, 1) := by decide +kernel
theorem dX7_addAnswer_47 : decode cX7_addAnswer 47 = .ok (.getfield 85, 3) := by decide +kernel
theorem dX7_addAnswer_50 : decode cX7_addAnswer 50 = .ok (.iload_n 1, 1) := by decide +kernel
theorem dX7_addAnswer_51 : decode cX7_addAnswer 51 = .ok (.iastore, 1) := by decide +kernel
theorem dX7_addAnswer_52 : decode cX7_addAnswer 52 = .ok (.aload_n 0, 1) := by decide +kernel
theorem dX7_addAnswer_53 : decode cX7_addAnswer 53 = .ok (.dup, 1) := by decide +kernel
theorem dX7_addAnswer_54 : decode cX7_addAnswer 54 = .ok (.getfield 85, 3) := by decide +kernel
theorem dX7_addAnswer_57 : decode cX7_addAnswer 57 = .ok (.iconst 1, 1) := by decide +kernel
theorem dX7_addAnswer_58 : decode cX7_addAnswer 58 = .ok (.iadd, 1) := by decide +kernel
theorem dX7_addAnswer_59 : decode cX7_addAnswer 59 = .ok (.putfield 85, 3) := by decide +kernel
theorem dX7_addAnswer_62 : decode cX7_addAnswer 62 = .ok (.aload_n 0, 1) := by decide +kernel
theorem dX7_addAnswer_63 : decode cX7_addAnswer 63 = .ok (.getfield 85, 3) := by decide +kernel
theorem dX7_addAnswer_66 : decode cX7_addAnswer 66 = .ok (.iconst 1, 1) := by decide +kernel
theorem dX7_addAnswer_67 : decode cX7_addAnswer 67 = .ok (.isub, 1) := by decide +kernel
theorem dX7_addAnswer_68 : decode cX7_addAnswer 68 = .ok (.ireturn, 1) := by decide +kernel
theorem dX7_weight_0 : decode cX7_weight 0 = .ok (.aload_n 0, 1) := by decide +kernel
theorem dX7_weight_1 : decode cX7_weight 1 = .ok (.iload_n 1, 1) := by decide +kernel
theorem dX7_weight_2 : decode cX7_weight 2 = .ok (.iconst 0, 1) := by decide +kernel
theorem dX7_weight_3 : decode cX7_weight 3 = .ok (.aload_n 0, 1) := by decide +kernel
theorem dX7_weight_4 : decode cX7_weight 4 = .ok (.getfield 85, 3) := by decide +kernel
theorem dX7_weight_7 : decode cX7_weight 7 = .ok (.iconst 1, 1) := by decide +kernel
theorem dX7_weight_8 : decode cX7_weight 8 = .ok (.isub, 1) := by decide +kernel
theorem dX7_weight_9 : decode cX7_weight 9 = .ok (.invokestatic 104, 3) := by decide +kernel
theorem dX7_weight_12 : decode cX7_weight 12 = .ok (.ifCond .ne 7, 3) := by decide +kernel
theorem dX7_weight_15 : decode cX7_weight 15 = .ok (.iconst 1, 1) := by decide +kernel
theorem dX7_weight_16 : decode cX7_weight 16 = .ok (.goto 17, 3) := by decide +kernel
theorem dX7_weight_19 : decode cX7_weight 19 = .ok (.iload_n 2, 1) := by decide +kernel
theorem dX7_weight_20 : decode cX7_weight 20 = .ok (.iconst 0, 1) := by decide +kernel
theorem dX7_weight_21 : decode cX7_weight 21 = .ok (.iconst 5, 1) := by decide +kernel
theorem dX7_weight_22 : decode cX7_weight 22 = .ok (.invokestatic 104, 3) := by decide +kernel
theorem dX7_weight_25 : decode cX7_weight 25 = .ok (.ifCond .ne 7, 3) := by decide +kernel
theorem dX7_weight_28 : decode cX7_weight 28 = .ok (.iconst 2, 1) := by decide +kernel
theorem dX7_weight_29 : decode cX7_weight 29 = .ok (.goto 4, 3) := by decide +kernel
theorem dX7_weight_32 : decode cX7_weight 32 = .ok (.iconst 0, 1) := by decide +kernel
theorem dX7_weight_33 : decode cX7_weight 33 = .ok (.putfield 69, 3) := by decide +kernel
theorem dX7_weight_36 : decode cX7_weight 36 = .ok (.aload_n 0, 1) := by decide +kernel
theorem dX7_weight_37 : decode cX7_weight 37 = .ok (.getfield 69, 3) := by decide +kernel
theorem dX7_weight_40 : decode cX7_weight 40 = .ok (.ifCond .le 7, 3) := by decide +kernel
theorem dX7_weight_43 : decode cX7_weight 43 = .ok (.iconst 0, 1) := by decide +kernel
theorem dX7_weight_44 : decode cX7_weight 44 = .ok (.goto 14, 3) := by decide +kernel
theorem dX7_weight_47 : decode cX7_weight 47 = .ok (.aload_n 0, 1) := by decide +kernel
theorem dX7_weight_48 : decode cX7_weight 48 = .ok (.getfield 66, 3) := by decide +kernel
theorem dX7_weight_51 : decode cX7_weight 51 = .ok (.bipush 6, 2) := by decide +kernel
theorem dX7_weight_53 : decode cX7_weight 53 = .ok (.iload_n 1, 1) := by decide +kernel
theorem dX7_weight_54 : decode cX7_weight 54 = .ok (.imul, 1) := by decide +kernel
theorem dX7_weight_55 : decode cX7_weight 55 = .ok (.iload_n 2, 1) := by decide +kernel
theorem dX7_weight_56 : decode cX7_weight 56 = .ok (.iadd, 1) := by decide +kernel
theorem dX7_weight_57 : decode cX7_weight 57 = .ok (.iaload, 1) := by decide +kernel
theorem dX7_weight_58 : decode cX7_weight 58 = .ok (.ireturn, 1) := by decide +kernel
theorem dX7_wordsOf_0 : decode cX7_wordsOf 0 = .ok (.iconst 0, 1) := by decide +kernel
theorem dX7_wordsOf_1 : decode cX7_wordsOf 1 = .ok (.istore_n 2, 1) := by decide +kernel
theorem dX7_wordsOf_2 : decode cX7_wordsOf 2 = .ok (.iconst 0, 1) := by decide +kernel
theorem dX7_wordsOf_3 : decode cX7_wordsOf 3 = .ok (.istore_n 3, 1) := by decide +kernel
theorem dX7_wordsOf_4 : decode cX7_wordsOf 4 = .ok (.iload_n 3, 1) := by decide +kernel
theorem dX7_wordsOf_5 : decode cX7_wordsOf 5 = .ok (.aload_n 0, 1) := by decide +kernel
theorem dX7_wordsOf_6 : decode cX7_wordsOf 6 = .ok (.getfield 76, 3) := by decide +kernel
theorem dX7_wordsOf_9 : decode cX7_wordsOf 9 = .ok (.if_icmp .ge 32, 3) := by decide +kernel
theorem dX7_wordsOf_12 : decode cX7_wordsOf 12 = .ok (.iload_n 2, 1) := by decide +kernel
theorem dX7_wordsOf_13 : decode cX7_wordsOf 13 = .ok (.aload_n 0, 1) := by decide +kernel
theorem dX7_wordsOf_14 : decode cX7_wordsOf 14 = .ok (.getfield 16, 3) := by decide +kernel
theorem dX7_wordsOf_17 : decode cX7_wordsOf 17 = .ok (.iload_n 3, 1) := by decide +kernel
theorem dX7_wordsOf_18 : decode cX7_wordsOf 18 = .ok (.iaload, 1) := by decide +kernel
theorem dX7_wordsOf_19 : decode cX7_wordsOf 19 = .ok (.iload_n 1, 1) := by decide +kernel
theorem dX7_wordsOf_20 : decode cX7_wordsOf 20 = .ok (.if_icmp .ne 12, 3) := by decide +kernel
theorem dX7_wordsOf_23 : decode cX7_wordsOf 23 = .ok (.aload_n 0, 1) := by decide +kernel
theorem dX7_wordsOf_24 : decode cX7_wordsOf 24 = .ok (.getfield 19, 3) := by decide +kernel
theorem dX7_wordsOf_27 : decode cX7_wordsOf 27 = .ok (.iload_n 3, 1) := by decide +kernel
theorem dX7_wordsOf_28 : decode cX7_wordsOf 28 = .ok (.iaload, 1) := by decide +kernel
theorem dX7_wordsOf_29 : decode cX7_wordsOf 29 = .ok (.goto 4, 3) := by decide +kernel
theorem dX7_wordsOf_32 : decode cX7_wordsOf 32 = .ok (.iconst 0, 1) := by decide +kernel
theorem dX7_wordsOf_33 : decode cX7_wordsOf 33 = .ok (.ior, 1) := by decide +kernel
theorem dX7_wordsOf_34 : decode cX7_wordsOf 34 = .ok (.istore_n 2, 1) := by decide +kernel
theorem dX7_wordsOf_35 : decode cX7_wordsOf 35 = .ok (.iinc 3 1, 3) := by decide +kernel
theorem dX7_wordsOf_38 : decode cX7_wordsOf 38 = .ok (.goto (-34), 3) := by decide +kernel
theorem dX7_wordsOf_41 : decode cX7_wordsOf 41 = .ok (.iload_n 2, 1) := by decide +kernel
theorem dX7_wordsOf_42 : decode cX7_wordsOf 42 = .ok (.ireturn, 1) := by decide +kernel
theorem dX7_suggestion_0 : decode cX7_suggestion 0 = .ok (.aload_n 0, 1) := by decide +kernel
theorem dX7_suggestion_1 : decode cX7_suggestion 1 = .ok (.aload_n 0, 1) := by decide +kernel
theorem dX7_suggestion_2 : decode cX7_suggestion 2 = .ok (.iload_n 1, 1) := by decide +kernel
theorem dX7_suggestion_3 : decode cX7_suggestion 3 = .ok (.invokevirtual 149, 3) := by decide +kernel
theorem dX7_suggestion_6 : decode cX7_suggestion 6 = .ok (.invokevirtual 112, 3) := by decide +kernel
theorem dX7_suggestion_9 : decode cX7_suggestion 9 = .ok (.ifCond .le 5, 3) := by decide +kernel
theorem dX7_suggestion_12 : decode cX7_suggestion 12 = .ok (.iconst 0, 1) := by decide +kernel
theorem dX7_suggestion_13 : decode cX7_suggestion 13 = .ok (.ireturn, 1) := by decide +kernel
theorem dX7_suggestion_14 : decode cX7_suggestion 14 = .ok (.iconst (-1), 1) := by decide +kernel
theorem dX7_suggestion_15 : decode cX7_suggestion 15 = .ok (.istore_n 2, 1) := by decide +kernel
theorem dX7_suggestion_16 : decode cX7_suggestion 16 = .ok (.iconst 0, 1) := by decide +kernel
theorem dX7_suggestion_17 : decode cX7_suggestion 17 = .ok (.istore_n 3, 1) := by decide +kernel
theorem dX7_suggestion_18 : decode cX7_suggestion 18 = .ok (.iconst 0, 1) := by decide +kernel
theorem dX7_suggestion_19 : decode cX7_suggestion 19 = .ok (.istore 4, 2) := by decide +kernel
theorem dX7_suggestion_21 : decode cX7_suggestion 21 = .ok (.iload 4, 2) := by decide +kernel
theorem dX7_suggestion_23 : decode cX7_suggestion 23 = .ok (.aload_n 0, 1) := by decide +kernel
theorem dX7_suggestion_24 : decode cX7_suggestion 24 = .ok (.getfield 85, 3) := by decide +kernel
theorem dX7_suggestion_27 : decode cX7_suggestion 27 = .ok (.if_icmp .ge 72, 3) := by decide +kernel
theorem dX7_suggestion_30 : decode cX7_suggestion 30 = .ok (.aload_n 0, 1) := by decide +kernel
theorem dX7_suggestion_31 : decode cX7_suggestion 31 = .ok (.getfield 63, 3) := by decide +kernel
theorem dX7_suggestion_34 : decode cX7_suggestion 34 = .ok (.iload 4, 2) := by decide +kernel
theorem dX7_suggestion_36 : decode cX7_suggestion 36 = .ok (.iaload, 1) := by decide +kernel
theorem dX7_suggestion_37 : decode cX7_suggestion 37 = .ok (.aload_n 0, 1) := by decide +kernel
theorem dX7_suggestion_38 : decode cX7_suggestion 38 = .ok (.iload_n 1, 1) := by decide +kernel
theorem dX7_suggestion_39 : decode cX7_suggestion 39 = .ok (.invokevirtual 190, 3) := by decide +kernel
theorem dX7_suggestion_42 : decode cX7_suggestion 42 = .ok (.iand, 1) := by decide +kernel
theorem dX7_suggestion_43 : decode cX7_suggestion 43 = .ok (.invokestatic 165, 3) := by decide +kernel
theorem dX7_suggestion_46 : decode cX7_suggestion 46 = .ok (.istore 5, 2) := by decide +kernel
theorem dX7_suggestion_48 : decode cX7_suggestion 48 = .ok (.bipush 10, 2) := by decide +kernel
theorem dX7_suggestion_50 : decode cX7_suggestion 50 = .ok (.iload 5, 2) := by decide +kernel
theorem dX7_suggestion_52 : decode cX7_suggestion 52 = .ok (.imul, 1) := by decide +kernel
theorem dX7_suggestion_53 : decode cX7_suggestion 53 = .ok (.aload_n 0, 1) := by decide +kernel
theorem dX7_suggestion_54 : decode cX7_suggestion 54 = .ok (.getfield 66, 3) := by decide +kernel
theorem dX7_suggestion_57 : decode cX7_suggestion 57 = .ok (.bipush 6, 2) := by decide +kernel
theorem dX7_suggestion_59 : decode cX7_suggestion 59 = .ok (.iload 4, 2) := by decide +kernel
theorem dX7_suggestion_61 : decode cX7_suggestion 61 = .ok (.imul, 1) := by decide +kernel
theorem dX7_suggestion_62 : decode cX7_suggestion 62 = .ok (.aload_n 0, 1) := by decide +kernel
theorem dX7_suggestion_63 : decode cX7_suggestion 63 = .ok (.getfield 28, 3) := by decide +kernel
theorem dX7_suggestion_66 : decode cX7_suggestion 66 = .ok (.iload_n 1, 1) := by decide +kernel
theorem dX7_suggestion_67 : decode cX7_suggestion 67 = .ok (.iaload, 1) := by decide +kernel
theorem dX7_suggestion_68 : decode cX7_suggestion 68 = .ok (.iadd, 1) := by decide +kernel
theorem dX7_suggestion_69 : decode cX7_suggestion 69 = .ok (.iaload, 1) := by decide +kernel
theorem dX7_suggestion_70 : decode cX7_suggestion 70 = .ok (.iadd, 1) := by decide +kernel
theorem dX7_suggestion_71 : decode cX7_suggestion 71 = .ok (.istore 6, 2) := by decide +kernel
theorem dX7_suggestion_73 : decode cX7_suggestion 73 = .ok (.iload 5, 2) := by decide +kernel
theorem dX7_suggestion_75 : decode cX7_suggestion 75 = .ok (.ifCond .eq 18, 3) := by decide +kernel
theorem dX7_suggestion_78 : decode cX7_suggestion 78 = .ok (.iload 6, 2) := by decide +kernel
theorem dX7_suggestion_80 : decode cX7_suggestion 80 = .ok (.iload_n 3, 1) := by decide +kernel
theorem dX7_suggestion_81 : decode cX7_suggestion 81 = .ok (.if_icmp .gt 6, 3) := by decide +kernel
theorem dX7_suggestion_84 : decode cX7_suggestion 84 = .ok (.goto 9, 3) := by decide +kernel
theorem dX7_suggestion_87 : decode cX7_suggestion 87 = .ok (.iload 4, 2) := by decide +kernel
theorem dX7_suggestion_89 : decode cX7_suggestion 89 = .ok (.istore_n 2, 1) := by decide +kernel
theorem dX7_suggestion_90 : decode cX7_suggestion 90 = .ok (.iload 6, 2) := by decide +kernel
theorem dX7_suggestion_92 : decode cX7_suggestion 92 = .ok (.istore_n 3, 1) := by decide +kernel
theorem dX7_suggestion_93 : decode cX7_suggestion 93 = .ok (.iinc 4 1, 3) := by decide +kernel
theorem dX7_suggestion_96 : decode cX7_suggestion 96 = .ok (.goto (-75), 3) := by decide +kernel
theorem dX7_suggestion_99 : decode cX7_suggestion 99 = .ok (.aload_n 0, 1) := by decide +kernel
theorem dX7_suggestion_100 : decode cX7_suggestion 100 = .ok (.iload_n 2, 1) := by decide +kernel
theorem dX7_suggestion_101 : decode cX7_suggestion 101 = .ok (.ifCond .ge 7, 3) := by decide +kernel
theorem dX7_suggestion_104 : decode cX7_suggestion 104 = .ok (.iconst 2, 1) := by decide +kernel
theorem dX7_suggestion_105 : decode cX7_suggestion 105 = .ok (.goto 4, 3) := by decide +kernel
theorem dX7_suggestion_108 : decode cX7_suggestion 108 = .ok (.iconst 0, 1) := by decide +kernel
theorem dX7_suggestion_109 : decode cX7_suggestion 109 = .ok (.putfield 69, 3) := by decide +kernel
theorem dX7_suggestion_112 : decode cX7_suggestion 112 = .ok (.iload_n 2, 1) := by decide +kernel
theorem dX7_suggestion_113 : decode cX7_suggestion 113 = .ok (.ireturn, 1) := by decide +kernel
theorem dX7_suggestionByWords_0 : decode cX7_suggestionByWords 0 = .ok (.aload_n 0, 1) := by decide +kernel
theorem dX7_suggestionByWords_1 : decode cX7_suggestionByWords 1 = .ok (.iload_n 1, 1) := by decide +kernel
theorem dX7_suggestionByWords_2 : decode cX7_suggestionByWords 2 = .ok (.invokevirtual 193, 3) := by decide +kernel
theorem dX7_suggestionByWords_5 : decode cX7_suggestionByWords 5 = .ok (.ireturn, 1) := by decide +kernel
theorem dX7_breaches_0 : decode cX7_breaches 0 = .ok (.aload_n 0, 1) := by decide +kernel
theorem dX7_breaches_1 : decode cX7_breaches 1 = .ok (.aload_n 0, 1) := by decide +kernel
theorem dX7_breaches_2 : decode cX7_breaches 2 = .ok (.getfield 88, 3) := by decide +kernel
theorem dX7_breaches_5 : decode cX7_breaches 5 = .ok (.invokevirtual 120, 3) := by decide +kernel
theorem dX7_breaches_8 : decode cX7_breaches 8 = .ok (.ireturn, 1) := by decide +kernel
theorem dX7_answers_0 : decode cX7_answers 0 = .ok (.aload_n 0, 1) := by decide +kernel
theorem dX7_answers_1 : decode cX7_answers 1 = .ok (.aload_n 0, 1) := by decide +kernel
theorem dX7_answers_2 : decode cX7_answers 2 = .ok (.getfield 91, 3) := by decide +kernel
theorem dX7_answers_5 : decode cX7_answers 5 = .ok (.invokevirtual 120, 3) := by decide +kernel
theorem dX7_answers_8 : decode cX7_answers 8 = .ok (.ireturn, 1) := by decide +kernel
theorem dX7_minutesOpen_0 : decode cX7_minutesOpen 0 = .ok (.aload_n 0, 1) := by decide +kernel
theorem dX7_minutesOpen_1 : decode cX7_minutesOpen 1 = .ok (.iconst 0, 1) := by decide +kernel
theorem dX7_minutesOpen_2 : decode cX7_minutesOpen 2 = .ok (.putfield 69, 3) := by decide +kernel
theorem dX7_minutesOpen_5 : decode cX7_minutesOpen 5 = .ok (.aload_n 0, 1) := by decide +kernel
theorem dX7_minutesOpen_6 : decode cX7_minutesOpen 6 = .ok (.getfield 100, 3) := by decide +kernel
theorem dX7_minutesOpen_9 : decode cX7_minutesOpen 9 = .ok (.lreturn, 1) := by decide +kernel
theorem dX7_keptShare_0 : decode cX7_keptShare 0 = .ok (.aload_n 0, 1) := by decide +kernel
theorem dX7_keptShare_1 : decode cX7_keptShare 1 = .ok (.aload_n 0, 1) := by decide +kernel
theorem dX7_keptShare_2 : decode cX7_keptShare 2 = .ok (.getfield 91, 3) := by decide +kernel
theorem dX7_keptShare_5 : decode cX7_keptShare 5 = .ok (.ifCond .le 7, 3) := by decide +kernel
theorem dX7_keptShare_8 : decode cX7_keptShare 8 = .ok (.iconst 1, 1) := by decide +kernel
theorem dX7_keptShare_9 : decode cX7_keptShare 9 = .ok (.goto 4, 3) := by decide +kernel
theorem dX7_keptShare_12 : decode cX7_keptShare 12 = .ok (.iconst 0, 1) := by decide +kernel
theorem dX7_keptShare_13 : decode cX7_keptShare 13 = .ok (.invokevirtual 112, 3) := by decide +kernel
theorem dX7_keptShare_16 : decode cX7_keptShare 16 = .ok (.ifCond .le 7, 3) := by decide +kernel
theorem dX7_keptShare_19 : decode cX7_keptShare 19 = .ok (.fconst 0, 1) := by decide +kernel
theorem dX7_keptShare_20 : decode cX7_keptShare 20 = .ok (.goto 14, 3) := by decide +kernel
theorem dX7_keptShare_23 : decode cX7_keptShare 23 = .ok (.aload_n 0, 1) := by decide +kernel
theorem dX7_keptShare_24 : decode cX7_keptShare 24 = .ok (.getfield 94, 3) := by decide +kernel
theorem dX7_keptShare_27 : decode cX7_keptShare 27 = .ok (.i2f, 1) := by decide +kernel
theorem dX7_keptShare_28 : decode cX7_keptShare 28 = .ok (.aload_n 0, 1) := by decide +kernel
theorem dX7_keptShare_29 : decode cX7_keptShare 29 = .ok (.getfield 91, 3) := by decide +kernel
theorem dX7_keptShare_32 : decode cX7_keptShare 32 = .ok (.i2f, 1) := by decide +kernel
theorem dX7_keptShare_33 : decode cX7_keptShare 33 = .ok (.fdiv, 1) := by decide +kernel
theorem dX7_keptShare_34 : decode cX7_keptShare 34 = .ok (.freturn, 1) := by decide +kernel
theorem dX7_meanClock_0 : decode cX7_meanClock 0 = .ok (.aload_n 0, 1) := by decide +kernel
theorem dX7_meanClock_1 : decode cX7_meanClock 1 = .ok (.aload_n 0, 1) := by decide +kernel
theorem dX7_meanClock_2 : decode cX7_meanClock 2 = .ok (.getfield 91, 3) := by decide +kernel
theorem dX7_meanClock_5 : decode cX7_meanClock 5 = .ok (.ifCond .le 7, 3) := by decide +kernel
theorem dX7_meanClock_8 : decode cX7_meanClock 8 = .ok (.iconst 1, 1) := by decide +kernel
theorem dX7_meanClock_9 : decode cX7_meanClock 9 = .ok (.goto 4, 3) := by decide +kernel
theorem dX7_meanClock_12 : decode cX7_meanClock 12 = .ok (.iconst 0, 1) := by decide +kernel
theorem dX7_meanClock_13 : decode cX7_meanClock 13 = .ok (.invokevirtual 112, 3) := by decide +kernel
theorem dX7_meanClock_16 : decode cX7_meanClock 16 = .ok (.ifCond .le 7, 3) := by decide +kernel
theorem dX7_meanClock_19 : decode cX7_meanClock 19 = .ok (.dconst 0, 1) := by decide +kernel
theorem dX7_meanClock_20 : decode cX7_meanClock 20 = .ok (.goto 14, 3) := by decide +kernel
theorem dX7_meanClock_23 : decode cX7_meanClock 23 = .ok (.aload_n 0, 1) := by decide +kernel
theorem dX7_meanClock_24 : decode cX7_meanClock 24 = .ok (.getfield 97, 3) := by decide +kernel
theorem dX7_meanClock_27 : decode cX7_meanClock 27 = .ok (.i2d, 1) := by decide +kernel
theorem dX7_meanClock_28 : decode cX7_meanClock 28 = .ok (.aload_n 0, 1) := by decide +kernel
theorem dX7_meanClock_29 : decode cX7_meanClock 29 = .ok (.getfield 91, 3) := by decide +kernel
theorem dX7_meanClock_32 : decode cX7_meanClock 32 = .ok (.i2d, 1) := by decide +kernel
theorem dX7_meanClock_33 : decode cX7_meanClock 33 = .ok (.ddiv, 1) := by decide +kernel
theorem dX7_meanClock_34 : decode cX7_meanClock 34 = .ok (.dreturn, 1) := by decide +kernel
theorem dX7_isSound_0 : decode cX7_isSound 0 = .ok (.aload_n 0, 1) := by decide +kernel
theorem dX7_isSound_1 : decode cX7_isSound 1 = .ok (.iconst 0, 1) := by decide +kernel
theorem dX7_isSound_2 : decode cX7_isSound 2 = .ok (.putfield 69, 3) := by decide +kernel
theorem dX7_isSound_5 : decode cX7_isSound 5 = .ok (.iconst 1, 1) := by decide +kernel
theorem dX7_isSound_6 : decode cX7_isSound 6 = .ok (.ireturn, 1) := by decide +kernel
