/-! decode rows of FilterBenchModel, methods 0 to 30 (by program: wip/gen/decs.py) -/
theorem d_M_init_0 : decode b_M_init 0 = .ok (.aload_n 0, 1) := by decide +kernel
theorem d_M_init_1 : decode b_M_init 1 = .ok (.invokespecial 1, 3) := by decide +kernel
theorem d_M_init_4 : decode b_M_init 4 = .ok (.aload_n 0, 1) := by decide +kernel
theorem d_M_init_5 : decode b_M_init 5 = .ok (.bipush 96, 2) := by decide +kernel
theorem d_M_init_7 : decode b_M_init 7 = .ok (.newarray .int, 2) := by decide +kernel
theorem d_M_init_9 : decode b_M_init 9 = .ok (.putfield 7, 3) := by decide +kernel
theorem d_M_init_12 : decode b_M_init 12 = .ok (.aload_n 0, 1) := by decide +kernel
theorem d_M_init_13 : decode b_M_init 13 = .ok (.bipush 8, 2) := by decide +kernel
theorem d_M_init_15 : decode b_M_init 15 = .ok (.newarray .int, 2) := by decide +kernel
theorem d_M_init_17 : decode b_M_init 17 = .ok (.putfield 13, 3) := by decide +kernel
theorem d_M_init_20 : decode b_M_init 20 = .ok (.aload_n 0, 1) := by decide +kernel
theorem d_M_init_21 : decode b_M_init 21 = .ok (.sipush 128, 3) := by decide +kernel
theorem d_M_init_24 : decode b_M_init 24 = .ok (.newarray .int, 2) := by decide +kernel
theorem d_M_init_26 : decode b_M_init 26 = .ok (.putfield 16, 3) := by decide +kernel
theorem d_M_init_29 : decode b_M_init 29 = .ok (.aload_n 0, 1) := by decide +kernel
theorem d_M_init_30 : decode b_M_init 30 = .ok (.sipush 128, 3) := by decide +kernel
theorem d_M_init_33 : decode b_M_init 33 = .ok (.newarray .int, 2) := by decide +kernel
theorem d_M_init_35 : decode b_M_init 35 = .ok (.putfield 19, 3) := by decide +kernel
theorem d_M_init_38 : decode b_M_init 38 = .ok (.aload_n 0, 1) := by decide +kernel
theorem d_M_init_39 : decode b_M_init 39 = .ok (.iconst 4, 1) := by decide +kernel
theorem d_M_init_40 : decode b_M_init 40 = .ok (.newarray .int, 2) := by decide +kernel
theorem d_M_init_42 : decode b_M_init 42 = .ok (.putfield 22, 3) := by decide +kernel
theorem d_M_init_45 : decode b_M_init 45 = .ok (.aload_n 0, 1) := by decide +kernel
theorem d_M_init_46 : decode b_M_init 46 = .ok (.ldc 25, 2) := by decide +kernel
theorem d_M_init_48 : decode b_M_init 48 = .ok (.newarray .int, 2) := by decide +kernel
theorem d_M_init_50 : decode b_M_init 50 = .ok (.putfield 26, 3) := by decide +kernel
theorem d_M_init_53 : decode b_M_init 53 = .ok (.aload_n 0, 1) := by decide +kernel
theorem d_M_init_54 : decode b_M_init 54 = .ok (.sipush 8000, 3) := by decide +kernel
theorem d_M_init_57 : decode b_M_init 57 = .ok (.newarray .int, 2) := by decide +kernel
theorem d_M_init_59 : decode b_M_init 59 = .ok (.putfield 29, 3) := by decide +kernel
theorem d_M_init_62 : decode b_M_init 62 = .ok (.aload_n 0, 1) := by decide +kernel
theorem d_M_init_63 : decode b_M_init 63 = .ok (.bipush 8, 2) := by decide +kernel
theorem d_M_init_65 : decode b_M_init 65 = .ok (.newarray .int, 2) := by decide +kernel
theorem d_M_init_67 : decode b_M_init 67 = .ok (.putfield 32, 3) := by decide +kernel
theorem d_M_init_70 : decode b_M_init 70 = .ok (.aload_n 0, 1) := by decide +kernel
theorem d_M_init_71 : decode b_M_init 71 = .ok (.bipush 17, 2) := by decide +kernel
theorem d_M_init_73 : decode b_M_init 73 = .ok (.newarray .int, 2) := by decide +kernel
theorem d_M_init_75 : decode b_M_init 75 = .ok (.putfield 35, 3) := by decide +kernel
theorem d_M_init_78 : decode b_M_init 78 = .ok (.aload_n 0, 1) := by decide +kernel
theorem d_M_init_79 : decode b_M_init 79 = .ok (.iconst 4, 1) := by decide +kernel
theorem d_M_init_80 : decode b_M_init 80 = .ok (.putfield 38, 3) := by decide +kernel
theorem d_M_init_83 : decode b_M_init 83 = .ok (.aload_n 0, 1) := by decide +kernel
theorem d_M_init_84 : decode b_M_init 84 = .ok (.bipush 64, 2) := by decide +kernel
theorem d_M_init_86 : decode b_M_init 86 = .ok (.newarray .int, 2) := by decide +kernel
theorem d_M_init_88 : decode b_M_init 88 = .ok (.putfield 42, 3) := by decide +kernel
theorem d_M_init_91 : decode b_M_init 91 = .ok (.aload_n 0, 1) := by decide +kernel
theorem d_M_init_92 : decode b_M_init 92 = .ok (.bipush 64, 2) := by decide +kernel
theorem d_M_init_94 : decode b_M_init 94 = .ok (.newarray .int, 2) := by decide +kernel
theorem d_M_init_96 : decode b_M_init 96 = .ok (.putfield 45, 3) := by decide +kernel
theorem d_M_init_99 : decode b_M_init 99 = .ok (.aload_n 0, 1) := by decide +kernel
theorem d_M_init_100 : decode b_M_init 100 = .ok (.sipush 400, 3) := by decide +kernel
theorem d_M_init_103 : decode b_M_init 103 = .ok (.newarray .int, 2) := by decide +kernel
theorem d_M_init_105 : decode b_M_init 105 = .ok (.putfield 48, 3) := by decide +kernel
theorem d_M_init_108 : decode b_M_init 108 = .ok (.aload_n 0, 1) := by decide +kernel
theorem d_M_init_109 : decode b_M_init 109 = .ok (.sipush 400, 3) := by decide +kernel
theorem d_M_init_112 : decode b_M_init 112 = .ok (.newarray .int, 2) := by decide +kernel
theorem d_M_init_114 : decode b_M_init 114 = .ok (.putfield 51, 3) := by decide +kernel
theorem d_M_init_117 : decode b_M_init 117 = .ok (.aload_n 0, 1) := by decide +kernel
theorem d_M_init_118 : decode b_M_init 118 = .ok (.iconst 4, 1) := by decide +kernel
theorem d_M_init_119 : decode b_M_init 119 = .ok (.newarray .int, 2) := by decide +kernel
theorem d_M_init_121 : decode b_M_init 121 = .ok (.putfield 54, 3) := by decide +kernel
theorem d_M_init_124 : decode b_M_init 124 = .ok (.aload_n 0, 1) := by decide +kernel
theorem d_M_init_125 : decode b_M_init 125 = .ok (.bipush 10, 2) := by decide +kernel
theorem d_M_init_127 : decode b_M_init 127 = .ok (.newarray .int, 2) := by decide +kernel
theorem d_M_init_129 : decode b_M_init 129 = .ok (.putfield 57, 3) := by decide +kernel
theorem d_M_init_132 : decode b_M_init 132 = .ok (.aload_n 0, 1) := by decide +kernel
theorem d_M_init_133 : decode b_M_init 133 = .ok (.bipush 10, 2) := by decide +kernel
theorem d_M_init_135 : decode b_M_init 135 = .ok (.newarray .int, 2) := by decide +kernel
theorem d_M_init_137 : decode b_M_init 137 = .ok (.putfield 60, 3) := by decide +kernel
theorem d_M_init_140 : decode b_M_init 140 = .ok (.aload_n 0, 1) := by decide +kernel
theorem d_M_init_141 : decode b_M_init 141 = .ok (.bipush 10, 2) := by decide +kernel
theorem d_M_init_143 : decode b_M_init 143 = .ok (.newarray .int, 2) := by decide +kernel
theorem d_M_init_145 : decode b_M_init 145 = .ok (.putfield 63, 3) := by decide +kernel
theorem d_M_init_148 : decode b_M_init 148 = .ok (.aload_n 0, 1) := by decide +kernel
theorem d_M_init_149 : decode b_M_init 149 = .ok (.bipush 10, 2) := by decide +kernel
theorem d_M_init_151 : decode b_M_init 151 = .ok (.newarray .int, 2) := by decide +kernel
theorem d_M_init_153 : decode b_M_init 153 = .ok (.putfield 66, 3) := by decide +kernel
theorem d_M_init_156 : decode b_M_init 156 = .ok (.aload_n 0, 1) := by decide +kernel
theorem d_M_init_157 : decode b_M_init 157 = .ok (.bipush 10, 2) := by decide +kernel
theorem d_M_init_159 : decode b_M_init 159 = .ok (.newarray .int, 2) := by decide +kernel
theorem d_M_init_161 : decode b_M_init 161 = .ok (.putfield 69, 3) := by decide +kernel
theorem d_M_init_164 : decode b_M_init 164 = .ok (.aload_n 0, 1) := by decide +kernel
theorem d_M_init_165 : decode b_M_init 165 = .ok (.bipush 10, 2) := by decide +kernel
theorem d_M_init_167 : decode b_M_init 167 = .ok (.newarray .int, 2) := by decide +kernel
theorem d_M_init_169 : decode b_M_init 169 = .ok (.putfield 72, 3) := by decide +kernel
theorem d_M_init_172 : decode b_M_init 172 = .ok (.aload_n 0, 1) := by decide +kernel
theorem d_M_init_173 : decode b_M_init 173 = .ok (.bipush 10, 2) := by decide +kernel
theorem d_M_init_175 : decode b_M_init 175 = .ok (.newarray .int, 2) := by decide +kernel
theorem d_M_init_177 : decode b_M_init 177 = .ok (.putfield 75, 3) := by decide +kernel
theorem d_M_init_180 : decode b_M_init 180 = .ok (.aload_n 0, 1) := by decide +kernel
theorem d_M_init_181 : decode b_M_init 181 = .ok (.bipush 10, 2) := by decide +kernel
theorem d_M_init_183 : decode b_M_init 183 = .ok (.newarray .int, 2) := by decide +kernel
theorem d_M_init_185 : decode b_M_init 185 = .ok (.putfield 78, 3) := by decide +kernel
theorem d_M_init_188 : decode b_M_init 188 = .ok (.aload_n 0, 1) := by decide +kernel
theorem d_M_init_189 : decode b_M_init 189 = .ok (.sipush 170, 3) := by decide +kernel
theorem d_M_init_192 : decode b_M_init 192 = .ok (.newarray .int, 2) := by decide +kernel
theorem d_M_init_194 : decode b_M_init 194 = .ok (.putfield 81, 3) := by decide +kernel
theorem d_M_init_197 : decode b_M_init 197 = .ok (.aload_n 0, 1) := by decide +kernel
theorem d_M_init_198 : decode b_M_init 198 = .ok (.bipush 10, 2) := by decide +kernel
theorem d_M_init_200 : decode b_M_init 200 = .ok (.newarray .int, 2) := by decide +kernel
theorem d_M_init_202 : decode b_M_init 202 = .ok (.putfield 84, 3) := by decide +kernel
theorem d_M_init_205 : decode b_M_init 205 = .ok (.aload_n 0, 1) := by decide +kernel
theorem d_M_init_206 : decode b_M_init 206 = .ok (.sipush 170, 3) := by decide +kernel
theorem d_M_init_209 : decode b_M_init 209 = .ok (.newarray .int, 2) := by decide +kernel
theorem d_M_init_211 : decode b_M_init 211 = .ok (.putfield 87, 3) := by decide +kernel
theorem d_M_init_214 : decode b_M_init 214 = .ok (.aload_n 0, 1) := by decide +kernel
theorem d_M_init_215 : decode b_M_init 215 = .ok (.bipush 17, 2) := by decide +kernel
theorem d_M_init_217 : decode b_M_init 217 = .ok (.newarray .int, 2) := by decide +kernel
theorem d_M_init_219 : decode b_M_init 219 = .ok (.putfield 90, 3) := by decide +kernel
theorem d_M_init_222 : decode b_M_init 222 = .ok (.aload_n 0, 1) := by decide +kernel
theorem d_M_init_223 : decode b_M_init 223 = .ok (.invokevirtual 93, 3) := by decide +kernel
theorem d_M_init_226 : decode b_M_init 226 = .ok (.iconst 0, 1) := by decide +kernel
theorem d_M_init_227 : decode b_M_init 227 = .ok (.istore_n 1, 1) := by decide +kernel
theorem d_M_init_228 : decode b_M_init 228 = .ok (.iload_n 1, 1) := by decide +kernel
theorem d_M_init_229 : decode b_M_init 229 = .ok (.bipush 8, 2) := by decide +kernel
theorem d_M_init_231 : decode b_M_init 231 = .ok (.if_icmp .ge 16, 3) := by decide +kernel
theorem d_M_init_234 : decode b_M_init 234 = .ok (.aload_n 0, 1) := by decide +kernel
theorem d_M_init_235 : decode b_M_init 235 = .ok (.getfield 32, 3) := by decide +kernel
theorem d_M_init_238 : decode b_M_init 238 = .ok (.iload_n 1, 1) := by decide +kernel
theorem d_M_init_239 : decode b_M_init 239 = .ok (.iconst 4, 1) := by decide +kernel
theorem d_M_init_240 : decode b_M_init 240 = .ok (.iastore, 1) := by decide +kernel
theorem d_M_init_241 : decode b_M_init 241 = .ok (.iinc 1 1, 3) := by decide +kernel
theorem d_M_init_244 : decode b_M_init 244 = .ok (.goto (-16), 3) := by decide +kernel
theorem d_M_init_247 : decode b_M_init 247 = .ok (.return_, 1) := by decide +kernel
theorem d_M_begin_0 : decode b_M_begin 0 = .ok (.aload_n 0, 1) := by decide +kernel
theorem d_M_begin_1 : decode b_M_begin 1 = .ok (.iconst 4, 1) := by decide +kernel
theorem d_M_begin_2 : decode b_M_begin 2 = .ok (.putfield 96, 3) := by decide +kernel
theorem d_M_begin_5 : decode b_M_begin 5 = .ok (.iconst 0, 1) := by decide +kernel
theorem d_M_begin_6 : decode b_M_begin 6 = .ok (.istore_n 1, 1) := by decide +kernel
theorem d_M_begin_7 : decode b_M_begin 7 = .ok (.iload_n 1, 1) := by decide +kernel
theorem d_M_begin_8 : decode b_M_begin 8 = .ok (.iconst 3, 1) := by decide +kernel
theorem d_M_begin_9 : decode b_M_begin 9 = .ok (.if_icmp .ge 65, 3) := by decide +kernel
theorem d_M_begin_12 : decode b_M_begin 12 = .ok (.aload_n 0, 1) := by decide +kernel
theorem d_M_begin_13 : decode b_M_begin 13 = .ok (.getfield 26, 3) := by decide +kernel
theorem d_M_begin_16 : decode b_M_begin 16 = .ok (.aload_n 0, 1) := by decide +kernel
theorem d_M_begin_17 : decode b_M_begin 17 = .ok (.getfield 96, 3) := by decide +kernel
theorem d_M_begin_20 : decode b_M_begin 20 = .ok (.iload_n 1, 1) := by decide +kernel
theorem d_M_begin_21 : decode b_M_begin 21 = .ok (.iastore, 1) := by decide +kernel
theorem d_M_begin_22 : decode b_M_begin 22 = .ok (.aload_n 0, 1) := by decide +kernel
theorem d_M_begin_23 : decode b_M_begin 23 = .ok (.getfield 26, 3) := by decide +kernel
theorem d_M_begin_26 : decode b_M_begin 26 = .ok (.aload_n 0, 1) := by decide +kernel
theorem d_M_begin_27 : decode b_M_begin 27 = .ok (.getfield 96, 3) := by decide +kernel
theorem d_M_begin_30 : decode b_M_begin 30 = .ok (.iconst 1, 1) := by decide +kernel
theorem d_M_begin_31 : decode b_M_begin 31 = .ok (.iadd, 1) := by decide +kernel
theorem d_M_begin_32 : decode b_M_begin 32 = .ok (.iconst 1, 1) := by decide +kernel
theorem d_M_begin_33 : decode b_M_begin 33 = .ok (.iastore, 1) := by decide +kernel
theorem d_M_begin_34 : decode b_M_begin 34 = .ok (.aload_n 0, 1) := by decide +kernel
theorem d_M_begin_35 : decode b_M_begin 35 = .ok (.getfield 26, 3) := by decide +kernel
theorem d_M_begin_38 : decode b_M_begin 38 = .ok (.aload_n 0, 1) := by decide +kernel
theorem d_M_begin_39 : decode b_M_begin 39 = .ok (.getfield 96, 3) := by decide +kernel
theorem d_M_begin_42 : decode b_M_begin 42 = .ok (.iconst 2, 1) := by decide +kernel
theorem d_M_begin_43 : decode b_M_begin 43 = .ok (.iadd, 1) := by decide +kernel
theorem d_M_begin_44 : decode b_M_begin 44 = .ok (.iconst 0, 1) := by decide +kernel
theorem d_M_begin_45 : decode b_M_begin 45 = .ok (.iastore, 1) := by decide +kernel
theorem d_M_begin_46 : decode b_M_begin 46 = .ok (.aload_n 0, 1) := by decide +kernel
theorem d_M_begin_47 : decode b_M_begin 47 = .ok (.getfield 26, 3) := by decide +kernel
theorem d_M_begin_50 : decode b_M_begin 50 = .ok (.aload_n 0, 1) := by decide +kernel
theorem d_M_begin_51 : decode b_M_begin 51 = .ok (.getfield 96, 3) := by decide +kernel
theorem d_M_begin_54 : decode b_M_begin 54 = .ok (.iconst 3, 1) := by decide +kernel
theorem d_M_begin_55 : decode b_M_begin 55 = .ok (.iadd, 1) := by decide +kernel
theorem d_M_begin_56 : decode b_M_begin 56 = .ok (.iconst 0, 1) := by decide +kernel
theorem d_M_begin_57 : decode b_M_begin 57 = .ok (.iastore, 1) := by decide +kernel
theorem d_M_begin_58 : decode b_M_begin 58 = .ok (.aload_n 0, 1) := by decide +kernel
theorem d_M_begin_59 : decode b_M_begin 59 = .ok (.dup, 1) := by decide +kernel
theorem d_M_begin_60 : decode b_M_begin 60 = .ok (.getfield 96, 3) := by decide +kernel
theorem d_M_begin_63 : decode b_M_begin 63 = .ok (.iconst 4, 1) := by decide +kernel
theorem d_M_begin_64 : decode b_M_begin 64 = .ok (.iadd, 1) := by decide +kernel
theorem d_M_begin_65 : decode b_M_begin 65 = .ok (.putfield 96, 3) := by decide +kernel
theorem d_M_begin_68 : decode b_M_begin 68 = .ok (.iinc 1 1, 3) := by decide +kernel
theorem d_M_begin_71 : decode b_M_begin 71 = .ok (.goto (-64), 3) := by decide +kernel
theorem d_M_begin_74 : decode b_M_begin 74 = .ok (.return_, 1) := by decide +kernel
theorem d_M_fail_0 : decode b_M_fail 0 = .ok (.aload_n 0, 1) := by decide +kernel
theorem d_M_fail_1 : decode b_M_fail 1 = .ok (.iload_n 1, 1) := by decide +kernel
theorem d_M_fail_2 : decode b_M_fail 2 = .ok (.putfield 99, 3) := by decide +kernel
theorem d_M_fail_5 : decode b_M_fail 5 = .ok (.iconst 0, 1) := by decide +kernel
theorem d_M_fail_6 : decode b_M_fail 6 = .ok (.ireturn, 1) := by decide +kernel
theorem d_M_thrown_0 : decode b_M_thrown 0 = .ok (.aload_n 0, 1) := by decide +kernel
theorem d_M_thrown_1 : decode b_M_thrown 1 = .ok (.getfield 99, 3) := by decide +kernel
theorem d_M_thrown_4 : decode b_M_thrown 4 = .ok (.ireturn, 1) := by decide +kernel
theorem d_M_within_0 : decode b_M_within 0 = .ok (.iload_n 0, 1) := by decide +kernel
theorem d_M_within_1 : decode b_M_within 1 = .ok (.iload_n 1, 1) := by decide +kernel
theorem d_M_within_2 : decode b_M_within 2 = .ok (.if_icmp .lt 12, 3) := by decide +kernel
theorem d_M_within_5 : decode b_M_within 5 = .ok (.iload_n 0, 1) := by decide +kernel
theorem d_M_within_6 : decode b_M_within 6 = .ok (.iload_n 2, 1) := by decide +kernel
theorem d_M_within_7 : decode b_M_within 7 = .ok (.if_icmp .gt 7, 3) := by decide +kernel
theorem d_M_within_10 : decode b_M_within 10 = .ok (.iconst 1, 1) := by decide +kernel
theorem d_M_within_11 : decode b_M_within 11 = .ok (.goto 4, 3) := by decide +kernel
theorem d_M_within_14 : decode b_M_within 14 = .ok (.iconst 0, 1) := by decide +kernel
theorem d_M_within_15 : decode b_M_within 15 = .ok (.ireturn, 1) := by decide +kernel
theorem d_M_node_0 : decode b_M_node 0 = .ok (.aload_n 0, 1) := by decide +kernel
theorem d_M_node_1 : decode b_M_node 1 = .ok (.getfield 96, 3) := by decide +kernel
theorem d_M_node_4 : decode b_M_node 4 = .ok (.istore 4, 2) := by decide +kernel
theorem d_M_node_6 : decode b_M_node 6 = .ok (.aload_n 0, 1) := by decide +kernel
theorem d_M_node_7 : decode b_M_node 7 = .ok (.getfield 26, 3) := by decide +kernel
theorem d_M_node_10 : decode b_M_node 10 = .ok (.iload 4, 2) := by decide +kernel
theorem d_M_node_12 : decode b_M_node 12 = .ok (.iload_n 1, 1) := by decide +kernel
theorem d_M_node_13 : decode b_M_node 13 = .ok (.iastore, 1) := by decide +kernel
theorem d_M_node_14 : decode b_M_node 14 = .ok (.aload_n 0, 1) := by decide +kernel
theorem d_M_node_15 : decode b_M_node 15 = .ok (.getfield 26, 3) := by decide +kernel
theorem d_M_node_18 : decode b_M_node 18 = .ok (.iload 4, 2) := by decide +kernel
theorem d_M_node_20 : decode b_M_node 20 = .ok (.iconst 1, 1) := by decide +kernel
theorem d_M_node_21 : decode b_M_node 21 = .ok (.iadd, 1) := by decide +kernel
theorem d_M_node_22 : decode b_M_node 22 = .ok (.iconst 1, 1) := by decide +kernel
theorem d_M_node_23 : decode b_M_node 23 = .ok (.iastore, 1) := by decide +kernel
theorem d_M_node_24 : decode b_M_node 24 = .ok (.aload_n 0, 1) := by decide +kernel
theorem d_M_node_25 : decode b_M_node 25 = .ok (.getfield 26, 3) := by decide +kernel
theorem d_M_node_28 : decode b_M_node 28 = .ok (.iload 4, 2) := by decide +kernel
theorem d_M_node_30 : decode b_M_node 30 = .ok (.iconst 2, 1) := by decide +kernel
theorem d_M_node_31 : decode b_M_node 31 = .ok (.iadd, 1) := by decide +kernel
theorem d_M_node_32 : decode b_M_node 32 = .ok (.iconst 0, 1) := by decide +kernel
theorem d_M_node_33 : decode b_M_node 33 = .ok (.iastore, 1) := by decide +kernel
theorem d_M_node_34 : decode b_M_node 34 = .ok (.aload_n 0, 1) := by decide +kernel
theorem d_M_node_35 : decode b_M_node 35 = .ok (.getfield 26, 3) := by decide +kernel
theorem d_M_node_38 : decode b_M_node 38 = .ok (.iload 4, 2) := by decide +kernel
theorem d_M_node_40 : decode b_M_node 40 = .ok (.iconst 3, 1) := by decide +kernel
theorem d_M_node_41 : decode b_M_node 41 = .ok (.iadd, 1) := by decide +kernel
theorem d_M_node_42 : decode b_M_node 42 = .ok (.iload_n 2, 1) := by decide +kernel
theorem d_M_node_43 : decode b_M_node 43 = .ok (.iastore, 1) := by decide +kernel
theorem d_M_node_44 : decode b_M_node 44 = .ok (.aload_n 0, 1) := by decide +kernel
theorem d_M_node_45 : decode b_M_node 45 = .ok (.dup, 1) := by decide +kernel
theorem d_M_node_46 : decode b_M_node 46 = .ok (.getfield 96, 3) := by decide +kernel
theorem d_M_node_49 : decode b_M_node 49 = .ok (.iconst 4, 1) := by decide +kernel
theorem d_M_node_50 : decode b_M_node 50 = .ok (.iload_n 3, 1) := by decide +kernel
theorem d_M_node_51 : decode b_M_node 51 = .ok (.iadd, 1) := by decide +kernel
theorem d_M_node_52 : decode b_M_node 52 = .ok (.iadd, 1) := by decide +kernel
theorem d_M_node_53 : decode b_M_node 53 = .ok (.putfield 96, 3) := by decide +kernel
theorem d_M_node_56 : decode b_M_node 56 = .ok (.iload 4, 2) := by decide +kernel
theorem d_M_node_58 : decode b_M_node 58 = .ok (.ireturn, 1) := by decide +kernel
theorem d_M_kindOf_0 : decode b_M_kindOf 0 = .ok (.aload_n 0, 1) := by decide +kernel
theorem d_M_kindOf_1 : decode b_M_kindOf 1 = .ok (.getfield 26, 3) := by decide +kernel
theorem d_M_kindOf_4 : decode b_M_kindOf 4 = .ok (.iload_n 1, 1) := by decide +kernel
theorem d_M_kindOf_5 : decode b_M_kindOf 5 = .ok (.iaload, 1) := by decide +kernel
theorem d_M_kindOf_6 : decode b_M_kindOf 6 = .ok (.ireturn, 1) := by decide +kernel
theorem d_M_size_0 : decode b_M_size 0 = .ok (.aload_n 0, 1) := by decide +kernel
theorem d_M_size_1 : decode b_M_size 1 = .ok (.getfield 26, 3) := by decide +kernel
theorem d_M_size_4 : decode b_M_size 4 = .ok (.iload_n 1, 1) := by decide +kernel
theorem d_M_size_5 : decode b_M_size 5 = .ok (.iconst 3, 1) := by decide +kernel
theorem d_M_size_6 : decode b_M_size 6 = .ok (.iadd, 1) := by decide +kernel
theorem d_M_size_7 : decode b_M_size 7 = .ok (.iaload, 1) := by decide +kernel
theorem d_M_size_8 : decode b_M_size 8 = .ok (.ireturn, 1) := by decide +kernel
theorem d_M_num_0 : decode b_M_num 0 = .ok (.aload_n 0, 1) := by decide +kernel
theorem d_M_num_1 : decode b_M_num 1 = .ok (.getfield 26, 3) := by decide +kernel
theorem d_M_num_4 : decode b_M_num 4 = .ok (.iload_n 1, 1) := by decide +kernel
theorem d_M_num_5 : decode b_M_num 5 = .ok (.iconst 4, 1) := by decide +kernel
theorem d_M_num_6 : decode b_M_num 6 = .ok (.iadd, 1) := by decide +kernel
theorem d_M_num_7 : decode b_M_num 7 = .ok (.iaload, 1) := by decide +kernel
theorem d_M_num_8 : decode b_M_num 8 = .ok (.i2l, 1) := by decide +kernel
theorem d_M_num_9 : decode b_M_num 9 = .ok (.bipush 32, 2) := by decide +kernel
theorem d_M_num_11 : decode b_M_num 11 = .ok (.lshl, 1) := by decide +kernel
theorem d_M_num_12 : decode b_M_num 12 = .ok (.aload_n 0, 1) := by decide +kernel
theorem d_M_num_13 : decode b_M_num 13 = .ok (.getfield 26, 3) := by decide +kernel
theorem d_M_num_16 : decode b_M_num 16 = .ok (.iload_n 1, 1) := by decide +kernel
theorem d_M_num_17 : decode b_M_num 17 = .ok (.iconst 5, 1) := by decide +kernel
theorem d_M_num_18 : decode b_M_num 18 = .ok (.iadd, 1) := by decide +kernel
theorem d_M_num_19 : decode b_M_num 19 = .ok (.iaload, 1) := by decide +kernel
theorem d_M_num_20 : decode b_M_num 20 = .ok (.i2l, 1) := by decide +kernel
theorem d_M_num_21 : decode b_M_num 21 = .ok (.ldc2_w 102, 3) := by decide +kernel
theorem d_M_num_24 : decode b_M_num 24 = .ok (.land, 1) := by decide +kernel
theorem d_M_num_25 : decode b_M_num 25 = .ok (.lor, 1) := by decide +kernel
theorem d_M_num_26 : decode b_M_num 26 = .ok (.lreturn, 1) := by decide +kernel
theorem d_M_good_0 : decode b_M_good 0 = .ok (.aload_n 0, 1) := by decide +kernel
theorem d_M_good_1 : decode b_M_good 1 = .ok (.getfield 26, 3) := by decide +kernel
theorem d_M_good_4 : decode b_M_good 4 = .ok (.iload_n 1, 1) := by decide +kernel
theorem d_M_good_5 : decode b_M_good 5 = .ok (.iaload, 1) := by decide +kernel
theorem d_M_good_6 : decode b_M_good 6 = .ok (.iconst 1, 1) := by decide +kernel
theorem d_M_good_7 : decode b_M_good 7 = .ok (.if_icmp .le 7, 3) := by decide +kernel
theorem d_M_good_10 : decode b_M_good 10 = .ok (.iconst 1, 1) := by decide +kernel
theorem d_M_good_11 : decode b_M_good 11 = .ok (.goto 4, 3) := by decide +kernel
theorem d_M_good_14 : decode b_M_good 14 = .ok (.iconst 0, 1) := by decide +kernel
theorem d_M_good_15 : decode b_M_good 15 = .ok (.ireturn, 1) := by decide +kernel
theorem d_M_item_0 : decode b_M_item 0 = .ok (.aload_n 0, 1) := by decide +kernel
theorem d_M_item_1 : decode b_M_item 1 = .ok (.getfield 26, 3) := by decide +kernel
theorem d_M_item_4 : decode b_M_item 4 = .ok (.iload_n 1, 1) := by decide +kernel
theorem d_M_item_5 : decode b_M_item 5 = .ok (.iconst 4, 1) := by decide +kernel
theorem d_M_item_6 : decode b_M_item 6 = .ok (.iadd, 1) := by decide +kernel
theorem d_M_item_7 : decode b_M_item 7 = .ok (.aload_n 0, 1) := by decide +kernel
theorem d_M_item_8 : decode b_M_item 8 = .ok (.getfield 26, 3) := by decide +kernel
theorem d_M_item_11 : decode b_M_item 11 = .ok (.iload_n 1, 1) := by decide +kernel
theorem d_M_item_12 : decode b_M_item 12 = .ok (.iaload, 1) := by decide +kernel
theorem d_M_item_13 : decode b_M_item 13 = .ok (.bipush 6, 2) := by decide +kernel
theorem d_M_item_15 : decode b_M_item 15 = .ok (.if_icmp .ne 14, 3) := by decide +kernel
theorem d_M_item_18 : decode b_M_item 18 = .ok (.aload_n 0, 1) := by decide +kernel
theorem d_M_item_19 : decode b_M_item 19 = .ok (.getfield 26, 3) := by decide +kernel
theorem d_M_item_22 : decode b_M_item 22 = .ok (.iload_n 1, 1) := by decide +kernel
theorem d_M_item_23 : decode b_M_item 23 = .ok (.iconst 3, 1) := by decide +kernel
theorem d_M_item_24 : decode b_M_item 24 = .ok (.iadd, 1) := by decide +kernel
theorem d_M_item_25 : decode b_M_item 25 = .ok (.iaload, 1) := by decide +kernel
theorem d_M_item_26 : decode b_M_item 26 = .ok (.goto 4, 3) := by decide +kernel
theorem d_M_item_29 : decode b_M_item 29 = .ok (.iconst 0, 1) := by decide +kernel
theorem d_M_item_30 : decode b_M_item 30 = .ok (.iadd, 1) := by decide +kernel
theorem d_M_item_31 : decode b_M_item 31 = .ok (.iload_n 2, 1) := by decide +kernel
theorem d_M_item_32 : decode b_M_item 32 = .ok (.iadd, 1) := by decide +kernel
theorem d_M_item_33 : decode b_M_item 33 = .ok (.iaload, 1) := by decide +kernel
theorem d_M_item_34 : decode b_M_item 34 = .ok (.ireturn, 1) := by decide +kernel
theorem d_M_name_0 : decode b_M_name 0 = .ok (.aload_n 0, 1) := by decide +kernel
theorem d_M_name_1 : decode b_M_name 1 = .ok (.getfield 26, 3) := by decide +kernel
theorem d_M_name_4 : decode b_M_name 4 = .ok (.iload_n 1, 1) := by decide +kernel
theorem d_M_name_5 : decode b_M_name 5 = .ok (.iconst 4, 1) := by decide +kernel
theorem d_M_name_6 : decode b_M_name 6 = .ok (.iadd, 1) := by decide +kernel
theorem d_M_name_7 : decode b_M_name 7 = .ok (.iload_n 2, 1) := by decide +kernel
theorem d_M_name_8 : decode b_M_name 8 = .ok (.iadd, 1) := by decide +kernel
theorem d_M_name_9 : decode b_M_name 9 = .ok (.iaload, 1) := by decide +kernel
theorem d_M_name_10 : decode b_M_name 10 = .ok (.ireturn, 1) := by decide +kernel
theorem d_M_room_0 : decode b_M_room 0 = .ok (.aload_n 0, 1) := by decide +kernel
theorem d_M_room_1 : decode b_M_room 1 = .ok (.iconst 1, 1) := by decide +kernel
theorem d_M_room_2 : decode b_M_room 2 = .ok (.putfield 104, 3) := by decide +kernel
theorem d_M_room_5 : decode b_M_room 5 = .ok (.iconst 4, 1) := by decide +kernel
theorem d_M_room_6 : decode b_M_room 6 = .ok (.ireturn, 1) := by decide +kernel
theorem d_M_decimal_0 : decode b_M_decimal 0 = .ok (.lload_n 1, 1) := by decide +kernel
theorem d_M_decimal_1 : decode b_M_decimal 1 = .ok (.lstore_n 3, 1) := by decide +kernel
theorem d_M_decimal_2 : decode b_M_decimal 2 = .ok (.bipush 6, 2) := by decide +kernel
theorem d_M_decimal_4 : decode b_M_decimal 4 = .ok (.istore 5, 2) := by decide +kernel
theorem d_M_decimal_6 : decode b_M_decimal 6 = .ok (.iload 5, 2) := by decide +kernel
theorem d_M_decimal_8 : decode b_M_decimal 8 = .ok (.ifCond .le 25, 3) := by decide +kernel
theorem d_M_decimal_11 : decode b_M_decimal 11 = .ok (.lload_n 3, 1) := by decide +kernel
theorem d_M_decimal_12 : decode b_M_decimal 12 = .ok (.ldc2_w 108, 3) := by decide +kernel
theorem d_M_decimal_15 : decode b_M_decimal 15 = .ok (.lrem, 1) := by decide +kernel
theorem d_M_decimal_16 : decode b_M_decimal 16 = .ok (.lconst 0, 1) := by decide +kernel
theorem d_M_decimal_17 : decode b_M_decimal 17 = .ok (.lcmp, 1) := by decide +kernel
theorem d_M_decimal_18 : decode b_M_decimal 18 = .ok (.ifCond .ne 15, 3) := by decide +kernel
theorem d_M_decimal_21 : decode b_M_decimal 21 = .ok (.lload_n 3, 1) := by decide +kernel
theorem d_M_decimal_22 : decode b_M_decimal 22 = .ok (.ldc2_w 108, 3) := by decide +kernel
theorem d_M_decimal_25 : decode b_M_decimal 25 = .ok (.ldiv, 1) := by decide +kernel
theorem d_M_decimal_26 : decode b_M_decimal 26 = .ok (.lstore_n 3, 1) := by decide +kernel
theorem d_M_decimal_27 : decode b_M_decimal 27 = .ok (.iinc 5 (-1), 3) := by decide +kernel
theorem d_M_decimal_30 : decode b_M_decimal 30 = .ok (.goto (-24), 3) := by decide +kernel
theorem d_M_decimal_33 : decode b_M_decimal 33 = .ok (.lload_n 3, 1) := by decide +kernel
theorem d_M_decimal_34 : decode b_M_decimal 34 = .ok (.ldc2_w 110, 3) := by decide +kernel
theorem d_M_decimal_37 : decode b_M_decimal 37 = .ok (.lcmp, 1) := by decide +kernel
theorem d_M_decimal_38 : decode b_M_decimal 38 = .ok (.ifCond .gt 11, 3) := by decide +kernel
theorem d_M_decimal_41 : decode b_M_decimal 41 = .ok (.lload_n 3, 1) := by decide +kernel
theorem d_M_decimal_42 : decode b_M_decimal 42 = .ok (.ldc2_w 112, 3) := by decide +kernel
theorem d_M_decimal_45 : decode b_M_decimal 45 = .ok (.lcmp, 1) := by decide +kernel
theorem d_M_decimal_46 : decode b_M_decimal 46 = .ok (.ifCond .ge 8, 3) := by decide +kernel
theorem d_M_decimal_49 : decode b_M_decimal 49 = .ok (.aload_n 0, 1) := by decide +kernel
theorem d_M_decimal_50 : decode b_M_decimal 50 = .ok (.invokevirtual 114, 3) := by decide +kernel
theorem d_M_decimal_53 : decode b_M_decimal 53 = .ok (.ireturn, 1) := by decide +kernel
theorem d_M_decimal_54 : decode b_M_decimal 54 = .ok (.aload_n 0, 1) := by decide +kernel
theorem d_M_decimal_55 : decode b_M_decimal 55 = .ok (.iconst 3, 1) := by decide +kernel
theorem d_M_decimal_56 : decode b_M_decimal 56 = .ok (.iconst 0, 1) := by decide +kernel
theorem d_M_decimal_57 : decode b_M_decimal 57 = .ok (.iconst 2, 1) := by decide +kernel
theorem d_M_decimal_58 : decode b_M_decimal 58 = .ok (.invokevirtual 118, 3) := by decide +kernel
theorem d_M_decimal_61 : decode b_M_decimal 61 = .ok (.istore 6, 2) := by decide +kernel
theorem d_M_decimal_63 : decode b_M_decimal 63 = .ok (.aload_n 0, 1) := by decide +kernel
theorem d_M_decimal_64 : decode b_M_decimal 64 = .ok (.getfield 26, 3) := by decide +kernel
theorem d_M_decimal_67 : decode b_M_decimal 67 = .ok (.iload 6, 2) := by decide +kernel
theorem d_M_decimal_69 : decode b_M_decimal 69 = .ok (.iconst 4, 1) := by decide +kernel
theorem d_M_decimal_70 : decode b_M_decimal 70 = .ok (.iadd, 1) := by decide +kernel
theorem d_M_decimal_71 : decode b_M_decimal 71 = .ok (.lload_n 1, 1) := by decide +kernel
theorem d_M_decimal_72 : decode b_M_decimal 72 = .ok (.bipush 32, 2) := by decide +kernel
theorem d_M_decimal_74 : decode b_M_decimal 74 = .ok (.lshr, 1) := by decide +kernel
theorem d_M_decimal_75 : decode b_M_decimal 75 = .ok (.l2i, 1) := by decide +kernel
theorem d_M_decimal_76 : decode b_M_decimal 76 = .ok (.iastore, 1) := by decide +kernel
theorem d_M_decimal_77 : decode b_M_decimal 77 = .ok (.aload_n 0, 1) := by decide +kernel
theorem d_M_decimal_78 : decode b_M_decimal 78 = .ok (.getfield 26, 3) := by decide +kernel
theorem d_M_decimal_81 : decode b_M_decimal 81 = .ok (.iload 6, 2) := by decide +kernel
theorem d_M_decimal_83 : decode b_M_decimal 83 = .ok (.iconst 5, 1) := by decide +kernel
theorem d_M_decimal_84 : decode b_M_decimal 84 = .ok (.iadd, 1) := by decide +kernel
theorem d_M_decimal_85 : decode b_M_decimal 85 = .ok (.lload_n 1, 1) := by decide +kernel
theorem d_M_decimal_86 : decode b_M_decimal 86 = .ok (.l2i, 1) := by decide +kernel
theorem d_M_decimal_87 : decode b_M_decimal 87 = .ok (.iastore, 1) := by decide +kernel
theorem d_M_decimal_88 : decode b_M_decimal 88 = .ok (.iload 6, 2) := by decide +kernel
theorem d_M_decimal_90 : decode b_M_decimal 90 = .ok (.ireturn, 1) := by decide +kernel
theorem d_M_scaleOf_0 : decode b_M_scaleOf 0 = .ok (.aload_n 0, 1) := by decide +kernel
theorem d_M_scaleOf_1 : decode b_M_scaleOf 1 = .ok (.iload_n 1, 1) := by decide +kernel
theorem d_M_scaleOf_2 : decode b_M_scaleOf 2 = .ok (.invokevirtual 122, 3) := by decide +kernel
theorem d_M_scaleOf_5 : decode b_M_scaleOf 5 = .ok (.lstore_n 2, 1) := by decide +kernel
theorem d_M_scaleOf_6 : decode b_M_scaleOf 6 = .ok (.bipush 6, 2) := by decide +kernel
theorem d_M_scaleOf_8 : decode b_M_scaleOf 8 = .ok (.istore 4, 2) := by decide +kernel
theorem d_M_scaleOf_10 : decode b_M_scaleOf 10 = .ok (.iload 4, 2) := by decide +kernel
theorem d_M_scaleOf_12 : decode b_M_scaleOf 12 = .ok (.ifCond .le 25, 3) := by decide +kernel
theorem d_M_scaleOf_15 : decode b_M_scaleOf 15 = .ok (.lload_n 2, 1) := by decide +kernel
theorem d_M_scaleOf_16 : decode b_M_scaleOf 16 = .ok (.ldc2_w 108, 3) := by decide +kernel
theorem d_M_scaleOf_19 : decode b_M_scaleOf 19 = .ok (.lrem, 1) := by decide +kernel
theorem d_M_scaleOf_20 : decode b_M_scaleOf 20 = .ok (.lconst 0, 1) := by decide +kernel
theorem d_M_scaleOf_21 : decode b_M_scaleOf 21 = .ok (.lcmp, 1) := by decide +kernel
theorem d_M_scaleOf_22 : decode b_M_scaleOf 22 = .ok (.ifCond .ne 15, 3) := by decide +kernel
theorem d_M_scaleOf_25 : decode b_M_scaleOf 25 = .ok (.lload_n 2, 1) := by decide +kernel
theorem d_M_scaleOf_26 : decode b_M_scaleOf 26 = .ok (.ldc2_w 108, 3) := by decide +kernel
theorem d_M_scaleOf_29 : decode b_M_scaleOf 29 = .ok (.ldiv, 1) := by decide +kernel
theorem d_M_scaleOf_30 : decode b_M_scaleOf 30 = .ok (.lstore_n 2, 1) := by decide +kernel
theorem d_M_scaleOf_31 : decode b_M_scaleOf 31 = .ok (.iinc 4 (-1), 3) := by decide +kernel
theorem d_M_scaleOf_34 : decode b_M_scaleOf 34 = .ok (.goto (-24), 3) := by decide +kernel
theorem d_M_scaleOf_37 : decode b_M_scaleOf 37 = .ok (.iload 4, 2) := by decide +kernel
theorem d_M_scaleOf_39 : decode b_M_scaleOf 39 = .ok (.ireturn, 1) := by decide +kernel
theorem d_M_mantissa_0 : decode b_M_mantissa 0 = .ok (.aload_n 0, 1) := by decide +kernel
theorem d_M_mantissa_1 : decode b_M_mantissa 1 = .ok (.iload_n 1, 1) := by decide +kernel
theorem d_M_mantissa_2 : decode b_M_mantissa 2 = .ok (.invokevirtual 122, 3) := by decide +kernel
theorem d_M_mantissa_5 : decode b_M_mantissa 5 = .ok (.lstore_n 2, 1) := by decide +kernel
theorem d_M_mantissa_6 : decode b_M_mantissa 6 = .ok (.aload_n 0, 1) := by decide +kernel
theorem d_M_mantissa_7 : decode b_M_mantissa 7 = .ok (.iload_n 1, 1) := by decide +kernel
theorem d_M_mantissa_8 : decode b_M_mantissa 8 = .ok (.invokevirtual 126, 3) := by decide +kernel
theorem d_M_mantissa_11 : decode b_M_mantissa 11 = .ok (.istore 4, 2) := by decide +kernel
theorem d_M_mantissa_13 : decode b_M_mantissa 13 = .ok (.iload 4, 2) := by decide +kernel
theorem d_M_mantissa_15 : decode b_M_mantissa 15 = .ok (.bipush 6, 2) := by decide +kernel
theorem d_M_mantissa_17 : decode b_M_mantissa 17 = .ok (.if_icmp .ge 15, 3) := by decide +kernel
theorem d_M_mantissa_20 : decode b_M_mantissa 20 = .ok (.lload_n 2, 1) := by decide +kernel
theorem d_M_mantissa_21 : decode b_M_mantissa 21 = .ok (.ldc2_w 108, 3) := by decide +kernel
theorem d_M_mantissa_24 : decode b_M_mantissa 24 = .ok (.ldiv, 1) := by decide +kernel
theorem d_M_mantissa_25 : decode b_M_mantissa 25 = .ok (.lstore_n 2, 1) := by decide +kernel
theorem d_M_mantissa_26 : decode b_M_mantissa 26 = .ok (.iinc 4 1, 3) := by decide +kernel
theorem d_M_mantissa_29 : decode b_M_mantissa 29 = .ok (.goto (-16), 3) := by decide +kernel
theorem d_M_mantissa_32 : decode b_M_mantissa 32 = .ok (.lload_n 2, 1) := by decide +kernel
theorem d_M_mantissa_33 : decode b_M_mantissa 33 = .ok (.lreturn, 1) := by decide +kernel
theorem d_M_whole_0 : decode b_M_whole 0 = .ok (.aload_n 0, 1) := by decide +kernel
theorem d_M_whole_1 : decode b_M_whole 1 = .ok (.lload_n 1, 1) := by decide +kernel
theorem d_M_whole_2 : decode b_M_whole 2 = .ok (.ldc2_w 130, 3) := by decide +kernel
theorem d_M_whole_5 : decode b_M_whole 5 = .ok (.lmul, 1) := by decide +kernel
theorem d_M_whole_6 : decode b_M_whole 6 = .ok (.invokevirtual 132, 3) := by decide +kernel
theorem d_M_whole_9 : decode b_M_whole 9 = .ok (.ireturn, 1) := by decide +kernel
theorem d_M_floor_0 : decode b_M_floor 0 = .ok (.lload_n 0, 1) := by decide +kernel
theorem d_M_floor_1 : decode b_M_floor 1 = .ok (.ldc2_w 130, 3) := by decide +kernel
theorem d_M_floor_4 : decode b_M_floor 4 = .ok (.ldiv, 1) := by decide +kernel
theorem d_M_floor_5 : decode b_M_floor 5 = .ok (.lstore_n 2, 1) := by decide +kernel
theorem d_M_floor_6 : decode b_M_floor 6 = .ok (.lload_n 2, 1) := by decide +kernel
theorem d_M_floor_7 : decode b_M_floor 7 = .ok (.ldc2_w 130, 3) := by decide +kernel
theorem d_M_floor_10 : decode b_M_floor 10 = .ok (.lmul, 1) := by decide +kernel
theorem d_M_floor_11 : decode b_M_floor 11 = .ok (.lload_n 0, 1) := by decide +kernel
theorem d_M_floor_12 : decode b_M_floor 12 = .ok (.lcmp, 1) := by decide +kernel
theorem d_M_floor_13 : decode b_M_floor 13 = .ok (.ifCond .le 9, 3) := by decide +kernel
theorem d_M_floor_16 : decode b_M_floor 16 = .ok (.lload_n 2, 1) := by decide +kernel
theorem d_M_floor_17 : decode b_M_floor 17 = .ok (.lconst 1, 1) := by decide +kernel
theorem d_M_floor_18 : decode b_M_floor 18 = .ok (.lsub, 1) := by decide +kernel
theorem d_M_floor_19 : decode b_M_floor 19 = .ok (.goto 4, 3) := by decide +kernel
theorem d_M_floor_22 : decode b_M_floor 22 = .ok (.lload_n 2, 1) := by decide +kernel
theorem d_M_floor_23 : decode b_M_floor 23 = .ok (.lreturn, 1) := by decide +kernel
theorem d_M_stringOf_0 : decode b_M_stringOf 0 = .ok (.aload_n 0, 1) := by decide +kernel
theorem d_M_stringOf_1 : decode b_M_stringOf 1 = .ok (.iconst 4, 1) := by decide +kernel
theorem d_M_stringOf_2 : decode b_M_stringOf 2 = .ok (.aload_n 0, 1) := by decide +kernel
theorem d_M_stringOf_3 : decode b_M_stringOf 3 = .ok (.getfield 13, 3) := by decide +kernel
theorem d_M_stringOf_6 : decode b_M_stringOf 6 = .ok (.iload_n 1, 1) := by decide +kernel
theorem d_M_stringOf_7 : decode b_M_stringOf 7 = .ok (.iaload, 1) := by decide +kernel
theorem d_M_stringOf_8 : decode b_M_stringOf 8 = .ok (.aload_n 0, 1) := by decide +kernel
theorem d_M_stringOf_9 : decode b_M_stringOf 9 = .ok (.getfield 13, 3) := by decide +kernel
theorem d_M_stringOf_12 : decode b_M_stringOf 12 = .ok (.iload_n 1, 1) := by decide +kernel
theorem d_M_stringOf_13 : decode b_M_stringOf 13 = .ok (.iaload, 1) := by decide +kernel
theorem d_M_stringOf_14 : decode b_M_stringOf 14 = .ok (.invokevirtual 118, 3) := by decide +kernel
theorem d_M_stringOf_17 : decode b_M_stringOf 17 = .ok (.istore_n 2, 1) := by decide +kernel
theorem d_M_stringOf_18 : decode b_M_stringOf 18 = .ok (.iconst 0, 1) := by decide +kernel
theorem d_M_stringOf_19 : decode b_M_stringOf 19 = .ok (.istore_n 3, 1) := by decide +kernel
theorem d_M_stringOf_20 : decode b_M_stringOf 20 = .ok (.iload_n 3, 1) := by decide +kernel
theorem d_M_stringOf_21 : decode b_M_stringOf 21 = .ok (.aload_n 0, 1) := by decide +kernel
theorem d_M_stringOf_22 : decode b_M_stringOf 22 = .ok (.getfield 13, 3) := by decide +kernel
theorem d_M_stringOf_25 : decode b_M_stringOf 25 = .ok (.iload_n 1, 1) := by decide +kernel
theorem d_M_stringOf_26 : decode b_M_stringOf 26 = .ok (.iaload, 1) := by decide +kernel
theorem d_M_stringOf_27 : decode b_M_stringOf 27 = .ok (.if_icmp .ge 30, 3) := by decide +kernel
theorem d_M_stringOf_30 : decode b_M_stringOf 30 = .ok (.aload_n 0, 1) := by decide +kernel
theorem d_M_stringOf_31 : decode b_M_stringOf 31 = .ok (.getfield 26, 3) := by decide +kernel
theorem d_M_stringOf_34 : decode b_M_stringOf 34 = .ok (.iload_n 2, 1) := by decide +kernel
theorem d_M_stringOf_35 : decode b_M_stringOf 35 = .ok (.iconst 4, 1) := by decide +kernel
theorem d_M_stringOf_36 : decode b_M_stringOf 36 = .ok (.iadd, 1) := by decide +kernel
theorem d_M_stringOf_37 : decode b_M_stringOf 37 = .ok (.iload_n 3, 1) := by decide +kernel
theorem d_M_stringOf_38 : decode b_M_stringOf 38 = .ok (.iadd, 1) := by decide +kernel
theorem d_M_stringOf_39 : decode b_M_stringOf 39 = .ok (.aload_n 0, 1) := by decide +kernel
theorem d_M_stringOf_40 : decode b_M_stringOf 40 = .ok (.getfield 7, 3) := by decide +kernel
theorem d_M_stringOf_43 : decode b_M_stringOf 43 = .ok (.bipush 12, 2) := by decide +kernel
theorem d_M_stringOf_45 : decode b_M_stringOf 45 = .ok (.iload_n 1, 1) := by decide +kernel
theorem d_M_stringOf_46 : decode b_M_stringOf 46 = .ok (.imul, 1) := by decide +kernel
theorem d_M_stringOf_47 : decode b_M_stringOf 47 = .ok (.iload_n 3, 1) := by decide +kernel
theorem d_M_stringOf_48 : decode b_M_stringOf 48 = .ok (.iadd, 1) := by decide +kernel
theorem d_M_stringOf_49 : decode b_M_stringOf 49 = .ok (.iaload, 1) := by decide +kernel
theorem d_M_stringOf_50 : decode b_M_stringOf 50 = .ok (.iastore, 1) := by decide +kernel
theorem d_M_stringOf_51 : decode b_M_stringOf 51 = .ok (.iinc 3 1, 3) := by decide +kernel
theorem d_M_stringOf_54 : decode b_M_stringOf 54 = .ok (.goto (-34), 3) := by decide +kernel
theorem d_M_stringOf_57 : decode b_M_stringOf 57 = .ok (.iload_n 2, 1) := by decide +kernel
theorem d_M_stringOf_58 : decode b_M_stringOf 58 = .ok (.ireturn, 1) := by decide +kernel
theorem d_M_weighed_0 : decode b_M_weighed 0 = .ok (.iconst 1, 1) := by decide +kernel
theorem d_M_weighed_1 : decode b_M_weighed 1 = .ok (.istore_n 2, 1) := by decide +kernel
theorem d_M_weighed_2 : decode b_M_weighed 2 = .ok (.iconst 0, 1) := by decide +kernel
theorem d_M_weighed_3 : decode b_M_weighed 3 = .ok (.istore_n 3, 1) := by decide +kernel
theorem d_M_weighed_4 : decode b_M_weighed 4 = .ok (.iconst 0, 1) := by decide +kernel
theorem d_M_weighed_5 : decode b_M_weighed 5 = .ok (.istore 4, 2) := by decide +kernel
theorem d_M_weighed_7 : decode b_M_weighed 7 = .ok (.iload 4, 2) := by decide +kernel
theorem d_M_weighed_9 : decode b_M_weighed 9 = .ok (.aload_n 0, 1) := by decide +kernel
theorem d_M_weighed_10 : decode b_M_weighed 10 = .ok (.iload_n 1, 1) := by decide +kernel
theorem d_M_weighed_11 : decode b_M_weighed 11 = .ok (.invokevirtual 136, 3) := by decide +kernel
theorem d_M_weighed_14 : decode b_M_weighed 14 = .ok (.if_icmp .ge 59, 3) := by decide +kernel
theorem d_M_weighed_17 : decode b_M_weighed 17 = .ok (.iload_n 2, 1) := by decide +kernel
theorem d_M_weighed_18 : decode b_M_weighed 18 = .ok (.aload_n 0, 1) := by decide +kernel
theorem d_M_weighed_19 : decode b_M_weighed 19 = .ok (.getfield 26, 3) := by decide +kernel
theorem d_M_weighed_22 : decode b_M_weighed 22 = .ok (.aload_n 0, 1) := by decide +kernel
theorem d_M_weighed_23 : decode b_M_weighed 23 = .ok (.iload_n 1, 1) := by decide +kernel
theorem d_M_weighed_24 : decode b_M_weighed 24 = .ok (.iload 4, 2) := by decide +kernel
theorem d_M_weighed_26 : decode b_M_weighed 26 = .ok (.invokevirtual 139, 3) := by decide +kernel
theorem d_M_weighed_29 : decode b_M_weighed 29 = .ok (.iconst 1, 1) := by decide +kernel
theorem d_M_weighed_30 : decode b_M_weighed 30 = .ok (.iadd, 1) := by decide +kernel
theorem d_M_weighed_31 : decode b_M_weighed 31 = .ok (.iaload, 1) := by decide +kernel
theorem d_M_weighed_32 : decode b_M_weighed 32 = .ok (.iadd, 1) := by decide +kernel
theorem d_M_weighed_33 : decode b_M_weighed 33 = .ok (.istore_n 2, 1) := by decide +kernel
theorem d_M_weighed_34 : decode b_M_weighed 34 = .ok (.aload_n 0, 1) := by decide +kernel
theorem d_M_weighed_35 : decode b_M_weighed 35 = .ok (.getfield 26, 3) := by decide +kernel
theorem d_M_weighed_38 : decode b_M_weighed 38 = .ok (.aload_n 0, 1) := by decide +kernel
theorem d_M_weighed_39 : decode b_M_weighed 39 = .ok (.iload_n 1, 1) := by decide +kernel
theorem d_M_weighed_40 : decode b_M_weighed 40 = .ok (.iload 4, 2) := by decide +kernel
theorem d_M_weighed_42 : decode b_M_weighed 42 = .ok (.invokevirtual 139, 3) := by decide +kernel
theorem d_M_weighed_45 : decode b_M_weighed 45 = .ok (.iconst 2, 1) := by decide +kernel
theorem d_M_weighed_46 : decode b_M_weighed 46 = .ok (.iadd, 1) := by decide +kernel
theorem d_M_weighed_47 : decode b_M_weighed 47 = .ok (.iaload, 1) := by decide +kernel
theorem d_M_weighed_48 : decode b_M_weighed 48 = .ok (.iload_n 3, 1) := by decide +kernel
theorem d_M_weighed_49 : decode b_M_weighed 49 = .ok (.if_icmp .le 18, 3) := by decide +kernel
theorem d_M_weighed_52 : decode b_M_weighed 52 = .ok (.aload_n 0, 1) := by decide +kernel
theorem d_M_weighed_53 : decode b_M_weighed 53 = .ok (.getfield 26, 3) := by decide +kernel
theorem d_M_weighed_56 : decode b_M_weighed 56 = .ok (.aload_n 0, 1) := by decide +kernel
theorem d_M_weighed_57 : decode b_M_weighed 57 = .ok (.iload_n 1, 1) := by decide +kernel
theorem d_M_weighed_58 : decode b_M_weighed 58 = .ok (.iload 4, 2) := by decide +kernel
theorem d_M_weighed_60 : decode b_M_weighed 60 = .ok (.invokevirtual 139, 3) := by decide +kernel
theorem d_M_weighed_63 : decode b_M_weighed 63 = .ok (.iconst 2, 1) := by decide +kernel
theorem d_M_weighed_64 : decode b_M_weighed 64 = .ok (.iadd, 1) := by decide +kernel
theorem d_M_weighed_65 : decode b_M_weighed 65 = .ok (.iaload, 1) := by decide +kernel
theorem d_M_weighed_66 : decode b_M_weighed 66 = .ok (.istore_n 3, 1) := by decide +kernel
theorem d_M_weighed_67 : decode b_M_weighed 67 = .ok (.iinc 4 1, 3) := by decide +kernel
theorem d_M_weighed_70 : decode b_M_weighed 70 = .ok (.goto (-63), 3) := by decide +kernel
theorem d_M_weighed_73 : decode b_M_weighed 73 = .ok (.aload_n 0, 1) := by decide +kernel
theorem d_M_weighed_74 : decode b_M_weighed 74 = .ok (.getfield 26, 3) := by decide +kernel
theorem d_M_weighed_77 : decode b_M_weighed 77 = .ok (.iload_n 1, 1) := by decide +kernel
theorem d_M_weighed_78 : decode b_M_weighed 78 = .ok (.iconst 1, 1) := by decide +kernel
theorem d_M_weighed_79 : decode b_M_weighed 79 = .ok (.iadd, 1) := by decide +kernel
theorem d_M_weighed_80 : decode b_M_weighed 80 = .ok (.iload_n 2, 1) := by decide +kernel
theorem d_M_weighed_81 : decode b_M_weighed 81 = .ok (.iastore, 1) := by decide +kernel
theorem d_M_weighed_82 : decode b_M_weighed 82 = .ok (.aload_n 0, 1) := by decide +kernel
theorem d_M_weighed_83 : decode b_M_weighed 83 = .ok (.getfield 26, 3) := by decide +kernel
theorem d_M_weighed_86 : decode b_M_weighed 86 = .ok (.iload_n 1, 1) := by decide +kernel
theorem d_M_weighed_87 : decode b_M_weighed 87 = .ok (.iconst 2, 1) := by decide +kernel
theorem d_M_weighed_88 : decode b_M_weighed 88 = .ok (.iadd, 1) := by decide +kernel
theorem d_M_weighed_89 : decode b_M_weighed 89 = .ok (.iload_n 3, 1) := by decide +kernel
theorem d_M_weighed_90 : decode b_M_weighed 90 = .ok (.iconst 1, 1) := by decide +kernel
theorem d_M_weighed_91 : decode b_M_weighed 91 = .ok (.iadd, 1) := by decide +kernel
theorem d_M_weighed_92 : decode b_M_weighed 92 = .ok (.iastore, 1) := by decide +kernel
theorem d_M_weighed_93 : decode b_M_weighed 93 = .ok (.iload_n 2, 1) := by decide +kernel
theorem d_M_weighed_94 : decode b_M_weighed 94 = .ok (.bipush 24, 2) := by decide +kernel
theorem d_M_weighed_96 : decode b_M_weighed 96 = .ok (.if_icmp .gt 8, 3) := by decide +kernel
theorem d_M_weighed_99 : decode b_M_weighed 99 = .ok (.iload_n 3, 1) := by decide +kernel
theorem d_M_weighed_100 : decode b_M_weighed 100 = .ok (.iconst 4, 1) := by decide +kernel
theorem d_M_weighed_101 : decode b_M_weighed 101 = .ok (.if_icmp .le 10, 3) := by decide +kernel
theorem d_M_weighed_104 : decode b_M_weighed 104 = .ok (.aload_n 0, 1) := by decide +kernel
theorem d_M_weighed_105 : decode b_M_weighed 105 = .ok (.invokevirtual 114, 3) := by decide +kernel
theorem d_M_weighed_108 : decode b_M_weighed 108 = .ok (.goto 4, 3) := by decide +kernel
theorem d_M_weighed_111 : decode b_M_weighed 111 = .ok (.iload_n 1, 1) := by decide +kernel
theorem d_M_weighed_112 : decode b_M_weighed 112 = .ok (.ireturn, 1) := by decide +kernel
theorem d_M_array_0 : decode b_M_array 0 = .ok (.iload_n 1, 1) := by decide +kernel
theorem d_M_array_1 : decode b_M_array 1 = .ok (.bipush 12, 2) := by decide +kernel
theorem d_M_array_3 : decode b_M_array 3 = .ok (.if_icmp .le 8, 3) := by decide +kernel
theorem d_M_array_6 : decode b_M_array 6 = .ok (.aload_n 0, 1) := by decide +kernel
theorem d_M_array_7 : decode b_M_array 7 = .ok (.invokevirtual 114, 3) := by decide +kernel
theorem d_M_array_10 : decode b_M_array 10 = .ok (.ireturn, 1) := by decide +kernel
theorem d_M_array_11 : decode b_M_array 11 = .ok (.aload_n 0, 1) := by decide +kernel
theorem d_M_array_12 : decode b_M_array 12 = .ok (.iconst 5, 1) := by decide +kernel
theorem d_M_array_13 : decode b_M_array 13 = .ok (.iload_n 1, 1) := by decide +kernel
theorem d_M_array_14 : decode b_M_array 14 = .ok (.iload_n 1, 1) := by decide +kernel
theorem d_M_array_15 : decode b_M_array 15 = .ok (.invokevirtual 118, 3) := by decide +kernel
theorem d_M_array_18 : decode b_M_array 18 = .ok (.istore_n 2, 1) := by decide +kernel
theorem d_M_array_19 : decode b_M_array 19 = .ok (.iconst 0, 1) := by decide +kernel
theorem d_M_array_20 : decode b_M_array 20 = .ok (.istore_n 3, 1) := by decide +kernel
theorem d_M_array_21 : decode b_M_array 21 = .ok (.iload_n 3, 1) := by decide +kernel
theorem d_M_array_22 : decode b_M_array 22 = .ok (.iload_n 1, 1) := by decide +kernel
theorem d_M_array_23 : decode b_M_array 23 = .ok (.if_icmp .ge 25, 3) := by decide +kernel
theorem d_M_array_26 : decode b_M_array 26 = .ok (.aload_n 0, 1) := by decide +kernel
theorem d_M_array_27 : decode b_M_array 27 = .ok (.getfield 26, 3) := by decide +kernel
theorem d_M_array_30 : decode b_M_array 30 = .ok (.iload_n 2, 1) := by decide +kernel
theorem d_M_array_31 : decode b_M_array 31 = .ok (.iconst 4, 1) := by decide +kernel
theorem d_M_array_32 : decode b_M_array 32 = .ok (.iadd, 1) := by decide +kernel
theorem d_M_array_33 : decode b_M_array 33 = .ok (.iload_n 3, 1) := by decide +kernel
theorem d_M_array_34 : decode b_M_array 34 = .ok (.iadd, 1) := by decide +kernel
theorem d_M_array_35 : decode b_M_array 35 = .ok (.aload_n 0, 1) := by decide +kernel
theorem d_M_array_36 : decode b_M_array 36 = .ok (.getfield 42, 3) := by decide +kernel
theorem d_M_array_39 : decode b_M_array 39 = .ok (.iload_n 3, 1) := by decide +kernel
theorem d_M_array_40 : decode b_M_array 40 = .ok (.iaload, 1) := by decide +kernel
theorem d_M_array_41 : decode b_M_array 41 = .ok (.iastore, 1) := by decide +kernel
theorem d_M_array_42 : decode b_M_array 42 = .ok (.iinc 3 1, 3) := by decide +kernel
theorem d_M_array_45 : decode b_M_array 45 = .ok (.goto (-24), 3) := by decide +kernel
theorem d_M_array_48 : decode b_M_array 48 = .ok (.aload_n 0, 1) := by decide +kernel
theorem d_M_array_49 : decode b_M_array 49 = .ok (.iload_n 2, 1) := by decide +kernel
theorem d_M_array_50 : decode b_M_array 50 = .ok (.invokevirtual 143, 3) := by decide +kernel
theorem d_M_array_53 : decode b_M_array 53 = .ok (.ireturn, 1) := by decide +kernel
theorem d_M_object_0 : decode b_M_object 0 = .ok (.iload_n 1, 1) := by decide +kernel
theorem d_M_object_1 : decode b_M_object 1 = .ok (.bipush 6, 2) := by decide +kernel
theorem d_M_object_3 : decode b_M_object 3 = .ok (.if_icmp .le 8, 3) := by decide +kernel
theorem d_M_object_6 : decode b_M_object 6 = .ok (.aload_n 0, 1) := by decide +kernel
theorem d_M_object_7 : decode b_M_object 7 = .ok (.invokevirtual 114, 3) := by decide +kernel
theorem d_M_object_10 : decode b_M_object 10 = .ok (.ireturn, 1) := by decide +kernel
theorem d_M_object_11 : decode b_M_object 11 = .ok (.aload_n 0, 1) := by decide +kernel
theorem d_M_object_12 : decode b_M_object 12 = .ok (.bipush 6, 2) := by decide +kernel
theorem d_M_object_14 : decode b_M_object 14 = .ok (.iload_n 1, 1) := by decide +kernel
theorem d_M_object_15 : decode b_M_object 15 = .ok (.iconst 2, 1) := by decide +kernel
theorem d_M_object_16 : decode b_M_object 16 = .ok (.iload_n 1, 1) := by decide +kernel
theorem d_M_object_17 : decode b_M_object 17 = .ok (.imul, 1) := by decide +kernel
theorem d_M_object_18 : decode b_M_object 18 = .ok (.invokevirtual 118, 3) := by decide +kernel
theorem d_M_object_21 : decode b_M_object 21 = .ok (.istore_n 2, 1) := by decide +kernel
theorem d_M_object_22 : decode b_M_object 22 = .ok (.iconst 0, 1) := by decide +kernel
theorem d_M_object_23 : decode b_M_object 23 = .ok (.istore_n 3, 1) := by decide +kernel
theorem d_M_object_24 : decode b_M_object 24 = .ok (.iload_n 3, 1) := by decide +kernel
theorem d_M_object_25 : decode b_M_object 25 = .ok (.iload_n 1, 1) := by decide +kernel
theorem d_M_object_26 : decode b_M_object 26 = .ok (.if_icmp .ge 43, 3) := by decide +kernel
theorem d_M_object_29 : decode b_M_object 29 = .ok (.aload_n 0, 1) := by decide +kernel
theorem d_M_object_30 : decode b_M_object 30 = .ok (.getfield 26, 3) := by decide +kernel
theorem d_M_object_33 : decode b_M_object 33 = .ok (.iload_n 2, 1) := by decide +kernel
theorem d_M_object_34 : decode b_M_object 34 = .ok (.iconst 4, 1) := by decide +kernel
theorem d_M_object_35 : decode b_M_object 35 = .ok (.iadd, 1) := by decide +kernel
theorem d_M_object_36 : decode b_M_object 36 = .ok (.iload_n 3, 1) := by decide +kernel
theorem d_M_object_37 : decode b_M_object 37 = .ok (.iadd, 1) := by decide +kernel
theorem d_M_object_38 : decode b_M_object 38 = .ok (.aload_n 0, 1) := by decide +kernel
theorem d_M_object_39 : decode b_M_object 39 = .ok (.getfield 45, 3) := by decide +kernel
theorem d_M_object_42 : decode b_M_object 42 = .ok (.iload_n 3, 1) := by decide +kernel
theorem d_M_object_43 : decode b_M_object 43 = .ok (.iaload, 1) := by decide +kernel
theorem d_M_object_44 : decode b_M_object 44 = .ok (.iastore, 1) := by decide +kernel
theorem d_M_object_45 : decode b_M_object 45 = .ok (.aload_n 0, 1) := by decide +kernel
theorem d_M_object_46 : decode b_M_object 46 = .ok (.getfield 26, 3) := by decide +kernel
theorem d_M_object_49 : decode b_M_object 49 = .ok (.iload_n 2, 1) := by decide +kernel
theorem d_M_object_50 : decode b_M_object 50 = .ok (.iconst 4, 1) := by decide +kernel
theorem d_M_object_51 : decode b_M_object 51 = .ok (.iadd, 1) := by decide +kernel
theorem d_M_object_52 : decode b_M_object 52 = .ok (.iload_n 1, 1) := by decide +kernel
theorem d_M_object_53 : decode b_M_object 53 = .ok (.iadd, 1) := by decide +kernel
theorem d_M_object_54 : decode b_M_object 54 = .ok (.iload_n 3, 1) := by decide +kernel
theorem d_M_object_55 : decode b_M_object 55 = .ok (.iadd, 1) := by decide +kernel
theorem d_M_object_56 : decode b_M_object 56 = .ok (.aload_n 0, 1) := by decide +kernel
theorem d_M_object_57 : decode b_M_object 57 = .ok (.getfield 42, 3) := by decide +kernel
theorem d_M_object_60 : decode b_M_object 60 = .ok (.iload_n 3, 1) := by decide +kernel
theorem d_M_object_61 : decode b_M_object 61 = .ok (.iaload, 1) := by decide +kernel
theorem d_M_object_62 : decode b_M_object 62 = .ok (.iastore, 1) := by decide +kernel
theorem d_M_object_63 : decode b_M_object 63 = .ok (.iinc 3 1, 3) := by decide +kernel
theorem d_M_object_66 : decode b_M_object 66 = .ok (.goto (-42), 3) := by decide +kernel
theorem d_M_object_69 : decode b_M_object 69 = .ok (.aload_n 0, 1) := by decide +kernel
theorem d_M_object_70 : decode b_M_object 70 = .ok (.iload_n 2, 1) := by decide +kernel
theorem d_M_object_71 : decode b_M_object 71 = .ok (.invokevirtual 143, 3) := by decide +kernel
theorem d_M_object_74 : decode b_M_object 74 = .ok (.ireturn, 1) := by decide +kernel
theorem d_M_sign_0 : decode b_M_sign 0 = .ok (.lload_n 0, 1) := by decide +kernel
theorem d_M_sign_1 : decode b_M_sign 1 = .ok (.lconst 0, 1) := by decide +kernel
theorem d_M_sign_2 : decode b_M_sign 2 = .ok (.lcmp, 1) := by decide +kernel
theorem d_M_sign_3 : decode b_M_sign 3 = .ok (.ifCond .ge 7, 3) := by decide +kernel
theorem d_M_sign_6 : decode b_M_sign 6 = .ok (.iconst (-1), 1) := by decide +kernel
theorem d_M_sign_7 : decode b_M_sign 7 = .ok (.goto 14, 3) := by decide +kernel
theorem d_M_sign_10 : decode b_M_sign 10 = .ok (.lload_n 0, 1) := by decide +kernel
theorem d_M_sign_11 : decode b_M_sign 11 = .ok (.lconst 0, 1) := by decide +kernel
theorem d_M_sign_12 : decode b_M_sign 12 = .ok (.lcmp, 1) := by decide +kernel
theorem d_M_sign_13 : decode b_M_sign 13 = .ok (.ifCond .le 7, 3) := by decide +kernel
theorem d_M_sign_16 : decode b_M_sign 16 = .ok (.iconst 1, 1) := by decide +kernel
theorem d_M_sign_17 : decode b_M_sign 17 = .ok (.goto 4, 3) := by decide +kernel
theorem d_M_sign_20 : decode b_M_sign 20 = .ok (.iconst 0, 1) := by decide +kernel
theorem d_M_sign_21 : decode b_M_sign 21 = .ok (.ireturn, 1) := by decide +kernel
theorem d_M_textOrder_0 : decode b_M_textOrder 0 = .ok (.iconst 0, 1) := by decide +kernel
theorem d_M_textOrder_1 : decode b_M_textOrder 1 = .ok (.istore_n 3, 1) := by decide +kernel
theorem d_M_textOrder_2 : decode b_M_textOrder 2 = .ok (.iload_n 3, 1) := by decide +kernel
theorem d_M_textOrder_3 : decode b_M_textOrder 3 = .ok (.aload_n 0, 1) := by decide +kernel
theorem d_M_textOrder_4 : decode b_M_textOrder 4 = .ok (.iload_n 1, 1) := by decide +kernel
theorem d_M_textOrder_5 : decode b_M_textOrder 5 = .ok (.invokevirtual 136, 3) := by decide +kernel
theorem d_M_textOrder_8 : decode b_M_textOrder 8 = .ok (.if_icmp .ge 67, 3) := by decide +kernel
theorem d_M_textOrder_11 : decode b_M_textOrder 11 = .ok (.iload_n 3, 1) := by decide +kernel
theorem d_M_textOrder_12 : decode b_M_textOrder 12 = .ok (.aload_n 0, 1) := by decide +kernel
theorem d_M_textOrder_13 : decode b_M_textOrder 13 = .ok (.iload_n 2, 1) := by decide +kernel
theorem d_M_textOrder_14 : decode b_M_textOrder 14 = .ok (.invokevirtual 136, 3) := by decide +kernel
theorem d_M_textOrder_17 : decode b_M_textOrder 17 = .ok (.if_icmp .ge 58, 3) := by decide +kernel
theorem d_M_textOrder_20 : decode b_M_textOrder 20 = .ok (.aload_n 0, 1) := by decide +kernel
theorem d_M_textOrder_21 : decode b_M_textOrder 21 = .ok (.getfield 26, 3) := by decide +kernel
theorem d_M_textOrder_24 : decode b_M_textOrder 24 = .ok (.iload_n 1, 1) := by decide +kernel
theorem d_M_textOrder_25 : decode b_M_textOrder 25 = .ok (.iconst 4, 1) := by decide +kernel
theorem d_M_textOrder_26 : decode b_M_textOrder 26 = .ok (.iadd, 1) := by decide +kernel
theorem d_M_textOrder_27 : decode b_M_textOrder 27 = .ok (.iload_n 3, 1) := by decide +kernel
theorem d_M_textOrder_28 : decode b_M_textOrder 28 = .ok (.iadd, 1) := by decide +kernel
theorem d_M_textOrder_29 : decode b_M_textOrder 29 = .ok (.iaload, 1) := by decide +kernel
theorem d_M_textOrder_30 : decode b_M_textOrder 30 = .ok (.aload_n 0, 1) := by decide +kernel
theorem d_M_textOrder_31 : decode b_M_textOrder 31 = .ok (.getfield 26, 3) := by decide +kernel
theorem d_M_textOrder_34 : decode b_M_textOrder 34 = .ok (.iload_n 2, 1) := by decide +kernel
theorem d_M_textOrder_35 : decode b_M_textOrder 35 = .ok (.iconst 4, 1) := by decide +kernel
theorem d_M_textOrder_36 : decode b_M_textOrder 36 = .ok (.iadd, 1) := by decide +kernel
theorem d_M_textOrder_37 : decode b_M_textOrder 37 = .ok (.iload_n 3, 1) := by decide +kernel
theorem d_M_textOrder_38 : decode b_M_textOrder 38 = .ok (.iadd, 1) := by decide +kernel
theorem d_M_textOrder_39 : decode b_M_textOrder 39 = .ok (.iaload, 1) := by decide +kernel
theorem d_M_textOrder_40 : decode b_M_textOrder 40 = .ok (.if_icmp .eq 29, 3) := by decide +kernel
theorem d_M_textOrder_43 : decode b_M_textOrder 43 = .ok (.aload_n 0, 1) := by decide +kernel
theorem d_M_textOrder_44 : decode b_M_textOrder 44 = .ok (.getfield 26, 3) := by decide +kernel
theorem d_M_textOrder_47 : decode b_M_textOrder 47 = .ok (.iload_n 1, 1) := by decide +kernel
theorem d_M_textOrder_48 : decode b_M_textOrder 48 = .ok (.iconst 4, 1) := by decide +kernel
theorem d_M_textOrder_49 : decode b_M_textOrder 49 = .ok (.iadd, 1) := by decide +kernel
theorem d_M_textOrder_50 : decode b_M_textOrder 50 = .ok (.iload_n 3, 1) := by decide +kernel
theorem d_M_textOrder_51 : decode b_M_textOrder 51 = .ok (.iadd, 1) := by decide +kernel
theorem d_M_textOrder_52 : decode b_M_textOrder 52 = .ok (.iaload, 1) := by decide +kernel
theorem d_M_textOrder_53 : decode b_M_textOrder 53 = .ok (.aload_n 0, 1) := by decide +kernel
theorem d_M_textOrder_54 : decode b_M_textOrder 54 = .ok (.getfield 26, 3) := by decide +kernel
theorem d_M_textOrder_57 : decode b_M_textOrder 57 = .ok (.iload_n 2, 1) := by decide +kernel
theorem d_M_textOrder_58 : decode b_M_textOrder 58 = .ok (.iconst 4, 1) := by decide +kernel
theorem d_M_textOrder_59 : decode b_M_textOrder 59 = .ok (.iadd, 1) := by decide +kernel
theorem d_M_textOrder_60 : decode b_M_textOrder 60 = .ok (.iload_n 3, 1) := by decide +kernel
theorem d_M_textOrder_61 : decode b_M_textOrder 61 = .ok (.iadd, 1) := by decide +kernel
theorem d_M_textOrder_62 : decode b_M_textOrder 62 = .ok (.iaload, 1) := by decide +kernel
theorem d_M_textOrder_63 : decode b_M_textOrder 63 = .ok (.isub, 1) := by decide +kernel
theorem d_M_textOrder_64 : decode b_M_textOrder 64 = .ok (.i2l, 1) := by decide +kernel
theorem d_M_textOrder_65 : decode b_M_textOrder 65 = .ok (.invokestatic 146, 3) := by decide +kernel
theorem d_M_textOrder_68 : decode b_M_textOrder 68 = .ok (.ireturn, 1) := by decide +kernel
theorem d_M_textOrder_69 : decode b_M_textOrder 69 = .ok (.iinc 3 1, 3) := by decide +kernel
theorem d_M_textOrder_72 : decode b_M_textOrder 72 = .ok (.goto (-70), 3) := by decide +kernel
theorem d_M_textOrder_75 : decode b_M_textOrder 75 = .ok (.aload_n 0, 1) := by decide +kernel
theorem d_M_textOrder_76 : decode b_M_textOrder 76 = .ok (.iload_n 1, 1) := by decide +kernel
theorem d_M_textOrder_77 : decode b_M_textOrder 77 = .ok (.invokevirtual 136, 3) := by decide +kernel
theorem d_M_textOrder_80 : decode b_M_textOrder 80 = .ok (.aload_n 0, 1) := by decide +kernel
theorem d_M_textOrder_81 : decode b_M_textOrder 81 = .ok (.iload_n 2, 1) := by decide +kernel
theorem d_M_textOrder_82 : decode b_M_textOrder 82 = .ok (.invokevirtual 136, 3) := by decide +kernel
theorem d_M_textOrder_85 : decode b_M_textOrder 85 = .ok (.isub, 1) := by decide +kernel
theorem d_M_textOrder_86 : decode b_M_textOrder 86 = .ok (.i2l, 1) := by decide +kernel
theorem d_M_textOrder_87 : decode b_M_textOrder 87 = .ok (.invokestatic 146, 3) := by decide +kernel
theorem d_M_textOrder_90 : decode b_M_textOrder 90 = .ok (.ireturn, 1) := by decide +kernel
theorem d_M_pair_0 : decode b_M_pair 0 = .ok (.aload_n 0, 1) := by decide +kernel
theorem d_M_pair_1 : decode b_M_pair 1 = .ok (.getfield 48, 3) := by decide +kernel
theorem d_M_pair_4 : decode b_M_pair 4 = .ok (.aload_n 0, 1) := by decide +kernel
theorem d_M_pair_5 : decode b_M_pair 5 = .ok (.getfield 149, 3) := by decide +kernel
theorem d_M_pair_8 : decode b_M_pair 8 = .ok (.iload_n 1, 1) := by decide +kernel
theorem d_M_pair_9 : decode b_M_pair 9 = .ok (.iastore, 1) := by decide +kernel
theorem d_M_pair_10 : decode b_M_pair 10 = .ok (.aload_n 0, 1) := by decide +kernel
theorem d_M_pair_11 : decode b_M_pair 11 = .ok (.getfield 51, 3) := by decide +kernel
theorem d_M_pair_14 : decode b_M_pair 14 = .ok (.aload_n 0, 1) := by decide +kernel
theorem d_M_pair_15 : decode b_M_pair 15 = .ok (.getfield 149, 3) := by decide +kernel
theorem d_M_pair_18 : decode b_M_pair 18 = .ok (.iload_n 2, 1) := by decide +kernel
theorem d_M_pair_19 : decode b_M_pair 19 = .ok (.iastore, 1) := by decide +kernel
theorem d_M_pair_20 : decode b_M_pair 20 = .ok (.aload_n 0, 1) := by decide +kernel
theorem d_M_pair_21 : decode b_M_pair 21 = .ok (.dup, 1) := by decide +kernel
theorem d_M_pair_22 : decode b_M_pair 22 = .ok (.getfield 149, 3) := by decide +kernel
theorem d_M_pair_25 : decode b_M_pair 25 = .ok (.iconst 1, 1) := by decide +kernel
theorem d_M_pair_26 : decode b_M_pair 26 = .ok (.iadd, 1) := by decide +kernel
theorem d_M_pair_27 : decode b_M_pair 27 = .ok (.putfield 149, 3) := by decide +kernel
theorem d_M_pair_30 : decode b_M_pair 30 = .ok (.return_, 1) := by decide +kernel
theorem d_M_ordered_0 : decode b_M_ordered 0 = .ok (.aload_n 0, 1) := by decide +kernel
theorem d_M_ordered_1 : decode b_M_ordered 1 = .ok (.iconst 0, 1) := by decide +kernel
theorem d_M_ordered_2 : decode b_M_ordered 2 = .ok (.putfield 149, 3) := by decide +kernel
theorem d_M_ordered_5 : decode b_M_ordered 5 = .ok (.aload_n 0, 1) := by decide +kernel
theorem d_M_ordered_6 : decode b_M_ordered 6 = .ok (.iload_n 1, 1) := by decide +kernel
theorem d_M_ordered_7 : decode b_M_ordered 7 = .ok (.iload_n 2, 1) := by decide +kernel
theorem d_M_ordered_8 : decode b_M_ordered 8 = .ok (.invokevirtual 152, 3) := by decide +kernel
theorem d_M_ordered_11 : decode b_M_ordered 11 = .ok (.aload_n 0, 1) := by decide +kernel
theorem d_M_ordered_12 : decode b_M_ordered 12 = .ok (.getfield 149, 3) := by decide +kernel
theorem d_M_ordered_15 : decode b_M_ordered 15 = .ok (.ifCond .le 90, 3) := by decide +kernel
theorem d_M_ordered_18 : decode b_M_ordered 18 = .ok (.aload_n 0, 1) := by decide +kernel
theorem d_M_ordered_19 : decode b_M_ordered 19 = .ok (.dup, 1) := by decide +kernel
theorem d_M_ordered_20 : decode b_M_ordered 20 = .ok (.getfield 149, 3) := by decide +kernel
theorem d_M_ordered_23 : decode b_M_ordered 23 = .ok (.iconst 1, 1) := by decide +kernel
theorem d_M_ordered_24 : decode b_M_ordered 24 = .ok (.isub, 1) := by decide +kernel
theorem d_M_ordered_25 : decode b_M_ordered 25 = .ok (.putfield 149, 3) := by decide +kernel
theorem d_M_ordered_28 : decode b_M_ordered 28 = .ok (.aload_n 0, 1) := by decide +kernel
theorem d_M_ordered_29 : decode b_M_ordered 29 = .ok (.getfield 48, 3) := by decide +kernel
theorem d_M_ordered_32 : decode b_M_ordered 32 = .ok (.aload_n 0, 1) := by decide +kernel
theorem d_M_ordered_33 : decode b_M_ordered 33 = .ok (.getfield 149, 3) := by decide +kernel
theorem d_M_ordered_36 : decode b_M_ordered 36 = .ok (.iaload, 1) := by decide +kernel
theorem d_M_ordered_37 : decode b_M_ordered 37 = .ok (.istore_n 3, 1) := by decide +kernel
theorem d_M_ordered_38 : decode b_M_ordered 38 = .ok (.aload_n 0, 1) := by decide +kernel
theorem d_M_ordered_39 : decode b_M_ordered 39 = .ok (.getfield 51, 3) := by decide +kernel
theorem d_M_ordered_42 : decode b_M_ordered 42 = .ok (.aload_n 0, 1) := by decide +kernel
theorem d_M_ordered_43 : decode b_M_ordered 43 = .ok (.getfield 149, 3) := by decide +kernel
theorem d_M_ordered_46 : decode b_M_ordered 46 = .ok (.iaload, 1) := by decide +kernel
theorem d_M_ordered_47 : decode b_M_ordered 47 = .ok (.istore 4, 2) := by decide +kernel
theorem d_M_ordered_49 : decode b_M_ordered 49 = .ok (.iload_n 3, 1) := by decide +kernel
theorem d_M_ordered_50 : decode b_M_ordered 50 = .ok (.ifCond .ne 8, 3) := by decide +kernel
theorem d_M_ordered_53 : decode b_M_ordered 53 = .ok (.iload 4, 2) := by decide +kernel
theorem d_M_ordered_55 : decode b_M_ordered 55 = .ok (.goto 19, 3) := by decide +kernel
theorem d_M_ordered_58 : decode b_M_ordered 58 = .ok (.aload_n 0, 1) := by decide +kernel
theorem d_M_ordered_59 : decode b_M_ordered 59 = .ok (.iload_n 3, 1) := by decide +kernel
theorem d_M_ordered_60 : decode b_M_ordered 60 = .ok (.invokevirtual 156, 3) := by decide +kernel
theorem d_M_ordered_63 : decode b_M_ordered 63 = .ok (.aload_n 0, 1) := by decide +kernel
theorem d_M_ordered_64 : decode b_M_ordered 64 = .ok (.iload 4, 2) := by decide +kernel
theorem d_M_ordered_66 : decode b_M_ordered 66 = .ok (.invokevirtual 156, 3) := by decide +kernel
theorem d_M_ordered_69 : decode b_M_ordered 69 = .ok (.isub, 1) := by decide +kernel
theorem d_M_ordered_70 : decode b_M_ordered 70 = .ok (.i2l, 1) := by decide +kernel
theorem d_M_ordered_71 : decode b_M_ordered 71 = .ok (.invokestatic 146, 3) := by decide +kernel
theorem d_M_ordered_74 : decode b_M_ordered 74 = .ok (.istore 5, 2) := by decide +kernel
theorem d_M_ordered_76 : decode b_M_ordered 76 = .ok (.iload 5, 2) := by decide +kernel
theorem d_M_ordered_78 : decode b_M_ordered 78 = .ok (.ifCond .ne 16, 3) := by decide +kernel
theorem d_M_ordered_81 : decode b_M_ordered 81 = .ok (.iload_n 3, 1) := by decide +kernel
theorem d_M_ordered_82 : decode b_M_ordered 82 = .ok (.ifCond .le 12, 3) := by decide +kernel
theorem d_M_ordered_85 : decode b_M_ordered 85 = .ok (.aload_n 0, 1) := by decide +kernel
theorem d_M_ordered_86 : decode b_M_ordered 86 = .ok (.iload_n 3, 1) := by decide +kernel
theorem d_M_ordered_87 : decode b_M_ordered 87 = .ok (.iload 4, 2) := by decide +kernel
theorem d_M_ordered_89 : decode b_M_ordered 89 = .ok (.invokevirtual 159, 3) := by decide +kernel
theorem d_M_ordered_92 : decode b_M_ordered 92 = .ok (.istore 5, 2) := by decide +kernel
theorem d_M_ordered_94 : decode b_M_ordered 94 = .ok (.iload 5, 2) := by decide +kernel
theorem d_M_ordered_96 : decode b_M_ordered 96 = .ok (.ifCond .eq 6, 3) := by decide +kernel
theorem d_M_ordered_99 : decode b_M_ordered 99 = .ok (.iload 5, 2) := by decide +kernel
theorem d_M_ordered_101 : decode b_M_ordered 101 = .ok (.ireturn, 1) := by decide +kernel
theorem d_M_ordered_102 : decode b_M_ordered 102 = .ok (.goto (-91), 3) := by decide +kernel
theorem d_M_ordered_105 : decode b_M_ordered 105 = .ok (.iconst 0, 1) := by decide +kernel
theorem d_M_ordered_106 : decode b_M_ordered 106 = .ok (.ireturn, 1) := by decide +kernel
theorem d_M_likeOrder_0 : decode b_M_likeOrder 0 = .ok (.aload_n 0, 1) := by decide +kernel
theorem d_M_likeOrder_1 : decode b_M_likeOrder 1 = .ok (.iload_n 1, 1) := by decide +kernel
theorem d_M_likeOrder_2 : decode b_M_likeOrder 2 = .ok (.invokevirtual 156, 3) := by decide +kernel
theorem d_M_likeOrder_5 : decode b_M_likeOrder 5 = .ok (.istore_n 3, 1) := by decide +kernel
theorem d_M_likeOrder_6 : decode b_M_likeOrder 6 = .ok (.iload_n 3, 1) := by decide +kernel
theorem d_M_likeOrder_7 : decode b_M_likeOrder 7 = .ok (.iconst 3, 1) := by decide +kernel
theorem d_M_likeOrder_8 : decode b_M_likeOrder 8 = .ok (.if_icmp .ge 5, 3) := by decide +kernel
theorem d_M_likeOrder_11 : decode b_M_likeOrder 11 = .ok (.iconst 0, 1) := by decide +kernel
theorem d_M_likeOrder_12 : decode b_M_likeOrder 12 = .ok (.ireturn, 1) := by decide +kernel
theorem d_M_likeOrder_13 : decode b_M_likeOrder 13 = .ok (.iload_n 3, 1) := by decide +kernel
theorem d_M_likeOrder_14 : decode b_M_likeOrder 14 = .ok (.iconst 3, 1) := by decide +kernel
theorem d_M_likeOrder_15 : decode b_M_likeOrder 15 = .ok (.if_icmp .ne 18, 3) := by decide +kernel
theorem d_M_likeOrder_18 : decode b_M_likeOrder 18 = .ok (.aload_n 0, 1) := by decide +kernel
theorem d_M_likeOrder_19 : decode b_M_likeOrder 19 = .ok (.iload_n 1, 1) := by decide +kernel
theorem d_M_likeOrder_20 : decode b_M_likeOrder 20 = .ok (.invokevirtual 122, 3) := by decide +kernel
theorem d_M_likeOrder_23 : decode b_M_likeOrder 23 = .ok (.aload_n 0, 1) := by decide +kernel
theorem d_M_likeOrder_24 : decode b_M_likeOrder 24 = .ok (.iload_n 2, 1) := by decide +kernel
theorem d_M_likeOrder_25 : decode b_M_likeOrder 25 = .ok (.invokevirtual 122, 3) := by decide +kernel
theorem d_M_likeOrder_28 : decode b_M_likeOrder 28 = .ok (.lsub, 1) := by decide +kernel
theorem d_M_likeOrder_29 : decode b_M_likeOrder 29 = .ok (.invokestatic 146, 3) := by decide +kernel
theorem d_M_likeOrder_32 : decode b_M_likeOrder 32 = .ok (.ireturn, 1) := by decide +kernel
theorem d_M_likeOrder_33 : decode b_M_likeOrder 33 = .ok (.iload_n 3, 1) := by decide +kernel
theorem d_M_likeOrder_34 : decode b_M_likeOrder 34 = .ok (.iconst 4, 1) := by decide +kernel
theorem d_M_likeOrder_35 : decode b_M_likeOrder 35 = .ok (.if_icmp .ne 10, 3) := by decide +kernel
theorem d_M_likeOrder_38 : decode b_M_likeOrder 38 = .ok (.aload_n 0, 1) := by decide +kernel
theorem d_M_likeOrder_39 : decode b_M_likeOrder 39 = .ok (.iload_n 1, 1) := by decide +kernel
theorem d_M_likeOrder_40 : decode b_M_likeOrder 40 = .ok (.iload_n 2, 1) := by decide +kernel
theorem d_M_likeOrder_41 : decode b_M_likeOrder 41 = .ok (.invokevirtual 162, 3) := by decide +kernel
theorem d_M_likeOrder_44 : decode b_M_likeOrder 44 = .ok (.ireturn, 1) := by decide +kernel
theorem d_M_likeOrder_45 : decode b_M_likeOrder 45 = .ok (.aload_n 0, 1) := by decide +kernel
theorem d_M_likeOrder_46 : decode b_M_likeOrder 46 = .ok (.iload_n 1, 1) := by decide +kernel
theorem d_M_likeOrder_47 : decode b_M_likeOrder 47 = .ok (.invokevirtual 136, 3) := by decide +kernel
theorem d_M_likeOrder_50 : decode b_M_likeOrder 50 = .ok (.aload_n 0, 1) := by decide +kernel
theorem d_M_likeOrder_51 : decode b_M_likeOrder 51 = .ok (.iload_n 2, 1) := by decide +kernel
theorem d_M_likeOrder_52 : decode b_M_likeOrder 52 = .ok (.invokevirtual 136, 3) := by decide +kernel
theorem d_M_likeOrder_55 : decode b_M_likeOrder 55 = .ok (.if_icmp .ge 11, 3) := by decide +kernel
theorem d_M_likeOrder_58 : decode b_M_likeOrder 58 = .ok (.aload_n 0, 1) := by decide +kernel
theorem d_M_likeOrder_59 : decode b_M_likeOrder 59 = .ok (.iload_n 1, 1) := by decide +kernel
theorem d_M_likeOrder_60 : decode b_M_likeOrder 60 = .ok (.invokevirtual 136, 3) := by decide +kernel
theorem d_M_likeOrder_63 : decode b_M_likeOrder 63 = .ok (.goto 8, 3) := by decide +kernel
theorem d_M_likeOrder_66 : decode b_M_likeOrder 66 = .ok (.aload_n 0, 1) := by decide +kernel
theorem d_M_likeOrder_67 : decode b_M_likeOrder 67 = .ok (.iload_n 2, 1) := by decide +kernel
theorem d_M_likeOrder_68 : decode b_M_likeOrder 68 = .ok (.invokevirtual 136, 3) := by decide +kernel
theorem d_M_likeOrder_71 : decode b_M_likeOrder 71 = .ok (.istore 4, 2) := by decide +kernel
theorem d_M_likeOrder_73 : decode b_M_likeOrder 73 = .ok (.iload_n 3, 1) := by decide +kernel
theorem d_M_likeOrder_74 : decode b_M_likeOrder 74 = .ok (.iconst 5, 1) := by decide +kernel
theorem d_M_likeOrder_75 : decode b_M_likeOrder 75 = .ok (.if_icmp .ne 23, 3) := by decide +kernel
theorem d_M_likeOrder_78 : decode b_M_likeOrder 78 = .ok (.aload_n 0, 1) := by decide +kernel
theorem d_M_likeOrder_79 : decode b_M_likeOrder 79 = .ok (.iconst 0, 1) := by decide +kernel
theorem d_M_likeOrder_80 : decode b_M_likeOrder 80 = .ok (.aload_n 0, 1) := by decide +kernel
theorem d_M_likeOrder_81 : decode b_M_likeOrder 81 = .ok (.iload_n 1, 1) := by decide +kernel
theorem d_M_likeOrder_82 : decode b_M_likeOrder 82 = .ok (.invokevirtual 136, 3) := by decide +kernel
theorem d_M_likeOrder_85 : decode b_M_likeOrder 85 = .ok (.aload_n 0, 1) := by decide +kernel
theorem d_M_likeOrder_86 : decode b_M_likeOrder 86 = .ok (.iload_n 2, 1) := by decide +kernel
theorem d_M_likeOrder_87 : decode b_M_likeOrder 87 = .ok (.invokevirtual 136, 3) := by decide +kernel
theorem d_M_likeOrder_90 : decode b_M_likeOrder 90 = .ok (.isub, 1) := by decide +kernel
theorem d_M_likeOrder_91 : decode b_M_likeOrder 91 = .ok (.i2l, 1) := by decide +kernel
theorem d_M_likeOrder_92 : decode b_M_likeOrder 92 = .ok (.invokestatic 146, 3) := by decide +kernel
theorem d_M_likeOrder_95 : decode b_M_likeOrder 95 = .ok (.invokevirtual 152, 3) := by decide +kernel
theorem d_M_likeOrder_98 : decode b_M_likeOrder 98 = .ok (.iload_n 3, 1) := by decide +kernel
theorem d_M_likeOrder_99 : decode b_M_likeOrder 99 = .ok (.bipush 6, 2) := by decide +kernel
theorem d_M_likeOrder_101 : decode b_M_likeOrder 101 = .ok (.if_icmp .ne 88, 3) := by decide +kernel
theorem d_M_likeOrder_104 : decode b_M_likeOrder 104 = .ok (.iconst 0, 1) := by decide +kernel
theorem d_M_likeOrder_105 : decode b_M_likeOrder 105 = .ok (.istore 5, 2) := by decide +kernel
theorem d_M_likeOrder_107 : decode b_M_likeOrder 107 = .ok (.iload 5, 2) := by decide +kernel
theorem d_M_likeOrder_109 : decode b_M_likeOrder 109 = .ok (.iload 4, 2) := by decide +kernel
theorem d_M_likeOrder_111 : decode b_M_likeOrder 111 = .ok (.if_icmp .ge 49, 3) := by decide +kernel
theorem d_M_likeOrder_114 : decode b_M_likeOrder 114 = .ok (.aload_n 0, 1) := by decide +kernel
theorem d_M_likeOrder_115 : decode b_M_likeOrder 115 = .ok (.aload_n 0, 1) := by decide +kernel
theorem d_M_likeOrder_116 : decode b_M_likeOrder 116 = .ok (.iload_n 1, 1) := by decide +kernel
theorem d_M_likeOrder_117 : decode b_M_likeOrder 117 = .ok (.iload 5, 2) := by decide +kernel
theorem d_M_likeOrder_119 : decode b_M_likeOrder 119 = .ok (.invokevirtual 165, 3) := by decide +kernel
theorem d_M_likeOrder_122 : decode b_M_likeOrder 122 = .ok (.aload_n 0, 1) := by decide +kernel
theorem d_M_likeOrder_123 : decode b_M_likeOrder 123 = .ok (.iload_n 2, 1) := by decide +kernel
theorem d_M_likeOrder_124 : decode b_M_likeOrder 124 = .ok (.iload 5, 2) := by decide +kernel
theorem d_M_likeOrder_126 : decode b_M_likeOrder 126 = .ok (.invokevirtual 165, 3) := by decide +kernel
theorem d_M_likeOrder_129 : decode b_M_likeOrder 129 = .ok (.invokevirtual 162, 3) := by decide +kernel
theorem d_M_likeOrder_132 : decode b_M_likeOrder 132 = .ok (.ifCond .eq 22, 3) := by decide +kernel
theorem d_M_likeOrder_135 : decode b_M_likeOrder 135 = .ok (.aload_n 0, 1) := by decide +kernel
theorem d_M_likeOrder_136 : decode b_M_likeOrder 136 = .ok (.aload_n 0, 1) := by decide +kernel
theorem d_M_likeOrder_137 : decode b_M_likeOrder 137 = .ok (.iload_n 1, 1) := by decide +kernel
theorem d_M_likeOrder_138 : decode b_M_likeOrder 138 = .ok (.iload 5, 2) := by decide +kernel
theorem d_M_likeOrder_140 : decode b_M_likeOrder 140 = .ok (.invokevirtual 165, 3) := by decide +kernel
theorem d_M_likeOrder_143 : decode b_M_likeOrder 143 = .ok (.aload_n 0, 1) := by decide +kernel
theorem d_M_likeOrder_144 : decode b_M_likeOrder 144 = .ok (.iload_n 2, 1) := by decide +kernel
theorem d_M_likeOrder_145 : decode b_M_likeOrder 145 = .ok (.iload 5, 2) := by decide +kernel
theorem d_M_likeOrder_147 : decode b_M_likeOrder 147 = .ok (.invokevirtual 165, 3) := by decide +kernel
theorem d_M_likeOrder_150 : decode b_M_likeOrder 150 = .ok (.invokevirtual 162, 3) := by decide +kernel
theorem d_M_likeOrder_153 : decode b_M_likeOrder 153 = .ok (.ireturn, 1) := by decide +kernel
theorem d_M_likeOrder_154 : decode b_M_likeOrder 154 = .ok (.iinc 5 1, 3) := by decide +kernel
theorem d_M_likeOrder_157 : decode b_M_likeOrder 157 = .ok (.goto (-50), 3) := by decide +kernel
theorem d_M_likeOrder_160 : decode b_M_likeOrder 160 = .ok (.aload_n 0, 1) := by decide +kernel
theorem d_M_likeOrder_161 : decode b_M_likeOrder 161 = .ok (.iload_n 1, 1) := by decide +kernel
theorem d_M_likeOrder_162 : decode b_M_likeOrder 162 = .ok (.invokevirtual 136, 3) := by decide +kernel
theorem d_M_likeOrder_165 : decode b_M_likeOrder 165 = .ok (.aload_n 0, 1) := by decide +kernel
theorem d_M_likeOrder_166 : decode b_M_likeOrder 166 = .ok (.iload_n 2, 1) := by decide +kernel
theorem d_M_likeOrder_167 : decode b_M_likeOrder 167 = .ok (.invokevirtual 136, 3) := by decide +kernel
theorem d_M_likeOrder_170 : decode b_M_likeOrder 170 = .ok (.if_icmp .eq 19, 3) := by decide +kernel
theorem d_M_likeOrder_173 : decode b_M_likeOrder 173 = .ok (.aload_n 0, 1) := by decide +kernel
theorem d_M_likeOrder_174 : decode b_M_likeOrder 174 = .ok (.iload_n 1, 1) := by decide +kernel
theorem d_M_likeOrder_175 : decode b_M_likeOrder 175 = .ok (.invokevirtual 136, 3) := by decide +kernel
theorem d_M_likeOrder_178 : decode b_M_likeOrder 178 = .ok (.aload_n 0, 1) := by decide +kernel
theorem d_M_likeOrder_179 : decode b_M_likeOrder 179 = .ok (.iload_n 2, 1) := by decide +kernel
theorem d_M_likeOrder_180 : decode b_M_likeOrder 180 = .ok (.invokevirtual 136, 3) := by decide +kernel
theorem d_M_likeOrder_183 : decode b_M_likeOrder 183 = .ok (.isub, 1) := by decide +kernel
theorem d_M_likeOrder_184 : decode b_M_likeOrder 184 = .ok (.i2l, 1) := by decide +kernel
theorem d_M_likeOrder_185 : decode b_M_likeOrder 185 = .ok (.invokestatic 146, 3) := by decide +kernel
theorem d_M_likeOrder_188 : decode b_M_likeOrder 188 = .ok (.ireturn, 1) := by decide +kernel
theorem d_M_likeOrder_189 : decode b_M_likeOrder 189 = .ok (.iload 4, 2) := by decide +kernel
theorem d_M_likeOrder_191 : decode b_M_likeOrder 191 = .ok (.iconst 1, 1) := by decide +kernel
theorem d_M_likeOrder_192 : decode b_M_likeOrder 192 = .ok (.isub, 1) := by decide +kernel
theorem d_M_likeOrder_193 : decode b_M_likeOrder 193 = .ok (.istore 5, 2) := by decide +kernel
theorem d_M_likeOrder_195 : decode b_M_likeOrder 195 = .ok (.iload 5, 2) := by decide +kernel
theorem d_M_likeOrder_197 : decode b_M_likeOrder 197 = .ok (.ifCond .lt 27, 3) := by decide +kernel
theorem d_M_likeOrder_200 : decode b_M_likeOrder 200 = .ok (.aload_n 0, 1) := by decide +kernel
theorem d_M_likeOrder_201 : decode b_M_likeOrder 201 = .ok (.aload_n 0, 1) := by decide +kernel
theorem d_M_likeOrder_202 : decode b_M_likeOrder 202 = .ok (.iload_n 1, 1) := by decide +kernel
theorem d_M_likeOrder_203 : decode b_M_likeOrder 203 = .ok (.iload 5, 2) := by decide +kernel
theorem d_M_likeOrder_205 : decode b_M_likeOrder 205 = .ok (.invokevirtual 139, 3) := by decide +kernel
theorem d_M_likeOrder_208 : decode b_M_likeOrder 208 = .ok (.aload_n 0, 1) := by decide +kernel
theorem d_M_likeOrder_209 : decode b_M_likeOrder 209 = .ok (.iload_n 2, 1) := by decide +kernel
theorem d_M_likeOrder_210 : decode b_M_likeOrder 210 = .ok (.iload 5, 2) := by decide +kernel
theorem d_M_likeOrder_212 : decode b_M_likeOrder 212 = .ok (.invokevirtual 139, 3) := by decide +kernel
theorem d_M_likeOrder_215 : decode b_M_likeOrder 215 = .ok (.invokevirtual 152, 3) := by decide +kernel
theorem d_M_likeOrder_218 : decode b_M_likeOrder 218 = .ok (.iinc 5 (-1), 3) := by decide +kernel
theorem d_M_likeOrder_221 : decode b_M_likeOrder 221 = .ok (.goto (-26), 3) := by decide +kernel
theorem d_M_likeOrder_224 : decode b_M_likeOrder 224 = .ok (.iconst 0, 1) := by decide +kernel
theorem d_M_likeOrder_225 : decode b_M_likeOrder 225 = .ok (.ireturn, 1) := by decide +kernel
theorem d_M_alike_0 : decode b_M_alike 0 = .ok (.aload_n 0, 1) := by decide +kernel
theorem d_M_alike_1 : decode b_M_alike 1 = .ok (.iload_n 1, 1) := by decide +kernel
theorem d_M_alike_2 : decode b_M_alike 2 = .ok (.iload_n 2, 1) := by decide +kernel
theorem d_M_alike_3 : decode b_M_alike 3 = .ok (.invokevirtual 168, 3) := by decide +kernel
theorem d_M_alike_6 : decode b_M_alike 6 = .ok (.ifCond .ne 7, 3) := by decide +kernel
theorem d_M_alike_9 : decode b_M_alike 9 = .ok (.iconst 1, 1) := by decide +kernel
theorem d_M_alike_10 : decode b_M_alike 10 = .ok (.goto 4, 3) := by decide +kernel
theorem d_M_alike_13 : decode b_M_alike 13 = .ok (.iconst 0, 1) := by decide +kernel
theorem d_M_alike_14 : decode b_M_alike 14 = .ok (.ireturn, 1) := by decide +kernel
theorem d_M_member_0 : decode b_M_member 0 = .ok (.iconst 0, 1) := by decide +kernel
theorem d_M_member_1 : decode b_M_member 1 = .ok (.istore_n 3, 1) := by decide +kernel
theorem d_M_member_2 : decode b_M_member 2 = .ok (.iload_n 3, 1) := by decide +kernel
theorem d_M_member_3 : decode b_M_member 3 = .ok (.aload_n 0, 1) := by decide +kernel
theorem d_M_member_4 : decode b_M_member 4 = .ok (.iload_n 1, 1) := by decide +kernel
theorem d_M_member_5 : decode b_M_member 5 = .ok (.invokevirtual 136, 3) := by decide +kernel
theorem d_M_member_8 : decode b_M_member 8 = .ok (.if_icmp .ge 25, 3) := by decide +kernel
theorem d_M_member_11 : decode b_M_member 11 = .ok (.aload_n 0, 1) := by decide +kernel
theorem d_M_member_12 : decode b_M_member 12 = .ok (.aload_n 0, 1) := by decide +kernel
theorem d_M_member_13 : decode b_M_member 13 = .ok (.iload_n 1, 1) := by decide +kernel
theorem d_M_member_14 : decode b_M_member 14 = .ok (.iload_n 3, 1) := by decide +kernel
theorem d_M_member_15 : decode b_M_member 15 = .ok (.invokevirtual 165, 3) := by decide +kernel
theorem d_M_member_18 : decode b_M_member 18 = .ok (.iload_n 2, 1) := by decide +kernel
theorem d_M_member_19 : decode b_M_member 19 = .ok (.invokevirtual 162, 3) := by decide +kernel
theorem d_M_member_22 : decode b_M_member 22 = .ok (.ifCond .ne 5, 3) := by decide +kernel
theorem d_M_member_25 : decode b_M_member 25 = .ok (.iload_n 3, 1) := by decide +kernel
theorem d_M_member_26 : decode b_M_member 26 = .ok (.ireturn, 1) := by decide +kernel
theorem d_M_member_27 : decode b_M_member 27 = .ok (.iinc 3 1, 3) := by decide +kernel
theorem d_M_member_30 : decode b_M_member 30 = .ok (.goto (-28), 3) := by decide +kernel
theorem d_M_member_33 : decode b_M_member 33 = .ok (.iconst (-1), 1) := by decide +kernel
theorem d_M_member_34 : decode b_M_member 34 = .ok (.ireturn, 1) := by decide +kernel
theorem d_M_letter_0 : decode b_M_letter 0 = .ok (.aload_n 0, 1) := by decide +kernel
theorem d_M_letter_1 : decode b_M_letter 1 = .ok (.iconst 0, 1) := by decide +kernel
theorem d_M_letter_2 : decode b_M_letter 2 = .ok (.putfield 99, 3) := by decide +kernel
theorem d_M_letter_5 : decode b_M_letter 5 = .ok (.iload_n 1, 1) := by decide +kernel
theorem d_M_letter_6 : decode b_M_letter 6 = .ok (.iconst 0, 1) := by decide +kernel
theorem d_M_letter_7 : decode b_M_letter 7 = .ok (.bipush 7, 2) := by decide +kernel
theorem d_M_letter_9 : decode b_M_letter 9 = .ok (.invokestatic 171, 3) := by decide +kernel
theorem d_M_letter_12 : decode b_M_letter 12 = .ok (.ifCond .eq 14, 3) := by decide +kernel
theorem d_M_letter_15 : decode b_M_letter 15 = .ok (.iload_n 2, 1) := by decide +kernel
theorem d_M_letter_16 : decode b_M_letter 16 = .ok (.bipush 32, 2) := by decide +kernel
theorem d_M_letter_18 : decode b_M_letter 18 = .ok (.bipush 126, 2) := by decide +kernel
theorem d_M_letter_20 : decode b_M_letter 20 = .ok (.invokestatic 171, 3) := by decide +kernel
theorem d_M_letter_23 : decode b_M_letter 23 = .ok (.ifCond .ne 9, 3) := by decide +kernel
theorem d_M_letter_26 : decode b_M_letter 26 = .ok (.aload_n 0, 1) := by decide +kernel
theorem d_M_letter_27 : decode b_M_letter 27 = .ok (.iconst 1, 1) := by decide +kernel
theorem d_M_letter_28 : decode b_M_letter 28 = .ok (.invokevirtual 175, 3) := by decide +kernel
theorem d_M_letter_31 : decode b_M_letter 31 = .ok (.ireturn, 1) := by decide +kernel
theorem d_M_letter_32 : decode b_M_letter 32 = .ok (.aload_n 0, 1) := by decide +kernel
theorem d_M_letter_33 : decode b_M_letter 33 = .ok (.getfield 13, 3) := by decide +kernel
theorem d_M_letter_36 : decode b_M_letter 36 = .ok (.iload_n 1, 1) := by decide +kernel
theorem d_M_letter_37 : decode b_M_letter 37 = .ok (.iaload, 1) := by decide +kernel
theorem d_M_letter_38 : decode b_M_letter 38 = .ok (.bipush 12, 2) := by decide +kernel
theorem d_M_letter_40 : decode b_M_letter 40 = .ok (.if_icmp .ne 9, 3) := by decide +kernel
theorem d_M_letter_43 : decode b_M_letter 43 = .ok (.aload_n 0, 1) := by decide +kernel
theorem d_M_letter_44 : decode b_M_letter 44 = .ok (.iconst 4, 1) := by decide +kernel
theorem d_M_letter_45 : decode b_M_letter 45 = .ok (.invokevirtual 175, 3) := by decide +kernel
theorem d_M_letter_48 : decode b_M_letter 48 = .ok (.ireturn, 1) := by decide +kernel
theorem d_M_letter_49 : decode b_M_letter 49 = .ok (.aload_n 0, 1) := by decide +kernel
theorem d_M_letter_50 : decode b_M_letter 50 = .ok (.getfield 7, 3) := by decide +kernel
theorem d_M_letter_53 : decode b_M_letter 53 = .ok (.bipush 12, 2) := by decide +kernel
theorem d_M_letter_55 : decode b_M_letter 55 = .ok (.iload_n 1, 1) := by decide +kernel
theorem d_M_letter_56 : decode b_M_letter 56 = .ok (.imul, 1) := by decide +kernel
theorem d_M_letter_57 : decode b_M_letter 57 = .ok (.aload_n 0, 1) := by decide +kernel
theorem d_M_letter_58 : decode b_M_letter 58 = .ok (.getfield 13, 3) := by decide +kernel
theorem d_M_letter_61 : decode b_M_letter 61 = .ok (.iload_n 1, 1) := by decide +kernel
theorem d_M_letter_62 : decode b_M_letter 62 = .ok (.iaload, 1) := by decide +kernel
theorem d_M_letter_63 : decode b_M_letter 63 = .ok (.iadd, 1) := by decide +kernel
theorem d_M_letter_64 : decode b_M_letter 64 = .ok (.iload_n 2, 1) := by decide +kernel
theorem d_M_letter_65 : decode b_M_letter 65 = .ok (.iastore, 1) := by decide +kernel
theorem d_M_letter_66 : decode b_M_letter 66 = .ok (.aload_n 0, 1) := by decide +kernel
theorem d_M_letter_67 : decode b_M_letter 67 = .ok (.getfield 13, 3) := by decide +kernel
theorem d_M_letter_70 : decode b_M_letter 70 = .ok (.iload_n 1, 1) := by decide +kernel
theorem d_M_letter_71 : decode b_M_letter 71 = .ok (.dup2, 1) := by decide +kernel
theorem d_M_letter_72 : decode b_M_letter 72 = .ok (.iaload, 1) := by decide +kernel
theorem d_M_letter_73 : decode b_M_letter 73 = .ok (.iconst 1, 1) := by decide +kernel
theorem d_M_letter_74 : decode b_M_letter 74 = .ok (.iadd, 1) := by decide +kernel
theorem d_M_letter_75 : decode b_M_letter 75 = .ok (.iastore, 1) := by decide +kernel
theorem d_M_letter_76 : decode b_M_letter 76 = .ok (.aload_n 0, 1) := by decide +kernel
theorem d_M_letter_77 : decode b_M_letter 77 = .ok (.getfield 13, 3) := by decide +kernel
theorem d_M_letter_80 : decode b_M_letter 80 = .ok (.iload_n 1, 1) := by decide +kernel
theorem d_M_letter_81 : decode b_M_letter 81 = .ok (.iaload, 1) := by decide +kernel
theorem d_M_letter_82 : decode b_M_letter 82 = .ok (.ireturn, 1) := by decide +kernel
