/-! decode rows of FilterBench$Op, methods 0 to 99 (by program: wip/gen/decs.py) -/
theorem d_O_takes_0 : decode b_O_takes 0 = .ok (.iload_n 0, 1) := by decide +kernel
theorem d_O_takes_1 : decode b_O_takes 1 = .ok (.tableswitch 178 1 31 #[139, 178, 178, 178, 178, 178, 139, 165, 178, 178, 139, 152, 158, 178, 178, 178, 178, 178, 178, 146, 146, 146, 178, 178, 178, 178, 178, 178, 178, 178, 171], 139) := by decide +kernel
theorem d_O_takes_140 : decode b_O_takes 140 = .ok (.iload_n 1, 1) := by decide +kernel
theorem d_O_takes_141 : decode b_O_takes 141 = .ok (.bipush 8, 2) := by decide +kernel
theorem d_O_takes_143 : decode b_O_takes 143 = .ok (.invokestatic 9, 3) := by decide +kernel
theorem d_O_takes_146 : decode b_O_takes 146 = .ok (.ireturn, 1) := by decide +kernel
theorem d_O_takes_147 : decode b_O_takes 147 = .ok (.iload_n 1, 1) := by decide +kernel
theorem d_O_takes_148 : decode b_O_takes 148 = .ok (.iconst 4, 1) := by decide +kernel
theorem d_O_takes_149 : decode b_O_takes 149 = .ok (.invokestatic 9, 3) := by decide +kernel
theorem d_O_takes_152 : decode b_O_takes 152 = .ok (.ireturn, 1) := by decide +kernel
theorem d_O_takes_153 : decode b_O_takes 153 = .ok (.iload_n 1, 1) := by decide +kernel
theorem d_O_takes_154 : decode b_O_takes 154 = .ok (.iconst 4, 1) := by decide +kernel
theorem d_O_takes_155 : decode b_O_takes 155 = .ok (.invokestatic 9, 3) := by decide +kernel
theorem d_O_takes_158 : decode b_O_takes 158 = .ok (.ireturn, 1) := by decide +kernel
theorem d_O_takes_159 : decode b_O_takes 159 = .ok (.iload_n 1, 1) := by decide +kernel
theorem d_O_takes_160 : decode b_O_takes 160 = .ok (.bipush 6, 2) := by decide +kernel
theorem d_O_takes_162 : decode b_O_takes 162 = .ok (.invokestatic 9, 3) := by decide +kernel
theorem d_O_takes_165 : decode b_O_takes 165 = .ok (.ireturn, 1) := by decide +kernel
theorem d_O_takes_166 : decode b_O_takes 166 = .ok (.iload_n 1, 1) := by decide +kernel
theorem d_O_takes_167 : decode b_O_takes 167 = .ok (.iconst 3, 1) := by decide +kernel
theorem d_O_takes_168 : decode b_O_takes 168 = .ok (.invokestatic 9, 3) := by decide +kernel
theorem d_O_takes_171 : decode b_O_takes 171 = .ok (.ireturn, 1) := by decide +kernel
theorem d_O_takes_172 : decode b_O_takes 172 = .ok (.iload_n 1, 1) := by decide +kernel
theorem d_O_takes_173 : decode b_O_takes 173 = .ok (.bipush 10, 2) := by decide +kernel
theorem d_O_takes_175 : decode b_O_takes 175 = .ok (.invokestatic 9, 3) := by decide +kernel
theorem d_O_takes_178 : decode b_O_takes 178 = .ok (.ireturn, 1) := by decide +kernel
theorem d_O_takes_179 : decode b_O_takes 179 = .ok (.iconst 1, 1) := by decide +kernel
theorem d_O_takes_180 : decode b_O_takes 180 = .ok (.ireturn, 1) := by decide +kernel
theorem d_O_partsOf_0 : decode b_O_partsOf 0 = .ok (.iload_n 0, 1) := by decide +kernel
theorem d_O_partsOf_1 : decode b_O_partsOf 1 = .ok (.tableswitch 149 2 33 #[147, 149, 145, 145, 149, 149, 149, 147, 149, 147, 145, 145, 145, 145, 149, 143, 145, 145, 145, 149, 143, 149, 149, 149, 149, 149, 149, 147, 149, 147, 147, 147], 143) := by decide +kernel
theorem d_O_partsOf_144 : decode b_O_partsOf 144 = .ok (.iconst 3, 1) := by decide +kernel
theorem d_O_partsOf_145 : decode b_O_partsOf 145 = .ok (.ireturn, 1) := by decide +kernel
theorem d_O_partsOf_146 : decode b_O_partsOf 146 = .ok (.iconst 2, 1) := by decide +kernel
theorem d_O_partsOf_147 : decode b_O_partsOf 147 = .ok (.ireturn, 1) := by decide +kernel
theorem d_O_partsOf_148 : decode b_O_partsOf 148 = .ok (.iconst 1, 1) := by decide +kernel
theorem d_O_partsOf_149 : decode b_O_partsOf 149 = .ok (.ireturn, 1) := by decide +kernel
theorem d_O_partsOf_150 : decode b_O_partsOf 150 = .ok (.iconst 0, 1) := by decide +kernel
theorem d_O_partsOf_151 : decode b_O_partsOf 151 = .ok (.ireturn, 1) := by decide +kernel
