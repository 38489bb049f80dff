theorem dX6_findFault_25 : decode cX6_findFault 25 = .ok (.getfield 19, 3) := by decide +kernel
theorem dX6_findFault_28 : decode cX6_findFault 28 = .ok (.if_icmp .ne 10, 3) := by decide +kernel
theorem dX6_findFault_31 : decode cX6_findFault 31 = .ok (.aload_n 0, 1) := by decide +kernel
theorem dX6_findFault_32 : decode cX6_findFault 32 = .ok (.iload_n 1, 1) := by decide +kernel
theorem dX6_findFault_33 : decode cX6_findFault 33 = .ok (.putfield 36, 3) := by decide +kernel
theorem dX6_findFault_36 : decode cX6_findFault 36 = .ok (.iconst (-1), 1) := by decide +kernel
theorem dX6_findFault_37 : decode cX6_findFault 37 = .ok (.ireturn, 1) := by decide +kernel
theorem dX6_findFault_38 : decode cX6_findFault 38 = .ok (.aload_n 0, 1) := by decide +kernel
theorem dX6_findFault_39 : decode cX6_findFault 39 = .ok (.invokevirtual 39, 3) := by decide +kernel
theorem dX6_findFault_42 : decode cX6_findFault 42 = .ok (.bipush 59, 2) := by decide +kernel
theorem dX6_findFault_44 : decode cX6_findFault 44 = .ok (.if_icmp .eq 8, 3) := by decide +kernel
theorem dX6_findFault_47 : decode cX6_findFault 47 = .ok (.aload_n 0, 1) := by decide +kernel
theorem dX6_findFault_48 : decode cX6_findFault 48 = .ok (.getfield 22, 3) := by decide +kernel
theorem dX6_findFault_51 : decode cX6_findFault 51 = .ok (.ireturn, 1) := by decide +kernel
theorem dX6_findFault_52 : decode cX6_findFault 52 = .ok (.aload_n 0, 1) := by decide +kernel
theorem dX6_findFault_53 : decode cX6_findFault 53 = .ok (.invokevirtual 43, 3) := by decide +kernel
theorem dX6_findFault_56 : decode cX6_findFault 56 = .ok (.iinc 1 1, 3) := by decide +kernel
theorem dX6_findFault_59 : decode cX6_findFault 59 = .ok (.goto (-57), 3) := by decide +kernel
theorem dX6_findFault_62 : decode cX6_findFault 62 = .ok (.aload_n 0, 1) := by decide +kernel
theorem dX6_findFault_63 : decode cX6_findFault 63 = .ok (.getfield 22, 3) := by decide +kernel
theorem dX6_findFault_66 : decode cX6_findFault 66 = .ok (.ireturn, 1) := by decide +kernel
theorem dX6_readCommand_0 : decode cX6_readCommand 0 = .ok (.aload_n 0, 1) := by decide +kernel
theorem dX6_readCommand_1 : decode cX6_readCommand 1 = .ok (.aload_n 0, 1) := by decide +kernel
theorem dX6_readCommand_2 : decode cX6_readCommand 2 = .ok (.invokevirtual 39, 3) := by decide +kernel
theorem dX6_readCommand_5 : decode cX6_readCommand 5 = .ok (.putfield 46, 3) := by decide +kernel
theorem dX6_readCommand_8 : decode cX6_readCommand 8 = .ok (.aload_n 0, 1) := by decide +kernel
theorem dX6_readCommand_9 : decode cX6_readCommand 9 = .ok (.getfield 46, 3) := by decide +kernel
theorem dX6_readCommand_12 : decode cX6_readCommand 12 = .ok (.tableswitch 206 97 120 #[118, 145, 206, 112, 206, 118, 206, 172, 206, 206, 206, 145, 206, 145, 145, 206, 206, 206, 145, 145, 206, 206, 118, 145], 112) := by decide +kernel
theorem dX6_readCommand_124 : decode cX6_readCommand 124 = .ok (.aload_n 0, 1) := by decide +kernel
theorem dX6_readCommand_125 : decode cX6_readCommand 125 = .ok (.invokevirtual 43, 3) := by decide +kernel
theorem dX6_readCommand_128 : decode cX6_readCommand 128 = .ok (.iconst 1, 1) := by decide +kernel
theorem dX6_readCommand_129 : decode cX6_readCommand 129 = .ok (.ireturn, 1) := by decide +kernel
theorem dX6_readCommand_130 : decode cX6_readCommand 130 = .ok (.aload_n 0, 1) := by decide +kernel
theorem dX6_readCommand_131 : decode cX6_readCommand 131 = .ok (.invokevirtual 43, 3) := by decide +kernel
theorem dX6_readCommand_134 : decode cX6_readCommand 134 = .ok (.aload_n 0, 1) := by decide +kernel
theorem dX6_readCommand_135 : decode cX6_readCommand 135 = .ok (.aload_n 0, 1) := by decide +kernel
theorem dX6_readCommand_136 : decode cX6_readCommand 136 = .ok (.iconst 1, 1) := by decide +kernel
theorem dX6_readCommand_137 : decode cX6_readCommand 137 = .ok (.invokevirtual 50, 3) := by decide +kernel
theorem dX6_readCommand_140 : decode cX6_readCommand 140 = .ok (.putfield 54, 3) := by decide +kernel
theorem dX6_readCommand_143 : decode cX6_readCommand 143 = .ok (.aload_n 0, 1) := by decide +kernel
theorem dX6_readCommand_144 : decode cX6_readCommand 144 = .ok (.getfield 54, 3) := by decide +kernel
theorem dX6_readCommand_147 : decode cX6_readCommand 147 = .ok (.iconst (-1), 1) := by decide +kernel
theorem dX6_readCommand_148 : decode cX6_readCommand 148 = .ok (.if_icmp .eq 7, 3) := by decide +kernel
theorem dX6_readCommand_151 : decode cX6_readCommand 151 = .ok (.iconst 1, 1) := by decide +kernel
theorem dX6_readCommand_152 : decode cX6_readCommand 152 = .ok (.goto 4, 3) := by decide +kernel
theorem dX6_readCommand_155 : decode cX6_readCommand 155 = .ok (.iconst 0, 1) := by decide +kernel
theorem dX6_readCommand_156 : decode cX6_readCommand 156 = .ok (.ireturn, 1) := by decide +kernel
theorem dX6_readCommand_157 : decode cX6_readCommand 157 = .ok (.aload_n 0, 1) := by decide +kernel
theorem dX6_readCommand_158 : decode cX6_readCommand 158 = .ok (.invokevirtual 43, 3) := by decide +kernel
theorem dX6_readCommand_161 : decode cX6_readCommand 161 = .ok (.aload_n 0, 1) := by decide +kernel
theorem dX6_readCommand_162 : decode cX6_readCommand 162 = .ok (.aload_n 0, 1) := by decide +kernel
theorem dX6_readCommand_163 : decode cX6_readCommand 163 = .ok (.iconst 2, 1) := by decide +kernel
theorem dX6_readCommand_164 : decode cX6_readCommand 164 = .ok (.invokevirtual 50, 3) := by decide +kernel
theorem dX6_readCommand_167 : decode cX6_readCommand 167 = .ok (.putfield 54, 3) := by decide +kernel
theorem dX6_readCommand_170 : decode cX6_readCommand 170 = .ok (.aload_n 0, 1) := by decide +kernel
theorem dX6_readCommand_171 : decode cX6_readCommand 171 = .ok (.getfield 54, 3) := by decide +kernel
theorem dX6_readCommand_174 : decode cX6_readCommand 174 = .ok (.iconst (-1), 1) := by decide +kernel
theorem dX6_readCommand_175 : decode cX6_readCommand 175 = .ok (.if_icmp .eq 7, 3) := by decide +kernel
theorem dX6_readCommand_178 : decode cX6_readCommand 178 = .ok (.iconst 1, 1) := by decide +kernel
theorem dX6_readCommand_179 : decode cX6_readCommand 179 = .ok (.goto 4, 3) := by decide +kernel
theorem dX6_readCommand_182 : decode cX6_readCommand 182 = .ok (.iconst 0, 1) := by decide +kernel
theorem dX6_readCommand_183 : decode cX6_readCommand 183 = .ok (.ireturn, 1) := by decide +kernel
theorem dX6_readCommand_184 : decode cX6_readCommand 184 = .ok (.aload_n 0, 1) := by decide +kernel
theorem dX6_readCommand_185 : decode cX6_readCommand 185 = .ok (.invokevirtual 43, 3) := by decide +kernel
theorem dX6_readCommand_188 : decode cX6_readCommand 188 = .ok (.aload_n 0, 1) := by decide +kernel
theorem dX6_readCommand_189 : decode cX6_readCommand 189 = .ok (.aload_n 0, 1) := by decide +kernel
theorem dX6_readCommand_190 : decode cX6_readCommand 190 = .ok (.iconst 2, 1) := by decide +kernel
theorem dX6_readCommand_191 : decode cX6_readCommand 191 = .ok (.invokevirtual 50, 3) := by decide +kernel
theorem dX6_readCommand_194 : decode cX6_readCommand 194 = .ok (.putfield 54, 3) := by decide +kernel
theorem dX6_readCommand_197 : decode cX6_readCommand 197 = .ok (.aload_n 0, 1) := by decide +kernel
theorem dX6_readCommand_198 : decode cX6_readCommand 198 = .ok (.getfield 54, 3) := by decide +kernel
theorem dX6_readCommand_201 : decode cX6_readCommand 201 = .ok (.iconst (-1), 1) := by decide +kernel
theorem dX6_readCommand_202 : decode cX6_readCommand 202 = .ok (.if_icmp .eq 14, 3) := by decide +kernel
theorem dX6_readCommand_205 : decode cX6_readCommand 205 = .ok (.aload_n 0, 1) := by decide +kernel
theorem dX6_readCommand_206 : decode cX6_readCommand 206 = .ok (.invokevirtual 57, 3) := by decide +kernel
theorem dX6_readCommand_209 : decode cX6_readCommand 209 = .ok (.ifCond .eq 7, 3) := by decide +kernel
theorem dX6_readCommand_212 : decode cX6_readCommand 212 = .ok (.iconst 1, 1) := by decide +kernel
theorem dX6_readCommand_213 : decode cX6_readCommand 213 = .ok (.goto 4, 3) := by decide +kernel
theorem dX6_readCommand_216 : decode cX6_readCommand 216 = .ok (.iconst 0, 1) := by decide +kernel
theorem dX6_readCommand_217 : decode cX6_readCommand 217 = .ok (.ireturn, 1) := by decide +kernel
theorem dX6_readCommand_218 : decode cX6_readCommand 218 = .ok (.iconst 0, 1) := by decide +kernel
theorem dX6_readCommand_219 : decode cX6_readCommand 219 = .ok (.ireturn, 1) := by decide +kernel
theorem dX6_readHook_0 : decode cX6_readHook 0 = .ok (.aload_n 0, 1) := by decide +kernel
theorem dX6_readHook_1 : decode cX6_readHook 1 = .ok (.invokevirtual 39, 3) := by decide +kernel
theorem dX6_readHook_4 : decode cX6_readHook 4 = .ok (.bipush 47, 2) := by decide +kernel
theorem dX6_readHook_6 : decode cX6_readHook 6 = .ok (.if_icmp .eq 5, 3) := by decide +kernel
theorem dX6_readHook_9 : decode cX6_readHook 9 = .ok (.iconst 0, 1) := by decide +kernel
theorem dX6_readHook_10 : decode cX6_readHook 10 = .ok (.ireturn, 1) := by decide +kernel
theorem dX6_readHook_11 : decode cX6_readHook 11 = .ok (.aload_n 0, 1) := by decide +kernel
theorem dX6_readHook_12 : decode cX6_readHook 12 = .ok (.invokevirtual 43, 3) := by decide +kernel
theorem dX6_readHook_15 : decode cX6_readHook 15 = .ok (.aload_n 0, 1) := by decide +kernel
theorem dX6_readHook_16 : decode cX6_readHook 16 = .ok (.aload_n 0, 1) := by decide +kernel
theorem dX6_readHook_17 : decode cX6_readHook 17 = .ok (.iconst 1, 1) := by decide +kernel
theorem dX6_readHook_18 : decode cX6_readHook 18 = .ok (.invokevirtual 50, 3) := by decide +kernel
theorem dX6_readHook_21 : decode cX6_readHook 21 = .ok (.putfield 60, 3) := by decide +kernel
theorem dX6_readHook_24 : decode cX6_readHook 24 = .ok (.aload_n 0, 1) := by decide +kernel
theorem dX6_readHook_25 : decode cX6_readHook 25 = .ok (.getfield 60, 3) := by decide +kernel
theorem dX6_readHook_28 : decode cX6_readHook 28 = .ok (.iconst (-1), 1) := by decide +kernel
theorem dX6_readHook_29 : decode cX6_readHook 29 = .ok (.if_icmp .ne 5, 3) := by decide +kernel
theorem dX6_readHook_32 : decode cX6_readHook 32 = .ok (.iconst 0, 1) := by decide +kernel
theorem dX6_readHook_33 : decode cX6_readHook 33 = .ok (.ireturn, 1) := by decide +kernel
theorem dX6_readHook_34 : decode cX6_readHook 34 = .ok (.aload_n 0, 1) := by decide +kernel
theorem dX6_readHook_35 : decode cX6_readHook 35 = .ok (.aload_n 0, 1) := by decide +kernel
theorem dX6_readHook_36 : decode cX6_readHook 36 = .ok (.iconst 1, 1) := by decide +kernel
theorem dX6_readHook_37 : decode cX6_readHook 37 = .ok (.invokevirtual 50, 3) := by decide +kernel
theorem dX6_readHook_40 : decode cX6_readHook 40 = .ok (.putfield 63, 3) := by decide +kernel
theorem dX6_readHook_43 : decode cX6_readHook 43 = .ok (.aload_n 0, 1) := by decide +kernel
theorem dX6_readHook_44 : decode cX6_readHook 44 = .ok (.getfield 63, 3) := by decide +kernel
theorem dX6_readHook_47 : decode cX6_readHook 47 = .ok (.iconst (-1), 1) := by decide +kernel
theorem dX6_readHook_48 : decode cX6_readHook 48 = .ok (.if_icmp .eq 7, 3) := by decide +kernel
theorem dX6_readHook_51 : decode cX6_readHook 51 = .ok (.iconst 1, 1) := by decide +kernel
theorem dX6_readHook_52 : decode cX6_readHook 52 = .ok (.goto 4, 3) := by decide +kernel
theorem dX6_readHook_55 : decode cX6_readHook 55 = .ok (.iconst 0, 1) := by decide +kernel
theorem dX6_readHook_56 : decode cX6_readHook 56 = .ok (.ireturn, 1) := by decide +kernel
theorem dX6_readNumber_0 : decode cX6_readNumber 0 = .ok (.aload_n 0, 1) := by decide +kernel
theorem dX6_readNumber_1 : decode cX6_readNumber 1 = .ok (.invokevirtual 39, 3) := by decide +kernel
theorem dX6_readNumber_4 : decode cX6_readNumber 4 = .ok (.invokestatic 66, 3) := by decide +kernel
theorem dX6_readNumber_7 : decode cX6_readNumber 7 = .ok (.ifCond .ne 5, 3) := by decide +kernel
theorem dX6_readNumber_10 : decode cX6_readNumber 10 = .ok (.iconst (-1), 1) := by decide +kernel
theorem dX6_readNumber_11 : decode cX6_readNumber 11 = .ok (.ireturn, 1) := by decide +kernel
theorem dX6_readNumber_12 : decode cX6_readNumber 12 = .ok (.iconst 0, 1) := by decide +kernel
theorem dX6_readNumber_13 : decode cX6_readNumber 13 = .ok (.istore_n 2, 1) := by decide +kernel
theorem dX6_readNumber_14 : decode cX6_readNumber 14 = .ok (.iconst 0, 1) := by decide +kernel
theorem dX6_readNumber_15 : decode cX6_readNumber 15 = .ok (.istore_n 3, 1) := by decide +kernel
theorem dX6_readNumber_16 : decode cX6_readNumber 16 = .ok (.iload_n 3, 1) := by decide +kernel
theorem dX6_readNumber_17 : decode cX6_readNumber 17 = .ok (.iload_n 1, 1) := by decide +kernel
theorem dX6_readNumber_18 : decode cX6_readNumber 18 = .ok (.if_icmp .ge 36, 3) := by decide +kernel
theorem dX6_readNumber_21 : decode cX6_readNumber 21 = .ok (.aload_n 0, 1) := by decide +kernel
theorem dX6_readNumber_22 : decode cX6_readNumber 22 = .ok (.invokevirtual 39, 3) := by decide +kernel
theorem dX6_readNumber_25 : decode cX6_readNumber 25 = .ok (.invokestatic 66, 3) := by decide +kernel
theorem dX6_readNumber_28 : decode cX6_readNumber 28 = .ok (.ifCond .eq 26, 3) := by decide +kernel
theorem dX6_readNumber_31 : decode cX6_readNumber 31 = .ok (.iload_n 2, 1) := by decide +kernel
theorem dX6_readNumber_32 : decode cX6_readNumber 32 = .ok (.bipush 10, 2) := by decide +kernel
theorem dX6_readNumber_34 : decode cX6_readNumber 34 = .ok (.imul, 1) := by decide +kernel
theorem dX6_readNumber_35 : decode cX6_readNumber 35 = .ok (.aload_n 0, 1) := by decide +kernel
theorem dX6_readNumber_36 : decode cX6_readNumber 36 = .ok (.invokevirtual 39, 3) := by decide +kernel
theorem dX6_readNumber_39 : decode cX6_readNumber 39 = .ok (.bipush 48, 2) := by decide +kernel
theorem dX6_readNumber_41 : decode cX6_readNumber 41 = .ok (.isub, 1) := by decide +kernel
theorem dX6_readNumber_42 : decode cX6_readNumber 42 = .ok (.iadd, 1) := by decide +kernel
theorem dX6_readNumber_43 : decode cX6_readNumber 43 = .ok (.istore_n 2, 1) := by decide +kernel
theorem dX6_readNumber_44 : decode cX6_readNumber 44 = .ok (.aload_n 0, 1) := by decide +kernel
theorem dX6_readNumber_45 : decode cX6_readNumber 45 = .ok (.invokevirtual 43, 3) := by decide +kernel
theorem dX6_readNumber_48 : decode cX6_readNumber 48 = .ok (.iinc 3 1, 3) := by decide +kernel
theorem dX6_readNumber_51 : decode cX6_readNumber 51 = .ok (.goto (-35), 3) := by decide +kernel
theorem dX6_readNumber_54 : decode cX6_readNumber 54 = .ok (.iload_n 2, 1) := by decide +kernel
theorem dX6_readNumber_55 : decode cX6_readNumber 55 = .ok (.ireturn, 1) := by decide +kernel
theorem dX6_signNow_0 : decode cX6_signNow 0 = .ok (.aload_n 0, 1) := by decide +kernel
theorem dX6_signNow_1 : decode cX6_signNow 1 = .ok (.getfield 22, 3) := by decide +kernel
theorem dX6_signNow_4 : decode cX6_signNow 4 = .ok (.ifCond .lt 38, 3) := by decide +kernel
theorem dX6_signNow_7 : decode cX6_signNow 7 = .ok (.aload_n 0, 1) := by decide +kernel
theorem dX6_signNow_8 : decode cX6_signNow 8 = .ok (.getfield 22, 3) := by decide +kernel
theorem dX6_signNow_11 : decode cX6_signNow 11 = .ok (.aload_n 0, 1) := by decide +kernel
theorem dX6_signNow_12 : decode cX6_signNow 12 = .ok (.getfield 19, 3) := by decide +kernel
theorem dX6_signNow_15 : decode cX6_signNow 15 = .ok (.if_icmp .ge 27, 3) := by decide +kernel
theorem dX6_signNow_18 : decode cX6_signNow 18 = .ok (.aload_n 0, 1) := by decide +kernel
theorem dX6_signNow_19 : decode cX6_signNow 19 = .ok (.getfield 22, 3) := by decide +kernel
theorem dX6_signNow_22 : decode cX6_signNow 22 = .ok (.aload_n 0, 1) := by decide +kernel
theorem dX6_signNow_23 : decode cX6_signNow 23 = .ok (.getfield 9, 3) := by decide +kernel
theorem dX6_signNow_26 : decode cX6_signNow 26 = .ok (.arraylength, 1) := by decide +kernel
theorem dX6_signNow_27 : decode cX6_signNow 27 = .ok (.if_icmp .ge 15, 3) := by decide +kernel
theorem dX6_signNow_30 : decode cX6_signNow 30 = .ok (.aload_n 0, 1) := by decide +kernel
theorem dX6_signNow_31 : decode cX6_signNow 31 = .ok (.getfield 9, 3) := by decide +kernel
theorem dX6_signNow_34 : decode cX6_signNow 34 = .ok (.aload_n 0, 1) := by decide +kernel
theorem dX6_signNow_35 : decode cX6_signNow 35 = .ok (.getfield 22, 3) := by decide +kernel
theorem dX6_signNow_38 : decode cX6_signNow 38 = .ok (.caload, 1) := by decide +kernel
theorem dX6_signNow_39 : decode cX6_signNow 39 = .ok (.goto 4, 3) := by decide +kernel
theorem dX6_signNow_42 : decode cX6_signNow 42 = .ok (.iconst 0, 1) := by decide +kernel
theorem dX6_signNow_43 : decode cX6_signNow 43 = .ok (.ireturn, 1) := by decide +kernel
theorem dX6_isDigit_0 : decode cX6_isDigit 0 = .ok (.iload_n 0, 1) := by decide +kernel
theorem dX6_isDigit_1 : decode cX6_isDigit 1 = .ok (.bipush 48, 2) := by decide +kernel
theorem dX6_isDigit_3 : decode cX6_isDigit 3 = .ok (.if_icmp .lt 13, 3) := by decide +kernel
theorem dX6_isDigit_6 : decode cX6_isDigit 6 = .ok (.iload_n 0, 1) := by decide +kernel
theorem dX6_isDigit_7 : decode cX6_isDigit 7 = .ok (.bipush 57, 2) := by decide +kernel
theorem dX6_isDigit_9 : decode cX6_isDigit 9 = .ok (.if_icmp .gt 7, 3) := by decide +kernel
theorem dX6_isDigit_12 : decode cX6_isDigit 12 = .ok (.iconst 1, 1) := by decide +kernel
theorem dX6_isDigit_13 : decode cX6_isDigit 13 = .ok (.goto 4, 3) := by decide +kernel
theorem dX6_isDigit_16 : decode cX6_isDigit 16 = .ok (.iconst 0, 1) := by decide +kernel
theorem dX6_isDigit_17 : decode cX6_isDigit 17 = .ok (.ireturn, 1) := by decide +kernel
theorem dX7_init_0 : decode cX7_init 0 = .ok (.aload_n 0, 1) := by decide +kernel
theorem dX7_init_1 : decode cX7_init 1 = .ok (.invokespecial 3, 3) := by decide +kernel
theorem dX7_init_4 : decode cX7_init 4 = .ok (.return_, 1) := by decide +kernel
theorem dX7_copyFrom_0 : decode cX7_copyFrom 0 = .ok (.aload_n 0, 1) := by decide +kernel
theorem dX7_copyFrom_1 : decode cX7_copyFrom 1 = .ok (.aload_n 1, 1) := by decide +kernel
theorem dX7_copyFrom_2 : decode cX7_copyFrom 2 = .ok (.getfield 9, 3) := by decide +kernel
theorem dX7_copyFrom_5 : decode cX7_copyFrom 5 = .ok (.putfield 9, 3) := by decide +kernel
theorem dX7_copyFrom_8 : decode cX7_copyFrom 8 = .ok (.aload_n 0, 1) := by decide +kernel
theorem dX7_copyFrom_9 : decode cX7_copyFrom 9 = .ok (.aload_n 1, 1) := by decide +kernel
theorem dX7_copyFrom_10 : decode cX7_copyFrom 10 = .ok (.getfield 15, 3) := by decide +kernel
theorem dX7_copyFrom_13 : decode cX7_copyFrom 13 = .ok (.putfield 15, 3) := by decide +kernel
theorem dX7_copyFrom_16 : decode cX7_copyFrom 16 = .ok (.return_, 1) := by decide +kernel
theorem dX7_clear_0 : decode cX7_clear 0 = .ok (.aload_n 0, 1) := by decide +kernel
theorem dX7_clear_1 : decode cX7_clear 1 = .ok (.iconst 0, 1) := by decide +kernel
theorem dX7_clear_2 : decode cX7_clear 2 = .ok (.putfield 9, 3) := by decide +kernel
theorem dX7_clear_5 : decode cX7_clear 5 = .ok (.aload_n 0, 1) := by decide +kernel
theorem dX7_clear_6 : decode cX7_clear 6 = .ok (.iconst 0, 1) := by decide +kernel
theorem dX7_clear_7 : decode cX7_clear 7 = .ok (.putfield 15, 3) := by decide +kernel
theorem dX7_clear_10 : decode cX7_clear 10 = .ok (.return_, 1) := by decide +kernel
theorem dX7_addSmoke_0 : decode cX7_addSmoke 0 = .ok (.aload_n 0, 1) := by decide +kernel
theorem dX7_addSmoke_1 : decode cX7_addSmoke 1 = .ok (.bipush 40, 2) := by decide +kernel
theorem dX7_addSmoke_3 : decode cX7_addSmoke 3 = .ok (.aload_n 0, 1) := by decide +kernel
theorem dX7_addSmoke_4 : decode cX7_addSmoke 4 = .ok (.getfield 9, 3) := by decide +kernel
theorem dX7_addSmoke_7 : decode cX7_addSmoke 7 = .ok (.iload_n 1, 1) := by decide +kernel
theorem dX7_addSmoke_8 : decode cX7_addSmoke 8 = .ok (.iadd, 1) := by decide +kernel
theorem dX7_addSmoke_9 : decode cX7_addSmoke 9 = .ok (.invokestatic 18, 3) := by decide +kernel
theorem dX7_addSmoke_12 : decode cX7_addSmoke 12 = .ok (.putfield 9, 3) := by decide +kernel
theorem dX7_addSmoke_15 : decode cX7_addSmoke 15 = .ok (.return_, 1) := by decide +kernel
theorem dX7_addChar_0 : decode cX7_addChar 0 = .ok (.aload_n 0, 1) := by decide +kernel
theorem dX7_addChar_1 : decode cX7_addChar 1 = .ok (.bipush 9, 2) := by decide +kernel
theorem dX7_addChar_3 : decode cX7_addChar 3 = .ok (.aload_n 0, 1) := by decide +kernel
theorem dX7_addChar_4 : decode cX7_addChar 4 = .ok (.getfield 15, 3) := by decide +kernel
theorem dX7_addChar_7 : decode cX7_addChar 7 = .ok (.iload_n 1, 1) := by decide +kernel
theorem dX7_addChar_8 : decode cX7_addChar 8 = .ok (.iadd, 1) := by decide +kernel
theorem dX7_addChar_9 : decode cX7_addChar 9 = .ok (.invokestatic 18, 3) := by decide +kernel
theorem dX7_addChar_12 : decode cX7_addChar 12 = .ok (.putfield 15, 3) := by decide +kernel
theorem dX7_addChar_15 : decode cX7_addChar 15 = .ok (.return_, 1) := by decide +kernel
theorem dX7_isBurnt_0 : decode cX7_isBurnt 0 = .ok (.aload_n 0, 1) := by decide +kernel
theorem dX7_isBurnt_1 : decode cX7_isBurnt 1 = .ok (.getfield 15, 3) := by decide +kernel
theorem dX7_isBurnt_4 : decode cX7_isBurnt 4 = .ok (.bipush 9, 2) := by decide +kernel
theorem dX7_isBurnt_6 : decode cX7_isBurnt 6 = .ok (.if_icmp .ne 7, 3) := by decide +kernel
theorem dX7_isBurnt_9 : decode cX7_isBurnt 9 = .ok (.iconst 1, 1) := by decide +kernel
theorem dX7_isBurnt_10 : decode cX7_isBurnt 10 = .ok (.goto 4, 3) := by decide +kernel
theorem dX7_isBurnt_13 : decode cX7_isBurnt 13 = .ok (.iconst 0, 1) := by decide +kernel
theorem dX7_isBurnt_14 : decode cX7_isBurnt 14 = .ok (.ireturn, 1) := by decide +kernel
theorem dX8_init_0 : decode cX8_init 0 = .ok (.aload_n 0, 1) := by decide +kernel
theorem dX8_init_1 : decode cX8_init 1 = .ok (.invokespecial 3, 3) := by decide +kernel
theorem dX8_init_4 : decode cX8_init 4 = .ok (.aload_n 0, 1) := by decide +kernel
theorem dX8_init_5 : decode cX8_init 5 = .ok (.aload_n 1, 1) := by decide +kernel
theorem dX8_init_6 : decode cX8_init 6 = .ok (.putfield 9, 3) := by decide +kernel
theorem dX8_init_9 : decode cX8_init 9 = .ok (.aload_n 0, 1) := by decide +kernel
theorem dX8_init_10 : decode cX8_init 10 = .ok (.aload_n 2, 1) := by decide +kernel
theorem dX8_init_11 : decode cX8_init 11 = .ok (.putfield 15, 3) := by decide +kernel
theorem dX8_init_14 : decode cX8_init 14 = .ok (.return_, 1) := by decide +kernel
theorem dX8_letCome_0 : decode cX8_letCome 0 = .ok (.iload_n 1, 1) := by decide +kernel
theorem dX8_letCome_1 : decode cX8_letCome 1 = .ok (.iconst 1, 1) := by decide +kernel
theorem dX8_letCome_2 : decode cX8_letCome 2 = .ok (.if_icmp .lt 9, 3) := by decide +kernel
theorem dX8_letCome_5 : decode cX8_letCome 5 = .ok (.iload_n 1, 1) := by decide +kernel
theorem dX8_letCome_6 : decode cX8_letCome 6 = .ok (.bipush 9, 2) := by decide +kernel
theorem dX8_letCome_8 : decode cX8_letCome 8 = .ok (.if_icmp .le 13, 3) := by decide +kernel
theorem dX8_letCome_11 : decode cX8_letCome 11 = .ok (.aload_n 0, 1) := by decide +kernel
theorem dX8_letCome_12 : decode cX8_letCome 12 = .ok (.getfield 15, 3) := by decide +kernel
theorem dX8_letCome_15 : decode cX8_letCome 15 = .ok (.iconst 1, 1) := by decide +kernel
theorem dX8_letCome_16 : decode cX8_letCome 16 = .ok (.iconst 0, 1) := by decide +kernel
theorem dX8_letCome_17 : decode cX8_letCome 17 = .ok (.invokevirtual 19, 3) := by decide +kernel
theorem dX8_letCome_20 : decode cX8_letCome 20 = .ok (.ireturn, 1) := by decide +kernel
theorem dX8_letCome_21 : decode cX8_letCome 21 = .ok (.aload_n 0, 1) := by decide +kernel
theorem dX8_letCome_22 : decode cX8_letCome 22 = .ok (.getfield 9, 3) := by decide +kernel
theorem dX8_letCome_25 : decode cX8_letCome 25 = .ok (.getfield 25, 3) := by decide +kernel
theorem dX8_letCome_28 : decode cX8_letCome 28 = .ok (.bipush 12, 2) := by decide +kernel
theorem dX8_letCome_30 : decode cX8_letCome 30 = .ok (.if_icmp .lt 14, 3) := by decide +kernel
theorem dX8_letCome_33 : decode cX8_letCome 33 = .ok (.aload_n 0, 1) := by decide +kernel
theorem dX8_letCome_34 : decode cX8_letCome 34 = .ok (.getfield 15, 3) := by decide +kernel
theorem dX8_letCome_37 : decode cX8_letCome 37 = .ok (.iconst 2, 1) := by decide +kernel
theorem dX8_letCome_38 : decode cX8_letCome 38 = .ok (.bipush 12, 2) := by decide +kernel
theorem dX8_letCome_40 : decode cX8_letCome 40 = .ok (.invokevirtual 19, 3) := by decide +kernel
theorem dX8_letCome_43 : decode cX8_letCome 43 = .ok (.ireturn, 1) := by decide +kernel
theorem dX8_letCome_44 : decode cX8_letCome 44 = .ok (.aload_n 0, 1) := by decide +kernel
theorem dX8_letCome_45 : decode cX8_letCome 45 = .ok (.getfield 9, 3) := by decide +kernel
theorem dX8_letCome_48 : decode cX8_letCome 48 = .ok (.iload_n 1, 1) := by decide +kernel
theorem dX8_letCome_49 : decode cX8_letCome 49 = .ok (.invokevirtual 31, 3) := by decide +kernel
theorem dX8_letCome_52 : decode cX8_letCome 52 = .ok (.aload_n 0, 1) := by decide +kernel
theorem dX8_letCome_53 : decode cX8_letCome 53 = .ok (.getfield 9, 3) := by decide +kernel
theorem dX8_letCome_56 : decode cX8_letCome 56 = .ok (.getfield 25, 3) := by decide +kernel
theorem dX8_letCome_59 : decode cX8_letCome 59 = .ok (.iconst 1, 1) := by decide +kernel
theorem dX8_letCome_60 : decode cX8_letCome 60 = .ok (.isub, 1) := by decide +kernel
theorem dX8_letCome_61 : decode cX8_letCome 61 = .ok (.ireturn, 1) := by decide +kernel
theorem dX8_layIntoBrine_0 : decode cX8_layIntoBrine 0 = .ok (.aload_n 0, 1) := by decide +kernel
theorem dX8_layIntoBrine_1 : decode cX8_layIntoBrine 1 = .ok (.getfield 9, 3) := by decide +kernel
theorem dX8_layIntoBrine_4 : decode cX8_layIntoBrine 4 = .ok (.iload_n 1, 1) := by decide +kernel
theorem dX8_layIntoBrine_5 : decode cX8_layIntoBrine 5 = .ok (.invokevirtual 35, 3) := by decide +kernel
theorem dX8_layIntoBrine_8 : decode cX8_layIntoBrine 8 = .ok (.ifCond .ne 19, 3) := by decide +kernel
theorem dX8_layIntoBrine_11 : decode cX8_layIntoBrine 11 = .ok (.aload_n 0, 1) := by decide +kernel
theorem dX8_layIntoBrine_12 : decode cX8_layIntoBrine 12 = .ok (.getfield 15, 3) := by decide +kernel
theorem dX8_layIntoBrine_15 : decode cX8_layIntoBrine 15 = .ok (.iconst 3, 1) := by decide +kernel
theorem dX8_layIntoBrine_16 : decode cX8_layIntoBrine 16 = .ok (.aload_n 0, 1) := by decide +kernel
theorem dX8_layIntoBrine_17 : decode cX8_layIntoBrine 17 = .ok (.getfield 9, 3) := by decide +kernel
theorem dX8_layIntoBrine_20 : decode cX8_layIntoBrine 20 = .ok (.getfield 25, 3) := by decide +kernel
theorem dX8_layIntoBrine_23 : decode cX8_layIntoBrine 23 = .ok (.invokevirtual 19, 3) := by decide +kernel
theorem dX8_layIntoBrine_26 : decode cX8_layIntoBrine 26 = .ok (.ireturn, 1) := by decide +kernel
theorem dX8_layIntoBrine_27 : decode cX8_layIntoBrine 27 = .ok (.aload_n 0, 1) := by decide +kernel
theorem dX8_layIntoBrine_28 : decode cX8_layIntoBrine 28 = .ok (.getfield 9, 3) := by decide +kernel
theorem dX8_layIntoBrine_31 : decode cX8_layIntoBrine 31 = .ok (.iload_n 1, 1) := by decide +kernel
theorem dX8_layIntoBrine_32 : decode cX8_layIntoBrine 32 = .ok (.invokevirtual 39, 3) := by decide +kernel
theorem dX8_layIntoBrine_35 : decode cX8_layIntoBrine 35 = .ok (.astore_n 2, 1) := by decide +kernel
theorem dX8_layIntoBrine_36 : decode cX8_layIntoBrine 36 = .ok (.aload_n 2, 1) := by decide +kernel
theorem dX8_layIntoBrine_37 : decode cX8_layIntoBrine 37 = .ok (.getfield 43, 3) := by decide +kernel
theorem dX8_layIntoBrine_40 : decode cX8_layIntoBrine 40 = .ok (.ifCond .eq 16, 3) := by decide +kernel
theorem dX8_layIntoBrine_43 : decode cX8_layIntoBrine 43 = .ok (.aload_n 0, 1) := by decide +kernel
theorem dX8_layIntoBrine_44 : decode cX8_layIntoBrine 44 = .ok (.getfield 15, 3) := by decide +kernel
theorem dX8_layIntoBrine_47 : decode cX8_layIntoBrine 47 = .ok (.iconst 4, 1) := by decide +kernel
theorem dX8_layIntoBrine_48 : decode cX8_layIntoBrine 48 = .ok (.aload_n 2, 1) := by decide +kernel
theorem dX8_layIntoBrine_49 : decode cX8_layIntoBrine 49 = .ok (.getfield 43, 3) := by decide +kernel
theorem dX8_layIntoBrine_52 : decode cX8_layIntoBrine 52 = .ok (.invokevirtual 19, 3) := by decide +kernel
theorem dX8_layIntoBrine_55 : decode cX8_layIntoBrine 55 = .ok (.ireturn, 1) := by decide +kernel
theorem dX8_layIntoBrine_56 : decode cX8_layIntoBrine 56 = .ok (.aload_n 2, 1) := by decide +kernel
theorem dX8_layIntoBrine_57 : decode cX8_layIntoBrine 57 = .ok (.iconst 1, 1) := by decide +kernel
theorem dX8_layIntoBrine_58 : decode cX8_layIntoBrine 58 = .ok (.iconst (-1), 1) := by decide +kernel
theorem dX8_layIntoBrine_59 : decode cX8_layIntoBrine 59 = .ok (.iconst (-1), 1) := by decide +kernel
theorem dX8_layIntoBrine_60 : decode cX8_layIntoBrine 60 = .ok (.invokevirtual 48, 3) := by decide +kernel
theorem dX8_layIntoBrine_63 : decode cX8_layIntoBrine 63 = .ok (.aload_n 0, 1) := by decide +kernel
theorem dX8_layIntoBrine_64 : decode cX8_layIntoBrine 64 = .ok (.getfield 9, 3) := by decide +kernel
theorem dX8_layIntoBrine_67 : decode cX8_layIntoBrine 67 = .ok (.iconst 1, 1) := by decide +kernel
theorem dX8_layIntoBrine_68 : decode cX8_layIntoBrine 68 = .ok (.invokevirtual 52, 3) := by decide +kernel
theorem dX8_layIntoBrine_71 : decode cX8_layIntoBrine 71 = .ok (.ireturn, 1) := by decide +kernel
theorem dX8_takeOut_0 : decode cX8_takeOut 0 = .ok (.aload_n 0, 1) := by decide +kernel
theorem dX8_takeOut_1 : decode cX8_takeOut 1 = .ok (.getfield 9, 3) := by decide +kernel
theorem dX8_takeOut_4 : decode cX8_takeOut 4 = .ok (.iload_n 1, 1) := by decide +kernel
theorem dX8_takeOut_5 : decode cX8_takeOut 5 = .ok (.invokevirtual 35, 3) := by decide +kernel
theorem dX8_takeOut_8 : decode cX8_takeOut 8 = .ok (.ifCond .ne 19, 3) := by decide +kernel
theorem dX8_takeOut_11 : decode cX8_takeOut 11 = .ok (.aload_n 0, 1) := by decide +kernel
theorem dX8_takeOut_12 : decode cX8_takeOut 12 = .ok (.getfield 15, 3) := by decide +kernel
theorem dX8_takeOut_15 : decode cX8_takeOut 15 = .ok (.iconst 3, 1) := by decide +kernel
theorem dX8_takeOut_16 : decode cX8_takeOut 16 = .ok (.aload_n 0, 1) := by decide +kernel
theorem dX8_takeOut_17 : decode cX8_takeOut 17 = .ok (.getfield 9, 3) := by decide +kernel
theorem dX8_takeOut_20 : decode cX8_takeOut 20 = .ok (.getfield 25, 3) := by decide +kernel
theorem dX8_takeOut_23 : decode cX8_takeOut 23 = .ok (.invokevirtual 19, 3) := by decide +kernel
theorem dX8_takeOut_26 : decode cX8_takeOut 26 = .ok (.ireturn, 1) := by decide +kernel
theorem dX8_takeOut_27 : decode cX8_takeOut 27 = .ok (.aload_n 0, 1) := by decide +kernel
theorem dX8_takeOut_28 : decode cX8_takeOut 28 = .ok (.getfield 9, 3) := by decide +kernel
theorem dX8_takeOut_31 : decode cX8_takeOut 31 = .ok (.iload_n 1, 1) := by decide +kernel
theorem dX8_takeOut_32 : decode cX8_takeOut 32 = .ok (.invokevirtual 39, 3) := by decide +kernel
theorem dX8_takeOut_35 : decode cX8_takeOut 35 = .ok (.astore_n 2, 1) := by decide +kernel
theorem dX8_takeOut_36 : decode cX8_takeOut 36 = .ok (.aload_n 2, 1) := by decide +kernel
theorem dX8_takeOut_37 : decode cX8_takeOut 37 = .ok (.getfield 43, 3) := by decide +kernel
theorem dX8_takeOut_40 : decode cX8_takeOut 40 = .ok (.ifCond .ne 13, 3) := by decide +kernel
theorem dX8_takeOut_43 : decode cX8_takeOut 43 = .ok (.aload_n 0, 1) := by decide +kernel
theorem dX8_takeOut_44 : decode cX8_takeOut 44 = .ok (.getfield 15, 3) := by decide +kernel
theorem dX8_takeOut_47 : decode cX8_takeOut 47 = .ok (.iconst 5, 1) := by decide +kernel
theorem dX8_takeOut_48 : decode cX8_takeOut 48 = .ok (.iload_n 1, 1) := by decide +kernel
theorem dX8_takeOut_49 : decode cX8_takeOut 49 = .ok (.invokevirtual 19, 3) := by decide +kernel
theorem dX8_takeOut_52 : decode cX8_takeOut 52 = .ok (.ireturn, 1) := by decide +kernel
theorem dX8_takeOut_53 : decode cX8_takeOut 53 = .ok (.aload_n 2, 1) := by decide +kernel
theorem dX8_takeOut_54 : decode cX8_takeOut 54 = .ok (.iconst 0, 1) := by decide +kernel
theorem dX8_takeOut_55 : decode cX8_takeOut 55 = .ok (.iconst (-1), 1) := by decide +kernel
theorem dX8_takeOut_56 : decode cX8_takeOut 56 = .ok (.iconst (-1), 1) := by decide +kernel
theorem dX8_takeOut_57 : decode cX8_takeOut 57 = .ok (.invokevirtual 48, 3) := by decide +kernel
theorem dX8_takeOut_60 : decode cX8_takeOut 60 = .ok (.aload_n 2, 1) := by decide +kernel
theorem dX8_takeOut_61 : decode cX8_takeOut 61 = .ok (.getfield 56, 3) := by decide +kernel
theorem dX8_takeOut_64 : decode cX8_takeOut 64 = .ok (.ireturn, 1) := by decide +kernel
theorem dX8_hangUp_0 : decode cX8_hangUp 0 = .ok (.iload_n 2, 1) := by decide +kernel
theorem dX8_hangUp_1 : decode cX8_hangUp 1 = .ok (.invokestatic 59, 3) := by decide +kernel
theorem dX8_hangUp_4 : decode cX8_hangUp 4 = .ok (.ifCond .eq 10, 3) := by decide +kernel
theorem dX8_hangUp_7 : decode cX8_hangUp 7 = .ok (.iload_n 3, 1) := by decide +kernel
theorem dX8_hangUp_8 : decode cX8_hangUp 8 = .ok (.invokestatic 62, 3) := by decide +kernel
theorem dX8_hangUp_11 : decode cX8_hangUp 11 = .ok (.ifCond .ne 13, 3) := by decide +kernel
theorem dX8_hangUp_14 : decode cX8_hangUp 14 = .ok (.aload_n 0, 1) := by decide +kernel
theorem dX8_hangUp_15 : decode cX8_hangUp 15 = .ok (.getfield 15, 3) := by decide +kernel
theorem dX8_hangUp_18 : decode cX8_hangUp 18 = .ok (.iconst 1, 1) := by decide +kernel
theorem dX8_hangUp_19 : decode cX8_hangUp 19 = .ok (.iconst 0, 1) := by decide +kernel
theorem dX8_hangUp_20 : decode cX8_hangUp 20 = .ok (.invokevirtual 19, 3) := by decide +kernel
theorem dX8_hangUp_23 : decode cX8_hangUp 23 = .ok (.ireturn, 1) := by decide +kernel
theorem dX8_hangUp_24 : decode cX8_hangUp 24 = .ok (.aload_n 0, 1) := by decide +kernel
theorem dX8_hangUp_25 : decode cX8_hangUp 25 = .ok (.getfield 9, 3) := by decide +kernel
theorem dX8_hangUp_28 : decode cX8_hangUp 28 = .ok (.iload_n 1, 1) := by decide +kernel
theorem dX8_hangUp_29 : decode cX8_hangUp 29 = .ok (.invokevirtual 35, 3) := by decide +kernel
theorem dX8_hangUp_32 : decode cX8_hangUp 32 = .ok (.ifCond .ne 19, 3) := by decide +kernel
theorem dX8_hangUp_35 : decode cX8_hangUp 35 = .ok (.aload_n 0, 1) := by decide +kernel
theorem dX8_hangUp_36 : decode cX8_hangUp 36 = .ok (.getfield 15, 3) := by decide +kernel
theorem dX8_hangUp_39 : decode cX8_hangUp 39 = .ok (.iconst 3, 1) := by decide +kernel
theorem dX8_hangUp_40 : decode cX8_hangUp 40 = .ok (.aload_n 0, 1) := by decide +kernel
theorem dX8_hangUp_41 : decode cX8_hangUp 41 = .ok (.getfield 9, 3) := by decide +kernel
theorem dX8_hangUp_44 : decode cX8_hangUp 44 = .ok (.getfield 25, 3) := by decide +kernel
theorem dX8_hangUp_47 : decode cX8_hangUp 47 = .ok (.invokevirtual 19, 3) := by decide +kernel
theorem dX8_hangUp_50 : decode cX8_hangUp 50 = .ok (.ireturn, 1) := by decide +kernel
theorem dX8_hangUp_51 : decode cX8_hangUp 51 = .ok (.aload_n 0, 1) := by decide +kernel
theorem dX8_hangUp_52 : decode cX8_hangUp 52 = .ok (.getfield 9, 3) := by decide +kernel
theorem dX8_hangUp_55 : decode cX8_hangUp 55 = .ok (.iload_n 1, 1) := by decide +kernel
theorem dX8_hangUp_56 : decode cX8_hangUp 56 = .ok (.invokevirtual 39, 3) := by decide +kernel
theorem dX8_hangUp_59 : decode cX8_hangUp 59 = .ok (.astore 4, 2) := by decide +kernel
theorem dX8_hangUp_61 : decode cX8_hangUp 61 = .ok (.aload 4, 2) := by decide +kernel
theorem dX8_hangUp_63 : decode cX8_hangUp 63 = .ok (.getfield 43, 3) := by decide +kernel
theorem dX8_hangUp_66 : decode cX8_hangUp 66 = .ok (.ifCond .eq 17, 3) := by decide +kernel
theorem dX8_hangUp_69 : decode cX8_hangUp 69 = .ok (.aload_n 0, 1) := by decide +kernel
theorem dX8_hangUp_70 : decode cX8_hangUp 70 = .ok (.getfield 15, 3) := by decide +kernel
theorem dX8_hangUp_73 : decode cX8_hangUp 73 = .ok (.iconst 4, 1) := by decide +kernel
theorem dX8_hangUp_74 : decode cX8_hangUp 74 = .ok (.aload 4, 2) := by decide +kernel
theorem dX8_hangUp_76 : decode cX8_hangUp 76 = .ok (.getfield 43, 3) := by decide +kernel
theorem dX8_hangUp_79 : decode cX8_hangUp 79 = .ok (.invokevirtual 19, 3) := by decide +kernel
theorem dX8_hangUp_82 : decode cX8_hangUp 82 = .ok (.ireturn, 1) := by decide +kernel
theorem dX8_hangUp_83 : decode cX8_hangUp 83 = .ok (.aload_n 0, 1) := by decide +kernel
theorem dX8_hangUp_84 : decode cX8_hangUp 84 = .ok (.getfield 9, 3) := by decide +kernel
theorem dX8_hangUp_87 : decode cX8_hangUp 87 = .ok (.iload_n 2, 1) := by decide +kernel
theorem dX8_hangUp_88 : decode cX8_hangUp 88 = .ok (.iload_n 3, 1) := by decide +kernel
theorem dX8_hangUp_89 : decode cX8_hangUp 89 = .ok (.invokevirtual 65, 3) := by decide +kernel
theorem dX8_hangUp_92 : decode cX8_hangUp 92 = .ok (.istore 5, 2) := by decide +kernel
theorem dX8_hangUp_94 : decode cX8_hangUp 94 = .ok (.iload 5, 2) := by decide +kernel
theorem dX8_hangUp_96 : decode cX8_hangUp 96 = .ok (.iconst (-1), 1) := by decide +kernel
theorem dX8_hangUp_97 : decode cX8_hangUp 97 = .ok (.if_icmp .eq 15, 3) := by decide +kernel
theorem dX8_hangUp_100 : decode cX8_hangUp 100 = .ok (.aload_n 0, 1) := by decide +kernel
theorem dX8_hangUp_101 : decode cX8_hangUp 101 = .ok (.getfield 15, 3) := by decide +kernel
theorem dX8_hangUp_104 : decode cX8_hangUp 104 = .ok (.bipush 6, 2) := by decide +kernel
theorem dX8_hangUp_106 : decode cX8_hangUp 106 = .ok (.iload 5, 2) := by decide +kernel
theorem dX8_hangUp_108 : decode cX8_hangUp 108 = .ok (.invokevirtual 19, 3) := by decide +kernel
theorem dX8_hangUp_111 : decode cX8_hangUp 111 = .ok (.ireturn, 1) := by decide +kernel
theorem dX8_hangUp_112 : decode cX8_hangUp 112 = .ok (.aload 4, 2) := by decide +kernel
theorem dX8_hangUp_114 : decode cX8_hangUp 114 = .ok (.iconst 2, 1) := by decide +kernel
theorem dX8_hangUp_115 : decode cX8_hangUp 115 = .ok (.iload_n 2, 1) := by decide +kernel
theorem dX8_hangUp_116 : decode cX8_hangUp 116 = .ok (.iload_n 3, 1) := by decide +kernel
theorem dX8_hangUp_117 : decode cX8_hangUp 117 = .ok (.invokevirtual 48, 3) := by decide +kernel
theorem dX8_hangUp_120 : decode cX8_hangUp 120 = .ok (.aload_n 0, 1) := by decide +kernel
theorem dX8_hangUp_121 : decode cX8_hangUp 121 = .ok (.getfield 9, 3) := by decide +kernel
theorem dX8_hangUp_124 : decode cX8_hangUp 124 = .ok (.iload_n 2, 1) := by decide +kernel
theorem dX8_hangUp_125 : decode cX8_hangUp 125 = .ok (.invokevirtual 68, 3) := by decide +kernel
theorem dX8_hangUp_128 : decode cX8_hangUp 128 = .ok (.ireturn, 1) := by decide +kernel
theorem dX8_turnOver_0 : decode cX8_turnOver 0 = .ok (.aload_n 0, 1) := by decide +kernel
theorem dX8_turnOver_1 : decode cX8_turnOver 1 = .ok (.getfield 9, 3) := by decide +kernel
theorem dX8_turnOver_4 : decode cX8_turnOver 4 = .ok (.iload_n 1, 1) := by decide +kernel
theorem dX8_turnOver_5 : decode cX8_turnOver 5 = .ok (.invokevirtual 35, 3) := by decide +kernel
theorem dX8_turnOver_8 : decode cX8_turnOver 8 = .ok (.ifCond .ne 19, 3) := by decide +kernel
theorem dX8_turnOver_11 : decode cX8_turnOver 11 = .ok (.aload_n 0, 1) := by decide +kernel
theorem dX8_turnOver_12 : decode cX8_turnOver 12 = .ok (.getfield 15, 3) := by decide +kernel
theorem dX8_turnOver_15 : decode cX8_turnOver 15 = .ok (.iconst 3, 1) := by decide +kernel
theorem dX8_turnOver_16 : decode cX8_turnOver 16 = .ok (.aload_n 0, 1) := by decide +kernel
theorem dX8_turnOver_17 : decode cX8_turnOver 17 = .ok (.getfield 9, 3) := by decide +kernel
theorem dX8_turnOver_20 : decode cX8_turnOver 20 = .ok (.getfield 25, 3) := by decide +kernel
theorem dX8_turnOver_23 : decode cX8_turnOver 23 = .ok (.invokevirtual 19, 3) := by decide +kernel
theorem dX8_turnOver_26 : decode cX8_turnOver 26 = .ok (.ireturn, 1) := by decide +kernel
theorem dX8_turnOver_27 : decode cX8_turnOver 27 = .ok (.aload_n 0, 1) := by decide +kernel
theorem dX8_turnOver_28 : decode cX8_turnOver 28 = .ok (.getfield 9, 3) := by decide +kernel
theorem dX8_turnOver_31 : decode cX8_turnOver 31 = .ok (.iload_n 1, 1) := by decide +kernel
theorem dX8_turnOver_32 : decode cX8_turnOver 32 = .ok (.invokevirtual 39, 3) := by decide +kernel
theorem dX8_turnOver_35 : decode cX8_turnOver 35 = .ok (.astore_n 2, 1) := by decide +kernel
theorem dX8_turnOver_36 : decode cX8_turnOver 36 = .ok (.aload_n 2, 1) := by decide +kernel
theorem dX8_turnOver_37 : decode cX8_turnOver 37 = .ok (.invokevirtual 71, 3) := by decide +kernel
theorem dX8_turnOver_40 : decode cX8_turnOver 40 = .ok (.ifCond .ne 17, 3) := by decide +kernel
theorem dX8_turnOver_43 : decode cX8_turnOver 43 = .ok (.aload_n 0, 1) := by decide +kernel
theorem dX8_turnOver_44 : decode cX8_turnOver 44 = .ok (.getfield 15, 3) := by decide +kernel
theorem dX8_turnOver_47 : decode cX8_turnOver 47 = .ok (.bipush 7, 2) := by decide +kernel
theorem dX8_turnOver_49 : decode cX8_turnOver 49 = .ok (.aload_n 2, 1) := by decide +kernel
theorem dX8_turnOver_50 : decode cX8_turnOver 50 = .ok (.getfield 43, 3) := by decide +kernel
theorem dX8_turnOver_53 : decode cX8_turnOver 53 = .ok (.invokevirtual 19, 3) := by decide +kernel
theorem dX8_turnOver_56 : decode cX8_turnOver 56 = .ok (.ireturn, 1) := by decide +kernel
theorem dX8_turnOver_57 : decode cX8_turnOver 57 = .ok (.aload_n 2, 1) := by decide +kernel
theorem dX8_turnOver_58 : decode cX8_turnOver 58 = .ok (.invokevirtual 75, 3) := by decide +kernel
theorem dX8_turnOver_61 : decode cX8_turnOver 61 = .ok (.aload_n 2, 1) := by decide +kernel
theorem dX8_turnOver_62 : decode cX8_turnOver 62 = .ok (.getfield 78, 3) := by decide +kernel
theorem dX8_turnOver_65 : decode cX8_turnOver 65 = .ok (.ireturn, 1) := by decide +kernel
theorem dX8_turnRack_0 : decode cX8_turnRack 0 = .ok (.iload_n 1, 1) := by decide +kernel
theorem dX8_turnRack_1 : decode cX8_turnRack 1 = .ok (.invokestatic 59, 3) := by decide +kernel
theorem dX8_turnRack_4 : decode cX8_turnRack 4 = .ok (.ifCond .ne 13, 3) := by decide +kernel
theorem dX8_turnRack_7 : decode cX8_turnRack 7 = .ok (.aload_n 0, 1) := by decide +kernel
theorem dX8_turnRack_8 : decode cX8_turnRack 8 = .ok (.getfield 15, 3) := by decide +kernel
theorem dX8_turnRack_11 : decode cX8_turnRack 11 = .ok (.iconst 1, 1) := by decide +kernel
theorem dX8_turnRack_12 : decode cX8_turnRack 12 = .ok (.iconst 0, 1) := by decide +kernel
theorem dX8_turnRack_13 : decode cX8_turnRack 13 = .ok (.invokevirtual 19, 3) := by decide +kernel
theorem dX8_turnRack_16 : decode cX8_turnRack 16 = .ok (.ireturn, 1) := by decide +kernel
theorem dX8_turnRack_17 : decode cX8_turnRack 17 = .ok (.aload_n 0, 1) := by decide +kernel
theorem dX8_turnRack_18 : decode cX8_turnRack 18 = .ok (.getfield 9, 3) := by decide +kernel
theorem dX8_turnRack_21 : decode cX8_turnRack 21 = .ok (.iload_n 1, 1) := by decide +kernel
theorem dX8_turnRack_22 : decode cX8_turnRack 22 = .ok (.invokevirtual 68, 3) := by decide +kernel
theorem dX8_turnRack_25 : decode cX8_turnRack 25 = .ok (.istore_n 2, 1) := by decide +kernel
theorem dX8_turnRack_26 : decode cX8_turnRack 26 = .ok (.iload_n 2, 1) := by decide +kernel
theorem dX8_turnRack_27 : decode cX8_turnRack 27 = .ok (.ifCond .ne 14, 3) := by decide +kernel
theorem dX8_turnRack_30 : decode cX8_turnRack 30 = .ok (.aload_n 0, 1) := by decide +kernel
theorem dX8_turnRack_31 : decode cX8_turnRack 31 = .ok (.getfield 15, 3) := by decide +kernel
theorem dX8_turnRack_34 : decode cX8_turnRack 34 = .ok (.bipush 8, 2) := by decide +kernel
theorem dX8_turnRack_36 : decode cX8_turnRack 36 = .ok (.iconst 0, 1) := by decide +kernel
theorem dX8_turnRack_37 : decode cX8_turnRack 37 = .ok (.invokevirtual 19, 3) := by decide +kernel
theorem dX8_turnRack_40 : decode cX8_turnRack 40 = .ok (.ireturn, 1) := by decide +kernel
theorem dX8_turnRack_41 : decode cX8_turnRack 41 = .ok (.iconst 0, 1) := by decide +kernel
theorem dX8_turnRack_42 : decode cX8_turnRack 42 = .ok (.istore_n 3, 1) := by decide +kernel
theorem dX8_turnRack_43 : decode cX8_turnRack 43 = .ok (.iload_n 3, 1) := by decide +kernel
theorem dX8_turnRack_44 : decode cX8_turnRack 44 = .ok (.aload_n 0, 1) := by decide +kernel
theorem dX8_turnRack_45 : decode cX8_turnRack 45 = .ok (.getfield 9, 3) := by decide +kernel
theorem dX8_turnRack_48 : decode cX8_turnRack 48 = .ok (.getfield 25, 3) := by decide +kernel
theorem dX8_turnRack_51 : decode cX8_turnRack 51 = .ok (.if_icmp .ge 33, 3) := by decide +kernel
theorem dX8_turnRack_54 : decode cX8_turnRack 54 = .ok (.aload_n 0, 1) := by decide +kernel
theorem dX8_turnRack_55 : decode cX8_turnRack 55 = .ok (.getfield 9, 3) := by decide +kernel
theorem dX8_turnRack_58 : decode cX8_turnRack 58 = .ok (.iload_n 3, 1) := by decide +kernel
theorem dX8_turnRack_59 : decode cX8_turnRack 59 = .ok (.invokevirtual 39, 3) := by decide +kernel
theorem dX8_turnRack_62 : decode cX8_turnRack 62 = .ok (.astore 4, 2) := by decide +kernel
theorem dX8_turnRack_64 : decode cX8_turnRack 64 = .ok (.aload 4, 2) := by decide +kernel
theorem dX8_turnRack_66 : decode cX8_turnRack 66 = .ok (.getfield 81, 3) := by decide +kernel
theorem dX8_turnRack_69 : decode cX8_turnRack 69 = .ok (.iload_n 1, 1) := by decide +kernel
theorem dX8_turnRack_70 : decode cX8_turnRack 70 = .ok (.if_icmp .ne 8, 3) := by decide +kernel
theorem dX8_turnRack_73 : decode cX8_turnRack 73 = .ok (.aload 4, 2) := by decide +kernel
theorem dX8_turnRack_75 : decode cX8_turnRack 75 = .ok (.invokevirtual 75, 3) := by decide +kernel
theorem dX8_turnRack_78 : decode cX8_turnRack 78 = .ok (.iinc 3 1, 3) := by decide +kernel
theorem dX8_turnRack_81 : decode cX8_turnRack 81 = .ok (.goto (-38), 3) := by decide +kernel
theorem dX8_turnRack_84 : decode cX8_turnRack 84 = .ok (.iload_n 2, 1) := by decide +kernel
theorem dX8_turnRack_85 : decode cX8_turnRack 85 = .ok (.ireturn, 1) := by decide +kernel
theorem dX8_layLogs_0 : decode cX8_layLogs 0 = .ok (.iload_n 1, 1) := by decide +kernel
theorem dX8_layLogs_1 : decode cX8_layLogs 1 = .ok (.iconst 1, 1) := by decide +kernel
theorem dX8_layLogs_2 : decode cX8_layLogs 2 = .ok (.if_icmp .lt 9, 3) := by decide +kernel
theorem dX8_layLogs_5 : decode cX8_layLogs 5 = .ok (.iload_n 1, 1) := by decide +kernel
theorem dX8_layLogs_6 : decode cX8_layLogs 6 = .ok (.bipush 12, 2) := by decide +kernel
theorem dX8_layLogs_8 : decode cX8_layLogs 8 = .ok (.if_icmp .le 13, 3) := by decide +kernel
theorem dX8_layLogs_11 : decode cX8_layLogs 11 = .ok (.aload_n 0, 1) := by decide +kernel
theorem dX8_layLogs_12 : decode cX8_layLogs 12 = .ok (.getfield 15, 3) := by decide +kernel
theorem dX8_layLogs_15 : decode cX8_layLogs 15 = .ok (.iconst 1, 1) := by decide +kernel
theorem dX8_layLogs_16 : decode cX8_layLogs 16 = .ok (.iconst 0, 1) := by decide +kernel
theorem dX8_layLogs_17 : decode cX8_layLogs 17 = .ok (.invokevirtual 19, 3) := by decide +kernel
theorem dX8_layLogs_20 : decode cX8_layLogs 20 = .ok (.ireturn, 1) := by decide +kernel
theorem dX8_layLogs_21 : decode cX8_layLogs 21 = .ok (.aload_n 0, 1) := by decide +kernel
theorem dX8_layLogs_22 : decode cX8_layLogs 22 = .ok (.getfield 9, 3) := by decide +kernel
theorem dX8_layLogs_25 : decode cX8_layLogs 25 = .ok (.getfield 84, 3) := by decide +kernel
theorem dX8_layLogs_28 : decode cX8_layLogs 28 = .ok (.iload_n 1, 1) := by decide +kernel
theorem dX8_layLogs_29 : decode cX8_layLogs 29 = .ok (.iadd, 1) := by decide +kernel
theorem dX8_layLogs_30 : decode cX8_layLogs 30 = .ok (.bipush 12, 2) := by decide +kernel
theorem dX8_layLogs_32 : decode cX8_layLogs 32 = .ok (.if_icmp .le 14, 3) := by decide +kernel
theorem dX8_layLogs_35 : decode cX8_layLogs 35 = .ok (.aload_n 0, 1) := by decide +kernel
theorem dX8_layLogs_36 : decode cX8_layLogs 36 = .ok (.getfield 15, 3) := by decide +kernel
theorem dX8_layLogs_39 : decode cX8_layLogs 39 = .ok (.iconst 2, 1) := by decide +kernel
theorem dX8_layLogs_40 : decode cX8_layLogs 40 = .ok (.bipush 12, 2) := by decide +kernel
theorem dX8_layLogs_42 : decode cX8_layLogs 42 = .ok (.invokevirtual 19, 3) := by decide +kernel
theorem dX8_layLogs_45 : decode cX8_layLogs 45 = .ok (.ireturn, 1) := by decide +kernel
theorem dX8_layLogs_46 : decode cX8_layLogs 46 = .ok (.aload_n 0, 1) := by decide +kernel
theorem dX8_layLogs_47 : decode cX8_layLogs 47 = .ok (.getfield 9, 3) := by decide +kernel
theorem dX8_layLogs_50 : decode cX8_layLogs 50 = .ok (.dup, 1) := by decide +kernel
theorem dX8_layLogs_51 : decode cX8_layLogs 51 = .ok (.getfield 84, 3) := by decide +kernel
theorem dX8_layLogs_54 : decode cX8_layLogs 54 = .ok (.iload_n 1, 1) := by decide +kernel
theorem dX8_layLogs_55 : decode cX8_layLogs 55 = .ok (.iadd, 1) := by decide +kernel
theorem dX8_layLogs_56 : decode cX8_layLogs 56 = .ok (.putfield 84, 3) := by decide +kernel
theorem dX8_layLogs_59 : decode cX8_layLogs 59 = .ok (.aload_n 0, 1) := by decide +kernel
theorem dX8_layLogs_60 : decode cX8_layLogs 60 = .ok (.getfield 9, 3) := by decide +kernel
theorem dX8_layLogs_63 : decode cX8_layLogs 63 = .ok (.getfield 84, 3) := by decide +kernel
theorem dX8_layLogs_66 : decode cX8_layLogs 66 = .ok (.ireturn, 1) := by decide +kernel
theorem dX8_tellWood_0 : decode cX8_tellWood 0 = .ok (.iload_n 1, 1) := by decide +kernel
theorem dX8_tellWood_1 : decode cX8_tellWood 1 = .ok (.ifCond .lt 8, 3) := by decide +kernel
theorem dX8_tellWood_4 : decode cX8_tellWood 4 = .ok (.iload_n 1, 1) := by decide +kernel
theorem dX8_tellWood_5 : decode cX8_tellWood 5 = .ok (.iconst 4, 1) := by decide +kernel
theorem dX8_tellWood_6 : decode cX8_tellWood 6 = .ok (.if_icmp .lt 13, 3) := by decide +kernel
theorem dX8_tellWood_9 : decode cX8_tellWood 9 = .ok (.aload_n 0, 1) := by decide +kernel
theorem dX8_tellWood_10 : decode cX8_tellWood 10 = .ok (.getfield 15, 3) := by decide +kernel
theorem dX8_tellWood_13 : decode cX8_tellWood 13 = .ok (.iconst 1, 1) := by decide +kernel
theorem dX8_tellWood_14 : decode cX8_tellWood 14 = .ok (.iconst 0, 1) := by decide +kernel
theorem dX8_tellWood_15 : decode cX8_tellWood 15 = .ok (.invokevirtual 19, 3) := by decide +kernel
theorem dX8_tellWood_18 : decode cX8_tellWood 18 = .ok (.ireturn, 1) := by decide +kernel
theorem dX8_tellWood_19 : decode cX8_tellWood 19 = .ok (.aload_n 0, 1) := by decide +kernel
theorem dX8_tellWood_20 : decode cX8_tellWood 20 = .ok (.getfield 9, 3) := by decide +kernel
theorem dX8_tellWood_23 : decode cX8_tellWood 23 = .ok (.getfield 87, 3) := by decide +kernel
theorem dX8_tellWood_26 : decode cX8_tellWood 26 = .ok (.istore_n 2, 1) := by decide +kernel
theorem dX8_tellWood_27 : decode cX8_tellWood 27 = .ok (.iload_n 1, 1) := by decide +kernel
theorem dX8_tellWood_28 : decode cX8_tellWood 28 = .ok (.iload_n 2, 1) := by decide +kernel
theorem dX8_tellWood_29 : decode cX8_tellWood 29 = .ok (.if_icmp .ne 14, 3) := by decide +kernel
theorem dX8_tellWood_32 : decode cX8_tellWood 32 = .ok (.aload_n 0, 1) := by decide +kernel
theorem dX8_tellWood_33 : decode cX8_tellWood 33 = .ok (.getfield 15, 3) := by decide +kernel
theorem dX8_tellWood_36 : decode cX8_tellWood 36 = .ok (.bipush 9, 2) := by decide +kernel
theorem dX8_tellWood_38 : decode cX8_tellWood 38 = .ok (.iload_n 1, 1) := by decide +kernel
theorem dX8_tellWood_39 : decode cX8_tellWood 39 = .ok (.invokevirtual 19, 3) := by decide +kernel
theorem dX8_tellWood_42 : decode cX8_tellWood 42 = .ok (.ireturn, 1) := by decide +kernel
theorem dX8_tellWood_43 : decode cX8_tellWood 43 = .ok (.aload_n 0, 1) := by decide +kernel
theorem dX8_tellWood_44 : decode cX8_tellWood 44 = .ok (.getfield 9, 3) := by decide +kernel
theorem dX8_tellWood_47 : decode cX8_tellWood 47 = .ok (.iload_n 1, 1) := by decide +kernel
theorem dX8_tellWood_48 : decode cX8_tellWood 48 = .ok (.putfield 87, 3) := by decide +kernel
theorem dX8_tellWood_51 : decode cX8_tellWood 51 = .ok (.iload_n 2, 1) := by decide +kernel
theorem dX8_tellWood_52 : decode cX8_tellWood 52 = .ok (.ireturn, 1) := by decide +kernel
theorem dX8_passDay_0 : decode cX8_passDay 0 = .ok (.aload_n 0, 1) := by decide +kernel
theorem dX8_passDay_1 : decode cX8_passDay 1 = .ok (.getfield 9, 3) := by decide +kernel
theorem dX8_passDay_4 : decode cX8_passDay 4 = .ok (.iconst 1, 1) := by decide +kernel
theorem dX8_passDay_5 : decode cX8_passDay 5 = .ok (.invokevirtual 52, 3) := by decide +kernel
theorem dX8_passDay_8 : decode cX8_passDay 8 = .ok (.ifCond .ne 14, 3) := by decide +kernel
theorem dX8_passDay_11 : decode cX8_passDay 11 = .ok (.aload_n 0, 1) := by decide +kernel
theorem dX8_passDay_12 : decode cX8_passDay 12 = .ok (.getfield 15, 3) := by decide +kernel
theorem dX8_passDay_15 : decode cX8_passDay 15 = .ok (.bipush 8, 2) := by decide +kernel
theorem dX8_passDay_17 : decode cX8_passDay 17 = .ok (.iconst 0, 1) := by decide +kernel
theorem dX8_passDay_18 : decode cX8_passDay 18 = .ok (.invokevirtual 19, 3) := by decide +kernel
theorem dX8_passDay_21 : decode cX8_passDay 21 = .ok (.ireturn, 1) := by decide +kernel
theorem dX8_passDay_22 : decode cX8_passDay 22 = .ok (.iconst 0, 1) := by decide +kernel
theorem dX8_passDay_23 : decode cX8_passDay 23 = .ok (.istore_n 1, 1) := by decide +kernel
theorem dX8_passDay_24 : decode cX8_passDay 24 = .ok (.iload_n 1, 1) := by decide +kernel
theorem dX8_passDay_25 : decode cX8_passDay 25 = .ok (.aload_n 0, 1) := by decide +kernel
theorem dX8_passDay_26 : decode cX8_passDay 26 = .ok (.getfield 9, 3) := by decide +kernel
theorem dX8_passDay_29 : decode cX8_passDay 29 = .ok (.getfield 25, 3) := by decide +kernel
theorem dX8_passDay_32 : decode cX8_passDay 32 = .ok (.if_icmp .ge 31, 3) := by decide +kernel
theorem dX8_passDay_35 : decode cX8_passDay 35 = .ok (.aload_n 0, 1) := by decide +kernel
theorem dX8_passDay_36 : decode cX8_passDay 36 = .ok (.getfield 9, 3) := by decide +kernel
theorem dX8_passDay_39 : decode cX8_passDay 39 = .ok (.iload_n 1, 1) := by decide +kernel
theorem dX8_passDay_40 : decode cX8_passDay 40 = .ok (.invokevirtual 39, 3) := by decide +kernel
theorem dX8_passDay_43 : decode cX8_passDay 43 = .ok (.astore_n 2, 1) := by decide +kernel
theorem dX8_passDay_44 : decode cX8_passDay 44 = .ok (.aload_n 2, 1) := by decide +kernel
theorem dX8_passDay_45 : decode cX8_passDay 45 = .ok (.getfield 43, 3) := by decide +kernel
theorem dX8_passDay_48 : decode cX8_passDay 48 = .ok (.iconst 1, 1) := by decide +kernel
theorem dX8_passDay_49 : decode cX8_passDay 49 = .ok (.if_icmp .ne 8, 3) := by decide +kernel
theorem dX8_passDay_52 : decode cX8_passDay 52 = .ok (.aload_n 2, 1) := by decide +kernel
theorem dX8_passDay_53 : decode cX8_passDay 53 = .ok (.iconst 2, 1) := by decide +kernel
theorem dX8_passDay_54 : decode cX8_passDay 54 = .ok (.invokevirtual 90, 3) := by decide +kernel
theorem dX8_passDay_57 : decode cX8_passDay 57 = .ok (.iinc 1 1, 3) := by decide +kernel
theorem dX8_passDay_60 : decode cX8_passDay 60 = .ok (.goto (-36), 3) := by decide +kernel
theorem dX8_passDay_63 : decode cX8_passDay 63 = .ok (.aload_n 0, 1) := by decide +kernel
theorem dX8_passDay_64 : decode cX8_passDay 64 = .ok (.getfield 9, 3) := by decide +kernel
theorem dX8_passDay_67 : decode cX8_passDay 67 = .ok (.dup, 1) := by decide +kernel
theorem dX8_passDay_68 : decode cX8_passDay 68 = .ok (.getfield 93, 3) := by decide +kernel
theorem dX8_passDay_71 : decode cX8_passDay 71 = .ok (.iconst 1, 1) := by decide +kernel
theorem dX8_passDay_72 : decode cX8_passDay 72 = .ok (.iadd, 1) := by decide +kernel
theorem dX8_passDay_73 : decode cX8_passDay 73 = .ok (.putfield 93, 3) := by decide +kernel
theorem dX8_passDay_76 : decode cX8_passDay 76 = .ok (.aload_n 0, 1) := by decide +kernel
theorem dX8_passDay_77 : decode cX8_passDay 77 = .ok (.getfield 9, 3) := by decide +kernel
theorem dX8_passDay_80 : decode cX8_passDay 80 = .ok (.invokevirtual 96, 3) := by decide +kernel
theorem dX8_passDay_83 : decode cX8_passDay 83 = .ok (.ireturn, 1) := by decide +kernel
theorem dX8_passHours_0 : decode cX8_passHours 0 = .ok (.iload_n 1, 1) := by decide +kernel
theorem dX8_passHours_1 : decode cX8_passHours 1 = .ok (.iconst 1, 1) := by decide +kernel
theorem dX8_passHours_2 : decode cX8_passHours 2 = .ok (.if_icmp .lt 9, 3) := by decide +kernel
theorem dX8_passHours_5 : decode cX8_passHours 5 = .ok (.iload_n 1, 1) := by decide +kernel
theorem dX8_passHours_6 : decode cX8_passHours 6 = .ok (.bipush 24, 2) := by decide +kernel
theorem dX8_passHours_8 : decode cX8_passHours 8 = .ok (.if_icmp .le 13, 3) := by decide +kernel
theorem dX8_passHours_11 : decode cX8_passHours 11 = .ok (.aload_n 0, 1) := by decide +kernel
theorem dX8_passHours_12 : decode cX8_passHours 12 = .ok (.getfield 15, 3) := by decide +kernel
theorem dX8_passHours_15 : decode cX8_passHours 15 = .ok (.iconst 1, 1) := by decide +kernel
theorem dX8_passHours_16 : decode cX8_passHours 16 = .ok (.iconst 0, 1) := by decide +kernel
theorem dX8_passHours_17 : decode cX8_passHours 17 = .ok (.invokevirtual 19, 3) := by decide +kernel
theorem dX8_passHours_20 : decode cX8_passHours 20 = .ok (.ireturn, 1) := by decide +kernel
theorem dX8_passHours_21 : decode cX8_passHours 21 = .ok (.iconst 0, 1) := by decide +kernel
theorem dX8_passHours_22 : decode cX8_passHours 22 = .ok (.istore_n 2, 1) := by decide +kernel
theorem dX8_passHours_23 : decode cX8_passHours 23 = .ok (.iload_n 2, 1) := by decide +kernel
theorem dX8_passHours_24 : decode cX8_passHours 24 = .ok (.iload_n 1, 1) := by decide +kernel
theorem dX8_passHours_25 : decode cX8_passHours 25 = .ok (.if_icmp .ge 16, 3) := by decide +kernel
theorem dX8_passHours_28 : decode cX8_passHours 28 = .ok (.aload_n 0, 1) := by decide +kernel
theorem dX8_passHours_29 : decode cX8_passHours 29 = .ok (.getfield 9, 3) := by decide +kernel
theorem dX8_passHours_32 : decode cX8_passHours 32 = .ok (.invokevirtual 100, 3) := by decide +kernel
theorem dX8_passHours_35 : decode cX8_passHours 35 = .ok (.iinc 2 1, 3) := by decide +kernel
theorem dX8_passHours_38 : decode cX8_passHours 38 = .ok (.goto (-15), 3) := by decide +kernel
theorem dX8_passHours_41 : decode cX8_passHours 41 = .ok (.aload_n 0, 1) := by decide +kernel
theorem dX8_passHours_42 : decode cX8_passHours 42 = .ok (.getfield 9, 3) := by decide +kernel
theorem dX8_passHours_45 : decode cX8_passHours 45 = .ok (.invokevirtual 103, 3) := by decide +kernel
theorem dX8_passHours_48 : decode cX8_passHours 48 = .ok (.ireturn, 1) := by decide +kernel
theorem dX8_sellOff_0 : decode cX8_sellOff 0 = .ok (.aload_n 0, 1) := by decide +kernel
theorem dX8_sellOff_1 : decode cX8_sellOff 1 = .ok (.getfield 9, 3) := by decide +kernel
theorem dX8_sellOff_4 : decode cX8_sellOff 4 = .ok (.iload_n 1, 1) := by decide +kernel
theorem dX8_sellOff_5 : decode cX8_sellOff 5 = .ok (.invokevirtual 35, 3) := by decide +kernel
theorem dX8_sellOff_8 : decode cX8_sellOff 8 = .ok (.ifCond .ne 19, 3) := by decide +kernel
theorem dX8_sellOff_11 : decode cX8_sellOff 11 = .ok (.aload_n 0, 1) := by decide +kernel
theorem dX8_sellOff_12 : decode cX8_sellOff 12 = .ok (.getfield 15, 3) := by decide +kernel
theorem dX8_sellOff_15 : decode cX8_sellOff 15 = .ok (.iconst 3, 1) := by decide +kernel
theorem dX8_sellOff_16 : decode cX8_sellOff 16 = .ok (.aload_n 0, 1) := by decide +kernel
theorem dX8_sellOff_17 : decode cX8_sellOff 17 = .ok (.getfield 9, 3) := by decide +kernel
theorem dX8_sellOff_20 : decode cX8_sellOff 20 = .ok (.getfield 25, 3) := by decide +kernel
theorem dX8_sellOff_23 : decode cX8_sellOff 23 = .ok (.invokevirtual 19, 3) := by decide +kernel
theorem dX8_sellOff_26 : decode cX8_sellOff 26 = .ok (.ireturn, 1) := by decide +kernel
theorem dX8_sellOff_27 : decode cX8_sellOff 27 = .ok (.aload_n 0, 1) := by decide +kernel
theorem dX8_sellOff_28 : decode cX8_sellOff 28 = .ok (.getfield 9, 3) := by decide +kernel
theorem dX8_sellOff_31 : decode cX8_sellOff 31 = .ok (.iload_n 1, 1) := by decide +kernel
theorem dX8_sellOff_32 : decode cX8_sellOff 32 = .ok (.invokevirtual 39, 3) := by decide +kernel
theorem dX8_sellOff_35 : decode cX8_sellOff 35 = .ok (.astore_n 2, 1) := by decide +kernel
theorem dX8_sellOff_36 : decode cX8_sellOff 36 = .ok (.aload_n 2, 1) := by decide +kernel
theorem dX8_sellOff_37 : decode cX8_sellOff 37 = .ok (.invokevirtual 106, 3) := by decide +kernel
theorem dX8_sellOff_40 : decode cX8_sellOff 40 = .ok (.ifCond .ne 29, 3) := by decide +kernel
theorem dX8_sellOff_43 : decode cX8_sellOff 43 = .ok (.aload_n 0, 1) := by decide +kernel
theorem dX8_sellOff_44 : decode cX8_sellOff 44 = .ok (.getfield 15, 3) := by decide +kernel
theorem dX8_sellOff_47 : decode cX8_sellOff 47 = .ok (.bipush 10, 2) := by decide +kernel
theorem dX8_sellOff_49 : decode cX8_sellOff 49 = .ok (.aload_n 2, 1) := by decide +kernel
theorem dX8_sellOff_50 : decode cX8_sellOff 50 = .ok (.invokevirtual 109, 3) := by decide +kernel
theorem dX8_sellOff_53 : decode cX8_sellOff 53 = .ok (.ifCond .eq 8, 3) := by decide +kernel
theorem dX8_sellOff_56 : decode cX8_sellOff 56 = .ok (.bipush 100, 2) := by decide +kernel
theorem dX8_sellOff_58 : decode cX8_sellOff 58 = .ok (.goto 7, 3) := by decide +kernel
theorem dX8_sellOff_61 : decode cX8_sellOff 61 = .ok (.aload_n 2, 1) := by decide +kernel
theorem dX8_sellOff_62 : decode cX8_sellOff 62 = .ok (.invokevirtual 112, 3) := by decide +kernel
theorem dX8_sellOff_65 : decode cX8_sellOff 65 = .ok (.invokevirtual 19, 3) := by decide +kernel
theorem dX8_sellOff_68 : decode cX8_sellOff 68 = .ok (.ireturn, 1) := by decide +kernel
theorem dX8_sellOff_69 : decode cX8_sellOff 69 = .ok (.aload_n 2, 1) := by decide +kernel
theorem dX8_sellOff_70 : decode cX8_sellOff 70 = .ok (.invokevirtual 115, 3) := by decide +kernel
theorem dX8_sellOff_73 : decode cX8_sellOff 73 = .ok (.istore_n 3, 1) := by decide +kernel
theorem dX8_sellOff_74 : decode cX8_sellOff 74 = .ok (.aload_n 0, 1) := by decide +kernel
theorem dX8_sellOff_75 : decode cX8_sellOff 75 = .ok (.getfield 9, 3) := by decide +kernel
theorem dX8_sellOff_78 : decode cX8_sellOff 78 = .ok (.dup, 1) := by decide +kernel
theorem dX8_sellOff_79 : decode cX8_sellOff 79 = .ok (.getfield 118, 3) := by decide +kernel
theorem dX8_sellOff_82 : decode cX8_sellOff 82 = .ok (.iconst 1, 1) := by decide +kernel
theorem dX8_sellOff_83 : decode cX8_sellOff 83 = .ok (.iadd, 1) := by decide +kernel
theorem dX8_sellOff_84 : decode cX8_sellOff 84 = .ok (.putfield 118, 3) := by decide +kernel
theorem dX8_sellOff_87 : decode cX8_sellOff 87 = .ok (.aload_n 0, 1) := by decide +kernel
theorem dX8_sellOff_88 : decode cX8_sellOff 88 = .ok (.getfield 9, 3) := by decide +kernel
theorem dX8_sellOff_91 : decode cX8_sellOff 91 = .ok (.dup, 1) := by decide +kernel
theorem dX8_sellOff_92 : decode cX8_sellOff 92 = .ok (.getfield 121, 3) := by decide +kernel
theorem dX8_sellOff_95 : decode cX8_sellOff 95 = .ok (.iload_n 3, 1) := by decide +kernel
theorem dX8_sellOff_96 : decode cX8_sellOff 96 = .ok (.iadd, 1) := by decide +kernel
theorem dX8_sellOff_97 : decode cX8_sellOff 97 = .ok (.putfield 121, 3) := by decide +kernel
theorem dX8_sellOff_100 : decode cX8_sellOff 100 = .ok (.aload_n 0, 1) := by decide +kernel
theorem dX8_sellOff_101 : decode cX8_sellOff 101 = .ok (.getfield 9, 3) := by decide +kernel
theorem dX8_sellOff_104 : decode cX8_sellOff 104 = .ok (.iload_n 1, 1) := by decide +kernel
theorem dX8_sellOff_105 : decode cX8_sellOff 105 = .ok (.invokevirtual 124, 3) := by decide +kernel
theorem dX8_sellOff_108 : decode cX8_sellOff 108 = .ok (.iload_n 3, 1) := by decide +kernel
theorem dX8_sellOff_109 : decode cX8_sellOff 109 = .ok (.ireturn, 1) := by decide +kernel
theorem dX8_discard_0 : decode cX8_discard 0 = .ok (.aload_n 0, 1) := by decide +kernel
theorem dX8_discard_1 : decode cX8_discard 1 = .ok (.getfield 9, 3) := by decide +kernel
theorem dX8_discard_4 : decode cX8_discard 4 = .ok (.iload_n 1, 1) := by decide +kernel
theorem dX8_discard_5 : decode cX8_discard 5 = .ok (.invokevirtual 35, 3) := by decide +kernel
theorem dX8_discard_8 : decode cX8_discard 8 = .ok (.ifCond .ne 19, 3) := by decide +kernel
theorem dX8_discard_11 : decode cX8_discard 11 = .ok (.aload_n 0, 1) := by decide +kernel
theorem dX8_discard_12 : decode cX8_discard 12 = .ok (.getfield 15, 3) := by decide +kernel
theorem dX8_discard_15 : decode cX8_discard 15 = .ok (.iconst 3, 1) := by decide +kernel
theorem dX8_discard_16 : decode cX8_discard 16 = .ok (.aload_n 0, 1) := by decide +kernel
theorem dX8_discard_17 : decode cX8_discard 17 = .ok (.getfield 9, 3) := by decide +kernel
theorem dX8_discard_20 : decode cX8_discard 20 = .ok (.getfield 25, 3) := by decide +kernel
theorem dX8_discard_23 : decode cX8_discard 23 = .ok (.invokevirtual 19, 3) := by decide +kernel
theorem dX8_discard_26 : decode cX8_discard 26 = .ok (.ireturn, 1) := by decide +kernel
theorem dX8_discard_27 : decode cX8_discard 27 = .ok (.aload_n 0, 1) := by decide +kernel
theorem dX8_discard_28 : decode cX8_discard 28 = .ok (.getfield 9, 3) := by decide +kernel
theorem dX8_discard_31 : decode cX8_discard 31 = .ok (.iload_n 1, 1) := by decide +kernel
theorem dX8_discard_32 : decode cX8_discard 32 = .ok (.invokevirtual 39, 3) := by decide +kernel
theorem dX8_discard_35 : decode cX8_discard 35 = .ok (.getfield 127, 3) := by decide +kernel
theorem dX8_discard_38 : decode cX8_discard 38 = .ok (.istore_n 2, 1) := by decide +kernel
theorem dX8_discard_39 : decode cX8_discard 39 = .ok (.aload_n 0, 1) := by decide +kernel
theorem dX8_discard_40 : decode cX8_discard 40 = .ok (.getfield 9, 3) := by decide +kernel
theorem dX8_discard_43 : decode cX8_discard 43 = .ok (.dup, 1) := by decide +kernel
theorem dX8_discard_44 : decode cX8_discard 44 = .ok (.getfield 130, 3) := by decide +kernel
theorem dX8_discard_47 : decode cX8_discard 47 = .ok (.iconst 1, 1) := by decide +kernel
theorem dX8_discard_48 : decode cX8_discard 48 = .ok (.iadd, 1) := by decide +kernel
theorem dX8_discard_49 : decode cX8_discard 49 = .ok (.putfield 130, 3) := by decide +kernel
theorem dX8_discard_52 : decode cX8_discard 52 = .ok (.aload_n 0, 1) := by decide +kernel
theorem dX8_discard_53 : decode cX8_discard 53 = .ok (.getfield 9, 3) := by decide +kernel
theorem dX8_discard_56 : decode cX8_discard 56 = .ok (.iload_n 1, 1) := by decide +kernel
theorem dX8_discard_57 : decode cX8_discard 57 = .ok (.invokevirtual 124, 3) := by decide +kernel
theorem dX8_discard_60 : decode cX8_discard 60 = .ok (.iload_n 2, 1) := by decide +kernel
theorem dX8_discard_61 : decode cX8_discard 61 = .ok (.ireturn, 1) := by decide +kernel
theorem dX8_carryOut_0 : decode cX8_carryOut 0 = .ok (.aload_n 1, 1) := by decide +kernel
theorem dX8_carryOut_1 : decode cX8_carryOut 1 = .ok (.getfield 133, 3) := by decide +kernel
theorem dX8_carryOut_4 : decode cX8_carryOut 4 = .ok (.tableswitch 211 97 119 #[161, 117, 211, 188, 211, 108, 211, 135, 211, 211, 211, 170, 211, 193, 126, 211, 211, 211, 202, 152, 211, 211, 179], 108) := by decide +kernel
theorem dX8_carryOut_112 : decode cX8_carryOut 112 = .ok (.aload_n 0, 1) := by decide +kernel
theorem dX8_carryOut_113 : decode cX8_carryOut 113 = .ok (.aload_n 1, 1) := by decide +kernel
theorem dX8_carryOut_114 : decode cX8_carryOut 114 = .ok (.getfield 139, 3) := by decide +kernel
theorem dX8_carryOut_117 : decode cX8_carryOut 117 = .ok (.invokevirtual 142, 3) := by decide +kernel
theorem dX8_carryOut_120 : decode cX8_carryOut 120 = .ok (.ireturn, 1) := by decide +kernel
theorem dX8_carryOut_121 : decode cX8_carryOut 121 = .ok (.aload_n 0, 1) := by decide +kernel
theorem dX8_carryOut_122 : decode cX8_carryOut 122 = .ok (.aload_n 1, 1) := by decide +kernel
theorem dX8_carryOut_123 : decode cX8_carryOut 123 = .ok (.getfield 139, 3) := by decide +kernel
theorem dX8_carryOut_126 : decode cX8_carryOut 126 = .ok (.invokevirtual 145, 3) := by decide +kernel
theorem dX8_carryOut_129 : decode cX8_carryOut 129 = .ok (.ireturn, 1) := by decide +kernel
theorem dX8_carryOut_130 : decode cX8_carryOut 130 = .ok (.aload_n 0, 1) := by decide +kernel
theorem dX8_carryOut_131 : decode cX8_carryOut 131 = .ok (.aload_n 1, 1) := by decide +kernel
theorem dX8_carryOut_132 : decode cX8_carryOut 132 = .ok (.getfield 139, 3) := by decide +kernel
theorem dX8_carryOut_135 : decode cX8_carryOut 135 = .ok (.invokevirtual 148, 3) := by decide +kernel
theorem dX8_carryOut_138 : decode cX8_carryOut 138 = .ok (.ireturn, 1) := by decide +kernel
theorem dX8_carryOut_139 : decode cX8_carryOut 139 = .ok (.aload_n 0, 1) := by decide +kernel
theorem dX8_carryOut_140 : decode cX8_carryOut 140 = .ok (.aload_n 1, 1) := by decide +kernel
theorem dX8_carryOut_141 : decode cX8_carryOut 141 = .ok (.getfield 139, 3) := by decide +kernel
theorem dX8_carryOut_144 : decode cX8_carryOut 144 = .ok (.aload_n 1, 1) := by decide +kernel
theorem dX8_carryOut_145 : decode cX8_carryOut 145 = .ok (.getfield 151, 3) := by decide +kernel
theorem dX8_carryOut_148 : decode cX8_carryOut 148 = .ok (.aload_n 1, 1) := by decide +kernel
theorem dX8_carryOut_149 : decode cX8_carryOut 149 = .ok (.getfield 152, 3) := by decide +kernel
theorem dX8_carryOut_152 : decode cX8_carryOut 152 = .ok (.invokevirtual 155, 3) := by decide +kernel
theorem dX8_carryOut_155 : decode cX8_carryOut 155 = .ok (.ireturn, 1) := by decide +kernel
theorem dX8_carryOut_156 : decode cX8_carryOut 156 = .ok (.aload_n 0, 1) := by decide +kernel
theorem dX8_carryOut_157 : decode cX8_carryOut 157 = .ok (.aload_n 1, 1) := by decide +kernel
theorem dX8_carryOut_158 : decode cX8_carryOut 158 = .ok (.getfield 139, 3) := by decide +kernel
theorem dX8_carryOut_161 : decode cX8_carryOut 161 = .ok (.invokevirtual 159, 3) := by decide +kernel
theorem dX8_carryOut_164 : decode cX8_carryOut 164 = .ok (.ireturn, 1) := by decide +kernel
theorem dX8_carryOut_165 : decode cX8_carryOut 165 = .ok (.aload_n 0, 1) := by decide +kernel
theorem dX8_carryOut_166 : decode cX8_carryOut 166 = .ok (.aload_n 1, 1) := by decide +kernel
theorem dX8_carryOut_167 : decode cX8_carryOut 167 = .ok (.getfield 139, 3) := by decide +kernel
theorem dX8_carryOut_170 : decode cX8_carryOut 170 = .ok (.invokevirtual 162, 3) := by decide +kernel
theorem dX8_carryOut_173 : decode cX8_carryOut 173 = .ok (.ireturn, 1) := by decide +kernel
theorem dX8_carryOut_174 : decode cX8_carryOut 174 = .ok (.aload_n 0, 1) := by decide +kernel
theorem dX8_carryOut_175 : decode cX8_carryOut 175 = .ok (.aload_n 1, 1) := by decide +kernel
theorem dX8_carryOut_176 : decode cX8_carryOut 176 = .ok (.getfield 139, 3) := by decide +kernel
theorem dX8_carryOut_179 : decode cX8_carryOut 179 = .ok (.invokevirtual 165, 3) := by decide +kernel
theorem dX8_carryOut_182 : decode cX8_carryOut 182 = .ok (.ireturn, 1) := by decide +kernel
theorem dX8_carryOut_183 : decode cX8_carryOut 183 = .ok (.aload_n 0, 1) := by decide +kernel
theorem dX8_carryOut_184 : decode cX8_carryOut 184 = .ok (.aload_n 1, 1) := by decide +kernel
theorem dX8_carryOut_185 : decode cX8_carryOut 185 = .ok (.getfield 139, 3) := by decide +kernel
theorem dX8_carryOut_188 : decode cX8_carryOut 188 = .ok (.invokevirtual 168, 3) := by decide +kernel
theorem dX8_carryOut_191 : decode cX8_carryOut 191 = .ok (.ireturn, 1) := by decide +kernel
theorem dX8_carryOut_192 : decode cX8_carryOut 192 = .ok (.aload_n 0, 1) := by decide +kernel
theorem dX8_carryOut_193 : decode cX8_carryOut 193 = .ok (.invokevirtual 171, 3) := by decide +kernel
theorem dX8_carryOut_196 : decode cX8_carryOut 196 = .ok (.ireturn, 1) := by decide +kernel
theorem dX8_carryOut_197 : decode cX8_carryOut 197 = .ok (.aload_n 0, 1) := by decide +kernel
theorem dX8_carryOut_198 : decode cX8_carryOut 198 = .ok (.aload_n 1, 1) := by decide +kernel
theorem dX8_carryOut_199 : decode cX8_carryOut 199 = .ok (.getfield 139, 3) := by decide +kernel
theorem dX8_carryOut_202 : decode cX8_carryOut 202 = .ok (.invokevirtual 174, 3) := by decide +kernel
theorem dX8_carryOut_205 : decode cX8_carryOut 205 = .ok (.ireturn, 1) := by decide +kernel
theorem dX8_carryOut_206 : decode cX8_carryOut 206 = .ok (.aload_n 0, 1) := by decide +kernel
theorem dX8_carryOut_207 : decode cX8_carryOut 207 = .ok (.aload_n 1, 1) := by decide +kernel
theorem dX8_carryOut_208 : decode cX8_carryOut 208 = .ok (.getfield 139, 3) := by decide +kernel
theorem dX8_carryOut_211 : decode cX8_carryOut 211 = .ok (.invokevirtual 177, 3) := by decide +kernel
theorem dX8_carryOut_214 : decode cX8_carryOut 214 = .ok (.ireturn, 1) := by decide +kernel
theorem dX8_carryOut_215 : decode cX8_carryOut 215 = .ok (.aload_n 0, 1) := by decide +kernel
theorem dX8_carryOut_216 : decode cX8_carryOut 216 = .ok (.aload_n 1, 1) := by decide +kernel
theorem dX8_carryOut_217 : decode cX8_carryOut 217 = .ok (.getfield 139, 3) := by decide +kernel
theorem dX8_carryOut_220 : decode cX8_carryOut 220 = .ok (.invokevirtual 180, 3) := by decide +kernel
theorem dX8_carryOut_223 : decode cX8_carryOut 223 = .ok (.ireturn, 1) := by decide +kernel
theorem dX9_init_0 : decode cX9_init 0 = .ok (.aload_n 0, 1) := by decide +kernel
theorem dX9_init_1 : decode cX9_init 1 = .ok (.invokespecial 3, 3) := by decide +kernel
theorem dX9_init_4 : decode cX9_init 4 = .ok (.aload_n 0, 1) := by decide +kernel
theorem dX9_init_5 : decode cX9_init 5 = .ok (.new 9, 3) := by decide +kernel
theorem dX9_init_8 : decode cX9_init 8 = .ok (.dup, 1) := by decide +kernel
theorem dX9_init_9 : decode cX9_init 9 = .ok (.invokespecial 11, 3) := by decide +kernel
theorem dX9_init_12 : decode cX9_init 12 = .ok (.putfield 12, 3) := by decide +kernel
theorem dX9_init_15 : decode cX9_init 15 = .ok (.aload_n 0, 1) := by decide +kernel
theorem dX9_init_16 : decode cX9_init 16 = .ok (.new 9, 3) := by decide +kernel
theorem dX9_init_19 : decode cX9_init 19 = .ok (.dup, 1) := by decide +kernel
theorem dX9_init_20 : decode cX9_init 20 = .ok (.invokespecial 11, 3) := by decide +kernel
theorem dX9_init_23 : decode cX9_init 23 = .ok (.putfield 16, 3) := by decide +kernel
theorem dX9_init_26 : decode cX9_init 26 = .ok (.aload_n 0, 1) := by decide +kernel
theorem dX9_init_27 : decode cX9_init 27 = .ok (.new 9, 3) := by decide +kernel
theorem dX9_init_30 : decode cX9_init 30 = .ok (.dup, 1) := by decide +kernel
theorem dX9_init_31 : decode cX9_init 31 = .ok (.invokespecial 11, 3) := by decide +kernel
theorem dX9_init_34 : decode cX9_init 34 = .ok (.putfield 19, 3) := by decide +kernel
theorem dX9_init_37 : decode cX9_init 37 = .ok (.aload_n 0, 1) := by decide +kernel
theorem dX9_init_38 : decode cX9_init 38 = .ok (.new 22, 3) := by decide +kernel
theorem dX9_init_41 : decode cX9_init 41 = .ok (.dup, 1) := by decide +kernel
theorem dX9_init_42 : decode cX9_init 42 = .ok (.invokespecial 24, 3) := by decide +kernel
theorem dX9_init_45 : decode cX9_init 45 = .ok (.putfield 25, 3) := by decide +kernel
theorem dX9_init_48 : decode cX9_init 48 = .ok (.aload_n 0, 1) := by decide +kernel
theorem dX9_init_49 : decode cX9_init 49 = .ok (.new 29, 3) := by decide +kernel
theorem dX9_init_52 : decode cX9_init 52 = .ok (.dup, 1) := by decide +kernel
theorem dX9_init_53 : decode cX9_init 53 = .ok (.invokespecial 31, 3) := by decide +kernel
theorem dX9_init_56 : decode cX9_init 56 = .ok (.putfield 32, 3) := by decide +kernel
theorem dX9_init_59 : decode cX9_init 59 = .ok (.aload_n 0, 1) := by decide +kernel
theorem dX9_init_60 : decode cX9_init 60 = .ok (.new 36, 3) := by decide +kernel
theorem dX9_init_63 : decode cX9_init 63 = .ok (.dup, 1) := by decide +kernel
theorem dX9_init_64 : decode cX9_init 64 = .ok (.aload_n 0, 1) := by decide +kernel
theorem dX9_init_65 : decode cX9_init 65 = .ok (.getfield 12, 3) := by decide +kernel
theorem dX9_init_68 : decode cX9_init 68 = .ok (.aload_n 0, 1) := by decide +kernel
theorem dX9_init_69 : decode cX9_init 69 = .ok (.getfield 32, 3) := by decide +kernel
theorem dX9_init_72 : decode cX9_init 72 = .ok (.invokespecial 38, 3) := by decide +kernel
theorem dX9_init_75 : decode cX9_init 75 = .ok (.putfield 41, 3) := by decide +kernel
theorem dX9_init_78 : decode cX9_init 78 = .ok (.aload_n 0, 1) := by decide +kernel
theorem dX9_init_79 : decode cX9_init 79 = .ok (.new 45, 3) := by decide +kernel
theorem dX9_init_82 : decode cX9_init 82 = .ok (.dup, 1) := by decide +kernel
theorem dX9_init_83 : decode cX9_init 83 = .ok (.aload_n 0, 1) := by decide +kernel
theorem dX9_init_84 : decode cX9_init 84 = .ok (.getfield 12, 3) := by decide +kernel
theorem dX9_init_87 : decode cX9_init 87 = .ok (.invokespecial 47, 3) := by decide +kernel
theorem dX9_init_90 : decode cX9_init 90 = .ok (.putfield 50, 3) := by decide +kernel
theorem dX9_init_93 : decode cX9_init 93 = .ok (.aload_n 0, 1) := by decide +kernel
theorem dX9_init_94 : decode cX9_init 94 = .ok (.new 54, 3) := by decide +kernel
theorem dX9_init_97 : decode cX9_init 97 = .ok (.dup, 1) := by decide +kernel
theorem dX9_init_98 : decode cX9_init 98 = .ok (.invokespecial 56, 3) := by decide +kernel
theorem dX9_init_101 : decode cX9_init 101 = .ok (.putfield 57, 3) := by decide +kernel
theorem dX9_init_104 : decode cX9_init 104 = .ok (.aload_n 0, 1) := by decide +kernel
theorem dX9_init_105 : decode cX9_init 105 = .ok (.new 61, 3) := by decide +kernel
theorem dX9_init_108 : decode cX9_init 108 = .ok (.dup, 1) := by decide +kernel
theorem dX9_init_109 : decode cX9_init 109 = .ok (.invokespecial 63, 3) := by decide +kernel
theorem dX9_init_112 : decode cX9_init 112 = .ok (.putfield 64, 3) := by decide +kernel
theorem dX9_init_115 : decode cX9_init 115 = .ok (.return_, 1) := by decide +kernel
theorem dX9_fish_0 : decode cX9_fish 0 = .ok (.aload_n 0, 1) := by decide +kernel
theorem dX9_fish_1 : decode cX9_fish 1 = .ok (.getfield 16, 3) := by decide +kernel
theorem dX9_fish_4 : decode cX9_fish 4 = .ok (.aload_n 0, 1) := by decide +kernel
theorem dX9_fish_5 : decode cX9_fish 5 = .ok (.getfield 12, 3) := by decide +kernel
theorem dX9_fish_8 : decode cX9_fish 8 = .ok (.invokevirtual 68, 3) := by decide +kernel
theorem dX9_fish_11 : decode cX9_fish 11 = .ok (.aload_n 0, 1) := by decide +kernel
theorem dX9_fish_12 : decode cX9_fish 12 = .ok (.aload_n 0, 1) := by decide +kernel
theorem dX9_fish_13 : decode cX9_fish 13 = .ok (.getfield 41, 3) := by decide +kernel
theorem dX9_fish_16 : decode cX9_fish 16 = .ok (.iload_n 1, 1) := by decide +kernel
theorem dX9_fish_17 : decode cX9_fish 17 = .ok (.invokevirtual 71, 3) := by decide +kernel
theorem dX9_fish_20 : decode cX9_fish 20 = .ok (.invokevirtual 75, 3) := by decide +kernel
theorem dX9_fish_23 : decode cX9_fish 23 = .ok (.ireturn, 1) := by decide +kernel
theorem dX9_brine_0 : decode cX9_brine 0 = .ok (.aload_n 0, 1) := by decide +kernel
theorem dX9_brine_1 : decode cX9_brine 1 = .ok (.getfield 16, 3) := by decide +kernel
theorem dX9_brine_4 : decode cX9_brine 4 = .ok (.aload_n 0, 1) := by decide +kernel
theorem dX9_brine_5 : decode cX9_brine 5 = .ok (.getfield 12, 3) := by decide +kernel
theorem dX9_brine_8 : decode cX9_brine 8 = .ok (.invokevirtual 68, 3) := by decide +kernel
theorem dX9_brine_11 : decode cX9_brine 11 = .ok (.aload_n 0, 1) := by decide +kernel
theorem dX9_brine_12 : decode cX9_brine 12 = .ok (.aload_n 0, 1) := by decide +kernel
theorem dX9_brine_13 : decode cX9_brine 13 = .ok (.getfield 41, 3) := by decide +kernel
theorem dX9_brine_16 : decode cX9_brine 16 = .ok (.iload_n 1, 1) := by decide +kernel
theorem dX9_brine_17 : decode cX9_brine 17 = .ok (.invokevirtual 78, 3) := by decide +kernel
theorem dX9_brine_20 : decode cX9_brine 20 = .ok (.invokevirtual 75, 3) := by decide +kernel
theorem dX9_brine_23 : decode cX9_brine 23 = .ok (.ireturn, 1) := by decide +kernel
theorem dX9_out_0 : decode cX9_out 0 = .ok (.aload_n 0, 1) := by decide +kernel
theorem dX9_out_1 : decode cX9_out 1 = .ok (.getfield 16, 3) := by decide +kernel
theorem dX9_out_4 : decode cX9_out 4 = .ok (.aload_n 0, 1) := by decide +kernel
theorem dX9_out_5 : decode cX9_out 5 = .ok (.getfield 12, 3) := by decide +kernel
theorem dX9_out_8 : decode cX9_out 8 = .ok (.invokevirtual 68, 3) := by decide +kernel
theorem dX9_out_11 : decode cX9_out 11 = .ok (.aload_n 0, 1) := by decide +kernel
theorem dX9_out_12 : decode cX9_out 12 = .ok (.aload_n 0, 1) := by decide +kernel
theorem dX9_out_13 : decode cX9_out 13 = .ok (.getfield 41, 3) := by decide +kernel
theorem dX9_out_16 : decode cX9_out 16 = .ok (.iload_n 1, 1) := by decide +kernel
theorem dX9_out_17 : decode cX9_out 17 = .ok (.invokevirtual 81, 3) := by decide +kernel
theorem dX9_out_20 : decode cX9_out 20 = .ok (.invokevirtual 75, 3) := by decide +kernel
theorem dX9_out_23 : decode cX9_out 23 = .ok (.ireturn, 1) := by decide +kernel
theorem dX9_hang_0 : decode cX9_hang 0 = .ok (.aload_n 0, 1) := by decide +kernel
theorem dX9_hang_1 : decode cX9_hang 1 = .ok (.getfield 16, 3) := by decide +kernel
theorem dX9_hang_4 : decode cX9_hang 4 = .ok (.aload_n 0, 1) := by decide +kernel
theorem dX9_hang_5 : decode cX9_hang 5 = .ok (.getfield 12, 3) := by decide +kernel
theorem dX9_hang_8 : decode cX9_hang 8 = .ok (.invokevirtual 68, 3) := by decide +kernel
theorem dX9_hang_11 : decode cX9_hang 11 = .ok (.aload_n 0, 1) := by decide +kernel
theorem dX9_hang_12 : decode cX9_hang 12 = .ok (.aload_n 0, 1) := by decide +kernel
theorem dX9_hang_13 : decode cX9_hang 13 = .ok (.getfield 41, 3) := by decide +kernel
theorem dX9_hang_16 : decode cX9_hang 16 = .ok (.iload_n 1, 1) := by decide +kernel
theorem dX9_hang_17 : decode cX9_hang 17 = .ok (.iload_n 2, 1) := by decide +kernel
theorem dX9_hang_18 : decode cX9_hang 18 = .ok (.iload_n 3, 1) := by decide +kernel
theorem dX9_hang_19 : decode cX9_hang 19 = .ok (.invokevirtual 84, 3) := by decide +kernel
theorem dX9_hang_22 : decode cX9_hang 22 = .ok (.invokevirtual 75, 3) := by decide +kernel
theorem dX9_hang_25 : decode cX9_hang 25 = .ok (.ireturn, 1) := by decide +kernel
theorem dX9_turn_0 : decode cX9_turn 0 = .ok (.aload_n 0, 1) := by decide +kernel
theorem dX9_turn_1 : decode cX9_turn 1 = .ok (.getfield 16, 3) := by decide +kernel
theorem dX9_turn_4 : decode cX9_turn 4 = .ok (.aload_n 0, 1) := by decide +kernel
theorem dX9_turn_5 : decode cX9_turn 5 = .ok (.getfield 12, 3) := by decide +kernel
theorem dX9_turn_8 : decode cX9_turn 8 = .ok (.invokevirtual 68, 3) := by decide +kernel
theorem dX9_turn_11 : decode cX9_turn 11 = .ok (.aload_n 0, 1) := by decide +kernel
theorem dX9_turn_12 : decode cX9_turn 12 = .ok (.aload_n 0, 1) := by decide +kernel
theorem dX9_turn_13 : decode cX9_turn 13 = .ok (.getfield 41, 3) := by decide +kernel
theorem dX9_turn_16 : decode cX9_turn 16 = .ok (.iload_n 1, 1) := by decide +kernel
theorem dX9_turn_17 : decode cX9_turn 17 = .ok (.invokevirtual 88, 3) := by decide +kernel
theorem dX9_turn_20 : decode cX9_turn 20 = .ok (.invokevirtual 75, 3) := by decide +kernel
theorem dX9_turn_23 : decode cX9_turn 23 = .ok (.ireturn, 1) := by decide +kernel
theorem dX9_turnAll_0 : decode cX9_turnAll 0 = .ok (.aload_n 0, 1) := by decide +kernel
theorem dX9_turnAll_1 : decode cX9_turnAll 1 = .ok (.getfield 16, 3) := by decide +kernel
theorem dX9_turnAll_4 : decode cX9_turnAll 4 = .ok (.aload_n 0, 1) := by decide +kernel
theorem dX9_turnAll_5 : decode cX9_turnAll 5 = .ok (.getfield 12, 3) := by decide +kernel
theorem dX9_turnAll_8 : decode cX9_turnAll 8 = .ok (.invokevirtual 68, 3) := by decide +kernel
theorem dX9_turnAll_11 : decode cX9_turnAll 11 = .ok (.aload_n 0, 1) := by decide +kernel
theorem dX9_turnAll_12 : decode cX9_turnAll 12 = .ok (.aload_n 0, 1) := by decide +kernel
theorem dX9_turnAll_13 : decode cX9_turnAll 13 = .ok (.getfield 41, 3) := by decide +kernel
theorem dX9_turnAll_16 : decode cX9_turnAll 16 = .ok (.iload_n 1, 1) := by decide +kernel
theorem dX9_turnAll_17 : decode cX9_turnAll 17 = .ok (.invokevirtual 91, 3) := by decide +kernel
theorem dX9_turnAll_20 : decode cX9_turnAll 20 = .ok (.invokevirtual 75, 3) := by decide +kernel
theorem dX9_turnAll_23 : decode cX9_turnAll 23 = .ok (.ireturn, 1) := by decide +kernel
theorem dX9_logs_0 : decode cX9_logs 0 = .ok (.aload_n 0, 1) := by decide +kernel
theorem dX9_logs_1 : decode cX9_logs 1 = .ok (.getfield 16, 3) := by decide +kernel
theorem dX9_logs_4 : decode cX9_logs 4 = .ok (.aload_n 0, 1) := by decide +kernel
theorem dX9_logs_5 : decode cX9_logs 5 = .ok (.getfield 12, 3) := by decide +kernel
theorem dX9_logs_8 : decode cX9_logs 8 = .ok (.invokevirtual 68, 3) := by decide +kernel
theorem dX9_logs_11 : decode cX9_logs 11 = .ok (.aload_n 0, 1) := by decide +kernel
theorem dX9_logs_12 : decode cX9_logs 12 = .ok (.aload_n 0, 1) := by decide +kernel
theorem dX9_logs_13 : decode cX9_logs 13 = .ok (.getfield 41, 3) := by decide +kernel
theorem dX9_logs_16 : decode cX9_logs 16 = .ok (.iload_n 1, 1) := by decide +kernel
theorem dX9_logs_17 : decode cX9_logs 17 = .ok (.invokevirtual 94, 3) := by decide +kernel
theorem dX9_logs_20 : decode cX9_logs 20 = .ok (.invokevirtual 75, 3) := by decide +kernel
theorem dX9_logs_23 : decode cX9_logs 23 = .ok (.ireturn, 1) := by decide +kernel
theorem dX9_wood_0 : decode cX9_wood 0 = .ok (.aload_n 0, 1) := by decide +kernel
theorem dX9_wood_1 : decode cX9_wood 1 = .ok (.getfield 16, 3) := by decide +kernel
theorem dX9_wood_4 : decode cX9_wood 4 = .ok (.aload_n 0, 1) := by decide +kernel
theorem dX9_wood_5 : decode cX9_wood 5 = .ok (.getfield 12, 3) := by decide +kernel
theorem dX9_wood_8 : decode cX9_wood 8 = .ok (.invokevirtual 68, 3) := by decide +kernel
theorem dX9_wood_11 : decode cX9_wood 11 = .ok (.aload_n 0, 1) := by decide +kernel
theorem dX9_wood_12 : decode cX9_wood 12 = .ok (.aload_n 0, 1) := by decide +kernel
theorem dX9_wood_13 : decode cX9_wood 13 = .ok (.getfield 41, 3) := by decide +kernel
theorem dX9_wood_16 : decode cX9_wood 16 = .ok (.iload_n 1, 1) := by decide +kernel
theorem dX9_wood_17 : decode cX9_wood 17 = .ok (.invokevirtual 97, 3) := by decide +kernel
theorem dX9_wood_20 : decode cX9_wood 20 = .ok (.invokevirtual 75, 3) := by decide +kernel
theorem dX9_wood_23 : decode cX9_wood 23 = .ok (.ireturn, 1) := by decide +kernel
theorem dX9_day_0 : decode cX9_day 0 = .ok (.aload_n 0, 1) := by decide +kernel
theorem dX9_day_1 : decode cX9_day 1 = .ok (.getfield 16, 3) := by decide +kernel
theorem dX9_day_4 : decode cX9_day 4 = .ok (.aload_n 0, 1) := by decide +kernel
theorem dX9_day_5 : decode cX9_day 5 = .ok (.getfield 12, 3) := by decide +kernel
theorem dX9_day_8 : decode cX9_day 8 = .ok (.invokevirtual 68, 3) := by decide +kernel
theorem dX9_day_11 : decode cX9_day 11 = .ok (.aload_n 0, 1) := by decide +kernel
theorem dX9_day_12 : decode cX9_day 12 = .ok (.aload_n 0, 1) := by decide +kernel
theorem dX9_day_13 : decode cX9_day 13 = .ok (.getfield 41, 3) := by decide +kernel
theorem dX9_day_16 : decode cX9_day 16 = .ok (.invokevirtual 100, 3) := by decide +kernel
theorem dX9_day_19 : decode cX9_day 19 = .ok (.invokevirtual 75, 3) := by decide +kernel
theorem dX9_day_22 : decode cX9_day 22 = .ok (.ireturn, 1) := by decide +kernel
theorem dX9_hours_0 : decode cX9_hours 0 = .ok (.aload_n 0, 1) := by decide +kernel
theorem dX9_hours_1 : decode cX9_hours 1 = .ok (.getfield 16, 3) := by decide +kernel
theorem dX9_hours_4 : decode cX9_hours 4 = .ok (.aload_n 0, 1) := by decide +kernel
theorem dX9_hours_5 : decode cX9_hours 5 = .ok (.getfield 12, 3) := by decide +kernel
theorem dX9_hours_8 : decode cX9_hours 8 = .ok (.invokevirtual 68, 3) := by decide +kernel
theorem dX9_hours_11 : decode cX9_hours 11 = .ok (.aload_n 0, 1) := by decide +kernel
theorem dX9_hours_12 : decode cX9_hours 12 = .ok (.aload_n 0, 1) := by decide +kernel
theorem dX9_hours_13 : decode cX9_hours 13 = .ok (.getfield 41, 3) := by decide +kernel
theorem dX9_hours_16 : decode cX9_hours 16 = .ok (.iload_n 1, 1) := by decide +kernel
theorem dX9_hours_17 : decode cX9_hours 17 = .ok (.invokevirtual 104, 3) := by decide +kernel
theorem dX9_hours_20 : decode cX9_hours 20 = .ok (.invokevirtual 75, 3) := by decide +kernel
theorem dX9_hours_23 : decode cX9_hours 23 = .ok (.ireturn, 1) := by decide +kernel
theorem dX9_sell_0 : decode cX9_sell 0 = .ok (.aload_n 0, 1) := by decide +kernel
theorem dX9_sell_1 : decode cX9_sell 1 = .ok (.getfield 16, 3) := by decide +kernel
theorem dX9_sell_4 : decode cX9_sell 4 = .ok (.aload_n 0, 1) := by decide +kernel
theorem dX9_sell_5 : decode cX9_sell 5 = .ok (.getfield 12, 3) := by decide +kernel
theorem dX9_sell_8 : decode cX9_sell 8 = .ok (.invokevirtual 68, 3) := by decide +kernel
theorem dX9_sell_11 : decode cX9_sell 11 = .ok (.aload_n 0, 1) := by decide +kernel
theorem dX9_sell_12 : decode cX9_sell 12 = .ok (.aload_n 0, 1) := by decide +kernel
theorem dX9_sell_13 : decode cX9_sell 13 = .ok (.getfield 41, 3) := by decide +kernel
theorem dX9_sell_16 : decode cX9_sell 16 = .ok (.iload_n 1, 1) := by decide +kernel
theorem dX9_sell_17 : decode cX9_sell 17 = .ok (.invokevirtual 107, 3) := by decide +kernel
theorem dX9_sell_20 : decode cX9_sell 20 = .ok (.invokevirtual 75, 3) := by decide +kernel
theorem dX9_sell_23 : decode cX9_sell 23 = .ok (.ireturn, 1) := by decide +kernel
theorem dX9_throwAway_0 : decode cX9_throwAway 0 = .ok (.aload_n 0, 1) := by decide +kernel
theorem dX9_throwAway_1 : decode cX9_throwAway 1 = .ok (.getfield 16, 3) := by decide +kernel
theorem dX9_throwAway_4 : decode cX9_throwAway 4 = .ok (.aload_n 0, 1) := by decide +kernel
theorem dX9_throwAway_5 : decode cX9_throwAway 5 = .ok (.getfield 12, 3) := by decide +kernel
theorem dX9_throwAway_8 : decode cX9_throwAway 8 = .ok (.invokevirtual 68, 3) := by decide +kernel
theorem dX9_throwAway_11 : decode cX9_throwAway 11 = .ok (.aload_n 0, 1) := by decide +kernel
theorem dX9_throwAway_12 : decode cX9_throwAway 12 = .ok (.aload_n 0, 1) := by decide +kernel
theorem dX9_throwAway_13 : decode cX9_throwAway 13 = .ok (.getfield 41, 3) := by decide +kernel
theorem dX9_throwAway_16 : decode cX9_throwAway 16 = .ok (.iload_n 1, 1) := by decide +kernel
theorem dX9_throwAway_17 : decode cX9_throwAway 17 = .ok (.invokevirtual 110, 3) := by decide +kernel
theorem dX9_throwAway_20 : decode cX9_throwAway 20 = .ok (.invokevirtual 75, 3) := by decide +kernel
theorem dX9_throwAway_23 : decode cX9_throwAway 23 = .ok (.ireturn, 1) := by decide +kernel
theorem dX9_fishOf_0 : decode cX9_fishOf 0 = .ok (.aload_n 0, 1) := by decide +kernel
theorem dX9_fishOf_1 : decode cX9_fishOf 1 = .ok (.iload_n 1, 1) := by decide +kernel
theorem dX9_fishOf_2 : decode cX9_fishOf 2 = .ok (.invokevirtual 113, 3) := by decide +kernel
theorem dX9_fishOf_5 : decode cX9_fishOf 5 = .ok (.iload_n 2, 1) := by decide +kernel
theorem dX9_fishOf_6 : decode cX9_fishOf 6 = .ok (.ifCond .lt 9, 3) := by decide +kernel
theorem dX9_fishOf_9 : decode cX9_fishOf 9 = .ok (.iload_n 2, 1) := by decide +kernel
theorem dX9_fishOf_10 : decode cX9_fishOf 10 = .ok (.bipush 9, 2) := by decide +kernel
theorem dX9_fishOf_12 : decode cX9_fishOf 12 = .ok (.if_icmp .lt 11, 3) := by decide +kernel
theorem dX9_fishOf_15 : decode cX9_fishOf 15 = .ok (.new 117, 3) := by decide +kernel
theorem dX9_fishOf_18 : decode cX9_fishOf 18 = .ok (.dup, 1) := by decide +kernel
theorem dX9_fishOf_19 : decode cX9_fishOf 19 = .ok (.invokespecial 119, 3) := by decide +kernel
theorem dX9_fishOf_22 : decode cX9_fishOf 22 = .ok (.athrow, 1) := by decide +kernel
theorem dX9_fishOf_23 : decode cX9_fishOf 23 = .ok (.aload_n 0, 1) := by decide +kernel
theorem dX9_fishOf_24 : decode cX9_fishOf 24 = .ok (.getfield 12, 3) := by decide +kernel
theorem dX9_fishOf_27 : decode cX9_fishOf 27 = .ok (.iload_n 1, 1) := by decide +kernel
theorem dX9_fishOf_28 : decode cX9_fishOf 28 = .ok (.invokevirtual 120, 3) := by decide +kernel
theorem dX9_fishOf_31 : decode cX9_fishOf 31 = .ok (.iload_n 2, 1) := by decide +kernel
theorem dX9_fishOf_32 : decode cX9_fishOf 32 = .ok (.invokevirtual 124, 3) := by decide +kernel
theorem dX9_fishOf_35 : decode cX9_fishOf 35 = .ok (.ireturn, 1) := by decide +kernel
theorem dX9_sideOf_0 : decode cX9_sideOf 0 = .ok (.aload_n 0, 1) := by decide +kernel
theorem dX9_sideOf_1 : decode cX9_sideOf 1 = .ok (.iload_n 1, 1) := by decide +kernel
theorem dX9_sideOf_2 : decode cX9_sideOf 2 = .ok (.invokevirtual 113, 3) := by decide +kernel
theorem dX9_sideOf_5 : decode cX9_sideOf 5 = .ok (.iload_n 2, 1) := by decide +kernel
theorem dX9_sideOf_6 : decode cX9_sideOf 6 = .ok (.ifCond .lt 8, 3) := by decide +kernel
theorem dX9_sideOf_9 : decode cX9_sideOf 9 = .ok (.iload_n 2, 1) := by decide +kernel
theorem dX9_sideOf_10 : decode cX9_sideOf 10 = .ok (.iconst 2, 1) := by decide +kernel
theorem dX9_sideOf_11 : decode cX9_sideOf 11 = .ok (.if_icmp .lt 11, 3) := by decide +kernel
theorem dX9_sideOf_14 : decode cX9_sideOf 14 = .ok (.new 117, 3) := by decide +kernel
theorem dX9_sideOf_17 : decode cX9_sideOf 17 = .ok (.dup, 1) := by decide +kernel
theorem dX9_sideOf_18 : decode cX9_sideOf 18 = .ok (.invokespecial 119, 3) := by decide +kernel
theorem dX9_sideOf_21 : decode cX9_sideOf 21 = .ok (.athrow, 1) := by decide +kernel
theorem dX9_sideOf_22 : decode cX9_sideOf 22 = .ok (.aload_n 0, 1) := by decide +kernel
theorem dX9_sideOf_23 : decode cX9_sideOf 23 = .ok (.getfield 12, 3) := by decide +kernel
theorem dX9_sideOf_26 : decode cX9_sideOf 26 = .ok (.iload_n 1, 1) := by decide +kernel
theorem dX9_sideOf_27 : decode cX9_sideOf 27 = .ok (.invokevirtual 120, 3) := by decide +kernel
theorem dX9_sideOf_30 : decode cX9_sideOf 30 = .ok (.iload_n 2, 1) := by decide +kernel
theorem dX9_sideOf_31 : decode cX9_sideOf 31 = .ok (.invokevirtual 129, 3) := by decide +kernel
theorem dX9_sideOf_34 : decode cX9_sideOf 34 = .ok (.astore 4, 2) := by decide +kernel
theorem dX9_sideOf_36 : decode cX9_sideOf 36 = .ok (.iload_n 3, 1) := by decide +kernel
theorem dX9_sideOf_37 : decode cX9_sideOf 37 = .ok (.ifCond .eq 11, 3) := by decide +kernel
theorem dX9_sideOf_40 : decode cX9_sideOf 40 = .ok (.aload 4, 2) := by decide +kernel
theorem dX9_sideOf_42 : decode cX9_sideOf 42 = .ok (.getfield 133, 3) := by decide +kernel
theorem dX9_sideOf_45 : decode cX9_sideOf 45 = .ok (.goto 8, 3) := by decide +kernel
theorem dX9_sideOf_48 : decode cX9_sideOf 48 = .ok (.aload 4, 2) := by decide +kernel
theorem dX9_sideOf_50 : decode cX9_sideOf 50 = .ok (.getfield 139, 3) := by decide +kernel
theorem dX9_sideOf_53 : decode cX9_sideOf 53 = .ok (.ireturn, 1) := by decide +kernel
theorem dX9_at_0 : decode cX9_at 0 = .ok (.iload_n 1, 1) := by decide +kernel
theorem dX9_at_1 : decode cX9_at 1 = .ok (.invokestatic 142, 3) := by decide +kernel
theorem dX9_at_4 : decode cX9_at 4 = .ok (.ifCond .eq 10, 3) := by decide +kernel
theorem dX9_at_7 : decode cX9_at 7 = .ok (.iload_n 2, 1) := by decide +kernel
theorem dX9_at_8 : decode cX9_at 8 = .ok (.invokestatic 146, 3) := by decide +kernel
theorem dX9_at_11 : decode cX9_at 11 = .ok (.ifCond .ne 11, 3) := by decide +kernel
theorem dX9_at_14 : decode cX9_at 14 = .ok (.new 149, 3) := by decide +kernel
theorem dX9_at_17 : decode cX9_at 17 = .ok (.dup, 1) := by decide +kernel
theorem dX9_at_18 : decode cX9_at 18 = .ok (.invokespecial 151, 3) := by decide +kernel
theorem dX9_at_21 : decode cX9_at 21 = .ok (.athrow, 1) := by decide +kernel
theorem dX9_at_22 : decode cX9_at 22 = .ok (.aload_n 0, 1) := by decide +kernel
theorem dX9_at_23 : decode cX9_at 23 = .ok (.aload_n 0, 1) := by decide +kernel
theorem dX9_at_24 : decode cX9_at 24 = .ok (.getfield 12, 3) := by decide +kernel
theorem dX9_at_27 : decode cX9_at 27 = .ok (.iload_n 1, 1) := by decide +kernel
theorem dX9_at_28 : decode cX9_at 28 = .ok (.iload_n 2, 1) := by decide +kernel
theorem dX9_at_29 : decode cX9_at 29 = .ok (.invokevirtual 152, 3) := by decide +kernel
theorem dX9_at_32 : decode cX9_at 32 = .ok (.invokevirtual 156, 3) := by decide +kernel
theorem dX9_at_35 : decode cX9_at 35 = .ok (.ireturn, 1) := by decide +kernel
theorem dX9_heat_0 : decode cX9_heat 0 = .ok (.aload_n 0, 1) := by decide +kernel
theorem dX9_heat_1 : decode cX9_heat 1 = .ok (.iload_n 1, 1) := by decide +kernel
theorem dX9_heat_2 : decode cX9_heat 2 = .ok (.invokevirtual 159, 3) := by decide +kernel
theorem dX9_heat_5 : decode cX9_heat 5 = .ok (.aload_n 0, 1) := by decide +kernel
theorem dX9_heat_6 : decode cX9_heat 6 = .ok (.getfield 12, 3) := by decide +kernel
theorem dX9_heat_9 : decode cX9_heat 9 = .ok (.getfield 162, 3) := by decide +kernel
theorem dX9_heat_12 : decode cX9_heat 12 = .ok (.iload_n 1, 1) := by decide +kernel
theorem dX9_heat_13 : decode cX9_heat 13 = .ok (.invokestatic 165, 3) := by decide +kernel
theorem dX9_heat_16 : decode cX9_heat 16 = .ok (.ireturn, 1) := by decide +kernel
theorem dX9_nearest_0 : decode cX9_nearest 0 = .ok (.aload_n 0, 1) := by decide +kernel
theorem dX9_nearest_1 : decode cX9_nearest 1 = .ok (.iload_n 1, 1) := by decide +kernel
theorem dX9_nearest_2 : decode cX9_nearest 2 = .ok (.invokevirtual 113, 3) := by decide +kernel
theorem dX9_nearest_5 : decode cX9_nearest 5 = .ok (.aload_n 0, 1) := by decide +kernel
theorem dX9_nearest_6 : decode cX9_nearest 6 = .ok (.getfield 12, 3) := by decide +kernel
theorem dX9_nearest_9 : decode cX9_nearest 9 = .ok (.iload_n 1, 1) := by decide +kernel
theorem dX9_nearest_10 : decode cX9_nearest 10 = .ok (.invokevirtual 168, 3) := by decide +kernel
theorem dX9_nearest_13 : decode cX9_nearest 13 = .ok (.istore_n 2, 1) := by decide +kernel
theorem dX9_nearest_14 : decode cX9_nearest 14 = .ok (.iload_n 2, 1) := by decide +kernel
theorem dX9_nearest_15 : decode cX9_nearest 15 = .ok (.bipush 10, 2) := by decide +kernel
theorem dX9_nearest_17 : decode cX9_nearest 17 = .ok (.if_icmp .ne 11, 3) := by decide +kernel
theorem dX9_nearest_20 : decode cX9_nearest 20 = .ok (.new 171, 3) := by decide +kernel
theorem dX9_nearest_23 : decode cX9_nearest 23 = .ok (.dup, 1) := by decide +kernel
theorem dX9_nearest_24 : decode cX9_nearest 24 = .ok (.invokespecial 173, 3) := by decide +kernel
theorem dX9_nearest_27 : decode cX9_nearest 27 = .ok (.athrow, 1) := by decide +kernel
theorem dX9_nearest_28 : decode cX9_nearest 28 = .ok (.iload_n 2, 1) := by decide +kernel
theorem dX9_nearest_29 : decode cX9_nearest 29 = .ok (.ireturn, 1) := by decide +kernel
theorem dX9_isCrowded_0 : decode cX9_isCrowded 0 = .ok (.aload_n 0, 1) := by decide +kernel
theorem dX9_isCrowded_1 : decode cX9_isCrowded 1 = .ok (.iload_n 1, 1) := by decide +kernel
theorem dX9_isCrowded_2 : decode cX9_isCrowded 2 = .ok (.invokevirtual 113, 3) := by decide +kernel
theorem dX9_isCrowded_5 : decode cX9_isCrowded 5 = .ok (.aload_n 0, 1) := by decide +kernel
theorem dX9_isCrowded_6 : decode cX9_isCrowded 6 = .ok (.getfield 12, 3) := by decide +kernel
theorem dX9_isCrowded_9 : decode cX9_isCrowded 9 = .ok (.iload_n 1, 1) := by decide +kernel
theorem dX9_isCrowded_10 : decode cX9_isCrowded 10 = .ok (.invokevirtual 174, 3) := by decide +kernel
theorem dX9_isCrowded_13 : decode cX9_isCrowded 13 = .ok (.ireturn, 1) := by decide +kernel
theorem dX9_isDone_0 : decode cX9_isDone 0 = .ok (.aload_n 0, 1) := by decide +kernel
theorem dX9_isDone_1 : decode cX9_isDone 1 = .ok (.iload_n 1, 1) := by decide +kernel
theorem dX9_isDone_2 : decode cX9_isDone 2 = .ok (.invokevirtual 113, 3) := by decide +kernel
theorem dX9_isDone_5 : decode cX9_isDone 5 = .ok (.aload_n 0, 1) := by decide +kernel
theorem dX9_isDone_6 : decode cX9_isDone 6 = .ok (.getfield 12, 3) := by decide +kernel
theorem dX9_isDone_9 : decode cX9_isDone 9 = .ok (.iload_n 1, 1) := by decide +kernel
theorem dX9_isDone_10 : decode cX9_isDone 10 = .ok (.invokevirtual 120, 3) := by decide +kernel
theorem dX9_isDone_13 : decode cX9_isDone 13 = .ok (.invokevirtual 177, 3) := by decide +kernel
theorem dX9_isDone_16 : decode cX9_isDone 16 = .ok (.ireturn, 1) := by decide +kernel
theorem dX9_wouldChar_0 : decode cX9_wouldChar 0 = .ok (.aload_n 0, 1) := by decide +kernel
theorem dX9_wouldChar_1 : decode cX9_wouldChar 1 = .ok (.iload_n 1, 1) := by decide +kernel
theorem dX9_wouldChar_2 : decode cX9_wouldChar 2 = .ok (.invokevirtual 113, 3) := by decide +kernel
theorem dX9_wouldChar_5 : decode cX9_wouldChar 5 = .ok (.aload_n 0, 1) := by decide +kernel
theorem dX9_wouldChar_6 : decode cX9_wouldChar 6 = .ok (.iload_n 2, 1) := by decide +kernel
theorem dX9_wouldChar_7 : decode cX9_wouldChar 7 = .ok (.invokevirtual 181, 3) := by decide +kernel
theorem dX9_wouldChar_10 : decode cX9_wouldChar 10 = .ok (.aload_n 0, 1) := by decide +kernel
theorem dX9_wouldChar_11 : decode cX9_wouldChar 11 = .ok (.getfield 50, 3) := by decide +kernel
theorem dX9_wouldChar_14 : decode cX9_wouldChar 14 = .ok (.iload_n 1, 1) := by decide +kernel
theorem dX9_wouldChar_15 : decode cX9_wouldChar 15 = .ok (.iload_n 2, 1) := by decide +kernel
theorem dX9_wouldChar_16 : decode cX9_wouldChar 16 = .ok (.invokevirtual 184, 3) := by decide +kernel
theorem dX9_wouldChar_19 : decode cX9_wouldChar 19 = .ok (.ireturn, 1) := by decide +kernel
theorem dX9_wouldCharAgain_0 : decode cX9_wouldCharAgain 0 = .ok (.aload_n 0, 1) := by decide +kernel
theorem dX9_wouldCharAgain_1 : decode cX9_wouldCharAgain 1 = .ok (.iload_n 1, 1) := by decide +kernel
theorem dX9_wouldCharAgain_2 : decode cX9_wouldCharAgain 2 = .ok (.invokevirtual 113, 3) := by decide +kernel
theorem dX9_wouldCharAgain_5 : decode cX9_wouldCharAgain 5 = .ok (.aload_n 0, 1) := by decide +kernel
theorem dX9_wouldCharAgain_6 : decode cX9_wouldCharAgain 6 = .ok (.iload_n 2, 1) := by decide +kernel
theorem dX9_wouldCharAgain_7 : decode cX9_wouldCharAgain 7 = .ok (.invokevirtual 181, 3) := by decide +kernel
theorem dX9_wouldCharAgain_10 : decode cX9_wouldCharAgain 10 = .ok (.aload_n 0, 1) := by decide +kernel
theorem dX9_wouldCharAgain_11 : decode cX9_wouldCharAgain 11 = .ok (.getfield 50, 3) := by decide +kernel
theorem dX9_wouldCharAgain_14 : decode cX9_wouldCharAgain 14 = .ok (.iload_n 1, 1) := by decide +kernel
theorem dX9_wouldCharAgain_15 : decode cX9_wouldCharAgain 15 = .ok (.iload_n 2, 1) := by decide +kernel
theorem dX9_wouldCharAgain_16 : decode cX9_wouldCharAgain 16 = .ok (.invokevirtual 187, 3) := by decide +kernel
theorem dX9_wouldCharAgain_19 : decode cX9_wouldCharAgain 19 = .ok (.ireturn, 1) := by decide +kernel
theorem dX9_burnsIn_0 : decode cX9_burnsIn 0 = .ok (.aload_n 0, 1) := by decide +kernel
theorem dX9_burnsIn_1 : decode cX9_burnsIn 1 = .ok (.iload_n 1, 1) := by decide +kernel
theorem dX9_burnsIn_2 : decode cX9_burnsIn 2 = .ok (.invokevirtual 113, 3) := by decide +kernel
theorem dX9_burnsIn_5 : decode cX9_burnsIn 5 = .ok (.aload_n 0, 1) := by decide +kernel
theorem dX9_burnsIn_6 : decode cX9_burnsIn 6 = .ok (.aload_n 0, 1) := by decide +kernel
theorem dX9_burnsIn_7 : decode cX9_burnsIn 7 = .ok (.getfield 50, 3) := by decide +kernel
theorem dX9_burnsIn_10 : decode cX9_burnsIn 10 = .ok (.iload_n 1, 1) := by decide +kernel
theorem dX9_burnsIn_11 : decode cX9_burnsIn 11 = .ok (.invokevirtual 190, 3) := by decide +kernel
theorem dX9_burnsIn_14 : decode cX9_burnsIn 14 = .ok (.invokevirtual 156, 3) := by decide +kernel
theorem dX9_burnsIn_17 : decode cX9_burnsIn 17 = .ok (.ireturn, 1) := by decide +kernel
theorem dX9_doneIn_0 : decode cX9_doneIn 0 = .ok (.aload_n 0, 1) := by decide +kernel
theorem dX9_doneIn_1 : decode cX9_doneIn 1 = .ok (.iload_n 1, 1) := by decide +kernel
theorem dX9_doneIn_2 : decode cX9_doneIn 2 = .ok (.invokevirtual 113, 3) := by decide +kernel
theorem dX9_doneIn_5 : decode cX9_doneIn 5 = .ok (.aload_n 0, 1) := by decide +kernel
theorem dX9_doneIn_6 : decode cX9_doneIn 6 = .ok (.aload_n 0, 1) := by decide +kernel
theorem dX9_doneIn_7 : decode cX9_doneIn 7 = .ok (.getfield 50, 3) := by decide +kernel
theorem dX9_doneIn_10 : decode cX9_doneIn 10 = .ok (.iload_n 1, 1) := by decide +kernel
theorem dX9_doneIn_11 : decode cX9_doneIn 11 = .ok (.invokevirtual 193, 3) := by decide +kernel
theorem dX9_doneIn_14 : decode cX9_doneIn 14 = .ok (.invokevirtual 156, 3) := by decide +kernel
theorem dX9_doneIn_17 : decode cX9_doneIn 17 = .ok (.ireturn, 1) := by decide +kernel
theorem dX9_hottest_0 : decode cX9_hottest 0 = .ok (.aload_n 0, 1) := by decide +kernel
theorem dX9_hottest_1 : decode cX9_hottest 1 = .ok (.aload_n 0, 1) := by decide +kernel
theorem dX9_hottest_2 : decode cX9_hottest 2 = .ok (.getfield 50, 3) := by decide +kernel
theorem dX9_hottest_5 : decode cX9_hottest 5 = .ok (.invokevirtual 196, 3) := by decide +kernel
theorem dX9_hottest_8 : decode cX9_hottest 8 = .ok (.invokevirtual 156, 3) := by decide +kernel
theorem dX9_hottest_11 : decode cX9_hottest 11 = .ok (.ireturn, 1) := by decide +kernel
theorem dX9_bestHook_0 : decode cX9_bestHook 0 = .ok (.aload_n 0, 1) := by decide +kernel
theorem dX9_bestHook_1 : decode cX9_bestHook 1 = .ok (.iload_n 1, 1) := by decide +kernel
theorem dX9_bestHook_2 : decode cX9_bestHook 2 = .ok (.invokevirtual 113, 3) := by decide +kernel
theorem dX9_bestHook_5 : decode cX9_bestHook 5 = .ok (.aload_n 0, 1) := by decide +kernel
theorem dX9_bestHook_6 : decode cX9_bestHook 6 = .ok (.iload_n 2, 1) := by decide +kernel
theorem dX9_bestHook_7 : decode cX9_bestHook 7 = .ok (.invokevirtual 159, 3) := by decide +kernel
theorem dX9_bestHook_10 : decode cX9_bestHook 10 = .ok (.aload_n 0, 1) := by decide +kernel
theorem dX9_bestHook_11 : decode cX9_bestHook 11 = .ok (.aload_n 0, 1) := by decide +kernel
theorem dX9_bestHook_12 : decode cX9_bestHook 12 = .ok (.getfield 12, 3) := by decide +kernel
theorem dX9_bestHook_15 : decode cX9_bestHook 15 = .ok (.iload_n 1, 1) := by decide +kernel
theorem dX9_bestHook_16 : decode cX9_bestHook 16 = .ok (.iload_n 2, 1) := by decide +kernel
theorem dX9_bestHook_17 : decode cX9_bestHook 17 = .ok (.invokevirtual 199, 3) := by decide +kernel
theorem dX9_bestHook_20 : decode cX9_bestHook 20 = .ok (.invokevirtual 156, 3) := by decide +kernel
theorem dX9_bestHook_23 : decode cX9_bestHook 23 = .ok (.ireturn, 1) := by decide +kernel
theorem dX9_crowded_0 : decode cX9_crowded 0 = .ok (.iconst 0, 1) := by decide +kernel
theorem dX9_crowded_1 : decode cX9_crowded 1 = .ok (.istore_n 1, 1) := by decide +kernel
theorem dX9_crowded_2 : decode cX9_crowded 2 = .ok (.iconst 0, 1) := by decide +kernel
theorem dX9_crowded_3 : decode cX9_crowded 3 = .ok (.istore_n 2, 1) := by decide +kernel
theorem dX9_crowded_4 : decode cX9_crowded 4 = .ok (.iload_n 2, 1) := by decide +kernel
theorem dX9_crowded_5 : decode cX9_crowded 5 = .ok (.aload_n 0, 1) := by decide +kernel
theorem dX9_crowded_6 : decode cX9_crowded 6 = .ok (.getfield 12, 3) := by decide +kernel
theorem dX9_crowded_9 : decode cX9_crowded 9 = .ok (.getfield 202, 3) := by decide +kernel
theorem dX9_crowded_12 : decode cX9_crowded 12 = .ok (.if_icmp .ge 28, 3) := by decide +kernel
theorem dX9_crowded_15 : decode cX9_crowded 15 = .ok (.iload_n 1, 1) := by decide +kernel
theorem dX9_crowded_16 : decode cX9_crowded 16 = .ok (.aload_n 0, 1) := by decide +kernel
theorem dX9_crowded_17 : decode cX9_crowded 17 = .ok (.getfield 12, 3) := by decide +kernel
theorem dX9_crowded_20 : decode cX9_crowded 20 = .ok (.iload_n 2, 1) := by decide +kernel
theorem dX9_crowded_21 : decode cX9_crowded 21 = .ok (.invokevirtual 174, 3) := by decide +kernel
theorem dX9_crowded_24 : decode cX9_crowded 24 = .ok (.ifCond .eq 7, 3) := by decide +kernel
theorem dX9_crowded_27 : decode cX9_crowded 27 = .ok (.iconst 1, 1) := by decide +kernel
theorem dX9_crowded_28 : decode cX9_crowded 28 = .ok (.goto 4, 3) := by decide +kernel
theorem dX9_crowded_31 : decode cX9_crowded 31 = .ok (.iconst 0, 1) := by decide +kernel
theorem dX9_crowded_32 : decode cX9_crowded 32 = .ok (.iadd, 1) := by decide +kernel
theorem dX9_crowded_33 : decode cX9_crowded 33 = .ok (.istore_n 1, 1) := by decide +kernel
theorem dX9_crowded_34 : decode cX9_crowded 34 = .ok (.iinc 2 1, 3) := by decide +kernel
theorem dX9_crowded_37 : decode cX9_crowded 37 = .ok (.goto (-33), 3) := by decide +kernel
theorem dX9_crowded_40 : decode cX9_crowded 40 = .ok (.iload_n 1, 1) := by decide +kernel
theorem dX9_crowded_41 : decode cX9_crowded 41 = .ok (.ireturn, 1) := by decide +kernel
theorem dX9_ranked_0 : decode cX9_ranked 0 = .ok (.iload_n 1, 1) := by decide +kernel
theorem dX9_ranked_1 : decode cX9_ranked 1 = .ok (.ifCond .lt 8, 3) := by decide +kernel
theorem dX9_ranked_4 : decode cX9_ranked 4 = .ok (.iload_n 1, 1) := by decide +kernel
theorem dX9_ranked_5 : decode cX9_ranked 5 = .ok (.iconst 5, 1) := by decide +kernel
theorem dX9_ranked_6 : decode cX9_ranked 6 = .ok (.if_icmp .lt 11, 3) := by decide +kernel
theorem dX9_ranked_9 : decode cX9_ranked 9 = .ok (.new 117, 3) := by decide +kernel
theorem dX9_ranked_12 : decode cX9_ranked 12 = .ok (.dup, 1) := by decide +kernel
theorem dX9_ranked_13 : decode cX9_ranked 13 = .ok (.invokespecial 119, 3) := by decide +kernel
theorem dX9_ranked_16 : decode cX9_ranked 16 = .ok (.athrow, 1) := by decide +kernel
theorem dX9_ranked_17 : decode cX9_ranked 17 = .ok (.aload_n 0, 1) := by decide +kernel
theorem dX9_ranked_18 : decode cX9_ranked 18 = .ok (.aload_n 0, 1) := by decide +kernel
theorem dX9_ranked_19 : decode cX9_ranked 19 = .ok (.getfield 12, 3) := by decide +kernel
theorem dX9_ranked_22 : decode cX9_ranked 22 = .ok (.iload_n 1, 1) := by decide +kernel
theorem dX9_ranked_23 : decode cX9_ranked 23 = .ok (.iload_n 2, 1) := by decide +kernel
theorem dX9_ranked_24 : decode cX9_ranked 24 = .ok (.invokevirtual 205, 3) := by decide +kernel
theorem dX9_ranked_27 : decode cX9_ranked 27 = .ok (.invokevirtual 156, 3) := by decide +kernel
theorem dX9_ranked_30 : decode cX9_ranked 30 = .ok (.ireturn, 1) := by decide +kernel
theorem dX9_append_0 : decode cX9_append 0 = .ok (.aload_n 0, 1) := by decide +kernel
theorem dX9_append_1 : decode cX9_append 1 = .ok (.getfield 57, 3) := by decide +kernel
theorem dX9_append_4 : decode cX9_append 4 = .ok (.getfield 208, 3) := by decide +kernel
theorem dX9_append_7 : decode cX9_append 7 = .ok (.bipush 60, 2) := by decide +kernel
theorem dX9_append_9 : decode cX9_append 9 = .ok (.if_icmp .lt 11, 3) := by decide +kernel
theorem dX9_append_12 : decode cX9_append 12 = .ok (.new 211, 3) := by decide +kernel
theorem dX9_append_15 : decode cX9_append 15 = .ok (.dup, 1) := by decide +kernel
theorem dX9_append_16 : decode cX9_append 16 = .ok (.invokespecial 213, 3) := by decide +kernel
theorem dX9_append_19 : decode cX9_append 19 = .ok (.athrow, 1) := by decide +kernel
theorem dX9_append_20 : decode cX9_append 20 = .ok (.aload_n 0, 1) := by decide +kernel
theorem dX9_append_21 : decode cX9_append 21 = .ok (.getfield 57, 3) := by decide +kernel
theorem dX9_append_24 : decode cX9_append 24 = .ok (.iload_n 1, 1) := by decide +kernel
theorem dX9_append_25 : decode cX9_append 25 = .ok (.invokevirtual 214, 3) := by decide +kernel
theorem dX9_append_28 : decode cX9_append 28 = .ok (.aload_n 0, 1) := by decide +kernel
theorem dX9_append_29 : decode cX9_append 29 = .ok (.getfield 57, 3) := by decide +kernel
theorem dX9_append_32 : decode cX9_append 32 = .ok (.getfield 208, 3) := by decide +kernel
theorem dX9_append_35 : decode cX9_append 35 = .ok (.ireturn, 1) := by decide +kernel
theorem dX9_commands_0 : decode cX9_commands 0 = .ok (.aload_n 0, 1) := by decide +kernel
theorem dX9_commands_1 : decode cX9_commands 1 = .ok (.getfield 57, 3) := by decide +kernel
theorem dX9_commands_4 : decode cX9_commands 4 = .ok (.invokevirtual 218, 3) := by decide +kernel
theorem dX9_commands_7 : decode cX9_commands 7 = .ok (.aload_n 0, 1) := by decide +kernel
theorem dX9_commands_8 : decode cX9_commands 8 = .ok (.getfield 57, 3) := by decide +kernel
theorem dX9_commands_11 : decode cX9_commands 11 = .ok (.getfield 221, 3) := by decide +kernel
theorem dX9_commands_14 : decode cX9_commands 14 = .ok (.iconst (-1), 1) := by decide +kernel
theorem dX9_commands_15 : decode cX9_commands 15 = .ok (.if_icmp .eq 18, 3) := by decide +kernel
theorem dX9_commands_18 : decode cX9_commands 18 = .ok (.aload_n 0, 1) := by decide +kernel
theorem dX9_commands_19 : decode cX9_commands 19 = .ok (.getfield 57, 3) := by decide +kernel
theorem dX9_commands_22 : decode cX9_commands 22 = .ok (.invokevirtual 224, 3) := by decide +kernel
theorem dX9_commands_25 : decode cX9_commands 25 = .ok (.new 117, 3) := by decide +kernel
theorem dX9_commands_28 : decode cX9_commands 28 = .ok (.dup, 1) := by decide +kernel
theorem dX9_commands_29 : decode cX9_commands 29 = .ok (.invokespecial 119, 3) := by decide +kernel
theorem dX9_commands_32 : decode cX9_commands 32 = .ok (.athrow, 1) := by decide +kernel
theorem dX9_commands_33 : decode cX9_commands 33 = .ok (.aload_n 0, 1) := by decide +kernel
theorem dX9_commands_34 : decode cX9_commands 34 = .ok (.getfield 16, 3) := by decide +kernel
theorem dX9_commands_37 : decode cX9_commands 37 = .ok (.aload_n 0, 1) := by decide +kernel
theorem dX9_commands_38 : decode cX9_commands 38 = .ok (.getfield 12, 3) := by decide +kernel
theorem dX9_commands_41 : decode cX9_commands 41 = .ok (.invokevirtual 68, 3) := by decide +kernel
theorem dX9_commands_44 : decode cX9_commands 44 = .ok (.aload_n 0, 1) := by decide +kernel
theorem dX9_commands_45 : decode cX9_commands 45 = .ok (.getfield 57, 3) := by decide +kernel
theorem dX9_commands_48 : decode cX9_commands 48 = .ok (.invokevirtual 227, 3) := by decide +kernel
theorem dX9_commands_51 : decode cX9_commands 51 = .ok (.iconst 0, 1) := by decide +kernel
theorem dX9_commands_52 : decode cX9_commands 52 = .ok (.istore_n 1, 1) := by decide +kernel
theorem dX9_commands_53 : decode cX9_commands 53 = .ok (.iconst 0, 1) := by decide +kernel
theorem dX9_commands_54 : decode cX9_commands 54 = .ok (.istore_n 2, 1) := by decide +kernel
theorem dX9_commands_55 : decode cX9_commands 55 = .ok (.iload_n 2, 1) := by decide +kernel
theorem dX9_commands_56 : decode cX9_commands 56 = .ok (.aload_n 0, 1) := by decide +kernel
theorem dX9_commands_57 : decode cX9_commands 57 = .ok (.getfield 57, 3) := by decide +kernel
theorem dX9_commands_60 : decode cX9_commands 60 = .ok (.getfield 230, 3) := by decide +kernel
theorem dX9_commands_63 : decode cX9_commands 63 = .ok (.if_icmp .ge 49, 3) := by decide +kernel
theorem dX9_commands_66 : decode cX9_commands 66 = .ok (.iload_n 1, 1) := by decide +kernel
theorem dX9_commands_67 : decode cX9_commands 67 = .ok (.iconst (-1), 1) := by decide +kernel
theorem dX9_commands_68 : decode cX9_commands 68 = .ok (.if_icmp .eq 44, 3) := by decide +kernel
theorem dX9_commands_71 : decode cX9_commands 71 = .ok (.aload_n 0, 1) := by decide +kernel
theorem dX9_commands_72 : decode cX9_commands 72 = .ok (.getfield 57, 3) := by decide +kernel
theorem dX9_commands_75 : decode cX9_commands 75 = .ok (.invokevirtual 233, 3) := by decide +kernel
theorem dX9_commands_78 : decode cX9_commands 78 = .ok (.pop, 1) := by decide +kernel
theorem dX9_commands_79 : decode cX9_commands 79 = .ok (.aload_n 0, 1) := by decide +kernel
theorem dX9_commands_80 : decode cX9_commands 80 = .ok (.getfield 57, 3) := by decide +kernel
theorem dX9_commands_83 : decode cX9_commands 83 = .ok (.invokevirtual 236, 3) := by decide +kernel
theorem dX9_commands_86 : decode cX9_commands 86 = .ok (.aload_n 0, 1) := by decide +kernel
theorem dX9_commands_87 : decode cX9_commands 87 = .ok (.getfield 32, 3) := by decide +kernel
theorem dX9_commands_90 : decode cX9_commands 90 = .ok (.iload_n 2, 1) := by decide +kernel
theorem dX9_commands_91 : decode cX9_commands 91 = .ok (.putfield 239, 3) := by decide +kernel
theorem dX9_commands_94 : decode cX9_commands 94 = .ok (.aload_n 0, 1) := by decide +kernel
theorem dX9_commands_95 : decode cX9_commands 95 = .ok (.getfield 41, 3) := by decide +kernel
theorem dX9_commands_98 : decode cX9_commands 98 = .ok (.aload_n 0, 1) := by decide +kernel
theorem dX9_commands_99 : decode cX9_commands 99 = .ok (.getfield 57, 3) := by decide +kernel
theorem dX9_commands_102 : decode cX9_commands 102 = .ok (.invokevirtual 242, 3) := by decide +kernel
theorem dX9_commands_105 : decode cX9_commands 105 = .ok (.istore_n 1, 1) := by decide +kernel
theorem dX9_commands_106 : decode cX9_commands 106 = .ok (.iinc 2 1, 3) := by decide +kernel
theorem dX9_commands_109 : decode cX9_commands 109 = .ok (.goto (-54), 3) := by decide +kernel
theorem dX9_commands_112 : decode cX9_commands 112 = .ok (.aload_n 0, 1) := by decide +kernel
theorem dX9_commands_113 : decode cX9_commands 113 = .ok (.getfield 32, 3) := by decide +kernel
theorem dX9_commands_116 : decode cX9_commands 116 = .ok (.iconst 0, 1) := by decide +kernel
theorem dX9_commands_117 : decode cX9_commands 117 = .ok (.putfield 239, 3) := by decide +kernel
theorem dX9_commands_120 : decode cX9_commands 120 = .ok (.aload_n 0, 1) := by decide +kernel
theorem dX9_commands_121 : decode cX9_commands 121 = .ok (.getfield 57, 3) := by decide +kernel
theorem dX9_commands_124 : decode cX9_commands 124 = .ok (.invokevirtual 224, 3) := by decide +kernel
theorem dX9_commands_127 : decode cX9_commands 127 = .ok (.iload_n 1, 1) := by decide +kernel
theorem dX9_commands_128 : decode cX9_commands 128 = .ok (.iconst (-1), 1) := by decide +kernel
theorem dX9_commands_129 : decode cX9_commands 129 = .ok (.if_icmp .ne 22, 3) := by decide +kernel
theorem dX9_commands_132 : decode cX9_commands 132 = .ok (.aload_n 0, 1) := by decide +kernel
theorem dX9_commands_133 : decode cX9_commands 133 = .ok (.getfield 12, 3) := by decide +kernel
theorem dX9_commands_136 : decode cX9_commands 136 = .ok (.aload_n 0, 1) := by decide +kernel
theorem dX9_commands_137 : decode cX9_commands 137 = .ok (.getfield 16, 3) := by decide +kernel
theorem dX9_commands_140 : decode cX9_commands 140 = .ok (.invokevirtual 68, 3) := by decide +kernel
theorem dX9_commands_143 : decode cX9_commands 143 = .ok (.new 246, 3) := by decide +kernel
theorem dX9_commands_146 : decode cX9_commands 146 = .ok (.dup, 1) := by decide +kernel
theorem dX9_commands_147 : decode cX9_commands 147 = .ok (.invokespecial 248, 3) := by decide +kernel
theorem dX9_commands_150 : decode cX9_commands 150 = .ok (.athrow, 1) := by decide +kernel
theorem dX9_commands_151 : decode cX9_commands 151 = .ok (.aload_n 0, 1) := by decide +kernel
theorem dX9_commands_152 : decode cX9_commands 152 = .ok (.getfield 25, 3) := by decide +kernel
theorem dX9_commands_155 : decode cX9_commands 155 = .ok (.aload_n 0, 1) := by decide +kernel
theorem dX9_commands_156 : decode cX9_commands 156 = .ok (.getfield 16, 3) := by decide +kernel
theorem dX9_commands_159 : decode cX9_commands 159 = .ok (.invokevirtual 249, 3) := by decide +kernel
theorem dX9_commands_162 : decode cX9_commands 162 = .ok (.aload_n 0, 1) := by decide +kernel
theorem dX9_commands_163 : decode cX9_commands 163 = .ok (.getfield 57, 3) := by decide +kernel
theorem dX9_commands_166 : decode cX9_commands 166 = .ok (.getfield 230, 3) := by decide +kernel
theorem dX9_commands_169 : decode cX9_commands 169 = .ok (.ireturn, 1) := by decide +kernel
theorem dX9_faultPosition_0 : decode cX9_faultPosition 0 = .ok (.aload_n 0, 1) := by decide +kernel
theorem dX9_faultPosition_1 : decode cX9_faultPosition 1 = .ok (.getfield 57, 3) := by decide +kernel
theorem dX9_faultPosition_4 : decode cX9_faultPosition 4 = .ok (.getfield 221, 3) := by decide +kernel
theorem dX9_faultPosition_7 : decode cX9_faultPosition 7 = .ok (.ireturn, 1) := by decide +kernel
theorem dX9_reason_0 : decode cX9_reason 0 = .ok (.iload_n 1, 1) := by decide +kernel
theorem dX9_reason_1 : decode cX9_reason 1 = .ok (.ifCond .lt 8, 3) := by decide +kernel
theorem dX9_reason_4 : decode cX9_reason 4 = .ok (.iload_n 1, 1) := by decide +kernel
theorem dX9_reason_5 : decode cX9_reason 5 = .ok (.iconst 3, 1) := by decide +kernel
theorem dX9_reason_6 : decode cX9_reason 6 = .ok (.if_icmp .lt 11, 3) := by decide +kernel
theorem dX9_reason_9 : decode cX9_reason 9 = .ok (.new 117, 3) := by decide +kernel
theorem dX9_reason_12 : decode cX9_reason 12 = .ok (.dup, 1) := by decide +kernel
theorem dX9_reason_13 : decode cX9_reason 13 = .ok (.invokespecial 119, 3) := by decide +kernel
theorem dX9_reason_16 : decode cX9_reason 16 = .ok (.athrow, 1) := by decide +kernel
theorem dX9_reason_17 : decode cX9_reason 17 = .ok (.aload_n 0, 1) := by decide +kernel
theorem dX9_reason_18 : decode cX9_reason 18 = .ok (.getfield 32, 3) := by decide +kernel
theorem dX9_reason_21 : decode cX9_reason 21 = .ok (.getfield 252, 3) := by decide +kernel
theorem dX9_reason_24 : decode cX9_reason 24 = .ok (.ifCond .ne 11, 3) := by decide +kernel
theorem dX9_reason_27 : decode cX9_reason 27 = .ok (.new 171, 3) := by decide +kernel
theorem dX9_reason_30 : decode cX9_reason 30 = .ok (.dup, 1) := by decide +kernel
theorem dX9_reason_31 : decode cX9_reason 31 = .ok (.invokespecial 173, 3) := by decide +kernel
theorem dX9_reason_34 : decode cX9_reason 34 = .ok (.athrow, 1) := by decide +kernel
theorem dX9_reason_35 : decode cX9_reason 35 = .ok (.aload_n 0, 1) := by decide +kernel
