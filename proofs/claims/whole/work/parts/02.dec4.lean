theorem dX10_commands_48 : decode cX10_commands 48 = .ok (.iconst 0, 1) := by decide +kernel
theorem dX10_commands_49 : decode cX10_commands 49 = .ok (.aload_n 0, 1) := by decide +kernel
theorem dX10_commands_50 : decode cX10_commands 50 = .ok (.getfield 19, 3) := by decide +kernel
theorem dX10_commands_53 : decode cX10_commands 53 = .ok (.iconst 0, 1) := by decide +kernel
theorem dX10_commands_54 : decode cX10_commands 54 = .ok (.invokestatic 61, 3) := by decide +kernel
theorem dX10_commands_57 : decode cX10_commands 57 = .ok (.aload_n 0, 1) := by decide +kernel
theorem dX10_commands_58 : decode cX10_commands 58 = .ok (.iconst 1, 1) := by decide +kernel
theorem dX10_commands_59 : decode cX10_commands 59 = .ok (.putfield 48, 3) := by decide +kernel
theorem dX10_commands_62 : decode cX10_commands 62 = .ok (.aload_n 0, 1) := by decide +kernel
theorem dX10_commands_63 : decode cX10_commands 63 = .ok (.iconst 0, 1) := by decide +kernel
theorem dX10_commands_64 : decode cX10_commands 64 = .ok (.putfield 52, 3) := by decide +kernel
theorem dX10_commands_67 : decode cX10_commands 67 = .ok (.iconst 0, 1) := by decide +kernel
theorem dX10_commands_68 : decode cX10_commands 68 = .ok (.istore_n 2, 1) := by decide +kernel
theorem dX10_commands_69 : decode cX10_commands 69 = .ok (.aload_n 0, 1) := by decide +kernel
theorem dX10_commands_70 : decode cX10_commands 70 = .ok (.getfield 52, 3) := by decide +kernel
theorem dX10_commands_73 : decode cX10_commands 73 = .ok (.aload_n 0, 1) := by decide +kernel
theorem dX10_commands_74 : decode cX10_commands 74 = .ok (.getfield 180, 3) := by decide +kernel
theorem dX10_commands_77 : decode cX10_commands 77 = .ok (.if_icmp .ge 41, 3) := by decide +kernel
theorem dX10_commands_80 : decode cX10_commands 80 = .ok (.aload_n 0, 1) := by decide +kernel
theorem dX10_commands_81 : decode cX10_commands 81 = .ok (.getfield 39, 3) := by decide +kernel
theorem dX10_commands_84 : decode cX10_commands 84 = .ok (.ifCond .ne 34, 3) := by decide +kernel
theorem dX10_commands_87 : decode cX10_commands 87 = .ok (.aload_n 0, 1) := by decide +kernel
theorem dX10_commands_88 : decode cX10_commands 88 = .ok (.iconst 4, 1) := by decide +kernel
theorem dX10_commands_89 : decode cX10_commands 89 = .ok (.aload_n 0, 1) := by decide +kernel
theorem dX10_commands_90 : decode cX10_commands 90 = .ok (.getfield 52, 3) := by decide +kernel
theorem dX10_commands_93 : decode cX10_commands 93 = .ok (.imul, 1) := by decide +kernel
theorem dX10_commands_94 : decode cX10_commands 94 = .ok (.invokevirtual 232, 3) := by decide +kernel
theorem dX10_commands_97 : decode cX10_commands 97 = .ok (.istore_n 2, 1) := by decide +kernel
theorem dX10_commands_98 : decode cX10_commands 98 = .ok (.aload_n 0, 1) := by decide +kernel
theorem dX10_commands_99 : decode cX10_commands 99 = .ok (.getfield 39, 3) := by decide +kernel
theorem dX10_commands_102 : decode cX10_commands 102 = .ok (.ifCond .ne (-33), 3) := by decide +kernel
theorem dX10_commands_105 : decode cX10_commands 105 = .ok (.aload_n 0, 1) := by decide +kernel
theorem dX10_commands_106 : decode cX10_commands 106 = .ok (.dup, 1) := by decide +kernel
theorem dX10_commands_107 : decode cX10_commands 107 = .ok (.getfield 52, 3) := by decide +kernel
theorem dX10_commands_110 : decode cX10_commands 110 = .ok (.iconst 1, 1) := by decide +kernel
theorem dX10_commands_111 : decode cX10_commands 111 = .ok (.iadd, 1) := by decide +kernel
theorem dX10_commands_112 : decode cX10_commands 112 = .ok (.putfield 52, 3) := by decide +kernel
theorem dX10_commands_115 : decode cX10_commands 115 = .ok (.goto (-46), 3) := by decide +kernel
theorem dX10_commands_118 : decode cX10_commands 118 = .ok (.aload_n 0, 1) := by decide +kernel
theorem dX10_commands_119 : decode cX10_commands 119 = .ok (.iconst 0, 1) := by decide +kernel
theorem dX10_commands_120 : decode cX10_commands 120 = .ok (.putfield 48, 3) := by decide +kernel
theorem dX10_commands_123 : decode cX10_commands 123 = .ok (.aload_n 0, 1) := by decide +kernel
theorem dX10_commands_124 : decode cX10_commands 124 = .ok (.getfield 39, 3) := by decide +kernel
theorem dX10_commands_127 : decode cX10_commands 127 = .ok (.ifCond .le 31, 3) := by decide +kernel
theorem dX10_commands_130 : decode cX10_commands 130 = .ok (.aload_n 0, 1) := by decide +kernel
theorem dX10_commands_131 : decode cX10_commands 131 = .ok (.getfield 19, 3) := by decide +kernel
theorem dX10_commands_134 : decode cX10_commands 134 = .ok (.iconst 0, 1) := by decide +kernel
theorem dX10_commands_135 : decode cX10_commands 135 = .ok (.aload_n 0, 1) := by decide +kernel
theorem dX10_commands_136 : decode cX10_commands 136 = .ok (.getfield 7, 3) := by decide +kernel
theorem dX10_commands_139 : decode cX10_commands 139 = .ok (.iconst 0, 1) := by decide +kernel
theorem dX10_commands_140 : decode cX10_commands 140 = .ok (.invokestatic 61, 3) := by decide +kernel
theorem dX10_commands_143 : decode cX10_commands 143 = .ok (.aload_n 0, 1) := by decide +kernel
theorem dX10_commands_144 : decode cX10_commands 144 = .ok (.iconst 2, 1) := by decide +kernel
theorem dX10_commands_145 : decode cX10_commands 145 = .ok (.putfield 39, 3) := by decide +kernel
theorem dX10_commands_148 : decode cX10_commands 148 = .ok (.iload_n 2, 1) := by decide +kernel
theorem dX10_commands_149 : decode cX10_commands 149 = .ok (.ifCond .le 7, 3) := by decide +kernel
theorem dX10_commands_152 : decode cX10_commands 152 = .ok (.iconst 0, 1) := by decide +kernel
theorem dX10_commands_153 : decode cX10_commands 153 = .ok (.goto 4, 3) := by decide +kernel
theorem dX10_commands_156 : decode cX10_commands 156 = .ok (.iload_n 2, 1) := by decide +kernel
theorem dX10_commands_157 : decode cX10_commands 157 = .ok (.ireturn, 1) := by decide +kernel
theorem dX10_commands_158 : decode cX10_commands 158 = .ok (.aload_n 0, 1) := by decide +kernel
theorem dX10_commands_159 : decode cX10_commands 159 = .ok (.aload_n 0, 1) := by decide +kernel
theorem dX10_commands_160 : decode cX10_commands 160 = .ok (.getfield 19, 3) := by decide +kernel
theorem dX10_commands_163 : decode cX10_commands 163 = .ok (.invokevirtual 117, 3) := by decide +kernel
theorem dX10_commands_166 : decode cX10_commands 166 = .ok (.aload_n 0, 1) := by decide +kernel
theorem dX10_commands_167 : decode cX10_commands 167 = .ok (.getfield 180, 3) := by decide +kernel
theorem dX10_commands_170 : decode cX10_commands 170 = .ok (.ireturn, 1) := by decide +kernel
theorem dX10_faultPosition_0 : decode cX10_faultPosition 0 = .ok (.aload_n 0, 1) := by decide +kernel
theorem dX10_faultPosition_1 : decode cX10_faultPosition 1 = .ok (.iconst 0, 1) := by decide +kernel
theorem dX10_faultPosition_2 : decode cX10_faultPosition 2 = .ok (.putfield 39, 3) := by decide +kernel
theorem dX10_faultPosition_5 : decode cX10_faultPosition 5 = .ok (.aload_n 0, 1) := by decide +kernel
theorem dX10_faultPosition_6 : decode cX10_faultPosition 6 = .ok (.getfield 28, 3) := by decide +kernel
theorem dX10_faultPosition_9 : decode cX10_faultPosition 9 = .ok (.ireturn, 1) := by decide +kernel
theorem dX10_reason_0 : decode cX10_reason 0 = .ok (.aload_n 0, 1) := by decide +kernel
theorem dX10_reason_1 : decode cX10_reason 1 = .ok (.iload_n 1, 1) := by decide +kernel
theorem dX10_reason_2 : decode cX10_reason 2 = .ok (.iconst 0, 1) := by decide +kernel
theorem dX10_reason_3 : decode cX10_reason 3 = .ok (.iconst 2, 1) := by decide +kernel
theorem dX10_reason_4 : decode cX10_reason 4 = .ok (.invokestatic 65, 3) := by decide +kernel
theorem dX10_reason_7 : decode cX10_reason 7 = .ok (.ifCond .ne 7, 3) := by decide +kernel
theorem dX10_reason_10 : decode cX10_reason 10 = .ok (.iconst 1, 1) := by decide +kernel
theorem dX10_reason_11 : decode cX10_reason 11 = .ok (.goto 15, 3) := by decide +kernel
theorem dX10_reason_14 : decode cX10_reason 14 = .ok (.aload_n 0, 1) := by decide +kernel
theorem dX10_reason_15 : decode cX10_reason 15 = .ok (.getfield 42, 3) := by decide +kernel
theorem dX10_reason_18 : decode cX10_reason 18 = .ok (.ifCond .ne 7, 3) := by decide +kernel
theorem dX10_reason_21 : decode cX10_reason 21 = .ok (.iconst 2, 1) := by decide +kernel
theorem dX10_reason_22 : decode cX10_reason 22 = .ok (.goto 4, 3) := by decide +kernel
theorem dX10_reason_25 : decode cX10_reason 25 = .ok (.iconst 0, 1) := by decide +kernel
theorem dX10_reason_26 : decode cX10_reason 26 = .ok (.invokevirtual 156, 3) := by decide +kernel
theorem dX10_reason_29 : decode cX10_reason 29 = .ok (.ifCond .eq 7, 3) := by decide +kernel
theorem dX10_reason_32 : decode cX10_reason 32 = .ok (.iconst 0, 1) := by decide +kernel
theorem dX10_reason_33 : decode cX10_reason 33 = .ok (.goto 30, 3) := by decide +kernel
theorem dX10_reason_36 : decode cX10_reason 36 = .ok (.iload_n 1, 1) := by decide +kernel
theorem dX10_reason_37 : decode cX10_reason 37 = .ok (.ifCond .ne 10, 3) := by decide +kernel
theorem dX10_reason_40 : decode cX10_reason 40 = .ok (.aload_n 0, 1) := by decide +kernel
theorem dX10_reason_41 : decode cX10_reason 41 = .ok (.getfield 42, 3) := by decide +kernel
theorem dX10_reason_44 : decode cX10_reason 44 = .ok (.goto 19, 3) := by decide +kernel
theorem dX10_reason_47 : decode cX10_reason 47 = .ok (.iload_n 1, 1) := by decide +kernel
theorem dX10_reason_48 : decode cX10_reason 48 = .ok (.iconst 1, 1) := by decide +kernel
theorem dX10_reason_49 : decode cX10_reason 49 = .ok (.if_icmp .ne 10, 3) := by decide +kernel
theorem dX10_reason_52 : decode cX10_reason 52 = .ok (.aload_n 0, 1) := by decide +kernel
theorem dX10_reason_53 : decode cX10_reason 53 = .ok (.getfield 45, 3) := by decide +kernel
theorem dX10_reason_56 : decode cX10_reason 56 = .ok (.goto 7, 3) := by decide +kernel
theorem dX10_reason_59 : decode cX10_reason 59 = .ok (.aload_n 0, 1) := by decide +kernel
theorem dX10_reason_60 : decode cX10_reason 60 = .ok (.getfield 55, 3) := by decide +kernel
theorem dX10_reason_63 : decode cX10_reason 63 = .ok (.ireturn, 1) := by decide +kernel
theorem dX10_writes_0 : decode cX10_writes 0 = .ok (.aload_n 0, 1) := by decide +kernel
theorem dX10_writes_1 : decode cX10_writes 1 = .ok (.getfield 32, 3) := by decide +kernel
theorem dX10_writes_4 : decode cX10_writes 4 = .ok (.aload_n 0, 1) := by decide +kernel
theorem dX10_writes_5 : decode cX10_writes 5 = .ok (.getfield 235, 3) := by decide +kernel
theorem dX10_writes_8 : decode cX10_writes 8 = .ok (.iload_n 1, 1) := by decide +kernel
theorem dX10_writes_9 : decode cX10_writes 9 = .ok (.i2c, 1) := by decide +kernel
theorem dX10_writes_10 : decode cX10_writes 10 = .ok (.castore, 1) := by decide +kernel
theorem dX10_writes_11 : decode cX10_writes 11 = .ok (.aload_n 0, 1) := by decide +kernel
theorem dX10_writes_12 : decode cX10_writes 12 = .ok (.dup, 1) := by decide +kernel
theorem dX10_writes_13 : decode cX10_writes 13 = .ok (.getfield 235, 3) := by decide +kernel
theorem dX10_writes_16 : decode cX10_writes 16 = .ok (.iconst 1, 1) := by decide +kernel
theorem dX10_writes_17 : decode cX10_writes 17 = .ok (.iadd, 1) := by decide +kernel
theorem dX10_writes_18 : decode cX10_writes 18 = .ok (.putfield 235, 3) := by decide +kernel
theorem dX10_writes_21 : decode cX10_writes 21 = .ok (.return_, 1) := by decide +kernel
theorem dX10_writesNumber_0 : decode cX10_writesNumber 0 = .ok (.iload_n 1, 1) := by decide +kernel
theorem dX10_writesNumber_1 : decode cX10_writesNumber 1 = .ok (.bipush 9, 2) := by decide +kernel
theorem dX10_writesNumber_3 : decode cX10_writesNumber 3 = .ok (.if_icmp .le 14, 3) := by decide +kernel
theorem dX10_writesNumber_6 : decode cX10_writesNumber 6 = .ok (.aload_n 0, 1) := by decide +kernel
theorem dX10_writesNumber_7 : decode cX10_writesNumber 7 = .ok (.bipush 48, 2) := by decide +kernel
theorem dX10_writesNumber_9 : decode cX10_writesNumber 9 = .ok (.iload_n 1, 1) := by decide +kernel
theorem dX10_writesNumber_10 : decode cX10_writesNumber 10 = .ok (.bipush 10, 2) := by decide +kernel
theorem dX10_writesNumber_12 : decode cX10_writesNumber 12 = .ok (.idiv, 1) := by decide +kernel
theorem dX10_writesNumber_13 : decode cX10_writesNumber 13 = .ok (.iadd, 1) := by decide +kernel
theorem dX10_writesNumber_14 : decode cX10_writesNumber 14 = .ok (.invokevirtual 238, 3) := by decide +kernel
theorem dX10_writesNumber_17 : decode cX10_writesNumber 17 = .ok (.aload_n 0, 1) := by decide +kernel
theorem dX10_writesNumber_18 : decode cX10_writesNumber 18 = .ok (.bipush 48, 2) := by decide +kernel
theorem dX10_writesNumber_20 : decode cX10_writesNumber 20 = .ok (.iload_n 1, 1) := by decide +kernel
theorem dX10_writesNumber_21 : decode cX10_writesNumber 21 = .ok (.bipush 10, 2) := by decide +kernel
theorem dX10_writesNumber_23 : decode cX10_writesNumber 23 = .ok (.irem, 1) := by decide +kernel
theorem dX10_writesNumber_24 : decode cX10_writesNumber 24 = .ok (.iadd, 1) := by decide +kernel
theorem dX10_writesNumber_25 : decode cX10_writesNumber 25 = .ok (.invokevirtual 238, 3) := by decide +kernel
theorem dX10_writesNumber_28 : decode cX10_writesNumber 28 = .ok (.return_, 1) := by decide +kernel
theorem dX10_rack_0 : decode cX10_rack 0 = .ok (.aload_n 0, 1) := by decide +kernel
theorem dX10_rack_1 : decode cX10_rack 1 = .ok (.iload_n 1, 1) := by decide +kernel
theorem dX10_rack_2 : decode cX10_rack 2 = .ok (.iconst 0, 1) := by decide +kernel
theorem dX10_rack_3 : decode cX10_rack 3 = .ok (.iconst 3, 1) := by decide +kernel
theorem dX10_rack_4 : decode cX10_rack 4 = .ok (.invokestatic 65, 3) := by decide +kernel
theorem dX10_rack_7 : decode cX10_rack 7 = .ok (.ifCond .eq 7, 3) := by decide +kernel
theorem dX10_rack_10 : decode cX10_rack 10 = .ok (.iconst 0, 1) := by decide +kernel
theorem dX10_rack_11 : decode cX10_rack 11 = .ok (.goto 4, 3) := by decide +kernel
theorem dX10_rack_14 : decode cX10_rack 14 = .ok (.iconst 1, 1) := by decide +kernel
theorem dX10_rack_15 : decode cX10_rack 15 = .ok (.invokevirtual 156, 3) := by decide +kernel
theorem dX10_rack_18 : decode cX10_rack 18 = .ok (.ifCond .eq 5, 3) := by decide +kernel
theorem dX10_rack_21 : decode cX10_rack 21 = .ok (.iconst 0, 1) := by decide +kernel
theorem dX10_rack_22 : decode cX10_rack 22 = .ok (.ireturn, 1) := by decide +kernel
theorem dX10_rack_23 : decode cX10_rack 23 = .ok (.aload_n 0, 1) := by decide +kernel
theorem dX10_rack_24 : decode cX10_rack 24 = .ok (.iconst 0, 1) := by decide +kernel
theorem dX10_rack_25 : decode cX10_rack 25 = .ok (.putfield 235, 3) := by decide +kernel
theorem dX10_rack_28 : decode cX10_rack 28 = .ok (.iconst 0, 1) := by decide +kernel
theorem dX10_rack_29 : decode cX10_rack 29 = .ok (.istore_n 2, 1) := by decide +kernel
theorem dX10_rack_30 : decode cX10_rack 30 = .ok (.iload_n 2, 1) := by decide +kernel
theorem dX10_rack_31 : decode cX10_rack 31 = .ok (.bipush 10, 2) := by decide +kernel
theorem dX10_rack_33 : decode cX10_rack 33 = .ok (.if_icmp .ge 46, 3) := by decide +kernel
theorem dX10_rack_36 : decode cX10_rack 36 = .ok (.aload_n 0, 1) := by decide +kernel
theorem dX10_rack_37 : decode cX10_rack 37 = .ok (.iload_n 1, 1) := by decide +kernel
theorem dX10_rack_38 : decode cX10_rack 38 = .ok (.iload_n 2, 1) := by decide +kernel
theorem dX10_rack_39 : decode cX10_rack 39 = .ok (.invokevirtual 131, 3) := by decide +kernel
theorem dX10_rack_42 : decode cX10_rack 42 = .ok (.istore_n 3, 1) := by decide +kernel
theorem dX10_rack_43 : decode cX10_rack 43 = .ok (.aload_n 0, 1) := by decide +kernel
theorem dX10_rack_44 : decode cX10_rack 44 = .ok (.iload_n 3, 1) := by decide +kernel
theorem dX10_rack_45 : decode cX10_rack 45 = .ok (.ifCond .ge 8, 3) := by decide +kernel
theorem dX10_rack_48 : decode cX10_rack 48 = .ok (.bipush 46, 2) := by decide +kernel
theorem dX10_rack_50 : decode cX10_rack 50 = .ok (.goto 20, 3) := by decide +kernel
theorem dX10_rack_53 : decode cX10_rack 53 = .ok (.aload_n 0, 1) := by decide +kernel
theorem dX10_rack_54 : decode cX10_rack 54 = .ok (.iload_n 3, 1) := by decide +kernel
theorem dX10_rack_55 : decode cX10_rack 55 = .ok (.invokevirtual 91, 3) := by decide +kernel
theorem dX10_rack_58 : decode cX10_rack 58 = .ok (.ifCond .eq 8, 3) := by decide +kernel
theorem dX10_rack_61 : decode cX10_rack 61 = .ok (.bipush 65, 2) := by decide +kernel
theorem dX10_rack_63 : decode cX10_rack 63 = .ok (.goto 5, 3) := by decide +kernel
theorem dX10_rack_66 : decode cX10_rack 66 = .ok (.bipush 97, 2) := by decide +kernel
theorem dX10_rack_68 : decode cX10_rack 68 = .ok (.iload_n 3, 1) := by decide +kernel
theorem dX10_rack_69 : decode cX10_rack 69 = .ok (.iadd, 1) := by decide +kernel
theorem dX10_rack_70 : decode cX10_rack 70 = .ok (.invokevirtual 238, 3) := by decide +kernel
theorem dX10_rack_73 : decode cX10_rack 73 = .ok (.iinc 2 1, 3) := by decide +kernel
theorem dX10_rack_76 : decode cX10_rack 76 = .ok (.goto (-46), 3) := by decide +kernel
theorem dX10_rack_79 : decode cX10_rack 79 = .ok (.aload_n 0, 1) := by decide +kernel
theorem dX10_rack_80 : decode cX10_rack 80 = .ok (.getfield 235, 3) := by decide +kernel
theorem dX10_rack_83 : decode cX10_rack 83 = .ok (.ireturn, 1) := by decide +kernel
theorem dX10_line_0 : decode cX10_line 0 = .ok (.aload_n 0, 1) := by decide +kernel
theorem dX10_line_1 : decode cX10_line 1 = .ok (.aload_n 0, 1) := by decide +kernel
theorem dX10_line_2 : decode cX10_line 2 = .ok (.iload_n 1, 1) := by decide +kernel
theorem dX10_line_3 : decode cX10_line 3 = .ok (.invokevirtual 121, 3) := by decide +kernel
theorem dX10_line_6 : decode cX10_line 6 = .ok (.ifCond .eq 7, 3) := by decide +kernel
theorem dX10_line_9 : decode cX10_line 9 = .ok (.iconst 0, 1) := by decide +kernel
theorem dX10_line_10 : decode cX10_line 10 = .ok (.goto 4, 3) := by decide +kernel
theorem dX10_line_13 : decode cX10_line 13 = .ok (.iconst 1, 1) := by decide +kernel
theorem dX10_line_14 : decode cX10_line 14 = .ok (.invokevirtual 156, 3) := by decide +kernel
theorem dX10_line_17 : decode cX10_line 17 = .ok (.ifCond .eq 5, 3) := by decide +kernel
theorem dX10_line_20 : decode cX10_line 20 = .ok (.iconst 0, 1) := by decide +kernel
theorem dX10_line_21 : decode cX10_line 21 = .ok (.ireturn, 1) := by decide +kernel
theorem dX10_line_22 : decode cX10_line 22 = .ok (.aload_n 0, 1) := by decide +kernel
theorem dX10_line_23 : decode cX10_line 23 = .ok (.iconst 0, 1) := by decide +kernel
theorem dX10_line_24 : decode cX10_line 24 = .ok (.putfield 235, 3) := by decide +kernel
theorem dX10_line_27 : decode cX10_line 27 = .ok (.aload_n 0, 1) := by decide +kernel
theorem dX10_line_28 : decode cX10_line 28 = .ok (.aload_n 0, 1) := by decide +kernel
theorem dX10_line_29 : decode cX10_line 29 = .ok (.iload_n 1, 1) := by decide +kernel
theorem dX10_line_30 : decode cX10_line 30 = .ok (.iconst 0, 1) := by decide +kernel
theorem dX10_line_31 : decode cX10_line 31 = .ok (.invokevirtual 69, 3) := by decide +kernel
theorem dX10_line_34 : decode cX10_line 34 = .ok (.invokevirtual 241, 3) := by decide +kernel
theorem dX10_line_37 : decode cX10_line 37 = .ok (.aload_n 0, 1) := by decide +kernel
theorem dX10_line_38 : decode cX10_line 38 = .ok (.bipush 42, 2) := by decide +kernel
theorem dX10_line_40 : decode cX10_line 40 = .ok (.invokevirtual 238, 3) := by decide +kernel
theorem dX10_line_43 : decode cX10_line 43 = .ok (.aload_n 0, 1) := by decide +kernel
theorem dX10_line_44 : decode cX10_line 44 = .ok (.aload_n 0, 1) := by decide +kernel
theorem dX10_line_45 : decode cX10_line 45 = .ok (.iload_n 1, 1) := by decide +kernel
theorem dX10_line_46 : decode cX10_line 46 = .ok (.iconst 1, 1) := by decide +kernel
theorem dX10_line_47 : decode cX10_line 47 = .ok (.invokevirtual 69, 3) := by decide +kernel
theorem dX10_line_50 : decode cX10_line 50 = .ok (.invokevirtual 241, 3) := by decide +kernel
theorem dX10_line_53 : decode cX10_line 53 = .ok (.iconst 0, 1) := by decide +kernel
theorem dX10_line_54 : decode cX10_line 54 = .ok (.istore_n 2, 1) := by decide +kernel
theorem dX10_line_55 : decode cX10_line 55 = .ok (.iload_n 2, 1) := by decide +kernel
theorem dX10_line_56 : decode cX10_line 56 = .ok (.iconst 2, 1) := by decide +kernel
theorem dX10_line_57 : decode cX10_line 57 = .ok (.if_icmp .ge 63, 3) := by decide +kernel
theorem dX10_line_60 : decode cX10_line 60 = .ok (.aload_n 0, 1) := by decide +kernel
theorem dX10_line_61 : decode cX10_line 61 = .ok (.bipush 47, 2) := by decide +kernel
theorem dX10_line_63 : decode cX10_line 63 = .ok (.invokevirtual 238, 3) := by decide +kernel
theorem dX10_line_66 : decode cX10_line 66 = .ok (.aload_n 0, 1) := by decide +kernel
theorem dX10_line_67 : decode cX10_line 67 = .ok (.aload_n 0, 1) := by decide +kernel
theorem dX10_line_68 : decode cX10_line 68 = .ok (.iload_n 1, 1) := by decide +kernel
theorem dX10_line_69 : decode cX10_line 69 = .ok (.bipush 7, 2) := by decide +kernel
theorem dX10_line_71 : decode cX10_line 71 = .ok (.iload_n 2, 1) := by decide +kernel
theorem dX10_line_72 : decode cX10_line 72 = .ok (.iadd, 1) := by decide +kernel
theorem dX10_line_73 : decode cX10_line 73 = .ok (.invokevirtual 69, 3) := by decide +kernel
theorem dX10_line_76 : decode cX10_line 76 = .ok (.invokevirtual 241, 3) := by decide +kernel
theorem dX10_line_79 : decode cX10_line 79 = .ok (.aload_n 0, 1) := by decide +kernel
theorem dX10_line_80 : decode cX10_line 80 = .ok (.bipush 126, 2) := by decide +kernel
theorem dX10_line_82 : decode cX10_line 82 = .ok (.invokevirtual 238, 3) := by decide +kernel
theorem dX10_line_85 : decode cX10_line 85 = .ok (.aload_n 0, 1) := by decide +kernel
theorem dX10_line_86 : decode cX10_line 86 = .ok (.aload_n 0, 1) := by decide +kernel
theorem dX10_line_87 : decode cX10_line 87 = .ok (.iload_n 1, 1) := by decide +kernel
theorem dX10_line_88 : decode cX10_line 88 = .ok (.bipush 9, 2) := by decide +kernel
theorem dX10_line_90 : decode cX10_line 90 = .ok (.iload_n 2, 1) := by decide +kernel
theorem dX10_line_91 : decode cX10_line 91 = .ok (.iadd, 1) := by decide +kernel
theorem dX10_line_92 : decode cX10_line 92 = .ok (.invokevirtual 69, 3) := by decide +kernel
theorem dX10_line_95 : decode cX10_line 95 = .ok (.invokevirtual 241, 3) := by decide +kernel
theorem dX10_line_98 : decode cX10_line 98 = .ok (.aload_n 0, 1) := by decide +kernel
theorem dX10_line_99 : decode cX10_line 99 = .ok (.iload_n 1, 1) := by decide +kernel
theorem dX10_line_100 : decode cX10_line 100 = .ok (.iconst 5, 1) := by decide +kernel
theorem dX10_line_101 : decode cX10_line 101 = .ok (.invokevirtual 69, 3) := by decide +kernel
theorem dX10_line_104 : decode cX10_line 104 = .ok (.iload_n 2, 1) := by decide +kernel
theorem dX10_line_105 : decode cX10_line 105 = .ok (.if_icmp .ne 9, 3) := by decide +kernel
theorem dX10_line_108 : decode cX10_line 108 = .ok (.aload_n 0, 1) := by decide +kernel
theorem dX10_line_109 : decode cX10_line 109 = .ok (.bipush 33, 2) := by decide +kernel
theorem dX10_line_111 : decode cX10_line 111 = .ok (.invokevirtual 238, 3) := by decide +kernel
theorem dX10_line_114 : decode cX10_line 114 = .ok (.iinc 2 1, 3) := by decide +kernel
theorem dX10_line_117 : decode cX10_line 117 = .ok (.goto (-62), 3) := by decide +kernel
theorem dX10_line_120 : decode cX10_line 120 = .ok (.aload_n 0, 1) := by decide +kernel
theorem dX10_line_121 : decode cX10_line 121 = .ok (.getfield 235, 3) := by decide +kernel
theorem dX10_line_124 : decode cX10_line 124 = .ok (.ireturn, 1) := by decide +kernel
theorem dX10_character_0 : decode cX10_character 0 = .ok (.aload_n 0, 1) := by decide +kernel
theorem dX10_character_1 : decode cX10_character 1 = .ok (.iload_n 1, 1) := by decide +kernel
theorem dX10_character_2 : decode cX10_character 2 = .ok (.iconst 0, 1) := by decide +kernel
theorem dX10_character_3 : decode cX10_character 3 = .ok (.aload_n 0, 1) := by decide +kernel
theorem dX10_character_4 : decode cX10_character 4 = .ok (.getfield 235, 3) := by decide +kernel
theorem dX10_character_7 : decode cX10_character 7 = .ok (.iconst 1, 1) := by decide +kernel
theorem dX10_character_8 : decode cX10_character 8 = .ok (.isub, 1) := by decide +kernel
theorem dX10_character_9 : decode cX10_character 9 = .ok (.invokestatic 65, 3) := by decide +kernel
theorem dX10_character_12 : decode cX10_character 12 = .ok (.ifCond .eq 7, 3) := by decide +kernel
theorem dX10_character_15 : decode cX10_character 15 = .ok (.iconst 0, 1) := by decide +kernel
theorem dX10_character_16 : decode cX10_character 16 = .ok (.goto 4, 3) := by decide +kernel
theorem dX10_character_19 : decode cX10_character 19 = .ok (.iconst 1, 1) := by decide +kernel
theorem dX10_character_20 : decode cX10_character 20 = .ok (.invokevirtual 156, 3) := by decide +kernel
theorem dX10_character_23 : decode cX10_character 23 = .ok (.ifCond .eq 8, 3) := by decide +kernel
theorem dX10_character_26 : decode cX10_character 26 = .ok (.bipush 32, 2) := by decide +kernel
theorem dX10_character_28 : decode cX10_character 28 = .ok (.goto 9, 3) := by decide +kernel
theorem dX10_character_31 : decode cX10_character 31 = .ok (.aload_n 0, 1) := by decide +kernel
theorem dX10_character_32 : decode cX10_character 32 = .ok (.getfield 32, 3) := by decide +kernel
theorem dX10_character_35 : decode cX10_character 35 = .ok (.iload_n 1, 1) := by decide +kernel
theorem dX10_character_36 : decode cX10_character 36 = .ok (.caload, 1) := by decide +kernel
theorem dX10_character_37 : decode cX10_character 37 = .ok (.ireturn, 1) := by decide +kernel
theorem dX10_meanSmoke_0 : decode cX10_meanSmoke 0 = .ok (.aload_n 0, 1) := by decide +kernel
theorem dX10_meanSmoke_1 : decode cX10_meanSmoke 1 = .ok (.aload_n 0, 1) := by decide +kernel
theorem dX10_meanSmoke_2 : decode cX10_meanSmoke 2 = .ok (.getfield 7, 3) := by decide +kernel
theorem dX10_meanSmoke_5 : decode cX10_meanSmoke 5 = .ok (.iconst 0, 1) := by decide +kernel
theorem dX10_meanSmoke_6 : decode cX10_meanSmoke 6 = .ok (.iaload, 1) := by decide +kernel
theorem dX10_meanSmoke_7 : decode cX10_meanSmoke 7 = .ok (.ifCond .ne 7, 3) := by decide +kernel
theorem dX10_meanSmoke_10 : decode cX10_meanSmoke 10 = .ok (.iconst 1, 1) := by decide +kernel
theorem dX10_meanSmoke_11 : decode cX10_meanSmoke 11 = .ok (.goto 4, 3) := by decide +kernel
theorem dX10_meanSmoke_14 : decode cX10_meanSmoke 14 = .ok (.iconst 0, 1) := by decide +kernel
theorem dX10_meanSmoke_15 : decode cX10_meanSmoke 15 = .ok (.invokevirtual 156, 3) := by decide +kernel
theorem dX10_meanSmoke_18 : decode cX10_meanSmoke 18 = .ok (.ifCond .eq 5, 3) := by decide +kernel
theorem dX10_meanSmoke_21 : decode cX10_meanSmoke 21 = .ok (.iconst 0, 1) := by decide +kernel
theorem dX10_meanSmoke_22 : decode cX10_meanSmoke 22 = .ok (.ireturn, 1) := by decide +kernel
theorem dX10_meanSmoke_23 : decode cX10_meanSmoke 23 = .ok (.iconst 0, 1) := by decide +kernel
theorem dX10_meanSmoke_24 : decode cX10_meanSmoke 24 = .ok (.istore_n 1, 1) := by decide +kernel
theorem dX10_meanSmoke_25 : decode cX10_meanSmoke 25 = .ok (.iconst 0, 1) := by decide +kernel
theorem dX10_meanSmoke_26 : decode cX10_meanSmoke 26 = .ok (.istore_n 2, 1) := by decide +kernel
theorem dX10_meanSmoke_27 : decode cX10_meanSmoke 27 = .ok (.iload_n 2, 1) := by decide +kernel
theorem dX10_meanSmoke_28 : decode cX10_meanSmoke 28 = .ok (.aload_n 0, 1) := by decide +kernel
theorem dX10_meanSmoke_29 : decode cX10_meanSmoke 29 = .ok (.getfield 7, 3) := by decide +kernel
theorem dX10_meanSmoke_32 : decode cX10_meanSmoke 32 = .ok (.iconst 0, 1) := by decide +kernel
theorem dX10_meanSmoke_33 : decode cX10_meanSmoke 33 = .ok (.iaload, 1) := by decide +kernel
theorem dX10_meanSmoke_34 : decode cX10_meanSmoke 34 = .ok (.if_icmp .ge 18, 3) := by decide +kernel
theorem dX10_meanSmoke_37 : decode cX10_meanSmoke 37 = .ok (.iload_n 1, 1) := by decide +kernel
theorem dX10_meanSmoke_38 : decode cX10_meanSmoke 38 = .ok (.aload_n 0, 1) := by decide +kernel
theorem dX10_meanSmoke_39 : decode cX10_meanSmoke 39 = .ok (.iload_n 2, 1) := by decide +kernel
theorem dX10_meanSmoke_40 : decode cX10_meanSmoke 40 = .ok (.iconst 2, 1) := by decide +kernel
theorem dX10_meanSmoke_41 : decode cX10_meanSmoke 41 = .ok (.invokevirtual 165, 3) := by decide +kernel
theorem dX10_meanSmoke_44 : decode cX10_meanSmoke 44 = .ok (.iadd, 1) := by decide +kernel
theorem dX10_meanSmoke_45 : decode cX10_meanSmoke 45 = .ok (.istore_n 1, 1) := by decide +kernel
theorem dX10_meanSmoke_46 : decode cX10_meanSmoke 46 = .ok (.iinc 2 1, 3) := by decide +kernel
theorem dX10_meanSmoke_49 : decode cX10_meanSmoke 49 = .ok (.goto (-22), 3) := by decide +kernel
theorem dX10_meanSmoke_52 : decode cX10_meanSmoke 52 = .ok (.iload_n 1, 1) := by decide +kernel
theorem dX10_meanSmoke_53 : decode cX10_meanSmoke 53 = .ok (.i2f, 1) := by decide +kernel
theorem dX10_meanSmoke_54 : decode cX10_meanSmoke 54 = .ok (.iconst 2, 1) := by decide +kernel
theorem dX10_meanSmoke_55 : decode cX10_meanSmoke 55 = .ok (.aload_n 0, 1) := by decide +kernel
theorem dX10_meanSmoke_56 : decode cX10_meanSmoke 56 = .ok (.getfield 7, 3) := by decide +kernel
theorem dX10_meanSmoke_59 : decode cX10_meanSmoke 59 = .ok (.iconst 0, 1) := by decide +kernel
theorem dX10_meanSmoke_60 : decode cX10_meanSmoke 60 = .ok (.iaload, 1) := by decide +kernel
theorem dX10_meanSmoke_61 : decode cX10_meanSmoke 61 = .ok (.imul, 1) := by decide +kernel
theorem dX10_meanSmoke_62 : decode cX10_meanSmoke 62 = .ok (.i2f, 1) := by decide +kernel
theorem dX10_meanSmoke_63 : decode cX10_meanSmoke 63 = .ok (.fdiv, 1) := by decide +kernel
theorem dX10_meanSmoke_64 : decode cX10_meanSmoke 64 = .ok (.invokestatic 244, 3) := by decide +kernel
theorem dX10_meanSmoke_67 : decode cX10_meanSmoke 67 = .ok (.ireturn, 1) := by decide +kernel
theorem dX10_burntShare_0 : decode cX10_burntShare 0 = .ok (.aload_n 0, 1) := by decide +kernel
theorem dX10_burntShare_1 : decode cX10_burntShare 1 = .ok (.aload_n 0, 1) := by decide +kernel
theorem dX10_burntShare_2 : decode cX10_burntShare 2 = .ok (.getfield 7, 3) := by decide +kernel
theorem dX10_burntShare_5 : decode cX10_burntShare 5 = .ok (.iconst 0, 1) := by decide +kernel
theorem dX10_burntShare_6 : decode cX10_burntShare 6 = .ok (.iaload, 1) := by decide +kernel
theorem dX10_burntShare_7 : decode cX10_burntShare 7 = .ok (.ifCond .ne 7, 3) := by decide +kernel
theorem dX10_burntShare_10 : decode cX10_burntShare 10 = .ok (.iconst 1, 1) := by decide +kernel
theorem dX10_burntShare_11 : decode cX10_burntShare 11 = .ok (.goto 4, 3) := by decide +kernel
theorem dX10_burntShare_14 : decode cX10_burntShare 14 = .ok (.iconst 0, 1) := by decide +kernel
theorem dX10_burntShare_15 : decode cX10_burntShare 15 = .ok (.invokevirtual 156, 3) := by decide +kernel
theorem dX10_burntShare_18 : decode cX10_burntShare 18 = .ok (.ifCond .eq 7, 3) := by decide +kernel
theorem dX10_burntShare_21 : decode cX10_burntShare 21 = .ok (.dconst 0, 1) := by decide +kernel
theorem dX10_burntShare_22 : decode cX10_burntShare 22 = .ok (.goto 16, 3) := by decide +kernel
theorem dX10_burntShare_25 : decode cX10_burntShare 25 = .ok (.aload_n 0, 1) := by decide +kernel
theorem dX10_burntShare_26 : decode cX10_burntShare 26 = .ok (.invokevirtual 143, 3) := by decide +kernel
theorem dX10_burntShare_29 : decode cX10_burntShare 29 = .ok (.i2d, 1) := by decide +kernel
theorem dX10_burntShare_30 : decode cX10_burntShare 30 = .ok (.aload_n 0, 1) := by decide +kernel
theorem dX10_burntShare_31 : decode cX10_burntShare 31 = .ok (.getfield 7, 3) := by decide +kernel
theorem dX10_burntShare_34 : decode cX10_burntShare 34 = .ok (.iconst 0, 1) := by decide +kernel
theorem dX10_burntShare_35 : decode cX10_burntShare 35 = .ok (.iaload, 1) := by decide +kernel
theorem dX10_burntShare_36 : decode cX10_burntShare 36 = .ok (.i2d, 1) := by decide +kernel
theorem dX10_burntShare_37 : decode cX10_burntShare 37 = .ok (.ddiv, 1) := by decide +kernel
theorem dX10_burntShare_38 : decode cX10_burntShare 38 = .ok (.dreturn, 1) := by decide +kernel
theorem dX10_account_0 : decode cX10_account 0 = .ok (.aload_n 0, 1) := by decide +kernel
theorem dX10_account_1 : decode cX10_account 1 = .ok (.iload_n 1, 1) := by decide +kernel
theorem dX10_account_2 : decode cX10_account 2 = .ok (.iconst 0, 1) := by decide +kernel
theorem dX10_account_3 : decode cX10_account 3 = .ok (.bipush 11, 2) := by decide +kernel
theorem dX10_account_5 : decode cX10_account 5 = .ok (.invokestatic 65, 3) := by decide +kernel
theorem dX10_account_8 : decode cX10_account 8 = .ok (.ifCond .eq 7, 3) := by decide +kernel
theorem dX10_account_11 : decode cX10_account 11 = .ok (.iconst 0, 1) := by decide +kernel
theorem dX10_account_12 : decode cX10_account 12 = .ok (.goto 4, 3) := by decide +kernel
theorem dX10_account_15 : decode cX10_account 15 = .ok (.iconst 1, 1) := by decide +kernel
theorem dX10_account_16 : decode cX10_account 16 = .ok (.invokevirtual 156, 3) := by decide +kernel
theorem dX10_account_19 : decode cX10_account 19 = .ok (.ifCond .eq 5, 3) := by decide +kernel
theorem dX10_account_22 : decode cX10_account 22 = .ok (.iconst 0, 1) := by decide +kernel
theorem dX10_account_23 : decode cX10_account 23 = .ok (.ireturn, 1) := by decide +kernel
theorem dX10_account_24 : decode cX10_account 24 = .ok (.iload_n 1, 1) := by decide +kernel
theorem dX10_account_25 : decode cX10_account 25 = .ok (.tableswitch 106 0 11 #[63, 70, 76, 82, 89, 106, 106, 106, 106, 106, 96, 101], 63) := by decide +kernel
theorem dX10_account_88 : decode cX10_account 88 = .ok (.aload_n 0, 1) := by decide +kernel
theorem dX10_account_89 : decode cX10_account 89 = .ok (.getfield 7, 3) := by decide +kernel
theorem dX10_account_92 : decode cX10_account 92 = .ok (.iconst 0, 1) := by decide +kernel
theorem dX10_account_93 : decode cX10_account 93 = .ok (.iaload, 1) := by decide +kernel
theorem dX10_account_94 : decode cX10_account 94 = .ok (.ireturn, 1) := by decide +kernel
theorem dX10_account_95 : decode cX10_account 95 = .ok (.aload_n 0, 1) := by decide +kernel
theorem dX10_account_96 : decode cX10_account 96 = .ok (.iconst 1, 1) := by decide +kernel
theorem dX10_account_97 : decode cX10_account 97 = .ok (.invokevirtual 124, 3) := by decide +kernel
theorem dX10_account_100 : decode cX10_account 100 = .ok (.ireturn, 1) := by decide +kernel
theorem dX10_account_101 : decode cX10_account 101 = .ok (.aload_n 0, 1) := by decide +kernel
theorem dX10_account_102 : decode cX10_account 102 = .ok (.iconst 2, 1) := by decide +kernel
theorem dX10_account_103 : decode cX10_account 103 = .ok (.invokevirtual 124, 3) := by decide +kernel
theorem dX10_account_106 : decode cX10_account 106 = .ok (.ireturn, 1) := by decide +kernel
theorem dX10_account_107 : decode cX10_account 107 = .ok (.aload_n 0, 1) := by decide +kernel
theorem dX10_account_108 : decode cX10_account 108 = .ok (.getfield 7, 3) := by decide +kernel
theorem dX10_account_111 : decode cX10_account 111 = .ok (.iconst 1, 1) := by decide +kernel
theorem dX10_account_112 : decode cX10_account 112 = .ok (.iaload, 1) := by decide +kernel
theorem dX10_account_113 : decode cX10_account 113 = .ok (.ireturn, 1) := by decide +kernel
theorem dX10_account_114 : decode cX10_account 114 = .ok (.aload_n 0, 1) := by decide +kernel
theorem dX10_account_115 : decode cX10_account 115 = .ok (.getfield 7, 3) := by decide +kernel
theorem dX10_account_118 : decode cX10_account 118 = .ok (.iconst 2, 1) := by decide +kernel
theorem dX10_account_119 : decode cX10_account 119 = .ok (.iaload, 1) := by decide +kernel
theorem dX10_account_120 : decode cX10_account 120 = .ok (.ireturn, 1) := by decide +kernel
theorem dX10_account_121 : decode cX10_account 121 = .ok (.aload_n 0, 1) := by decide +kernel
theorem dX10_account_122 : decode cX10_account 122 = .ok (.getfield 58, 3) := by decide +kernel
theorem dX10_account_125 : decode cX10_account 125 = .ok (.ireturn, 1) := by decide +kernel
theorem dX10_account_126 : decode cX10_account 126 = .ok (.aload_n 0, 1) := by decide +kernel
theorem dX10_account_127 : decode cX10_account 127 = .ok (.getfield 168, 3) := by decide +kernel
theorem dX10_account_130 : decode cX10_account 130 = .ok (.ireturn, 1) := by decide +kernel
theorem dX10_account_131 : decode cX10_account 131 = .ok (.aload_n 0, 1) := by decide +kernel
theorem dX10_account_132 : decode cX10_account 132 = .ok (.getfield 7, 3) := by decide +kernel
theorem dX10_account_135 : decode cX10_account 135 = .ok (.iconst 3, 1) := by decide +kernel
theorem dX10_account_136 : decode cX10_account 136 = .ok (.iload_n 1, 1) := by decide +kernel
theorem dX10_account_137 : decode cX10_account 137 = .ok (.iadd, 1) := by decide +kernel
theorem dX10_account_138 : decode cX10_account 138 = .ok (.iconst 5, 1) := by decide +kernel
theorem dX10_account_139 : decode cX10_account 139 = .ok (.isub, 1) := by decide +kernel
theorem dX10_account_140 : decode cX10_account 140 = .ok (.iaload, 1) := by decide +kernel
theorem dX10_account_141 : decode cX10_account 141 = .ok (.ireturn, 1) := by decide +kernel
theorem dX10_undo_0 : decode cX10_undo 0 = .ok (.aload_n 0, 1) := by decide +kernel
theorem dX10_undo_1 : decode cX10_undo 1 = .ok (.aload_n 0, 1) := by decide +kernel
theorem dX10_undo_2 : decode cX10_undo 2 = .ok (.getfield 58, 3) := by decide +kernel
theorem dX10_undo_5 : decode cX10_undo 5 = .ok (.ifCond .ne 7, 3) := by decide +kernel
theorem dX10_undo_8 : decode cX10_undo 8 = .ok (.iconst 1, 1) := by decide +kernel
theorem dX10_undo_9 : decode cX10_undo 9 = .ok (.goto 4, 3) := by decide +kernel
theorem dX10_undo_12 : decode cX10_undo 12 = .ok (.iconst 0, 1) := by decide +kernel
theorem dX10_undo_13 : decode cX10_undo 13 = .ok (.invokevirtual 156, 3) := by decide +kernel
theorem dX10_undo_16 : decode cX10_undo 16 = .ok (.ifCond .eq 5, 3) := by decide +kernel
theorem dX10_undo_19 : decode cX10_undo 19 = .ok (.iconst 0, 1) := by decide +kernel
theorem dX10_undo_20 : decode cX10_undo 20 = .ok (.ireturn, 1) := by decide +kernel
theorem dX10_undo_21 : decode cX10_undo 21 = .ok (.aload_n 0, 1) := by decide +kernel
theorem dX10_undo_22 : decode cX10_undo 22 = .ok (.dup, 1) := by decide +kernel
theorem dX10_undo_23 : decode cX10_undo 23 = .ok (.getfield 58, 3) := by decide +kernel
theorem dX10_undo_26 : decode cX10_undo 26 = .ok (.iconst 1, 1) := by decide +kernel
theorem dX10_undo_27 : decode cX10_undo 27 = .ok (.isub, 1) := by decide +kernel
theorem dX10_undo_28 : decode cX10_undo 28 = .ok (.putfield 58, 3) := by decide +kernel
theorem dX10_undo_31 : decode cX10_undo 31 = .ok (.aload_n 0, 1) := by decide +kernel
theorem dX10_undo_32 : decode cX10_undo 32 = .ok (.getfield 13, 3) := by decide +kernel
theorem dX10_undo_35 : decode cX10_undo 35 = .ok (.sipush 140, 3) := by decide +kernel
theorem dX10_undo_38 : decode cX10_undo 38 = .ok (.aload_n 0, 1) := by decide +kernel
theorem dX10_undo_39 : decode cX10_undo 39 = .ok (.getfield 58, 3) := by decide +kernel
theorem dX10_undo_42 : decode cX10_undo 42 = .ok (.imul, 1) := by decide +kernel
theorem dX10_undo_43 : decode cX10_undo 43 = .ok (.aload_n 0, 1) := by decide +kernel
theorem dX10_undo_44 : decode cX10_undo 44 = .ok (.getfield 7, 3) := by decide +kernel
theorem dX10_undo_47 : decode cX10_undo 47 = .ok (.iconst 0, 1) := by decide +kernel
theorem dX10_undo_48 : decode cX10_undo 48 = .ok (.invokestatic 61, 3) := by decide +kernel
theorem dX10_undo_51 : decode cX10_undo 51 = .ok (.aload_n 0, 1) := by decide +kernel
theorem dX10_undo_52 : decode cX10_undo 52 = .ok (.getfield 58, 3) := by decide +kernel
theorem dX10_undo_55 : decode cX10_undo 55 = .ok (.ireturn, 1) := by decide +kernel
theorem dX10_save_0 : decode cX10_save 0 = .ok (.aload_n 0, 1) := by decide +kernel
theorem dX10_save_1 : decode cX10_save 1 = .ok (.iconst 0, 1) := by decide +kernel
theorem dX10_save_2 : decode cX10_save 2 = .ok (.putfield 39, 3) := by decide +kernel
theorem dX10_save_5 : decode cX10_save 5 = .ok (.aload_n 0, 1) := by decide +kernel
theorem dX10_save_6 : decode cX10_save 6 = .ok (.iconst 1, 1) := by decide +kernel
theorem dX10_save_7 : decode cX10_save 7 = .ok (.putfield 250, 3) := by decide +kernel
theorem dX10_save_10 : decode cX10_save 10 = .ok (.aload_n 0, 1) := by decide +kernel
theorem dX10_save_11 : decode cX10_save 11 = .ok (.getfield 7, 3) := by decide +kernel
theorem dX10_save_14 : decode cX10_save 14 = .ok (.iconst 0, 1) := by decide +kernel
theorem dX10_save_15 : decode cX10_save 15 = .ok (.aload_n 0, 1) := by decide +kernel
theorem dX10_save_16 : decode cX10_save 16 = .ok (.getfield 16, 3) := by decide +kernel
theorem dX10_save_19 : decode cX10_save 19 = .ok (.iconst 0, 1) := by decide +kernel
theorem dX10_save_20 : decode cX10_save 20 = .ok (.invokestatic 61, 3) := by decide +kernel
theorem dX10_save_23 : decode cX10_save 23 = .ok (.aload_n 0, 1) := by decide +kernel
theorem dX10_save_24 : decode cX10_save 24 = .ok (.getfield 7, 3) := by decide +kernel
theorem dX10_save_27 : decode cX10_save 27 = .ok (.iconst 0, 1) := by decide +kernel
theorem dX10_save_28 : decode cX10_save 28 = .ok (.iaload, 1) := by decide +kernel
theorem dX10_save_29 : decode cX10_save 29 = .ok (.ireturn, 1) := by decide +kernel
theorem dX10_restore_0 : decode cX10_restore 0 = .ok (.aload_n 0, 1) := by decide +kernel
theorem dX10_restore_1 : decode cX10_restore 1 = .ok (.aload_n 0, 1) := by decide +kernel
theorem dX10_restore_2 : decode cX10_restore 2 = .ok (.getfield 250, 3) := by decide +kernel
theorem dX10_restore_5 : decode cX10_restore 5 = .ok (.ifCond .eq 7, 3) := by decide +kernel
theorem dX10_restore_8 : decode cX10_restore 8 = .ok (.iconst 0, 1) := by decide +kernel
theorem dX10_restore_9 : decode cX10_restore 9 = .ok (.goto 4, 3) := by decide +kernel
theorem dX10_restore_12 : decode cX10_restore 12 = .ok (.iconst 1, 1) := by decide +kernel
theorem dX10_restore_13 : decode cX10_restore 13 = .ok (.invokevirtual 156, 3) := by decide +kernel
theorem dX10_restore_16 : decode cX10_restore 16 = .ok (.ifCond .eq 5, 3) := by decide +kernel
theorem dX10_restore_19 : decode cX10_restore 19 = .ok (.iconst 0, 1) := by decide +kernel
theorem dX10_restore_20 : decode cX10_restore 20 = .ok (.ireturn, 1) := by decide +kernel
theorem dX10_restore_21 : decode cX10_restore 21 = .ok (.aload_n 0, 1) := by decide +kernel
theorem dX10_restore_22 : decode cX10_restore 22 = .ok (.getfield 16, 3) := by decide +kernel
theorem dX10_restore_25 : decode cX10_restore 25 = .ok (.iconst 0, 1) := by decide +kernel
theorem dX10_restore_26 : decode cX10_restore 26 = .ok (.aload_n 0, 1) := by decide +kernel
theorem dX10_restore_27 : decode cX10_restore 27 = .ok (.getfield 7, 3) := by decide +kernel
theorem dX10_restore_30 : decode cX10_restore 30 = .ok (.iconst 0, 1) := by decide +kernel
theorem dX10_restore_31 : decode cX10_restore 31 = .ok (.invokestatic 61, 3) := by decide +kernel
theorem dX10_restore_34 : decode cX10_restore 34 = .ok (.aload_n 0, 1) := by decide +kernel
theorem dX10_restore_35 : decode cX10_restore 35 = .ok (.iconst 0, 1) := by decide +kernel
theorem dX10_restore_36 : decode cX10_restore 36 = .ok (.putfield 58, 3) := by decide +kernel
theorem dX10_restore_39 : decode cX10_restore 39 = .ok (.aload_n 0, 1) := by decide +kernel
theorem dX10_restore_40 : decode cX10_restore 40 = .ok (.getfield 7, 3) := by decide +kernel
theorem dX10_restore_43 : decode cX10_restore 43 = .ok (.iconst 0, 1) := by decide +kernel
theorem dX10_restore_44 : decode cX10_restore 44 = .ok (.iaload, 1) := by decide +kernel
theorem dX10_restore_45 : decode cX10_restore 45 = .ok (.ireturn, 1) := by decide +kernel
theorem dL_fish_0 : decode cL_fish 0 = .ok (.aload_n 2, 1) := by decide +kernel
theorem dL_fish_1 : decode cL_fish 1 = .ok (.iconst 0, 1) := by decide +kernel
theorem dL_fish_2 : decode cL_fish 2 = .ok (.aload_n 0, 1) := by decide +kernel
theorem dL_fish_3 : decode cL_fish 3 = .ok (.iload_n 1, 1) := by decide +kernel
theorem dL_fish_4 : decode cL_fish 4 = .ok (.invokevirtual 7, 3) := by decide +kernel
theorem dL_fish_7 : decode cL_fish 7 = .ok (.i2l, 1) := by decide +kernel
theorem dL_fish_8 : decode cL_fish 8 = .ok (.lastore, 1) := by decide +kernel
theorem dL_fish_9 : decode cL_fish 9 = .ok (.goto 6, 3) := by decide +kernel
theorem dL_fish_12 : decode cL_fish 12 = .ok (.astore_n 3, 1) := by decide +kernel
theorem dL_fish_13 : decode cL_fish 13 = .ok (.iconst 1, 1) := by decide +kernel
theorem dL_fish_14 : decode cL_fish 14 = .ok (.ireturn, 1) := by decide +kernel
theorem dL_fish_15 : decode cL_fish 15 = .ok (.iconst 0, 1) := by decide +kernel
theorem dL_fish_16 : decode cL_fish 16 = .ok (.ireturn, 1) := by decide +kernel
theorem dL_brine_0 : decode cL_brine 0 = .ok (.aload_n 2, 1) := by decide +kernel
theorem dL_brine_1 : decode cL_brine 1 = .ok (.iconst 0, 1) := by decide +kernel
theorem dL_brine_2 : decode cL_brine 2 = .ok (.aload_n 0, 1) := by decide +kernel
theorem dL_brine_3 : decode cL_brine 3 = .ok (.iload_n 1, 1) := by decide +kernel
theorem dL_brine_4 : decode cL_brine 4 = .ok (.invokevirtual 15, 3) := by decide +kernel
theorem dL_brine_7 : decode cL_brine 7 = .ok (.i2l, 1) := by decide +kernel
theorem dL_brine_8 : decode cL_brine 8 = .ok (.lastore, 1) := by decide +kernel
theorem dL_brine_9 : decode cL_brine 9 = .ok (.goto 6, 3) := by decide +kernel
theorem dL_brine_12 : decode cL_brine 12 = .ok (.astore_n 3, 1) := by decide +kernel
theorem dL_brine_13 : decode cL_brine 13 = .ok (.iconst 1, 1) := by decide +kernel
theorem dL_brine_14 : decode cL_brine 14 = .ok (.ireturn, 1) := by decide +kernel
theorem dL_brine_15 : decode cL_brine 15 = .ok (.iconst 0, 1) := by decide +kernel
theorem dL_brine_16 : decode cL_brine 16 = .ok (.ireturn, 1) := by decide +kernel
theorem dL_out_0 : decode cL_out 0 = .ok (.aload_n 2, 1) := by decide +kernel
theorem dL_out_1 : decode cL_out 1 = .ok (.iconst 0, 1) := by decide +kernel
theorem dL_out_2 : decode cL_out 2 = .ok (.aload_n 0, 1) := by decide +kernel
theorem dL_out_3 : decode cL_out 3 = .ok (.iload_n 1, 1) := by decide +kernel
theorem dL_out_4 : decode cL_out 4 = .ok (.invokevirtual 18, 3) := by decide +kernel
theorem dL_out_7 : decode cL_out 7 = .ok (.i2l, 1) := by decide +kernel
theorem dL_out_8 : decode cL_out 8 = .ok (.lastore, 1) := by decide +kernel
theorem dL_out_9 : decode cL_out 9 = .ok (.goto 6, 3) := by decide +kernel
theorem dL_out_12 : decode cL_out 12 = .ok (.astore_n 3, 1) := by decide +kernel
theorem dL_out_13 : decode cL_out 13 = .ok (.iconst 1, 1) := by decide +kernel
theorem dL_out_14 : decode cL_out 14 = .ok (.ireturn, 1) := by decide +kernel
theorem dL_out_15 : decode cL_out 15 = .ok (.iconst 0, 1) := by decide +kernel
theorem dL_out_16 : decode cL_out 16 = .ok (.ireturn, 1) := by decide +kernel
theorem dL_hang_0 : decode cL_hang 0 = .ok (.aload 4, 2) := by decide +kernel
theorem dL_hang_2 : decode cL_hang 2 = .ok (.iconst 0, 1) := by decide +kernel
theorem dL_hang_3 : decode cL_hang 3 = .ok (.aload_n 0, 1) := by decide +kernel
theorem dL_hang_4 : decode cL_hang 4 = .ok (.iload_n 1, 1) := by decide +kernel
theorem dL_hang_5 : decode cL_hang 5 = .ok (.iload_n 2, 1) := by decide +kernel
theorem dL_hang_6 : decode cL_hang 6 = .ok (.iload_n 3, 1) := by decide +kernel
theorem dL_hang_7 : decode cL_hang 7 = .ok (.invokevirtual 21, 3) := by decide +kernel
theorem dL_hang_10 : decode cL_hang 10 = .ok (.i2l, 1) := by decide +kernel
theorem dL_hang_11 : decode cL_hang 11 = .ok (.lastore, 1) := by decide +kernel
theorem dL_hang_12 : decode cL_hang 12 = .ok (.goto 7, 3) := by decide +kernel
theorem dL_hang_15 : decode cL_hang 15 = .ok (.astore 5, 2) := by decide +kernel
theorem dL_hang_17 : decode cL_hang 17 = .ok (.iconst 1, 1) := by decide +kernel
theorem dL_hang_18 : decode cL_hang 18 = .ok (.ireturn, 1) := by decide +kernel
theorem dL_hang_19 : decode cL_hang 19 = .ok (.iconst 0, 1) := by decide +kernel
theorem dL_hang_20 : decode cL_hang 20 = .ok (.ireturn, 1) := by decide +kernel
theorem dL_turn_0 : decode cL_turn 0 = .ok (.aload_n 2, 1) := by decide +kernel
theorem dL_turn_1 : decode cL_turn 1 = .ok (.iconst 0, 1) := by decide +kernel
theorem dL_turn_2 : decode cL_turn 2 = .ok (.aload_n 0, 1) := by decide +kernel
theorem dL_turn_3 : decode cL_turn 3 = .ok (.iload_n 1, 1) := by decide +kernel
theorem dL_turn_4 : decode cL_turn 4 = .ok (.invokevirtual 25, 3) := by decide +kernel
theorem dL_turn_7 : decode cL_turn 7 = .ok (.i2l, 1) := by decide +kernel
theorem dL_turn_8 : decode cL_turn 8 = .ok (.lastore, 1) := by decide +kernel
theorem dL_turn_9 : decode cL_turn 9 = .ok (.goto 6, 3) := by decide +kernel
theorem dL_turn_12 : decode cL_turn 12 = .ok (.astore_n 3, 1) := by decide +kernel
theorem dL_turn_13 : decode cL_turn 13 = .ok (.iconst 1, 1) := by decide +kernel
theorem dL_turn_14 : decode cL_turn 14 = .ok (.ireturn, 1) := by decide +kernel
theorem dL_turn_15 : decode cL_turn 15 = .ok (.iconst 0, 1) := by decide +kernel
theorem dL_turn_16 : decode cL_turn 16 = .ok (.ireturn, 1) := by decide +kernel
theorem dL_turnAll_0 : decode cL_turnAll 0 = .ok (.aload_n 2, 1) := by decide +kernel
theorem dL_turnAll_1 : decode cL_turnAll 1 = .ok (.iconst 0, 1) := by decide +kernel
theorem dL_turnAll_2 : decode cL_turnAll 2 = .ok (.aload_n 0, 1) := by decide +kernel
theorem dL_turnAll_3 : decode cL_turnAll 3 = .ok (.iload_n 1, 1) := by decide +kernel
theorem dL_turnAll_4 : decode cL_turnAll 4 = .ok (.invokevirtual 28, 3) := by decide +kernel
theorem dL_turnAll_7 : decode cL_turnAll 7 = .ok (.i2l, 1) := by decide +kernel
theorem dL_turnAll_8 : decode cL_turnAll 8 = .ok (.lastore, 1) := by decide +kernel
theorem dL_turnAll_9 : decode cL_turnAll 9 = .ok (.goto 6, 3) := by decide +kernel
theorem dL_turnAll_12 : decode cL_turnAll 12 = .ok (.astore_n 3, 1) := by decide +kernel
theorem dL_turnAll_13 : decode cL_turnAll 13 = .ok (.iconst 1, 1) := by decide +kernel
theorem dL_turnAll_14 : decode cL_turnAll 14 = .ok (.ireturn, 1) := by decide +kernel
theorem dL_turnAll_15 : decode cL_turnAll 15 = .ok (.iconst 0, 1) := by decide +kernel
theorem dL_turnAll_16 : decode cL_turnAll 16 = .ok (.ireturn, 1) := by decide +kernel
theorem dL_logs_0 : decode cL_logs 0 = .ok (.aload_n 2, 1) := by decide +kernel
theorem dL_logs_1 : decode cL_logs 1 = .ok (.iconst 0, 1) := by decide +kernel
theorem dL_logs_2 : decode cL_logs 2 = .ok (.aload_n 0, 1) := by decide +kernel
theorem dL_logs_3 : decode cL_logs 3 = .ok (.iload_n 1, 1) := by decide +kernel
theorem dL_logs_4 : decode cL_logs 4 = .ok (.invokevirtual 31, 3) := by decide +kernel
theorem dL_logs_7 : decode cL_logs 7 = .ok (.i2l, 1) := by decide +kernel
theorem dL_logs_8 : decode cL_logs 8 = .ok (.lastore, 1) := by decide +kernel
theorem dL_logs_9 : decode cL_logs 9 = .ok (.goto 6, 3) := by decide +kernel
theorem dL_logs_12 : decode cL_logs 12 = .ok (.astore_n 3, 1) := by decide +kernel
theorem dL_logs_13 : decode cL_logs 13 = .ok (.iconst 1, 1) := by decide +kernel
theorem dL_logs_14 : decode cL_logs 14 = .ok (.ireturn, 1) := by decide +kernel
theorem dL_logs_15 : decode cL_logs 15 = .ok (.iconst 0, 1) := by decide +kernel
theorem dL_logs_16 : decode cL_logs 16 = .ok (.ireturn, 1) := by decide +kernel
theorem dL_wood_0 : decode cL_wood 0 = .ok (.aload_n 2, 1) := by decide +kernel
theorem dL_wood_1 : decode cL_wood 1 = .ok (.iconst 0, 1) := by decide +kernel
theorem dL_wood_2 : decode cL_wood 2 = .ok (.aload_n 0, 1) := by decide +kernel
theorem dL_wood_3 : decode cL_wood 3 = .ok (.iload_n 1, 1) := by decide +kernel
theorem dL_wood_4 : decode cL_wood 4 = .ok (.invokevirtual 34, 3) := by decide +kernel
theorem dL_wood_7 : decode cL_wood 7 = .ok (.i2l, 1) := by decide +kernel
theorem dL_wood_8 : decode cL_wood 8 = .ok (.lastore, 1) := by decide +kernel
theorem dL_wood_9 : decode cL_wood 9 = .ok (.goto 6, 3) := by decide +kernel
theorem dL_wood_12 : decode cL_wood 12 = .ok (.astore_n 3, 1) := by decide +kernel
theorem dL_wood_13 : decode cL_wood 13 = .ok (.iconst 1, 1) := by decide +kernel
theorem dL_wood_14 : decode cL_wood 14 = .ok (.ireturn, 1) := by decide +kernel
theorem dL_wood_15 : decode cL_wood 15 = .ok (.iconst 0, 1) := by decide +kernel
theorem dL_wood_16 : decode cL_wood 16 = .ok (.ireturn, 1) := by decide +kernel
theorem dL_day_0 : decode cL_day 0 = .ok (.aload_n 1, 1) := by decide +kernel
theorem dL_day_1 : decode cL_day 1 = .ok (.iconst 0, 1) := by decide +kernel
theorem dL_day_2 : decode cL_day 2 = .ok (.aload_n 0, 1) := by decide +kernel
theorem dL_day_3 : decode cL_day 3 = .ok (.invokevirtual 37, 3) := by decide +kernel
theorem dL_day_6 : decode cL_day 6 = .ok (.i2l, 1) := by decide +kernel
theorem dL_day_7 : decode cL_day 7 = .ok (.lastore, 1) := by decide +kernel
theorem dL_day_8 : decode cL_day 8 = .ok (.goto 6, 3) := by decide +kernel
theorem dL_day_11 : decode cL_day 11 = .ok (.astore_n 2, 1) := by decide +kernel
theorem dL_day_12 : decode cL_day 12 = .ok (.iconst 1, 1) := by decide +kernel
theorem dL_day_13 : decode cL_day 13 = .ok (.ireturn, 1) := by decide +kernel
theorem dL_day_14 : decode cL_day 14 = .ok (.iconst 0, 1) := by decide +kernel
theorem dL_day_15 : decode cL_day 15 = .ok (.ireturn, 1) := by decide +kernel
theorem dL_hours_0 : decode cL_hours 0 = .ok (.aload_n 2, 1) := by decide +kernel
theorem dL_hours_1 : decode cL_hours 1 = .ok (.iconst 0, 1) := by decide +kernel
theorem dL_hours_2 : decode cL_hours 2 = .ok (.aload_n 0, 1) := by decide +kernel
theorem dL_hours_3 : decode cL_hours 3 = .ok (.iload_n 1, 1) := by decide +kernel
theorem dL_hours_4 : decode cL_hours 4 = .ok (.invokevirtual 41, 3) := by decide +kernel
theorem dL_hours_7 : decode cL_hours 7 = .ok (.i2l, 1) := by decide +kernel
theorem dL_hours_8 : decode cL_hours 8 = .ok (.lastore, 1) := by decide +kernel
theorem dL_hours_9 : decode cL_hours 9 = .ok (.goto 6, 3) := by decide +kernel
theorem dL_hours_12 : decode cL_hours 12 = .ok (.astore_n 3, 1) := by decide +kernel
theorem dL_hours_13 : decode cL_hours 13 = .ok (.iconst 1, 1) := by decide +kernel
theorem dL_hours_14 : decode cL_hours 14 = .ok (.ireturn, 1) := by decide +kernel
theorem dL_hours_15 : decode cL_hours 15 = .ok (.iconst 0, 1) := by decide +kernel
theorem dL_hours_16 : decode cL_hours 16 = .ok (.ireturn, 1) := by decide +kernel
theorem dL_sell_0 : decode cL_sell 0 = .ok (.aload_n 2, 1) := by decide +kernel
theorem dL_sell_1 : decode cL_sell 1 = .ok (.iconst 0, 1) := by decide +kernel
theorem dL_sell_2 : decode cL_sell 2 = .ok (.aload_n 0, 1) := by decide +kernel
theorem dL_sell_3 : decode cL_sell 3 = .ok (.iload_n 1, 1) := by decide +kernel
theorem dL_sell_4 : decode cL_sell 4 = .ok (.invokevirtual 44, 3) := by decide +kernel
theorem dL_sell_7 : decode cL_sell 7 = .ok (.i2l, 1) := by decide +kernel
theorem dL_sell_8 : decode cL_sell 8 = .ok (.lastore, 1) := by decide +kernel
theorem dL_sell_9 : decode cL_sell 9 = .ok (.goto 6, 3) := by decide +kernel
theorem dL_sell_12 : decode cL_sell 12 = .ok (.astore_n 3, 1) := by decide +kernel
theorem dL_sell_13 : decode cL_sell 13 = .ok (.iconst 1, 1) := by decide +kernel
theorem dL_sell_14 : decode cL_sell 14 = .ok (.ireturn, 1) := by decide +kernel
theorem dL_sell_15 : decode cL_sell 15 = .ok (.iconst 0, 1) := by decide +kernel
theorem dL_sell_16 : decode cL_sell 16 = .ok (.ireturn, 1) := by decide +kernel
theorem dL_throwAway_0 : decode cL_throwAway 0 = .ok (.aload_n 2, 1) := by decide +kernel
theorem dL_throwAway_1 : decode cL_throwAway 1 = .ok (.iconst 0, 1) := by decide +kernel
theorem dL_throwAway_2 : decode cL_throwAway 2 = .ok (.aload_n 0, 1) := by decide +kernel
theorem dL_throwAway_3 : decode cL_throwAway 3 = .ok (.iload_n 1, 1) := by decide +kernel
theorem dL_throwAway_4 : decode cL_throwAway 4 = .ok (.invokevirtual 47, 3) := by decide +kernel
theorem dL_throwAway_7 : decode cL_throwAway 7 = .ok (.i2l, 1) := by decide +kernel
theorem dL_throwAway_8 : decode cL_throwAway 8 = .ok (.lastore, 1) := by decide +kernel
theorem dL_throwAway_9 : decode cL_throwAway 9 = .ok (.goto 6, 3) := by decide +kernel
theorem dL_throwAway_12 : decode cL_throwAway 12 = .ok (.astore_n 3, 1) := by decide +kernel
theorem dL_throwAway_13 : decode cL_throwAway 13 = .ok (.iconst 1, 1) := by decide +kernel
theorem dL_throwAway_14 : decode cL_throwAway 14 = .ok (.ireturn, 1) := by decide +kernel
theorem dL_throwAway_15 : decode cL_throwAway 15 = .ok (.iconst 0, 1) := by decide +kernel
theorem dL_throwAway_16 : decode cL_throwAway 16 = .ok (.ireturn, 1) := by decide +kernel
theorem dL_fishOf_0 : decode cL_fishOf 0 = .ok (.aload_n 3, 1) := by decide +kernel
theorem dL_fishOf_1 : decode cL_fishOf 1 = .ok (.iconst 0, 1) := by decide +kernel
theorem dL_fishOf_2 : decode cL_fishOf 2 = .ok (.aload_n 0, 1) := by decide +kernel
theorem dL_fishOf_3 : decode cL_fishOf 3 = .ok (.iload_n 1, 1) := by decide +kernel
theorem dL_fishOf_4 : decode cL_fishOf 4 = .ok (.iload_n 2, 1) := by decide +kernel
theorem dL_fishOf_5 : decode cL_fishOf 5 = .ok (.invokevirtual 50, 3) := by decide +kernel
theorem dL_fishOf_8 : decode cL_fishOf 8 = .ok (.i2l, 1) := by decide +kernel
theorem dL_fishOf_9 : decode cL_fishOf 9 = .ok (.lastore, 1) := by decide +kernel
theorem dL_fishOf_10 : decode cL_fishOf 10 = .ok (.goto 11, 3) := by decide +kernel
theorem dL_fishOf_13 : decode cL_fishOf 13 = .ok (.astore 4, 2) := by decide +kernel
theorem dL_fishOf_15 : decode cL_fishOf 15 = .ok (.iconst 1, 1) := by decide +kernel
theorem dL_fishOf_16 : decode cL_fishOf 16 = .ok (.ireturn, 1) := by decide +kernel
theorem dL_fishOf_17 : decode cL_fishOf 17 = .ok (.astore 4, 2) := by decide +kernel
theorem dL_fishOf_19 : decode cL_fishOf 19 = .ok (.iconst 2, 1) := by decide +kernel
theorem dL_fishOf_20 : decode cL_fishOf 20 = .ok (.ireturn, 1) := by decide +kernel
theorem dL_fishOf_21 : decode cL_fishOf 21 = .ok (.iconst 0, 1) := by decide +kernel
theorem dL_fishOf_22 : decode cL_fishOf 22 = .ok (.ireturn, 1) := by decide +kernel
theorem dL_sideOf_0 : decode cL_sideOf 0 = .ok (.aload 4, 2) := by decide +kernel
theorem dL_sideOf_2 : decode cL_sideOf 2 = .ok (.iconst 0, 1) := by decide +kernel
theorem dL_sideOf_3 : decode cL_sideOf 3 = .ok (.aload_n 0, 1) := by decide +kernel
theorem dL_sideOf_4 : decode cL_sideOf 4 = .ok (.iload_n 1, 1) := by decide +kernel
theorem dL_sideOf_5 : decode cL_sideOf 5 = .ok (.iload_n 2, 1) := by decide +kernel
theorem dL_sideOf_6 : decode cL_sideOf 6 = .ok (.iload_n 3, 1) := by decide +kernel
theorem dL_sideOf_7 : decode cL_sideOf 7 = .ok (.invokevirtual 58, 3) := by decide +kernel
theorem dL_sideOf_10 : decode cL_sideOf 10 = .ok (.i2l, 1) := by decide +kernel
theorem dL_sideOf_11 : decode cL_sideOf 11 = .ok (.lastore, 1) := by decide +kernel
theorem dL_sideOf_12 : decode cL_sideOf 12 = .ok (.goto 11, 3) := by decide +kernel
theorem dL_sideOf_15 : decode cL_sideOf 15 = .ok (.astore 5, 2) := by decide +kernel
theorem dL_sideOf_17 : decode cL_sideOf 17 = .ok (.iconst 1, 1) := by decide +kernel
theorem dL_sideOf_18 : decode cL_sideOf 18 = .ok (.ireturn, 1) := by decide +kernel
theorem dL_sideOf_19 : decode cL_sideOf 19 = .ok (.astore 5, 2) := by decide +kernel
theorem dL_sideOf_21 : decode cL_sideOf 21 = .ok (.iconst 2, 1) := by decide +kernel
theorem dL_sideOf_22 : decode cL_sideOf 22 = .ok (.ireturn, 1) := by decide +kernel
theorem dL_sideOf_23 : decode cL_sideOf 23 = .ok (.iconst 0, 1) := by decide +kernel
theorem dL_sideOf_24 : decode cL_sideOf 24 = .ok (.ireturn, 1) := by decide +kernel
theorem dL_at_0 : decode cL_at 0 = .ok (.aload_n 3, 1) := by decide +kernel
theorem dL_at_1 : decode cL_at 1 = .ok (.iconst 0, 1) := by decide +kernel
theorem dL_at_2 : decode cL_at 2 = .ok (.aload_n 0, 1) := by decide +kernel
theorem dL_at_3 : decode cL_at 3 = .ok (.iload_n 1, 1) := by decide +kernel
theorem dL_at_4 : decode cL_at 4 = .ok (.iload_n 2, 1) := by decide +kernel
theorem dL_at_5 : decode cL_at 5 = .ok (.invokevirtual 62, 3) := by decide +kernel
theorem dL_at_8 : decode cL_at 8 = .ok (.i2l, 1) := by decide +kernel
theorem dL_at_9 : decode cL_at 9 = .ok (.lastore, 1) := by decide +kernel
theorem dL_at_10 : decode cL_at 10 = .ok (.goto 11, 3) := by decide +kernel
theorem dL_at_13 : decode cL_at 13 = .ok (.astore 4, 2) := by decide +kernel
theorem dL_at_15 : decode cL_at 15 = .ok (.iconst 1, 1) := by decide +kernel
theorem dL_at_16 : decode cL_at 16 = .ok (.ireturn, 1) := by decide +kernel
theorem dL_at_17 : decode cL_at 17 = .ok (.astore 4, 2) := by decide +kernel
theorem dL_at_19 : decode cL_at 19 = .ok (.iconst 2, 1) := by decide +kernel
theorem dL_at_20 : decode cL_at 20 = .ok (.ireturn, 1) := by decide +kernel
theorem dL_at_21 : decode cL_at 21 = .ok (.iconst 0, 1) := by decide +kernel
theorem dL_at_22 : decode cL_at 22 = .ok (.ireturn, 1) := by decide +kernel
theorem dL_heat_0 : decode cL_heat 0 = .ok (.aload_n 2, 1) := by decide +kernel
theorem dL_heat_1 : decode cL_heat 1 = .ok (.iconst 0, 1) := by decide +kernel
theorem dL_heat_2 : decode cL_heat 2 = .ok (.aload_n 0, 1) := by decide +kernel
theorem dL_heat_3 : decode cL_heat 3 = .ok (.iload_n 1, 1) := by decide +kernel
theorem dL_heat_4 : decode cL_heat 4 = .ok (.invokevirtual 67, 3) := by decide +kernel
theorem dL_heat_7 : decode cL_heat 7 = .ok (.i2l, 1) := by decide +kernel
theorem dL_heat_8 : decode cL_heat 8 = .ok (.lastore, 1) := by decide +kernel
theorem dL_heat_9 : decode cL_heat 9 = .ok (.goto 6, 3) := by decide +kernel
theorem dL_heat_12 : decode cL_heat 12 = .ok (.astore_n 3, 1) := by decide +kernel
theorem dL_heat_13 : decode cL_heat 13 = .ok (.iconst 1, 1) := by decide +kernel
theorem dL_heat_14 : decode cL_heat 14 = .ok (.ireturn, 1) := by decide +kernel
theorem dL_heat_15 : decode cL_heat 15 = .ok (.iconst 0, 1) := by decide +kernel
theorem dL_heat_16 : decode cL_heat 16 = .ok (.ireturn, 1) := by decide +kernel
theorem dL_nearest_0 : decode cL_nearest 0 = .ok (.aload_n 2, 1) := by decide +kernel
theorem dL_nearest_1 : decode cL_nearest 1 = .ok (.iconst 0, 1) := by decide +kernel
theorem dL_nearest_2 : decode cL_nearest 2 = .ok (.aload_n 0, 1) := by decide +kernel
theorem dL_nearest_3 : decode cL_nearest 3 = .ok (.iload_n 1, 1) := by decide +kernel
theorem dL_nearest_4 : decode cL_nearest 4 = .ok (.invokevirtual 70, 3) := by decide +kernel
theorem dL_nearest_7 : decode cL_nearest 7 = .ok (.i2l, 1) := by decide +kernel
theorem dL_nearest_8 : decode cL_nearest 8 = .ok (.lastore, 1) := by decide +kernel
theorem dL_nearest_9 : decode cL_nearest 9 = .ok (.goto 9, 3) := by decide +kernel
theorem dL_nearest_12 : decode cL_nearest 12 = .ok (.astore_n 3, 1) := by decide +kernel
theorem dL_nearest_13 : decode cL_nearest 13 = .ok (.iconst 1, 1) := by decide +kernel
theorem dL_nearest_14 : decode cL_nearest 14 = .ok (.ireturn, 1) := by decide +kernel
theorem dL_nearest_15 : decode cL_nearest 15 = .ok (.astore_n 3, 1) := by decide +kernel
theorem dL_nearest_16 : decode cL_nearest 16 = .ok (.iconst 2, 1) := by decide +kernel
theorem dL_nearest_17 : decode cL_nearest 17 = .ok (.ireturn, 1) := by decide +kernel
theorem dL_nearest_18 : decode cL_nearest 18 = .ok (.iconst 0, 1) := by decide +kernel
theorem dL_nearest_19 : decode cL_nearest 19 = .ok (.ireturn, 1) := by decide +kernel
theorem dL_isCrowded_0 : decode cL_isCrowded 0 = .ok (.aload_n 2, 1) := by decide +kernel
theorem dL_isCrowded_1 : decode cL_isCrowded 1 = .ok (.iconst 0, 1) := by decide +kernel
theorem dL_isCrowded_2 : decode cL_isCrowded 2 = .ok (.aload_n 0, 1) := by decide +kernel
theorem dL_isCrowded_3 : decode cL_isCrowded 3 = .ok (.iload_n 1, 1) := by decide +kernel
theorem dL_isCrowded_4 : decode cL_isCrowded 4 = .ok (.invokevirtual 73, 3) := by decide +kernel
theorem dL_isCrowded_7 : decode cL_isCrowded 7 = .ok (.ifCond .eq 7, 3) := by decide +kernel
theorem dL_isCrowded_10 : decode cL_isCrowded 10 = .ok (.lconst 1, 1) := by decide +kernel
theorem dL_isCrowded_11 : decode cL_isCrowded 11 = .ok (.goto 4, 3) := by decide +kernel
theorem dL_isCrowded_14 : decode cL_isCrowded 14 = .ok (.lconst 0, 1) := by decide +kernel
theorem dL_isCrowded_15 : decode cL_isCrowded 15 = .ok (.lastore, 1) := by decide +kernel
theorem dL_isCrowded_16 : decode cL_isCrowded 16 = .ok (.goto 6, 3) := by decide +kernel
theorem dL_isCrowded_19 : decode cL_isCrowded 19 = .ok (.astore_n 3, 1) := by decide +kernel
theorem dL_isCrowded_20 : decode cL_isCrowded 20 = .ok (.iconst 1, 1) := by decide +kernel
theorem dL_isCrowded_21 : decode cL_isCrowded 21 = .ok (.ireturn, 1) := by decide +kernel
theorem dL_isCrowded_22 : decode cL_isCrowded 22 = .ok (.iconst 0, 1) := by decide +kernel
theorem dL_isCrowded_23 : decode cL_isCrowded 23 = .ok (.ireturn, 1) := by decide +kernel
theorem dL_isDone_0 : decode cL_isDone 0 = .ok (.aload_n 2, 1) := by decide +kernel
theorem dL_isDone_1 : decode cL_isDone 1 = .ok (.iconst 0, 1) := by decide +kernel
theorem dL_isDone_2 : decode cL_isDone 2 = .ok (.aload_n 0, 1) := by decide +kernel
theorem dL_isDone_3 : decode cL_isDone 3 = .ok (.iload_n 1, 1) := by decide +kernel
theorem dL_isDone_4 : decode cL_isDone 4 = .ok (.invokevirtual 77, 3) := by decide +kernel
theorem dL_isDone_7 : decode cL_isDone 7 = .ok (.ifCond .eq 7, 3) := by decide +kernel
theorem dL_isDone_10 : decode cL_isDone 10 = .ok (.lconst 1, 1) := by decide +kernel
theorem dL_isDone_11 : decode cL_isDone 11 = .ok (.goto 4, 3) := by decide +kernel
theorem dL_isDone_14 : decode cL_isDone 14 = .ok (.lconst 0, 1) := by decide +kernel
theorem dL_isDone_15 : decode cL_isDone 15 = .ok (.lastore, 1) := by decide +kernel
theorem dL_isDone_16 : decode cL_isDone 16 = .ok (.goto 6, 3) := by decide +kernel
theorem dL_isDone_19 : decode cL_isDone 19 = .ok (.astore_n 3, 1) := by decide +kernel
theorem dL_isDone_20 : decode cL_isDone 20 = .ok (.iconst 1, 1) := by decide +kernel
theorem dL_isDone_21 : decode cL_isDone 21 = .ok (.ireturn, 1) := by decide +kernel
theorem dL_isDone_22 : decode cL_isDone 22 = .ok (.iconst 0, 1) := by decide +kernel
theorem dL_isDone_23 : decode cL_isDone 23 = .ok (.ireturn, 1) := by decide +kernel
theorem dL_wouldChar_0 : decode cL_wouldChar 0 = .ok (.aload_n 3, 1) := by decide +kernel
theorem dL_wouldChar_1 : decode cL_wouldChar 1 = .ok (.iconst 0, 1) := by decide +kernel
theorem dL_wouldChar_2 : decode cL_wouldChar 2 = .ok (.aload_n 0, 1) := by decide +kernel
theorem dL_wouldChar_3 : decode cL_wouldChar 3 = .ok (.iload_n 1, 1) := by decide +kernel
theorem dL_wouldChar_4 : decode cL_wouldChar 4 = .ok (.iload_n 2, 1) := by decide +kernel
theorem dL_wouldChar_5 : decode cL_wouldChar 5 = .ok (.invokevirtual 80, 3) := by decide +kernel
theorem dL_wouldChar_8 : decode cL_wouldChar 8 = .ok (.i2l, 1) := by decide +kernel
theorem dL_wouldChar_9 : decode cL_wouldChar 9 = .ok (.lastore, 1) := by decide +kernel
theorem dL_wouldChar_10 : decode cL_wouldChar 10 = .ok (.goto 11, 3) := by decide +kernel
theorem dL_wouldChar_13 : decode cL_wouldChar 13 = .ok (.astore 4, 2) := by decide +kernel
theorem dL_wouldChar_15 : decode cL_wouldChar 15 = .ok (.iconst 1, 1) := by decide +kernel
theorem dL_wouldChar_16 : decode cL_wouldChar 16 = .ok (.ireturn, 1) := by decide +kernel
theorem dL_wouldChar_17 : decode cL_wouldChar 17 = .ok (.astore 4, 2) := by decide +kernel
theorem dL_wouldChar_19 : decode cL_wouldChar 19 = .ok (.iconst 2, 1) := by decide +kernel
theorem dL_wouldChar_20 : decode cL_wouldChar 20 = .ok (.ireturn, 1) := by decide +kernel
theorem dL_wouldChar_21 : decode cL_wouldChar 21 = .ok (.iconst 0, 1) := by decide +kernel
theorem dL_wouldChar_22 : decode cL_wouldChar 22 = .ok (.ireturn, 1) := by decide +kernel
theorem dL_wouldCharAgain_0 : decode cL_wouldCharAgain 0 = .ok (.aload_n 3, 1) := by decide +kernel
theorem dL_wouldCharAgain_1 : decode cL_wouldCharAgain 1 = .ok (.iconst 0, 1) := by decide +kernel
theorem dL_wouldCharAgain_2 : decode cL_wouldCharAgain 2 = .ok (.aload_n 0, 1) := by decide +kernel
theorem dL_wouldCharAgain_3 : decode cL_wouldCharAgain 3 = .ok (.iload_n 1, 1) := by decide +kernel
theorem dL_wouldCharAgain_4 : decode cL_wouldCharAgain 4 = .ok (.iload_n 2, 1) := by decide +kernel
theorem dL_wouldCharAgain_5 : decode cL_wouldCharAgain 5 = .ok (.invokevirtual 83, 3) := by decide +kernel
theorem dL_wouldCharAgain_8 : decode cL_wouldCharAgain 8 = .ok (.i2l, 1) := by decide +kernel
theorem dL_wouldCharAgain_9 : decode cL_wouldCharAgain 9 = .ok (.lastore, 1) := by decide +kernel
theorem dL_wouldCharAgain_10 : decode cL_wouldCharAgain 10 = .ok (.goto 11, 3) := by decide +kernel
theorem dL_wouldCharAgain_13 : decode cL_wouldCharAgain 13 = .ok (.astore 4, 2) := by decide +kernel
theorem dL_wouldCharAgain_15 : decode cL_wouldCharAgain 15 = .ok (.iconst 1, 1) := by decide +kernel
theorem dL_wouldCharAgain_16 : decode cL_wouldCharAgain 16 = .ok (.ireturn, 1) := by decide +kernel
theorem dL_wouldCharAgain_17 : decode cL_wouldCharAgain 17 = .ok (.astore 4, 2) := by decide +kernel
theorem dL_wouldCharAgain_19 : decode cL_wouldCharAgain 19 = .ok (.iconst 2, 1) := by decide +kernel
theorem dL_wouldCharAgain_20 : decode cL_wouldCharAgain 20 = .ok (.ireturn, 1) := by decide +kernel
theorem dL_wouldCharAgain_21 : decode cL_wouldCharAgain 21 = .ok (.iconst 0, 1) := by decide +kernel
theorem dL_wouldCharAgain_22 : decode cL_wouldCharAgain 22 = .ok (.ireturn, 1) := by decide +kernel
theorem dL_burnsIn_0 : decode cL_burnsIn 0 = .ok (.aload_n 2, 1) := by decide +kernel
theorem dL_burnsIn_1 : decode cL_burnsIn 1 = .ok (.iconst 0, 1) := by decide +kernel
theorem dL_burnsIn_2 : decode cL_burnsIn 2 = .ok (.aload_n 0, 1) := by decide +kernel
theorem dL_burnsIn_3 : decode cL_burnsIn 3 = .ok (.iload_n 1, 1) := by decide +kernel
theorem dL_burnsIn_4 : decode cL_burnsIn 4 = .ok (.invokevirtual 86, 3) := by decide +kernel
theorem dL_burnsIn_7 : decode cL_burnsIn 7 = .ok (.i2l, 1) := by decide +kernel
theorem dL_burnsIn_8 : decode cL_burnsIn 8 = .ok (.lastore, 1) := by decide +kernel
theorem dL_burnsIn_9 : decode cL_burnsIn 9 = .ok (.goto 9, 3) := by decide +kernel
theorem dL_burnsIn_12 : decode cL_burnsIn 12 = .ok (.astore_n 3, 1) := by decide +kernel
theorem dL_burnsIn_13 : decode cL_burnsIn 13 = .ok (.iconst 1, 1) := by decide +kernel
theorem dL_burnsIn_14 : decode cL_burnsIn 14 = .ok (.ireturn, 1) := by decide +kernel
theorem dL_burnsIn_15 : decode cL_burnsIn 15 = .ok (.astore_n 3, 1) := by decide +kernel
theorem dL_burnsIn_16 : decode cL_burnsIn 16 = .ok (.iconst 2, 1) := by decide +kernel
theorem dL_burnsIn_17 : decode cL_burnsIn 17 = .ok (.ireturn, 1) := by decide +kernel
theorem dL_burnsIn_18 : decode cL_burnsIn 18 = .ok (.iconst 0, 1) := by decide +kernel
theorem dL_burnsIn_19 : decode cL_burnsIn 19 = .ok (.ireturn, 1) := by decide +kernel
theorem dL_doneIn_0 : decode cL_doneIn 0 = .ok (.aload_n 2, 1) := by decide +kernel
theorem dL_doneIn_1 : decode cL_doneIn 1 = .ok (.iconst 0, 1) := by decide +kernel
theorem dL_doneIn_2 : decode cL_doneIn 2 = .ok (.aload_n 0, 1) := by decide +kernel
theorem dL_doneIn_3 : decode cL_doneIn 3 = .ok (.iload_n 1, 1) := by decide +kernel
theorem dL_doneIn_4 : decode cL_doneIn 4 = .ok (.invokevirtual 89, 3) := by decide +kernel
theorem dL_doneIn_7 : decode cL_doneIn 7 = .ok (.i2l, 1) := by decide +kernel
theorem dL_doneIn_8 : decode cL_doneIn 8 = .ok (.lastore, 1) := by decide +kernel
theorem dL_doneIn_9 : decode cL_doneIn 9 = .ok (.goto 9, 3) := by decide +kernel
theorem dL_doneIn_12 : decode cL_doneIn 12 = .ok (.astore_n 3, 1) := by decide +kernel
theorem dL_doneIn_13 : decode cL_doneIn 13 = .ok (.iconst 1, 1) := by decide +kernel
theorem dL_doneIn_14 : decode cL_doneIn 14 = .ok (.ireturn, 1) := by decide +kernel
theorem dL_doneIn_15 : decode cL_doneIn 15 = .ok (.astore_n 3, 1) := by decide +kernel
theorem dL_doneIn_16 : decode cL_doneIn 16 = .ok (.iconst 2, 1) := by decide +kernel
theorem dL_doneIn_17 : decode cL_doneIn 17 = .ok (.ireturn, 1) := by decide +kernel
theorem dL_doneIn_18 : decode cL_doneIn 18 = .ok (.iconst 0, 1) := by decide +kernel
theorem dL_doneIn_19 : decode cL_doneIn 19 = .ok (.ireturn, 1) := by decide +kernel
theorem dL_hottest_0 : decode cL_hottest 0 = .ok (.aload_n 1, 1) := by decide +kernel
theorem dL_hottest_1 : decode cL_hottest 1 = .ok (.iconst 0, 1) := by decide +kernel
theorem dL_hottest_2 : decode cL_hottest 2 = .ok (.aload_n 0, 1) := by decide +kernel
theorem dL_hottest_3 : decode cL_hottest 3 = .ok (.invokevirtual 92, 3) := by decide +kernel
theorem dL_hottest_6 : decode cL_hottest 6 = .ok (.i2l, 1) := by decide +kernel
theorem dL_hottest_7 : decode cL_hottest 7 = .ok (.lastore, 1) := by decide +kernel
theorem dL_hottest_8 : decode cL_hottest 8 = .ok (.goto 6, 3) := by decide +kernel
theorem dL_hottest_11 : decode cL_hottest 11 = .ok (.astore_n 2, 1) := by decide +kernel
theorem dL_hottest_12 : decode cL_hottest 12 = .ok (.iconst 1, 1) := by decide +kernel
theorem dL_hottest_13 : decode cL_hottest 13 = .ok (.ireturn, 1) := by decide +kernel
theorem dL_hottest_14 : decode cL_hottest 14 = .ok (.iconst 0, 1) := by decide +kernel
theorem dL_hottest_15 : decode cL_hottest 15 = .ok (.ireturn, 1) := by decide +kernel
theorem dL_bestHook_0 : decode cL_bestHook 0 = .ok (.aload_n 3, 1) := by decide +kernel
theorem dL_bestHook_1 : decode cL_bestHook 1 = .ok (.iconst 0, 1) := by decide +kernel
theorem dL_bestHook_2 : decode cL_bestHook 2 = .ok (.aload_n 0, 1) := by decide +kernel
theorem dL_bestHook_3 : decode cL_bestHook 3 = .ok (.iload_n 1, 1) := by decide +kernel
theorem dL_bestHook_4 : decode cL_bestHook 4 = .ok (.iload_n 2, 1) := by decide +kernel
theorem dL_bestHook_5 : decode cL_bestHook 5 = .ok (.invokevirtual 95, 3) := by decide +kernel
theorem dL_bestHook_8 : decode cL_bestHook 8 = .ok (.i2l, 1) := by decide +kernel
theorem dL_bestHook_9 : decode cL_bestHook 9 = .ok (.lastore, 1) := by decide +kernel
theorem dL_bestHook_10 : decode cL_bestHook 10 = .ok (.goto 11, 3) := by decide +kernel
theorem dL_bestHook_13 : decode cL_bestHook 13 = .ok (.astore 4, 2) := by decide +kernel
theorem dL_bestHook_15 : decode cL_bestHook 15 = .ok (.iconst 1, 1) := by decide +kernel
theorem dL_bestHook_16 : decode cL_bestHook 16 = .ok (.ireturn, 1) := by decide +kernel
theorem dL_bestHook_17 : decode cL_bestHook 17 = .ok (.astore 4, 2) := by decide +kernel
theorem dL_bestHook_19 : decode cL_bestHook 19 = .ok (.iconst 2, 1) := by decide +kernel
theorem dL_bestHook_20 : decode cL_bestHook 20 = .ok (.ireturn, 1) := by decide +kernel
theorem dL_bestHook_21 : decode cL_bestHook 21 = .ok (.iconst 0, 1) := by decide +kernel
theorem dL_bestHook_22 : decode cL_bestHook 22 = .ok (.ireturn, 1) := by decide +kernel
theorem dL_ranked_0 : decode cL_ranked 0 = .ok (.aload_n 3, 1) := by decide +kernel
theorem dL_ranked_1 : decode cL_ranked 1 = .ok (.iconst 0, 1) := by decide +kernel
theorem dL_ranked_2 : decode cL_ranked 2 = .ok (.aload_n 0, 1) := by decide +kernel
theorem dL_ranked_3 : decode cL_ranked 3 = .ok (.iload_n 1, 1) := by decide +kernel
theorem dL_ranked_4 : decode cL_ranked 4 = .ok (.iload_n 2, 1) := by decide +kernel
theorem dL_ranked_5 : decode cL_ranked 5 = .ok (.invokevirtual 98, 3) := by decide +kernel
theorem dL_ranked_8 : decode cL_ranked 8 = .ok (.i2l, 1) := by decide +kernel
theorem dL_ranked_9 : decode cL_ranked 9 = .ok (.lastore, 1) := by decide +kernel
theorem dL_ranked_10 : decode cL_ranked 10 = .ok (.goto 11, 3) := by decide +kernel
theorem dL_ranked_13 : decode cL_ranked 13 = .ok (.astore 4, 2) := by decide +kernel
theorem dL_ranked_15 : decode cL_ranked 15 = .ok (.iconst 1, 1) := by decide +kernel
theorem dL_ranked_16 : decode cL_ranked 16 = .ok (.ireturn, 1) := by decide +kernel
theorem dL_ranked_17 : decode cL_ranked 17 = .ok (.astore 4, 2) := by decide +kernel
theorem dL_ranked_19 : decode cL_ranked 19 = .ok (.iconst 2, 1) := by decide +kernel
theorem dL_ranked_20 : decode cL_ranked 20 = .ok (.ireturn, 1) := by decide +kernel
theorem dL_ranked_21 : decode cL_ranked 21 = .ok (.iconst 0, 1) := by decide +kernel
theorem dL_ranked_22 : decode cL_ranked 22 = .ok (.ireturn, 1) := by decide +kernel
theorem dL_append_0 : decode cL_append 0 = .ok (.aload_n 2, 1) := by decide +kernel
theorem dL_append_1 : decode cL_append 1 = .ok (.iconst 0, 1) := by decide +kernel
theorem dL_append_2 : decode cL_append 2 = .ok (.aload_n 0, 1) := by decide +kernel
theorem dL_append_3 : decode cL_append 3 = .ok (.iload_n 1, 1) := by decide +kernel
theorem dL_append_4 : decode cL_append 4 = .ok (.invokevirtual 101, 3) := by decide +kernel
theorem dL_append_7 : decode cL_append 7 = .ok (.i2l, 1) := by decide +kernel
theorem dL_append_8 : decode cL_append 8 = .ok (.lastore, 1) := by decide +kernel
theorem dL_append_9 : decode cL_append 9 = .ok (.goto 6, 3) := by decide +kernel
theorem dL_append_12 : decode cL_append 12 = .ok (.astore_n 3, 1) := by decide +kernel
theorem dL_append_13 : decode cL_append 13 = .ok (.iconst 1, 1) := by decide +kernel
theorem dL_append_14 : decode cL_append 14 = .ok (.ireturn, 1) := by decide +kernel
theorem dL_append_15 : decode cL_append 15 = .ok (.iconst 0, 1) := by decide +kernel
theorem dL_append_16 : decode cL_append 16 = .ok (.ireturn, 1) := by decide +kernel
theorem dL_commands_0 : decode cL_commands 0 = .ok (.aload_n 1, 1) := by decide +kernel
theorem dL_commands_1 : decode cL_commands 1 = .ok (.iconst 0, 1) := by decide +kernel
theorem dL_commands_2 : decode cL_commands 2 = .ok (.aload_n 0, 1) := by decide +kernel
theorem dL_commands_3 : decode cL_commands 3 = .ok (.invokevirtual 107, 3) := by decide +kernel
theorem dL_commands_6 : decode cL_commands 6 = .ok (.i2l, 1) := by decide +kernel
theorem dL_commands_7 : decode cL_commands 7 = .ok (.lastore, 1) := by decide +kernel
theorem dL_commands_8 : decode cL_commands 8 = .ok (.goto 9, 3) := by decide +kernel
theorem dL_commands_11 : decode cL_commands 11 = .ok (.astore_n 2, 1) := by decide +kernel
theorem dL_commands_12 : decode cL_commands 12 = .ok (.iconst 1, 1) := by decide +kernel
theorem dL_commands_13 : decode cL_commands 13 = .ok (.ireturn, 1) := by decide +kernel
theorem dL_commands_14 : decode cL_commands 14 = .ok (.astore_n 2, 1) := by decide +kernel
theorem dL_commands_15 : decode cL_commands 15 = .ok (.iconst 2, 1) := by decide +kernel
theorem dL_commands_16 : decode cL_commands 16 = .ok (.ireturn, 1) := by decide +kernel
theorem dL_commands_17 : decode cL_commands 17 = .ok (.iconst 0, 1) := by decide +kernel
theorem dL_commands_18 : decode cL_commands 18 = .ok (.ireturn, 1) := by decide +kernel
theorem dL_reason_0 : decode cL_reason 0 = .ok (.aload_n 2, 1) := by decide +kernel
theorem dL_reason_1 : decode cL_reason 1 = .ok (.iconst 0, 1) := by decide +kernel
theorem dL_reason_2 : decode cL_reason 2 = .ok (.aload_n 0, 1) := by decide +kernel
theorem dL_reason_3 : decode cL_reason 3 = .ok (.iload_n 1, 1) := by decide +kernel
theorem dL_reason_4 : decode cL_reason 4 = .ok (.invokevirtual 110, 3) := by decide +kernel
theorem dL_reason_7 : decode cL_reason 7 = .ok (.i2l, 1) := by decide +kernel
theorem dL_reason_8 : decode cL_reason 8 = .ok (.lastore, 1) := by decide +kernel
theorem dL_reason_9 : decode cL_reason 9 = .ok (.goto 9, 3) := by decide +kernel
theorem dL_reason_12 : decode cL_reason 12 = .ok (.astore_n 3, 1) := by decide +kernel
theorem dL_reason_13 : decode cL_reason 13 = .ok (.iconst 1, 1) := by decide +kernel
theorem dL_reason_14 : decode cL_reason 14 = .ok (.ireturn, 1) := by decide +kernel
theorem dL_reason_15 : decode cL_reason 15 = .ok (.astore_n 3, 1) := by decide +kernel
theorem dL_reason_16 : decode cL_reason 16 = .ok (.iconst 2, 1) := by decide +kernel
theorem dL_reason_17 : decode cL_reason 17 = .ok (.ireturn, 1) := by decide +kernel
theorem dL_reason_18 : decode cL_reason 18 = .ok (.iconst 0, 1) := by decide +kernel
theorem dL_reason_19 : decode cL_reason 19 = .ok (.ireturn, 1) := by decide +kernel
theorem dL_rack_0 : decode cL_rack 0 = .ok (.aload_n 2, 1) := by decide +kernel
theorem dL_rack_1 : decode cL_rack 1 = .ok (.iconst 0, 1) := by decide +kernel
theorem dL_rack_2 : decode cL_rack 2 = .ok (.aload_n 0, 1) := by decide +kernel
theorem dL_rack_3 : decode cL_rack 3 = .ok (.iload_n 1, 1) := by decide +kernel
theorem dL_rack_4 : decode cL_rack 4 = .ok (.invokevirtual 113, 3) := by decide +kernel
theorem dL_rack_7 : decode cL_rack 7 = .ok (.i2l, 1) := by decide +kernel
theorem dL_rack_8 : decode cL_rack 8 = .ok (.lastore, 1) := by decide +kernel
theorem dL_rack_9 : decode cL_rack 9 = .ok (.goto 6, 3) := by decide +kernel
theorem dL_rack_12 : decode cL_rack 12 = .ok (.astore_n 3, 1) := by decide +kernel
theorem dL_rack_13 : decode cL_rack 13 = .ok (.iconst 1, 1) := by decide +kernel
theorem dL_rack_14 : decode cL_rack 14 = .ok (.ireturn, 1) := by decide +kernel
theorem dL_rack_15 : decode cL_rack 15 = .ok (.iconst 0, 1) := by decide +kernel
theorem dL_rack_16 : decode cL_rack 16 = .ok (.ireturn, 1) := by decide +kernel
theorem dL_line_0 : decode cL_line 0 = .ok (.aload_n 2, 1) := by decide +kernel
theorem dL_line_1 : decode cL_line 1 = .ok (.iconst 0, 1) := by decide +kernel
theorem dL_line_2 : decode cL_line 2 = .ok (.aload_n 0, 1) := by decide +kernel
theorem dL_line_3 : decode cL_line 3 = .ok (.iload_n 1, 1) := by decide +kernel
theorem dL_line_4 : decode cL_line 4 = .ok (.invokevirtual 116, 3) := by decide +kernel
theorem dL_line_7 : decode cL_line 7 = .ok (.i2l, 1) := by decide +kernel
theorem dL_line_8 : decode cL_line 8 = .ok (.lastore, 1) := by decide +kernel
theorem dL_line_9 : decode cL_line 9 = .ok (.goto 6, 3) := by decide +kernel
theorem dL_line_12 : decode cL_line 12 = .ok (.astore_n 3, 1) := by decide +kernel
theorem dL_line_13 : decode cL_line 13 = .ok (.iconst 1, 1) := by decide +kernel
theorem dL_line_14 : decode cL_line 14 = .ok (.ireturn, 1) := by decide +kernel
theorem dL_line_15 : decode cL_line 15 = .ok (.iconst 0, 1) := by decide +kernel
theorem dL_line_16 : decode cL_line 16 = .ok (.ireturn, 1) := by decide +kernel
theorem dL_character_0 : decode cL_character 0 = .ok (.aload_n 2, 1) := by decide +kernel
theorem dL_character_1 : decode cL_character 1 = .ok (.iconst 0, 1) := by decide +kernel
theorem dL_character_2 : decode cL_character 2 = .ok (.aload_n 0, 1) := by decide +kernel
theorem dL_character_3 : decode cL_character 3 = .ok (.iload_n 1, 1) := by decide +kernel
theorem dL_character_4 : decode cL_character 4 = .ok (.invokevirtual 119, 3) := by decide +kernel
theorem dL_character_7 : decode cL_character 7 = .ok (.i2l, 1) := by decide +kernel
theorem dL_character_8 : decode cL_character 8 = .ok (.lastore, 1) := by decide +kernel
theorem dL_character_9 : decode cL_character 9 = .ok (.goto 6, 3) := by decide +kernel
theorem dL_character_12 : decode cL_character 12 = .ok (.astore_n 3, 1) := by decide +kernel
theorem dL_character_13 : decode cL_character 13 = .ok (.iconst 1, 1) := by decide +kernel
theorem dL_character_14 : decode cL_character 14 = .ok (.ireturn, 1) := by decide +kernel
theorem dL_character_15 : decode cL_character 15 = .ok (.iconst 0, 1) := by decide +kernel
theorem dL_character_16 : decode cL_character 16 = .ok (.ireturn, 1) := by decide +kernel
theorem dL_meanSmoke_0 : decode cL_meanSmoke 0 = .ok (.aload_n 1, 1) := by decide +kernel
theorem dL_meanSmoke_1 : decode cL_meanSmoke 1 = .ok (.iconst 0, 1) := by decide +kernel
theorem dL_meanSmoke_2 : decode cL_meanSmoke 2 = .ok (.aload_n 0, 1) := by decide +kernel
theorem dL_meanSmoke_3 : decode cL_meanSmoke 3 = .ok (.invokevirtual 123, 3) := by decide +kernel
theorem dL_meanSmoke_6 : decode cL_meanSmoke 6 = .ok (.i2l, 1) := by decide +kernel
theorem dL_meanSmoke_7 : decode cL_meanSmoke 7 = .ok (.lastore, 1) := by decide +kernel
theorem dL_meanSmoke_8 : decode cL_meanSmoke 8 = .ok (.goto 6, 3) := by decide +kernel
theorem dL_meanSmoke_11 : decode cL_meanSmoke 11 = .ok (.astore_n 2, 1) := by decide +kernel
theorem dL_meanSmoke_12 : decode cL_meanSmoke 12 = .ok (.iconst 1, 1) := by decide +kernel
theorem dL_meanSmoke_13 : decode cL_meanSmoke 13 = .ok (.ireturn, 1) := by decide +kernel
theorem dL_meanSmoke_14 : decode cL_meanSmoke 14 = .ok (.iconst 0, 1) := by decide +kernel
theorem dL_meanSmoke_15 : decode cL_meanSmoke 15 = .ok (.ireturn, 1) := by decide +kernel
theorem dL_burntShare_0 : decode cL_burntShare 0 = .ok (.aload_n 1, 1) := by decide +kernel
theorem dL_burntShare_1 : decode cL_burntShare 1 = .ok (.iconst 0, 1) := by decide +kernel
theorem dL_burntShare_2 : decode cL_burntShare 2 = .ok (.aload_n 0, 1) := by decide +kernel
theorem dL_burntShare_3 : decode cL_burntShare 3 = .ok (.invokevirtual 128, 3) := by decide +kernel
theorem dL_burntShare_6 : decode cL_burntShare 6 = .ok (.dastore, 1) := by decide +kernel
theorem dL_burntShare_7 : decode cL_burntShare 7 = .ok (.goto 6, 3) := by decide +kernel
theorem dL_burntShare_10 : decode cL_burntShare 10 = .ok (.astore_n 2, 1) := by decide +kernel
theorem dL_burntShare_11 : decode cL_burntShare 11 = .ok (.iconst 1, 1) := by decide +kernel
theorem dL_burntShare_12 : decode cL_burntShare 12 = .ok (.ireturn, 1) := by decide +kernel
theorem dL_burntShare_13 : decode cL_burntShare 13 = .ok (.iconst 0, 1) := by decide +kernel
theorem dL_burntShare_14 : decode cL_burntShare 14 = .ok (.ireturn, 1) := by decide +kernel
theorem dL_account_0 : decode cL_account 0 = .ok (.aload_n 2, 1) := by decide +kernel
theorem dL_account_1 : decode cL_account 1 = .ok (.iconst 0, 1) := by decide +kernel
theorem dL_account_2 : decode cL_account 2 = .ok (.aload_n 0, 1) := by decide +kernel
theorem dL_account_3 : decode cL_account 3 = .ok (.iload_n 1, 1) := by decide +kernel
theorem dL_account_4 : decode cL_account 4 = .ok (.invokevirtual 132, 3) := by decide +kernel
theorem dL_account_7 : decode cL_account 7 = .ok (.i2l, 1) := by decide +kernel
theorem dL_account_8 : decode cL_account 8 = .ok (.lastore, 1) := by decide +kernel
theorem dL_account_9 : decode cL_account 9 = .ok (.goto 6, 3) := by decide +kernel
theorem dL_account_12 : decode cL_account 12 = .ok (.astore_n 3, 1) := by decide +kernel
theorem dL_account_13 : decode cL_account 13 = .ok (.iconst 1, 1) := by decide +kernel
theorem dL_account_14 : decode cL_account 14 = .ok (.ireturn, 1) := by decide +kernel
theorem dL_account_15 : decode cL_account 15 = .ok (.iconst 0, 1) := by decide +kernel
theorem dL_account_16 : decode cL_account 16 = .ok (.ireturn, 1) := by decide +kernel
theorem dL_undo_0 : decode cL_undo 0 = .ok (.aload_n 1, 1) := by decide +kernel
theorem dL_undo_1 : decode cL_undo 1 = .ok (.iconst 0, 1) := by decide +kernel
theorem dL_undo_2 : decode cL_undo 2 = .ok (.aload_n 0, 1) := by decide +kernel
theorem dL_undo_3 : decode cL_undo 3 = .ok (.invokevirtual 135, 3) := by decide +kernel
theorem dL_undo_6 : decode cL_undo 6 = .ok (.i2l, 1) := by decide +kernel
theorem dL_undo_7 : decode cL_undo 7 = .ok (.lastore, 1) := by decide +kernel
theorem dL_undo_8 : decode cL_undo 8 = .ok (.goto 6, 3) := by decide +kernel
theorem dL_undo_11 : decode cL_undo 11 = .ok (.astore_n 2, 1) := by decide +kernel
theorem dL_undo_12 : decode cL_undo 12 = .ok (.iconst 1, 1) := by decide +kernel
theorem dL_undo_13 : decode cL_undo 13 = .ok (.ireturn, 1) := by decide +kernel
theorem dL_undo_14 : decode cL_undo 14 = .ok (.iconst 0, 1) := by decide +kernel
theorem dL_undo_15 : decode cL_undo 15 = .ok (.ireturn, 1) := by decide +kernel
theorem dL_restore_0 : decode cL_restore 0 = .ok (.aload_n 1, 1) := by decide +kernel
theorem dL_restore_1 : decode cL_restore 1 = .ok (.iconst 0, 1) := by decide +kernel
theorem dL_restore_2 : decode cL_restore 2 = .ok (.aload_n 0, 1) := by decide +kernel
theorem dL_restore_3 : decode cL_restore 3 = .ok (.invokevirtual 138, 3) := by decide +kernel
theorem dL_restore_6 : decode cL_restore 6 = .ok (.i2l, 1) := by decide +kernel
theorem dL_restore_7 : decode cL_restore 7 = .ok (.lastore, 1) := by decide +kernel
theorem dL_restore_8 : decode cL_restore 8 = .ok (.goto 6, 3) := by decide +kernel
theorem dL_restore_11 : decode cL_restore 11 = .ok (.astore_n 2, 1) := by decide +kernel
theorem dL_restore_12 : decode cL_restore 12 = .ok (.iconst 1, 1) := by decide +kernel
theorem dL_restore_13 : decode cL_restore 13 = .ok (.ireturn, 1) := by decide +kernel
theorem dL_restore_14 : decode cL_restore 14 = .ok (.iconst 0, 1) := by decide +kernel
theorem dL_restore_15 : decode cL_restore 15 = .ok (.ireturn, 1) := by decide +kernel
theorem dL_law_0 : decode cL_law 0 = .ok (.new 8, 3) := by decide +kernel
theorem dL_law_3 : decode cL_law 3 = .ok (.dup, 1) := by decide +kernel
theorem dL_law_4 : decode cL_law 4 = .ok (.invokespecial 141, 3) := by decide +kernel
theorem dL_law_7 : decode cL_law 7 = .ok (.astore_n 1, 1) := by decide +kernel
theorem dL_law_8 : decode cL_law 8 = .ok (.new 142, 3) := by decide +kernel
theorem dL_law_11 : decode cL_law 11 = .ok (.dup, 1) := by decide +kernel
theorem dL_law_12 : decode cL_law 12 = .ok (.invokespecial 144, 3) := by decide +kernel
theorem dL_law_15 : decode cL_law 15 = .ok (.astore_n 2, 1) := by decide +kernel
theorem dL_law_16 : decode cL_law 16 = .ok (.iconst 1, 1) := by decide +kernel
theorem dL_law_17 : decode cL_law 17 = .ok (.newarray .long, 2) := by decide +kernel
theorem dL_law_19 : decode cL_law 19 = .ok (.astore_n 3, 1) := by decide +kernel
theorem dL_law_20 : decode cL_law 20 = .ok (.iconst 1, 1) := by decide +kernel
theorem dL_law_21 : decode cL_law 21 = .ok (.newarray .double, 2) := by decide +kernel
theorem dL_law_23 : decode cL_law 23 = .ok (.astore 4, 2) := by decide +kernel
theorem dL_law_25 : decode cL_law 25 = .ok (.iconst 0, 1) := by decide +kernel
theorem dL_law_26 : decode cL_law 26 = .ok (.istore 5, 2) := by decide +kernel
theorem dL_law_28 : decode cL_law 28 = .ok (.iload 5, 2) := by decide +kernel
theorem dL_law_30 : decode cL_law 30 = .ok (.aload_n 0, 1) := by decide +kernel
theorem dL_law_31 : decode cL_law 31 = .ok (.arraylength, 1) := by decide +kernel
theorem dL_law_32 : decode cL_law 32 = .ok (.iconst 4, 1) := by decide +kernel
theorem dL_law_33 : decode cL_law 33 = .ok (.isub, 1) := by decide +kernel
theorem dL_law_34 : decode cL_law 34 = .ok (.if_icmp .gt 2392, 3) := by decide +kernel
theorem dL_law_37 : decode cL_law 37 = .ok (.aload_n 0, 1) := by decide +kernel
theorem dL_law_38 : decode cL_law 38 = .ok (.iload 5, 2) := by decide +kernel
theorem dL_law_40 : decode cL_law 40 = .ok (.iaload, 1) := by decide +kernel
theorem dL_law_41 : decode cL_law 41 = .ok (.bipush 63, 2) := by decide +kernel
theorem dL_law_43 : decode cL_law 43 = .ok (.iand, 1) := by decide +kernel
theorem dL_law_44 : decode cL_law 44 = .ok (.tableswitch 2376 0 39 #[176, 232, 288, 344, 424, 480, 536, 592, 648, 692, 748, 804, 860, 928, 1024, 1092, 1148, 1204, 1267, 1330, 1398, 1466, 1522, 1578, 1622, 1690, 1703, 1771, 1829, 1873, 1886, 1942, 1998, 2054, 2110, 2154, 2219, 2275, 2319, 2332], 176) := by decide +kernel
theorem dL_law_220 : decode cL_law 220 = .ok (.aload_n 1, 1) := by decide +kernel
theorem dL_law_221 : decode cL_law 221 = .ok (.aload_n 0, 1) := by decide +kernel
theorem dL_law_222 : decode cL_law 222 = .ok (.iload 5, 2) := by decide +kernel
theorem dL_law_224 : decode cL_law 224 = .ok (.iconst 1, 1) := by decide +kernel
theorem dL_law_225 : decode cL_law 225 = .ok (.iadd, 1) := by decide +kernel
theorem dL_law_226 : decode cL_law 226 = .ok (.iaload, 1) := by decide +kernel
theorem dL_law_227 : decode cL_law 227 = .ok (.aload_n 3, 1) := by decide +kernel
theorem dL_law_228 : decode cL_law 228 = .ok (.invokestatic 145, 3) := by decide +kernel
theorem dL_law_231 : decode cL_law 231 = .ok (.istore 6, 2) := by decide +kernel
theorem dL_law_233 : decode cL_law 233 = .ok (.aload_n 2, 1) := by decide +kernel
theorem dL_law_234 : decode cL_law 234 = .ok (.aload_n 0, 1) := by decide +kernel
theorem dL_law_235 : decode cL_law 235 = .ok (.iload 5, 2) := by decide +kernel
theorem dL_law_237 : decode cL_law 237 = .ok (.iconst 1, 1) := by decide +kernel
theorem dL_law_238 : decode cL_law 238 = .ok (.iadd, 1) := by decide +kernel
theorem dL_law_239 : decode cL_law 239 = .ok (.iaload, 1) := by decide +kernel
theorem dL_law_240 : decode cL_law 240 = .ok (.invokevirtual 150, 3) := by decide +kernel
theorem dL_law_243 : decode cL_law 243 = .ok (.istore 7, 2) := by decide +kernel
theorem dL_law_245 : decode cL_law 245 = .ok (.aload_n 2, 1) := by decide +kernel
theorem dL_law_246 : decode cL_law 246 = .ok (.invokevirtual 151, 3) := by decide +kernel
theorem dL_law_249 : decode cL_law 249 = .ok (.iload 6, 2) := by decide +kernel
theorem dL_law_251 : decode cL_law 251 = .ok (.if_icmp .eq 5, 3) := by decide +kernel
theorem dL_law_254 : decode cL_law 254 = .ok (.iconst 0, 1) := by decide +kernel
theorem dL_law_255 : decode cL_law 255 = .ok (.ireturn, 1) := by decide +kernel
theorem dL_law_256 : decode cL_law 256 = .ok (.iload 6, 2) := by decide +kernel
theorem dL_law_258 : decode cL_law 258 = .ok (.ifCond .ne 15, 3) := by decide +kernel
theorem dL_law_261 : decode cL_law 261 = .ok (.aload_n 3, 1) := by decide +kernel
theorem dL_law_262 : decode cL_law 262 = .ok (.iconst 0, 1) := by decide +kernel
theorem dL_law_263 : decode cL_law 263 = .ok (.laload, 1) := by decide +kernel
theorem dL_law_264 : decode cL_law 264 = .ok (.iload 7, 2) := by decide +kernel
theorem dL_law_266 : decode cL_law 266 = .ok (.i2l, 1) := by decide +kernel
theorem dL_law_267 : decode cL_law 267 = .ok (.lcmp, 1) := by decide +kernel
theorem dL_law_268 : decode cL_law 268 = .ok (.ifCond .eq 5, 3) := by decide +kernel
theorem dL_law_271 : decode cL_law 271 = .ok (.iconst 0, 1) := by decide +kernel
theorem dL_law_272 : decode cL_law 272 = .ok (.ireturn, 1) := by decide +kernel
theorem dL_law_273 : decode cL_law 273 = .ok (.goto 2147, 3) := by decide +kernel
theorem dL_law_276 : decode cL_law 276 = .ok (.aload_n 1, 1) := by decide +kernel
theorem dL_law_277 : decode cL_law 277 = .ok (.aload_n 0, 1) := by decide +kernel
theorem dL_law_278 : decode cL_law 278 = .ok (.iload 5, 2) := by decide +kernel
theorem dL_law_280 : decode cL_law 280 = .ok (.iconst 1, 1) := by decide +kernel
theorem dL_law_281 : decode cL_law 281 = .ok (.iadd, 1) := by decide +kernel
theorem dL_law_282 : decode cL_law 282 = .ok (.iaload, 1) := by decide +kernel
theorem dL_law_283 : decode cL_law 283 = .ok (.aload_n 3, 1) := by decide +kernel
theorem dL_law_284 : decode cL_law 284 = .ok (.invokestatic 154, 3) := by decide +kernel
theorem dL_law_287 : decode cL_law 287 = .ok (.istore 6, 2) := by decide +kernel
theorem dL_law_289 : decode cL_law 289 = .ok (.aload_n 2, 1) := by decide +kernel
theorem dL_law_290 : decode cL_law 290 = .ok (.aload_n 0, 1) := by decide +kernel
theorem dL_law_291 : decode cL_law 291 = .ok (.iload 5, 2) := by decide +kernel
theorem dL_law_293 : decode cL_law 293 = .ok (.iconst 1, 1) := by decide +kernel
theorem dL_law_294 : decode cL_law 294 = .ok (.iadd, 1) := by decide +kernel
theorem dL_law_295 : decode cL_law 295 = .ok (.iaload, 1) := by decide +kernel
theorem dL_law_296 : decode cL_law 296 = .ok (.invokevirtual 156, 3) := by decide +kernel
theorem dL_law_299 : decode cL_law 299 = .ok (.istore 7, 2) := by decide +kernel
theorem dL_law_301 : decode cL_law 301 = .ok (.aload_n 2, 1) := by decide +kernel
theorem dL_law_302 : decode cL_law 302 = .ok (.invokevirtual 151, 3) := by decide +kernel
theorem dL_law_305 : decode cL_law 305 = .ok (.iload 6, 2) := by decide +kernel
theorem dL_law_307 : decode cL_law 307 = .ok (.if_icmp .eq 5, 3) := by decide +kernel
theorem dL_law_310 : decode cL_law 310 = .ok (.iconst 0, 1) := by decide +kernel
theorem dL_law_311 : decode cL_law 311 = .ok (.ireturn, 1) := by decide +kernel
theorem dL_law_312 : decode cL_law 312 = .ok (.iload 6, 2) := by decide +kernel
theorem dL_law_314 : decode cL_law 314 = .ok (.ifCond .ne 15, 3) := by decide +kernel
theorem dL_law_317 : decode cL_law 317 = .ok (.aload_n 3, 1) := by decide +kernel
theorem dL_law_318 : decode cL_law 318 = .ok (.iconst 0, 1) := by decide +kernel
theorem dL_law_319 : decode cL_law 319 = .ok (.laload, 1) := by decide +kernel
theorem dL_law_320 : decode cL_law 320 = .ok (.iload 7, 2) := by decide +kernel
theorem dL_law_322 : decode cL_law 322 = .ok (.i2l, 1) := by decide +kernel
theorem dL_law_323 : decode cL_law 323 = .ok (.lcmp, 1) := by decide +kernel
theorem dL_law_324 : decode cL_law 324 = .ok (.ifCond .eq 5, 3) := by decide +kernel
theorem dL_law_327 : decode cL_law 327 = .ok (.iconst 0, 1) := by decide +kernel
theorem dL_law_328 : decode cL_law 328 = .ok (.ireturn, 1) := by decide +kernel
theorem dL_law_329 : decode cL_law 329 = .ok (.goto 2091, 3) := by decide +kernel
theorem dL_law_332 : decode cL_law 332 = .ok (.aload_n 1, 1) := by decide +kernel
theorem dL_law_333 : decode cL_law 333 = .ok (.aload_n 0, 1) := by decide +kernel
theorem dL_law_334 : decode cL_law 334 = .ok (.iload 5, 2) := by decide +kernel
theorem dL_law_336 : decode cL_law 336 = .ok (.iconst 1, 1) := by decide +kernel
theorem dL_law_337 : decode cL_law 337 = .ok (.iadd, 1) := by decide +kernel
theorem dL_law_338 : decode cL_law 338 = .ok (.iaload, 1) := by decide +kernel
theorem dL_law_339 : decode cL_law 339 = .ok (.aload_n 3, 1) := by decide +kernel
theorem dL_law_340 : decode cL_law 340 = .ok (.invokestatic 157, 3) := by decide +kernel
theorem dL_law_343 : decode cL_law 343 = .ok (.istore 6, 2) := by decide +kernel
theorem dL_law_345 : decode cL_law 345 = .ok (.aload_n 2, 1) := by decide +kernel
theorem dL_law_346 : decode cL_law 346 = .ok (.aload_n 0, 1) := by decide +kernel
theorem dL_law_347 : decode cL_law 347 = .ok (.iload 5, 2) := by decide +kernel
theorem dL_law_349 : decode cL_law 349 = .ok (.iconst 1, 1) := by decide +kernel
theorem dL_law_350 : decode cL_law 350 = .ok (.iadd, 1) := by decide +kernel
theorem dL_law_351 : decode cL_law 351 = .ok (.iaload, 1) := by decide +kernel
theorem dL_law_352 : decode cL_law 352 = .ok (.invokevirtual 159, 3) := by decide +kernel
theorem dL_law_355 : decode cL_law 355 = .ok (.istore 7, 2) := by decide +kernel
theorem dL_law_357 : decode cL_law 357 = .ok (.aload_n 2, 1) := by decide +kernel
theorem dL_law_358 : decode cL_law 358 = .ok (.invokevirtual 151, 3) := by decide +kernel
theorem dL_law_361 : decode cL_law 361 = .ok (.iload 6, 2) := by decide +kernel
theorem dL_law_363 : decode cL_law 363 = .ok (.if_icmp .eq 5, 3) := by decide +kernel
theorem dL_law_366 : decode cL_law 366 = .ok (.iconst 0, 1) := by decide +kernel
theorem dL_law_367 : decode cL_law 367 = .ok (.ireturn, 1) := by decide +kernel
theorem dL_law_368 : decode cL_law 368 = .ok (.iload 6, 2) := by decide +kernel
theorem dL_law_370 : decode cL_law 370 = .ok (.ifCond .ne 15, 3) := by decide +kernel
theorem dL_law_373 : decode cL_law 373 = .ok (.aload_n 3, 1) := by decide +kernel
theorem dL_law_374 : decode cL_law 374 = .ok (.iconst 0, 1) := by decide +kernel
theorem dL_law_375 : decode cL_law 375 = .ok (.laload, 1) := by decide +kernel
theorem dL_law_376 : decode cL_law 376 = .ok (.iload 7, 2) := by decide +kernel
theorem dL_law_378 : decode cL_law 378 = .ok (.i2l, 1) := by decide +kernel
theorem dL_law_379 : decode cL_law 379 = .ok (.lcmp, 1) := by decide +kernel
theorem dL_law_380 : decode cL_law 380 = .ok (.ifCond .eq 5, 3) := by decide +kernel
theorem dL_law_383 : decode cL_law 383 = .ok (.iconst 0, 1) := by decide +kernel
theorem dL_law_384 : decode cL_law 384 = .ok (.ireturn, 1) := by decide +kernel
theorem dL_law_385 : decode cL_law 385 = .ok (.goto 2035, 3) := by decide +kernel
theorem dL_law_388 : decode cL_law 388 = .ok (.aload_n 1, 1) := by decide +kernel
theorem dL_law_389 : decode cL_law 389 = .ok (.aload_n 0, 1) := by decide +kernel
theorem dL_law_390 : decode cL_law 390 = .ok (.iload 5, 2) := by decide +kernel
theorem dL_law_392 : decode cL_law 392 = .ok (.iconst 1, 1) := by decide +kernel
theorem dL_law_393 : decode cL_law 393 = .ok (.iadd, 1) := by decide +kernel
theorem dL_law_394 : decode cL_law 394 = .ok (.iaload, 1) := by decide +kernel
theorem dL_law_395 : decode cL_law 395 = .ok (.aload_n 0, 1) := by decide +kernel
theorem dL_law_396 : decode cL_law 396 = .ok (.iload 5, 2) := by decide +kernel
theorem dL_law_398 : decode cL_law 398 = .ok (.iconst 2, 1) := by decide +kernel
theorem dL_law_399 : decode cL_law 399 = .ok (.iadd, 1) := by decide +kernel
theorem dL_law_400 : decode cL_law 400 = .ok (.iaload, 1) := by decide +kernel
theorem dL_law_401 : decode cL_law 401 = .ok (.aload_n 0, 1) := by decide +kernel
theorem dL_law_402 : decode cL_law 402 = .ok (.iload 5, 2) := by decide +kernel
theorem dL_law_404 : decode cL_law 404 = .ok (.iconst 3, 1) := by decide +kernel
theorem dL_law_405 : decode cL_law 405 = .ok (.iadd, 1) := by decide +kernel
theorem dL_law_406 : decode cL_law 406 = .ok (.iaload, 1) := by decide +kernel
theorem dL_law_407 : decode cL_law 407 = .ok (.aload_n 3, 1) := by decide +kernel
theorem dL_law_408 : decode cL_law 408 = .ok (.invokestatic 160, 3) := by decide +kernel
theorem dL_law_411 : decode cL_law 411 = .ok (.istore 6, 2) := by decide +kernel
theorem dL_law_413 : decode cL_law 413 = .ok (.aload_n 2, 1) := by decide +kernel
theorem dL_law_414 : decode cL_law 414 = .ok (.aload_n 0, 1) := by decide +kernel
theorem dL_law_415 : decode cL_law 415 = .ok (.iload 5, 2) := by decide +kernel
theorem dL_law_417 : decode cL_law 417 = .ok (.iconst 1, 1) := by decide +kernel
theorem dL_law_418 : decode cL_law 418 = .ok (.iadd, 1) := by decide +kernel
theorem dL_law_419 : decode cL_law 419 = .ok (.iaload, 1) := by decide +kernel
theorem dL_law_420 : decode cL_law 420 = .ok (.aload_n 0, 1) := by decide +kernel
theorem dL_law_421 : decode cL_law 421 = .ok (.iload 5, 2) := by decide +kernel
theorem dL_law_423 : decode cL_law 423 = .ok (.iconst 2, 1) := by decide +kernel
theorem dL_law_424 : decode cL_law 424 = .ok (.iadd, 1) := by decide +kernel
theorem dL_law_425 : decode cL_law 425 = .ok (.iaload, 1) := by decide +kernel
theorem dL_law_426 : decode cL_law 426 = .ok (.aload_n 0, 1) := by decide +kernel
theorem dL_law_427 : decode cL_law 427 = .ok (.iload 5, 2) := by decide +kernel
theorem dL_law_429 : decode cL_law 429 = .ok (.iconst 3, 1) := by decide +kernel
theorem dL_law_430 : decode cL_law 430 = .ok (.iadd, 1) := by decide +kernel
theorem dL_law_431 : decode cL_law 431 = .ok (.iaload, 1) := by decide +kernel
theorem dL_law_432 : decode cL_law 432 = .ok (.invokevirtual 163, 3) := by decide +kernel
theorem dL_law_435 : decode cL_law 435 = .ok (.istore 7, 2) := by decide +kernel
theorem dL_law_437 : decode cL_law 437 = .ok (.aload_n 2, 1) := by decide +kernel
theorem dL_law_438 : decode cL_law 438 = .ok (.invokevirtual 151, 3) := by decide +kernel
theorem dL_law_441 : decode cL_law 441 = .ok (.iload 6, 2) := by decide +kernel
theorem dL_law_443 : decode cL_law 443 = .ok (.if_icmp .eq 5, 3) := by decide +kernel
theorem dL_law_446 : decode cL_law 446 = .ok (.iconst 0, 1) := by decide +kernel
theorem dL_law_447 : decode cL_law 447 = .ok (.ireturn, 1) := by decide +kernel
theorem dL_law_448 : decode cL_law 448 = .ok (.iload 6, 2) := by decide +kernel
theorem dL_law_450 : decode cL_law 450 = .ok (.ifCond .ne 15, 3) := by decide +kernel
theorem dL_law_453 : decode cL_law 453 = .ok (.aload_n 3, 1) := by decide +kernel
theorem dL_law_454 : decode cL_law 454 = .ok (.iconst 0, 1) := by decide +kernel
theorem dL_law_455 : decode cL_law 455 = .ok (.laload, 1) := by decide +kernel
theorem dL_law_456 : decode cL_law 456 = .ok (.iload 7, 2) := by decide +kernel
theorem dL_law_458 : decode cL_law 458 = .ok (.i2l, 1) := by decide +kernel
theorem dL_law_459 : decode cL_law 459 = .ok (.lcmp, 1) := by decide +kernel
theorem dL_law_460 : decode cL_law 460 = .ok (.ifCond .eq 5, 3) := by decide +kernel
theorem dL_law_463 : decode cL_law 463 = .ok (.iconst 0, 1) := by decide +kernel
theorem dL_law_464 : decode cL_law 464 = .ok (.ireturn, 1) := by decide +kernel
theorem dL_law_465 : decode cL_law 465 = .ok (.goto 1955, 3) := by decide +kernel
theorem dL_law_468 : decode cL_law 468 = .ok (.aload_n 1, 1) := by decide +kernel
theorem dL_law_469 : decode cL_law 469 = .ok (.aload_n 0, 1) := by decide +kernel
theorem dL_law_470 : decode cL_law 470 = .ok (.iload 5, 2) := by decide +kernel
theorem dL_law_472 : decode cL_law 472 = .ok (.iconst 1, 1) := by decide +kernel
theorem dL_law_473 : decode cL_law 473 = .ok (.iadd, 1) := by decide +kernel
theorem dL_law_474 : decode cL_law 474 = .ok (.iaload, 1) := by decide +kernel
theorem dL_law_475 : decode cL_law 475 = .ok (.aload_n 3, 1) := by decide +kernel
theorem dL_law_476 : decode cL_law 476 = .ok (.invokestatic 164, 3) := by decide +kernel
theorem dL_law_479 : decode cL_law 479 = .ok (.istore 6, 2) := by decide +kernel
theorem dL_law_481 : decode cL_law 481 = .ok (.aload_n 2, 1) := by decide +kernel
theorem dL_law_482 : decode cL_law 482 = .ok (.aload_n 0, 1) := by decide +kernel
theorem dL_law_483 : decode cL_law 483 = .ok (.iload 5, 2) := by decide +kernel
theorem dL_law_485 : decode cL_law 485 = .ok (.iconst 1, 1) := by decide +kernel
theorem dL_law_486 : decode cL_law 486 = .ok (.iadd, 1) := by decide +kernel
theorem dL_law_487 : decode cL_law 487 = .ok (.iaload, 1) := by decide +kernel
theorem dL_law_488 : decode cL_law 488 = .ok (.invokevirtual 166, 3) := by decide +kernel
theorem dL_law_491 : decode cL_law 491 = .ok (.istore 7, 2) := by decide +kernel
theorem dL_law_493 : decode cL_law 493 = .ok (.aload_n 2, 1) := by decide +kernel
theorem dL_law_494 : decode cL_law 494 = .ok (.invokevirtual 151, 3) := by decide +kernel
theorem dL_law_497 : decode cL_law 497 = .ok (.iload 6, 2) := by decide +kernel
theorem dL_law_499 : decode cL_law 499 = .ok (.if_icmp .eq 5, 3) := by decide +kernel
theorem dL_law_502 : decode cL_law 502 = .ok (.iconst 0, 1) := by decide +kernel
theorem dL_law_503 : decode cL_law 503 = .ok (.ireturn, 1) := by decide +kernel
theorem dL_law_504 : decode cL_law 504 = .ok (.iload 6, 2) := by decide +kernel
theorem dL_law_506 : decode cL_law 506 = .ok (.ifCond .ne 15, 3) := by decide +kernel
theorem dL_law_509 : decode cL_law 509 = .ok (.aload_n 3, 1) := by decide +kernel
theorem dL_law_510 : decode cL_law 510 = .ok (.iconst 0, 1) := by decide +kernel
theorem dL_law_511 : decode cL_law 511 = .ok (.laload, 1) := by decide +kernel
theorem dL_law_512 : decode cL_law 512 = .ok (.iload 7, 2) := by decide +kernel
theorem dL_law_514 : decode cL_law 514 = .ok (.i2l, 1) := by decide +kernel
theorem dL_law_515 : decode cL_law 515 = .ok (.lcmp, 1) := by decide +kernel
theorem dL_law_516 : decode cL_law 516 = .ok (.ifCond .eq 5, 3) := by decide +kernel
theorem dL_law_519 : decode cL_law 519 = .ok (.iconst 0, 1) := by decide +kernel
theorem dL_law_520 : decode cL_law 520 = .ok (.ireturn, 1) := by decide +kernel
theorem dL_law_521 : decode cL_law 521 = .ok (.goto 1899, 3) := by decide +kernel
theorem dL_law_524 : decode cL_law 524 = .ok (.aload_n 1, 1) := by decide +kernel
theorem dL_law_525 : decode cL_law 525 = .ok (.aload_n 0, 1) := by decide +kernel
theorem dL_law_526 : decode cL_law 526 = .ok (.iload 5, 2) := by decide +kernel
theorem dL_law_528 : decode cL_law 528 = .ok (.iconst 1, 1) := by decide +kernel
theorem dL_law_529 : decode cL_law 529 = .ok (.iadd, 1) := by decide +kernel
theorem dL_law_530 : decode cL_law 530 = .ok (.iaload, 1) := by decide +kernel
theorem dL_law_531 : decode cL_law 531 = .ok (.aload_n 3, 1) := by decide +kernel
theorem dL_law_532 : decode cL_law 532 = .ok (.invokestatic 167, 3) := by decide +kernel
theorem dL_law_535 : decode cL_law 535 = .ok (.istore 6, 2) := by decide +kernel
theorem dL_law_537 : decode cL_law 537 = .ok (.aload_n 2, 1) := by decide +kernel
theorem dL_law_538 : decode cL_law 538 = .ok (.aload_n 0, 1) := by decide +kernel
theorem dL_law_539 : decode cL_law 539 = .ok (.iload 5, 2) := by decide +kernel
theorem dL_law_541 : decode cL_law 541 = .ok (.iconst 1, 1) := by decide +kernel
theorem dL_law_542 : decode cL_law 542 = .ok (.iadd, 1) := by decide +kernel
theorem dL_law_543 : decode cL_law 543 = .ok (.iaload, 1) := by decide +kernel
theorem dL_law_544 : decode cL_law 544 = .ok (.invokevirtual 169, 3) := by decide +kernel
theorem dL_law_547 : decode cL_law 547 = .ok (.istore 7, 2) := by decide +kernel
theorem dL_law_549 : decode cL_law 549 = .ok (.aload_n 2, 1) := by decide +kernel
theorem dL_law_550 : decode cL_law 550 = .ok (.invokevirtual 151, 3) := by decide +kernel
theorem dL_law_553 : decode cL_law 553 = .ok (.iload 6, 2) := by decide +kernel
theorem dL_law_555 : decode cL_law 555 = .ok (.if_icmp .eq 5, 3) := by decide +kernel
theorem dL_law_558 : decode cL_law 558 = .ok (.iconst 0, 1) := by decide +kernel
theorem dL_law_559 : decode cL_law 559 = .ok (.ireturn, 1) := by decide +kernel
theorem dL_law_560 : decode cL_law 560 = .ok (.iload 6, 2) := by decide +kernel
theorem dL_law_562 : decode cL_law 562 = .ok (.ifCond .ne 15, 3) := by decide +kernel
theorem dL_law_565 : decode cL_law 565 = .ok (.aload_n 3, 1) := by decide +kernel
theorem dL_law_566 : decode cL_law 566 = .ok (.iconst 0, 1) := by decide +kernel
theorem dL_law_567 : decode cL_law 567 = .ok (.laload, 1) := by decide +kernel
theorem dL_law_568 : decode cL_law 568 = .ok (.iload 7, 2) := by decide +kernel
theorem dL_law_570 : decode cL_law 570 = .ok (.i2l, 1) := by decide +kernel
theorem dL_law_571 : decode cL_law 571 = .ok (.lcmp, 1) := by decide +kernel
theorem dL_law_572 : decode cL_law 572 = .ok (.ifCond .eq 5, 3) := by decide +kernel
theorem dL_law_575 : decode cL_law 575 = .ok (.iconst 0, 1) := by decide +kernel
theorem dL_law_576 : decode cL_law 576 = .ok (.ireturn, 1) := by decide +kernel
theorem dL_law_577 : decode cL_law 577 = .ok (.goto 1843, 3) := by decide +kernel
theorem dL_law_580 : decode cL_law 580 = .ok (.aload_n 1, 1) := by decide +kernel
theorem dL_law_581 : decode cL_law 581 = .ok (.aload_n 0, 1) := by decide +kernel
theorem dL_law_582 : decode cL_law 582 = .ok (.iload 5, 2) := by decide +kernel
theorem dL_law_584 : decode cL_law 584 = .ok (.iconst 1, 1) := by decide +kernel
theorem dL_law_585 : decode cL_law 585 = .ok (.iadd, 1) := by decide +kernel
theorem dL_law_586 : decode cL_law 586 = .ok (.iaload, 1) := by decide +kernel
theorem dL_law_587 : decode cL_law 587 = .ok (.aload_n 3, 1) := by decide +kernel
theorem dL_law_588 : decode cL_law 588 = .ok (.invokestatic 170, 3) := by decide +kernel
theorem dL_law_591 : decode cL_law 591 = .ok (.istore 6, 2) := by decide +kernel
theorem dL_law_593 : decode cL_law 593 = .ok (.aload_n 2, 1) := by decide +kernel
theorem dL_law_594 : decode cL_law 594 = .ok (.aload_n 0, 1) := by decide +kernel
theorem dL_law_595 : decode cL_law 595 = .ok (.iload 5, 2) := by decide +kernel
theorem dL_law_597 : decode cL_law 597 = .ok (.iconst 1, 1) := by decide +kernel
theorem dL_law_598 : decode cL_law 598 = .ok (.iadd, 1) := by decide +kernel
theorem dL_law_599 : decode cL_law 599 = .ok (.iaload, 1) := by decide +kernel
theorem dL_law_600 : decode cL_law 600 = .ok (.invokevirtual 172, 3) := by decide +kernel
theorem dL_law_603 : decode cL_law 603 = .ok (.istore 7, 2) := by decide +kernel
theorem dL_law_605 : decode cL_law 605 = .ok (.aload_n 2, 1) := by decide +kernel
theorem dL_law_606 : decode cL_law 606 = .ok (.invokevirtual 151, 3) := by decide +kernel
theorem dL_law_609 : decode cL_law 609 = .ok (.iload 6, 2) := by decide +kernel
theorem dL_law_611 : decode cL_law 611 = .ok (.if_icmp .eq 5, 3) := by decide +kernel
theorem dL_law_614 : decode cL_law 614 = .ok (.iconst 0, 1) := by decide +kernel
theorem dL_law_615 : decode cL_law 615 = .ok (.ireturn, 1) := by decide +kernel
theorem dL_law_616 : decode cL_law 616 = .ok (.iload 6, 2) := by decide +kernel
theorem dL_law_618 : decode cL_law 618 = .ok (.ifCond .ne 15, 3) := by decide +kernel
theorem dL_law_621 : decode cL_law 621 = .ok (.aload_n 3, 1) := by decide +kernel
theorem dL_law_622 : decode cL_law 622 = .ok (.iconst 0, 1) := by decide +kernel
theorem dL_law_623 : decode cL_law 623 = .ok (.laload, 1) := by decide +kernel
theorem dL_law_624 : decode cL_law 624 = .ok (.iload 7, 2) := by decide +kernel
theorem dL_law_626 : decode cL_law 626 = .ok (.i2l, 1) := by decide +kernel
theorem dL_law_627 : decode cL_law 627 = .ok (.lcmp, 1) := by decide +kernel
theorem dL_law_628 : decode cL_law 628 = .ok (.ifCond .eq 5, 3) := by decide +kernel
theorem dL_law_631 : decode cL_law 631 = .ok (.iconst 0, 1) := by decide +kernel
theorem dL_law_632 : decode cL_law 632 = .ok (.ireturn, 1) := by decide +kernel
theorem dL_law_633 : decode cL_law 633 = .ok (.goto 1787, 3) := by decide +kernel
theorem dL_law_636 : decode cL_law 636 = .ok (.aload_n 1, 1) := by decide +kernel
theorem dL_law_637 : decode cL_law 637 = .ok (.aload_n 0, 1) := by decide +kernel
theorem dL_law_638 : decode cL_law 638 = .ok (.iload 5, 2) := by decide +kernel
theorem dL_law_640 : decode cL_law 640 = .ok (.iconst 1, 1) := by decide +kernel
theorem dL_law_641 : decode cL_law 641 = .ok (.iadd, 1) := by decide +kernel
theorem dL_law_642 : decode cL_law 642 = .ok (.iaload, 1) := by decide +kernel
theorem dL_law_643 : decode cL_law 643 = .ok (.aload_n 3, 1) := by decide +kernel
theorem dL_law_644 : decode cL_law 644 = .ok (.invokestatic 173, 3) := by decide +kernel
theorem dL_law_647 : decode cL_law 647 = .ok (.istore 6, 2) := by decide +kernel
theorem dL_law_649 : decode cL_law 649 = .ok (.aload_n 2, 1) := by decide +kernel
theorem dL_law_650 : decode cL_law 650 = .ok (.aload_n 0, 1) := by decide +kernel
theorem dL_law_651 : decode cL_law 651 = .ok (.iload 5, 2) := by decide +kernel
theorem dL_law_653 : decode cL_law 653 = .ok (.iconst 1, 1) := by decide +kernel
