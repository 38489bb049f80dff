theorem dX9_reason_36 : decode cX9_reason 36 = .ok (.getfield 32, 3) := by decide +kernel
theorem dX9_reason_39 : decode cX9_reason 39 = .ok (.iload_n 1, 1) := by decide +kernel
theorem dX9_reason_40 : decode cX9_reason 40 = .ok (.invokevirtual 256, 3) := by decide +kernel
theorem dX9_reason_43 : decode cX9_reason 43 = .ok (.ireturn, 1) := by decide +kernel
theorem dX9_rack_0 : decode cX9_rack 0 = .ok (.aload_n 0, 1) := by decide +kernel
theorem dX9_rack_1 : decode cX9_rack 1 = .ok (.iload_n 1, 1) := by decide +kernel
theorem dX9_rack_2 : decode cX9_rack 2 = .ok (.invokevirtual 159, 3) := by decide +kernel
theorem dX9_rack_5 : decode cX9_rack 5 = .ok (.aload_n 0, 1) := by decide +kernel
theorem dX9_rack_6 : decode cX9_rack 6 = .ok (.getfield 64, 3) := by decide +kernel
theorem dX9_rack_9 : decode cX9_rack 9 = .ok (.invokevirtual 257, 3) := by decide +kernel
theorem dX9_rack_12 : decode cX9_rack 12 = .ok (.iconst 0, 1) := by decide +kernel
theorem dX9_rack_13 : decode cX9_rack 13 = .ok (.istore_n 2, 1) := by decide +kernel
theorem dX9_rack_14 : decode cX9_rack 14 = .ok (.iload_n 2, 1) := by decide +kernel
theorem dX9_rack_15 : decode cX9_rack 15 = .ok (.bipush 10, 2) := by decide +kernel
theorem dX9_rack_17 : decode cX9_rack 17 = .ok (.if_icmp .ge 25, 3) := by decide +kernel
theorem dX9_rack_20 : decode cX9_rack 20 = .ok (.aload_n 0, 1) := by decide +kernel
theorem dX9_rack_21 : decode cX9_rack 21 = .ok (.getfield 64, 3) := by decide +kernel
theorem dX9_rack_24 : decode cX9_rack 24 = .ok (.aload_n 0, 1) := by decide +kernel
theorem dX9_rack_25 : decode cX9_rack 25 = .ok (.getfield 12, 3) := by decide +kernel
theorem dX9_rack_28 : decode cX9_rack 28 = .ok (.iload_n 1, 1) := by decide +kernel
theorem dX9_rack_29 : decode cX9_rack 29 = .ok (.iload_n 2, 1) := by decide +kernel
theorem dX9_rack_30 : decode cX9_rack 30 = .ok (.invokevirtual 258, 3) := by decide +kernel
theorem dX9_rack_33 : decode cX9_rack 33 = .ok (.invokevirtual 262, 3) := by decide +kernel
theorem dX9_rack_36 : decode cX9_rack 36 = .ok (.iinc 2 1, 3) := by decide +kernel
theorem dX9_rack_39 : decode cX9_rack 39 = .ok (.goto (-25), 3) := by decide +kernel
theorem dX9_rack_42 : decode cX9_rack 42 = .ok (.aload_n 0, 1) := by decide +kernel
theorem dX9_rack_43 : decode cX9_rack 43 = .ok (.getfield 64, 3) := by decide +kernel
theorem dX9_rack_46 : decode cX9_rack 46 = .ok (.getfield 263, 3) := by decide +kernel
theorem dX9_rack_49 : decode cX9_rack 49 = .ok (.ireturn, 1) := by decide +kernel
theorem dX9_line_0 : decode cX9_line 0 = .ok (.aload_n 0, 1) := by decide +kernel
theorem dX9_line_1 : decode cX9_line 1 = .ok (.iload_n 1, 1) := by decide +kernel
theorem dX9_line_2 : decode cX9_line 2 = .ok (.invokevirtual 113, 3) := by decide +kernel
theorem dX9_line_5 : decode cX9_line 5 = .ok (.aload_n 0, 1) := by decide +kernel
theorem dX9_line_6 : decode cX9_line 6 = .ok (.getfield 12, 3) := by decide +kernel
theorem dX9_line_9 : decode cX9_line 9 = .ok (.iload_n 1, 1) := by decide +kernel
theorem dX9_line_10 : decode cX9_line 10 = .ok (.invokevirtual 120, 3) := by decide +kernel
theorem dX9_line_13 : decode cX9_line 13 = .ok (.astore_n 2, 1) := by decide +kernel
theorem dX9_line_14 : decode cX9_line 14 = .ok (.aload_n 0, 1) := by decide +kernel
theorem dX9_line_15 : decode cX9_line 15 = .ok (.getfield 64, 3) := by decide +kernel
theorem dX9_line_18 : decode cX9_line 18 = .ok (.invokevirtual 257, 3) := by decide +kernel
theorem dX9_line_21 : decode cX9_line 21 = .ok (.aload_n 0, 1) := by decide +kernel
theorem dX9_line_22 : decode cX9_line 22 = .ok (.getfield 64, 3) := by decide +kernel
theorem dX9_line_25 : decode cX9_line 25 = .ok (.aload_n 2, 1) := by decide +kernel
theorem dX9_line_26 : decode cX9_line 26 = .ok (.getfield 264, 3) := by decide +kernel
theorem dX9_line_29 : decode cX9_line 29 = .ok (.invokevirtual 267, 3) := by decide +kernel
theorem dX9_line_32 : decode cX9_line 32 = .ok (.aload_n 0, 1) := by decide +kernel
theorem dX9_line_33 : decode cX9_line 33 = .ok (.getfield 64, 3) := by decide +kernel
theorem dX9_line_36 : decode cX9_line 36 = .ok (.bipush 42, 2) := by decide +kernel
theorem dX9_line_38 : decode cX9_line 38 = .ok (.invokevirtual 262, 3) := by decide +kernel
theorem dX9_line_41 : decode cX9_line 41 = .ok (.aload_n 0, 1) := by decide +kernel
theorem dX9_line_42 : decode cX9_line 42 = .ok (.getfield 64, 3) := by decide +kernel
theorem dX9_line_45 : decode cX9_line 45 = .ok (.aload_n 2, 1) := by decide +kernel
theorem dX9_line_46 : decode cX9_line 46 = .ok (.getfield 270, 3) := by decide +kernel
theorem dX9_line_49 : decode cX9_line 49 = .ok (.invokevirtual 267, 3) := by decide +kernel
theorem dX9_line_52 : decode cX9_line 52 = .ok (.iconst 0, 1) := by decide +kernel
theorem dX9_line_53 : decode cX9_line 53 = .ok (.istore_n 3, 1) := by decide +kernel
theorem dX9_line_54 : decode cX9_line 54 = .ok (.iload_n 3, 1) := by decide +kernel
theorem dX9_line_55 : decode cX9_line 55 = .ok (.iconst 2, 1) := by decide +kernel
theorem dX9_line_56 : decode cX9_line 56 = .ok (.if_icmp .ge 34, 3) := by decide +kernel
theorem dX9_line_59 : decode cX9_line 59 = .ok (.aload_n 0, 1) := by decide +kernel
theorem dX9_line_60 : decode cX9_line 60 = .ok (.getfield 64, 3) := by decide +kernel
theorem dX9_line_63 : decode cX9_line 63 = .ok (.aload_n 2, 1) := by decide +kernel
theorem dX9_line_64 : decode cX9_line 64 = .ok (.iload_n 3, 1) := by decide +kernel
theorem dX9_line_65 : decode cX9_line 65 = .ok (.invokevirtual 129, 3) := by decide +kernel
theorem dX9_line_68 : decode cX9_line 68 = .ok (.aload_n 2, 1) := by decide +kernel
theorem dX9_line_69 : decode cX9_line 69 = .ok (.getfield 273, 3) := by decide +kernel
theorem dX9_line_72 : decode cX9_line 72 = .ok (.iload_n 3, 1) := by decide +kernel
theorem dX9_line_73 : decode cX9_line 73 = .ok (.if_icmp .ne 7, 3) := by decide +kernel
theorem dX9_line_76 : decode cX9_line 76 = .ok (.iconst 1, 1) := by decide +kernel
theorem dX9_line_77 : decode cX9_line 77 = .ok (.goto 4, 3) := by decide +kernel
theorem dX9_line_80 : decode cX9_line 80 = .ok (.iconst 0, 1) := by decide +kernel
theorem dX9_line_81 : decode cX9_line 81 = .ok (.invokevirtual 276, 3) := by decide +kernel
theorem dX9_line_84 : decode cX9_line 84 = .ok (.iinc 3 1, 3) := by decide +kernel
theorem dX9_line_87 : decode cX9_line 87 = .ok (.goto (-33), 3) := by decide +kernel
theorem dX9_line_90 : decode cX9_line 90 = .ok (.aload_n 0, 1) := by decide +kernel
theorem dX9_line_91 : decode cX9_line 91 = .ok (.getfield 64, 3) := by decide +kernel
theorem dX9_line_94 : decode cX9_line 94 = .ok (.getfield 263, 3) := by decide +kernel
theorem dX9_line_97 : decode cX9_line 97 = .ok (.ireturn, 1) := by decide +kernel
theorem dX9_character_0 : decode cX9_character 0 = .ok (.iload_n 1, 1) := by decide +kernel
theorem dX9_character_1 : decode cX9_character 1 = .ok (.ifCond .lt 14, 3) := by decide +kernel
theorem dX9_character_4 : decode cX9_character 4 = .ok (.iload_n 1, 1) := by decide +kernel
theorem dX9_character_5 : decode cX9_character 5 = .ok (.aload_n 0, 1) := by decide +kernel
theorem dX9_character_6 : decode cX9_character 6 = .ok (.getfield 64, 3) := by decide +kernel
theorem dX9_character_9 : decode cX9_character 9 = .ok (.getfield 263, 3) := by decide +kernel
theorem dX9_character_12 : decode cX9_character 12 = .ok (.if_icmp .lt 11, 3) := by decide +kernel
theorem dX9_character_15 : decode cX9_character 15 = .ok (.new 149, 3) := by decide +kernel
theorem dX9_character_18 : decode cX9_character 18 = .ok (.dup, 1) := by decide +kernel
theorem dX9_character_19 : decode cX9_character 19 = .ok (.invokespecial 151, 3) := by decide +kernel
theorem dX9_character_22 : decode cX9_character 22 = .ok (.athrow, 1) := by decide +kernel
theorem dX9_character_23 : decode cX9_character 23 = .ok (.aload_n 0, 1) := by decide +kernel
theorem dX9_character_24 : decode cX9_character 24 = .ok (.getfield 64, 3) := by decide +kernel
theorem dX9_character_27 : decode cX9_character 27 = .ok (.iload_n 1, 1) := by decide +kernel
theorem dX9_character_28 : decode cX9_character 28 = .ok (.invokevirtual 280, 3) := by decide +kernel
theorem dX9_character_31 : decode cX9_character 31 = .ok (.ireturn, 1) := by decide +kernel
theorem dX9_meanSmoke_0 : decode cX9_meanSmoke 0 = .ok (.aload_n 0, 1) := by decide +kernel
theorem dX9_meanSmoke_1 : decode cX9_meanSmoke 1 = .ok (.getfield 12, 3) := by decide +kernel
theorem dX9_meanSmoke_4 : decode cX9_meanSmoke 4 = .ok (.getfield 202, 3) := by decide +kernel
theorem dX9_meanSmoke_7 : decode cX9_meanSmoke 7 = .ok (.iconst 2, 1) := by decide +kernel
theorem dX9_meanSmoke_8 : decode cX9_meanSmoke 8 = .ok (.imul, 1) := by decide +kernel
theorem dX9_meanSmoke_9 : decode cX9_meanSmoke 9 = .ok (.istore_n 1, 1) := by decide +kernel
theorem dX9_meanSmoke_10 : decode cX9_meanSmoke 10 = .ok (.iload_n 1, 1) := by decide +kernel
theorem dX9_meanSmoke_11 : decode cX9_meanSmoke 11 = .ok (.ifCond .ne 11, 3) := by decide +kernel
theorem dX9_meanSmoke_14 : decode cX9_meanSmoke 14 = .ok (.new 284, 3) := by decide +kernel
theorem dX9_meanSmoke_17 : decode cX9_meanSmoke 17 = .ok (.dup, 1) := by decide +kernel
theorem dX9_meanSmoke_18 : decode cX9_meanSmoke 18 = .ok (.invokespecial 286, 3) := by decide +kernel
theorem dX9_meanSmoke_21 : decode cX9_meanSmoke 21 = .ok (.athrow, 1) := by decide +kernel
theorem dX9_meanSmoke_22 : decode cX9_meanSmoke 22 = .ok (.aload_n 0, 1) := by decide +kernel
theorem dX9_meanSmoke_23 : decode cX9_meanSmoke 23 = .ok (.getfield 12, 3) := by decide +kernel
theorem dX9_meanSmoke_26 : decode cX9_meanSmoke 26 = .ok (.invokevirtual 287, 3) := by decide +kernel
theorem dX9_meanSmoke_29 : decode cX9_meanSmoke 29 = .ok (.i2f, 1) := by decide +kernel
theorem dX9_meanSmoke_30 : decode cX9_meanSmoke 30 = .ok (.iload_n 1, 1) := by decide +kernel
theorem dX9_meanSmoke_31 : decode cX9_meanSmoke 31 = .ok (.i2f, 1) := by decide +kernel
theorem dX9_meanSmoke_32 : decode cX9_meanSmoke 32 = .ok (.fdiv, 1) := by decide +kernel
theorem dX9_meanSmoke_33 : decode cX9_meanSmoke 33 = .ok (.invokestatic 290, 3) := by decide +kernel
theorem dX9_meanSmoke_36 : decode cX9_meanSmoke 36 = .ok (.ireturn, 1) := by decide +kernel
theorem dX9_burntShare_0 : decode cX9_burntShare 0 = .ok (.aload_n 0, 1) := by decide +kernel
theorem dX9_burntShare_1 : decode cX9_burntShare 1 = .ok (.getfield 12, 3) := by decide +kernel
theorem dX9_burntShare_4 : decode cX9_burntShare 4 = .ok (.getfield 202, 3) := by decide +kernel
theorem dX9_burntShare_7 : decode cX9_burntShare 7 = .ok (.istore_n 1, 1) := by decide +kernel
theorem dX9_burntShare_8 : decode cX9_burntShare 8 = .ok (.iload_n 1, 1) := by decide +kernel
theorem dX9_burntShare_9 : decode cX9_burntShare 9 = .ok (.ifCond .ne 11, 3) := by decide +kernel
theorem dX9_burntShare_12 : decode cX9_burntShare 12 = .ok (.new 284, 3) := by decide +kernel
theorem dX9_burntShare_15 : decode cX9_burntShare 15 = .ok (.dup, 1) := by decide +kernel
theorem dX9_burntShare_16 : decode cX9_burntShare 16 = .ok (.invokespecial 286, 3) := by decide +kernel
theorem dX9_burntShare_19 : decode cX9_burntShare 19 = .ok (.athrow, 1) := by decide +kernel
theorem dX9_burntShare_20 : decode cX9_burntShare 20 = .ok (.aload_n 0, 1) := by decide +kernel
theorem dX9_burntShare_21 : decode cX9_burntShare 21 = .ok (.getfield 12, 3) := by decide +kernel
theorem dX9_burntShare_24 : decode cX9_burntShare 24 = .ok (.invokevirtual 294, 3) := by decide +kernel
theorem dX9_burntShare_27 : decode cX9_burntShare 27 = .ok (.i2d, 1) := by decide +kernel
theorem dX9_burntShare_28 : decode cX9_burntShare 28 = .ok (.iload_n 1, 1) := by decide +kernel
theorem dX9_burntShare_29 : decode cX9_burntShare 29 = .ok (.i2d, 1) := by decide +kernel
theorem dX9_burntShare_30 : decode cX9_burntShare 30 = .ok (.ddiv, 1) := by decide +kernel
theorem dX9_burntShare_31 : decode cX9_burntShare 31 = .ok (.dreturn, 1) := by decide +kernel
theorem dX9_account_0 : decode cX9_account 0 = .ok (.iload_n 1, 1) := by decide +kernel
theorem dX9_account_1 : decode cX9_account 1 = .ok (.tableswitch 161 0 11 #[63, 71, 80, 89, 97, 105, 113, 121, 129, 137, 145, 153], 63) := by decide +kernel
theorem dX9_account_64 : decode cX9_account 64 = .ok (.aload_n 0, 1) := by decide +kernel
theorem dX9_account_65 : decode cX9_account 65 = .ok (.getfield 12, 3) := by decide +kernel
theorem dX9_account_68 : decode cX9_account 68 = .ok (.getfield 202, 3) := by decide +kernel
theorem dX9_account_71 : decode cX9_account 71 = .ok (.ireturn, 1) := by decide +kernel
theorem dX9_account_72 : decode cX9_account 72 = .ok (.aload_n 0, 1) := by decide +kernel
theorem dX9_account_73 : decode cX9_account 73 = .ok (.getfield 12, 3) := by decide +kernel
theorem dX9_account_76 : decode cX9_account 76 = .ok (.iconst 1, 1) := by decide +kernel
theorem dX9_account_77 : decode cX9_account 77 = .ok (.invokevirtual 297, 3) := by decide +kernel
theorem dX9_account_80 : decode cX9_account 80 = .ok (.ireturn, 1) := by decide +kernel
theorem dX9_account_81 : decode cX9_account 81 = .ok (.aload_n 0, 1) := by decide +kernel
theorem dX9_account_82 : decode cX9_account 82 = .ok (.getfield 12, 3) := by decide +kernel
theorem dX9_account_85 : decode cX9_account 85 = .ok (.iconst 2, 1) := by decide +kernel
theorem dX9_account_86 : decode cX9_account 86 = .ok (.invokevirtual 297, 3) := by decide +kernel
theorem dX9_account_89 : decode cX9_account 89 = .ok (.ireturn, 1) := by decide +kernel
theorem dX9_account_90 : decode cX9_account 90 = .ok (.aload_n 0, 1) := by decide +kernel
theorem dX9_account_91 : decode cX9_account 91 = .ok (.getfield 12, 3) := by decide +kernel
theorem dX9_account_94 : decode cX9_account 94 = .ok (.getfield 162, 3) := by decide +kernel
theorem dX9_account_97 : decode cX9_account 97 = .ok (.ireturn, 1) := by decide +kernel
theorem dX9_account_98 : decode cX9_account 98 = .ok (.aload_n 0, 1) := by decide +kernel
theorem dX9_account_99 : decode cX9_account 99 = .ok (.getfield 12, 3) := by decide +kernel
theorem dX9_account_102 : decode cX9_account 102 = .ok (.getfield 300, 3) := by decide +kernel
theorem dX9_account_105 : decode cX9_account 105 = .ok (.ireturn, 1) := by decide +kernel
theorem dX9_account_106 : decode cX9_account 106 = .ok (.aload_n 0, 1) := by decide +kernel
theorem dX9_account_107 : decode cX9_account 107 = .ok (.getfield 12, 3) := by decide +kernel
theorem dX9_account_110 : decode cX9_account 110 = .ok (.getfield 303, 3) := by decide +kernel
theorem dX9_account_113 : decode cX9_account 113 = .ok (.ireturn, 1) := by decide +kernel
theorem dX9_account_114 : decode cX9_account 114 = .ok (.aload_n 0, 1) := by decide +kernel
theorem dX9_account_115 : decode cX9_account 115 = .ok (.getfield 12, 3) := by decide +kernel
theorem dX9_account_118 : decode cX9_account 118 = .ok (.getfield 306, 3) := by decide +kernel
theorem dX9_account_121 : decode cX9_account 121 = .ok (.ireturn, 1) := by decide +kernel
theorem dX9_account_122 : decode cX9_account 122 = .ok (.aload_n 0, 1) := by decide +kernel
theorem dX9_account_123 : decode cX9_account 123 = .ok (.getfield 12, 3) := by decide +kernel
theorem dX9_account_126 : decode cX9_account 126 = .ok (.getfield 309, 3) := by decide +kernel
theorem dX9_account_129 : decode cX9_account 129 = .ok (.ireturn, 1) := by decide +kernel
theorem dX9_account_130 : decode cX9_account 130 = .ok (.aload_n 0, 1) := by decide +kernel
theorem dX9_account_131 : decode cX9_account 131 = .ok (.getfield 12, 3) := by decide +kernel
theorem dX9_account_134 : decode cX9_account 134 = .ok (.getfield 312, 3) := by decide +kernel
theorem dX9_account_137 : decode cX9_account 137 = .ok (.ireturn, 1) := by decide +kernel
theorem dX9_account_138 : decode cX9_account 138 = .ok (.aload_n 0, 1) := by decide +kernel
theorem dX9_account_139 : decode cX9_account 139 = .ok (.getfield 12, 3) := by decide +kernel
theorem dX9_account_142 : decode cX9_account 142 = .ok (.getfield 315, 3) := by decide +kernel
theorem dX9_account_145 : decode cX9_account 145 = .ok (.ireturn, 1) := by decide +kernel
theorem dX9_account_146 : decode cX9_account 146 = .ok (.aload_n 0, 1) := by decide +kernel
theorem dX9_account_147 : decode cX9_account 147 = .ok (.getfield 25, 3) := by decide +kernel
theorem dX9_account_150 : decode cX9_account 150 = .ok (.getfield 318, 3) := by decide +kernel
theorem dX9_account_153 : decode cX9_account 153 = .ok (.ireturn, 1) := by decide +kernel
theorem dX9_account_154 : decode cX9_account 154 = .ok (.aload_n 0, 1) := by decide +kernel
theorem dX9_account_155 : decode cX9_account 155 = .ok (.getfield 57, 3) := by decide +kernel
theorem dX9_account_158 : decode cX9_account 158 = .ok (.getfield 208, 3) := by decide +kernel
theorem dX9_account_161 : decode cX9_account 161 = .ok (.ireturn, 1) := by decide +kernel
theorem dX9_account_162 : decode cX9_account 162 = .ok (.new 117, 3) := by decide +kernel
theorem dX9_account_165 : decode cX9_account 165 = .ok (.dup, 1) := by decide +kernel
theorem dX9_account_166 : decode cX9_account 166 = .ok (.invokespecial 119, 3) := by decide +kernel
theorem dX9_account_169 : decode cX9_account 169 = .ok (.athrow, 1) := by decide +kernel
theorem dX9_undo_0 : decode cX9_undo 0 = .ok (.aload_n 0, 1) := by decide +kernel
theorem dX9_undo_1 : decode cX9_undo 1 = .ok (.getfield 25, 3) := by decide +kernel
theorem dX9_undo_4 : decode cX9_undo 4 = .ok (.getfield 318, 3) := by decide +kernel
theorem dX9_undo_7 : decode cX9_undo 7 = .ok (.ifCond .ne 11, 3) := by decide +kernel
theorem dX9_undo_10 : decode cX9_undo 10 = .ok (.new 211, 3) := by decide +kernel
theorem dX9_undo_13 : decode cX9_undo 13 = .ok (.dup, 1) := by decide +kernel
theorem dX9_undo_14 : decode cX9_undo 14 = .ok (.invokespecial 213, 3) := by decide +kernel
theorem dX9_undo_17 : decode cX9_undo 17 = .ok (.athrow, 1) := by decide +kernel
theorem dX9_undo_18 : decode cX9_undo 18 = .ok (.aload_n 0, 1) := by decide +kernel
theorem dX9_undo_19 : decode cX9_undo 19 = .ok (.getfield 25, 3) := by decide +kernel
theorem dX9_undo_22 : decode cX9_undo 22 = .ok (.aload_n 0, 1) := by decide +kernel
theorem dX9_undo_23 : decode cX9_undo 23 = .ok (.getfield 12, 3) := by decide +kernel
theorem dX9_undo_26 : decode cX9_undo 26 = .ok (.invokevirtual 319, 3) := by decide +kernel
theorem dX9_undo_29 : decode cX9_undo 29 = .ok (.aload_n 0, 1) := by decide +kernel
theorem dX9_undo_30 : decode cX9_undo 30 = .ok (.getfield 25, 3) := by decide +kernel
theorem dX9_undo_33 : decode cX9_undo 33 = .ok (.getfield 318, 3) := by decide +kernel
theorem dX9_undo_36 : decode cX9_undo 36 = .ok (.ireturn, 1) := by decide +kernel
theorem dX9_save_0 : decode cX9_save 0 = .ok (.aload_n 0, 1) := by decide +kernel
theorem dX9_save_1 : decode cX9_save 1 = .ok (.getfield 19, 3) := by decide +kernel
theorem dX9_save_4 : decode cX9_save 4 = .ok (.aload_n 0, 1) := by decide +kernel
theorem dX9_save_5 : decode cX9_save 5 = .ok (.getfield 12, 3) := by decide +kernel
theorem dX9_save_8 : decode cX9_save 8 = .ok (.invokevirtual 68, 3) := by decide +kernel
theorem dX9_save_11 : decode cX9_save 11 = .ok (.aload_n 0, 1) := by decide +kernel
theorem dX9_save_12 : decode cX9_save 12 = .ok (.iconst 1, 1) := by decide +kernel
theorem dX9_save_13 : decode cX9_save 13 = .ok (.putfield 322, 3) := by decide +kernel
theorem dX9_save_16 : decode cX9_save 16 = .ok (.aload_n 0, 1) := by decide +kernel
theorem dX9_save_17 : decode cX9_save 17 = .ok (.getfield 12, 3) := by decide +kernel
theorem dX9_save_20 : decode cX9_save 20 = .ok (.getfield 202, 3) := by decide +kernel
theorem dX9_save_23 : decode cX9_save 23 = .ok (.ireturn, 1) := by decide +kernel
theorem dX9_restore_0 : decode cX9_restore 0 = .ok (.aload_n 0, 1) := by decide +kernel
theorem dX9_restore_1 : decode cX9_restore 1 = .ok (.getfield 322, 3) := by decide +kernel
theorem dX9_restore_4 : decode cX9_restore 4 = .ok (.ifCond .ne 11, 3) := by decide +kernel
theorem dX9_restore_7 : decode cX9_restore 7 = .ok (.new 211, 3) := by decide +kernel
theorem dX9_restore_10 : decode cX9_restore 10 = .ok (.dup, 1) := by decide +kernel
theorem dX9_restore_11 : decode cX9_restore 11 = .ok (.invokespecial 213, 3) := by decide +kernel
theorem dX9_restore_14 : decode cX9_restore 14 = .ok (.athrow, 1) := by decide +kernel
theorem dX9_restore_15 : decode cX9_restore 15 = .ok (.aload_n 0, 1) := by decide +kernel
theorem dX9_restore_16 : decode cX9_restore 16 = .ok (.getfield 12, 3) := by decide +kernel
theorem dX9_restore_19 : decode cX9_restore 19 = .ok (.aload_n 0, 1) := by decide +kernel
theorem dX9_restore_20 : decode cX9_restore 20 = .ok (.getfield 19, 3) := by decide +kernel
theorem dX9_restore_23 : decode cX9_restore 23 = .ok (.invokevirtual 68, 3) := by decide +kernel
theorem dX9_restore_26 : decode cX9_restore 26 = .ok (.aload_n 0, 1) := by decide +kernel
theorem dX9_restore_27 : decode cX9_restore 27 = .ok (.getfield 25, 3) := by decide +kernel
theorem dX9_restore_30 : decode cX9_restore 30 = .ok (.invokevirtual 325, 3) := by decide +kernel
theorem dX9_restore_33 : decode cX9_restore 33 = .ok (.aload_n 0, 1) := by decide +kernel
theorem dX9_restore_34 : decode cX9_restore 34 = .ok (.getfield 12, 3) := by decide +kernel
theorem dX9_restore_37 : decode cX9_restore 37 = .ok (.getfield 202, 3) := by decide +kernel
theorem dX9_restore_40 : decode cX9_restore 40 = .ok (.ireturn, 1) := by decide +kernel
theorem dX9_settled_0 : decode cX9_settled 0 = .ok (.iload_n 1, 1) := by decide +kernel
theorem dX9_settled_1 : decode cX9_settled 1 = .ok (.iconst (-1), 1) := by decide +kernel
theorem dX9_settled_2 : decode cX9_settled 2 = .ok (.if_icmp .ne 11, 3) := by decide +kernel
theorem dX9_settled_5 : decode cX9_settled 5 = .ok (.new 246, 3) := by decide +kernel
theorem dX9_settled_8 : decode cX9_settled 8 = .ok (.dup, 1) := by decide +kernel
theorem dX9_settled_9 : decode cX9_settled 9 = .ok (.invokespecial 248, 3) := by decide +kernel
theorem dX9_settled_12 : decode cX9_settled 12 = .ok (.athrow, 1) := by decide +kernel
theorem dX9_settled_13 : decode cX9_settled 13 = .ok (.aload_n 0, 1) := by decide +kernel
theorem dX9_settled_14 : decode cX9_settled 14 = .ok (.getfield 25, 3) := by decide +kernel
theorem dX9_settled_17 : decode cX9_settled 17 = .ok (.aload_n 0, 1) := by decide +kernel
theorem dX9_settled_18 : decode cX9_settled 18 = .ok (.getfield 16, 3) := by decide +kernel
theorem dX9_settled_21 : decode cX9_settled 21 = .ok (.invokevirtual 249, 3) := by decide +kernel
theorem dX9_settled_24 : decode cX9_settled 24 = .ok (.iload_n 1, 1) := by decide +kernel
theorem dX9_settled_25 : decode cX9_settled 25 = .ok (.ireturn, 1) := by decide +kernel
theorem dX9_needFish_0 : decode cX9_needFish 0 = .ok (.aload_n 0, 1) := by decide +kernel
theorem dX9_needFish_1 : decode cX9_needFish 1 = .ok (.getfield 12, 3) := by decide +kernel
theorem dX9_needFish_4 : decode cX9_needFish 4 = .ok (.iload_n 1, 1) := by decide +kernel
theorem dX9_needFish_5 : decode cX9_needFish 5 = .ok (.invokevirtual 328, 3) := by decide +kernel
theorem dX9_needFish_8 : decode cX9_needFish 8 = .ok (.ifCond .ne 11, 3) := by decide +kernel
theorem dX9_needFish_11 : decode cX9_needFish 11 = .ok (.new 149, 3) := by decide +kernel
theorem dX9_needFish_14 : decode cX9_needFish 14 = .ok (.dup, 1) := by decide +kernel
theorem dX9_needFish_15 : decode cX9_needFish 15 = .ok (.invokespecial 151, 3) := by decide +kernel
theorem dX9_needFish_18 : decode cX9_needFish 18 = .ok (.athrow, 1) := by decide +kernel
theorem dX9_needFish_19 : decode cX9_needFish 19 = .ok (.return_, 1) := by decide +kernel
theorem dX9_needRack_0 : decode cX9_needRack 0 = .ok (.iload_n 1, 1) := by decide +kernel
theorem dX9_needRack_1 : decode cX9_needRack 1 = .ok (.invokestatic 142, 3) := by decide +kernel
theorem dX9_needRack_4 : decode cX9_needRack 4 = .ok (.ifCond .ne 11, 3) := by decide +kernel
theorem dX9_needRack_7 : decode cX9_needRack 7 = .ok (.new 149, 3) := by decide +kernel
theorem dX9_needRack_10 : decode cX9_needRack 10 = .ok (.dup, 1) := by decide +kernel
theorem dX9_needRack_11 : decode cX9_needRack 11 = .ok (.invokespecial 151, 3) := by decide +kernel
theorem dX9_needRack_14 : decode cX9_needRack 14 = .ok (.athrow, 1) := by decide +kernel
theorem dX9_needRack_15 : decode cX9_needRack 15 = .ok (.return_, 1) := by decide +kernel
theorem dX9_needForecastHours_0 : decode cX9_needForecastHours 0 = .ok (.iload_n 1, 1) := by decide +kernel
theorem dX9_needForecastHours_1 : decode cX9_needForecastHours 1 = .ok (.ifCond .lt 9, 3) := by decide +kernel
theorem dX9_needForecastHours_4 : decode cX9_needForecastHours 4 = .ok (.iload_n 1, 1) := by decide +kernel
theorem dX9_needForecastHours_5 : decode cX9_needForecastHours 5 = .ok (.bipush 24, 2) := by decide +kernel
theorem dX9_needForecastHours_7 : decode cX9_needForecastHours 7 = .ok (.if_icmp .le 11, 3) := by decide +kernel
theorem dX9_needForecastHours_10 : decode cX9_needForecastHours 10 = .ok (.new 117, 3) := by decide +kernel
theorem dX9_needForecastHours_13 : decode cX9_needForecastHours 13 = .ok (.dup, 1) := by decide +kernel
theorem dX9_needForecastHours_14 : decode cX9_needForecastHours 14 = .ok (.invokespecial 119, 3) := by decide +kernel
theorem dX9_needForecastHours_17 : decode cX9_needForecastHours 17 = .ok (.athrow, 1) := by decide +kernel
theorem dX9_needForecastHours_18 : decode cX9_needForecastHours 18 = .ok (.return_, 1) := by decide +kernel
theorem dX9_found_0 : decode cX9_found 0 = .ok (.iload_n 1, 1) := by decide +kernel
theorem dX9_found_1 : decode cX9_found 1 = .ok (.ifCond .ge 11, 3) := by decide +kernel
theorem dX9_found_4 : decode cX9_found 4 = .ok (.new 171, 3) := by decide +kernel
theorem dX9_found_7 : decode cX9_found 7 = .ok (.dup, 1) := by decide +kernel
theorem dX9_found_8 : decode cX9_found 8 = .ok (.invokespecial 173, 3) := by decide +kernel
theorem dX9_found_11 : decode cX9_found 11 = .ok (.athrow, 1) := by decide +kernel
theorem dX9_found_12 : decode cX9_found 12 = .ok (.iload_n 1, 1) := by decide +kernel
theorem dX9_found_13 : decode cX9_found 13 = .ok (.ireturn, 1) := by decide +kernel
theorem dX9_isRack_0 : decode cX9_isRack 0 = .ok (.iload_n 0, 1) := by decide +kernel
theorem dX9_isRack_1 : decode cX9_isRack 1 = .ok (.ifCond .lt 12, 3) := by decide +kernel
theorem dX9_isRack_4 : decode cX9_isRack 4 = .ok (.iload_n 0, 1) := by decide +kernel
theorem dX9_isRack_5 : decode cX9_isRack 5 = .ok (.iconst 4, 1) := by decide +kernel
theorem dX9_isRack_6 : decode cX9_isRack 6 = .ok (.if_icmp .ge 7, 3) := by decide +kernel
theorem dX9_isRack_9 : decode cX9_isRack 9 = .ok (.iconst 1, 1) := by decide +kernel
theorem dX9_isRack_10 : decode cX9_isRack 10 = .ok (.goto 4, 3) := by decide +kernel
theorem dX9_isRack_13 : decode cX9_isRack 13 = .ok (.iconst 0, 1) := by decide +kernel
theorem dX9_isRack_14 : decode cX9_isRack 14 = .ok (.ireturn, 1) := by decide +kernel
theorem dX9_isHook_0 : decode cX9_isHook 0 = .ok (.iload_n 0, 1) := by decide +kernel
theorem dX9_isHook_1 : decode cX9_isHook 1 = .ok (.ifCond .lt 13, 3) := by decide +kernel
theorem dX9_isHook_4 : decode cX9_isHook 4 = .ok (.iload_n 0, 1) := by decide +kernel
theorem dX9_isHook_5 : decode cX9_isHook 5 = .ok (.bipush 10, 2) := by decide +kernel
theorem dX9_isHook_7 : decode cX9_isHook 7 = .ok (.if_icmp .ge 7, 3) := by decide +kernel
theorem dX9_isHook_10 : decode cX9_isHook 10 = .ok (.iconst 1, 1) := by decide +kernel
theorem dX9_isHook_11 : decode cX9_isHook 11 = .ok (.goto 4, 3) := by decide +kernel
theorem dX9_isHook_14 : decode cX9_isHook 14 = .ok (.iconst 0, 1) := by decide +kernel
theorem dX9_isHook_15 : decode cX9_isHook 15 = .ok (.ireturn, 1) := by decide +kernel
theorem dX9_heatBy_0 : decode cX9_heatBy 0 = .ok (.iconst 0, 1) := by decide +kernel
theorem dX9_heatBy_1 : decode cX9_heatBy 1 = .ok (.iload_n 0, 1) := by decide +kernel
theorem dX9_heatBy_2 : decode cX9_heatBy 2 = .ok (.iload_n 1, 1) := by decide +kernel
theorem dX9_heatBy_3 : decode cX9_heatBy 3 = .ok (.isub, 1) := by decide +kernel
theorem dX9_heatBy_4 : decode cX9_heatBy 4 = .ok (.invokestatic 331, 3) := by decide +kernel
theorem dX9_heatBy_7 : decode cX9_heatBy 7 = .ok (.ireturn, 1) := by decide +kernel
theorem dX9_bitsOf_0 : decode cX9_bitsOf 0 = .ok (.fload_n 0, 1) := by decide +kernel
theorem dX9_bitsOf_1 : decode cX9_bitsOf 1 = .ok (.fconst 0, 1) := by decide +kernel
theorem dX9_bitsOf_2 : decode cX9_bitsOf 2 = .ok (.fcmp .g, 1) := by decide +kernel
theorem dX9_bitsOf_3 : decode cX9_bitsOf 3 = .ok (.ifCond .gt 5, 3) := by decide +kernel
theorem dX9_bitsOf_6 : decode cX9_bitsOf 6 = .ok (.iconst 0, 1) := by decide +kernel
theorem dX9_bitsOf_7 : decode cX9_bitsOf 7 = .ok (.ireturn, 1) := by decide +kernel
theorem dX9_bitsOf_8 : decode cX9_bitsOf 8 = .ok (.fload_n 0, 1) := by decide +kernel
theorem dX9_bitsOf_9 : decode cX9_bitsOf 9 = .ok (.fstore_n 1, 1) := by decide +kernel
theorem dX9_bitsOf_10 : decode cX9_bitsOf 10 = .ok (.bipush 127, 2) := by decide +kernel
theorem dX9_bitsOf_12 : decode cX9_bitsOf 12 = .ok (.istore_n 2, 1) := by decide +kernel
theorem dX9_bitsOf_13 : decode cX9_bitsOf 13 = .ok (.iconst 0, 1) := by decide +kernel
theorem dX9_bitsOf_14 : decode cX9_bitsOf 14 = .ok (.istore_n 3, 1) := by decide +kernel
theorem dX9_bitsOf_15 : decode cX9_bitsOf 15 = .ok (.iload_n 3, 1) := by decide +kernel
theorem dX9_bitsOf_16 : decode cX9_bitsOf 16 = .ok (.bipush 127, 2) := by decide +kernel
theorem dX9_bitsOf_18 : decode cX9_bitsOf 18 = .ok (.if_icmp .ge 22, 3) := by decide +kernel
theorem dX9_bitsOf_21 : decode cX9_bitsOf 21 = .ok (.fload_n 1, 1) := by decide +kernel
theorem dX9_bitsOf_22 : decode cX9_bitsOf 22 = .ok (.fconst 2, 1) := by decide +kernel
theorem dX9_bitsOf_23 : decode cX9_bitsOf 23 = .ok (.fcmp .l, 1) := by decide +kernel
theorem dX9_bitsOf_24 : decode cX9_bitsOf 24 = .ok (.ifCond .lt 16, 3) := by decide +kernel
theorem dX9_bitsOf_27 : decode cX9_bitsOf 27 = .ok (.fload_n 1, 1) := by decide +kernel
theorem dX9_bitsOf_28 : decode cX9_bitsOf 28 = .ok (.fconst 2, 1) := by decide +kernel
theorem dX9_bitsOf_29 : decode cX9_bitsOf 29 = .ok (.fdiv, 1) := by decide +kernel
theorem dX9_bitsOf_30 : decode cX9_bitsOf 30 = .ok (.fstore_n 1, 1) := by decide +kernel
theorem dX9_bitsOf_31 : decode cX9_bitsOf 31 = .ok (.iinc 2 1, 3) := by decide +kernel
theorem dX9_bitsOf_34 : decode cX9_bitsOf 34 = .ok (.iinc 3 1, 3) := by decide +kernel
theorem dX9_bitsOf_37 : decode cX9_bitsOf 37 = .ok (.goto (-22), 3) := by decide +kernel
theorem dX9_bitsOf_40 : decode cX9_bitsOf 40 = .ok (.iconst 0, 1) := by decide +kernel
theorem dX9_bitsOf_41 : decode cX9_bitsOf 41 = .ok (.istore_n 3, 1) := by decide +kernel
theorem dX9_bitsOf_42 : decode cX9_bitsOf 42 = .ok (.iload_n 3, 1) := by decide +kernel
theorem dX9_bitsOf_43 : decode cX9_bitsOf 43 = .ok (.bipush 126, 2) := by decide +kernel
theorem dX9_bitsOf_45 : decode cX9_bitsOf 45 = .ok (.if_icmp .ge 22, 3) := by decide +kernel
theorem dX9_bitsOf_48 : decode cX9_bitsOf 48 = .ok (.fload_n 1, 1) := by decide +kernel
theorem dX9_bitsOf_49 : decode cX9_bitsOf 49 = .ok (.fconst 1, 1) := by decide +kernel
theorem dX9_bitsOf_50 : decode cX9_bitsOf 50 = .ok (.fcmp .g, 1) := by decide +kernel
theorem dX9_bitsOf_51 : decode cX9_bitsOf 51 = .ok (.ifCond .ge 16, 3) := by decide +kernel
theorem dX9_bitsOf_54 : decode cX9_bitsOf 54 = .ok (.fload_n 1, 1) := by decide +kernel
theorem dX9_bitsOf_55 : decode cX9_bitsOf 55 = .ok (.fconst 2, 1) := by decide +kernel
theorem dX9_bitsOf_56 : decode cX9_bitsOf 56 = .ok (.fmul, 1) := by decide +kernel
theorem dX9_bitsOf_57 : decode cX9_bitsOf 57 = .ok (.fstore_n 1, 1) := by decide +kernel
theorem dX9_bitsOf_58 : decode cX9_bitsOf 58 = .ok (.iinc 2 (-1), 3) := by decide +kernel
theorem dX9_bitsOf_61 : decode cX9_bitsOf 61 = .ok (.iinc 3 1, 3) := by decide +kernel
theorem dX9_bitsOf_64 : decode cX9_bitsOf 64 = .ok (.goto (-22), 3) := by decide +kernel
theorem dX9_bitsOf_67 : decode cX9_bitsOf 67 = .ok (.iload_n 2, 1) := by decide +kernel
theorem dX9_bitsOf_68 : decode cX9_bitsOf 68 = .ok (.bipush 23, 2) := by decide +kernel
theorem dX9_bitsOf_70 : decode cX9_bitsOf 70 = .ok (.ishl, 1) := by decide +kernel
theorem dX9_bitsOf_71 : decode cX9_bitsOf 71 = .ok (.fload_n 1, 1) := by decide +kernel
theorem dX9_bitsOf_72 : decode cX9_bitsOf 72 = .ok (.fconst 1, 1) := by decide +kernel
theorem dX9_bitsOf_73 : decode cX9_bitsOf 73 = .ok (.fsub, 1) := by decide +kernel
theorem dX9_bitsOf_74 : decode cX9_bitsOf 74 = .ok (.ldc_w 336, 3) := by decide +kernel
theorem dX9_bitsOf_77 : decode cX9_bitsOf 77 = .ok (.fmul, 1) := by decide +kernel
theorem dX9_bitsOf_78 : decode cX9_bitsOf 78 = .ok (.f2i, 1) := by decide +kernel
theorem dX9_bitsOf_79 : decode cX9_bitsOf 79 = .ok (.iadd, 1) := by decide +kernel
theorem dX9_bitsOf_80 : decode cX9_bitsOf 80 = .ok (.ireturn, 1) := by decide +kernel
theorem dX10_init_0 : decode cX10_init 0 = .ok (.aload_n 0, 1) := by decide +kernel
theorem dX10_init_1 : decode cX10_init 1 = .ok (.invokespecial 1, 3) := by decide +kernel
theorem dX10_init_4 : decode cX10_init 4 = .ok (.aload_n 0, 1) := by decide +kernel
theorem dX10_init_5 : decode cX10_init 5 = .ok (.sipush 140, 3) := by decide +kernel
theorem dX10_init_8 : decode cX10_init 8 = .ok (.newarray .int, 2) := by decide +kernel
theorem dX10_init_10 : decode cX10_init 10 = .ok (.putfield 7, 3) := by decide +kernel
theorem dX10_init_13 : decode cX10_init 13 = .ok (.aload_n 0, 1) := by decide +kernel
theorem dX10_init_14 : decode cX10_init 14 = .ok (.sipush 1120, 3) := by decide +kernel
theorem dX10_init_17 : decode cX10_init 17 = .ok (.newarray .int, 2) := by decide +kernel
theorem dX10_init_19 : decode cX10_init 19 = .ok (.putfield 13, 3) := by decide +kernel
theorem dX10_init_22 : decode cX10_init 22 = .ok (.aload_n 0, 1) := by decide +kernel
theorem dX10_init_23 : decode cX10_init 23 = .ok (.sipush 140, 3) := by decide +kernel
theorem dX10_init_26 : decode cX10_init 26 = .ok (.newarray .int, 2) := by decide +kernel
theorem dX10_init_28 : decode cX10_init 28 = .ok (.putfield 16, 3) := by decide +kernel
theorem dX10_init_31 : decode cX10_init 31 = .ok (.aload_n 0, 1) := by decide +kernel
theorem dX10_init_32 : decode cX10_init 32 = .ok (.sipush 140, 3) := by decide +kernel
theorem dX10_init_35 : decode cX10_init 35 = .ok (.newarray .int, 2) := by decide +kernel
theorem dX10_init_37 : decode cX10_init 37 = .ok (.putfield 19, 3) := by decide +kernel
theorem dX10_init_40 : decode cX10_init 40 = .ok (.aload_n 0, 1) := by decide +kernel
theorem dX10_init_41 : decode cX10_init 41 = .ok (.sipush 140, 3) := by decide +kernel
theorem dX10_init_44 : decode cX10_init 44 = .ok (.newarray .int, 2) := by decide +kernel
theorem dX10_init_46 : decode cX10_init 46 = .ok (.putfield 22, 3) := by decide +kernel
theorem dX10_init_49 : decode cX10_init 49 = .ok (.aload_n 0, 1) := by decide +kernel
theorem dX10_init_50 : decode cX10_init 50 = .ok (.bipush 60, 2) := by decide +kernel
theorem dX10_init_52 : decode cX10_init 52 = .ok (.newarray .int, 2) := by decide +kernel
theorem dX10_init_54 : decode cX10_init 54 = .ok (.putfield 25, 3) := by decide +kernel
theorem dX10_init_57 : decode cX10_init 57 = .ok (.aload_n 0, 1) := by decide +kernel
theorem dX10_init_58 : decode cX10_init 58 = .ok (.iconst (-1), 1) := by decide +kernel
theorem dX10_init_59 : decode cX10_init 59 = .ok (.putfield 28, 3) := by decide +kernel
theorem dX10_init_62 : decode cX10_init 62 = .ok (.aload_n 0, 1) := by decide +kernel
theorem dX10_init_63 : decode cX10_init 63 = .ok (.bipush 30, 2) := by decide +kernel
theorem dX10_init_65 : decode cX10_init 65 = .ok (.newarray .char, 2) := by decide +kernel
theorem dX10_init_67 : decode cX10_init 67 = .ok (.putfield 32, 3) := by decide +kernel
theorem dX10_init_70 : decode cX10_init 70 = .ok (.aload_n 0, 1) := by decide +kernel
theorem dX10_init_71 : decode cX10_init 71 = .ok (.sipush 128, 3) := by decide +kernel
theorem dX10_init_74 : decode cX10_init 74 = .ok (.newarray .int, 2) := by decide +kernel
theorem dX10_init_76 : decode cX10_init 76 = .ok (.putfield 36, 3) := by decide +kernel
theorem dX10_init_79 : decode cX10_init 79 = .ok (.return_, 1) := by decide +kernel
theorem dX10_thrown_0 : decode cX10_thrown 0 = .ok (.aload_n 0, 1) := by decide +kernel
theorem dX10_thrown_1 : decode cX10_thrown 1 = .ok (.getfield 39, 3) := by decide +kernel
theorem dX10_thrown_4 : decode cX10_thrown 4 = .ok (.ireturn, 1) := by decide +kernel
theorem dX10_fails_0 : decode cX10_fails 0 = .ok (.aload_n 0, 1) := by decide +kernel
theorem dX10_fails_1 : decode cX10_fails 1 = .ok (.iload_n 1, 1) := by decide +kernel
theorem dX10_fails_2 : decode cX10_fails 2 = .ok (.putfield 39, 3) := by decide +kernel
theorem dX10_fails_5 : decode cX10_fails 5 = .ok (.iload_n 1, 1) := by decide +kernel
theorem dX10_fails_6 : decode cX10_fails 6 = .ok (.ifCond .le 7, 3) := by decide +kernel
theorem dX10_fails_9 : decode cX10_fails 9 = .ok (.iconst 1, 1) := by decide +kernel
theorem dX10_fails_10 : decode cX10_fails 10 = .ok (.goto 4, 3) := by decide +kernel
theorem dX10_fails_13 : decode cX10_fails 13 = .ok (.iconst 0, 1) := by decide +kernel
theorem dX10_fails_14 : decode cX10_fails 14 = .ok (.ireturn, 1) := by decide +kernel
theorem dX10_refuses_0 : decode cX10_refuses 0 = .ok (.aload_n 0, 1) := by decide +kernel
theorem dX10_refuses_1 : decode cX10_refuses 1 = .ok (.iconst 1, 1) := by decide +kernel
theorem dX10_refuses_2 : decode cX10_refuses 2 = .ok (.putfield 39, 3) := by decide +kernel
theorem dX10_refuses_5 : decode cX10_refuses 5 = .ok (.aload_n 0, 1) := by decide +kernel
theorem dX10_refuses_6 : decode cX10_refuses 6 = .ok (.iload_n 1, 1) := by decide +kernel
theorem dX10_refuses_7 : decode cX10_refuses 7 = .ok (.putfield 42, 3) := by decide +kernel
theorem dX10_refuses_10 : decode cX10_refuses 10 = .ok (.aload_n 0, 1) := by decide +kernel
theorem dX10_refuses_11 : decode cX10_refuses 11 = .ok (.iload_n 2, 1) := by decide +kernel
theorem dX10_refuses_12 : decode cX10_refuses 12 = .ok (.putfield 45, 3) := by decide +kernel
theorem dX10_refuses_15 : decode cX10_refuses 15 = .ok (.aload_n 0, 1) := by decide +kernel
theorem dX10_refuses_16 : decode cX10_refuses 16 = .ok (.aload_n 0, 1) := by decide +kernel
theorem dX10_refuses_17 : decode cX10_refuses 17 = .ok (.getfield 48, 3) := by decide +kernel
theorem dX10_refuses_20 : decode cX10_refuses 20 = .ok (.ifCond .eq 10, 3) := by decide +kernel
theorem dX10_refuses_23 : decode cX10_refuses 23 = .ok (.aload_n 0, 1) := by decide +kernel
theorem dX10_refuses_24 : decode cX10_refuses 24 = .ok (.getfield 52, 3) := by decide +kernel
theorem dX10_refuses_27 : decode cX10_refuses 27 = .ok (.goto 4, 3) := by decide +kernel
theorem dX10_refuses_30 : decode cX10_refuses 30 = .ok (.iconst 0, 1) := by decide +kernel
theorem dX10_refuses_31 : decode cX10_refuses 31 = .ok (.putfield 55, 3) := by decide +kernel
theorem dX10_refuses_34 : decode cX10_refuses 34 = .ok (.iconst 0, 1) := by decide +kernel
theorem dX10_refuses_35 : decode cX10_refuses 35 = .ok (.ireturn, 1) := by decide +kernel
theorem dX10_in_0 : decode cX10_in 0 = .ok (.iload_n 0, 1) := by decide +kernel
theorem dX10_in_1 : decode cX10_in 1 = .ok (.iload_n 1, 1) := by decide +kernel
theorem dX10_in_2 : decode cX10_in 2 = .ok (.if_icmp .lt 12, 3) := by decide +kernel
theorem dX10_in_5 : decode cX10_in 5 = .ok (.iload_n 0, 1) := by decide +kernel
theorem dX10_in_6 : decode cX10_in 6 = .ok (.iload_n 2, 1) := by decide +kernel
theorem dX10_in_7 : decode cX10_in 7 = .ok (.if_icmp .gt 7, 3) := by decide +kernel
theorem dX10_in_10 : decode cX10_in 10 = .ok (.iconst 1, 1) := by decide +kernel
theorem dX10_in_11 : decode cX10_in 11 = .ok (.goto 4, 3) := by decide +kernel
theorem dX10_in_14 : decode cX10_in 14 = .ok (.iconst 0, 1) := by decide +kernel
theorem dX10_in_15 : decode cX10_in 15 = .ok (.ireturn, 1) := by decide +kernel
theorem dX10_atMost_0 : decode cX10_atMost 0 = .ok (.iload_n 0, 1) := by decide +kernel
theorem dX10_atMost_1 : decode cX10_atMost 1 = .ok (.iload_n 1, 1) := by decide +kernel
theorem dX10_atMost_2 : decode cX10_atMost 2 = .ok (.if_icmp .ge 7, 3) := by decide +kernel
theorem dX10_atMost_5 : decode cX10_atMost 5 = .ok (.iload_n 0, 1) := by decide +kernel
theorem dX10_atMost_6 : decode cX10_atMost 6 = .ok (.goto 4, 3) := by decide +kernel
theorem dX10_atMost_9 : decode cX10_atMost 9 = .ok (.iload_n 1, 1) := by decide +kernel
theorem dX10_atMost_10 : decode cX10_atMost 10 = .ok (.ireturn, 1) := by decide +kernel
theorem dX10_copies_0 : decode cX10_copies 0 = .ok (.iconst 0, 1) := by decide +kernel
theorem dX10_copies_1 : decode cX10_copies 1 = .ok (.istore 4, 2) := by decide +kernel
theorem dX10_copies_3 : decode cX10_copies 3 = .ok (.iload 4, 2) := by decide +kernel
theorem dX10_copies_5 : decode cX10_copies 5 = .ok (.sipush 140, 3) := by decide +kernel
theorem dX10_copies_8 : decode cX10_copies 8 = .ok (.if_icmp .ge 21, 3) := by decide +kernel
theorem dX10_copies_11 : decode cX10_copies 11 = .ok (.aload_n 2, 1) := by decide +kernel
theorem dX10_copies_12 : decode cX10_copies 12 = .ok (.iload_n 3, 1) := by decide +kernel
theorem dX10_copies_13 : decode cX10_copies 13 = .ok (.iload 4, 2) := by decide +kernel
theorem dX10_copies_15 : decode cX10_copies 15 = .ok (.iadd, 1) := by decide +kernel
theorem dX10_copies_16 : decode cX10_copies 16 = .ok (.aload_n 0, 1) := by decide +kernel
theorem dX10_copies_17 : decode cX10_copies 17 = .ok (.iload_n 1, 1) := by decide +kernel
theorem dX10_copies_18 : decode cX10_copies 18 = .ok (.iload 4, 2) := by decide +kernel
theorem dX10_copies_20 : decode cX10_copies 20 = .ok (.iadd, 1) := by decide +kernel
theorem dX10_copies_21 : decode cX10_copies 21 = .ok (.iaload, 1) := by decide +kernel
theorem dX10_copies_22 : decode cX10_copies 22 = .ok (.iastore, 1) := by decide +kernel
theorem dX10_copies_23 : decode cX10_copies 23 = .ok (.iinc 4 1, 3) := by decide +kernel
theorem dX10_copies_26 : decode cX10_copies 26 = .ok (.goto (-23), 3) := by decide +kernel
theorem dX10_copies_29 : decode cX10_copies 29 = .ok (.return_, 1) := by decide +kernel
theorem dX10_keeps_0 : decode cX10_keeps 0 = .ok (.aload_n 0, 1) := by decide +kernel
theorem dX10_keeps_1 : decode cX10_keeps 1 = .ok (.iconst 0, 1) := by decide +kernel
theorem dX10_keeps_2 : decode cX10_keeps 2 = .ok (.putfield 39, 3) := by decide +kernel
theorem dX10_keeps_5 : decode cX10_keeps 5 = .ok (.aload_n 0, 1) := by decide +kernel
theorem dX10_keeps_6 : decode cX10_keeps 6 = .ok (.getfield 48, 3) := by decide +kernel
theorem dX10_keeps_9 : decode cX10_keeps 9 = .ok (.ifCond .eq 4, 3) := by decide +kernel
theorem dX10_keeps_12 : decode cX10_keeps 12 = .ok (.return_, 1) := by decide +kernel
theorem dX10_keeps_13 : decode cX10_keeps 13 = .ok (.aload_n 0, 1) := by decide +kernel
theorem dX10_keeps_14 : decode cX10_keeps 14 = .ok (.getfield 58, 3) := by decide +kernel
theorem dX10_keeps_17 : decode cX10_keeps 17 = .ok (.bipush 8, 2) := by decide +kernel
theorem dX10_keeps_19 : decode cX10_keeps 19 = .ok (.if_icmp .ne 44, 3) := by decide +kernel
theorem dX10_keeps_22 : decode cX10_keeps 22 = .ok (.iconst 0, 1) := by decide +kernel
theorem dX10_keeps_23 : decode cX10_keeps 23 = .ok (.istore_n 2, 1) := by decide +kernel
theorem dX10_keeps_24 : decode cX10_keeps 24 = .ok (.iload_n 2, 1) := by decide +kernel
theorem dX10_keeps_25 : decode cX10_keeps 25 = .ok (.sipush 980, 3) := by decide +kernel
theorem dX10_keeps_28 : decode cX10_keeps 28 = .ok (.if_icmp .ge 25, 3) := by decide +kernel
theorem dX10_keeps_31 : decode cX10_keeps 31 = .ok (.aload_n 0, 1) := by decide +kernel
theorem dX10_keeps_32 : decode cX10_keeps 32 = .ok (.getfield 13, 3) := by decide +kernel
theorem dX10_keeps_35 : decode cX10_keeps 35 = .ok (.iload_n 2, 1) := by decide +kernel
theorem dX10_keeps_36 : decode cX10_keeps 36 = .ok (.aload_n 0, 1) := by decide +kernel
theorem dX10_keeps_37 : decode cX10_keeps 37 = .ok (.getfield 13, 3) := by decide +kernel
theorem dX10_keeps_40 : decode cX10_keeps 40 = .ok (.iload_n 2, 1) := by decide +kernel
theorem dX10_keeps_41 : decode cX10_keeps 41 = .ok (.sipush 140, 3) := by decide +kernel
theorem dX10_keeps_44 : decode cX10_keeps 44 = .ok (.iadd, 1) := by decide +kernel
theorem dX10_keeps_45 : decode cX10_keeps 45 = .ok (.iaload, 1) := by decide +kernel
theorem dX10_keeps_46 : decode cX10_keeps 46 = .ok (.iastore, 1) := by decide +kernel
theorem dX10_keeps_47 : decode cX10_keeps 47 = .ok (.iinc 2 1, 3) := by decide +kernel
theorem dX10_keeps_50 : decode cX10_keeps 50 = .ok (.goto (-26), 3) := by decide +kernel
theorem dX10_keeps_53 : decode cX10_keeps 53 = .ok (.aload_n 0, 1) := by decide +kernel
theorem dX10_keeps_54 : decode cX10_keeps 54 = .ok (.dup, 1) := by decide +kernel
theorem dX10_keeps_55 : decode cX10_keeps 55 = .ok (.getfield 58, 3) := by decide +kernel
theorem dX10_keeps_58 : decode cX10_keeps 58 = .ok (.iconst 1, 1) := by decide +kernel
theorem dX10_keeps_59 : decode cX10_keeps 59 = .ok (.isub, 1) := by decide +kernel
theorem dX10_keeps_60 : decode cX10_keeps 60 = .ok (.putfield 58, 3) := by decide +kernel
theorem dX10_keeps_63 : decode cX10_keeps 63 = .ok (.aload_n 1, 1) := by decide +kernel
theorem dX10_keeps_64 : decode cX10_keeps 64 = .ok (.iconst 0, 1) := by decide +kernel
theorem dX10_keeps_65 : decode cX10_keeps 65 = .ok (.aload_n 0, 1) := by decide +kernel
theorem dX10_keeps_66 : decode cX10_keeps 66 = .ok (.getfield 13, 3) := by decide +kernel
theorem dX10_keeps_69 : decode cX10_keeps 69 = .ok (.sipush 140, 3) := by decide +kernel
theorem dX10_keeps_72 : decode cX10_keeps 72 = .ok (.aload_n 0, 1) := by decide +kernel
theorem dX10_keeps_73 : decode cX10_keeps 73 = .ok (.getfield 58, 3) := by decide +kernel
theorem dX10_keeps_76 : decode cX10_keeps 76 = .ok (.imul, 1) := by decide +kernel
theorem dX10_keeps_77 : decode cX10_keeps 77 = .ok (.invokestatic 61, 3) := by decide +kernel
theorem dX10_keeps_80 : decode cX10_keeps 80 = .ok (.aload_n 0, 1) := by decide +kernel
theorem dX10_keeps_81 : decode cX10_keeps 81 = .ok (.dup, 1) := by decide +kernel
theorem dX10_keeps_82 : decode cX10_keeps 82 = .ok (.getfield 58, 3) := by decide +kernel
theorem dX10_keeps_85 : decode cX10_keeps 85 = .ok (.iconst 1, 1) := by decide +kernel
theorem dX10_keeps_86 : decode cX10_keeps 86 = .ok (.iadd, 1) := by decide +kernel
theorem dX10_keeps_87 : decode cX10_keeps 87 = .ok (.putfield 58, 3) := by decide +kernel
theorem dX10_keeps_90 : decode cX10_keeps 90 = .ok (.return_, 1) := by decide +kernel
theorem dX10_of_0 : decode cX10_of 0 = .ok (.aload_n 0, 1) := by decide +kernel
theorem dX10_of_1 : decode cX10_of 1 = .ok (.getfield 7, 3) := by decide +kernel
theorem dX10_of_4 : decode cX10_of 4 = .ok (.bipush 8, 2) := by decide +kernel
theorem dX10_of_6 : decode cX10_of 6 = .ok (.bipush 11, 2) := by decide +kernel
theorem dX10_of_8 : decode cX10_of 8 = .ok (.iload_n 1, 1) := by decide +kernel
theorem dX10_of_9 : decode cX10_of 9 = .ok (.imul, 1) := by decide +kernel
theorem dX10_of_10 : decode cX10_of 10 = .ok (.iadd, 1) := by decide +kernel
theorem dX10_of_11 : decode cX10_of 11 = .ok (.iload_n 2, 1) := by decide +kernel
theorem dX10_of_12 : decode cX10_of 12 = .ok (.iadd, 1) := by decide +kernel
theorem dX10_of_13 : decode cX10_of 13 = .ok (.iaload, 1) := by decide +kernel
theorem dX10_of_14 : decode cX10_of 14 = .ok (.ireturn, 1) := by decide +kernel
theorem dX10_lays_0 : decode cX10_lays 0 = .ok (.aload_n 0, 1) := by decide +kernel
theorem dX10_lays_1 : decode cX10_lays 1 = .ok (.getfield 7, 3) := by decide +kernel
theorem dX10_lays_4 : decode cX10_lays 4 = .ok (.bipush 8, 2) := by decide +kernel
theorem dX10_lays_6 : decode cX10_lays 6 = .ok (.bipush 11, 2) := by decide +kernel
theorem dX10_lays_8 : decode cX10_lays 8 = .ok (.iload_n 1, 1) := by decide +kernel
theorem dX10_lays_9 : decode cX10_lays 9 = .ok (.imul, 1) := by decide +kernel
theorem dX10_lays_10 : decode cX10_lays 10 = .ok (.iadd, 1) := by decide +kernel
theorem dX10_lays_11 : decode cX10_lays 11 = .ok (.iload_n 2, 1) := by decide +kernel
theorem dX10_lays_12 : decode cX10_lays 12 = .ok (.iadd, 1) := by decide +kernel
theorem dX10_lays_13 : decode cX10_lays 13 = .ok (.iload_n 3, 1) := by decide +kernel
theorem dX10_lays_14 : decode cX10_lays 14 = .ok (.iastore, 1) := by decide +kernel
theorem dX10_lays_15 : decode cX10_lays 15 = .ok (.return_, 1) := by decide +kernel
theorem dX10_isFish_0 : decode cX10_isFish 0 = .ok (.iload_n 1, 1) := by decide +kernel
theorem dX10_isFish_1 : decode cX10_isFish 1 = .ok (.iconst 0, 1) := by decide +kernel
theorem dX10_isFish_2 : decode cX10_isFish 2 = .ok (.aload_n 0, 1) := by decide +kernel
theorem dX10_isFish_3 : decode cX10_isFish 3 = .ok (.getfield 7, 3) := by decide +kernel
theorem dX10_isFish_6 : decode cX10_isFish 6 = .ok (.iconst 0, 1) := by decide +kernel
theorem dX10_isFish_7 : decode cX10_isFish 7 = .ok (.iaload, 1) := by decide +kernel
theorem dX10_isFish_8 : decode cX10_isFish 8 = .ok (.iconst 1, 1) := by decide +kernel
theorem dX10_isFish_9 : decode cX10_isFish 9 = .ok (.isub, 1) := by decide +kernel
theorem dX10_isFish_10 : decode cX10_isFish 10 = .ok (.invokestatic 65, 3) := by decide +kernel
theorem dX10_isFish_13 : decode cX10_isFish 13 = .ok (.ireturn, 1) := by decide +kernel
theorem dX10_many_0 : decode cX10_many 0 = .ok (.iconst 0, 1) := by decide +kernel
theorem dX10_many_1 : decode cX10_many 1 = .ok (.istore_n 2, 1) := by decide +kernel
theorem dX10_many_2 : decode cX10_many 2 = .ok (.iconst 0, 1) := by decide +kernel
theorem dX10_many_3 : decode cX10_many 3 = .ok (.istore_n 3, 1) := by decide +kernel
theorem dX10_many_4 : decode cX10_many 4 = .ok (.iload_n 3, 1) := by decide +kernel
theorem dX10_many_5 : decode cX10_many 5 = .ok (.aload_n 0, 1) := by decide +kernel
theorem dX10_many_6 : decode cX10_many 6 = .ok (.getfield 7, 3) := by decide +kernel
theorem dX10_many_9 : decode cX10_many 9 = .ok (.iconst 0, 1) := by decide +kernel
theorem dX10_many_10 : decode cX10_many 10 = .ok (.iaload, 1) := by decide +kernel
theorem dX10_many_11 : decode cX10_many 11 = .ok (.if_icmp .ge 27, 3) := by decide +kernel
theorem dX10_many_14 : decode cX10_many 14 = .ok (.iload_n 2, 1) := by decide +kernel
theorem dX10_many_15 : decode cX10_many 15 = .ok (.aload_n 0, 1) := by decide +kernel
theorem dX10_many_16 : decode cX10_many 16 = .ok (.iload_n 3, 1) := by decide +kernel
theorem dX10_many_17 : decode cX10_many 17 = .ok (.iconst 2, 1) := by decide +kernel
theorem dX10_many_18 : decode cX10_many 18 = .ok (.invokevirtual 69, 3) := by decide +kernel
theorem dX10_many_21 : decode cX10_many 21 = .ok (.iload_n 1, 1) := by decide +kernel
theorem dX10_many_22 : decode cX10_many 22 = .ok (.if_icmp .ne 7, 3) := by decide +kernel
theorem dX10_many_25 : decode cX10_many 25 = .ok (.iconst 1, 1) := by decide +kernel
theorem dX10_many_26 : decode cX10_many 26 = .ok (.goto 4, 3) := by decide +kernel
theorem dX10_many_29 : decode cX10_many 29 = .ok (.iconst 0, 1) := by decide +kernel
theorem dX10_many_30 : decode cX10_many 30 = .ok (.iadd, 1) := by decide +kernel
theorem dX10_many_31 : decode cX10_many 31 = .ok (.istore_n 2, 1) := by decide +kernel
theorem dX10_many_32 : decode cX10_many 32 = .ok (.iinc 3 1, 3) := by decide +kernel
theorem dX10_many_35 : decode cX10_many 35 = .ok (.goto (-31), 3) := by decide +kernel
theorem dX10_many_38 : decode cX10_many 38 = .ok (.iload_n 2, 1) := by decide +kernel
theorem dX10_many_39 : decode cX10_many 39 = .ok (.ireturn, 1) := by decide +kernel
theorem dX10_hangs_0 : decode cX10_hangs 0 = .ok (.aload_n 0, 1) := by decide +kernel
theorem dX10_hangs_1 : decode cX10_hangs 1 = .ok (.iload_n 1, 1) := by decide +kernel
theorem dX10_hangs_2 : decode cX10_hangs 2 = .ok (.iconst 2, 1) := by decide +kernel
theorem dX10_hangs_3 : decode cX10_hangs 3 = .ok (.invokevirtual 69, 3) := by decide +kernel
theorem dX10_hangs_6 : decode cX10_hangs 6 = .ok (.iconst 2, 1) := by decide +kernel
theorem dX10_hangs_7 : decode cX10_hangs 7 = .ok (.if_icmp .ne 7, 3) := by decide +kernel
theorem dX10_hangs_10 : decode cX10_hangs 10 = .ok (.iconst 1, 1) := by decide +kernel
theorem dX10_hangs_11 : decode cX10_hangs 11 = .ok (.goto 4, 3) := by decide +kernel
theorem dX10_hangs_14 : decode cX10_hangs 14 = .ok (.iconst 0, 1) := by decide +kernel
theorem dX10_hangs_15 : decode cX10_hangs 15 = .ok (.ireturn, 1) := by decide +kernel
theorem dX10_onRack_0 : decode cX10_onRack 0 = .ok (.iconst 0, 1) := by decide +kernel
theorem dX10_onRack_1 : decode cX10_onRack 1 = .ok (.istore_n 2, 1) := by decide +kernel
theorem dX10_onRack_2 : decode cX10_onRack 2 = .ok (.iconst 0, 1) := by decide +kernel
theorem dX10_onRack_3 : decode cX10_onRack 3 = .ok (.istore_n 3, 1) := by decide +kernel
theorem dX10_onRack_4 : decode cX10_onRack 4 = .ok (.iload_n 3, 1) := by decide +kernel
theorem dX10_onRack_5 : decode cX10_onRack 5 = .ok (.aload_n 0, 1) := by decide +kernel
theorem dX10_onRack_6 : decode cX10_onRack 6 = .ok (.getfield 7, 3) := by decide +kernel
theorem dX10_onRack_9 : decode cX10_onRack 9 = .ok (.iconst 0, 1) := by decide +kernel
theorem dX10_onRack_10 : decode cX10_onRack 10 = .ok (.iaload, 1) := by decide +kernel
theorem dX10_onRack_11 : decode cX10_onRack 11 = .ok (.if_icmp .ge 35, 3) := by decide +kernel
theorem dX10_onRack_14 : decode cX10_onRack 14 = .ok (.iload_n 2, 1) := by decide +kernel
theorem dX10_onRack_15 : decode cX10_onRack 15 = .ok (.aload_n 0, 1) := by decide +kernel
theorem dX10_onRack_16 : decode cX10_onRack 16 = .ok (.iload_n 3, 1) := by decide +kernel
theorem dX10_onRack_17 : decode cX10_onRack 17 = .ok (.invokevirtual 73, 3) := by decide +kernel
theorem dX10_onRack_20 : decode cX10_onRack 20 = .ok (.ifCond .eq 17, 3) := by decide +kernel
theorem dX10_onRack_23 : decode cX10_onRack 23 = .ok (.aload_n 0, 1) := by decide +kernel
theorem dX10_onRack_24 : decode cX10_onRack 24 = .ok (.iload_n 3, 1) := by decide +kernel
theorem dX10_onRack_25 : decode cX10_onRack 25 = .ok (.iconst 3, 1) := by decide +kernel
theorem dX10_onRack_26 : decode cX10_onRack 26 = .ok (.invokevirtual 69, 3) := by decide +kernel
theorem dX10_onRack_29 : decode cX10_onRack 29 = .ok (.iload_n 1, 1) := by decide +kernel
theorem dX10_onRack_30 : decode cX10_onRack 30 = .ok (.if_icmp .ne 7, 3) := by decide +kernel
theorem dX10_onRack_33 : decode cX10_onRack 33 = .ok (.iconst 1, 1) := by decide +kernel
theorem dX10_onRack_34 : decode cX10_onRack 34 = .ok (.goto 4, 3) := by decide +kernel
theorem dX10_onRack_37 : decode cX10_onRack 37 = .ok (.iconst 0, 1) := by decide +kernel
theorem dX10_onRack_38 : decode cX10_onRack 38 = .ok (.iadd, 1) := by decide +kernel
theorem dX10_onRack_39 : decode cX10_onRack 39 = .ok (.istore_n 2, 1) := by decide +kernel
theorem dX10_onRack_40 : decode cX10_onRack 40 = .ok (.iinc 3 1, 3) := by decide +kernel
theorem dX10_onRack_43 : decode cX10_onRack 43 = .ok (.goto (-39), 3) := by decide +kernel
theorem dX10_onRack_46 : decode cX10_onRack 46 = .ok (.iload_n 2, 1) := by decide +kernel
theorem dX10_onRack_47 : decode cX10_onRack 47 = .ok (.ireturn, 1) := by decide +kernel
theorem dX10_onHook_0 : decode cX10_onHook 0 = .ok (.iconst 0, 1) := by decide +kernel
theorem dX10_onHook_1 : decode cX10_onHook 1 = .ok (.istore_n 3, 1) := by decide +kernel
theorem dX10_onHook_2 : decode cX10_onHook 2 = .ok (.iload_n 3, 1) := by decide +kernel
theorem dX10_onHook_3 : decode cX10_onHook 3 = .ok (.aload_n 0, 1) := by decide +kernel
theorem dX10_onHook_4 : decode cX10_onHook 4 = .ok (.getfield 7, 3) := by decide +kernel
theorem dX10_onHook_7 : decode cX10_onHook 7 = .ok (.iconst 0, 1) := by decide +kernel
theorem dX10_onHook_8 : decode cX10_onHook 8 = .ok (.iaload, 1) := by decide +kernel
theorem dX10_onHook_9 : decode cX10_onHook 9 = .ok (.if_icmp .ge 39, 3) := by decide +kernel
theorem dX10_onHook_12 : decode cX10_onHook 12 = .ok (.aload_n 0, 1) := by decide +kernel
theorem dX10_onHook_13 : decode cX10_onHook 13 = .ok (.iload_n 3, 1) := by decide +kernel
theorem dX10_onHook_14 : decode cX10_onHook 14 = .ok (.invokevirtual 73, 3) := by decide +kernel
theorem dX10_onHook_17 : decode cX10_onHook 17 = .ok (.ifCond .eq 25, 3) := by decide +kernel
theorem dX10_onHook_20 : decode cX10_onHook 20 = .ok (.aload_n 0, 1) := by decide +kernel
theorem dX10_onHook_21 : decode cX10_onHook 21 = .ok (.iload_n 3, 1) := by decide +kernel
theorem dX10_onHook_22 : decode cX10_onHook 22 = .ok (.iconst 3, 1) := by decide +kernel
theorem dX10_onHook_23 : decode cX10_onHook 23 = .ok (.invokevirtual 69, 3) := by decide +kernel
theorem dX10_onHook_26 : decode cX10_onHook 26 = .ok (.iload_n 1, 1) := by decide +kernel
theorem dX10_onHook_27 : decode cX10_onHook 27 = .ok (.if_icmp .ne 15, 3) := by decide +kernel
theorem dX10_onHook_30 : decode cX10_onHook 30 = .ok (.aload_n 0, 1) := by decide +kernel
theorem dX10_onHook_31 : decode cX10_onHook 31 = .ok (.iload_n 3, 1) := by decide +kernel
theorem dX10_onHook_32 : decode cX10_onHook 32 = .ok (.iconst 4, 1) := by decide +kernel
theorem dX10_onHook_33 : decode cX10_onHook 33 = .ok (.invokevirtual 69, 3) := by decide +kernel
theorem dX10_onHook_36 : decode cX10_onHook 36 = .ok (.iload_n 2, 1) := by decide +kernel
theorem dX10_onHook_37 : decode cX10_onHook 37 = .ok (.if_icmp .ne 5, 3) := by decide +kernel
theorem dX10_onHook_40 : decode cX10_onHook 40 = .ok (.iload_n 3, 1) := by decide +kernel
theorem dX10_onHook_41 : decode cX10_onHook 41 = .ok (.ireturn, 1) := by decide +kernel
theorem dX10_onHook_42 : decode cX10_onHook 42 = .ok (.iinc 3 1, 3) := by decide +kernel
theorem dX10_onHook_45 : decode cX10_onHook 45 = .ok (.goto (-43), 3) := by decide +kernel
theorem dX10_onHook_48 : decode cX10_onHook 48 = .ok (.iconst (-1), 1) := by decide +kernel
theorem dX10_onHook_49 : decode cX10_onHook 49 = .ok (.ireturn, 1) := by decide +kernel
theorem dX10_gap_0 : decode cX10_gap 0 = .ok (.iload_n 0, 1) := by decide +kernel
theorem dX10_gap_1 : decode cX10_gap 1 = .ok (.iload_n 1, 1) := by decide +kernel
theorem dX10_gap_2 : decode cX10_gap 2 = .ok (.if_icmp .ge 9, 3) := by decide +kernel
theorem dX10_gap_5 : decode cX10_gap 5 = .ok (.iload_n 1, 1) := by decide +kernel
theorem dX10_gap_6 : decode cX10_gap 6 = .ok (.iload_n 0, 1) := by decide +kernel
theorem dX10_gap_7 : decode cX10_gap 7 = .ok (.isub, 1) := by decide +kernel
theorem dX10_gap_8 : decode cX10_gap 8 = .ok (.goto 6, 3) := by decide +kernel
theorem dX10_gap_11 : decode cX10_gap 11 = .ok (.iload_n 0, 1) := by decide +kernel
theorem dX10_gap_12 : decode cX10_gap 12 = .ok (.iload_n 1, 1) := by decide +kernel
theorem dX10_gap_13 : decode cX10_gap 13 = .ok (.isub, 1) := by decide +kernel
theorem dX10_gap_14 : decode cX10_gap 14 = .ok (.ireturn, 1) := by decide +kernel
theorem dX10_far_0 : decode cX10_far 0 = .ok (.bipush 99, 2) := by decide +kernel
theorem dX10_far_2 : decode cX10_far 2 = .ok (.istore 4, 2) := by decide +kernel
theorem dX10_far_4 : decode cX10_far 4 = .ok (.iconst 0, 1) := by decide +kernel
theorem dX10_far_5 : decode cX10_far 5 = .ok (.istore 5, 2) := by decide +kernel
theorem dX10_far_7 : decode cX10_far 7 = .ok (.iload 5, 2) := by decide +kernel
theorem dX10_far_9 : decode cX10_far 9 = .ok (.aload_n 0, 1) := by decide +kernel
theorem dX10_far_10 : decode cX10_far 10 = .ok (.getfield 7, 3) := by decide +kernel
theorem dX10_far_13 : decode cX10_far 13 = .ok (.iconst 0, 1) := by decide +kernel
theorem dX10_far_14 : decode cX10_far 14 = .ok (.iaload, 1) := by decide +kernel
theorem dX10_far_15 : decode cX10_far 15 = .ok (.if_icmp .ge 53, 3) := by decide +kernel
theorem dX10_far_18 : decode cX10_far 18 = .ok (.iload 5, 2) := by decide +kernel
theorem dX10_far_20 : decode cX10_far 20 = .ok (.iload_n 1, 1) := by decide +kernel
theorem dX10_far_21 : decode cX10_far 21 = .ok (.if_icmp .eq 41, 3) := by decide +kernel
theorem dX10_far_24 : decode cX10_far 24 = .ok (.aload_n 0, 1) := by decide +kernel
theorem dX10_far_25 : decode cX10_far 25 = .ok (.iload 5, 2) := by decide +kernel
theorem dX10_far_27 : decode cX10_far 27 = .ok (.invokevirtual 73, 3) := by decide +kernel
theorem dX10_far_30 : decode cX10_far 30 = .ok (.ifCond .eq 32, 3) := by decide +kernel
theorem dX10_far_33 : decode cX10_far 33 = .ok (.aload_n 0, 1) := by decide +kernel
theorem dX10_far_34 : decode cX10_far 34 = .ok (.iload 5, 2) := by decide +kernel
theorem dX10_far_36 : decode cX10_far 36 = .ok (.iconst 3, 1) := by decide +kernel
theorem dX10_far_37 : decode cX10_far 37 = .ok (.invokevirtual 69, 3) := by decide +kernel
theorem dX10_far_40 : decode cX10_far 40 = .ok (.iload_n 2, 1) := by decide +kernel
theorem dX10_far_41 : decode cX10_far 41 = .ok (.if_icmp .ne 21, 3) := by decide +kernel
theorem dX10_far_44 : decode cX10_far 44 = .ok (.aload_n 0, 1) := by decide +kernel
theorem dX10_far_45 : decode cX10_far 45 = .ok (.iload 5, 2) := by decide +kernel
theorem dX10_far_47 : decode cX10_far 47 = .ok (.iconst 4, 1) := by decide +kernel
theorem dX10_far_48 : decode cX10_far 48 = .ok (.invokevirtual 69, 3) := by decide +kernel
theorem dX10_far_51 : decode cX10_far 51 = .ok (.iload_n 3, 1) := by decide +kernel
theorem dX10_far_52 : decode cX10_far 52 = .ok (.invokestatic 77, 3) := by decide +kernel
theorem dX10_far_55 : decode cX10_far 55 = .ok (.iload 4, 2) := by decide +kernel
theorem dX10_far_57 : decode cX10_far 57 = .ok (.invokestatic 80, 3) := by decide +kernel
theorem dX10_far_60 : decode cX10_far 60 = .ok (.istore 4, 2) := by decide +kernel
theorem dX10_far_62 : decode cX10_far 62 = .ok (.iinc 5 1, 3) := by decide +kernel
theorem dX10_far_65 : decode cX10_far 65 = .ok (.goto (-58), 3) := by decide +kernel
theorem dX10_far_68 : decode cX10_far 68 = .ok (.iload 4, 2) := by decide +kernel
theorem dX10_far_70 : decode cX10_far 70 = .ok (.ireturn, 1) := by decide +kernel
theorem dX10_needs_0 : decode cX10_needs 0 = .ok (.iconst 1, 1) := by decide +kernel
theorem dX10_needs_1 : decode cX10_needs 1 = .ok (.aload_n 0, 1) := by decide +kernel
theorem dX10_needs_2 : decode cX10_needs 2 = .ok (.iload_n 1, 1) := by decide +kernel
theorem dX10_needs_3 : decode cX10_needs 3 = .ok (.iconst 0, 1) := by decide +kernel
theorem dX10_needs_4 : decode cX10_needs 4 = .ok (.invokevirtual 69, 3) := by decide +kernel
theorem dX10_needs_7 : decode cX10_needs 7 = .ok (.iconst 3, 1) := by decide +kernel
theorem dX10_needs_8 : decode cX10_needs 8 = .ok (.idiv, 1) := by decide +kernel
theorem dX10_needs_9 : decode cX10_needs 9 = .ok (.iadd, 1) := by decide +kernel
theorem dX10_needs_10 : decode cX10_needs 10 = .ok (.ireturn, 1) := by decide +kernel
theorem dX10_isNear_0 : decode cX10_isNear 0 = .ok (.aload_n 0, 1) := by decide +kernel
theorem dX10_isNear_1 : decode cX10_isNear 1 = .ok (.iload_n 1, 1) := by decide +kernel
theorem dX10_isNear_2 : decode cX10_isNear 2 = .ok (.invokevirtual 73, 3) := by decide +kernel
theorem dX10_isNear_5 : decode cX10_isNear 5 = .ok (.ifCond .eq 32, 3) := by decide +kernel
theorem dX10_isNear_8 : decode cX10_isNear 8 = .ok (.aload_n 0, 1) := by decide +kernel
theorem dX10_isNear_9 : decode cX10_isNear 9 = .ok (.iload_n 1, 1) := by decide +kernel
theorem dX10_isNear_10 : decode cX10_isNear 10 = .ok (.aload_n 0, 1) := by decide +kernel
theorem dX10_isNear_11 : decode cX10_isNear 11 = .ok (.iload_n 1, 1) := by decide +kernel
theorem dX10_isNear_12 : decode cX10_isNear 12 = .ok (.iconst 3, 1) := by decide +kernel
theorem dX10_isNear_13 : decode cX10_isNear 13 = .ok (.invokevirtual 69, 3) := by decide +kernel
theorem dX10_isNear_16 : decode cX10_isNear 16 = .ok (.aload_n 0, 1) := by decide +kernel
theorem dX10_isNear_17 : decode cX10_isNear 17 = .ok (.iload_n 1, 1) := by decide +kernel
theorem dX10_isNear_18 : decode cX10_isNear 18 = .ok (.iconst 4, 1) := by decide +kernel
theorem dX10_isNear_19 : decode cX10_isNear 19 = .ok (.invokevirtual 69, 3) := by decide +kernel
theorem dX10_isNear_22 : decode cX10_isNear 22 = .ok (.invokevirtual 83, 3) := by decide +kernel
theorem dX10_isNear_25 : decode cX10_isNear 25 = .ok (.aload_n 0, 1) := by decide +kernel
theorem dX10_isNear_26 : decode cX10_isNear 26 = .ok (.iload_n 1, 1) := by decide +kernel
theorem dX10_isNear_27 : decode cX10_isNear 27 = .ok (.invokevirtual 87, 3) := by decide +kernel
theorem dX10_isNear_30 : decode cX10_isNear 30 = .ok (.if_icmp .ge 7, 3) := by decide +kernel
theorem dX10_isNear_33 : decode cX10_isNear 33 = .ok (.iconst 1, 1) := by decide +kernel
theorem dX10_isNear_34 : decode cX10_isNear 34 = .ok (.goto 4, 3) := by decide +kernel
theorem dX10_isNear_37 : decode cX10_isNear 37 = .ok (.iconst 0, 1) := by decide +kernel
theorem dX10_isNear_38 : decode cX10_isNear 38 = .ok (.ireturn, 1) := by decide +kernel
theorem dX10_bears_0 : decode cX10_bears 0 = .ok (.iconst 2, 1) := by decide +kernel
theorem dX10_bears_1 : decode cX10_bears 1 = .ok (.aload_n 0, 1) := by decide +kernel
theorem dX10_bears_2 : decode cX10_bears 2 = .ok (.iload_n 1, 1) := by decide +kernel
theorem dX10_bears_3 : decode cX10_bears 3 = .ok (.iconst 1, 1) := by decide +kernel
theorem dX10_bears_4 : decode cX10_bears 4 = .ok (.invokevirtual 69, 3) := by decide +kernel
theorem dX10_bears_7 : decode cX10_bears 7 = .ok (.iconst 3, 1) := by decide +kernel
theorem dX10_bears_8 : decode cX10_bears 8 = .ok (.idiv, 1) := by decide +kernel
theorem dX10_bears_9 : decode cX10_bears 9 = .ok (.iadd, 1) := by decide +kernel
theorem dX10_bears_10 : decode cX10_bears 10 = .ok (.ireturn, 1) := by decide +kernel
theorem dX10_heatOf_0 : decode cX10_heatOf 0 = .ok (.aload_n 0, 1) := by decide +kernel
theorem dX10_heatOf_1 : decode cX10_heatOf 1 = .ok (.getfield 7, 3) := by decide +kernel
theorem dX10_heatOf_4 : decode cX10_heatOf 4 = .ok (.iconst 1, 1) := by decide +kernel
theorem dX10_heatOf_5 : decode cX10_heatOf 5 = .ok (.iaload, 1) := by decide +kernel
theorem dX10_heatOf_6 : decode cX10_heatOf 6 = .ok (.iload_n 1, 1) := by decide +kernel
theorem dX10_heatOf_7 : decode cX10_heatOf 7 = .ok (.if_icmp .le 14, 3) := by decide +kernel
theorem dX10_heatOf_10 : decode cX10_heatOf 10 = .ok (.aload_n 0, 1) := by decide +kernel
theorem dX10_heatOf_11 : decode cX10_heatOf 11 = .ok (.getfield 7, 3) := by decide +kernel
theorem dX10_heatOf_14 : decode cX10_heatOf 14 = .ok (.iconst 1, 1) := by decide +kernel
theorem dX10_heatOf_15 : decode cX10_heatOf 15 = .ok (.iaload, 1) := by decide +kernel
theorem dX10_heatOf_16 : decode cX10_heatOf 16 = .ok (.iload_n 1, 1) := by decide +kernel
theorem dX10_heatOf_17 : decode cX10_heatOf 17 = .ok (.isub, 1) := by decide +kernel
theorem dX10_heatOf_18 : decode cX10_heatOf 18 = .ok (.goto 4, 3) := by decide +kernel
theorem dX10_heatOf_21 : decode cX10_heatOf 21 = .ok (.iconst 0, 1) := by decide +kernel
theorem dX10_heatOf_22 : decode cX10_heatOf 22 = .ok (.ireturn, 1) := by decide +kernel
theorem dX10_isBurnt_0 : decode cX10_isBurnt 0 = .ok (.aload_n 0, 1) := by decide +kernel
theorem dX10_isBurnt_1 : decode cX10_isBurnt 1 = .ok (.iload_n 1, 1) := by decide +kernel
theorem dX10_isBurnt_2 : decode cX10_isBurnt 2 = .ok (.bipush 9, 2) := by decide +kernel
theorem dX10_isBurnt_4 : decode cX10_isBurnt 4 = .ok (.invokevirtual 69, 3) := by decide +kernel
theorem dX10_isBurnt_7 : decode cX10_isBurnt 7 = .ok (.bipush 9, 2) := by decide +kernel
theorem dX10_isBurnt_9 : decode cX10_isBurnt 9 = .ok (.if_icmp .eq 15, 3) := by decide +kernel
theorem dX10_isBurnt_12 : decode cX10_isBurnt 12 = .ok (.aload_n 0, 1) := by decide +kernel
theorem dX10_isBurnt_13 : decode cX10_isBurnt 13 = .ok (.iload_n 1, 1) := by decide +kernel
theorem dX10_isBurnt_14 : decode cX10_isBurnt 14 = .ok (.bipush 10, 2) := by decide +kernel
theorem dX10_isBurnt_16 : decode cX10_isBurnt 16 = .ok (.invokevirtual 69, 3) := by decide +kernel
theorem dX10_isBurnt_19 : decode cX10_isBurnt 19 = .ok (.bipush 9, 2) := by decide +kernel
theorem dX10_isBurnt_21 : decode cX10_isBurnt 21 = .ok (.if_icmp .ne 7, 3) := by decide +kernel
theorem dX10_isBurnt_24 : decode cX10_isBurnt 24 = .ok (.iconst 1, 1) := by decide +kernel
theorem dX10_isBurnt_25 : decode cX10_isBurnt 25 = .ok (.goto 4, 3) := by decide +kernel
theorem dX10_isBurnt_28 : decode cX10_isBurnt 28 = .ok (.iconst 0, 1) := by decide +kernel
theorem dX10_isBurnt_29 : decode cX10_isBurnt 29 = .ok (.ireturn, 1) := by decide +kernel
theorem dX10_lacks_0 : decode cX10_lacks 0 = .ok (.iconst 5, 1) := by decide +kernel
theorem dX10_lacks_1 : decode cX10_lacks 1 = .ok (.aload_n 0, 1) := by decide +kernel
theorem dX10_lacks_2 : decode cX10_lacks 2 = .ok (.iload_n 1, 1) := by decide +kernel
theorem dX10_lacks_3 : decode cX10_lacks 3 = .ok (.iconst 0, 1) := by decide +kernel
theorem dX10_lacks_4 : decode cX10_lacks 4 = .ok (.invokevirtual 69, 3) := by decide +kernel
theorem dX10_lacks_7 : decode cX10_lacks 7 = .ok (.iadd, 1) := by decide +kernel
theorem dX10_lacks_8 : decode cX10_lacks 8 = .ok (.istore_n 2, 1) := by decide +kernel
theorem dX10_lacks_9 : decode cX10_lacks 9 = .ok (.iconst 0, 1) := by decide +kernel
theorem dX10_lacks_10 : decode cX10_lacks 10 = .ok (.istore_n 3, 1) := by decide +kernel
theorem dX10_lacks_11 : decode cX10_lacks 11 = .ok (.iconst 0, 1) := by decide +kernel
theorem dX10_lacks_12 : decode cX10_lacks 12 = .ok (.istore 4, 2) := by decide +kernel
theorem dX10_lacks_14 : decode cX10_lacks 14 = .ok (.iload 4, 2) := by decide +kernel
theorem dX10_lacks_16 : decode cX10_lacks 16 = .ok (.iconst 2, 1) := by decide +kernel
theorem dX10_lacks_17 : decode cX10_lacks 17 = .ok (.if_icmp .ge 42, 3) := by decide +kernel
theorem dX10_lacks_20 : decode cX10_lacks 20 = .ok (.iload_n 3, 1) := by decide +kernel
theorem dX10_lacks_21 : decode cX10_lacks 21 = .ok (.iload_n 2, 1) := by decide +kernel
theorem dX10_lacks_22 : decode cX10_lacks 22 = .ok (.aload_n 0, 1) := by decide +kernel
theorem dX10_lacks_23 : decode cX10_lacks 23 = .ok (.iload_n 1, 1) := by decide +kernel
theorem dX10_lacks_24 : decode cX10_lacks 24 = .ok (.bipush 7, 2) := by decide +kernel
theorem dX10_lacks_26 : decode cX10_lacks 26 = .ok (.iload 4, 2) := by decide +kernel
theorem dX10_lacks_28 : decode cX10_lacks 28 = .ok (.iadd, 1) := by decide +kernel
theorem dX10_lacks_29 : decode cX10_lacks 29 = .ok (.invokevirtual 69, 3) := by decide +kernel
theorem dX10_lacks_32 : decode cX10_lacks 32 = .ok (.if_icmp .le 18, 3) := by decide +kernel
theorem dX10_lacks_35 : decode cX10_lacks 35 = .ok (.iload_n 2, 1) := by decide +kernel
theorem dX10_lacks_36 : decode cX10_lacks 36 = .ok (.aload_n 0, 1) := by decide +kernel
theorem dX10_lacks_37 : decode cX10_lacks 37 = .ok (.iload_n 1, 1) := by decide +kernel
theorem dX10_lacks_38 : decode cX10_lacks 38 = .ok (.bipush 7, 2) := by decide +kernel
theorem dX10_lacks_40 : decode cX10_lacks 40 = .ok (.iload 4, 2) := by decide +kernel
theorem dX10_lacks_42 : decode cX10_lacks 42 = .ok (.iadd, 1) := by decide +kernel
theorem dX10_lacks_43 : decode cX10_lacks 43 = .ok (.invokevirtual 69, 3) := by decide +kernel
theorem dX10_lacks_46 : decode cX10_lacks 46 = .ok (.isub, 1) := by decide +kernel
theorem dX10_lacks_47 : decode cX10_lacks 47 = .ok (.goto 4, 3) := by decide +kernel
theorem dX10_lacks_50 : decode cX10_lacks 50 = .ok (.iconst 0, 1) := by decide +kernel
theorem dX10_lacks_51 : decode cX10_lacks 51 = .ok (.iadd, 1) := by decide +kernel
theorem dX10_lacks_52 : decode cX10_lacks 52 = .ok (.istore_n 3, 1) := by decide +kernel
theorem dX10_lacks_53 : decode cX10_lacks 53 = .ok (.iinc 4 1, 3) := by decide +kernel
theorem dX10_lacks_56 : decode cX10_lacks 56 = .ok (.goto (-42), 3) := by decide +kernel
theorem dX10_lacks_59 : decode cX10_lacks 59 = .ok (.iload_n 3, 1) := by decide +kernel
theorem dX10_lacks_60 : decode cX10_lacks 60 = .ok (.ireturn, 1) := by decide +kernel
theorem dX10_isReady_0 : decode cX10_isReady 0 = .ok (.aload_n 0, 1) := by decide +kernel
theorem dX10_isReady_1 : decode cX10_isReady 1 = .ok (.iload_n 1, 1) := by decide +kernel
theorem dX10_isReady_2 : decode cX10_isReady 2 = .ok (.invokevirtual 91, 3) := by decide +kernel
theorem dX10_isReady_5 : decode cX10_isReady 5 = .ok (.ifCond .ne 15, 3) := by decide +kernel
theorem dX10_isReady_8 : decode cX10_isReady 8 = .ok (.aload_n 0, 1) := by decide +kernel
theorem dX10_isReady_9 : decode cX10_isReady 9 = .ok (.iload_n 1, 1) := by decide +kernel
theorem dX10_isReady_10 : decode cX10_isReady 10 = .ok (.invokevirtual 94, 3) := by decide +kernel
theorem dX10_isReady_13 : decode cX10_isReady 13 = .ok (.ifCond .ne 7, 3) := by decide +kernel
theorem dX10_isReady_16 : decode cX10_isReady 16 = .ok (.iconst 1, 1) := by decide +kernel
theorem dX10_isReady_17 : decode cX10_isReady 17 = .ok (.goto 4, 3) := by decide +kernel
theorem dX10_isReady_20 : decode cX10_isReady 20 = .ok (.iconst 0, 1) := by decide +kernel
theorem dX10_isReady_21 : decode cX10_isReady 21 = .ok (.ireturn, 1) := by decide +kernel
theorem dX10_price_0 : decode cX10_price 0 = .ok (.iconst 3, 1) := by decide +kernel
theorem dX10_price_1 : decode cX10_price 1 = .ok (.aload_n 0, 1) := by decide +kernel
theorem dX10_price_2 : decode cX10_price 2 = .ok (.iload_n 1, 1) := by decide +kernel
theorem dX10_price_3 : decode cX10_price 3 = .ok (.iconst 0, 1) := by decide +kernel
theorem dX10_price_4 : decode cX10_price 4 = .ok (.invokevirtual 69, 3) := by decide +kernel
theorem dX10_price_7 : decode cX10_price 7 = .ok (.imul, 1) := by decide +kernel
theorem dX10_price_8 : decode cX10_price 8 = .ok (.aload_n 0, 1) := by decide +kernel
theorem dX10_price_9 : decode cX10_price 9 = .ok (.iload_n 1, 1) := by decide +kernel
theorem dX10_price_10 : decode cX10_price 10 = .ok (.iconst 1, 1) := by decide +kernel
theorem dX10_price_11 : decode cX10_price 11 = .ok (.invokevirtual 69, 3) := by decide +kernel
theorem dX10_price_14 : decode cX10_price 14 = .ok (.bipush 6, 2) := by decide +kernel
theorem dX10_price_16 : decode cX10_price 16 = .ok (.if_icmp .le 7, 3) := by decide +kernel
theorem dX10_price_19 : decode cX10_price 19 = .ok (.iconst 0, 1) := by decide +kernel
theorem dX10_price_20 : decode cX10_price 20 = .ok (.goto 9, 3) := by decide +kernel
theorem dX10_price_23 : decode cX10_price 23 = .ok (.aload_n 0, 1) := by decide +kernel
theorem dX10_price_24 : decode cX10_price 24 = .ok (.iload_n 1, 1) := by decide +kernel
theorem dX10_price_25 : decode cX10_price 25 = .ok (.iconst 1, 1) := by decide +kernel
theorem dX10_price_26 : decode cX10_price 26 = .ok (.invokevirtual 69, 3) := by decide +kernel
theorem dX10_price_29 : decode cX10_price 29 = .ok (.iadd, 1) := by decide +kernel
theorem dX10_price_30 : decode cX10_price 30 = .ok (.ireturn, 1) := by decide +kernel
theorem dX10_burnt_0 : decode cX10_burnt 0 = .ok (.iconst 0, 1) := by decide +kernel
theorem dX10_burnt_1 : decode cX10_burnt 1 = .ok (.istore_n 1, 1) := by decide +kernel
theorem dX10_burnt_2 : decode cX10_burnt 2 = .ok (.iconst 0, 1) := by decide +kernel
theorem dX10_burnt_3 : decode cX10_burnt 3 = .ok (.istore_n 2, 1) := by decide +kernel
theorem dX10_burnt_4 : decode cX10_burnt 4 = .ok (.iload_n 2, 1) := by decide +kernel
theorem dX10_burnt_5 : decode cX10_burnt 5 = .ok (.aload_n 0, 1) := by decide +kernel
theorem dX10_burnt_6 : decode cX10_burnt 6 = .ok (.getfield 7, 3) := by decide +kernel
theorem dX10_burnt_9 : decode cX10_burnt 9 = .ok (.iconst 0, 1) := by decide +kernel
theorem dX10_burnt_10 : decode cX10_burnt 10 = .ok (.iaload, 1) := by decide +kernel
theorem dX10_burnt_11 : decode cX10_burnt 11 = .ok (.if_icmp .ge 25, 3) := by decide +kernel
theorem dX10_burnt_14 : decode cX10_burnt 14 = .ok (.iload_n 1, 1) := by decide +kernel
theorem dX10_burnt_15 : decode cX10_burnt 15 = .ok (.aload_n 0, 1) := by decide +kernel
theorem dX10_burnt_16 : decode cX10_burnt 16 = .ok (.iload_n 2, 1) := by decide +kernel
theorem dX10_burnt_17 : decode cX10_burnt 17 = .ok (.invokevirtual 91, 3) := by decide +kernel
theorem dX10_burnt_20 : decode cX10_burnt 20 = .ok (.ifCond .eq 7, 3) := by decide +kernel
theorem dX10_burnt_23 : decode cX10_burnt 23 = .ok (.iconst 1, 1) := by decide +kernel
theorem dX10_burnt_24 : decode cX10_burnt 24 = .ok (.goto 4, 3) := by decide +kernel
theorem dX10_burnt_27 : decode cX10_burnt 27 = .ok (.iconst 0, 1) := by decide +kernel
theorem dX10_burnt_28 : decode cX10_burnt 28 = .ok (.iadd, 1) := by decide +kernel
theorem dX10_burnt_29 : decode cX10_burnt 29 = .ok (.istore_n 1, 1) := by decide +kernel
theorem dX10_burnt_30 : decode cX10_burnt 30 = .ok (.iinc 2 1, 3) := by decide +kernel
theorem dX10_burnt_33 : decode cX10_burnt 33 = .ok (.goto (-29), 3) := by decide +kernel
theorem dX10_burnt_36 : decode cX10_burnt 36 = .ok (.iload_n 1, 1) := by decide +kernel
theorem dX10_burnt_37 : decode cX10_burnt 37 = .ok (.ireturn, 1) := by decide +kernel
theorem dX10_smokes_0 : decode cX10_smokes 0 = .ok (.aload_n 0, 1) := by decide +kernel
theorem dX10_smokes_1 : decode cX10_smokes 1 = .ok (.iload_n 1, 1) := by decide +kernel
theorem dX10_smokes_2 : decode cX10_smokes 2 = .ok (.iconst 5, 1) := by decide +kernel
theorem dX10_smokes_3 : decode cX10_smokes 3 = .ok (.invokevirtual 69, 3) := by decide +kernel
theorem dX10_smokes_6 : decode cX10_smokes 6 = .ok (.istore_n 2, 1) := by decide +kernel
theorem dX10_smokes_7 : decode cX10_smokes 7 = .ok (.aload_n 0, 1) := by decide +kernel
theorem dX10_smokes_8 : decode cX10_smokes 8 = .ok (.aload_n 0, 1) := by decide +kernel
theorem dX10_smokes_9 : decode cX10_smokes 9 = .ok (.iload_n 1, 1) := by decide +kernel
theorem dX10_smokes_10 : decode cX10_smokes 10 = .ok (.iconst 3, 1) := by decide +kernel
theorem dX10_smokes_11 : decode cX10_smokes 11 = .ok (.invokevirtual 69, 3) := by decide +kernel
theorem dX10_smokes_14 : decode cX10_smokes 14 = .ok (.invokevirtual 97, 3) := by decide +kernel
theorem dX10_smokes_17 : decode cX10_smokes 17 = .ok (.istore_n 3, 1) := by decide +kernel
theorem dX10_smokes_18 : decode cX10_smokes 18 = .ok (.iload_n 3, 1) := by decide +kernel
theorem dX10_smokes_19 : decode cX10_smokes 19 = .ok (.aload_n 0, 1) := by decide +kernel
theorem dX10_smokes_20 : decode cX10_smokes 20 = .ok (.getfield 7, 3) := by decide +kernel
theorem dX10_smokes_23 : decode cX10_smokes 23 = .ok (.iconst 2, 1) := by decide +kernel
theorem dX10_smokes_24 : decode cX10_smokes 24 = .ok (.iaload, 1) := by decide +kernel
theorem dX10_smokes_25 : decode cX10_smokes 25 = .ok (.iadd, 1) := by decide +kernel
theorem dX10_smokes_26 : decode cX10_smokes 26 = .ok (.istore 4, 2) := by decide +kernel
theorem dX10_smokes_28 : decode cX10_smokes 28 = .ok (.aload_n 0, 1) := by decide +kernel
theorem dX10_smokes_29 : decode cX10_smokes 29 = .ok (.iload_n 1, 1) := by decide +kernel
theorem dX10_smokes_30 : decode cX10_smokes 30 = .ok (.bipush 7, 2) := by decide +kernel
theorem dX10_smokes_32 : decode cX10_smokes 32 = .ok (.iload_n 2, 1) := by decide +kernel
theorem dX10_smokes_33 : decode cX10_smokes 33 = .ok (.iadd, 1) := by decide +kernel
theorem dX10_smokes_34 : decode cX10_smokes 34 = .ok (.aload_n 0, 1) := by decide +kernel
theorem dX10_smokes_35 : decode cX10_smokes 35 = .ok (.iload_n 1, 1) := by decide +kernel
theorem dX10_smokes_36 : decode cX10_smokes 36 = .ok (.bipush 7, 2) := by decide +kernel
theorem dX10_smokes_38 : decode cX10_smokes 38 = .ok (.iload_n 2, 1) := by decide +kernel
theorem dX10_smokes_39 : decode cX10_smokes 39 = .ok (.iadd, 1) := by decide +kernel
theorem dX10_smokes_40 : decode cX10_smokes 40 = .ok (.invokevirtual 69, 3) := by decide +kernel
theorem dX10_smokes_43 : decode cX10_smokes 43 = .ok (.aload_n 0, 1) := by decide +kernel
theorem dX10_smokes_44 : decode cX10_smokes 44 = .ok (.iload_n 1, 1) := by decide +kernel
theorem dX10_smokes_45 : decode cX10_smokes 45 = .ok (.invokevirtual 100, 3) := by decide +kernel
theorem dX10_smokes_48 : decode cX10_smokes 48 = .ok (.ifCond .eq 10, 3) := by decide +kernel
theorem dX10_smokes_51 : decode cX10_smokes 51 = .ok (.iload 4, 2) := by decide +kernel
theorem dX10_smokes_53 : decode cX10_smokes 53 = .ok (.iconst 2, 1) := by decide +kernel
theorem dX10_smokes_54 : decode cX10_smokes 54 = .ok (.idiv, 1) := by decide +kernel
theorem dX10_smokes_55 : decode cX10_smokes 55 = .ok (.goto 5, 3) := by decide +kernel
theorem dX10_smokes_58 : decode cX10_smokes 58 = .ok (.iload 4, 2) := by decide +kernel
theorem dX10_smokes_60 : decode cX10_smokes 60 = .ok (.iadd, 1) := by decide +kernel
theorem dX10_smokes_61 : decode cX10_smokes 61 = .ok (.bipush 40, 2) := by decide +kernel
theorem dX10_smokes_63 : decode cX10_smokes 63 = .ok (.invokestatic 80, 3) := by decide +kernel
theorem dX10_smokes_66 : decode cX10_smokes 66 = .ok (.invokevirtual 103, 3) := by decide +kernel
theorem dX10_smokes_69 : decode cX10_smokes 69 = .ok (.iload_n 3, 1) := by decide +kernel
theorem dX10_smokes_70 : decode cX10_smokes 70 = .ok (.aload_n 0, 1) := by decide +kernel
theorem dX10_smokes_71 : decode cX10_smokes 71 = .ok (.iload_n 1, 1) := by decide +kernel
theorem dX10_smokes_72 : decode cX10_smokes 72 = .ok (.invokevirtual 107, 3) := by decide +kernel
theorem dX10_smokes_75 : decode cX10_smokes 75 = .ok (.if_icmp .le 44, 3) := by decide +kernel
theorem dX10_smokes_78 : decode cX10_smokes 78 = .ok (.aload_n 0, 1) := by decide +kernel
theorem dX10_smokes_79 : decode cX10_smokes 79 = .ok (.iload_n 1, 1) := by decide +kernel
theorem dX10_smokes_80 : decode cX10_smokes 80 = .ok (.bipush 6, 2) := by decide +kernel
theorem dX10_smokes_82 : decode cX10_smokes 82 = .ok (.invokevirtual 69, 3) := by decide +kernel
theorem dX10_smokes_85 : decode cX10_smokes 85 = .ok (.ifCond .ne 34, 3) := by decide +kernel
theorem dX10_smokes_88 : decode cX10_smokes 88 = .ok (.aload_n 0, 1) := by decide +kernel
theorem dX10_smokes_89 : decode cX10_smokes 89 = .ok (.iload_n 1, 1) := by decide +kernel
theorem dX10_smokes_90 : decode cX10_smokes 90 = .ok (.bipush 9, 2) := by decide +kernel
theorem dX10_smokes_92 : decode cX10_smokes 92 = .ok (.iload_n 2, 1) := by decide +kernel
theorem dX10_smokes_93 : decode cX10_smokes 93 = .ok (.iadd, 1) := by decide +kernel
theorem dX10_smokes_94 : decode cX10_smokes 94 = .ok (.aload_n 0, 1) := by decide +kernel
theorem dX10_smokes_95 : decode cX10_smokes 95 = .ok (.iload_n 1, 1) := by decide +kernel
theorem dX10_smokes_96 : decode cX10_smokes 96 = .ok (.bipush 9, 2) := by decide +kernel
theorem dX10_smokes_98 : decode cX10_smokes 98 = .ok (.iload_n 2, 1) := by decide +kernel
theorem dX10_smokes_99 : decode cX10_smokes 99 = .ok (.iadd, 1) := by decide +kernel
theorem dX10_smokes_100 : decode cX10_smokes 100 = .ok (.invokevirtual 69, 3) := by decide +kernel
theorem dX10_smokes_103 : decode cX10_smokes 103 = .ok (.iload_n 3, 1) := by decide +kernel
theorem dX10_smokes_104 : decode cX10_smokes 104 = .ok (.iadd, 1) := by decide +kernel
theorem dX10_smokes_105 : decode cX10_smokes 105 = .ok (.aload_n 0, 1) := by decide +kernel
theorem dX10_smokes_106 : decode cX10_smokes 106 = .ok (.iload_n 1, 1) := by decide +kernel
theorem dX10_smokes_107 : decode cX10_smokes 107 = .ok (.invokevirtual 107, 3) := by decide +kernel
theorem dX10_smokes_110 : decode cX10_smokes 110 = .ok (.isub, 1) := by decide +kernel
theorem dX10_smokes_111 : decode cX10_smokes 111 = .ok (.bipush 9, 2) := by decide +kernel
theorem dX10_smokes_113 : decode cX10_smokes 113 = .ok (.invokestatic 80, 3) := by decide +kernel
theorem dX10_smokes_116 : decode cX10_smokes 116 = .ok (.invokevirtual 103, 3) := by decide +kernel
theorem dX10_smokes_119 : decode cX10_smokes 119 = .ok (.return_, 1) := by decide +kernel
theorem dX10_hour_0 : decode cX10_hour 0 = .ok (.iconst 0, 1) := by decide +kernel
theorem dX10_hour_1 : decode cX10_hour 1 = .ok (.istore_n 1, 1) := by decide +kernel
theorem dX10_hour_2 : decode cX10_hour 2 = .ok (.iload_n 1, 1) := by decide +kernel
theorem dX10_hour_3 : decode cX10_hour 3 = .ok (.aload_n 0, 1) := by decide +kernel
theorem dX10_hour_4 : decode cX10_hour 4 = .ok (.getfield 7, 3) := by decide +kernel
theorem dX10_hour_7 : decode cX10_hour 7 = .ok (.iconst 0, 1) := by decide +kernel
theorem dX10_hour_8 : decode cX10_hour 8 = .ok (.iaload, 1) := by decide +kernel
theorem dX10_hour_9 : decode cX10_hour 9 = .ok (.if_icmp .ge 39, 3) := by decide +kernel
theorem dX10_hour_12 : decode cX10_hour 12 = .ok (.aload_n 0, 1) := by decide +kernel
theorem dX10_hour_13 : decode cX10_hour 13 = .ok (.iload_n 1, 1) := by decide +kernel
theorem dX10_hour_14 : decode cX10_hour 14 = .ok (.invokevirtual 73, 3) := by decide +kernel
theorem dX10_hour_17 : decode cX10_hour 17 = .ok (.ifCond .eq 17, 3) := by decide +kernel
theorem dX10_hour_20 : decode cX10_hour 20 = .ok (.aload_n 0, 1) := by decide +kernel
theorem dX10_hour_21 : decode cX10_hour 21 = .ok (.getfield 7, 3) := by decide +kernel
theorem dX10_hour_24 : decode cX10_hour 24 = .ok (.iconst 1, 1) := by decide +kernel
theorem dX10_hour_25 : decode cX10_hour 25 = .ok (.iaload, 1) := by decide +kernel
theorem dX10_hour_26 : decode cX10_hour 26 = .ok (.ifCond .le 8, 3) := by decide +kernel
theorem dX10_hour_29 : decode cX10_hour 29 = .ok (.aload_n 0, 1) := by decide +kernel
theorem dX10_hour_30 : decode cX10_hour 30 = .ok (.iload_n 1, 1) := by decide +kernel
theorem dX10_hour_31 : decode cX10_hour 31 = .ok (.invokevirtual 110, 3) := by decide +kernel
theorem dX10_hour_34 : decode cX10_hour 34 = .ok (.aload_n 0, 1) := by decide +kernel
theorem dX10_hour_35 : decode cX10_hour 35 = .ok (.iload_n 1, 1) := by decide +kernel
theorem dX10_hour_36 : decode cX10_hour 36 = .ok (.bipush 6, 2) := by decide +kernel
theorem dX10_hour_38 : decode cX10_hour 38 = .ok (.iconst 0, 1) := by decide +kernel
theorem dX10_hour_39 : decode cX10_hour 39 = .ok (.invokevirtual 103, 3) := by decide +kernel
theorem dX10_hour_42 : decode cX10_hour 42 = .ok (.iinc 1 1, 3) := by decide +kernel
theorem dX10_hour_45 : decode cX10_hour 45 = .ok (.goto (-43), 3) := by decide +kernel
theorem dX10_hour_48 : decode cX10_hour 48 = .ok (.aload_n 0, 1) := by decide +kernel
theorem dX10_hour_49 : decode cX10_hour 49 = .ok (.getfield 7, 3) := by decide +kernel
theorem dX10_hour_52 : decode cX10_hour 52 = .ok (.iconst 1, 1) := by decide +kernel
theorem dX10_hour_53 : decode cX10_hour 53 = .ok (.iaload, 1) := by decide +kernel
theorem dX10_hour_54 : decode cX10_hour 54 = .ok (.ifCond .le 13, 3) := by decide +kernel
theorem dX10_hour_57 : decode cX10_hour 57 = .ok (.aload_n 0, 1) := by decide +kernel
theorem dX10_hour_58 : decode cX10_hour 58 = .ok (.getfield 7, 3) := by decide +kernel
theorem dX10_hour_61 : decode cX10_hour 61 = .ok (.iconst 1, 1) := by decide +kernel
theorem dX10_hour_62 : decode cX10_hour 62 = .ok (.dup2, 1) := by decide +kernel
theorem dX10_hour_63 : decode cX10_hour 63 = .ok (.iaload, 1) := by decide +kernel
theorem dX10_hour_64 : decode cX10_hour 64 = .ok (.iconst 1, 1) := by decide +kernel
theorem dX10_hour_65 : decode cX10_hour 65 = .ok (.isub, 1) := by decide +kernel
theorem dX10_hour_66 : decode cX10_hour 66 = .ok (.iastore, 1) := by decide +kernel
theorem dX10_hour_67 : decode cX10_hour 67 = .ok (.aload_n 0, 1) := by decide +kernel
theorem dX10_hour_68 : decode cX10_hour 68 = .ok (.getfield 7, 3) := by decide +kernel
theorem dX10_hour_71 : decode cX10_hour 71 = .ok (.iconst 3, 1) := by decide +kernel
theorem dX10_hour_72 : decode cX10_hour 72 = .ok (.dup2, 1) := by decide +kernel
theorem dX10_hour_73 : decode cX10_hour 73 = .ok (.iaload, 1) := by decide +kernel
theorem dX10_hour_74 : decode cX10_hour 74 = .ok (.iconst 1, 1) := by decide +kernel
theorem dX10_hour_75 : decode cX10_hour 75 = .ok (.iadd, 1) := by decide +kernel
theorem dX10_hour_76 : decode cX10_hour 76 = .ok (.iastore, 1) := by decide +kernel
theorem dX10_hour_77 : decode cX10_hour 77 = .ok (.return_, 1) := by decide +kernel
theorem dX10_turns_0 : decode cX10_turns 0 = .ok (.aload_n 0, 1) := by decide +kernel
theorem dX10_turns_1 : decode cX10_turns 1 = .ok (.iload_n 1, 1) := by decide +kernel
theorem dX10_turns_2 : decode cX10_turns 2 = .ok (.iconst 5, 1) := by decide +kernel
theorem dX10_turns_3 : decode cX10_turns 3 = .ok (.iconst 1, 1) := by decide +kernel
theorem dX10_turns_4 : decode cX10_turns 4 = .ok (.aload_n 0, 1) := by decide +kernel
theorem dX10_turns_5 : decode cX10_turns 5 = .ok (.iload_n 1, 1) := by decide +kernel
theorem dX10_turns_6 : decode cX10_turns 6 = .ok (.iconst 5, 1) := by decide +kernel
theorem dX10_turns_7 : decode cX10_turns 7 = .ok (.invokevirtual 69, 3) := by decide +kernel
theorem dX10_turns_10 : decode cX10_turns 10 = .ok (.isub, 1) := by decide +kernel
theorem dX10_turns_11 : decode cX10_turns 11 = .ok (.invokevirtual 103, 3) := by decide +kernel
theorem dX10_turns_14 : decode cX10_turns 14 = .ok (.aload_n 0, 1) := by decide +kernel
theorem dX10_turns_15 : decode cX10_turns 15 = .ok (.iload_n 1, 1) := by decide +kernel
theorem dX10_turns_16 : decode cX10_turns 16 = .ok (.bipush 6, 2) := by decide +kernel
theorem dX10_turns_18 : decode cX10_turns 18 = .ok (.iconst 1, 1) := by decide +kernel
theorem dX10_turns_19 : decode cX10_turns 19 = .ok (.invokevirtual 103, 3) := by decide +kernel
theorem dX10_turns_22 : decode cX10_turns 22 = .ok (.return_, 1) := by decide +kernel
theorem dX10_fish_0 : decode cX10_fish 0 = .ok (.iload_n 1, 1) := by decide +kernel
theorem dX10_fish_1 : decode cX10_fish 1 = .ok (.iconst 1, 1) := by decide +kernel
theorem dX10_fish_2 : decode cX10_fish 2 = .ok (.bipush 9, 2) := by decide +kernel
theorem dX10_fish_4 : decode cX10_fish 4 = .ok (.invokestatic 65, 3) := by decide +kernel
theorem dX10_fish_7 : decode cX10_fish 7 = .ok (.ifCond .ne 10, 3) := by decide +kernel
theorem dX10_fish_10 : decode cX10_fish 10 = .ok (.aload_n 0, 1) := by decide +kernel
theorem dX10_fish_11 : decode cX10_fish 11 = .ok (.iconst 1, 1) := by decide +kernel
theorem dX10_fish_12 : decode cX10_fish 12 = .ok (.iconst 0, 1) := by decide +kernel
theorem dX10_fish_13 : decode cX10_fish 13 = .ok (.invokevirtual 114, 3) := by decide +kernel
theorem dX10_fish_16 : decode cX10_fish 16 = .ok (.ireturn, 1) := by decide +kernel
theorem dX10_fish_17 : decode cX10_fish 17 = .ok (.aload_n 0, 1) := by decide +kernel
theorem dX10_fish_18 : decode cX10_fish 18 = .ok (.getfield 7, 3) := by decide +kernel
theorem dX10_fish_21 : decode cX10_fish 21 = .ok (.iconst 0, 1) := by decide +kernel
theorem dX10_fish_22 : decode cX10_fish 22 = .ok (.iaload, 1) := by decide +kernel
theorem dX10_fish_23 : decode cX10_fish 23 = .ok (.bipush 12, 2) := by decide +kernel
theorem dX10_fish_25 : decode cX10_fish 25 = .ok (.if_icmp .ne 11, 3) := by decide +kernel
theorem dX10_fish_28 : decode cX10_fish 28 = .ok (.aload_n 0, 1) := by decide +kernel
theorem dX10_fish_29 : decode cX10_fish 29 = .ok (.iconst 2, 1) := by decide +kernel
theorem dX10_fish_30 : decode cX10_fish 30 = .ok (.bipush 12, 2) := by decide +kernel
theorem dX10_fish_32 : decode cX10_fish 32 = .ok (.invokevirtual 114, 3) := by decide +kernel
theorem dX10_fish_35 : decode cX10_fish 35 = .ok (.ireturn, 1) := by decide +kernel
theorem dX10_fish_36 : decode cX10_fish 36 = .ok (.aload_n 0, 1) := by decide +kernel
theorem dX10_fish_37 : decode cX10_fish 37 = .ok (.aload_n 0, 1) := by decide +kernel
theorem dX10_fish_38 : decode cX10_fish 38 = .ok (.getfield 7, 3) := by decide +kernel
theorem dX10_fish_41 : decode cX10_fish 41 = .ok (.invokevirtual 117, 3) := by decide +kernel
theorem dX10_fish_44 : decode cX10_fish 44 = .ok (.aload_n 0, 1) := by decide +kernel
theorem dX10_fish_45 : decode cX10_fish 45 = .ok (.getfield 7, 3) := by decide +kernel
theorem dX10_fish_48 : decode cX10_fish 48 = .ok (.iconst 0, 1) := by decide +kernel
theorem dX10_fish_49 : decode cX10_fish 49 = .ok (.iaload, 1) := by decide +kernel
theorem dX10_fish_50 : decode cX10_fish 50 = .ok (.istore_n 2, 1) := by decide +kernel
theorem dX10_fish_51 : decode cX10_fish 51 = .ok (.aload_n 0, 1) := by decide +kernel
theorem dX10_fish_52 : decode cX10_fish 52 = .ok (.getfield 7, 3) := by decide +kernel
theorem dX10_fish_55 : decode cX10_fish 55 = .ok (.iconst 0, 1) := by decide +kernel
theorem dX10_fish_56 : decode cX10_fish 56 = .ok (.dup2, 1) := by decide +kernel
theorem dX10_fish_57 : decode cX10_fish 57 = .ok (.iaload, 1) := by decide +kernel
theorem dX10_fish_58 : decode cX10_fish 58 = .ok (.iconst 1, 1) := by decide +kernel
theorem dX10_fish_59 : decode cX10_fish 59 = .ok (.iadd, 1) := by decide +kernel
theorem dX10_fish_60 : decode cX10_fish 60 = .ok (.iastore, 1) := by decide +kernel
theorem dX10_fish_61 : decode cX10_fish 61 = .ok (.iconst 0, 1) := by decide +kernel
theorem dX10_fish_62 : decode cX10_fish 62 = .ok (.istore_n 3, 1) := by decide +kernel
theorem dX10_fish_63 : decode cX10_fish 63 = .ok (.iload_n 3, 1) := by decide +kernel
theorem dX10_fish_64 : decode cX10_fish 64 = .ok (.bipush 11, 2) := by decide +kernel
theorem dX10_fish_66 : decode cX10_fish 66 = .ok (.if_icmp .ge 16, 3) := by decide +kernel
theorem dX10_fish_69 : decode cX10_fish 69 = .ok (.aload_n 0, 1) := by decide +kernel
theorem dX10_fish_70 : decode cX10_fish 70 = .ok (.iload_n 2, 1) := by decide +kernel
theorem dX10_fish_71 : decode cX10_fish 71 = .ok (.iload_n 3, 1) := by decide +kernel
theorem dX10_fish_72 : decode cX10_fish 72 = .ok (.iconst 0, 1) := by decide +kernel
theorem dX10_fish_73 : decode cX10_fish 73 = .ok (.invokevirtual 103, 3) := by decide +kernel
theorem dX10_fish_76 : decode cX10_fish 76 = .ok (.iinc 3 1, 3) := by decide +kernel
theorem dX10_fish_79 : decode cX10_fish 79 = .ok (.goto (-16), 3) := by decide +kernel
theorem dX10_fish_82 : decode cX10_fish 82 = .ok (.aload_n 0, 1) := by decide +kernel
theorem dX10_fish_83 : decode cX10_fish 83 = .ok (.iload_n 2, 1) := by decide +kernel
theorem dX10_fish_84 : decode cX10_fish 84 = .ok (.iconst 0, 1) := by decide +kernel
theorem dX10_fish_85 : decode cX10_fish 85 = .ok (.iload_n 1, 1) := by decide +kernel
theorem dX10_fish_86 : decode cX10_fish 86 = .ok (.invokevirtual 103, 3) := by decide +kernel
theorem dX10_fish_89 : decode cX10_fish 89 = .ok (.aload_n 0, 1) := by decide +kernel
theorem dX10_fish_90 : decode cX10_fish 90 = .ok (.iload_n 2, 1) := by decide +kernel
theorem dX10_fish_91 : decode cX10_fish 91 = .ok (.iconst 3, 1) := by decide +kernel
theorem dX10_fish_92 : decode cX10_fish 92 = .ok (.iconst (-1), 1) := by decide +kernel
theorem dX10_fish_93 : decode cX10_fish 93 = .ok (.invokevirtual 103, 3) := by decide +kernel
theorem dX10_fish_96 : decode cX10_fish 96 = .ok (.aload_n 0, 1) := by decide +kernel
theorem dX10_fish_97 : decode cX10_fish 97 = .ok (.iload_n 2, 1) := by decide +kernel
theorem dX10_fish_98 : decode cX10_fish 98 = .ok (.iconst 4, 1) := by decide +kernel
theorem dX10_fish_99 : decode cX10_fish 99 = .ok (.iconst (-1), 1) := by decide +kernel
theorem dX10_fish_100 : decode cX10_fish 100 = .ok (.invokevirtual 103, 3) := by decide +kernel
theorem dX10_fish_103 : decode cX10_fish 103 = .ok (.iload_n 2, 1) := by decide +kernel
theorem dX10_fish_104 : decode cX10_fish 104 = .ok (.ireturn, 1) := by decide +kernel
theorem dX10_brine_0 : decode cX10_brine 0 = .ok (.aload_n 0, 1) := by decide +kernel
theorem dX10_brine_1 : decode cX10_brine 1 = .ok (.iload_n 1, 1) := by decide +kernel
theorem dX10_brine_2 : decode cX10_brine 2 = .ok (.invokevirtual 121, 3) := by decide +kernel
theorem dX10_brine_5 : decode cX10_brine 5 = .ok (.ifCond .ne 15, 3) := by decide +kernel
theorem dX10_brine_8 : decode cX10_brine 8 = .ok (.aload_n 0, 1) := by decide +kernel
theorem dX10_brine_9 : decode cX10_brine 9 = .ok (.iconst 3, 1) := by decide +kernel
theorem dX10_brine_10 : decode cX10_brine 10 = .ok (.aload_n 0, 1) := by decide +kernel
theorem dX10_brine_11 : decode cX10_brine 11 = .ok (.getfield 7, 3) := by decide +kernel
theorem dX10_brine_14 : decode cX10_brine 14 = .ok (.iconst 0, 1) := by decide +kernel
theorem dX10_brine_15 : decode cX10_brine 15 = .ok (.iaload, 1) := by decide +kernel
theorem dX10_brine_16 : decode cX10_brine 16 = .ok (.invokevirtual 114, 3) := by decide +kernel
theorem dX10_brine_19 : decode cX10_brine 19 = .ok (.ireturn, 1) := by decide +kernel
theorem dX10_brine_20 : decode cX10_brine 20 = .ok (.aload_n 0, 1) := by decide +kernel
theorem dX10_brine_21 : decode cX10_brine 21 = .ok (.iload_n 1, 1) := by decide +kernel
theorem dX10_brine_22 : decode cX10_brine 22 = .ok (.iconst 2, 1) := by decide +kernel
theorem dX10_brine_23 : decode cX10_brine 23 = .ok (.invokevirtual 69, 3) := by decide +kernel
theorem dX10_brine_26 : decode cX10_brine 26 = .ok (.ifCond .le 15, 3) := by decide +kernel
theorem dX10_brine_29 : decode cX10_brine 29 = .ok (.aload_n 0, 1) := by decide +kernel
theorem dX10_brine_30 : decode cX10_brine 30 = .ok (.iconst 4, 1) := by decide +kernel
theorem dX10_brine_31 : decode cX10_brine 31 = .ok (.aload_n 0, 1) := by decide +kernel
theorem dX10_brine_32 : decode cX10_brine 32 = .ok (.iload_n 1, 1) := by decide +kernel
theorem dX10_brine_33 : decode cX10_brine 33 = .ok (.iconst 2, 1) := by decide +kernel
theorem dX10_brine_34 : decode cX10_brine 34 = .ok (.invokevirtual 69, 3) := by decide +kernel
theorem dX10_brine_37 : decode cX10_brine 37 = .ok (.invokevirtual 114, 3) := by decide +kernel
theorem dX10_brine_40 : decode cX10_brine 40 = .ok (.ireturn, 1) := by decide +kernel
theorem dX10_brine_41 : decode cX10_brine 41 = .ok (.aload_n 0, 1) := by decide +kernel
theorem dX10_brine_42 : decode cX10_brine 42 = .ok (.aload_n 0, 1) := by decide +kernel
theorem dX10_brine_43 : decode cX10_brine 43 = .ok (.getfield 7, 3) := by decide +kernel
theorem dX10_brine_46 : decode cX10_brine 46 = .ok (.invokevirtual 117, 3) := by decide +kernel
theorem dX10_brine_49 : decode cX10_brine 49 = .ok (.aload_n 0, 1) := by decide +kernel
theorem dX10_brine_50 : decode cX10_brine 50 = .ok (.iload_n 1, 1) := by decide +kernel
theorem dX10_brine_51 : decode cX10_brine 51 = .ok (.iconst 2, 1) := by decide +kernel
theorem dX10_brine_52 : decode cX10_brine 52 = .ok (.iconst 1, 1) := by decide +kernel
theorem dX10_brine_53 : decode cX10_brine 53 = .ok (.invokevirtual 103, 3) := by decide +kernel
theorem dX10_brine_56 : decode cX10_brine 56 = .ok (.aload_n 0, 1) := by decide +kernel
theorem dX10_brine_57 : decode cX10_brine 57 = .ok (.iconst 1, 1) := by decide +kernel
theorem dX10_brine_58 : decode cX10_brine 58 = .ok (.invokevirtual 124, 3) := by decide +kernel
theorem dX10_brine_61 : decode cX10_brine 61 = .ok (.ireturn, 1) := by decide +kernel
theorem dX10_out_0 : decode cX10_out 0 = .ok (.aload_n 0, 1) := by decide +kernel
theorem dX10_out_1 : decode cX10_out 1 = .ok (.iload_n 1, 1) := by decide +kernel
theorem dX10_out_2 : decode cX10_out 2 = .ok (.invokevirtual 121, 3) := by decide +kernel
theorem dX10_out_5 : decode cX10_out 5 = .ok (.ifCond .ne 15, 3) := by decide +kernel
theorem dX10_out_8 : decode cX10_out 8 = .ok (.aload_n 0, 1) := by decide +kernel
theorem dX10_out_9 : decode cX10_out 9 = .ok (.iconst 3, 1) := by decide +kernel
theorem dX10_out_10 : decode cX10_out 10 = .ok (.aload_n 0, 1) := by decide +kernel
theorem dX10_out_11 : decode cX10_out 11 = .ok (.getfield 7, 3) := by decide +kernel
theorem dX10_out_14 : decode cX10_out 14 = .ok (.iconst 0, 1) := by decide +kernel
theorem dX10_out_15 : decode cX10_out 15 = .ok (.iaload, 1) := by decide +kernel
theorem dX10_out_16 : decode cX10_out 16 = .ok (.invokevirtual 114, 3) := by decide +kernel
theorem dX10_out_19 : decode cX10_out 19 = .ok (.ireturn, 1) := by decide +kernel
theorem dX10_out_20 : decode cX10_out 20 = .ok (.aload_n 0, 1) := by decide +kernel
theorem dX10_out_21 : decode cX10_out 21 = .ok (.iload_n 1, 1) := by decide +kernel
theorem dX10_out_22 : decode cX10_out 22 = .ok (.iconst 2, 1) := by decide +kernel
theorem dX10_out_23 : decode cX10_out 23 = .ok (.invokevirtual 69, 3) := by decide +kernel
theorem dX10_out_26 : decode cX10_out 26 = .ok (.ifCond .ne 10, 3) := by decide +kernel
theorem dX10_out_29 : decode cX10_out 29 = .ok (.aload_n 0, 1) := by decide +kernel
theorem dX10_out_30 : decode cX10_out 30 = .ok (.iconst 5, 1) := by decide +kernel
theorem dX10_out_31 : decode cX10_out 31 = .ok (.iload_n 1, 1) := by decide +kernel
theorem dX10_out_32 : decode cX10_out 32 = .ok (.invokevirtual 114, 3) := by decide +kernel
theorem dX10_out_35 : decode cX10_out 35 = .ok (.ireturn, 1) := by decide +kernel
theorem dX10_out_36 : decode cX10_out 36 = .ok (.aload_n 0, 1) := by decide +kernel
theorem dX10_out_37 : decode cX10_out 37 = .ok (.aload_n 0, 1) := by decide +kernel
theorem dX10_out_38 : decode cX10_out 38 = .ok (.getfield 7, 3) := by decide +kernel
theorem dX10_out_41 : decode cX10_out 41 = .ok (.invokevirtual 117, 3) := by decide +kernel
theorem dX10_out_44 : decode cX10_out 44 = .ok (.aload_n 0, 1) := by decide +kernel
theorem dX10_out_45 : decode cX10_out 45 = .ok (.iload_n 1, 1) := by decide +kernel
theorem dX10_out_46 : decode cX10_out 46 = .ok (.iconst 2, 1) := by decide +kernel
theorem dX10_out_47 : decode cX10_out 47 = .ok (.iconst 0, 1) := by decide +kernel
theorem dX10_out_48 : decode cX10_out 48 = .ok (.invokevirtual 103, 3) := by decide +kernel
theorem dX10_out_51 : decode cX10_out 51 = .ok (.aload_n 0, 1) := by decide +kernel
theorem dX10_out_52 : decode cX10_out 52 = .ok (.iload_n 1, 1) := by decide +kernel
theorem dX10_out_53 : decode cX10_out 53 = .ok (.iconst 3, 1) := by decide +kernel
theorem dX10_out_54 : decode cX10_out 54 = .ok (.iconst (-1), 1) := by decide +kernel
theorem dX10_out_55 : decode cX10_out 55 = .ok (.invokevirtual 103, 3) := by decide +kernel
theorem dX10_out_58 : decode cX10_out 58 = .ok (.aload_n 0, 1) := by decide +kernel
theorem dX10_out_59 : decode cX10_out 59 = .ok (.iload_n 1, 1) := by decide +kernel
theorem dX10_out_60 : decode cX10_out 60 = .ok (.iconst 4, 1) := by decide +kernel
theorem dX10_out_61 : decode cX10_out 61 = .ok (.iconst (-1), 1) := by decide +kernel
theorem dX10_out_62 : decode cX10_out 62 = .ok (.invokevirtual 103, 3) := by decide +kernel
theorem dX10_out_65 : decode cX10_out 65 = .ok (.aload_n 0, 1) := by decide +kernel
theorem dX10_out_66 : decode cX10_out 66 = .ok (.iload_n 1, 1) := by decide +kernel
theorem dX10_out_67 : decode cX10_out 67 = .ok (.bipush 6, 2) := by decide +kernel
theorem dX10_out_69 : decode cX10_out 69 = .ok (.iconst 0, 1) := by decide +kernel
theorem dX10_out_70 : decode cX10_out 70 = .ok (.invokevirtual 103, 3) := by decide +kernel
theorem dX10_out_73 : decode cX10_out 73 = .ok (.aload_n 0, 1) := by decide +kernel
theorem dX10_out_74 : decode cX10_out 74 = .ok (.iload_n 1, 1) := by decide +kernel
theorem dX10_out_75 : decode cX10_out 75 = .ok (.iconst 1, 1) := by decide +kernel
theorem dX10_out_76 : decode cX10_out 76 = .ok (.invokevirtual 69, 3) := by decide +kernel
theorem dX10_out_79 : decode cX10_out 79 = .ok (.ireturn, 1) := by decide +kernel
theorem dX10_isHook_0 : decode cX10_isHook 0 = .ok (.iload_n 0, 1) := by decide +kernel
theorem dX10_isHook_1 : decode cX10_isHook 1 = .ok (.iconst 0, 1) := by decide +kernel
theorem dX10_isHook_2 : decode cX10_isHook 2 = .ok (.iconst 3, 1) := by decide +kernel
theorem dX10_isHook_3 : decode cX10_isHook 3 = .ok (.invokestatic 65, 3) := by decide +kernel
theorem dX10_isHook_6 : decode cX10_isHook 6 = .ok (.ifCond .eq 17, 3) := by decide +kernel
theorem dX10_isHook_9 : decode cX10_isHook 9 = .ok (.iload_n 1, 1) := by decide +kernel
theorem dX10_isHook_10 : decode cX10_isHook 10 = .ok (.iconst 0, 1) := by decide +kernel
theorem dX10_isHook_11 : decode cX10_isHook 11 = .ok (.bipush 9, 2) := by decide +kernel
theorem dX10_isHook_13 : decode cX10_isHook 13 = .ok (.invokestatic 65, 3) := by decide +kernel
theorem dX10_isHook_16 : decode cX10_isHook 16 = .ok (.ifCond .eq 7, 3) := by decide +kernel
theorem dX10_isHook_19 : decode cX10_isHook 19 = .ok (.iconst 1, 1) := by decide +kernel
theorem dX10_isHook_20 : decode cX10_isHook 20 = .ok (.goto 4, 3) := by decide +kernel
theorem dX10_isHook_23 : decode cX10_isHook 23 = .ok (.iconst 0, 1) := by decide +kernel
theorem dX10_isHook_24 : decode cX10_isHook 24 = .ok (.ireturn, 1) := by decide +kernel
theorem dX10_hang_0 : decode cX10_hang 0 = .ok (.iload_n 2, 1) := by decide +kernel
theorem dX10_hang_1 : decode cX10_hang 1 = .ok (.iload_n 3, 1) := by decide +kernel
theorem dX10_hang_2 : decode cX10_hang 2 = .ok (.invokestatic 127, 3) := by decide +kernel
theorem dX10_hang_5 : decode cX10_hang 5 = .ok (.ifCond .ne 10, 3) := by decide +kernel
theorem dX10_hang_8 : decode cX10_hang 8 = .ok (.aload_n 0, 1) := by decide +kernel
theorem dX10_hang_9 : decode cX10_hang 9 = .ok (.iconst 1, 1) := by decide +kernel
theorem dX10_hang_10 : decode cX10_hang 10 = .ok (.iconst 0, 1) := by decide +kernel
theorem dX10_hang_11 : decode cX10_hang 11 = .ok (.invokevirtual 114, 3) := by decide +kernel
theorem dX10_hang_14 : decode cX10_hang 14 = .ok (.ireturn, 1) := by decide +kernel
theorem dX10_hang_15 : decode cX10_hang 15 = .ok (.aload_n 0, 1) := by decide +kernel
theorem dX10_hang_16 : decode cX10_hang 16 = .ok (.iload_n 1, 1) := by decide +kernel
theorem dX10_hang_17 : decode cX10_hang 17 = .ok (.invokevirtual 121, 3) := by decide +kernel
theorem dX10_hang_20 : decode cX10_hang 20 = .ok (.ifCond .ne 15, 3) := by decide +kernel
theorem dX10_hang_23 : decode cX10_hang 23 = .ok (.aload_n 0, 1) := by decide +kernel
theorem dX10_hang_24 : decode cX10_hang 24 = .ok (.iconst 3, 1) := by decide +kernel
theorem dX10_hang_25 : decode cX10_hang 25 = .ok (.aload_n 0, 1) := by decide +kernel
theorem dX10_hang_26 : decode cX10_hang 26 = .ok (.getfield 7, 3) := by decide +kernel
theorem dX10_hang_29 : decode cX10_hang 29 = .ok (.iconst 0, 1) := by decide +kernel
theorem dX10_hang_30 : decode cX10_hang 30 = .ok (.iaload, 1) := by decide +kernel
theorem dX10_hang_31 : decode cX10_hang 31 = .ok (.invokevirtual 114, 3) := by decide +kernel
theorem dX10_hang_34 : decode cX10_hang 34 = .ok (.ireturn, 1) := by decide +kernel
theorem dX10_hang_35 : decode cX10_hang 35 = .ok (.aload_n 0, 1) := by decide +kernel
theorem dX10_hang_36 : decode cX10_hang 36 = .ok (.iload_n 1, 1) := by decide +kernel
theorem dX10_hang_37 : decode cX10_hang 37 = .ok (.iconst 2, 1) := by decide +kernel
theorem dX10_hang_38 : decode cX10_hang 38 = .ok (.invokevirtual 69, 3) := by decide +kernel
theorem dX10_hang_41 : decode cX10_hang 41 = .ok (.ifCond .le 15, 3) := by decide +kernel
theorem dX10_hang_44 : decode cX10_hang 44 = .ok (.aload_n 0, 1) := by decide +kernel
theorem dX10_hang_45 : decode cX10_hang 45 = .ok (.iconst 4, 1) := by decide +kernel
theorem dX10_hang_46 : decode cX10_hang 46 = .ok (.aload_n 0, 1) := by decide +kernel
theorem dX10_hang_47 : decode cX10_hang 47 = .ok (.iload_n 1, 1) := by decide +kernel
theorem dX10_hang_48 : decode cX10_hang 48 = .ok (.iconst 2, 1) := by decide +kernel
theorem dX10_hang_49 : decode cX10_hang 49 = .ok (.invokevirtual 69, 3) := by decide +kernel
theorem dX10_hang_52 : decode cX10_hang 52 = .ok (.invokevirtual 114, 3) := by decide +kernel
theorem dX10_hang_55 : decode cX10_hang 55 = .ok (.ireturn, 1) := by decide +kernel
theorem dX10_hang_56 : decode cX10_hang 56 = .ok (.aload_n 0, 1) := by decide +kernel
theorem dX10_hang_57 : decode cX10_hang 57 = .ok (.iload_n 2, 1) := by decide +kernel
theorem dX10_hang_58 : decode cX10_hang 58 = .ok (.iload_n 3, 1) := by decide +kernel
theorem dX10_hang_59 : decode cX10_hang 59 = .ok (.invokevirtual 131, 3) := by decide +kernel
theorem dX10_hang_62 : decode cX10_hang 62 = .ok (.ifCond .lt 16, 3) := by decide +kernel
theorem dX10_hang_65 : decode cX10_hang 65 = .ok (.aload_n 0, 1) := by decide +kernel
theorem dX10_hang_66 : decode cX10_hang 66 = .ok (.bipush 6, 2) := by decide +kernel
theorem dX10_hang_68 : decode cX10_hang 68 = .ok (.aload_n 0, 1) := by decide +kernel
theorem dX10_hang_69 : decode cX10_hang 69 = .ok (.iload_n 2, 1) := by decide +kernel
theorem dX10_hang_70 : decode cX10_hang 70 = .ok (.iload_n 3, 1) := by decide +kernel
theorem dX10_hang_71 : decode cX10_hang 71 = .ok (.invokevirtual 131, 3) := by decide +kernel
theorem dX10_hang_74 : decode cX10_hang 74 = .ok (.invokevirtual 114, 3) := by decide +kernel
theorem dX10_hang_77 : decode cX10_hang 77 = .ok (.ireturn, 1) := by decide +kernel
theorem dX10_hang_78 : decode cX10_hang 78 = .ok (.aload_n 0, 1) := by decide +kernel
theorem dX10_hang_79 : decode cX10_hang 79 = .ok (.aload_n 0, 1) := by decide +kernel
theorem dX10_hang_80 : decode cX10_hang 80 = .ok (.getfield 7, 3) := by decide +kernel
theorem dX10_hang_83 : decode cX10_hang 83 = .ok (.invokevirtual 117, 3) := by decide +kernel
theorem dX10_hang_86 : decode cX10_hang 86 = .ok (.aload_n 0, 1) := by decide +kernel
theorem dX10_hang_87 : decode cX10_hang 87 = .ok (.iload_n 1, 1) := by decide +kernel
theorem dX10_hang_88 : decode cX10_hang 88 = .ok (.iconst 2, 1) := by decide +kernel
theorem dX10_hang_89 : decode cX10_hang 89 = .ok (.iconst 2, 1) := by decide +kernel
theorem dX10_hang_90 : decode cX10_hang 90 = .ok (.invokevirtual 103, 3) := by decide +kernel
theorem dX10_hang_93 : decode cX10_hang 93 = .ok (.aload_n 0, 1) := by decide +kernel
theorem dX10_hang_94 : decode cX10_hang 94 = .ok (.iload_n 1, 1) := by decide +kernel
theorem dX10_hang_95 : decode cX10_hang 95 = .ok (.iconst 3, 1) := by decide +kernel
theorem dX10_hang_96 : decode cX10_hang 96 = .ok (.iload_n 2, 1) := by decide +kernel
theorem dX10_hang_97 : decode cX10_hang 97 = .ok (.invokevirtual 103, 3) := by decide +kernel
theorem dX10_hang_100 : decode cX10_hang 100 = .ok (.aload_n 0, 1) := by decide +kernel
theorem dX10_hang_101 : decode cX10_hang 101 = .ok (.iload_n 1, 1) := by decide +kernel
theorem dX10_hang_102 : decode cX10_hang 102 = .ok (.iconst 4, 1) := by decide +kernel
theorem dX10_hang_103 : decode cX10_hang 103 = .ok (.iload_n 3, 1) := by decide +kernel
theorem dX10_hang_104 : decode cX10_hang 104 = .ok (.invokevirtual 103, 3) := by decide +kernel
theorem dX10_hang_107 : decode cX10_hang 107 = .ok (.aload_n 0, 1) := by decide +kernel
theorem dX10_hang_108 : decode cX10_hang 108 = .ok (.iload_n 2, 1) := by decide +kernel
theorem dX10_hang_109 : decode cX10_hang 109 = .ok (.invokevirtual 134, 3) := by decide +kernel
theorem dX10_hang_112 : decode cX10_hang 112 = .ok (.ireturn, 1) := by decide +kernel
theorem dX10_turn_0 : decode cX10_turn 0 = .ok (.aload_n 0, 1) := by decide +kernel
theorem dX10_turn_1 : decode cX10_turn 1 = .ok (.iload_n 1, 1) := by decide +kernel
theorem dX10_turn_2 : decode cX10_turn 2 = .ok (.invokevirtual 121, 3) := by decide +kernel
theorem dX10_turn_5 : decode cX10_turn 5 = .ok (.ifCond .ne 15, 3) := by decide +kernel
theorem dX10_turn_8 : decode cX10_turn 8 = .ok (.aload_n 0, 1) := by decide +kernel
theorem dX10_turn_9 : decode cX10_turn 9 = .ok (.iconst 3, 1) := by decide +kernel
theorem dX10_turn_10 : decode cX10_turn 10 = .ok (.aload_n 0, 1) := by decide +kernel
theorem dX10_turn_11 : decode cX10_turn 11 = .ok (.getfield 7, 3) := by decide +kernel
theorem dX10_turn_14 : decode cX10_turn 14 = .ok (.iconst 0, 1) := by decide +kernel
theorem dX10_turn_15 : decode cX10_turn 15 = .ok (.iaload, 1) := by decide +kernel
theorem dX10_turn_16 : decode cX10_turn 16 = .ok (.invokevirtual 114, 3) := by decide +kernel
theorem dX10_turn_19 : decode cX10_turn 19 = .ok (.ireturn, 1) := by decide +kernel
theorem dX10_turn_20 : decode cX10_turn 20 = .ok (.aload_n 0, 1) := by decide +kernel
theorem dX10_turn_21 : decode cX10_turn 21 = .ok (.iload_n 1, 1) := by decide +kernel
theorem dX10_turn_22 : decode cX10_turn 22 = .ok (.invokevirtual 73, 3) := by decide +kernel
theorem dX10_turn_25 : decode cX10_turn 25 = .ok (.ifCond .ne 16, 3) := by decide +kernel
theorem dX10_turn_28 : decode cX10_turn 28 = .ok (.aload_n 0, 1) := by decide +kernel
theorem dX10_turn_29 : decode cX10_turn 29 = .ok (.bipush 7, 2) := by decide +kernel
theorem dX10_turn_31 : decode cX10_turn 31 = .ok (.aload_n 0, 1) := by decide +kernel
theorem dX10_turn_32 : decode cX10_turn 32 = .ok (.iload_n 1, 1) := by decide +kernel
theorem dX10_turn_33 : decode cX10_turn 33 = .ok (.iconst 2, 1) := by decide +kernel
theorem dX10_turn_34 : decode cX10_turn 34 = .ok (.invokevirtual 69, 3) := by decide +kernel
theorem dX10_turn_37 : decode cX10_turn 37 = .ok (.invokevirtual 114, 3) := by decide +kernel
theorem dX10_turn_40 : decode cX10_turn 40 = .ok (.ireturn, 1) := by decide +kernel
theorem dX10_turn_41 : decode cX10_turn 41 = .ok (.aload_n 0, 1) := by decide +kernel
theorem dX10_turn_42 : decode cX10_turn 42 = .ok (.aload_n 0, 1) := by decide +kernel
theorem dX10_turn_43 : decode cX10_turn 43 = .ok (.getfield 7, 3) := by decide +kernel
theorem dX10_turn_46 : decode cX10_turn 46 = .ok (.invokevirtual 117, 3) := by decide +kernel
theorem dX10_turn_49 : decode cX10_turn 49 = .ok (.aload_n 0, 1) := by decide +kernel
theorem dX10_turn_50 : decode cX10_turn 50 = .ok (.iload_n 1, 1) := by decide +kernel
theorem dX10_turn_51 : decode cX10_turn 51 = .ok (.invokevirtual 137, 3) := by decide +kernel
theorem dX10_turn_54 : decode cX10_turn 54 = .ok (.aload_n 0, 1) := by decide +kernel
theorem dX10_turn_55 : decode cX10_turn 55 = .ok (.iload_n 1, 1) := by decide +kernel
theorem dX10_turn_56 : decode cX10_turn 56 = .ok (.iconst 5, 1) := by decide +kernel
theorem dX10_turn_57 : decode cX10_turn 57 = .ok (.invokevirtual 69, 3) := by decide +kernel
theorem dX10_turn_60 : decode cX10_turn 60 = .ok (.ireturn, 1) := by decide +kernel
theorem dX10_turnAll_0 : decode cX10_turnAll 0 = .ok (.iload_n 1, 1) := by decide +kernel
theorem dX10_turnAll_1 : decode cX10_turnAll 1 = .ok (.iconst 0, 1) := by decide +kernel
theorem dX10_turnAll_2 : decode cX10_turnAll 2 = .ok (.iconst 3, 1) := by decide +kernel
theorem dX10_turnAll_3 : decode cX10_turnAll 3 = .ok (.invokestatic 65, 3) := by decide +kernel
theorem dX10_turnAll_6 : decode cX10_turnAll 6 = .ok (.ifCond .ne 10, 3) := by decide +kernel
theorem dX10_turnAll_9 : decode cX10_turnAll 9 = .ok (.aload_n 0, 1) := by decide +kernel
theorem dX10_turnAll_10 : decode cX10_turnAll 10 = .ok (.iconst 1, 1) := by decide +kernel
theorem dX10_turnAll_11 : decode cX10_turnAll 11 = .ok (.iconst 0, 1) := by decide +kernel
theorem dX10_turnAll_12 : decode cX10_turnAll 12 = .ok (.invokevirtual 114, 3) := by decide +kernel
theorem dX10_turnAll_15 : decode cX10_turnAll 15 = .ok (.ireturn, 1) := by decide +kernel
theorem dX10_turnAll_16 : decode cX10_turnAll 16 = .ok (.aload_n 0, 1) := by decide +kernel
theorem dX10_turnAll_17 : decode cX10_turnAll 17 = .ok (.iload_n 1, 1) := by decide +kernel
theorem dX10_turnAll_18 : decode cX10_turnAll 18 = .ok (.invokevirtual 134, 3) := by decide +kernel
theorem dX10_turnAll_21 : decode cX10_turnAll 21 = .ok (.istore_n 2, 1) := by decide +kernel
theorem dX10_turnAll_22 : decode cX10_turnAll 22 = .ok (.iload_n 2, 1) := by decide +kernel
theorem dX10_turnAll_23 : decode cX10_turnAll 23 = .ok (.ifCond .ne 11, 3) := by decide +kernel
theorem dX10_turnAll_26 : decode cX10_turnAll 26 = .ok (.aload_n 0, 1) := by decide +kernel
theorem dX10_turnAll_27 : decode cX10_turnAll 27 = .ok (.bipush 8, 2) := by decide +kernel
theorem dX10_turnAll_29 : decode cX10_turnAll 29 = .ok (.iconst 0, 1) := by decide +kernel
theorem dX10_turnAll_30 : decode cX10_turnAll 30 = .ok (.invokevirtual 114, 3) := by decide +kernel
theorem dX10_turnAll_33 : decode cX10_turnAll 33 = .ok (.ireturn, 1) := by decide +kernel
theorem dX10_turnAll_34 : decode cX10_turnAll 34 = .ok (.aload_n 0, 1) := by decide +kernel
theorem dX10_turnAll_35 : decode cX10_turnAll 35 = .ok (.aload_n 0, 1) := by decide +kernel
