theorem dX10_turnAll_36 : decode cX10_turnAll 36 = .ok (.getfield 7, 3) := by decide +kernel
theorem dX10_turnAll_39 : decode cX10_turnAll 39 = .ok (.invokevirtual 117, 3) := by decide +kernel
theorem dX10_turnAll_42 : decode cX10_turnAll 42 = .ok (.iconst 0, 1) := by decide +kernel
theorem dX10_turnAll_43 : decode cX10_turnAll 43 = .ok (.istore_n 3, 1) := by decide +kernel
theorem dX10_turnAll_44 : decode cX10_turnAll 44 = .ok (.iload_n 3, 1) := by decide +kernel
theorem dX10_turnAll_45 : decode cX10_turnAll 45 = .ok (.aload_n 0, 1) := by decide +kernel
theorem dX10_turnAll_46 : decode cX10_turnAll 46 = .ok (.getfield 7, 3) := by decide +kernel
theorem dX10_turnAll_49 : decode cX10_turnAll 49 = .ok (.iconst 0, 1) := by decide +kernel
theorem dX10_turnAll_50 : decode cX10_turnAll 50 = .ok (.iaload, 1) := by decide +kernel
theorem dX10_turnAll_51 : decode cX10_turnAll 51 = .ok (.if_icmp .ge 32, 3) := by decide +kernel
theorem dX10_turnAll_54 : decode cX10_turnAll 54 = .ok (.aload_n 0, 1) := by decide +kernel
theorem dX10_turnAll_55 : decode cX10_turnAll 55 = .ok (.iload_n 3, 1) := by decide +kernel
theorem dX10_turnAll_56 : decode cX10_turnAll 56 = .ok (.invokevirtual 73, 3) := by decide +kernel
theorem dX10_turnAll_59 : decode cX10_turnAll 59 = .ok (.ifCond .eq 18, 3) := by decide +kernel
theorem dX10_turnAll_62 : decode cX10_turnAll 62 = .ok (.aload_n 0, 1) := by decide +kernel
theorem dX10_turnAll_63 : decode cX10_turnAll 63 = .ok (.iload_n 3, 1) := by decide +kernel
theorem dX10_turnAll_64 : decode cX10_turnAll 64 = .ok (.iconst 3, 1) := by decide +kernel
theorem dX10_turnAll_65 : decode cX10_turnAll 65 = .ok (.invokevirtual 69, 3) := by decide +kernel
theorem dX10_turnAll_68 : decode cX10_turnAll 68 = .ok (.iload_n 1, 1) := by decide +kernel
theorem dX10_turnAll_69 : decode cX10_turnAll 69 = .ok (.if_icmp .ne 8, 3) := by decide +kernel
theorem dX10_turnAll_72 : decode cX10_turnAll 72 = .ok (.aload_n 0, 1) := by decide +kernel
theorem dX10_turnAll_73 : decode cX10_turnAll 73 = .ok (.iload_n 3, 1) := by decide +kernel
theorem dX10_turnAll_74 : decode cX10_turnAll 74 = .ok (.invokevirtual 137, 3) := by decide +kernel
theorem dX10_turnAll_77 : decode cX10_turnAll 77 = .ok (.iinc 3 1, 3) := by decide +kernel
theorem dX10_turnAll_80 : decode cX10_turnAll 80 = .ok (.goto (-36), 3) := by decide +kernel
theorem dX10_turnAll_83 : decode cX10_turnAll 83 = .ok (.iload_n 2, 1) := by decide +kernel
theorem dX10_turnAll_84 : decode cX10_turnAll 84 = .ok (.ireturn, 1) := by decide +kernel
theorem dX10_logs_0 : decode cX10_logs 0 = .ok (.iload_n 1, 1) := by decide +kernel
theorem dX10_logs_1 : decode cX10_logs 1 = .ok (.iconst 1, 1) := by decide +kernel
theorem dX10_logs_2 : decode cX10_logs 2 = .ok (.bipush 12, 2) := by decide +kernel
theorem dX10_logs_4 : decode cX10_logs 4 = .ok (.invokestatic 65, 3) := by decide +kernel
theorem dX10_logs_7 : decode cX10_logs 7 = .ok (.ifCond .ne 10, 3) := by decide +kernel
theorem dX10_logs_10 : decode cX10_logs 10 = .ok (.aload_n 0, 1) := by decide +kernel
theorem dX10_logs_11 : decode cX10_logs 11 = .ok (.iconst 1, 1) := by decide +kernel
theorem dX10_logs_12 : decode cX10_logs 12 = .ok (.iconst 0, 1) := by decide +kernel
theorem dX10_logs_13 : decode cX10_logs 13 = .ok (.invokevirtual 114, 3) := by decide +kernel
theorem dX10_logs_16 : decode cX10_logs 16 = .ok (.ireturn, 1) := by decide +kernel
theorem dX10_logs_17 : decode cX10_logs 17 = .ok (.aload_n 0, 1) := by decide +kernel
theorem dX10_logs_18 : decode cX10_logs 18 = .ok (.getfield 7, 3) := by decide +kernel
theorem dX10_logs_21 : decode cX10_logs 21 = .ok (.iconst 1, 1) := by decide +kernel
theorem dX10_logs_22 : decode cX10_logs 22 = .ok (.iaload, 1) := by decide +kernel
theorem dX10_logs_23 : decode cX10_logs 23 = .ok (.iload_n 1, 1) := by decide +kernel
theorem dX10_logs_24 : decode cX10_logs 24 = .ok (.iadd, 1) := by decide +kernel
theorem dX10_logs_25 : decode cX10_logs 25 = .ok (.bipush 12, 2) := by decide +kernel
theorem dX10_logs_27 : decode cX10_logs 27 = .ok (.if_icmp .le 11, 3) := by decide +kernel
theorem dX10_logs_30 : decode cX10_logs 30 = .ok (.aload_n 0, 1) := by decide +kernel
theorem dX10_logs_31 : decode cX10_logs 31 = .ok (.iconst 2, 1) := by decide +kernel
theorem dX10_logs_32 : decode cX10_logs 32 = .ok (.bipush 12, 2) := by decide +kernel
theorem dX10_logs_34 : decode cX10_logs 34 = .ok (.invokevirtual 114, 3) := by decide +kernel
theorem dX10_logs_37 : decode cX10_logs 37 = .ok (.ireturn, 1) := by decide +kernel
theorem dX10_logs_38 : decode cX10_logs 38 = .ok (.aload_n 0, 1) := by decide +kernel
theorem dX10_logs_39 : decode cX10_logs 39 = .ok (.aload_n 0, 1) := by decide +kernel
theorem dX10_logs_40 : decode cX10_logs 40 = .ok (.getfield 7, 3) := by decide +kernel
theorem dX10_logs_43 : decode cX10_logs 43 = .ok (.invokevirtual 117, 3) := by decide +kernel
theorem dX10_logs_46 : decode cX10_logs 46 = .ok (.aload_n 0, 1) := by decide +kernel
theorem dX10_logs_47 : decode cX10_logs 47 = .ok (.getfield 7, 3) := by decide +kernel
theorem dX10_logs_50 : decode cX10_logs 50 = .ok (.iconst 1, 1) := by decide +kernel
theorem dX10_logs_51 : decode cX10_logs 51 = .ok (.dup2, 1) := by decide +kernel
theorem dX10_logs_52 : decode cX10_logs 52 = .ok (.iaload, 1) := by decide +kernel
theorem dX10_logs_53 : decode cX10_logs 53 = .ok (.iload_n 1, 1) := by decide +kernel
theorem dX10_logs_54 : decode cX10_logs 54 = .ok (.iadd, 1) := by decide +kernel
theorem dX10_logs_55 : decode cX10_logs 55 = .ok (.iastore, 1) := by decide +kernel
theorem dX10_logs_56 : decode cX10_logs 56 = .ok (.aload_n 0, 1) := by decide +kernel
theorem dX10_logs_57 : decode cX10_logs 57 = .ok (.getfield 7, 3) := by decide +kernel
theorem dX10_logs_60 : decode cX10_logs 60 = .ok (.iconst 1, 1) := by decide +kernel
theorem dX10_logs_61 : decode cX10_logs 61 = .ok (.iaload, 1) := by decide +kernel
theorem dX10_logs_62 : decode cX10_logs 62 = .ok (.ireturn, 1) := by decide +kernel
theorem dX10_wood_0 : decode cX10_wood 0 = .ok (.iload_n 1, 1) := by decide +kernel
theorem dX10_wood_1 : decode cX10_wood 1 = .ok (.iconst 0, 1) := by decide +kernel
theorem dX10_wood_2 : decode cX10_wood 2 = .ok (.iconst 3, 1) := by decide +kernel
theorem dX10_wood_3 : decode cX10_wood 3 = .ok (.invokestatic 65, 3) := by decide +kernel
theorem dX10_wood_6 : decode cX10_wood 6 = .ok (.ifCond .ne 10, 3) := by decide +kernel
theorem dX10_wood_9 : decode cX10_wood 9 = .ok (.aload_n 0, 1) := by decide +kernel
theorem dX10_wood_10 : decode cX10_wood 10 = .ok (.iconst 1, 1) := by decide +kernel
theorem dX10_wood_11 : decode cX10_wood 11 = .ok (.iconst 0, 1) := by decide +kernel
theorem dX10_wood_12 : decode cX10_wood 12 = .ok (.invokevirtual 114, 3) := by decide +kernel
theorem dX10_wood_15 : decode cX10_wood 15 = .ok (.ireturn, 1) := by decide +kernel
theorem dX10_wood_16 : decode cX10_wood 16 = .ok (.aload_n 0, 1) := by decide +kernel
theorem dX10_wood_17 : decode cX10_wood 17 = .ok (.getfield 7, 3) := by decide +kernel
theorem dX10_wood_20 : decode cX10_wood 20 = .ok (.iconst 2, 1) := by decide +kernel
theorem dX10_wood_21 : decode cX10_wood 21 = .ok (.iaload, 1) := by decide +kernel
theorem dX10_wood_22 : decode cX10_wood 22 = .ok (.istore_n 2, 1) := by decide +kernel
theorem dX10_wood_23 : decode cX10_wood 23 = .ok (.iload_n 2, 1) := by decide +kernel
theorem dX10_wood_24 : decode cX10_wood 24 = .ok (.iload_n 1, 1) := by decide +kernel
theorem dX10_wood_25 : decode cX10_wood 25 = .ok (.if_icmp .ne 11, 3) := by decide +kernel
theorem dX10_wood_28 : decode cX10_wood 28 = .ok (.aload_n 0, 1) := by decide +kernel
theorem dX10_wood_29 : decode cX10_wood 29 = .ok (.bipush 9, 2) := by decide +kernel
theorem dX10_wood_31 : decode cX10_wood 31 = .ok (.iload_n 1, 1) := by decide +kernel
theorem dX10_wood_32 : decode cX10_wood 32 = .ok (.invokevirtual 114, 3) := by decide +kernel
theorem dX10_wood_35 : decode cX10_wood 35 = .ok (.ireturn, 1) := by decide +kernel
theorem dX10_wood_36 : decode cX10_wood 36 = .ok (.aload_n 0, 1) := by decide +kernel
theorem dX10_wood_37 : decode cX10_wood 37 = .ok (.aload_n 0, 1) := by decide +kernel
theorem dX10_wood_38 : decode cX10_wood 38 = .ok (.getfield 7, 3) := by decide +kernel
theorem dX10_wood_41 : decode cX10_wood 41 = .ok (.invokevirtual 117, 3) := by decide +kernel
theorem dX10_wood_44 : decode cX10_wood 44 = .ok (.aload_n 0, 1) := by decide +kernel
theorem dX10_wood_45 : decode cX10_wood 45 = .ok (.getfield 7, 3) := by decide +kernel
theorem dX10_wood_48 : decode cX10_wood 48 = .ok (.iconst 2, 1) := by decide +kernel
theorem dX10_wood_49 : decode cX10_wood 49 = .ok (.iload_n 1, 1) := by decide +kernel
theorem dX10_wood_50 : decode cX10_wood 50 = .ok (.iastore, 1) := by decide +kernel
theorem dX10_wood_51 : decode cX10_wood 51 = .ok (.iload_n 2, 1) := by decide +kernel
theorem dX10_wood_52 : decode cX10_wood 52 = .ok (.ireturn, 1) := by decide +kernel
theorem dX10_day_0 : decode cX10_day 0 = .ok (.aload_n 0, 1) := by decide +kernel
theorem dX10_day_1 : decode cX10_day 1 = .ok (.iconst 1, 1) := by decide +kernel
theorem dX10_day_2 : decode cX10_day 2 = .ok (.invokevirtual 124, 3) := by decide +kernel
theorem dX10_day_5 : decode cX10_day 5 = .ok (.ifCond .ne 11, 3) := by decide +kernel
theorem dX10_day_8 : decode cX10_day 8 = .ok (.aload_n 0, 1) := by decide +kernel
theorem dX10_day_9 : decode cX10_day 9 = .ok (.bipush 8, 2) := by decide +kernel
theorem dX10_day_11 : decode cX10_day 11 = .ok (.iconst 0, 1) := by decide +kernel
theorem dX10_day_12 : decode cX10_day 12 = .ok (.invokevirtual 114, 3) := by decide +kernel
theorem dX10_day_15 : decode cX10_day 15 = .ok (.ireturn, 1) := by decide +kernel
theorem dX10_day_16 : decode cX10_day 16 = .ok (.aload_n 0, 1) := by decide +kernel
theorem dX10_day_17 : decode cX10_day 17 = .ok (.aload_n 0, 1) := by decide +kernel
theorem dX10_day_18 : decode cX10_day 18 = .ok (.getfield 7, 3) := by decide +kernel
theorem dX10_day_21 : decode cX10_day 21 = .ok (.invokevirtual 117, 3) := by decide +kernel
theorem dX10_day_24 : decode cX10_day 24 = .ok (.iconst 0, 1) := by decide +kernel
theorem dX10_day_25 : decode cX10_day 25 = .ok (.istore_n 1, 1) := by decide +kernel
theorem dX10_day_26 : decode cX10_day 26 = .ok (.iconst 0, 1) := by decide +kernel
theorem dX10_day_27 : decode cX10_day 27 = .ok (.istore_n 2, 1) := by decide +kernel
theorem dX10_day_28 : decode cX10_day 28 = .ok (.iload_n 2, 1) := by decide +kernel
theorem dX10_day_29 : decode cX10_day 29 = .ok (.aload_n 0, 1) := by decide +kernel
theorem dX10_day_30 : decode cX10_day 30 = .ok (.getfield 7, 3) := by decide +kernel
theorem dX10_day_33 : decode cX10_day 33 = .ok (.iconst 0, 1) := by decide +kernel
theorem dX10_day_34 : decode cX10_day 34 = .ok (.iaload, 1) := by decide +kernel
theorem dX10_day_35 : decode cX10_day 35 = .ok (.if_icmp .ge 50, 3) := by decide +kernel
theorem dX10_day_38 : decode cX10_day 38 = .ok (.aload_n 0, 1) := by decide +kernel
theorem dX10_day_39 : decode cX10_day 39 = .ok (.iload_n 2, 1) := by decide +kernel
theorem dX10_day_40 : decode cX10_day 40 = .ok (.iconst 2, 1) := by decide +kernel
theorem dX10_day_41 : decode cX10_day 41 = .ok (.invokevirtual 69, 3) := by decide +kernel
theorem dX10_day_44 : decode cX10_day 44 = .ok (.iconst 1, 1) := by decide +kernel
theorem dX10_day_45 : decode cX10_day 45 = .ok (.if_icmp .eq 6, 3) := by decide +kernel
theorem dX10_day_48 : decode cX10_day 48 = .ok (.goto 31, 3) := by decide +kernel
theorem dX10_day_51 : decode cX10_day 51 = .ok (.aload_n 0, 1) := by decide +kernel
theorem dX10_day_52 : decode cX10_day 52 = .ok (.iload_n 2, 1) := by decide +kernel
theorem dX10_day_53 : decode cX10_day 53 = .ok (.iconst 1, 1) := by decide +kernel
theorem dX10_day_54 : decode cX10_day 54 = .ok (.aload_n 0, 1) := by decide +kernel
theorem dX10_day_55 : decode cX10_day 55 = .ok (.iload_n 2, 1) := by decide +kernel
theorem dX10_day_56 : decode cX10_day 56 = .ok (.iconst 1, 1) := by decide +kernel
theorem dX10_day_57 : decode cX10_day 57 = .ok (.invokevirtual 69, 3) := by decide +kernel
theorem dX10_day_60 : decode cX10_day 60 = .ok (.iconst 2, 1) := by decide +kernel
theorem dX10_day_61 : decode cX10_day 61 = .ok (.iadd, 1) := by decide +kernel
theorem dX10_day_62 : decode cX10_day 62 = .ok (.bipush 9, 2) := by decide +kernel
theorem dX10_day_64 : decode cX10_day 64 = .ok (.invokestatic 80, 3) := by decide +kernel
theorem dX10_day_67 : decode cX10_day 67 = .ok (.invokevirtual 103, 3) := by decide +kernel
theorem dX10_day_70 : decode cX10_day 70 = .ok (.iload_n 1, 1) := by decide +kernel
theorem dX10_day_71 : decode cX10_day 71 = .ok (.aload_n 0, 1) := by decide +kernel
theorem dX10_day_72 : decode cX10_day 72 = .ok (.iload_n 2, 1) := by decide +kernel
theorem dX10_day_73 : decode cX10_day 73 = .ok (.iconst 1, 1) := by decide +kernel
theorem dX10_day_74 : decode cX10_day 74 = .ok (.invokevirtual 69, 3) := by decide +kernel
theorem dX10_day_77 : decode cX10_day 77 = .ok (.iadd, 1) := by decide +kernel
theorem dX10_day_78 : decode cX10_day 78 = .ok (.istore_n 1, 1) := by decide +kernel
theorem dX10_day_79 : decode cX10_day 79 = .ok (.iinc 2 1, 3) := by decide +kernel
theorem dX10_day_82 : decode cX10_day 82 = .ok (.goto (-54), 3) := by decide +kernel
theorem dX10_day_85 : decode cX10_day 85 = .ok (.aload_n 0, 1) := by decide +kernel
theorem dX10_day_86 : decode cX10_day 86 = .ok (.getfield 7, 3) := by decide +kernel
theorem dX10_day_89 : decode cX10_day 89 = .ok (.iconst 4, 1) := by decide +kernel
theorem dX10_day_90 : decode cX10_day 90 = .ok (.dup2, 1) := by decide +kernel
theorem dX10_day_91 : decode cX10_day 91 = .ok (.iaload, 1) := by decide +kernel
theorem dX10_day_92 : decode cX10_day 92 = .ok (.iconst 1, 1) := by decide +kernel
theorem dX10_day_93 : decode cX10_day 93 = .ok (.iadd, 1) := by decide +kernel
theorem dX10_day_94 : decode cX10_day 94 = .ok (.iastore, 1) := by decide +kernel
theorem dX10_day_95 : decode cX10_day 95 = .ok (.iload_n 1, 1) := by decide +kernel
theorem dX10_day_96 : decode cX10_day 96 = .ok (.ireturn, 1) := by decide +kernel
theorem dX10_hours_0 : decode cX10_hours 0 = .ok (.iload_n 1, 1) := by decide +kernel
theorem dX10_hours_1 : decode cX10_hours 1 = .ok (.iconst 1, 1) := by decide +kernel
theorem dX10_hours_2 : decode cX10_hours 2 = .ok (.bipush 24, 2) := by decide +kernel
theorem dX10_hours_4 : decode cX10_hours 4 = .ok (.invokestatic 65, 3) := by decide +kernel
theorem dX10_hours_7 : decode cX10_hours 7 = .ok (.ifCond .ne 10, 3) := by decide +kernel
theorem dX10_hours_10 : decode cX10_hours 10 = .ok (.aload_n 0, 1) := by decide +kernel
theorem dX10_hours_11 : decode cX10_hours 11 = .ok (.iconst 1, 1) := by decide +kernel
theorem dX10_hours_12 : decode cX10_hours 12 = .ok (.iconst 0, 1) := by decide +kernel
theorem dX10_hours_13 : decode cX10_hours 13 = .ok (.invokevirtual 114, 3) := by decide +kernel
theorem dX10_hours_16 : decode cX10_hours 16 = .ok (.ireturn, 1) := by decide +kernel
theorem dX10_hours_17 : decode cX10_hours 17 = .ok (.aload_n 0, 1) := by decide +kernel
theorem dX10_hours_18 : decode cX10_hours 18 = .ok (.aload_n 0, 1) := by decide +kernel
theorem dX10_hours_19 : decode cX10_hours 19 = .ok (.getfield 7, 3) := by decide +kernel
theorem dX10_hours_22 : decode cX10_hours 22 = .ok (.invokevirtual 117, 3) := by decide +kernel
theorem dX10_hours_25 : decode cX10_hours 25 = .ok (.iconst 0, 1) := by decide +kernel
theorem dX10_hours_26 : decode cX10_hours 26 = .ok (.istore_n 2, 1) := by decide +kernel
theorem dX10_hours_27 : decode cX10_hours 27 = .ok (.iload_n 2, 1) := by decide +kernel
theorem dX10_hours_28 : decode cX10_hours 28 = .ok (.iload_n 1, 1) := by decide +kernel
theorem dX10_hours_29 : decode cX10_hours 29 = .ok (.if_icmp .ge 13, 3) := by decide +kernel
theorem dX10_hours_32 : decode cX10_hours 32 = .ok (.aload_n 0, 1) := by decide +kernel
theorem dX10_hours_33 : decode cX10_hours 33 = .ok (.invokevirtual 140, 3) := by decide +kernel
theorem dX10_hours_36 : decode cX10_hours 36 = .ok (.iinc 2 1, 3) := by decide +kernel
theorem dX10_hours_39 : decode cX10_hours 39 = .ok (.goto (-12), 3) := by decide +kernel
theorem dX10_hours_42 : decode cX10_hours 42 = .ok (.aload_n 0, 1) := by decide +kernel
theorem dX10_hours_43 : decode cX10_hours 43 = .ok (.invokevirtual 143, 3) := by decide +kernel
theorem dX10_hours_46 : decode cX10_hours 46 = .ok (.ireturn, 1) := by decide +kernel
theorem dX10_goes_0 : decode cX10_goes 0 = .ok (.aload_n 0, 1) := by decide +kernel
theorem dX10_goes_1 : decode cX10_goes 1 = .ok (.getfield 7, 3) := by decide +kernel
theorem dX10_goes_4 : decode cX10_goes 4 = .ok (.iconst 0, 1) := by decide +kernel
theorem dX10_goes_5 : decode cX10_goes 5 = .ok (.dup2, 1) := by decide +kernel
theorem dX10_goes_6 : decode cX10_goes 6 = .ok (.iaload, 1) := by decide +kernel
theorem dX10_goes_7 : decode cX10_goes 7 = .ok (.iconst 1, 1) := by decide +kernel
theorem dX10_goes_8 : decode cX10_goes 8 = .ok (.isub, 1) := by decide +kernel
theorem dX10_goes_9 : decode cX10_goes 9 = .ok (.iastore, 1) := by decide +kernel
theorem dX10_goes_10 : decode cX10_goes 10 = .ok (.bipush 8, 2) := by decide +kernel
theorem dX10_goes_12 : decode cX10_goes 12 = .ok (.bipush 11, 2) := by decide +kernel
theorem dX10_goes_14 : decode cX10_goes 14 = .ok (.iload_n 1, 1) := by decide +kernel
theorem dX10_goes_15 : decode cX10_goes 15 = .ok (.imul, 1) := by decide +kernel
theorem dX10_goes_16 : decode cX10_goes 16 = .ok (.iadd, 1) := by decide +kernel
theorem dX10_goes_17 : decode cX10_goes 17 = .ok (.istore_n 2, 1) := by decide +kernel
theorem dX10_goes_18 : decode cX10_goes 18 = .ok (.iload_n 2, 1) := by decide +kernel
theorem dX10_goes_19 : decode cX10_goes 19 = .ok (.bipush 8, 2) := by decide +kernel
theorem dX10_goes_21 : decode cX10_goes 21 = .ok (.bipush 11, 2) := by decide +kernel
theorem dX10_goes_23 : decode cX10_goes 23 = .ok (.aload_n 0, 1) := by decide +kernel
theorem dX10_goes_24 : decode cX10_goes 24 = .ok (.getfield 7, 3) := by decide +kernel
theorem dX10_goes_27 : decode cX10_goes 27 = .ok (.iconst 0, 1) := by decide +kernel
theorem dX10_goes_28 : decode cX10_goes 28 = .ok (.iaload, 1) := by decide +kernel
theorem dX10_goes_29 : decode cX10_goes 29 = .ok (.imul, 1) := by decide +kernel
theorem dX10_goes_30 : decode cX10_goes 30 = .ok (.iadd, 1) := by decide +kernel
theorem dX10_goes_31 : decode cX10_goes 31 = .ok (.if_icmp .ge 24, 3) := by decide +kernel
theorem dX10_goes_34 : decode cX10_goes 34 = .ok (.aload_n 0, 1) := by decide +kernel
theorem dX10_goes_35 : decode cX10_goes 35 = .ok (.getfield 7, 3) := by decide +kernel
theorem dX10_goes_38 : decode cX10_goes 38 = .ok (.iload_n 2, 1) := by decide +kernel
theorem dX10_goes_39 : decode cX10_goes 39 = .ok (.aload_n 0, 1) := by decide +kernel
theorem dX10_goes_40 : decode cX10_goes 40 = .ok (.getfield 7, 3) := by decide +kernel
theorem dX10_goes_43 : decode cX10_goes 43 = .ok (.iload_n 2, 1) := by decide +kernel
theorem dX10_goes_44 : decode cX10_goes 44 = .ok (.bipush 11, 2) := by decide +kernel
theorem dX10_goes_46 : decode cX10_goes 46 = .ok (.iadd, 1) := by decide +kernel
theorem dX10_goes_47 : decode cX10_goes 47 = .ok (.iaload, 1) := by decide +kernel
theorem dX10_goes_48 : decode cX10_goes 48 = .ok (.iastore, 1) := by decide +kernel
theorem dX10_goes_49 : decode cX10_goes 49 = .ok (.iinc 2 1, 3) := by decide +kernel
theorem dX10_goes_52 : decode cX10_goes 52 = .ok (.goto (-34), 3) := by decide +kernel
theorem dX10_goes_55 : decode cX10_goes 55 = .ok (.iconst 0, 1) := by decide +kernel
theorem dX10_goes_56 : decode cX10_goes 56 = .ok (.istore_n 2, 1) := by decide +kernel
theorem dX10_goes_57 : decode cX10_goes 57 = .ok (.iload_n 2, 1) := by decide +kernel
theorem dX10_goes_58 : decode cX10_goes 58 = .ok (.bipush 11, 2) := by decide +kernel
theorem dX10_goes_60 : decode cX10_goes 60 = .ok (.if_icmp .ge 21, 3) := by decide +kernel
theorem dX10_goes_63 : decode cX10_goes 63 = .ok (.aload_n 0, 1) := by decide +kernel
theorem dX10_goes_64 : decode cX10_goes 64 = .ok (.aload_n 0, 1) := by decide +kernel
theorem dX10_goes_65 : decode cX10_goes 65 = .ok (.getfield 7, 3) := by decide +kernel
theorem dX10_goes_68 : decode cX10_goes 68 = .ok (.iconst 0, 1) := by decide +kernel
theorem dX10_goes_69 : decode cX10_goes 69 = .ok (.iaload, 1) := by decide +kernel
theorem dX10_goes_70 : decode cX10_goes 70 = .ok (.iload_n 2, 1) := by decide +kernel
theorem dX10_goes_71 : decode cX10_goes 71 = .ok (.iconst 0, 1) := by decide +kernel
theorem dX10_goes_72 : decode cX10_goes 72 = .ok (.invokevirtual 103, 3) := by decide +kernel
theorem dX10_goes_75 : decode cX10_goes 75 = .ok (.iinc 2 1, 3) := by decide +kernel
theorem dX10_goes_78 : decode cX10_goes 78 = .ok (.goto (-21), 3) := by decide +kernel
theorem dX10_goes_81 : decode cX10_goes 81 = .ok (.return_, 1) := by decide +kernel
theorem dX10_sell_0 : decode cX10_sell 0 = .ok (.aload_n 0, 1) := by decide +kernel
theorem dX10_sell_1 : decode cX10_sell 1 = .ok (.iload_n 1, 1) := by decide +kernel
theorem dX10_sell_2 : decode cX10_sell 2 = .ok (.invokevirtual 121, 3) := by decide +kernel
theorem dX10_sell_5 : decode cX10_sell 5 = .ok (.ifCond .ne 15, 3) := by decide +kernel
theorem dX10_sell_8 : decode cX10_sell 8 = .ok (.aload_n 0, 1) := by decide +kernel
theorem dX10_sell_9 : decode cX10_sell 9 = .ok (.iconst 3, 1) := by decide +kernel
theorem dX10_sell_10 : decode cX10_sell 10 = .ok (.aload_n 0, 1) := by decide +kernel
theorem dX10_sell_11 : decode cX10_sell 11 = .ok (.getfield 7, 3) := by decide +kernel
theorem dX10_sell_14 : decode cX10_sell 14 = .ok (.iconst 0, 1) := by decide +kernel
theorem dX10_sell_15 : decode cX10_sell 15 = .ok (.iaload, 1) := by decide +kernel
theorem dX10_sell_16 : decode cX10_sell 16 = .ok (.invokevirtual 114, 3) := by decide +kernel
theorem dX10_sell_19 : decode cX10_sell 19 = .ok (.ireturn, 1) := by decide +kernel
theorem dX10_sell_20 : decode cX10_sell 20 = .ok (.aload_n 0, 1) := by decide +kernel
theorem dX10_sell_21 : decode cX10_sell 21 = .ok (.iload_n 1, 1) := by decide +kernel
theorem dX10_sell_22 : decode cX10_sell 22 = .ok (.invokevirtual 147, 3) := by decide +kernel
theorem dX10_sell_25 : decode cX10_sell 25 = .ok (.ifCond .ne 28, 3) := by decide +kernel
theorem dX10_sell_28 : decode cX10_sell 28 = .ok (.aload_n 0, 1) := by decide +kernel
theorem dX10_sell_29 : decode cX10_sell 29 = .ok (.bipush 10, 2) := by decide +kernel
theorem dX10_sell_31 : decode cX10_sell 31 = .ok (.aload_n 0, 1) := by decide +kernel
theorem dX10_sell_32 : decode cX10_sell 32 = .ok (.iload_n 1, 1) := by decide +kernel
theorem dX10_sell_33 : decode cX10_sell 33 = .ok (.invokevirtual 91, 3) := by decide +kernel
theorem dX10_sell_36 : decode cX10_sell 36 = .ok (.ifCond .eq 8, 3) := by decide +kernel
theorem dX10_sell_39 : decode cX10_sell 39 = .ok (.bipush 100, 2) := by decide +kernel
theorem dX10_sell_41 : decode cX10_sell 41 = .ok (.goto 8, 3) := by decide +kernel
theorem dX10_sell_44 : decode cX10_sell 44 = .ok (.aload_n 0, 1) := by decide +kernel
theorem dX10_sell_45 : decode cX10_sell 45 = .ok (.iload_n 1, 1) := by decide +kernel
theorem dX10_sell_46 : decode cX10_sell 46 = .ok (.invokevirtual 94, 3) := by decide +kernel
theorem dX10_sell_49 : decode cX10_sell 49 = .ok (.invokevirtual 114, 3) := by decide +kernel
theorem dX10_sell_52 : decode cX10_sell 52 = .ok (.ireturn, 1) := by decide +kernel
theorem dX10_sell_53 : decode cX10_sell 53 = .ok (.aload_n 0, 1) := by decide +kernel
theorem dX10_sell_54 : decode cX10_sell 54 = .ok (.aload_n 0, 1) := by decide +kernel
theorem dX10_sell_55 : decode cX10_sell 55 = .ok (.getfield 7, 3) := by decide +kernel
theorem dX10_sell_58 : decode cX10_sell 58 = .ok (.invokevirtual 117, 3) := by decide +kernel
theorem dX10_sell_61 : decode cX10_sell 61 = .ok (.aload_n 0, 1) := by decide +kernel
theorem dX10_sell_62 : decode cX10_sell 62 = .ok (.iload_n 1, 1) := by decide +kernel
theorem dX10_sell_63 : decode cX10_sell 63 = .ok (.invokevirtual 150, 3) := by decide +kernel
theorem dX10_sell_66 : decode cX10_sell 66 = .ok (.istore_n 2, 1) := by decide +kernel
theorem dX10_sell_67 : decode cX10_sell 67 = .ok (.aload_n 0, 1) := by decide +kernel
theorem dX10_sell_68 : decode cX10_sell 68 = .ok (.iload_n 1, 1) := by decide +kernel
theorem dX10_sell_69 : decode cX10_sell 69 = .ok (.invokevirtual 153, 3) := by decide +kernel
theorem dX10_sell_72 : decode cX10_sell 72 = .ok (.aload_n 0, 1) := by decide +kernel
theorem dX10_sell_73 : decode cX10_sell 73 = .ok (.getfield 7, 3) := by decide +kernel
theorem dX10_sell_76 : decode cX10_sell 76 = .ok (.iconst 5, 1) := by decide +kernel
theorem dX10_sell_77 : decode cX10_sell 77 = .ok (.dup2, 1) := by decide +kernel
theorem dX10_sell_78 : decode cX10_sell 78 = .ok (.iaload, 1) := by decide +kernel
theorem dX10_sell_79 : decode cX10_sell 79 = .ok (.iconst 1, 1) := by decide +kernel
theorem dX10_sell_80 : decode cX10_sell 80 = .ok (.iadd, 1) := by decide +kernel
theorem dX10_sell_81 : decode cX10_sell 81 = .ok (.iastore, 1) := by decide +kernel
theorem dX10_sell_82 : decode cX10_sell 82 = .ok (.aload_n 0, 1) := by decide +kernel
theorem dX10_sell_83 : decode cX10_sell 83 = .ok (.getfield 7, 3) := by decide +kernel
theorem dX10_sell_86 : decode cX10_sell 86 = .ok (.bipush 6, 2) := by decide +kernel
theorem dX10_sell_88 : decode cX10_sell 88 = .ok (.dup2, 1) := by decide +kernel
theorem dX10_sell_89 : decode cX10_sell 89 = .ok (.iaload, 1) := by decide +kernel
theorem dX10_sell_90 : decode cX10_sell 90 = .ok (.iload_n 2, 1) := by decide +kernel
theorem dX10_sell_91 : decode cX10_sell 91 = .ok (.iadd, 1) := by decide +kernel
theorem dX10_sell_92 : decode cX10_sell 92 = .ok (.iastore, 1) := by decide +kernel
theorem dX10_sell_93 : decode cX10_sell 93 = .ok (.iload_n 2, 1) := by decide +kernel
theorem dX10_sell_94 : decode cX10_sell 94 = .ok (.ireturn, 1) := by decide +kernel
theorem dX10_throwAway_0 : decode cX10_throwAway 0 = .ok (.aload_n 0, 1) := by decide +kernel
theorem dX10_throwAway_1 : decode cX10_throwAway 1 = .ok (.iload_n 1, 1) := by decide +kernel
theorem dX10_throwAway_2 : decode cX10_throwAway 2 = .ok (.invokevirtual 121, 3) := by decide +kernel
theorem dX10_throwAway_5 : decode cX10_throwAway 5 = .ok (.ifCond .ne 15, 3) := by decide +kernel
theorem dX10_throwAway_8 : decode cX10_throwAway 8 = .ok (.aload_n 0, 1) := by decide +kernel
theorem dX10_throwAway_9 : decode cX10_throwAway 9 = .ok (.iconst 3, 1) := by decide +kernel
theorem dX10_throwAway_10 : decode cX10_throwAway 10 = .ok (.aload_n 0, 1) := by decide +kernel
theorem dX10_throwAway_11 : decode cX10_throwAway 11 = .ok (.getfield 7, 3) := by decide +kernel
theorem dX10_throwAway_14 : decode cX10_throwAway 14 = .ok (.iconst 0, 1) := by decide +kernel
theorem dX10_throwAway_15 : decode cX10_throwAway 15 = .ok (.iaload, 1) := by decide +kernel
theorem dX10_throwAway_16 : decode cX10_throwAway 16 = .ok (.invokevirtual 114, 3) := by decide +kernel
theorem dX10_throwAway_19 : decode cX10_throwAway 19 = .ok (.ireturn, 1) := by decide +kernel
theorem dX10_throwAway_20 : decode cX10_throwAway 20 = .ok (.aload_n 0, 1) := by decide +kernel
theorem dX10_throwAway_21 : decode cX10_throwAway 21 = .ok (.aload_n 0, 1) := by decide +kernel
theorem dX10_throwAway_22 : decode cX10_throwAway 22 = .ok (.getfield 7, 3) := by decide +kernel
theorem dX10_throwAway_25 : decode cX10_throwAway 25 = .ok (.invokevirtual 117, 3) := by decide +kernel
theorem dX10_throwAway_28 : decode cX10_throwAway 28 = .ok (.aload_n 0, 1) := by decide +kernel
theorem dX10_throwAway_29 : decode cX10_throwAway 29 = .ok (.iload_n 1, 1) := by decide +kernel
theorem dX10_throwAway_30 : decode cX10_throwAway 30 = .ok (.iconst 0, 1) := by decide +kernel
theorem dX10_throwAway_31 : decode cX10_throwAway 31 = .ok (.invokevirtual 69, 3) := by decide +kernel
theorem dX10_throwAway_34 : decode cX10_throwAway 34 = .ok (.istore_n 2, 1) := by decide +kernel
theorem dX10_throwAway_35 : decode cX10_throwAway 35 = .ok (.aload_n 0, 1) := by decide +kernel
theorem dX10_throwAway_36 : decode cX10_throwAway 36 = .ok (.iload_n 1, 1) := by decide +kernel
theorem dX10_throwAway_37 : decode cX10_throwAway 37 = .ok (.invokevirtual 153, 3) := by decide +kernel
theorem dX10_throwAway_40 : decode cX10_throwAway 40 = .ok (.aload_n 0, 1) := by decide +kernel
theorem dX10_throwAway_41 : decode cX10_throwAway 41 = .ok (.getfield 7, 3) := by decide +kernel
theorem dX10_throwAway_44 : decode cX10_throwAway 44 = .ok (.bipush 7, 2) := by decide +kernel
theorem dX10_throwAway_46 : decode cX10_throwAway 46 = .ok (.dup2, 1) := by decide +kernel
theorem dX10_throwAway_47 : decode cX10_throwAway 47 = .ok (.iaload, 1) := by decide +kernel
theorem dX10_throwAway_48 : decode cX10_throwAway 48 = .ok (.iconst 1, 1) := by decide +kernel
theorem dX10_throwAway_49 : decode cX10_throwAway 49 = .ok (.iadd, 1) := by decide +kernel
theorem dX10_throwAway_50 : decode cX10_throwAway 50 = .ok (.iastore, 1) := by decide +kernel
theorem dX10_throwAway_51 : decode cX10_throwAway 51 = .ok (.iload_n 2, 1) := by decide +kernel
theorem dX10_throwAway_52 : decode cX10_throwAway 52 = .ok (.ireturn, 1) := by decide +kernel
theorem dX10_fishOf_0 : decode cX10_fishOf 0 = .ok (.aload_n 0, 1) := by decide +kernel
theorem dX10_fishOf_1 : decode cX10_fishOf 1 = .ok (.aload_n 0, 1) := by decide +kernel
theorem dX10_fishOf_2 : decode cX10_fishOf 2 = .ok (.iload_n 1, 1) := by decide +kernel
theorem dX10_fishOf_3 : decode cX10_fishOf 3 = .ok (.invokevirtual 121, 3) := by decide +kernel
theorem dX10_fishOf_6 : decode cX10_fishOf 6 = .ok (.ifCond .ne 7, 3) := by decide +kernel
theorem dX10_fishOf_9 : decode cX10_fishOf 9 = .ok (.iconst 1, 1) := by decide +kernel
theorem dX10_fishOf_10 : decode cX10_fishOf 10 = .ok (.goto 18, 3) := by decide +kernel
theorem dX10_fishOf_13 : decode cX10_fishOf 13 = .ok (.iload_n 2, 1) := by decide +kernel
theorem dX10_fishOf_14 : decode cX10_fishOf 14 = .ok (.iconst 0, 1) := by decide +kernel
theorem dX10_fishOf_15 : decode cX10_fishOf 15 = .ok (.bipush 8, 2) := by decide +kernel
theorem dX10_fishOf_17 : decode cX10_fishOf 17 = .ok (.invokestatic 65, 3) := by decide +kernel
theorem dX10_fishOf_20 : decode cX10_fishOf 20 = .ok (.ifCond .eq 7, 3) := by decide +kernel
theorem dX10_fishOf_23 : decode cX10_fishOf 23 = .ok (.iconst 0, 1) := by decide +kernel
theorem dX10_fishOf_24 : decode cX10_fishOf 24 = .ok (.goto 4, 3) := by decide +kernel
theorem dX10_fishOf_27 : decode cX10_fishOf 27 = .ok (.iconst 2, 1) := by decide +kernel
theorem dX10_fishOf_28 : decode cX10_fishOf 28 = .ok (.invokevirtual 156, 3) := by decide +kernel
theorem dX10_fishOf_31 : decode cX10_fishOf 31 = .ok (.ifCond .eq 5, 3) := by decide +kernel
theorem dX10_fishOf_34 : decode cX10_fishOf 34 = .ok (.iconst 0, 1) := by decide +kernel
theorem dX10_fishOf_35 : decode cX10_fishOf 35 = .ok (.ireturn, 1) := by decide +kernel
theorem dX10_fishOf_36 : decode cX10_fishOf 36 = .ok (.iload_n 2, 1) := by decide +kernel
theorem dX10_fishOf_37 : decode cX10_fishOf 37 = .ok (.bipush 7, 2) := by decide +kernel
theorem dX10_fishOf_39 : decode cX10_fishOf 39 = .ok (.if_icmp .ne 11, 3) := by decide +kernel
theorem dX10_fishOf_42 : decode cX10_fishOf 42 = .ok (.aload_n 0, 1) := by decide +kernel
theorem dX10_fishOf_43 : decode cX10_fishOf 43 = .ok (.iload_n 1, 1) := by decide +kernel
theorem dX10_fishOf_44 : decode cX10_fishOf 44 = .ok (.invokevirtual 107, 3) := by decide +kernel
theorem dX10_fishOf_47 : decode cX10_fishOf 47 = .ok (.goto 23, 3) := by decide +kernel
theorem dX10_fishOf_50 : decode cX10_fishOf 50 = .ok (.iload_n 2, 1) := by decide +kernel
theorem dX10_fishOf_51 : decode cX10_fishOf 51 = .ok (.bipush 8, 2) := by decide +kernel
theorem dX10_fishOf_53 : decode cX10_fishOf 53 = .ok (.if_icmp .ne 11, 3) := by decide +kernel
theorem dX10_fishOf_56 : decode cX10_fishOf 56 = .ok (.aload_n 0, 1) := by decide +kernel
theorem dX10_fishOf_57 : decode cX10_fishOf 57 = .ok (.iload_n 1, 1) := by decide +kernel
theorem dX10_fishOf_58 : decode cX10_fishOf 58 = .ok (.invokevirtual 87, 3) := by decide +kernel
theorem dX10_fishOf_61 : decode cX10_fishOf 61 = .ok (.goto 9, 3) := by decide +kernel
theorem dX10_fishOf_64 : decode cX10_fishOf 64 = .ok (.aload_n 0, 1) := by decide +kernel
theorem dX10_fishOf_65 : decode cX10_fishOf 65 = .ok (.iload_n 1, 1) := by decide +kernel
theorem dX10_fishOf_66 : decode cX10_fishOf 66 = .ok (.iload_n 2, 1) := by decide +kernel
theorem dX10_fishOf_67 : decode cX10_fishOf 67 = .ok (.invokevirtual 69, 3) := by decide +kernel
theorem dX10_fishOf_70 : decode cX10_fishOf 70 = .ok (.ireturn, 1) := by decide +kernel
theorem dX10_sideOf_0 : decode cX10_sideOf 0 = .ok (.aload_n 0, 1) := by decide +kernel
theorem dX10_sideOf_1 : decode cX10_sideOf 1 = .ok (.aload_n 0, 1) := by decide +kernel
theorem dX10_sideOf_2 : decode cX10_sideOf 2 = .ok (.iload_n 1, 1) := by decide +kernel
theorem dX10_sideOf_3 : decode cX10_sideOf 3 = .ok (.invokevirtual 121, 3) := by decide +kernel
theorem dX10_sideOf_6 : decode cX10_sideOf 6 = .ok (.ifCond .ne 7, 3) := by decide +kernel
theorem dX10_sideOf_9 : decode cX10_sideOf 9 = .ok (.iconst 1, 1) := by decide +kernel
theorem dX10_sideOf_10 : decode cX10_sideOf 10 = .ok (.goto 17, 3) := by decide +kernel
theorem dX10_sideOf_13 : decode cX10_sideOf 13 = .ok (.iload_n 2, 1) := by decide +kernel
theorem dX10_sideOf_14 : decode cX10_sideOf 14 = .ok (.iconst 0, 1) := by decide +kernel
theorem dX10_sideOf_15 : decode cX10_sideOf 15 = .ok (.iconst 1, 1) := by decide +kernel
theorem dX10_sideOf_16 : decode cX10_sideOf 16 = .ok (.invokestatic 65, 3) := by decide +kernel
theorem dX10_sideOf_19 : decode cX10_sideOf 19 = .ok (.ifCond .eq 7, 3) := by decide +kernel
theorem dX10_sideOf_22 : decode cX10_sideOf 22 = .ok (.iconst 0, 1) := by decide +kernel
theorem dX10_sideOf_23 : decode cX10_sideOf 23 = .ok (.goto 4, 3) := by decide +kernel
theorem dX10_sideOf_26 : decode cX10_sideOf 26 = .ok (.iconst 2, 1) := by decide +kernel
theorem dX10_sideOf_27 : decode cX10_sideOf 27 = .ok (.invokevirtual 156, 3) := by decide +kernel
theorem dX10_sideOf_30 : decode cX10_sideOf 30 = .ok (.ifCond .eq 5, 3) := by decide +kernel
theorem dX10_sideOf_33 : decode cX10_sideOf 33 = .ok (.iconst 0, 1) := by decide +kernel
theorem dX10_sideOf_34 : decode cX10_sideOf 34 = .ok (.ireturn, 1) := by decide +kernel
theorem dX10_sideOf_35 : decode cX10_sideOf 35 = .ok (.aload_n 0, 1) := by decide +kernel
theorem dX10_sideOf_36 : decode cX10_sideOf 36 = .ok (.iload_n 1, 1) := by decide +kernel
theorem dX10_sideOf_37 : decode cX10_sideOf 37 = .ok (.iload_n 3, 1) := by decide +kernel
theorem dX10_sideOf_38 : decode cX10_sideOf 38 = .ok (.ifCond .eq 8, 3) := by decide +kernel
theorem dX10_sideOf_41 : decode cX10_sideOf 41 = .ok (.bipush 9, 2) := by decide +kernel
theorem dX10_sideOf_43 : decode cX10_sideOf 43 = .ok (.goto 5, 3) := by decide +kernel
theorem dX10_sideOf_46 : decode cX10_sideOf 46 = .ok (.bipush 7, 2) := by decide +kernel
theorem dX10_sideOf_48 : decode cX10_sideOf 48 = .ok (.iload_n 2, 1) := by decide +kernel
theorem dX10_sideOf_49 : decode cX10_sideOf 49 = .ok (.iadd, 1) := by decide +kernel
theorem dX10_sideOf_50 : decode cX10_sideOf 50 = .ok (.invokevirtual 69, 3) := by decide +kernel
theorem dX10_sideOf_53 : decode cX10_sideOf 53 = .ok (.ireturn, 1) := by decide +kernel
theorem dX10_at_0 : decode cX10_at 0 = .ok (.aload_n 0, 1) := by decide +kernel
theorem dX10_at_1 : decode cX10_at 1 = .ok (.iload_n 1, 1) := by decide +kernel
theorem dX10_at_2 : decode cX10_at 2 = .ok (.iload_n 2, 1) := by decide +kernel
theorem dX10_at_3 : decode cX10_at 3 = .ok (.invokestatic 127, 3) := by decide +kernel
theorem dX10_at_6 : decode cX10_at 6 = .ok (.ifCond .eq 7, 3) := by decide +kernel
theorem dX10_at_9 : decode cX10_at 9 = .ok (.iconst 0, 1) := by decide +kernel
theorem dX10_at_10 : decode cX10_at 10 = .ok (.goto 4, 3) := by decide +kernel
theorem dX10_at_13 : decode cX10_at 13 = .ok (.iconst 1, 1) := by decide +kernel
theorem dX10_at_14 : decode cX10_at 14 = .ok (.invokevirtual 156, 3) := by decide +kernel
theorem dX10_at_17 : decode cX10_at 17 = .ok (.ifCond .eq 5, 3) := by decide +kernel
theorem dX10_at_20 : decode cX10_at 20 = .ok (.iconst 0, 1) := by decide +kernel
theorem dX10_at_21 : decode cX10_at 21 = .ok (.ireturn, 1) := by decide +kernel
theorem dX10_at_22 : decode cX10_at 22 = .ok (.aload_n 0, 1) := by decide +kernel
theorem dX10_at_23 : decode cX10_at 23 = .ok (.aload_n 0, 1) := by decide +kernel
theorem dX10_at_24 : decode cX10_at 24 = .ok (.iload_n 1, 1) := by decide +kernel
theorem dX10_at_25 : decode cX10_at 25 = .ok (.iload_n 2, 1) := by decide +kernel
theorem dX10_at_26 : decode cX10_at 26 = .ok (.invokevirtual 131, 3) := by decide +kernel
theorem dX10_at_29 : decode cX10_at 29 = .ok (.ifCond .ge 7, 3) := by decide +kernel
theorem dX10_at_32 : decode cX10_at 32 = .ok (.iconst 2, 1) := by decide +kernel
theorem dX10_at_33 : decode cX10_at 33 = .ok (.goto 4, 3) := by decide +kernel
theorem dX10_at_36 : decode cX10_at 36 = .ok (.iconst 0, 1) := by decide +kernel
theorem dX10_at_37 : decode cX10_at 37 = .ok (.invokevirtual 156, 3) := by decide +kernel
theorem dX10_at_40 : decode cX10_at 40 = .ok (.ifCond .eq 7, 3) := by decide +kernel
theorem dX10_at_43 : decode cX10_at 43 = .ok (.iconst 0, 1) := by decide +kernel
theorem dX10_at_44 : decode cX10_at 44 = .ok (.goto 9, 3) := by decide +kernel
theorem dX10_at_47 : decode cX10_at 47 = .ok (.aload_n 0, 1) := by decide +kernel
theorem dX10_at_48 : decode cX10_at 48 = .ok (.iload_n 1, 1) := by decide +kernel
theorem dX10_at_49 : decode cX10_at 49 = .ok (.iload_n 2, 1) := by decide +kernel
theorem dX10_at_50 : decode cX10_at 50 = .ok (.invokevirtual 131, 3) := by decide +kernel
theorem dX10_at_53 : decode cX10_at 53 = .ok (.ireturn, 1) := by decide +kernel
theorem dX10_heat_0 : decode cX10_heat 0 = .ok (.aload_n 0, 1) := by decide +kernel
theorem dX10_heat_1 : decode cX10_heat 1 = .ok (.iload_n 1, 1) := by decide +kernel
theorem dX10_heat_2 : decode cX10_heat 2 = .ok (.iconst 0, 1) := by decide +kernel
theorem dX10_heat_3 : decode cX10_heat 3 = .ok (.iconst 3, 1) := by decide +kernel
theorem dX10_heat_4 : decode cX10_heat 4 = .ok (.invokestatic 65, 3) := by decide +kernel
theorem dX10_heat_7 : decode cX10_heat 7 = .ok (.ifCond .eq 7, 3) := by decide +kernel
theorem dX10_heat_10 : decode cX10_heat 10 = .ok (.iconst 0, 1) := by decide +kernel
theorem dX10_heat_11 : decode cX10_heat 11 = .ok (.goto 4, 3) := by decide +kernel
theorem dX10_heat_14 : decode cX10_heat 14 = .ok (.iconst 1, 1) := by decide +kernel
theorem dX10_heat_15 : decode cX10_heat 15 = .ok (.invokevirtual 156, 3) := by decide +kernel
theorem dX10_heat_18 : decode cX10_heat 18 = .ok (.ifCond .eq 7, 3) := by decide +kernel
theorem dX10_heat_21 : decode cX10_heat 21 = .ok (.iconst 0, 1) := by decide +kernel
theorem dX10_heat_22 : decode cX10_heat 22 = .ok (.goto 8, 3) := by decide +kernel
theorem dX10_heat_25 : decode cX10_heat 25 = .ok (.aload_n 0, 1) := by decide +kernel
theorem dX10_heat_26 : decode cX10_heat 26 = .ok (.iload_n 1, 1) := by decide +kernel
theorem dX10_heat_27 : decode cX10_heat 27 = .ok (.invokevirtual 97, 3) := by decide +kernel
theorem dX10_heat_30 : decode cX10_heat 30 = .ok (.ireturn, 1) := by decide +kernel
theorem dX10_nearest_0 : decode cX10_nearest 0 = .ok (.aload_n 0, 1) := by decide +kernel
theorem dX10_nearest_1 : decode cX10_nearest 1 = .ok (.aload_n 0, 1) := by decide +kernel
theorem dX10_nearest_2 : decode cX10_nearest 2 = .ok (.iload_n 1, 1) := by decide +kernel
theorem dX10_nearest_3 : decode cX10_nearest 3 = .ok (.invokevirtual 121, 3) := by decide +kernel
theorem dX10_nearest_6 : decode cX10_nearest 6 = .ok (.ifCond .eq 7, 3) := by decide +kernel
theorem dX10_nearest_9 : decode cX10_nearest 9 = .ok (.iconst 0, 1) := by decide +kernel
theorem dX10_nearest_10 : decode cX10_nearest 10 = .ok (.goto 4, 3) := by decide +kernel
theorem dX10_nearest_13 : decode cX10_nearest 13 = .ok (.iconst 1, 1) := by decide +kernel
theorem dX10_nearest_14 : decode cX10_nearest 14 = .ok (.invokevirtual 156, 3) := by decide +kernel
theorem dX10_nearest_17 : decode cX10_nearest 17 = .ok (.ifCond .eq 5, 3) := by decide +kernel
theorem dX10_nearest_20 : decode cX10_nearest 20 = .ok (.iconst 0, 1) := by decide +kernel
theorem dX10_nearest_21 : decode cX10_nearest 21 = .ok (.ireturn, 1) := by decide +kernel
theorem dX10_nearest_22 : decode cX10_nearest 22 = .ok (.aload_n 0, 1) := by decide +kernel
theorem dX10_nearest_23 : decode cX10_nearest 23 = .ok (.iload_n 1, 1) := by decide +kernel
theorem dX10_nearest_24 : decode cX10_nearest 24 = .ok (.invokevirtual 73, 3) := by decide +kernel
theorem dX10_nearest_27 : decode cX10_nearest 27 = .ok (.ifCond .eq 23, 3) := by decide +kernel
theorem dX10_nearest_30 : decode cX10_nearest 30 = .ok (.aload_n 0, 1) := by decide +kernel
theorem dX10_nearest_31 : decode cX10_nearest 31 = .ok (.iload_n 1, 1) := by decide +kernel
theorem dX10_nearest_32 : decode cX10_nearest 32 = .ok (.aload_n 0, 1) := by decide +kernel
theorem dX10_nearest_33 : decode cX10_nearest 33 = .ok (.iload_n 1, 1) := by decide +kernel
theorem dX10_nearest_34 : decode cX10_nearest 34 = .ok (.iconst 3, 1) := by decide +kernel
theorem dX10_nearest_35 : decode cX10_nearest 35 = .ok (.invokevirtual 69, 3) := by decide +kernel
theorem dX10_nearest_38 : decode cX10_nearest 38 = .ok (.aload_n 0, 1) := by decide +kernel
theorem dX10_nearest_39 : decode cX10_nearest 39 = .ok (.iload_n 1, 1) := by decide +kernel
theorem dX10_nearest_40 : decode cX10_nearest 40 = .ok (.iconst 4, 1) := by decide +kernel
theorem dX10_nearest_41 : decode cX10_nearest 41 = .ok (.invokevirtual 69, 3) := by decide +kernel
theorem dX10_nearest_44 : decode cX10_nearest 44 = .ok (.invokevirtual 83, 3) := by decide +kernel
theorem dX10_nearest_47 : decode cX10_nearest 47 = .ok (.goto 5, 3) := by decide +kernel
theorem dX10_nearest_50 : decode cX10_nearest 50 = .ok (.bipush 99, 2) := by decide +kernel
theorem dX10_nearest_52 : decode cX10_nearest 52 = .ok (.istore_n 2, 1) := by decide +kernel
theorem dX10_nearest_53 : decode cX10_nearest 53 = .ok (.aload_n 0, 1) := by decide +kernel
theorem dX10_nearest_54 : decode cX10_nearest 54 = .ok (.iload_n 2, 1) := by decide +kernel
theorem dX10_nearest_55 : decode cX10_nearest 55 = .ok (.bipush 99, 2) := by decide +kernel
theorem dX10_nearest_57 : decode cX10_nearest 57 = .ok (.if_icmp .ne 7, 3) := by decide +kernel
theorem dX10_nearest_60 : decode cX10_nearest 60 = .ok (.iconst 2, 1) := by decide +kernel
theorem dX10_nearest_61 : decode cX10_nearest 61 = .ok (.goto 4, 3) := by decide +kernel
theorem dX10_nearest_64 : decode cX10_nearest 64 = .ok (.iconst 0, 1) := by decide +kernel
theorem dX10_nearest_65 : decode cX10_nearest 65 = .ok (.invokevirtual 156, 3) := by decide +kernel
theorem dX10_nearest_68 : decode cX10_nearest 68 = .ok (.ifCond .eq 7, 3) := by decide +kernel
theorem dX10_nearest_71 : decode cX10_nearest 71 = .ok (.iconst 0, 1) := by decide +kernel
theorem dX10_nearest_72 : decode cX10_nearest 72 = .ok (.goto 4, 3) := by decide +kernel
theorem dX10_nearest_75 : decode cX10_nearest 75 = .ok (.iload_n 2, 1) := by decide +kernel
theorem dX10_nearest_76 : decode cX10_nearest 76 = .ok (.ireturn, 1) := by decide +kernel
theorem dX10_isCrowded_0 : decode cX10_isCrowded 0 = .ok (.aload_n 0, 1) := by decide +kernel
theorem dX10_isCrowded_1 : decode cX10_isCrowded 1 = .ok (.aload_n 0, 1) := by decide +kernel
theorem dX10_isCrowded_2 : decode cX10_isCrowded 2 = .ok (.iload_n 1, 1) := by decide +kernel
theorem dX10_isCrowded_3 : decode cX10_isCrowded 3 = .ok (.invokevirtual 121, 3) := by decide +kernel
theorem dX10_isCrowded_6 : decode cX10_isCrowded 6 = .ok (.ifCond .eq 7, 3) := by decide +kernel
theorem dX10_isCrowded_9 : decode cX10_isCrowded 9 = .ok (.iconst 0, 1) := by decide +kernel
theorem dX10_isCrowded_10 : decode cX10_isCrowded 10 = .ok (.goto 4, 3) := by decide +kernel
theorem dX10_isCrowded_13 : decode cX10_isCrowded 13 = .ok (.iconst 1, 1) := by decide +kernel
theorem dX10_isCrowded_14 : decode cX10_isCrowded 14 = .ok (.invokevirtual 156, 3) := by decide +kernel
theorem dX10_isCrowded_17 : decode cX10_isCrowded 17 = .ok (.ifCond .ne 15, 3) := by decide +kernel
theorem dX10_isCrowded_20 : decode cX10_isCrowded 20 = .ok (.aload_n 0, 1) := by decide +kernel
theorem dX10_isCrowded_21 : decode cX10_isCrowded 21 = .ok (.iload_n 1, 1) := by decide +kernel
theorem dX10_isCrowded_22 : decode cX10_isCrowded 22 = .ok (.invokevirtual 100, 3) := by decide +kernel
theorem dX10_isCrowded_25 : decode cX10_isCrowded 25 = .ok (.ifCond .eq 7, 3) := by decide +kernel
theorem dX10_isCrowded_28 : decode cX10_isCrowded 28 = .ok (.iconst 1, 1) := by decide +kernel
theorem dX10_isCrowded_29 : decode cX10_isCrowded 29 = .ok (.goto 4, 3) := by decide +kernel
theorem dX10_isCrowded_32 : decode cX10_isCrowded 32 = .ok (.iconst 0, 1) := by decide +kernel
theorem dX10_isCrowded_33 : decode cX10_isCrowded 33 = .ok (.ireturn, 1) := by decide +kernel
theorem dX10_isDone_0 : decode cX10_isDone 0 = .ok (.aload_n 0, 1) := by decide +kernel
theorem dX10_isDone_1 : decode cX10_isDone 1 = .ok (.aload_n 0, 1) := by decide +kernel
theorem dX10_isDone_2 : decode cX10_isDone 2 = .ok (.iload_n 1, 1) := by decide +kernel
theorem dX10_isDone_3 : decode cX10_isDone 3 = .ok (.invokevirtual 121, 3) := by decide +kernel
theorem dX10_isDone_6 : decode cX10_isDone 6 = .ok (.ifCond .eq 7, 3) := by decide +kernel
theorem dX10_isDone_9 : decode cX10_isDone 9 = .ok (.iconst 0, 1) := by decide +kernel
theorem dX10_isDone_10 : decode cX10_isDone 10 = .ok (.goto 4, 3) := by decide +kernel
theorem dX10_isDone_13 : decode cX10_isDone 13 = .ok (.iconst 1, 1) := by decide +kernel
theorem dX10_isDone_14 : decode cX10_isDone 14 = .ok (.invokevirtual 156, 3) := by decide +kernel
theorem dX10_isDone_17 : decode cX10_isDone 17 = .ok (.ifCond .ne 15, 3) := by decide +kernel
theorem dX10_isDone_20 : decode cX10_isDone 20 = .ok (.aload_n 0, 1) := by decide +kernel
theorem dX10_isDone_21 : decode cX10_isDone 21 = .ok (.iload_n 1, 1) := by decide +kernel
theorem dX10_isDone_22 : decode cX10_isDone 22 = .ok (.invokevirtual 147, 3) := by decide +kernel
theorem dX10_isDone_25 : decode cX10_isDone 25 = .ok (.ifCond .eq 7, 3) := by decide +kernel
theorem dX10_isDone_28 : decode cX10_isDone 28 = .ok (.iconst 1, 1) := by decide +kernel
theorem dX10_isDone_29 : decode cX10_isDone 29 = .ok (.goto 4, 3) := by decide +kernel
theorem dX10_isDone_32 : decode cX10_isDone 32 = .ok (.iconst 0, 1) := by decide +kernel
theorem dX10_isDone_33 : decode cX10_isDone 33 = .ok (.ireturn, 1) := by decide +kernel
theorem dX10_wouldChar_0 : decode cX10_wouldChar 0 = .ok (.aload_n 0, 1) := by decide +kernel
theorem dX10_wouldChar_1 : decode cX10_wouldChar 1 = .ok (.aload_n 0, 1) := by decide +kernel
theorem dX10_wouldChar_2 : decode cX10_wouldChar 2 = .ok (.iload_n 1, 1) := by decide +kernel
theorem dX10_wouldChar_3 : decode cX10_wouldChar 3 = .ok (.invokevirtual 121, 3) := by decide +kernel
theorem dX10_wouldChar_6 : decode cX10_wouldChar 6 = .ok (.ifCond .ne 7, 3) := by decide +kernel
theorem dX10_wouldChar_9 : decode cX10_wouldChar 9 = .ok (.iconst 1, 1) := by decide +kernel
theorem dX10_wouldChar_10 : decode cX10_wouldChar 10 = .ok (.goto 18, 3) := by decide +kernel
theorem dX10_wouldChar_13 : decode cX10_wouldChar 13 = .ok (.iload_n 2, 1) := by decide +kernel
theorem dX10_wouldChar_14 : decode cX10_wouldChar 14 = .ok (.iconst 0, 1) := by decide +kernel
theorem dX10_wouldChar_15 : decode cX10_wouldChar 15 = .ok (.bipush 24, 2) := by decide +kernel
theorem dX10_wouldChar_17 : decode cX10_wouldChar 17 = .ok (.invokestatic 65, 3) := by decide +kernel
theorem dX10_wouldChar_20 : decode cX10_wouldChar 20 = .ok (.ifCond .eq 7, 3) := by decide +kernel
theorem dX10_wouldChar_23 : decode cX10_wouldChar 23 = .ok (.iconst 0, 1) := by decide +kernel
theorem dX10_wouldChar_24 : decode cX10_wouldChar 24 = .ok (.goto 4, 3) := by decide +kernel
theorem dX10_wouldChar_27 : decode cX10_wouldChar 27 = .ok (.iconst 2, 1) := by decide +kernel
theorem dX10_wouldChar_28 : decode cX10_wouldChar 28 = .ok (.invokevirtual 156, 3) := by decide +kernel
theorem dX10_wouldChar_31 : decode cX10_wouldChar 31 = .ok (.ifCond .eq 5, 3) := by decide +kernel
theorem dX10_wouldChar_34 : decode cX10_wouldChar 34 = .ok (.iconst 0, 1) := by decide +kernel
theorem dX10_wouldChar_35 : decode cX10_wouldChar 35 = .ok (.ireturn, 1) := by decide +kernel
theorem dX10_wouldChar_36 : decode cX10_wouldChar 36 = .ok (.aload_n 0, 1) := by decide +kernel
theorem dX10_wouldChar_37 : decode cX10_wouldChar 37 = .ok (.getfield 7, 3) := by decide +kernel
theorem dX10_wouldChar_40 : decode cX10_wouldChar 40 = .ok (.iconst 0, 1) := by decide +kernel
theorem dX10_wouldChar_41 : decode cX10_wouldChar 41 = .ok (.aload_n 0, 1) := by decide +kernel
theorem dX10_wouldChar_42 : decode cX10_wouldChar 42 = .ok (.getfield 22, 3) := by decide +kernel
theorem dX10_wouldChar_45 : decode cX10_wouldChar 45 = .ok (.iconst 0, 1) := by decide +kernel
theorem dX10_wouldChar_46 : decode cX10_wouldChar 46 = .ok (.invokestatic 61, 3) := by decide +kernel
theorem dX10_wouldChar_49 : decode cX10_wouldChar 49 = .ok (.iconst 0, 1) := by decide +kernel
theorem dX10_wouldChar_50 : decode cX10_wouldChar 50 = .ok (.istore_n 3, 1) := by decide +kernel
theorem dX10_wouldChar_51 : decode cX10_wouldChar 51 = .ok (.iload_n 3, 1) := by decide +kernel
theorem dX10_wouldChar_52 : decode cX10_wouldChar 52 = .ok (.iload_n 2, 1) := by decide +kernel
theorem dX10_wouldChar_53 : decode cX10_wouldChar 53 = .ok (.if_icmp .ge 13, 3) := by decide +kernel
theorem dX10_wouldChar_56 : decode cX10_wouldChar 56 = .ok (.aload_n 0, 1) := by decide +kernel
theorem dX10_wouldChar_57 : decode cX10_wouldChar 57 = .ok (.invokevirtual 140, 3) := by decide +kernel
theorem dX10_wouldChar_60 : decode cX10_wouldChar 60 = .ok (.iinc 3 1, 3) := by decide +kernel
theorem dX10_wouldChar_63 : decode cX10_wouldChar 63 = .ok (.goto (-12), 3) := by decide +kernel
theorem dX10_wouldChar_66 : decode cX10_wouldChar 66 = .ok (.aload_n 0, 1) := by decide +kernel
theorem dX10_wouldChar_67 : decode cX10_wouldChar 67 = .ok (.iload_n 1, 1) := by decide +kernel
theorem dX10_wouldChar_68 : decode cX10_wouldChar 68 = .ok (.bipush 9, 2) := by decide +kernel
theorem dX10_wouldChar_70 : decode cX10_wouldChar 70 = .ok (.aload_n 0, 1) := by decide +kernel
theorem dX10_wouldChar_71 : decode cX10_wouldChar 71 = .ok (.iload_n 1, 1) := by decide +kernel
theorem dX10_wouldChar_72 : decode cX10_wouldChar 72 = .ok (.iconst 5, 1) := by decide +kernel
theorem dX10_wouldChar_73 : decode cX10_wouldChar 73 = .ok (.invokevirtual 69, 3) := by decide +kernel
theorem dX10_wouldChar_76 : decode cX10_wouldChar 76 = .ok (.iadd, 1) := by decide +kernel
theorem dX10_wouldChar_77 : decode cX10_wouldChar 77 = .ok (.invokevirtual 69, 3) := by decide +kernel
theorem dX10_wouldChar_80 : decode cX10_wouldChar 80 = .ok (.istore_n 3, 1) := by decide +kernel
theorem dX10_wouldChar_81 : decode cX10_wouldChar 81 = .ok (.aload_n 0, 1) := by decide +kernel
theorem dX10_wouldChar_82 : decode cX10_wouldChar 82 = .ok (.getfield 22, 3) := by decide +kernel
theorem dX10_wouldChar_85 : decode cX10_wouldChar 85 = .ok (.iconst 0, 1) := by decide +kernel
theorem dX10_wouldChar_86 : decode cX10_wouldChar 86 = .ok (.aload_n 0, 1) := by decide +kernel
theorem dX10_wouldChar_87 : decode cX10_wouldChar 87 = .ok (.getfield 7, 3) := by decide +kernel
theorem dX10_wouldChar_90 : decode cX10_wouldChar 90 = .ok (.iconst 0, 1) := by decide +kernel
theorem dX10_wouldChar_91 : decode cX10_wouldChar 91 = .ok (.invokestatic 61, 3) := by decide +kernel
theorem dX10_wouldChar_94 : decode cX10_wouldChar 94 = .ok (.iload_n 3, 1) := by decide +kernel
theorem dX10_wouldChar_95 : decode cX10_wouldChar 95 = .ok (.ireturn, 1) := by decide +kernel
theorem dX10_wouldCharAgain_0 : decode cX10_wouldCharAgain 0 = .ok (.aload_n 0, 1) := by decide +kernel
theorem dX10_wouldCharAgain_1 : decode cX10_wouldCharAgain 1 = .ok (.iload_n 1, 1) := by decide +kernel
theorem dX10_wouldCharAgain_2 : decode cX10_wouldCharAgain 2 = .ok (.iload_n 2, 1) := by decide +kernel
theorem dX10_wouldCharAgain_3 : decode cX10_wouldCharAgain 3 = .ok (.invokevirtual 159, 3) := by decide +kernel
theorem dX10_wouldCharAgain_6 : decode cX10_wouldCharAgain 6 = .ok (.ireturn, 1) := by decide +kernel
theorem dX10_burns_0 : decode cX10_burns 0 = .ok (.aload_n 0, 1) := by decide +kernel
theorem dX10_burns_1 : decode cX10_burns 1 = .ok (.getfield 7, 3) := by decide +kernel
theorem dX10_burns_4 : decode cX10_burns 4 = .ok (.iconst 0, 1) := by decide +kernel
theorem dX10_burns_5 : decode cX10_burns 5 = .ok (.aload_n 0, 1) := by decide +kernel
theorem dX10_burns_6 : decode cX10_burns 6 = .ok (.getfield 22, 3) := by decide +kernel
theorem dX10_burns_9 : decode cX10_burns 9 = .ok (.iconst 0, 1) := by decide +kernel
theorem dX10_burns_10 : decode cX10_burns 10 = .ok (.invokestatic 61, 3) := by decide +kernel
theorem dX10_burns_13 : decode cX10_burns 13 = .ok (.iconst 0, 1) := by decide +kernel
theorem dX10_burns_14 : decode cX10_burns 14 = .ok (.istore_n 2, 1) := by decide +kernel
theorem dX10_burns_15 : decode cX10_burns 15 = .ok (.aload_n 0, 1) := by decide +kernel
theorem dX10_burns_16 : decode cX10_burns 16 = .ok (.iload_n 1, 1) := by decide +kernel
theorem dX10_burns_17 : decode cX10_burns 17 = .ok (.invokevirtual 91, 3) := by decide +kernel
theorem dX10_burns_20 : decode cX10_burns 20 = .ok (.ifCond .ne 22, 3) := by decide +kernel
theorem dX10_burns_23 : decode cX10_burns 23 = .ok (.aload_n 0, 1) := by decide +kernel
theorem dX10_burns_24 : decode cX10_burns 24 = .ok (.getfield 7, 3) := by decide +kernel
theorem dX10_burns_27 : decode cX10_burns 27 = .ok (.iconst 1, 1) := by decide +kernel
theorem dX10_burns_28 : decode cX10_burns 28 = .ok (.iaload, 1) := by decide +kernel
theorem dX10_burns_29 : decode cX10_burns 29 = .ok (.ifCond .le 13, 3) := by decide +kernel
theorem dX10_burns_32 : decode cX10_burns 32 = .ok (.aload_n 0, 1) := by decide +kernel
theorem dX10_burns_33 : decode cX10_burns 33 = .ok (.invokevirtual 140, 3) := by decide +kernel
theorem dX10_burns_36 : decode cX10_burns 36 = .ok (.iinc 2 1, 3) := by decide +kernel
theorem dX10_burns_39 : decode cX10_burns 39 = .ok (.goto (-24), 3) := by decide +kernel
theorem dX10_burns_42 : decode cX10_burns 42 = .ok (.aload_n 0, 1) := by decide +kernel
theorem dX10_burns_43 : decode cX10_burns 43 = .ok (.iload_n 1, 1) := by decide +kernel
theorem dX10_burns_44 : decode cX10_burns 44 = .ok (.invokevirtual 91, 3) := by decide +kernel
theorem dX10_burns_47 : decode cX10_burns 47 = .ok (.istore_n 3, 1) := by decide +kernel
theorem dX10_burns_48 : decode cX10_burns 48 = .ok (.aload_n 0, 1) := by decide +kernel
theorem dX10_burns_49 : decode cX10_burns 49 = .ok (.getfield 22, 3) := by decide +kernel
theorem dX10_burns_52 : decode cX10_burns 52 = .ok (.iconst 0, 1) := by decide +kernel
theorem dX10_burns_53 : decode cX10_burns 53 = .ok (.aload_n 0, 1) := by decide +kernel
theorem dX10_burns_54 : decode cX10_burns 54 = .ok (.getfield 7, 3) := by decide +kernel
theorem dX10_burns_57 : decode cX10_burns 57 = .ok (.iconst 0, 1) := by decide +kernel
theorem dX10_burns_58 : decode cX10_burns 58 = .ok (.invokestatic 61, 3) := by decide +kernel
theorem dX10_burns_61 : decode cX10_burns 61 = .ok (.iload_n 3, 1) := by decide +kernel
theorem dX10_burns_62 : decode cX10_burns 62 = .ok (.ifCond .eq 7, 3) := by decide +kernel
theorem dX10_burns_65 : decode cX10_burns 65 = .ok (.iload_n 2, 1) := by decide +kernel
theorem dX10_burns_66 : decode cX10_burns 66 = .ok (.goto 5, 3) := by decide +kernel
theorem dX10_burns_69 : decode cX10_burns 69 = .ok (.bipush 99, 2) := by decide +kernel
theorem dX10_burns_71 : decode cX10_burns 71 = .ok (.ireturn, 1) := by decide +kernel
theorem dX10_burnsIn_0 : decode cX10_burnsIn 0 = .ok (.aload_n 0, 1) := by decide +kernel
theorem dX10_burnsIn_1 : decode cX10_burnsIn 1 = .ok (.aload_n 0, 1) := by decide +kernel
theorem dX10_burnsIn_2 : decode cX10_burnsIn 2 = .ok (.iload_n 1, 1) := by decide +kernel
theorem dX10_burnsIn_3 : decode cX10_burnsIn 3 = .ok (.invokevirtual 121, 3) := by decide +kernel
theorem dX10_burnsIn_6 : decode cX10_burnsIn 6 = .ok (.ifCond .eq 7, 3) := by decide +kernel
theorem dX10_burnsIn_9 : decode cX10_burnsIn 9 = .ok (.iconst 0, 1) := by decide +kernel
theorem dX10_burnsIn_10 : decode cX10_burnsIn 10 = .ok (.goto 4, 3) := by decide +kernel
theorem dX10_burnsIn_13 : decode cX10_burnsIn 13 = .ok (.iconst 1, 1) := by decide +kernel
theorem dX10_burnsIn_14 : decode cX10_burnsIn 14 = .ok (.invokevirtual 156, 3) := by decide +kernel
theorem dX10_burnsIn_17 : decode cX10_burnsIn 17 = .ok (.ifCond .eq 5, 3) := by decide +kernel
theorem dX10_burnsIn_20 : decode cX10_burnsIn 20 = .ok (.iconst 0, 1) := by decide +kernel
theorem dX10_burnsIn_21 : decode cX10_burnsIn 21 = .ok (.ireturn, 1) := by decide +kernel
theorem dX10_burnsIn_22 : decode cX10_burnsIn 22 = .ok (.aload_n 0, 1) := by decide +kernel
theorem dX10_burnsIn_23 : decode cX10_burnsIn 23 = .ok (.iload_n 1, 1) := by decide +kernel
theorem dX10_burnsIn_24 : decode cX10_burnsIn 24 = .ok (.invokevirtual 162, 3) := by decide +kernel
theorem dX10_burnsIn_27 : decode cX10_burnsIn 27 = .ok (.istore_n 2, 1) := by decide +kernel
theorem dX10_burnsIn_28 : decode cX10_burnsIn 28 = .ok (.aload_n 0, 1) := by decide +kernel
theorem dX10_burnsIn_29 : decode cX10_burnsIn 29 = .ok (.iload_n 2, 1) := by decide +kernel
theorem dX10_burnsIn_30 : decode cX10_burnsIn 30 = .ok (.bipush 99, 2) := by decide +kernel
theorem dX10_burnsIn_32 : decode cX10_burnsIn 32 = .ok (.if_icmp .ne 7, 3) := by decide +kernel
theorem dX10_burnsIn_35 : decode cX10_burnsIn 35 = .ok (.iconst 2, 1) := by decide +kernel
theorem dX10_burnsIn_36 : decode cX10_burnsIn 36 = .ok (.goto 4, 3) := by decide +kernel
theorem dX10_burnsIn_39 : decode cX10_burnsIn 39 = .ok (.iconst 0, 1) := by decide +kernel
theorem dX10_burnsIn_40 : decode cX10_burnsIn 40 = .ok (.invokevirtual 156, 3) := by decide +kernel
theorem dX10_burnsIn_43 : decode cX10_burnsIn 43 = .ok (.ifCond .eq 7, 3) := by decide +kernel
theorem dX10_burnsIn_46 : decode cX10_burnsIn 46 = .ok (.iconst 0, 1) := by decide +kernel
theorem dX10_burnsIn_47 : decode cX10_burnsIn 47 = .ok (.goto 4, 3) := by decide +kernel
theorem dX10_burnsIn_50 : decode cX10_burnsIn 50 = .ok (.iload_n 2, 1) := by decide +kernel
theorem dX10_burnsIn_51 : decode cX10_burnsIn 51 = .ok (.ireturn, 1) := by decide +kernel
theorem dX10_doneIn_0 : decode cX10_doneIn 0 = .ok (.aload_n 0, 1) := by decide +kernel
theorem dX10_doneIn_1 : decode cX10_doneIn 1 = .ok (.aload_n 0, 1) := by decide +kernel
theorem dX10_doneIn_2 : decode cX10_doneIn 2 = .ok (.iload_n 1, 1) := by decide +kernel
theorem dX10_doneIn_3 : decode cX10_doneIn 3 = .ok (.invokevirtual 121, 3) := by decide +kernel
theorem dX10_doneIn_6 : decode cX10_doneIn 6 = .ok (.ifCond .eq 7, 3) := by decide +kernel
theorem dX10_doneIn_9 : decode cX10_doneIn 9 = .ok (.iconst 0, 1) := by decide +kernel
theorem dX10_doneIn_10 : decode cX10_doneIn 10 = .ok (.goto 4, 3) := by decide +kernel
theorem dX10_doneIn_13 : decode cX10_doneIn 13 = .ok (.iconst 1, 1) := by decide +kernel
theorem dX10_doneIn_14 : decode cX10_doneIn 14 = .ok (.invokevirtual 156, 3) := by decide +kernel
theorem dX10_doneIn_17 : decode cX10_doneIn 17 = .ok (.ifCond .eq 5, 3) := by decide +kernel
theorem dX10_doneIn_20 : decode cX10_doneIn 20 = .ok (.iconst 0, 1) := by decide +kernel
theorem dX10_doneIn_21 : decode cX10_doneIn 21 = .ok (.ireturn, 1) := by decide +kernel
theorem dX10_doneIn_22 : decode cX10_doneIn 22 = .ok (.aload_n 0, 1) := by decide +kernel
theorem dX10_doneIn_23 : decode cX10_doneIn 23 = .ok (.getfield 7, 3) := by decide +kernel
theorem dX10_doneIn_26 : decode cX10_doneIn 26 = .ok (.iconst 0, 1) := by decide +kernel
theorem dX10_doneIn_27 : decode cX10_doneIn 27 = .ok (.aload_n 0, 1) := by decide +kernel
theorem dX10_doneIn_28 : decode cX10_doneIn 28 = .ok (.getfield 22, 3) := by decide +kernel
theorem dX10_doneIn_31 : decode cX10_doneIn 31 = .ok (.iconst 0, 1) := by decide +kernel
theorem dX10_doneIn_32 : decode cX10_doneIn 32 = .ok (.invokestatic 61, 3) := by decide +kernel
theorem dX10_doneIn_35 : decode cX10_doneIn 35 = .ok (.iconst 0, 1) := by decide +kernel
theorem dX10_doneIn_36 : decode cX10_doneIn 36 = .ok (.istore_n 2, 1) := by decide +kernel
theorem dX10_doneIn_37 : decode cX10_doneIn 37 = .ok (.aload_n 0, 1) := by decide +kernel
theorem dX10_doneIn_38 : decode cX10_doneIn 38 = .ok (.iload_n 1, 1) := by decide +kernel
theorem dX10_doneIn_39 : decode cX10_doneIn 39 = .ok (.invokevirtual 147, 3) := by decide +kernel
theorem dX10_doneIn_42 : decode cX10_doneIn 42 = .ok (.ifCond .ne 35, 3) := by decide +kernel
theorem dX10_doneIn_45 : decode cX10_doneIn 45 = .ok (.aload_n 0, 1) := by decide +kernel
theorem dX10_doneIn_46 : decode cX10_doneIn 46 = .ok (.iload_n 1, 1) := by decide +kernel
theorem dX10_doneIn_47 : decode cX10_doneIn 47 = .ok (.invokevirtual 73, 3) := by decide +kernel
theorem dX10_doneIn_50 : decode cX10_doneIn 50 = .ok (.ifCond .eq 27, 3) := by decide +kernel
theorem dX10_doneIn_53 : decode cX10_doneIn 53 = .ok (.aload_n 0, 1) := by decide +kernel
theorem dX10_doneIn_54 : decode cX10_doneIn 54 = .ok (.getfield 7, 3) := by decide +kernel
theorem dX10_doneIn_57 : decode cX10_doneIn 57 = .ok (.iconst 1, 1) := by decide +kernel
theorem dX10_doneIn_58 : decode cX10_doneIn 58 = .ok (.iaload, 1) := by decide +kernel
theorem dX10_doneIn_59 : decode cX10_doneIn 59 = .ok (.ifCond .le 18, 3) := by decide +kernel
theorem dX10_doneIn_62 : decode cX10_doneIn 62 = .ok (.aload_n 0, 1) := by decide +kernel
theorem dX10_doneIn_63 : decode cX10_doneIn 63 = .ok (.iload_n 1, 1) := by decide +kernel
theorem dX10_doneIn_64 : decode cX10_doneIn 64 = .ok (.invokevirtual 137, 3) := by decide +kernel
theorem dX10_doneIn_67 : decode cX10_doneIn 67 = .ok (.aload_n 0, 1) := by decide +kernel
theorem dX10_doneIn_68 : decode cX10_doneIn 68 = .ok (.invokevirtual 140, 3) := by decide +kernel
theorem dX10_doneIn_71 : decode cX10_doneIn 71 = .ok (.iinc 2 1, 3) := by decide +kernel
theorem dX10_doneIn_74 : decode cX10_doneIn 74 = .ok (.goto (-37), 3) := by decide +kernel
theorem dX10_doneIn_77 : decode cX10_doneIn 77 = .ok (.aload_n 0, 1) := by decide +kernel
theorem dX10_doneIn_78 : decode cX10_doneIn 78 = .ok (.iload_n 1, 1) := by decide +kernel
theorem dX10_doneIn_79 : decode cX10_doneIn 79 = .ok (.invokevirtual 147, 3) := by decide +kernel
theorem dX10_doneIn_82 : decode cX10_doneIn 82 = .ok (.istore_n 3, 1) := by decide +kernel
theorem dX10_doneIn_83 : decode cX10_doneIn 83 = .ok (.aload_n 0, 1) := by decide +kernel
theorem dX10_doneIn_84 : decode cX10_doneIn 84 = .ok (.getfield 22, 3) := by decide +kernel
theorem dX10_doneIn_87 : decode cX10_doneIn 87 = .ok (.iconst 0, 1) := by decide +kernel
theorem dX10_doneIn_88 : decode cX10_doneIn 88 = .ok (.aload_n 0, 1) := by decide +kernel
theorem dX10_doneIn_89 : decode cX10_doneIn 89 = .ok (.getfield 7, 3) := by decide +kernel
theorem dX10_doneIn_92 : decode cX10_doneIn 92 = .ok (.iconst 0, 1) := by decide +kernel
theorem dX10_doneIn_93 : decode cX10_doneIn 93 = .ok (.invokestatic 61, 3) := by decide +kernel
theorem dX10_doneIn_96 : decode cX10_doneIn 96 = .ok (.aload_n 0, 1) := by decide +kernel
theorem dX10_doneIn_97 : decode cX10_doneIn 97 = .ok (.iload_n 3, 1) := by decide +kernel
theorem dX10_doneIn_98 : decode cX10_doneIn 98 = .ok (.ifCond .eq 7, 3) := by decide +kernel
theorem dX10_doneIn_101 : decode cX10_doneIn 101 = .ok (.iconst 0, 1) := by decide +kernel
theorem dX10_doneIn_102 : decode cX10_doneIn 102 = .ok (.goto 4, 3) := by decide +kernel
theorem dX10_doneIn_105 : decode cX10_doneIn 105 = .ok (.iconst 2, 1) := by decide +kernel
theorem dX10_doneIn_106 : decode cX10_doneIn 106 = .ok (.invokevirtual 156, 3) := by decide +kernel
theorem dX10_doneIn_109 : decode cX10_doneIn 109 = .ok (.ifCond .eq 7, 3) := by decide +kernel
theorem dX10_doneIn_112 : decode cX10_doneIn 112 = .ok (.iconst 0, 1) := by decide +kernel
theorem dX10_doneIn_113 : decode cX10_doneIn 113 = .ok (.goto 4, 3) := by decide +kernel
theorem dX10_doneIn_116 : decode cX10_doneIn 116 = .ok (.iload_n 2, 1) := by decide +kernel
theorem dX10_doneIn_117 : decode cX10_doneIn 117 = .ok (.ireturn, 1) := by decide +kernel
theorem dX10_hottest_0 : decode cX10_hottest 0 = .ok (.iconst (-1), 1) := by decide +kernel
theorem dX10_hottest_1 : decode cX10_hottest 1 = .ok (.istore_n 1, 1) := by decide +kernel
theorem dX10_hottest_2 : decode cX10_hottest 2 = .ok (.bipush 99, 2) := by decide +kernel
theorem dX10_hottest_4 : decode cX10_hottest 4 = .ok (.istore_n 2, 1) := by decide +kernel
theorem dX10_hottest_5 : decode cX10_hottest 5 = .ok (.iconst 0, 1) := by decide +kernel
theorem dX10_hottest_6 : decode cX10_hottest 6 = .ok (.istore_n 3, 1) := by decide +kernel
theorem dX10_hottest_7 : decode cX10_hottest 7 = .ok (.iload_n 3, 1) := by decide +kernel
theorem dX10_hottest_8 : decode cX10_hottest 8 = .ok (.aload_n 0, 1) := by decide +kernel
theorem dX10_hottest_9 : decode cX10_hottest 9 = .ok (.getfield 7, 3) := by decide +kernel
theorem dX10_hottest_12 : decode cX10_hottest 12 = .ok (.iconst 0, 1) := by decide +kernel
theorem dX10_hottest_13 : decode cX10_hottest 13 = .ok (.iaload, 1) := by decide +kernel
theorem dX10_hottest_14 : decode cX10_hottest 14 = .ok (.if_icmp .ge 43, 3) := by decide +kernel
theorem dX10_hottest_17 : decode cX10_hottest 17 = .ok (.aload_n 0, 1) := by decide +kernel
theorem dX10_hottest_18 : decode cX10_hottest 18 = .ok (.iload_n 3, 1) := by decide +kernel
theorem dX10_hottest_19 : decode cX10_hottest 19 = .ok (.invokevirtual 91, 3) := by decide +kernel
theorem dX10_hottest_22 : decode cX10_hottest 22 = .ok (.ifCond .eq 8, 3) := by decide +kernel
theorem dX10_hottest_25 : decode cX10_hottest 25 = .ok (.bipush 99, 2) := by decide +kernel
theorem dX10_hottest_27 : decode cX10_hottest 27 = .ok (.goto 8, 3) := by decide +kernel
theorem dX10_hottest_30 : decode cX10_hottest 30 = .ok (.aload_n 0, 1) := by decide +kernel
theorem dX10_hottest_31 : decode cX10_hottest 31 = .ok (.iload_n 3, 1) := by decide +kernel
theorem dX10_hottest_32 : decode cX10_hottest 32 = .ok (.invokevirtual 162, 3) := by decide +kernel
theorem dX10_hottest_35 : decode cX10_hottest 35 = .ok (.istore 4, 2) := by decide +kernel
theorem dX10_hottest_37 : decode cX10_hottest 37 = .ok (.iload 4, 2) := by decide +kernel
theorem dX10_hottest_39 : decode cX10_hottest 39 = .ok (.iload_n 2, 1) := by decide +kernel
theorem dX10_hottest_40 : decode cX10_hottest 40 = .ok (.if_icmp .lt 6, 3) := by decide +kernel
theorem dX10_hottest_43 : decode cX10_hottest 43 = .ok (.goto 8, 3) := by decide +kernel
theorem dX10_hottest_46 : decode cX10_hottest 46 = .ok (.iload 4, 2) := by decide +kernel
theorem dX10_hottest_48 : decode cX10_hottest 48 = .ok (.istore_n 2, 1) := by decide +kernel
theorem dX10_hottest_49 : decode cX10_hottest 49 = .ok (.iload_n 3, 1) := by decide +kernel
theorem dX10_hottest_50 : decode cX10_hottest 50 = .ok (.istore_n 1, 1) := by decide +kernel
theorem dX10_hottest_51 : decode cX10_hottest 51 = .ok (.iinc 3 1, 3) := by decide +kernel
theorem dX10_hottest_54 : decode cX10_hottest 54 = .ok (.goto (-47), 3) := by decide +kernel
theorem dX10_hottest_57 : decode cX10_hottest 57 = .ok (.aload_n 0, 1) := by decide +kernel
theorem dX10_hottest_58 : decode cX10_hottest 58 = .ok (.iload_n 1, 1) := by decide +kernel
theorem dX10_hottest_59 : decode cX10_hottest 59 = .ok (.ifCond .ge 7, 3) := by decide +kernel
theorem dX10_hottest_62 : decode cX10_hottest 62 = .ok (.iconst 1, 1) := by decide +kernel
theorem dX10_hottest_63 : decode cX10_hottest 63 = .ok (.goto 4, 3) := by decide +kernel
theorem dX10_hottest_66 : decode cX10_hottest 66 = .ok (.iconst 0, 1) := by decide +kernel
theorem dX10_hottest_67 : decode cX10_hottest 67 = .ok (.invokevirtual 156, 3) := by decide +kernel
theorem dX10_hottest_70 : decode cX10_hottest 70 = .ok (.ifCond .eq 7, 3) := by decide +kernel
theorem dX10_hottest_73 : decode cX10_hottest 73 = .ok (.iconst 0, 1) := by decide +kernel
theorem dX10_hottest_74 : decode cX10_hottest 74 = .ok (.goto 4, 3) := by decide +kernel
theorem dX10_hottest_77 : decode cX10_hottest 77 = .ok (.iload_n 1, 1) := by decide +kernel
theorem dX10_hottest_78 : decode cX10_hottest 78 = .ok (.ireturn, 1) := by decide +kernel
theorem dX10_bestHook_0 : decode cX10_bestHook 0 = .ok (.aload_n 0, 1) := by decide +kernel
theorem dX10_bestHook_1 : decode cX10_bestHook 1 = .ok (.aload_n 0, 1) := by decide +kernel
theorem dX10_bestHook_2 : decode cX10_bestHook 2 = .ok (.iload_n 1, 1) := by decide +kernel
theorem dX10_bestHook_3 : decode cX10_bestHook 3 = .ok (.invokevirtual 121, 3) := by decide +kernel
theorem dX10_bestHook_6 : decode cX10_bestHook 6 = .ok (.ifCond .eq 16, 3) := by decide +kernel
theorem dX10_bestHook_9 : decode cX10_bestHook 9 = .ok (.iload_n 2, 1) := by decide +kernel
theorem dX10_bestHook_10 : decode cX10_bestHook 10 = .ok (.iconst 0, 1) := by decide +kernel
theorem dX10_bestHook_11 : decode cX10_bestHook 11 = .ok (.iconst 3, 1) := by decide +kernel
theorem dX10_bestHook_12 : decode cX10_bestHook 12 = .ok (.invokestatic 65, 3) := by decide +kernel
theorem dX10_bestHook_15 : decode cX10_bestHook 15 = .ok (.ifCond .eq 7, 3) := by decide +kernel
theorem dX10_bestHook_18 : decode cX10_bestHook 18 = .ok (.iconst 0, 1) := by decide +kernel
theorem dX10_bestHook_19 : decode cX10_bestHook 19 = .ok (.goto 4, 3) := by decide +kernel
theorem dX10_bestHook_22 : decode cX10_bestHook 22 = .ok (.iconst 1, 1) := by decide +kernel
theorem dX10_bestHook_23 : decode cX10_bestHook 23 = .ok (.invokevirtual 156, 3) := by decide +kernel
theorem dX10_bestHook_26 : decode cX10_bestHook 26 = .ok (.ifCond .eq 5, 3) := by decide +kernel
theorem dX10_bestHook_29 : decode cX10_bestHook 29 = .ok (.iconst 0, 1) := by decide +kernel
theorem dX10_bestHook_30 : decode cX10_bestHook 30 = .ok (.ireturn, 1) := by decide +kernel
theorem dX10_bestHook_31 : decode cX10_bestHook 31 = .ok (.iconst (-1), 1) := by decide +kernel
theorem dX10_bestHook_32 : decode cX10_bestHook 32 = .ok (.istore_n 3, 1) := by decide +kernel
theorem dX10_bestHook_33 : decode cX10_bestHook 33 = .ok (.iconst 0, 1) := by decide +kernel
theorem dX10_bestHook_34 : decode cX10_bestHook 34 = .ok (.istore 4, 2) := by decide +kernel
theorem dX10_bestHook_36 : decode cX10_bestHook 36 = .ok (.iconst 0, 1) := by decide +kernel
theorem dX10_bestHook_37 : decode cX10_bestHook 37 = .ok (.istore 5, 2) := by decide +kernel
theorem dX10_bestHook_39 : decode cX10_bestHook 39 = .ok (.iload 5, 2) := by decide +kernel
theorem dX10_bestHook_41 : decode cX10_bestHook 41 = .ok (.bipush 10, 2) := by decide +kernel
theorem dX10_bestHook_43 : decode cX10_bestHook 43 = .ok (.if_icmp .ge 36, 3) := by decide +kernel
theorem dX10_bestHook_46 : decode cX10_bestHook 46 = .ok (.aload_n 0, 1) := by decide +kernel
theorem dX10_bestHook_47 : decode cX10_bestHook 47 = .ok (.iload_n 1, 1) := by decide +kernel
theorem dX10_bestHook_48 : decode cX10_bestHook 48 = .ok (.iload_n 2, 1) := by decide +kernel
theorem dX10_bestHook_49 : decode cX10_bestHook 49 = .ok (.iload 5, 2) := by decide +kernel
theorem dX10_bestHook_51 : decode cX10_bestHook 51 = .ok (.invokevirtual 83, 3) := by decide +kernel
theorem dX10_bestHook_54 : decode cX10_bestHook 54 = .ok (.istore 6, 2) := by decide +kernel
theorem dX10_bestHook_56 : decode cX10_bestHook 56 = .ok (.iload 6, 2) := by decide +kernel
theorem dX10_bestHook_58 : decode cX10_bestHook 58 = .ok (.iload 4, 2) := by decide +kernel
theorem dX10_bestHook_60 : decode cX10_bestHook 60 = .ok (.if_icmp .gt 6, 3) := by decide +kernel
theorem dX10_bestHook_63 : decode cX10_bestHook 63 = .ok (.goto 10, 3) := by decide +kernel
theorem dX10_bestHook_66 : decode cX10_bestHook 66 = .ok (.iload 6, 2) := by decide +kernel
theorem dX10_bestHook_68 : decode cX10_bestHook 68 = .ok (.istore 4, 2) := by decide +kernel
theorem dX10_bestHook_70 : decode cX10_bestHook 70 = .ok (.iload 5, 2) := by decide +kernel
theorem dX10_bestHook_72 : decode cX10_bestHook 72 = .ok (.istore_n 3, 1) := by decide +kernel
theorem dX10_bestHook_73 : decode cX10_bestHook 73 = .ok (.iinc 5 1, 3) := by decide +kernel
theorem dX10_bestHook_76 : decode cX10_bestHook 76 = .ok (.goto (-37), 3) := by decide +kernel
theorem dX10_bestHook_79 : decode cX10_bestHook 79 = .ok (.aload_n 0, 1) := by decide +kernel
theorem dX10_bestHook_80 : decode cX10_bestHook 80 = .ok (.iload_n 3, 1) := by decide +kernel
theorem dX10_bestHook_81 : decode cX10_bestHook 81 = .ok (.ifCond .ge 7, 3) := by decide +kernel
theorem dX10_bestHook_84 : decode cX10_bestHook 84 = .ok (.iconst 2, 1) := by decide +kernel
theorem dX10_bestHook_85 : decode cX10_bestHook 85 = .ok (.goto 4, 3) := by decide +kernel
theorem dX10_bestHook_88 : decode cX10_bestHook 88 = .ok (.iconst 0, 1) := by decide +kernel
theorem dX10_bestHook_89 : decode cX10_bestHook 89 = .ok (.invokevirtual 156, 3) := by decide +kernel
theorem dX10_bestHook_92 : decode cX10_bestHook 92 = .ok (.ifCond .eq 7, 3) := by decide +kernel
theorem dX10_bestHook_95 : decode cX10_bestHook 95 = .ok (.iconst 0, 1) := by decide +kernel
theorem dX10_bestHook_96 : decode cX10_bestHook 96 = .ok (.goto 4, 3) := by decide +kernel
theorem dX10_bestHook_99 : decode cX10_bestHook 99 = .ok (.iload_n 3, 1) := by decide +kernel
theorem dX10_bestHook_100 : decode cX10_bestHook 100 = .ok (.ireturn, 1) := by decide +kernel
theorem dX10_crowded_0 : decode cX10_crowded 0 = .ok (.aload_n 0, 1) := by decide +kernel
theorem dX10_crowded_1 : decode cX10_crowded 1 = .ok (.iconst 0, 1) := by decide +kernel
theorem dX10_crowded_2 : decode cX10_crowded 2 = .ok (.putfield 39, 3) := by decide +kernel
theorem dX10_crowded_5 : decode cX10_crowded 5 = .ok (.iconst 0, 1) := by decide +kernel
theorem dX10_crowded_6 : decode cX10_crowded 6 = .ok (.istore_n 1, 1) := by decide +kernel
theorem dX10_crowded_7 : decode cX10_crowded 7 = .ok (.iconst 0, 1) := by decide +kernel
theorem dX10_crowded_8 : decode cX10_crowded 8 = .ok (.istore_n 2, 1) := by decide +kernel
theorem dX10_crowded_9 : decode cX10_crowded 9 = .ok (.iload_n 2, 1) := by decide +kernel
theorem dX10_crowded_10 : decode cX10_crowded 10 = .ok (.aload_n 0, 1) := by decide +kernel
theorem dX10_crowded_11 : decode cX10_crowded 11 = .ok (.getfield 7, 3) := by decide +kernel
theorem dX10_crowded_14 : decode cX10_crowded 14 = .ok (.iconst 0, 1) := by decide +kernel
theorem dX10_crowded_15 : decode cX10_crowded 15 = .ok (.iaload, 1) := by decide +kernel
theorem dX10_crowded_16 : decode cX10_crowded 16 = .ok (.if_icmp .ge 25, 3) := by decide +kernel
theorem dX10_crowded_19 : decode cX10_crowded 19 = .ok (.iload_n 1, 1) := by decide +kernel
theorem dX10_crowded_20 : decode cX10_crowded 20 = .ok (.aload_n 0, 1) := by decide +kernel
theorem dX10_crowded_21 : decode cX10_crowded 21 = .ok (.iload_n 2, 1) := by decide +kernel
theorem dX10_crowded_22 : decode cX10_crowded 22 = .ok (.invokevirtual 100, 3) := by decide +kernel
theorem dX10_crowded_25 : decode cX10_crowded 25 = .ok (.ifCond .eq 7, 3) := by decide +kernel
theorem dX10_crowded_28 : decode cX10_crowded 28 = .ok (.iconst 1, 1) := by decide +kernel
theorem dX10_crowded_29 : decode cX10_crowded 29 = .ok (.goto 4, 3) := by decide +kernel
theorem dX10_crowded_32 : decode cX10_crowded 32 = .ok (.iconst 0, 1) := by decide +kernel
theorem dX10_crowded_33 : decode cX10_crowded 33 = .ok (.iadd, 1) := by decide +kernel
theorem dX10_crowded_34 : decode cX10_crowded 34 = .ok (.istore_n 1, 1) := by decide +kernel
theorem dX10_crowded_35 : decode cX10_crowded 35 = .ok (.iinc 2 1, 3) := by decide +kernel
theorem dX10_crowded_38 : decode cX10_crowded 38 = .ok (.goto (-29), 3) := by decide +kernel
theorem dX10_crowded_41 : decode cX10_crowded 41 = .ok (.iload_n 1, 1) := by decide +kernel
theorem dX10_crowded_42 : decode cX10_crowded 42 = .ok (.ireturn, 1) := by decide +kernel
theorem dX10_measured_0 : decode cX10_measured 0 = .ok (.iload_n 2, 1) := by decide +kernel
theorem dX10_measured_1 : decode cX10_measured 1 = .ok (.tableswitch 96 0 3 #[31, 38, 45, 61], 31) := by decide +kernel
theorem dX10_measured_32 : decode cX10_measured 32 = .ok (.aload_n 0, 1) := by decide +kernel
theorem dX10_measured_33 : decode cX10_measured 33 = .ok (.iload_n 1, 1) := by decide +kernel
theorem dX10_measured_34 : decode cX10_measured 34 = .ok (.iconst 0, 1) := by decide +kernel
theorem dX10_measured_35 : decode cX10_measured 35 = .ok (.invokevirtual 69, 3) := by decide +kernel
theorem dX10_measured_38 : decode cX10_measured 38 = .ok (.ireturn, 1) := by decide +kernel
theorem dX10_measured_39 : decode cX10_measured 39 = .ok (.aload_n 0, 1) := by decide +kernel
theorem dX10_measured_40 : decode cX10_measured 40 = .ok (.iload_n 1, 1) := by decide +kernel
theorem dX10_measured_41 : decode cX10_measured 41 = .ok (.iconst 1, 1) := by decide +kernel
theorem dX10_measured_42 : decode cX10_measured 42 = .ok (.invokevirtual 69, 3) := by decide +kernel
theorem dX10_measured_45 : decode cX10_measured 45 = .ok (.ireturn, 1) := by decide +kernel
theorem dX10_measured_46 : decode cX10_measured 46 = .ok (.aload_n 0, 1) := by decide +kernel
theorem dX10_measured_47 : decode cX10_measured 47 = .ok (.iload_n 1, 1) := by decide +kernel
theorem dX10_measured_48 : decode cX10_measured 48 = .ok (.bipush 7, 2) := by decide +kernel
theorem dX10_measured_50 : decode cX10_measured 50 = .ok (.invokevirtual 69, 3) := by decide +kernel
theorem dX10_measured_53 : decode cX10_measured 53 = .ok (.aload_n 0, 1) := by decide +kernel
theorem dX10_measured_54 : decode cX10_measured 54 = .ok (.iload_n 1, 1) := by decide +kernel
theorem dX10_measured_55 : decode cX10_measured 55 = .ok (.bipush 8, 2) := by decide +kernel
theorem dX10_measured_57 : decode cX10_measured 57 = .ok (.invokevirtual 69, 3) := by decide +kernel
theorem dX10_measured_60 : decode cX10_measured 60 = .ok (.iadd, 1) := by decide +kernel
theorem dX10_measured_61 : decode cX10_measured 61 = .ok (.ireturn, 1) := by decide +kernel
theorem dX10_measured_62 : decode cX10_measured 62 = .ok (.aload_n 0, 1) := by decide +kernel
theorem dX10_measured_63 : decode cX10_measured 63 = .ok (.iload_n 1, 1) := by decide +kernel
theorem dX10_measured_64 : decode cX10_measured 64 = .ok (.bipush 9, 2) := by decide +kernel
theorem dX10_measured_66 : decode cX10_measured 66 = .ok (.invokevirtual 69, 3) := by decide +kernel
theorem dX10_measured_69 : decode cX10_measured 69 = .ok (.aload_n 0, 1) := by decide +kernel
theorem dX10_measured_70 : decode cX10_measured 70 = .ok (.iload_n 1, 1) := by decide +kernel
theorem dX10_measured_71 : decode cX10_measured 71 = .ok (.bipush 10, 2) := by decide +kernel
theorem dX10_measured_73 : decode cX10_measured 73 = .ok (.invokevirtual 69, 3) := by decide +kernel
theorem dX10_measured_76 : decode cX10_measured 76 = .ok (.if_icmp .le 13, 3) := by decide +kernel
theorem dX10_measured_79 : decode cX10_measured 79 = .ok (.aload_n 0, 1) := by decide +kernel
theorem dX10_measured_80 : decode cX10_measured 80 = .ok (.iload_n 1, 1) := by decide +kernel
theorem dX10_measured_81 : decode cX10_measured 81 = .ok (.bipush 9, 2) := by decide +kernel
theorem dX10_measured_83 : decode cX10_measured 83 = .ok (.invokevirtual 69, 3) := by decide +kernel
theorem dX10_measured_86 : decode cX10_measured 86 = .ok (.goto 10, 3) := by decide +kernel
theorem dX10_measured_89 : decode cX10_measured 89 = .ok (.aload_n 0, 1) := by decide +kernel
theorem dX10_measured_90 : decode cX10_measured 90 = .ok (.iload_n 1, 1) := by decide +kernel
theorem dX10_measured_91 : decode cX10_measured 91 = .ok (.bipush 10, 2) := by decide +kernel
theorem dX10_measured_93 : decode cX10_measured 93 = .ok (.invokevirtual 69, 3) := by decide +kernel
theorem dX10_measured_96 : decode cX10_measured 96 = .ok (.ireturn, 1) := by decide +kernel
theorem dX10_measured_97 : decode cX10_measured 97 = .ok (.aload_n 0, 1) := by decide +kernel
theorem dX10_measured_98 : decode cX10_measured 98 = .ok (.iload_n 1, 1) := by decide +kernel
theorem dX10_measured_99 : decode cX10_measured 99 = .ok (.invokevirtual 150, 3) := by decide +kernel
theorem dX10_measured_102 : decode cX10_measured 102 = .ok (.ireturn, 1) := by decide +kernel
theorem dX10_ranked_0 : decode cX10_ranked 0 = .ok (.aload_n 0, 1) := by decide +kernel
theorem dX10_ranked_1 : decode cX10_ranked 1 = .ok (.iload_n 1, 1) := by decide +kernel
theorem dX10_ranked_2 : decode cX10_ranked 2 = .ok (.iconst 0, 1) := by decide +kernel
theorem dX10_ranked_3 : decode cX10_ranked 3 = .ok (.iconst 4, 1) := by decide +kernel
theorem dX10_ranked_4 : decode cX10_ranked 4 = .ok (.invokestatic 65, 3) := by decide +kernel
theorem dX10_ranked_7 : decode cX10_ranked 7 = .ok (.ifCond .eq 7, 3) := by decide +kernel
theorem dX10_ranked_10 : decode cX10_ranked 10 = .ok (.iconst 0, 1) := by decide +kernel
theorem dX10_ranked_11 : decode cX10_ranked 11 = .ok (.goto 4, 3) := by decide +kernel
theorem dX10_ranked_14 : decode cX10_ranked 14 = .ok (.iconst 1, 1) := by decide +kernel
theorem dX10_ranked_15 : decode cX10_ranked 15 = .ok (.invokevirtual 156, 3) := by decide +kernel
theorem dX10_ranked_18 : decode cX10_ranked 18 = .ok (.ifCond .eq 5, 3) := by decide +kernel
theorem dX10_ranked_21 : decode cX10_ranked 21 = .ok (.iconst 0, 1) := by decide +kernel
theorem dX10_ranked_22 : decode cX10_ranked 22 = .ok (.ireturn, 1) := by decide +kernel
theorem dX10_ranked_23 : decode cX10_ranked 23 = .ok (.iconst 0, 1) := by decide +kernel
theorem dX10_ranked_24 : decode cX10_ranked 24 = .ok (.istore_n 3, 1) := by decide +kernel
theorem dX10_ranked_25 : decode cX10_ranked 25 = .ok (.iload_n 3, 1) := by decide +kernel
theorem dX10_ranked_26 : decode cX10_ranked 26 = .ok (.aload_n 0, 1) := by decide +kernel
theorem dX10_ranked_27 : decode cX10_ranked 27 = .ok (.getfield 7, 3) := by decide +kernel
theorem dX10_ranked_30 : decode cX10_ranked 30 = .ok (.iconst 0, 1) := by decide +kernel
theorem dX10_ranked_31 : decode cX10_ranked 31 = .ok (.iaload, 1) := by decide +kernel
theorem dX10_ranked_32 : decode cX10_ranked 32 = .ok (.if_icmp .ge 88, 3) := by decide +kernel
theorem dX10_ranked_35 : decode cX10_ranked 35 = .ok (.iconst 0, 1) := by decide +kernel
theorem dX10_ranked_36 : decode cX10_ranked 36 = .ok (.istore 4, 2) := by decide +kernel
theorem dX10_ranked_38 : decode cX10_ranked 38 = .ok (.iconst 0, 1) := by decide +kernel
theorem dX10_ranked_39 : decode cX10_ranked 39 = .ok (.istore 5, 2) := by decide +kernel
theorem dX10_ranked_41 : decode cX10_ranked 41 = .ok (.iload 5, 2) := by decide +kernel
theorem dX10_ranked_43 : decode cX10_ranked 43 = .ok (.aload_n 0, 1) := by decide +kernel
theorem dX10_ranked_44 : decode cX10_ranked 44 = .ok (.getfield 7, 3) := by decide +kernel
theorem dX10_ranked_47 : decode cX10_ranked 47 = .ok (.iconst 0, 1) := by decide +kernel
theorem dX10_ranked_48 : decode cX10_ranked 48 = .ok (.iaload, 1) := by decide +kernel
theorem dX10_ranked_49 : decode cX10_ranked 49 = .ok (.if_icmp .ge 57, 3) := by decide +kernel
theorem dX10_ranked_52 : decode cX10_ranked 52 = .ok (.iload 4, 2) := by decide +kernel
theorem dX10_ranked_54 : decode cX10_ranked 54 = .ok (.aload_n 0, 1) := by decide +kernel
theorem dX10_ranked_55 : decode cX10_ranked 55 = .ok (.iload 5, 2) := by decide +kernel
theorem dX10_ranked_57 : decode cX10_ranked 57 = .ok (.iload_n 1, 1) := by decide +kernel
theorem dX10_ranked_58 : decode cX10_ranked 58 = .ok (.invokevirtual 165, 3) := by decide +kernel
theorem dX10_ranked_61 : decode cX10_ranked 61 = .ok (.aload_n 0, 1) := by decide +kernel
theorem dX10_ranked_62 : decode cX10_ranked 62 = .ok (.iload_n 3, 1) := by decide +kernel
theorem dX10_ranked_63 : decode cX10_ranked 63 = .ok (.iload_n 1, 1) := by decide +kernel
theorem dX10_ranked_64 : decode cX10_ranked 64 = .ok (.invokevirtual 165, 3) := by decide +kernel
theorem dX10_ranked_67 : decode cX10_ranked 67 = .ok (.if_icmp .gt 25, 3) := by decide +kernel
theorem dX10_ranked_70 : decode cX10_ranked 70 = .ok (.aload_n 0, 1) := by decide +kernel
theorem dX10_ranked_71 : decode cX10_ranked 71 = .ok (.iload 5, 2) := by decide +kernel
theorem dX10_ranked_73 : decode cX10_ranked 73 = .ok (.iload_n 1, 1) := by decide +kernel
theorem dX10_ranked_74 : decode cX10_ranked 74 = .ok (.invokevirtual 165, 3) := by decide +kernel
theorem dX10_ranked_77 : decode cX10_ranked 77 = .ok (.aload_n 0, 1) := by decide +kernel
theorem dX10_ranked_78 : decode cX10_ranked 78 = .ok (.iload_n 3, 1) := by decide +kernel
theorem dX10_ranked_79 : decode cX10_ranked 79 = .ok (.iload_n 1, 1) := by decide +kernel
theorem dX10_ranked_80 : decode cX10_ranked 80 = .ok (.invokevirtual 165, 3) := by decide +kernel
theorem dX10_ranked_83 : decode cX10_ranked 83 = .ok (.if_icmp .ne 13, 3) := by decide +kernel
theorem dX10_ranked_86 : decode cX10_ranked 86 = .ok (.iload 5, 2) := by decide +kernel
theorem dX10_ranked_88 : decode cX10_ranked 88 = .ok (.iload_n 3, 1) := by decide +kernel
theorem dX10_ranked_89 : decode cX10_ranked 89 = .ok (.if_icmp .ge 7, 3) := by decide +kernel
theorem dX10_ranked_92 : decode cX10_ranked 92 = .ok (.iconst 1, 1) := by decide +kernel
theorem dX10_ranked_93 : decode cX10_ranked 93 = .ok (.goto 4, 3) := by decide +kernel
theorem dX10_ranked_96 : decode cX10_ranked 96 = .ok (.iconst 0, 1) := by decide +kernel
theorem dX10_ranked_97 : decode cX10_ranked 97 = .ok (.iadd, 1) := by decide +kernel
theorem dX10_ranked_98 : decode cX10_ranked 98 = .ok (.istore 4, 2) := by decide +kernel
theorem dX10_ranked_100 : decode cX10_ranked 100 = .ok (.iinc 5 1, 3) := by decide +kernel
theorem dX10_ranked_103 : decode cX10_ranked 103 = .ok (.goto (-62), 3) := by decide +kernel
theorem dX10_ranked_106 : decode cX10_ranked 106 = .ok (.iload 4, 2) := by decide +kernel
theorem dX10_ranked_108 : decode cX10_ranked 108 = .ok (.iload_n 2, 1) := by decide +kernel
theorem dX10_ranked_109 : decode cX10_ranked 109 = .ok (.if_icmp .ne 5, 3) := by decide +kernel
theorem dX10_ranked_112 : decode cX10_ranked 112 = .ok (.iload_n 3, 1) := by decide +kernel
theorem dX10_ranked_113 : decode cX10_ranked 113 = .ok (.ireturn, 1) := by decide +kernel
theorem dX10_ranked_114 : decode cX10_ranked 114 = .ok (.iinc 3 1, 3) := by decide +kernel
theorem dX10_ranked_117 : decode cX10_ranked 117 = .ok (.goto (-92), 3) := by decide +kernel
theorem dX10_ranked_120 : decode cX10_ranked 120 = .ok (.aload_n 0, 1) := by decide +kernel
theorem dX10_ranked_121 : decode cX10_ranked 121 = .ok (.iconst 2, 1) := by decide +kernel
theorem dX10_ranked_122 : decode cX10_ranked 122 = .ok (.putfield 39, 3) := by decide +kernel
theorem dX10_ranked_125 : decode cX10_ranked 125 = .ok (.iconst 0, 1) := by decide +kernel
theorem dX10_ranked_126 : decode cX10_ranked 126 = .ok (.ireturn, 1) := by decide +kernel
theorem dX10_append_0 : decode cX10_append 0 = .ok (.aload_n 0, 1) := by decide +kernel
theorem dX10_append_1 : decode cX10_append 1 = .ok (.aload_n 0, 1) := by decide +kernel
theorem dX10_append_2 : decode cX10_append 2 = .ok (.getfield 168, 3) := by decide +kernel
theorem dX10_append_5 : decode cX10_append 5 = .ok (.bipush 60, 2) := by decide +kernel
theorem dX10_append_7 : decode cX10_append 7 = .ok (.if_icmp .ne 7, 3) := by decide +kernel
theorem dX10_append_10 : decode cX10_append 10 = .ok (.iconst 1, 1) := by decide +kernel
theorem dX10_append_11 : decode cX10_append 11 = .ok (.goto 4, 3) := by decide +kernel
theorem dX10_append_14 : decode cX10_append 14 = .ok (.iconst 0, 1) := by decide +kernel
theorem dX10_append_15 : decode cX10_append 15 = .ok (.invokevirtual 156, 3) := by decide +kernel
theorem dX10_append_18 : decode cX10_append 18 = .ok (.ifCond .eq 5, 3) := by decide +kernel
theorem dX10_append_21 : decode cX10_append 21 = .ok (.iconst 0, 1) := by decide +kernel
theorem dX10_append_22 : decode cX10_append 22 = .ok (.ireturn, 1) := by decide +kernel
theorem dX10_append_23 : decode cX10_append 23 = .ok (.aload_n 0, 1) := by decide +kernel
theorem dX10_append_24 : decode cX10_append 24 = .ok (.getfield 25, 3) := by decide +kernel
theorem dX10_append_27 : decode cX10_append 27 = .ok (.aload_n 0, 1) := by decide +kernel
theorem dX10_append_28 : decode cX10_append 28 = .ok (.getfield 168, 3) := by decide +kernel
theorem dX10_append_31 : decode cX10_append 31 = .ok (.iload_n 1, 1) := by decide +kernel
theorem dX10_append_32 : decode cX10_append 32 = .ok (.iastore, 1) := by decide +kernel
theorem dX10_append_33 : decode cX10_append 33 = .ok (.aload_n 0, 1) := by decide +kernel
theorem dX10_append_34 : decode cX10_append 34 = .ok (.dup, 1) := by decide +kernel
theorem dX10_append_35 : decode cX10_append 35 = .ok (.getfield 168, 3) := by decide +kernel
theorem dX10_append_38 : decode cX10_append 38 = .ok (.iconst 1, 1) := by decide +kernel
theorem dX10_append_39 : decode cX10_append 39 = .ok (.iadd, 1) := by decide +kernel
theorem dX10_append_40 : decode cX10_append 40 = .ok (.putfield 168, 3) := by decide +kernel
theorem dX10_append_43 : decode cX10_append 43 = .ok (.aload_n 0, 1) := by decide +kernel
theorem dX10_append_44 : decode cX10_append 44 = .ok (.getfield 168, 3) := by decide +kernel
theorem dX10_append_47 : decode cX10_append 47 = .ok (.ireturn, 1) := by decide +kernel
theorem dX10_here_0 : decode cX10_here 0 = .ok (.aload_n 0, 1) := by decide +kernel
theorem dX10_here_1 : decode cX10_here 1 = .ok (.getfield 171, 3) := by decide +kernel
theorem dX10_here_4 : decode cX10_here 4 = .ok (.aload_n 0, 1) := by decide +kernel
theorem dX10_here_5 : decode cX10_here 5 = .ok (.getfield 168, 3) := by decide +kernel
theorem dX10_here_8 : decode cX10_here 8 = .ok (.if_icmp .ge 15, 3) := by decide +kernel
theorem dX10_here_11 : decode cX10_here 11 = .ok (.aload_n 0, 1) := by decide +kernel
theorem dX10_here_12 : decode cX10_here 12 = .ok (.getfield 25, 3) := by decide +kernel
theorem dX10_here_15 : decode cX10_here 15 = .ok (.aload_n 0, 1) := by decide +kernel
theorem dX10_here_16 : decode cX10_here 16 = .ok (.getfield 171, 3) := by decide +kernel
theorem dX10_here_19 : decode cX10_here 19 = .ok (.iaload, 1) := by decide +kernel
theorem dX10_here_20 : decode cX10_here 20 = .ok (.goto 4, 3) := by decide +kernel
theorem dX10_here_23 : decode cX10_here 23 = .ok (.iconst (-1), 1) := by decide +kernel
theorem dX10_here_24 : decode cX10_here 24 = .ok (.ireturn, 1) := by decide +kernel
theorem dX10_skips_0 : decode cX10_skips 0 = .ok (.aload_n 0, 1) := by decide +kernel
theorem dX10_skips_1 : decode cX10_skips 1 = .ok (.invokevirtual 174, 3) := by decide +kernel
theorem dX10_skips_4 : decode cX10_skips 4 = .ok (.iload_n 1, 1) := by decide +kernel
theorem dX10_skips_5 : decode cX10_skips 5 = .ok (.if_icmp .eq 5, 3) := by decide +kernel
theorem dX10_skips_8 : decode cX10_skips 8 = .ok (.iconst 0, 1) := by decide +kernel
theorem dX10_skips_9 : decode cX10_skips 9 = .ok (.ireturn, 1) := by decide +kernel
theorem dX10_skips_10 : decode cX10_skips 10 = .ok (.aload_n 0, 1) := by decide +kernel
theorem dX10_skips_11 : decode cX10_skips 11 = .ok (.dup, 1) := by decide +kernel
theorem dX10_skips_12 : decode cX10_skips 12 = .ok (.getfield 171, 3) := by decide +kernel
theorem dX10_skips_15 : decode cX10_skips 15 = .ok (.iconst 1, 1) := by decide +kernel
theorem dX10_skips_16 : decode cX10_skips 16 = .ok (.iadd, 1) := by decide +kernel
theorem dX10_skips_17 : decode cX10_skips 17 = .ok (.putfield 171, 3) := by decide +kernel
theorem dX10_skips_20 : decode cX10_skips 20 = .ok (.iconst 1, 1) := by decide +kernel
theorem dX10_skips_21 : decode cX10_skips 21 = .ok (.ireturn, 1) := by decide +kernel
theorem dX10_figures_0 : decode cX10_figures 0 = .ok (.aload_n 0, 1) := by decide +kernel
theorem dX10_figures_1 : decode cX10_figures 1 = .ok (.invokevirtual 174, 3) := by decide +kernel
theorem dX10_figures_4 : decode cX10_figures 4 = .ok (.bipush 48, 2) := by decide +kernel
theorem dX10_figures_6 : decode cX10_figures 6 = .ok (.bipush 57, 2) := by decide +kernel
theorem dX10_figures_8 : decode cX10_figures 8 = .ok (.invokestatic 65, 3) := by decide +kernel
theorem dX10_figures_11 : decode cX10_figures 11 = .ok (.ifCond .ne 5, 3) := by decide +kernel
theorem dX10_figures_14 : decode cX10_figures 14 = .ok (.iconst 0, 1) := by decide +kernel
theorem dX10_figures_15 : decode cX10_figures 15 = .ok (.ireturn, 1) := by decide +kernel
theorem dX10_figures_16 : decode cX10_figures 16 = .ok (.aload_n 0, 1) := by decide +kernel
theorem dX10_figures_17 : decode cX10_figures 17 = .ok (.getfield 36, 3) := by decide +kernel
theorem dX10_figures_20 : decode cX10_figures 20 = .ok (.iload_n 1, 1) := by decide +kernel
theorem dX10_figures_21 : decode cX10_figures 21 = .ok (.iconst 0, 1) := by decide +kernel
theorem dX10_figures_22 : decode cX10_figures 22 = .ok (.iastore, 1) := by decide +kernel
theorem dX10_figures_23 : decode cX10_figures 23 = .ok (.iconst 0, 1) := by decide +kernel
theorem dX10_figures_24 : decode cX10_figures 24 = .ok (.istore_n 3, 1) := by decide +kernel
theorem dX10_figures_25 : decode cX10_figures 25 = .ok (.iload_n 3, 1) := by decide +kernel
theorem dX10_figures_26 : decode cX10_figures 26 = .ok (.iload_n 2, 1) := by decide +kernel
theorem dX10_figures_27 : decode cX10_figures 27 = .ok (.if_icmp .ge 56, 3) := by decide +kernel
theorem dX10_figures_30 : decode cX10_figures 30 = .ok (.aload_n 0, 1) := by decide +kernel
theorem dX10_figures_31 : decode cX10_figures 31 = .ok (.invokevirtual 174, 3) := by decide +kernel
theorem dX10_figures_34 : decode cX10_figures 34 = .ok (.bipush 48, 2) := by decide +kernel
theorem dX10_figures_36 : decode cX10_figures 36 = .ok (.bipush 57, 2) := by decide +kernel
theorem dX10_figures_38 : decode cX10_figures 38 = .ok (.invokestatic 65, 3) := by decide +kernel
theorem dX10_figures_41 : decode cX10_figures 41 = .ok (.ifCond .eq 42, 3) := by decide +kernel
theorem dX10_figures_44 : decode cX10_figures 44 = .ok (.aload_n 0, 1) := by decide +kernel
theorem dX10_figures_45 : decode cX10_figures 45 = .ok (.getfield 36, 3) := by decide +kernel
theorem dX10_figures_48 : decode cX10_figures 48 = .ok (.iload_n 1, 1) := by decide +kernel
theorem dX10_figures_49 : decode cX10_figures 49 = .ok (.bipush 10, 2) := by decide +kernel
theorem dX10_figures_51 : decode cX10_figures 51 = .ok (.aload_n 0, 1) := by decide +kernel
theorem dX10_figures_52 : decode cX10_figures 52 = .ok (.getfield 36, 3) := by decide +kernel
theorem dX10_figures_55 : decode cX10_figures 55 = .ok (.iload_n 1, 1) := by decide +kernel
theorem dX10_figures_56 : decode cX10_figures 56 = .ok (.iaload, 1) := by decide +kernel
theorem dX10_figures_57 : decode cX10_figures 57 = .ok (.imul, 1) := by decide +kernel
theorem dX10_figures_58 : decode cX10_figures 58 = .ok (.aload_n 0, 1) := by decide +kernel
theorem dX10_figures_59 : decode cX10_figures 59 = .ok (.invokevirtual 174, 3) := by decide +kernel
theorem dX10_figures_62 : decode cX10_figures 62 = .ok (.iadd, 1) := by decide +kernel
theorem dX10_figures_63 : decode cX10_figures 63 = .ok (.bipush 48, 2) := by decide +kernel
theorem dX10_figures_65 : decode cX10_figures 65 = .ok (.isub, 1) := by decide +kernel
theorem dX10_figures_66 : decode cX10_figures 66 = .ok (.iastore, 1) := by decide +kernel
theorem dX10_figures_67 : decode cX10_figures 67 = .ok (.aload_n 0, 1) := by decide +kernel
theorem dX10_figures_68 : decode cX10_figures 68 = .ok (.dup, 1) := by decide +kernel
theorem dX10_figures_69 : decode cX10_figures 69 = .ok (.getfield 171, 3) := by decide +kernel
theorem dX10_figures_72 : decode cX10_figures 72 = .ok (.iconst 1, 1) := by decide +kernel
theorem dX10_figures_73 : decode cX10_figures 73 = .ok (.iadd, 1) := by decide +kernel
theorem dX10_figures_74 : decode cX10_figures 74 = .ok (.putfield 171, 3) := by decide +kernel
theorem dX10_figures_77 : decode cX10_figures 77 = .ok (.iinc 3 1, 3) := by decide +kernel
theorem dX10_figures_80 : decode cX10_figures 80 = .ok (.goto (-55), 3) := by decide +kernel
theorem dX10_figures_83 : decode cX10_figures 83 = .ok (.iconst 1, 1) := by decide +kernel
theorem dX10_figures_84 : decode cX10_figures 84 = .ok (.ireturn, 1) := by decide +kernel
theorem dX10_hasTwo_0 : decode cX10_hasTwo 0 = .ok (.aload_n 0, 1) := by decide +kernel
theorem dX10_hasTwo_1 : decode cX10_hasTwo 1 = .ok (.bipush 98, 2) := by decide +kernel
theorem dX10_hasTwo_3 : decode cX10_hasTwo 3 = .ok (.invokevirtual 177, 3) := by decide +kernel
theorem dX10_hasTwo_6 : decode cX10_hasTwo 6 = .ok (.ifCond .ne 57, 3) := by decide +kernel
theorem dX10_hasTwo_9 : decode cX10_hasTwo 9 = .ok (.aload_n 0, 1) := by decide +kernel
theorem dX10_hasTwo_10 : decode cX10_hasTwo 10 = .ok (.bipush 111, 2) := by decide +kernel
theorem dX10_hasTwo_12 : decode cX10_hasTwo 12 = .ok (.invokevirtual 177, 3) := by decide +kernel
theorem dX10_hasTwo_15 : decode cX10_hasTwo 15 = .ok (.ifCond .ne 48, 3) := by decide +kernel
theorem dX10_hasTwo_18 : decode cX10_hasTwo 18 = .ok (.aload_n 0, 1) := by decide +kernel
theorem dX10_hasTwo_19 : decode cX10_hasTwo 19 = .ok (.bipush 116, 2) := by decide +kernel
theorem dX10_hasTwo_21 : decode cX10_hasTwo 21 = .ok (.invokevirtual 177, 3) := by decide +kernel
theorem dX10_hasTwo_24 : decode cX10_hasTwo 24 = .ok (.ifCond .ne 39, 3) := by decide +kernel
theorem dX10_hasTwo_27 : decode cX10_hasTwo 27 = .ok (.aload_n 0, 1) := by decide +kernel
theorem dX10_hasTwo_28 : decode cX10_hasTwo 28 = .ok (.bipush 108, 2) := by decide +kernel
theorem dX10_hasTwo_30 : decode cX10_hasTwo 30 = .ok (.invokevirtual 177, 3) := by decide +kernel
theorem dX10_hasTwo_33 : decode cX10_hasTwo 33 = .ok (.ifCond .ne 30, 3) := by decide +kernel
theorem dX10_hasTwo_36 : decode cX10_hasTwo 36 = .ok (.aload_n 0, 1) := by decide +kernel
theorem dX10_hasTwo_37 : decode cX10_hasTwo 37 = .ok (.bipush 110, 2) := by decide +kernel
theorem dX10_hasTwo_39 : decode cX10_hasTwo 39 = .ok (.invokevirtual 177, 3) := by decide +kernel
theorem dX10_hasTwo_42 : decode cX10_hasTwo 42 = .ok (.ifCond .ne 21, 3) := by decide +kernel
theorem dX10_hasTwo_45 : decode cX10_hasTwo 45 = .ok (.aload_n 0, 1) := by decide +kernel
theorem dX10_hasTwo_46 : decode cX10_hasTwo 46 = .ok (.bipush 115, 2) := by decide +kernel
theorem dX10_hasTwo_48 : decode cX10_hasTwo 48 = .ok (.invokevirtual 177, 3) := by decide +kernel
theorem dX10_hasTwo_51 : decode cX10_hasTwo 51 = .ok (.ifCond .ne 12, 3) := by decide +kernel
theorem dX10_hasTwo_54 : decode cX10_hasTwo 54 = .ok (.aload_n 0, 1) := by decide +kernel
theorem dX10_hasTwo_55 : decode cX10_hasTwo 55 = .ok (.bipush 120, 2) := by decide +kernel
theorem dX10_hasTwo_57 : decode cX10_hasTwo 57 = .ok (.invokevirtual 177, 3) := by decide +kernel
theorem dX10_hasTwo_60 : decode cX10_hasTwo 60 = .ok (.ifCond .eq 7, 3) := by decide +kernel
theorem dX10_hasTwo_63 : decode cX10_hasTwo 63 = .ok (.iconst 1, 1) := by decide +kernel
theorem dX10_hasTwo_64 : decode cX10_hasTwo 64 = .ok (.goto 4, 3) := by decide +kernel
theorem dX10_hasTwo_67 : decode cX10_hasTwo 67 = .ok (.iconst 0, 1) := by decide +kernel
theorem dX10_hasTwo_68 : decode cX10_hasTwo 68 = .ok (.ireturn, 1) := by decide +kernel
theorem dX10_commandHere_0 : decode cX10_commandHere 0 = .ok (.iconst 4, 1) := by decide +kernel
theorem dX10_commandHere_1 : decode cX10_commandHere 1 = .ok (.aload_n 0, 1) := by decide +kernel
theorem dX10_commandHere_2 : decode cX10_commandHere 2 = .ok (.getfield 180, 3) := by decide +kernel
theorem dX10_commandHere_5 : decode cX10_commandHere 5 = .ok (.imul, 1) := by decide +kernel
theorem dX10_commandHere_6 : decode cX10_commandHere 6 = .ok (.istore_n 1, 1) := by decide +kernel
theorem dX10_commandHere_7 : decode cX10_commandHere 7 = .ok (.aload_n 0, 1) := by decide +kernel
theorem dX10_commandHere_8 : decode cX10_commandHere 8 = .ok (.getfield 36, 3) := by decide +kernel
theorem dX10_commandHere_11 : decode cX10_commandHere 11 = .ok (.iload_n 1, 1) := by decide +kernel
theorem dX10_commandHere_12 : decode cX10_commandHere 12 = .ok (.aload_n 0, 1) := by decide +kernel
theorem dX10_commandHere_13 : decode cX10_commandHere 13 = .ok (.invokevirtual 174, 3) := by decide +kernel
theorem dX10_commandHere_16 : decode cX10_commandHere 16 = .ok (.iastore, 1) := by decide +kernel
theorem dX10_commandHere_17 : decode cX10_commandHere 17 = .ok (.aload_n 0, 1) := by decide +kernel
theorem dX10_commandHere_18 : decode cX10_commandHere 18 = .ok (.bipush 100, 2) := by decide +kernel
theorem dX10_commandHere_20 : decode cX10_commandHere 20 = .ok (.invokevirtual 177, 3) := by decide +kernel
theorem dX10_commandHere_23 : decode cX10_commandHere 23 = .ok (.ifCond .eq 5, 3) := by decide +kernel
theorem dX10_commandHere_26 : decode cX10_commandHere 26 = .ok (.iconst 1, 1) := by decide +kernel
theorem dX10_commandHere_27 : decode cX10_commandHere 27 = .ok (.ireturn, 1) := by decide +kernel
theorem dX10_commandHere_28 : decode cX10_commandHere 28 = .ok (.aload_n 0, 1) := by decide +kernel
theorem dX10_commandHere_29 : decode cX10_commandHere 29 = .ok (.invokevirtual 183, 3) := by decide +kernel
theorem dX10_commandHere_32 : decode cX10_commandHere 32 = .ok (.ifCond .eq 12, 3) := by decide +kernel
theorem dX10_commandHere_35 : decode cX10_commandHere 35 = .ok (.aload_n 0, 1) := by decide +kernel
theorem dX10_commandHere_36 : decode cX10_commandHere 36 = .ok (.iload_n 1, 1) := by decide +kernel
theorem dX10_commandHere_37 : decode cX10_commandHere 37 = .ok (.iconst 1, 1) := by decide +kernel
theorem dX10_commandHere_38 : decode cX10_commandHere 38 = .ok (.iadd, 1) := by decide +kernel
theorem dX10_commandHere_39 : decode cX10_commandHere 39 = .ok (.iconst 2, 1) := by decide +kernel
theorem dX10_commandHere_40 : decode cX10_commandHere 40 = .ok (.invokevirtual 187, 3) := by decide +kernel
theorem dX10_commandHere_43 : decode cX10_commandHere 43 = .ok (.ireturn, 1) := by decide +kernel
theorem dX10_commandHere_44 : decode cX10_commandHere 44 = .ok (.aload_n 0, 1) := by decide +kernel
theorem dX10_commandHere_45 : decode cX10_commandHere 45 = .ok (.bipush 102, 2) := by decide +kernel
theorem dX10_commandHere_47 : decode cX10_commandHere 47 = .ok (.invokevirtual 177, 3) := by decide +kernel
theorem dX10_commandHere_50 : decode cX10_commandHere 50 = .ok (.ifCond .ne 21, 3) := by decide +kernel
theorem dX10_commandHere_53 : decode cX10_commandHere 53 = .ok (.aload_n 0, 1) := by decide +kernel
theorem dX10_commandHere_54 : decode cX10_commandHere 54 = .ok (.bipush 97, 2) := by decide +kernel
theorem dX10_commandHere_56 : decode cX10_commandHere 56 = .ok (.invokevirtual 177, 3) := by decide +kernel
theorem dX10_commandHere_59 : decode cX10_commandHere 59 = .ok (.ifCond .ne 12, 3) := by decide +kernel
theorem dX10_commandHere_62 : decode cX10_commandHere 62 = .ok (.aload_n 0, 1) := by decide +kernel
theorem dX10_commandHere_63 : decode cX10_commandHere 63 = .ok (.bipush 119, 2) := by decide +kernel
theorem dX10_commandHere_65 : decode cX10_commandHere 65 = .ok (.invokevirtual 177, 3) := by decide +kernel
theorem dX10_commandHere_68 : decode cX10_commandHere 68 = .ok (.ifCond .eq 12, 3) := by decide +kernel
theorem dX10_commandHere_71 : decode cX10_commandHere 71 = .ok (.aload_n 0, 1) := by decide +kernel
theorem dX10_commandHere_72 : decode cX10_commandHere 72 = .ok (.iload_n 1, 1) := by decide +kernel
theorem dX10_commandHere_73 : decode cX10_commandHere 73 = .ok (.iconst 1, 1) := by decide +kernel
theorem dX10_commandHere_74 : decode cX10_commandHere 74 = .ok (.iadd, 1) := by decide +kernel
theorem dX10_commandHere_75 : decode cX10_commandHere 75 = .ok (.iconst 1, 1) := by decide +kernel
theorem dX10_commandHere_76 : decode cX10_commandHere 76 = .ok (.invokevirtual 187, 3) := by decide +kernel
theorem dX10_commandHere_79 : decode cX10_commandHere 79 = .ok (.ireturn, 1) := by decide +kernel
theorem dX10_commandHere_80 : decode cX10_commandHere 80 = .ok (.aload_n 0, 1) := by decide +kernel
theorem dX10_commandHere_81 : decode cX10_commandHere 81 = .ok (.bipush 104, 2) := by decide +kernel
theorem dX10_commandHere_83 : decode cX10_commandHere 83 = .ok (.invokevirtual 177, 3) := by decide +kernel
theorem dX10_commandHere_86 : decode cX10_commandHere 86 = .ok (.ifCond .eq 49, 3) := by decide +kernel
theorem dX10_commandHere_89 : decode cX10_commandHere 89 = .ok (.aload_n 0, 1) := by decide +kernel
theorem dX10_commandHere_90 : decode cX10_commandHere 90 = .ok (.iload_n 1, 1) := by decide +kernel
theorem dX10_commandHere_91 : decode cX10_commandHere 91 = .ok (.iconst 1, 1) := by decide +kernel
theorem dX10_commandHere_92 : decode cX10_commandHere 92 = .ok (.iadd, 1) := by decide +kernel
theorem dX10_commandHere_93 : decode cX10_commandHere 93 = .ok (.iconst 2, 1) := by decide +kernel
theorem dX10_commandHere_94 : decode cX10_commandHere 94 = .ok (.invokevirtual 187, 3) := by decide +kernel
theorem dX10_commandHere_97 : decode cX10_commandHere 97 = .ok (.ifCond .eq 38, 3) := by decide +kernel
theorem dX10_commandHere_100 : decode cX10_commandHere 100 = .ok (.aload_n 0, 1) := by decide +kernel
theorem dX10_commandHere_101 : decode cX10_commandHere 101 = .ok (.bipush 47, 2) := by decide +kernel
theorem dX10_commandHere_103 : decode cX10_commandHere 103 = .ok (.invokevirtual 177, 3) := by decide +kernel
theorem dX10_commandHere_106 : decode cX10_commandHere 106 = .ok (.ifCond .eq 29, 3) := by decide +kernel
theorem dX10_commandHere_109 : decode cX10_commandHere 109 = .ok (.aload_n 0, 1) := by decide +kernel
theorem dX10_commandHere_110 : decode cX10_commandHere 110 = .ok (.iload_n 1, 1) := by decide +kernel
theorem dX10_commandHere_111 : decode cX10_commandHere 111 = .ok (.iconst 2, 1) := by decide +kernel
theorem dX10_commandHere_112 : decode cX10_commandHere 112 = .ok (.iadd, 1) := by decide +kernel
theorem dX10_commandHere_113 : decode cX10_commandHere 113 = .ok (.iconst 1, 1) := by decide +kernel
theorem dX10_commandHere_114 : decode cX10_commandHere 114 = .ok (.invokevirtual 187, 3) := by decide +kernel
theorem dX10_commandHere_117 : decode cX10_commandHere 117 = .ok (.ifCond .eq 18, 3) := by decide +kernel
theorem dX10_commandHere_120 : decode cX10_commandHere 120 = .ok (.aload_n 0, 1) := by decide +kernel
theorem dX10_commandHere_121 : decode cX10_commandHere 121 = .ok (.iload_n 1, 1) := by decide +kernel
theorem dX10_commandHere_122 : decode cX10_commandHere 122 = .ok (.iconst 3, 1) := by decide +kernel
theorem dX10_commandHere_123 : decode cX10_commandHere 123 = .ok (.iadd, 1) := by decide +kernel
theorem dX10_commandHere_124 : decode cX10_commandHere 124 = .ok (.iconst 1, 1) := by decide +kernel
theorem dX10_commandHere_125 : decode cX10_commandHere 125 = .ok (.invokevirtual 187, 3) := by decide +kernel
theorem dX10_commandHere_128 : decode cX10_commandHere 128 = .ok (.ifCond .eq 7, 3) := by decide +kernel
theorem dX10_commandHere_131 : decode cX10_commandHere 131 = .ok (.iconst 1, 1) := by decide +kernel
theorem dX10_commandHere_132 : decode cX10_commandHere 132 = .ok (.goto 4, 3) := by decide +kernel
theorem dX10_commandHere_135 : decode cX10_commandHere 135 = .ok (.iconst 0, 1) := by decide +kernel
theorem dX10_commandHere_136 : decode cX10_commandHere 136 = .ok (.ireturn, 1) := by decide +kernel
theorem dX10_isText_0 : decode cX10_isText 0 = .ok (.aload_n 0, 1) := by decide +kernel
theorem dX10_isText_1 : decode cX10_isText 1 = .ok (.iconst 0, 1) := by decide +kernel
theorem dX10_isText_2 : decode cX10_isText 2 = .ok (.putfield 171, 3) := by decide +kernel
theorem dX10_isText_5 : decode cX10_isText 5 = .ok (.aload_n 0, 1) := by decide +kernel
theorem dX10_isText_6 : decode cX10_isText 6 = .ok (.iconst 0, 1) := by decide +kernel
theorem dX10_isText_7 : decode cX10_isText 7 = .ok (.putfield 180, 3) := by decide +kernel
theorem dX10_isText_10 : decode cX10_isText 10 = .ok (.aload_n 0, 1) := by decide +kernel
theorem dX10_isText_11 : decode cX10_isText 11 = .ok (.invokevirtual 190, 3) := by decide +kernel
theorem dX10_isText_14 : decode cX10_isText 14 = .ok (.ifCond .ne 5, 3) := by decide +kernel
theorem dX10_isText_17 : decode cX10_isText 17 = .ok (.iconst 0, 1) := by decide +kernel
theorem dX10_isText_18 : decode cX10_isText 18 = .ok (.ireturn, 1) := by decide +kernel
theorem dX10_isText_19 : decode cX10_isText 19 = .ok (.aload_n 0, 1) := by decide +kernel
theorem dX10_isText_20 : decode cX10_isText 20 = .ok (.dup, 1) := by decide +kernel
theorem dX10_isText_21 : decode cX10_isText 21 = .ok (.getfield 180, 3) := by decide +kernel
theorem dX10_isText_24 : decode cX10_isText 24 = .ok (.iconst 1, 1) := by decide +kernel
theorem dX10_isText_25 : decode cX10_isText 25 = .ok (.iadd, 1) := by decide +kernel
theorem dX10_isText_26 : decode cX10_isText 26 = .ok (.putfield 180, 3) := by decide +kernel
theorem dX10_isText_29 : decode cX10_isText 29 = .ok (.aload_n 0, 1) := by decide +kernel
theorem dX10_isText_30 : decode cX10_isText 30 = .ok (.bipush 59, 2) := by decide +kernel
theorem dX10_isText_32 : decode cX10_isText 32 = .ok (.invokevirtual 177, 3) := by decide +kernel
theorem dX10_isText_35 : decode cX10_isText 35 = .ok (.ifCond .ne (-25), 3) := by decide +kernel
theorem dX10_isText_38 : decode cX10_isText 38 = .ok (.aload_n 0, 1) := by decide +kernel
theorem dX10_isText_39 : decode cX10_isText 39 = .ok (.getfield 171, 3) := by decide +kernel
theorem dX10_isText_42 : decode cX10_isText 42 = .ok (.aload_n 0, 1) := by decide +kernel
theorem dX10_isText_43 : decode cX10_isText 43 = .ok (.getfield 168, 3) := by decide +kernel
theorem dX10_isText_46 : decode cX10_isText 46 = .ok (.if_icmp .ne 7, 3) := by decide +kernel
theorem dX10_isText_49 : decode cX10_isText 49 = .ok (.iconst 1, 1) := by decide +kernel
theorem dX10_isText_50 : decode cX10_isText 50 = .ok (.goto 4, 3) := by decide +kernel
theorem dX10_isText_53 : decode cX10_isText 53 = .ok (.iconst 0, 1) := by decide +kernel
theorem dX10_isText_54 : decode cX10_isText 54 = .ok (.ireturn, 1) := by decide +kernel
theorem dX10_carries_0 : decode cX10_carries 0 = .ok (.aload_n 0, 1) := by decide +kernel
theorem dX10_carries_1 : decode cX10_carries 1 = .ok (.getfield 36, 3) := by decide +kernel
theorem dX10_carries_4 : decode cX10_carries 4 = .ok (.iload_n 1, 1) := by decide +kernel
theorem dX10_carries_5 : decode cX10_carries 5 = .ok (.iconst 1, 1) := by decide +kernel
theorem dX10_carries_6 : decode cX10_carries 6 = .ok (.iadd, 1) := by decide +kernel
theorem dX10_carries_7 : decode cX10_carries 7 = .ok (.iaload, 1) := by decide +kernel
theorem dX10_carries_8 : decode cX10_carries 8 = .ok (.istore_n 2, 1) := by decide +kernel
theorem dX10_carries_9 : decode cX10_carries 9 = .ok (.aload_n 0, 1) := by decide +kernel
theorem dX10_carries_10 : decode cX10_carries 10 = .ok (.getfield 36, 3) := by decide +kernel
theorem dX10_carries_13 : decode cX10_carries 13 = .ok (.iload_n 1, 1) := by decide +kernel
theorem dX10_carries_14 : decode cX10_carries 14 = .ok (.iaload, 1) := by decide +kernel
theorem dX10_carries_15 : decode cX10_carries 15 = .ok (.tableswitch 186 97 119 #[151, 111, 186, 169, 186, 105, 186, 123, 186, 186, 186, 157, 186, 174, 117, 186, 186, 186, 180, 145, 186, 186, 163], 105) := by decide +kernel
theorem dX10_carries_120 : decode cX10_carries 120 = .ok (.aload_n 0, 1) := by decide +kernel
theorem dX10_carries_121 : decode cX10_carries 121 = .ok (.iload_n 2, 1) := by decide +kernel
theorem dX10_carries_122 : decode cX10_carries 122 = .ok (.invokevirtual 193, 3) := by decide +kernel
theorem dX10_carries_125 : decode cX10_carries 125 = .ok (.ireturn, 1) := by decide +kernel
theorem dX10_carries_126 : decode cX10_carries 126 = .ok (.aload_n 0, 1) := by decide +kernel
theorem dX10_carries_127 : decode cX10_carries 127 = .ok (.iload_n 2, 1) := by decide +kernel
theorem dX10_carries_128 : decode cX10_carries 128 = .ok (.invokevirtual 196, 3) := by decide +kernel
theorem dX10_carries_131 : decode cX10_carries 131 = .ok (.ireturn, 1) := by decide +kernel
theorem dX10_carries_132 : decode cX10_carries 132 = .ok (.aload_n 0, 1) := by decide +kernel
theorem dX10_carries_133 : decode cX10_carries 133 = .ok (.iload_n 2, 1) := by decide +kernel
theorem dX10_carries_134 : decode cX10_carries 134 = .ok (.invokevirtual 199, 3) := by decide +kernel
theorem dX10_carries_137 : decode cX10_carries 137 = .ok (.ireturn, 1) := by decide +kernel
theorem dX10_carries_138 : decode cX10_carries 138 = .ok (.aload_n 0, 1) := by decide +kernel
theorem dX10_carries_139 : decode cX10_carries 139 = .ok (.iload_n 2, 1) := by decide +kernel
theorem dX10_carries_140 : decode cX10_carries 140 = .ok (.aload_n 0, 1) := by decide +kernel
theorem dX10_carries_141 : decode cX10_carries 141 = .ok (.getfield 36, 3) := by decide +kernel
theorem dX10_carries_144 : decode cX10_carries 144 = .ok (.iload_n 1, 1) := by decide +kernel
theorem dX10_carries_145 : decode cX10_carries 145 = .ok (.iconst 2, 1) := by decide +kernel
theorem dX10_carries_146 : decode cX10_carries 146 = .ok (.iadd, 1) := by decide +kernel
theorem dX10_carries_147 : decode cX10_carries 147 = .ok (.iaload, 1) := by decide +kernel
theorem dX10_carries_148 : decode cX10_carries 148 = .ok (.aload_n 0, 1) := by decide +kernel
theorem dX10_carries_149 : decode cX10_carries 149 = .ok (.getfield 36, 3) := by decide +kernel
theorem dX10_carries_152 : decode cX10_carries 152 = .ok (.iload_n 1, 1) := by decide +kernel
theorem dX10_carries_153 : decode cX10_carries 153 = .ok (.iconst 3, 1) := by decide +kernel
theorem dX10_carries_154 : decode cX10_carries 154 = .ok (.iadd, 1) := by decide +kernel
theorem dX10_carries_155 : decode cX10_carries 155 = .ok (.iaload, 1) := by decide +kernel
theorem dX10_carries_156 : decode cX10_carries 156 = .ok (.invokevirtual 202, 3) := by decide +kernel
theorem dX10_carries_159 : decode cX10_carries 159 = .ok (.ireturn, 1) := by decide +kernel
theorem dX10_carries_160 : decode cX10_carries 160 = .ok (.aload_n 0, 1) := by decide +kernel
theorem dX10_carries_161 : decode cX10_carries 161 = .ok (.iload_n 2, 1) := by decide +kernel
theorem dX10_carries_162 : decode cX10_carries 162 = .ok (.invokevirtual 205, 3) := by decide +kernel
theorem dX10_carries_165 : decode cX10_carries 165 = .ok (.ireturn, 1) := by decide +kernel
theorem dX10_carries_166 : decode cX10_carries 166 = .ok (.aload_n 0, 1) := by decide +kernel
theorem dX10_carries_167 : decode cX10_carries 167 = .ok (.iload_n 2, 1) := by decide +kernel
theorem dX10_carries_168 : decode cX10_carries 168 = .ok (.invokevirtual 208, 3) := by decide +kernel
theorem dX10_carries_171 : decode cX10_carries 171 = .ok (.ireturn, 1) := by decide +kernel
theorem dX10_carries_172 : decode cX10_carries 172 = .ok (.aload_n 0, 1) := by decide +kernel
theorem dX10_carries_173 : decode cX10_carries 173 = .ok (.iload_n 2, 1) := by decide +kernel
theorem dX10_carries_174 : decode cX10_carries 174 = .ok (.invokevirtual 211, 3) := by decide +kernel
theorem dX10_carries_177 : decode cX10_carries 177 = .ok (.ireturn, 1) := by decide +kernel
theorem dX10_carries_178 : decode cX10_carries 178 = .ok (.aload_n 0, 1) := by decide +kernel
theorem dX10_carries_179 : decode cX10_carries 179 = .ok (.iload_n 2, 1) := by decide +kernel
theorem dX10_carries_180 : decode cX10_carries 180 = .ok (.invokevirtual 214, 3) := by decide +kernel
theorem dX10_carries_183 : decode cX10_carries 183 = .ok (.ireturn, 1) := by decide +kernel
theorem dX10_carries_184 : decode cX10_carries 184 = .ok (.aload_n 0, 1) := by decide +kernel
theorem dX10_carries_185 : decode cX10_carries 185 = .ok (.invokevirtual 217, 3) := by decide +kernel
theorem dX10_carries_188 : decode cX10_carries 188 = .ok (.ireturn, 1) := by decide +kernel
theorem dX10_carries_189 : decode cX10_carries 189 = .ok (.aload_n 0, 1) := by decide +kernel
theorem dX10_carries_190 : decode cX10_carries 190 = .ok (.iload_n 2, 1) := by decide +kernel
theorem dX10_carries_191 : decode cX10_carries 191 = .ok (.invokevirtual 220, 3) := by decide +kernel
theorem dX10_carries_194 : decode cX10_carries 194 = .ok (.ireturn, 1) := by decide +kernel
theorem dX10_carries_195 : decode cX10_carries 195 = .ok (.aload_n 0, 1) := by decide +kernel
theorem dX10_carries_196 : decode cX10_carries 196 = .ok (.iload_n 2, 1) := by decide +kernel
theorem dX10_carries_197 : decode cX10_carries 197 = .ok (.invokevirtual 223, 3) := by decide +kernel
theorem dX10_carries_200 : decode cX10_carries 200 = .ok (.ireturn, 1) := by decide +kernel
theorem dX10_carries_201 : decode cX10_carries 201 = .ok (.aload_n 0, 1) := by decide +kernel
theorem dX10_carries_202 : decode cX10_carries 202 = .ok (.iload_n 2, 1) := by decide +kernel
theorem dX10_carries_203 : decode cX10_carries 203 = .ok (.invokevirtual 226, 3) := by decide +kernel
theorem dX10_carries_206 : decode cX10_carries 206 = .ok (.ireturn, 1) := by decide +kernel
theorem dX10_commands_0 : decode cX10_commands 0 = .ok (.aload_n 0, 1) := by decide +kernel
theorem dX10_commands_1 : decode cX10_commands 1 = .ok (.invokevirtual 229, 3) := by decide +kernel
theorem dX10_commands_4 : decode cX10_commands 4 = .ok (.istore_n 1, 1) := by decide +kernel
theorem dX10_commands_5 : decode cX10_commands 5 = .ok (.aload_n 0, 1) := by decide +kernel
theorem dX10_commands_6 : decode cX10_commands 6 = .ok (.iload_n 1, 1) := by decide +kernel
theorem dX10_commands_7 : decode cX10_commands 7 = .ok (.ifCond .eq 7, 3) := by decide +kernel
theorem dX10_commands_10 : decode cX10_commands 10 = .ok (.iconst (-1), 1) := by decide +kernel
theorem dX10_commands_11 : decode cX10_commands 11 = .ok (.goto 7, 3) := by decide +kernel
theorem dX10_commands_14 : decode cX10_commands 14 = .ok (.aload_n 0, 1) := by decide +kernel
theorem dX10_commands_15 : decode cX10_commands 15 = .ok (.getfield 171, 3) := by decide +kernel
theorem dX10_commands_18 : decode cX10_commands 18 = .ok (.putfield 28, 3) := by decide +kernel
theorem dX10_commands_21 : decode cX10_commands 21 = .ok (.aload_n 0, 1) := by decide +kernel
theorem dX10_commands_22 : decode cX10_commands 22 = .ok (.iconst 0, 1) := by decide +kernel
theorem dX10_commands_23 : decode cX10_commands 23 = .ok (.putfield 168, 3) := by decide +kernel
theorem dX10_commands_26 : decode cX10_commands 26 = .ok (.aload_n 0, 1) := by decide +kernel
theorem dX10_commands_27 : decode cX10_commands 27 = .ok (.iload_n 1, 1) := by decide +kernel
theorem dX10_commands_28 : decode cX10_commands 28 = .ok (.ifCond .eq 7, 3) := by decide +kernel
theorem dX10_commands_31 : decode cX10_commands 31 = .ok (.iconst 0, 1) := by decide +kernel
theorem dX10_commands_32 : decode cX10_commands 32 = .ok (.goto 4, 3) := by decide +kernel
theorem dX10_commands_35 : decode cX10_commands 35 = .ok (.iconst 1, 1) := by decide +kernel
theorem dX10_commands_36 : decode cX10_commands 36 = .ok (.invokevirtual 156, 3) := by decide +kernel
theorem dX10_commands_39 : decode cX10_commands 39 = .ok (.ifCond .eq 5, 3) := by decide +kernel
theorem dX10_commands_42 : decode cX10_commands 42 = .ok (.iconst 0, 1) := by decide +kernel
theorem dX10_commands_43 : decode cX10_commands 43 = .ok (.ireturn, 1) := by decide +kernel
theorem dX10_commands_44 : decode cX10_commands 44 = .ok (.aload_n 0, 1) := by decide +kernel
theorem dX10_commands_45 : decode cX10_commands 45 = .ok (.getfield 7, 3) := by decide +kernel
