theorem dX0_init_0 : decode cX0_init 0 = .ok (.aload_n 0, 1) := by decide +kernel
theorem dX0_init_1 : decode cX0_init 1 = .ok (.invokespecial 3, 3) := by decide +kernel
theorem dX0_init_4 : decode cX0_init 4 = .ok (.aload_n 0, 1) := by decide +kernel
theorem dX0_init_5 : decode cX0_init 5 = .ok (.new 9, 3) := by decide +kernel
theorem dX0_init_8 : decode cX0_init 8 = .ok (.dup, 1) := by decide +kernel
theorem dX0_init_9 : decode cX0_init 9 = .ok (.invokespecial 11, 3) := by decide +kernel
theorem dX0_init_12 : decode cX0_init 12 = .ok (.putfield 12, 3) := by decide +kernel
theorem dX0_init_15 : decode cX0_init 15 = .ok (.aload_n 0, 1) := by decide +kernel
theorem dX0_init_16 : decode cX0_init 16 = .ok (.new 9, 3) := by decide +kernel
theorem dX0_init_19 : decode cX0_init 19 = .ok (.dup, 1) := by decide +kernel
theorem dX0_init_20 : decode cX0_init 20 = .ok (.invokespecial 11, 3) := by decide +kernel
theorem dX0_init_23 : decode cX0_init 23 = .ok (.putfield 18, 3) := by decide +kernel
theorem dX0_init_26 : decode cX0_init 26 = .ok (.return_, 1) := by decide +kernel
theorem dX0_copyFrom_0 : decode cX0_copyFrom 0 = .ok (.aload_n 0, 1) := by decide +kernel
theorem dX0_copyFrom_1 : decode cX0_copyFrom 1 = .ok (.getfield 12, 3) := by decide +kernel
theorem dX0_copyFrom_4 : decode cX0_copyFrom 4 = .ok (.aload_n 1, 1) := by decide +kernel
theorem dX0_copyFrom_5 : decode cX0_copyFrom 5 = .ok (.getfield 12, 3) := by decide +kernel
theorem dX0_copyFrom_8 : decode cX0_copyFrom 8 = .ok (.invokevirtual 21, 3) := by decide +kernel
theorem dX0_copyFrom_11 : decode cX0_copyFrom 11 = .ok (.aload_n 0, 1) := by decide +kernel
theorem dX0_copyFrom_12 : decode cX0_copyFrom 12 = .ok (.getfield 18, 3) := by decide +kernel
theorem dX0_copyFrom_15 : decode cX0_copyFrom 15 = .ok (.aload_n 1, 1) := by decide +kernel
theorem dX0_copyFrom_16 : decode cX0_copyFrom 16 = .ok (.getfield 18, 3) := by decide +kernel
theorem dX0_copyFrom_19 : decode cX0_copyFrom 19 = .ok (.invokevirtual 21, 3) := by decide +kernel
theorem dX0_copyFrom_22 : decode cX0_copyFrom 22 = .ok (.aload_n 0, 1) := by decide +kernel
theorem dX0_copyFrom_23 : decode cX0_copyFrom 23 = .ok (.aload_n 1, 1) := by decide +kernel
theorem dX0_copyFrom_24 : decode cX0_copyFrom 24 = .ok (.getfield 25, 3) := by decide +kernel
theorem dX0_copyFrom_27 : decode cX0_copyFrom 27 = .ok (.putfield 25, 3) := by decide +kernel
theorem dX0_copyFrom_30 : decode cX0_copyFrom 30 = .ok (.aload_n 0, 1) := by decide +kernel
theorem dX0_copyFrom_31 : decode cX0_copyFrom 31 = .ok (.aload_n 1, 1) := by decide +kernel
theorem dX0_copyFrom_32 : decode cX0_copyFrom 32 = .ok (.getfield 29, 3) := by decide +kernel
theorem dX0_copyFrom_35 : decode cX0_copyFrom 35 = .ok (.putfield 29, 3) := by decide +kernel
theorem dX0_copyFrom_38 : decode cX0_copyFrom 38 = .ok (.aload_n 0, 1) := by decide +kernel
theorem dX0_copyFrom_39 : decode cX0_copyFrom 39 = .ok (.aload_n 1, 1) := by decide +kernel
theorem dX0_copyFrom_40 : decode cX0_copyFrom 40 = .ok (.getfield 32, 3) := by decide +kernel
theorem dX0_copyFrom_43 : decode cX0_copyFrom 43 = .ok (.putfield 32, 3) := by decide +kernel
theorem dX0_copyFrom_46 : decode cX0_copyFrom 46 = .ok (.aload_n 0, 1) := by decide +kernel
theorem dX0_copyFrom_47 : decode cX0_copyFrom 47 = .ok (.aload_n 1, 1) := by decide +kernel
theorem dX0_copyFrom_48 : decode cX0_copyFrom 48 = .ok (.getfield 35, 3) := by decide +kernel
theorem dX0_copyFrom_51 : decode cX0_copyFrom 51 = .ok (.putfield 35, 3) := by decide +kernel
theorem dX0_copyFrom_54 : decode cX0_copyFrom 54 = .ok (.aload_n 0, 1) := by decide +kernel
theorem dX0_copyFrom_55 : decode cX0_copyFrom 55 = .ok (.aload_n 1, 1) := by decide +kernel
theorem dX0_copyFrom_56 : decode cX0_copyFrom 56 = .ok (.getfield 38, 3) := by decide +kernel
theorem dX0_copyFrom_59 : decode cX0_copyFrom 59 = .ok (.putfield 38, 3) := by decide +kernel
theorem dX0_copyFrom_62 : decode cX0_copyFrom 62 = .ok (.aload_n 0, 1) := by decide +kernel
theorem dX0_copyFrom_63 : decode cX0_copyFrom 63 = .ok (.aload_n 1, 1) := by decide +kernel
theorem dX0_copyFrom_64 : decode cX0_copyFrom 64 = .ok (.getfield 41, 3) := by decide +kernel
theorem dX0_copyFrom_67 : decode cX0_copyFrom 67 = .ok (.putfield 41, 3) := by decide +kernel
theorem dX0_copyFrom_70 : decode cX0_copyFrom 70 = .ok (.aload_n 0, 1) := by decide +kernel
theorem dX0_copyFrom_71 : decode cX0_copyFrom 71 = .ok (.aload_n 1, 1) := by decide +kernel
theorem dX0_copyFrom_72 : decode cX0_copyFrom 72 = .ok (.getfield 44, 3) := by decide +kernel
theorem dX0_copyFrom_75 : decode cX0_copyFrom 75 = .ok (.putfield 44, 3) := by decide +kernel
theorem dX0_copyFrom_78 : decode cX0_copyFrom 78 = .ok (.return_, 1) := by decide +kernel
theorem dX0_begin_0 : decode cX0_begin 0 = .ok (.aload_n 0, 1) := by decide +kernel
theorem dX0_begin_1 : decode cX0_begin 1 = .ok (.getfield 12, 3) := by decide +kernel
theorem dX0_begin_4 : decode cX0_begin 4 = .ok (.invokevirtual 48, 3) := by decide +kernel
theorem dX0_begin_7 : decode cX0_begin 7 = .ok (.aload_n 0, 1) := by decide +kernel
theorem dX0_begin_8 : decode cX0_begin 8 = .ok (.getfield 18, 3) := by decide +kernel
theorem dX0_begin_11 : decode cX0_begin 11 = .ok (.invokevirtual 48, 3) := by decide +kernel
theorem dX0_begin_14 : decode cX0_begin 14 = .ok (.aload_n 0, 1) := by decide +kernel
theorem dX0_begin_15 : decode cX0_begin 15 = .ok (.iload_n 1, 1) := by decide +kernel
theorem dX0_begin_16 : decode cX0_begin 16 = .ok (.putfield 25, 3) := by decide +kernel
theorem dX0_begin_19 : decode cX0_begin 19 = .ok (.aload_n 0, 1) := by decide +kernel
theorem dX0_begin_20 : decode cX0_begin 20 = .ok (.iconst 0, 1) := by decide +kernel
theorem dX0_begin_21 : decode cX0_begin 21 = .ok (.putfield 29, 3) := by decide +kernel
theorem dX0_begin_24 : decode cX0_begin 24 = .ok (.aload_n 0, 1) := by decide +kernel
theorem dX0_begin_25 : decode cX0_begin 25 = .ok (.iconst 0, 1) := by decide +kernel
theorem dX0_begin_26 : decode cX0_begin 26 = .ok (.putfield 41, 3) := by decide +kernel
theorem dX0_begin_29 : decode cX0_begin 29 = .ok (.aload_n 0, 1) := by decide +kernel
theorem dX0_begin_30 : decode cX0_begin 30 = .ok (.iconst 0, 1) := by decide +kernel
theorem dX0_begin_31 : decode cX0_begin 31 = .ok (.iconst (-1), 1) := by decide +kernel
theorem dX0_begin_32 : decode cX0_begin 32 = .ok (.iconst (-1), 1) := by decide +kernel
theorem dX0_begin_33 : decode cX0_begin 33 = .ok (.invokevirtual 51, 3) := by decide +kernel
theorem dX0_begin_36 : decode cX0_begin 36 = .ok (.return_, 1) := by decide +kernel
theorem dX0_moveTo_0 : decode cX0_moveTo 0 = .ok (.aload_n 0, 1) := by decide +kernel
theorem dX0_moveTo_1 : decode cX0_moveTo 1 = .ok (.iload_n 1, 1) := by decide +kernel
theorem dX0_moveTo_2 : decode cX0_moveTo 2 = .ok (.putfield 32, 3) := by decide +kernel
theorem dX0_moveTo_5 : decode cX0_moveTo 5 = .ok (.aload_n 0, 1) := by decide +kernel
theorem dX0_moveTo_6 : decode cX0_moveTo 6 = .ok (.iload_n 2, 1) := by decide +kernel
theorem dX0_moveTo_7 : decode cX0_moveTo 7 = .ok (.putfield 35, 3) := by decide +kernel
theorem dX0_moveTo_10 : decode cX0_moveTo 10 = .ok (.aload_n 0, 1) := by decide +kernel
theorem dX0_moveTo_11 : decode cX0_moveTo 11 = .ok (.iload_n 3, 1) := by decide +kernel
theorem dX0_moveTo_12 : decode cX0_moveTo 12 = .ok (.putfield 38, 3) := by decide +kernel
theorem dX0_moveTo_15 : decode cX0_moveTo 15 = .ok (.aload_n 0, 1) := by decide +kernel
theorem dX0_moveTo_16 : decode cX0_moveTo 16 = .ok (.iconst 0, 1) := by decide +kernel
theorem dX0_moveTo_17 : decode cX0_moveTo 17 = .ok (.putfield 44, 3) := by decide +kernel
theorem dX0_moveTo_20 : decode cX0_moveTo 20 = .ok (.return_, 1) := by decide +kernel
theorem dX0_flip_0 : decode cX0_flip 0 = .ok (.aload_n 0, 1) := by decide +kernel
theorem dX0_flip_1 : decode cX0_flip 1 = .ok (.iconst 1, 1) := by decide +kernel
theorem dX0_flip_2 : decode cX0_flip 2 = .ok (.aload_n 0, 1) := by decide +kernel
theorem dX0_flip_3 : decode cX0_flip 3 = .ok (.getfield 41, 3) := by decide +kernel
theorem dX0_flip_6 : decode cX0_flip 6 = .ok (.isub, 1) := by decide +kernel
theorem dX0_flip_7 : decode cX0_flip 7 = .ok (.putfield 41, 3) := by decide +kernel
theorem dX0_flip_10 : decode cX0_flip 10 = .ok (.aload_n 0, 1) := by decide +kernel
theorem dX0_flip_11 : decode cX0_flip 11 = .ok (.iconst 1, 1) := by decide +kernel
theorem dX0_flip_12 : decode cX0_flip 12 = .ok (.putfield 44, 3) := by decide +kernel
theorem dX0_flip_15 : decode cX0_flip 15 = .ok (.return_, 1) := by decide +kernel
theorem dX0_addSalt_0 : decode cX0_addSalt 0 = .ok (.aload_n 0, 1) := by decide +kernel
theorem dX0_addSalt_1 : decode cX0_addSalt 1 = .ok (.bipush 9, 2) := by decide +kernel
theorem dX0_addSalt_3 : decode cX0_addSalt 3 = .ok (.aload_n 0, 1) := by decide +kernel
theorem dX0_addSalt_4 : decode cX0_addSalt 4 = .ok (.getfield 29, 3) := by decide +kernel
theorem dX0_addSalt_7 : decode cX0_addSalt 7 = .ok (.iload_n 1, 1) := by decide +kernel
theorem dX0_addSalt_8 : decode cX0_addSalt 8 = .ok (.iadd, 1) := by decide +kernel
theorem dX0_addSalt_9 : decode cX0_addSalt 9 = .ok (.invokestatic 55, 3) := by decide +kernel
theorem dX0_addSalt_12 : decode cX0_addSalt 12 = .ok (.putfield 29, 3) := by decide +kernel
theorem dX0_addSalt_15 : decode cX0_addSalt 15 = .ok (.return_, 1) := by decide +kernel
theorem dX0_spendHour_0 : decode cX0_spendHour 0 = .ok (.aload_n 0, 1) := by decide +kernel
theorem dX0_spendHour_1 : decode cX0_spendHour 1 = .ok (.aload_n 0, 1) := by decide +kernel
theorem dX0_spendHour_2 : decode cX0_spendHour 2 = .ok (.getfield 41, 3) := by decide +kernel
theorem dX0_spendHour_5 : decode cX0_spendHour 5 = .ok (.invokevirtual 61, 3) := by decide +kernel
theorem dX0_spendHour_8 : decode cX0_spendHour 8 = .ok (.astore_n 3, 1) := by decide +kernel
theorem dX0_spendHour_9 : decode cX0_spendHour 9 = .ok (.aload_n 3, 1) := by decide +kernel
theorem dX0_spendHour_10 : decode cX0_spendHour 10 = .ok (.iload_n 2, 1) := by decide +kernel
theorem dX0_spendHour_11 : decode cX0_spendHour 11 = .ok (.invokevirtual 65, 3) := by decide +kernel
theorem dX0_spendHour_14 : decode cX0_spendHour 14 = .ok (.aload_n 0, 1) := by decide +kernel
theorem dX0_spendHour_15 : decode cX0_spendHour 15 = .ok (.getfield 44, 3) := by decide +kernel
theorem dX0_spendHour_18 : decode cX0_spendHour 18 = .ok (.ifCond .ne 21, 3) := by decide +kernel
theorem dX0_spendHour_21 : decode cX0_spendHour 21 = .ok (.iload_n 1, 1) := by decide +kernel
theorem dX0_spendHour_22 : decode cX0_spendHour 22 = .ok (.aload_n 0, 1) := by decide +kernel
theorem dX0_spendHour_23 : decode cX0_spendHour 23 = .ok (.invokevirtual 69, 3) := by decide +kernel
theorem dX0_spendHour_26 : decode cX0_spendHour 26 = .ok (.if_icmp .le 13, 3) := by decide +kernel
theorem dX0_spendHour_29 : decode cX0_spendHour 29 = .ok (.aload_n 3, 1) := by decide +kernel
theorem dX0_spendHour_30 : decode cX0_spendHour 30 = .ok (.iload_n 1, 1) := by decide +kernel
theorem dX0_spendHour_31 : decode cX0_spendHour 31 = .ok (.aload_n 0, 1) := by decide +kernel
theorem dX0_spendHour_32 : decode cX0_spendHour 32 = .ok (.invokevirtual 69, 3) := by decide +kernel
theorem dX0_spendHour_35 : decode cX0_spendHour 35 = .ok (.isub, 1) := by decide +kernel
theorem dX0_spendHour_36 : decode cX0_spendHour 36 = .ok (.invokevirtual 73, 3) := by decide +kernel
theorem dX0_spendHour_39 : decode cX0_spendHour 39 = .ok (.aload_n 0, 1) := by decide +kernel
theorem dX0_spendHour_40 : decode cX0_spendHour 40 = .ok (.iconst 0, 1) := by decide +kernel
theorem dX0_spendHour_41 : decode cX0_spendHour 41 = .ok (.putfield 44, 3) := by decide +kernel
theorem dX0_spendHour_44 : decode cX0_spendHour 44 = .ok (.return_, 1) := by decide +kernel
theorem dX0_side_0 : decode cX0_side 0 = .ok (.iload_n 1, 1) := by decide +kernel
theorem dX0_side_1 : decode cX0_side 1 = .ok (.ifCond .ne 10, 3) := by decide +kernel
theorem dX0_side_4 : decode cX0_side 4 = .ok (.aload_n 0, 1) := by decide +kernel
theorem dX0_side_5 : decode cX0_side 5 = .ok (.getfield 12, 3) := by decide +kernel
theorem dX0_side_8 : decode cX0_side 8 = .ok (.goto 7, 3) := by decide +kernel
theorem dX0_side_11 : decode cX0_side 11 = .ok (.aload_n 0, 1) := by decide +kernel
theorem dX0_side_12 : decode cX0_side 12 = .ok (.getfield 18, 3) := by decide +kernel
theorem dX0_side_15 : decode cX0_side 15 = .ok (.areturn, 1) := by decide +kernel
theorem dX0_downSide_0 : decode cX0_downSide 0 = .ok (.aload_n 0, 1) := by decide +kernel
theorem dX0_downSide_1 : decode cX0_downSide 1 = .ok (.aload_n 0, 1) := by decide +kernel
theorem dX0_downSide_2 : decode cX0_downSide 2 = .ok (.getfield 41, 3) := by decide +kernel
theorem dX0_downSide_5 : decode cX0_downSide 5 = .ok (.invokevirtual 61, 3) := by decide +kernel
theorem dX0_downSide_8 : decode cX0_downSide 8 = .ok (.areturn, 1) := by decide +kernel
theorem dX0_hangs_0 : decode cX0_hangs 0 = .ok (.aload_n 0, 1) := by decide +kernel
theorem dX0_hangs_1 : decode cX0_hangs 1 = .ok (.getfield 32, 3) := by decide +kernel
theorem dX0_hangs_4 : decode cX0_hangs 4 = .ok (.iconst 2, 1) := by decide +kernel
theorem dX0_hangs_5 : decode cX0_hangs 5 = .ok (.if_icmp .ne 7, 3) := by decide +kernel
theorem dX0_hangs_8 : decode cX0_hangs 8 = .ok (.iconst 1, 1) := by decide +kernel
theorem dX0_hangs_9 : decode cX0_hangs 9 = .ok (.goto 4, 3) := by decide +kernel
theorem dX0_hangs_12 : decode cX0_hangs 12 = .ok (.iconst 0, 1) := by decide +kernel
theorem dX0_hangs_13 : decode cX0_hangs 13 = .ok (.ireturn, 1) := by decide +kernel
theorem dX0_isBurnt_0 : decode cX0_isBurnt 0 = .ok (.aload_n 0, 1) := by decide +kernel
theorem dX0_isBurnt_1 : decode cX0_isBurnt 1 = .ok (.getfield 12, 3) := by decide +kernel
theorem dX0_isBurnt_4 : decode cX0_isBurnt 4 = .ok (.invokevirtual 76, 3) := by decide +kernel
theorem dX0_isBurnt_7 : decode cX0_isBurnt 7 = .ok (.ifCond .ne 13, 3) := by decide +kernel
theorem dX0_isBurnt_10 : decode cX0_isBurnt 10 = .ok (.aload_n 0, 1) := by decide +kernel
theorem dX0_isBurnt_11 : decode cX0_isBurnt 11 = .ok (.getfield 18, 3) := by decide +kernel
theorem dX0_isBurnt_14 : decode cX0_isBurnt 14 = .ok (.invokevirtual 76, 3) := by decide +kernel
theorem dX0_isBurnt_17 : decode cX0_isBurnt 17 = .ok (.ifCond .eq 7, 3) := by decide +kernel
theorem dX0_isBurnt_20 : decode cX0_isBurnt 20 = .ok (.iconst 1, 1) := by decide +kernel
theorem dX0_isBurnt_21 : decode cX0_isBurnt 21 = .ok (.goto 4, 3) := by decide +kernel
theorem dX0_isBurnt_24 : decode cX0_isBurnt 24 = .ok (.iconst 0, 1) := by decide +kernel
theorem dX0_isBurnt_25 : decode cX0_isBurnt 25 = .ok (.ireturn, 1) := by decide +kernel
theorem dX0_isReady_0 : decode cX0_isReady 0 = .ok (.aload_n 0, 1) := by decide +kernel
theorem dX0_isReady_1 : decode cX0_isReady 1 = .ok (.invokevirtual 80, 3) := by decide +kernel
theorem dX0_isReady_4 : decode cX0_isReady 4 = .ok (.ifCond .ne 14, 3) := by decide +kernel
theorem dX0_isReady_7 : decode cX0_isReady 7 = .ok (.aload_n 0, 1) := by decide +kernel
theorem dX0_isReady_8 : decode cX0_isReady 8 = .ok (.invokevirtual 81, 3) := by decide +kernel
theorem dX0_isReady_11 : decode cX0_isReady 11 = .ok (.ifCond .ne 7, 3) := by decide +kernel
theorem dX0_isReady_14 : decode cX0_isReady 14 = .ok (.iconst 1, 1) := by decide +kernel
theorem dX0_isReady_15 : decode cX0_isReady 15 = .ok (.goto 4, 3) := by decide +kernel
theorem dX0_isReady_18 : decode cX0_isReady 18 = .ok (.iconst 0, 1) := by decide +kernel
theorem dX0_isReady_19 : decode cX0_isReady 19 = .ok (.ireturn, 1) := by decide +kernel
theorem dX0_heatBorne_0 : decode cX0_heatBorne 0 = .ok (.iconst 2, 1) := by decide +kernel
theorem dX0_heatBorne_1 : decode cX0_heatBorne 1 = .ok (.aload_n 0, 1) := by decide +kernel
theorem dX0_heatBorne_2 : decode cX0_heatBorne 2 = .ok (.getfield 29, 3) := by decide +kernel
theorem dX0_heatBorne_5 : decode cX0_heatBorne 5 = .ok (.iconst 3, 1) := by decide +kernel
theorem dX0_heatBorne_6 : decode cX0_heatBorne 6 = .ok (.idiv, 1) := by decide +kernel
theorem dX0_heatBorne_7 : decode cX0_heatBorne 7 = .ok (.iadd, 1) := by decide +kernel
theorem dX0_heatBorne_8 : decode cX0_heatBorne 8 = .ok (.ireturn, 1) := by decide +kernel
theorem dX0_gapNeeded_0 : decode cX0_gapNeeded 0 = .ok (.iconst 1, 1) := by decide +kernel
theorem dX0_gapNeeded_1 : decode cX0_gapNeeded 1 = .ok (.aload_n 0, 1) := by decide +kernel
theorem dX0_gapNeeded_2 : decode cX0_gapNeeded 2 = .ok (.getfield 25, 3) := by decide +kernel
theorem dX0_gapNeeded_5 : decode cX0_gapNeeded 5 = .ok (.iconst 3, 1) := by decide +kernel
theorem dX0_gapNeeded_6 : decode cX0_gapNeeded 6 = .ok (.idiv, 1) := by decide +kernel
theorem dX0_gapNeeded_7 : decode cX0_gapNeeded 7 = .ok (.iadd, 1) := by decide +kernel
theorem dX0_gapNeeded_8 : decode cX0_gapNeeded 8 = .ok (.ireturn, 1) := by decide +kernel
theorem dX0_smokeLacking_0 : decode cX0_smokeLacking 0 = .ok (.iconst 5, 1) := by decide +kernel
theorem dX0_smokeLacking_1 : decode cX0_smokeLacking 1 = .ok (.aload_n 0, 1) := by decide +kernel
theorem dX0_smokeLacking_2 : decode cX0_smokeLacking 2 = .ok (.getfield 25, 3) := by decide +kernel
theorem dX0_smokeLacking_5 : decode cX0_smokeLacking 5 = .ok (.iadd, 1) := by decide +kernel
theorem dX0_smokeLacking_6 : decode cX0_smokeLacking 6 = .ok (.istore_n 1, 1) := by decide +kernel
theorem dX0_smokeLacking_7 : decode cX0_smokeLacking 7 = .ok (.iconst 0, 1) := by decide +kernel
theorem dX0_smokeLacking_8 : decode cX0_smokeLacking 8 = .ok (.iload_n 1, 1) := by decide +kernel
theorem dX0_smokeLacking_9 : decode cX0_smokeLacking 9 = .ok (.aload_n 0, 1) := by decide +kernel
theorem dX0_smokeLacking_10 : decode cX0_smokeLacking 10 = .ok (.getfield 12, 3) := by decide +kernel
theorem dX0_smokeLacking_13 : decode cX0_smokeLacking 13 = .ok (.getfield 84, 3) := by decide +kernel
theorem dX0_smokeLacking_16 : decode cX0_smokeLacking 16 = .ok (.isub, 1) := by decide +kernel
theorem dX0_smokeLacking_17 : decode cX0_smokeLacking 17 = .ok (.invokestatic 87, 3) := by decide +kernel
theorem dX0_smokeLacking_20 : decode cX0_smokeLacking 20 = .ok (.iconst 0, 1) := by decide +kernel
theorem dX0_smokeLacking_21 : decode cX0_smokeLacking 21 = .ok (.iload_n 1, 1) := by decide +kernel
theorem dX0_smokeLacking_22 : decode cX0_smokeLacking 22 = .ok (.aload_n 0, 1) := by decide +kernel
theorem dX0_smokeLacking_23 : decode cX0_smokeLacking 23 = .ok (.getfield 18, 3) := by decide +kernel
theorem dX0_smokeLacking_26 : decode cX0_smokeLacking 26 = .ok (.getfield 84, 3) := by decide +kernel
theorem dX0_smokeLacking_29 : decode cX0_smokeLacking 29 = .ok (.isub, 1) := by decide +kernel
theorem dX0_smokeLacking_30 : decode cX0_smokeLacking 30 = .ok (.invokestatic 87, 3) := by decide +kernel
theorem dX0_smokeLacking_33 : decode cX0_smokeLacking 33 = .ok (.iadd, 1) := by decide +kernel
theorem dX0_smokeLacking_34 : decode cX0_smokeLacking 34 = .ok (.ireturn, 1) := by decide +kernel
theorem dX0_price_0 : decode cX0_price 0 = .ok (.aload_n 0, 1) := by decide +kernel
theorem dX0_price_1 : decode cX0_price 1 = .ok (.getfield 25, 3) := by decide +kernel
theorem dX0_price_4 : decode cX0_price 4 = .ok (.iconst 3, 1) := by decide +kernel
theorem dX0_price_5 : decode cX0_price 5 = .ok (.imul, 1) := by decide +kernel
theorem dX0_price_6 : decode cX0_price 6 = .ok (.aload_n 0, 1) := by decide +kernel
theorem dX0_price_7 : decode cX0_price 7 = .ok (.getfield 29, 3) := by decide +kernel
theorem dX0_price_10 : decode cX0_price 10 = .ok (.bipush 6, 2) := by decide +kernel
theorem dX0_price_12 : decode cX0_price 12 = .ok (.if_icmp .gt 10, 3) := by decide +kernel
theorem dX0_price_15 : decode cX0_price 15 = .ok (.aload_n 0, 1) := by decide +kernel
theorem dX0_price_16 : decode cX0_price 16 = .ok (.getfield 29, 3) := by decide +kernel
theorem dX0_price_19 : decode cX0_price 19 = .ok (.goto 4, 3) := by decide +kernel
theorem dX0_price_22 : decode cX0_price 22 = .ok (.iconst 0, 1) := by decide +kernel
theorem dX0_price_23 : decode cX0_price 23 = .ok (.iadd, 1) := by decide +kernel
theorem dX0_price_24 : decode cX0_price 24 = .ok (.ireturn, 1) := by decide +kernel
theorem dX0_number_0 : decode cX0_number 0 = .ok (.iload_n 1, 1) := by decide +kernel
theorem dX0_number_1 : decode cX0_number 1 = .ok (.tableswitch 95 0 7 #[47, 52, 57, 62, 67, 72, 77, 90], 47) := by decide +kernel
theorem dX0_number_48 : decode cX0_number 48 = .ok (.aload_n 0, 1) := by decide +kernel
theorem dX0_number_49 : decode cX0_number 49 = .ok (.getfield 25, 3) := by decide +kernel
theorem dX0_number_52 : decode cX0_number 52 = .ok (.ireturn, 1) := by decide +kernel
theorem dX0_number_53 : decode cX0_number 53 = .ok (.aload_n 0, 1) := by decide +kernel
theorem dX0_number_54 : decode cX0_number 54 = .ok (.getfield 29, 3) := by decide +kernel
theorem dX0_number_57 : decode cX0_number 57 = .ok (.ireturn, 1) := by decide +kernel
theorem dX0_number_58 : decode cX0_number 58 = .ok (.aload_n 0, 1) := by decide +kernel
theorem dX0_number_59 : decode cX0_number 59 = .ok (.getfield 32, 3) := by decide +kernel
theorem dX0_number_62 : decode cX0_number 62 = .ok (.ireturn, 1) := by decide +kernel
theorem dX0_number_63 : decode cX0_number 63 = .ok (.aload_n 0, 1) := by decide +kernel
theorem dX0_number_64 : decode cX0_number 64 = .ok (.getfield 35, 3) := by decide +kernel
theorem dX0_number_67 : decode cX0_number 67 = .ok (.ireturn, 1) := by decide +kernel
theorem dX0_number_68 : decode cX0_number 68 = .ok (.aload_n 0, 1) := by decide +kernel
theorem dX0_number_69 : decode cX0_number 69 = .ok (.getfield 38, 3) := by decide +kernel
theorem dX0_number_72 : decode cX0_number 72 = .ok (.ireturn, 1) := by decide +kernel
theorem dX0_number_73 : decode cX0_number 73 = .ok (.aload_n 0, 1) := by decide +kernel
theorem dX0_number_74 : decode cX0_number 74 = .ok (.getfield 41, 3) := by decide +kernel
theorem dX0_number_77 : decode cX0_number 77 = .ok (.ireturn, 1) := by decide +kernel
theorem dX0_number_78 : decode cX0_number 78 = .ok (.aload_n 0, 1) := by decide +kernel
theorem dX0_number_79 : decode cX0_number 79 = .ok (.getfield 44, 3) := by decide +kernel
theorem dX0_number_82 : decode cX0_number 82 = .ok (.ifCond .eq 7, 3) := by decide +kernel
theorem dX0_number_85 : decode cX0_number 85 = .ok (.iconst 1, 1) := by decide +kernel
theorem dX0_number_86 : decode cX0_number 86 = .ok (.goto 4, 3) := by decide +kernel
theorem dX0_number_89 : decode cX0_number 89 = .ok (.iconst 0, 1) := by decide +kernel
theorem dX0_number_90 : decode cX0_number 90 = .ok (.ireturn, 1) := by decide +kernel
theorem dX0_number_91 : decode cX0_number 91 = .ok (.aload_n 0, 1) := by decide +kernel
theorem dX0_number_92 : decode cX0_number 92 = .ok (.invokevirtual 69, 3) := by decide +kernel
theorem dX0_number_95 : decode cX0_number 95 = .ok (.ireturn, 1) := by decide +kernel
theorem dX0_number_96 : decode cX0_number 96 = .ok (.aload_n 0, 1) := by decide +kernel
theorem dX0_number_97 : decode cX0_number 97 = .ok (.invokevirtual 90, 3) := by decide +kernel
theorem dX0_number_100 : decode cX0_number 100 = .ok (.ireturn, 1) := by decide +kernel
theorem dX0_measured_0 : decode cX0_measured 0 = .ok (.iload_n 1, 1) := by decide +kernel
theorem dX0_measured_1 : decode cX0_measured 1 = .ok (.tableswitch 75 0 3 #[31, 36, 41, 57], 31) := by decide +kernel
theorem dX0_measured_32 : decode cX0_measured 32 = .ok (.aload_n 0, 1) := by decide +kernel
theorem dX0_measured_33 : decode cX0_measured 33 = .ok (.getfield 25, 3) := by decide +kernel
theorem dX0_measured_36 : decode cX0_measured 36 = .ok (.ireturn, 1) := by decide +kernel
theorem dX0_measured_37 : decode cX0_measured 37 = .ok (.aload_n 0, 1) := by decide +kernel
theorem dX0_measured_38 : decode cX0_measured 38 = .ok (.getfield 29, 3) := by decide +kernel
theorem dX0_measured_41 : decode cX0_measured 41 = .ok (.ireturn, 1) := by decide +kernel
theorem dX0_measured_42 : decode cX0_measured 42 = .ok (.aload_n 0, 1) := by decide +kernel
theorem dX0_measured_43 : decode cX0_measured 43 = .ok (.getfield 12, 3) := by decide +kernel
theorem dX0_measured_46 : decode cX0_measured 46 = .ok (.getfield 84, 3) := by decide +kernel
theorem dX0_measured_49 : decode cX0_measured 49 = .ok (.aload_n 0, 1) := by decide +kernel
theorem dX0_measured_50 : decode cX0_measured 50 = .ok (.getfield 18, 3) := by decide +kernel
theorem dX0_measured_53 : decode cX0_measured 53 = .ok (.getfield 84, 3) := by decide +kernel
theorem dX0_measured_56 : decode cX0_measured 56 = .ok (.iadd, 1) := by decide +kernel
theorem dX0_measured_57 : decode cX0_measured 57 = .ok (.ireturn, 1) := by decide +kernel
theorem dX0_measured_58 : decode cX0_measured 58 = .ok (.aload_n 0, 1) := by decide +kernel
theorem dX0_measured_59 : decode cX0_measured 59 = .ok (.getfield 12, 3) := by decide +kernel
theorem dX0_measured_62 : decode cX0_measured 62 = .ok (.getfield 93, 3) := by decide +kernel
theorem dX0_measured_65 : decode cX0_measured 65 = .ok (.aload_n 0, 1) := by decide +kernel
theorem dX0_measured_66 : decode cX0_measured 66 = .ok (.getfield 18, 3) := by decide +kernel
theorem dX0_measured_69 : decode cX0_measured 69 = .ok (.getfield 93, 3) := by decide +kernel
theorem dX0_measured_72 : decode cX0_measured 72 = .ok (.invokestatic 87, 3) := by decide +kernel
theorem dX0_measured_75 : decode cX0_measured 75 = .ok (.ireturn, 1) := by decide +kernel
theorem dX0_measured_76 : decode cX0_measured 76 = .ok (.aload_n 0, 1) := by decide +kernel
theorem dX0_measured_77 : decode cX0_measured 77 = .ok (.invokevirtual 96, 3) := by decide +kernel
theorem dX0_measured_80 : decode cX0_measured 80 = .ok (.ireturn, 1) := by decide +kernel
theorem dX1_init_0 : decode cX1_init 0 = .ok (.aload_n 0, 1) := by decide +kernel
theorem dX1_init_1 : decode cX1_init 1 = .ok (.invokespecial 3, 3) := by decide +kernel
theorem dX1_init_4 : decode cX1_init 4 = .ok (.aload_n 0, 1) := by decide +kernel
theorem dX1_init_5 : decode cX1_init 5 = .ok (.new 9, 3) := by decide +kernel
theorem dX1_init_8 : decode cX1_init 8 = .ok (.dup, 1) := by decide +kernel
theorem dX1_init_9 : decode cX1_init 9 = .ok (.invokespecial 11, 3) := by decide +kernel
theorem dX1_init_12 : decode cX1_init 12 = .ok (.putfield 12, 3) := by decide +kernel
theorem dX1_init_15 : decode cX1_init 15 = .ok (.aload_n 0, 1) := by decide +kernel
theorem dX1_init_16 : decode cX1_init 16 = .ok (.aload_n 1, 1) := by decide +kernel
theorem dX1_init_17 : decode cX1_init 17 = .ok (.putfield 18, 3) := by decide +kernel
theorem dX1_init_20 : decode cX1_init 20 = .ok (.return_, 1) := by decide +kernel
theorem dX1_charHourByHour_0 : decode cX1_charHourByHour 0 = .ok (.aload_n 0, 1) := by decide +kernel
theorem dX1_charHourByHour_1 : decode cX1_charHourByHour 1 = .ok (.getfield 18, 3) := by decide +kernel
theorem dX1_charHourByHour_4 : decode cX1_charHourByHour 4 = .ok (.iload_n 1, 1) := by decide +kernel
theorem dX1_charHourByHour_5 : decode cX1_charHourByHour 5 = .ok (.invokevirtual 22, 3) := by decide +kernel
theorem dX1_charHourByHour_8 : decode cX1_charHourByHour 8 = .ok (.istore_n 3, 1) := by decide +kernel
theorem dX1_charHourByHour_9 : decode cX1_charHourByHour 9 = .ok (.aload_n 0, 1) := by decide +kernel
theorem dX1_charHourByHour_10 : decode cX1_charHourByHour 10 = .ok (.getfield 12, 3) := by decide +kernel
theorem dX1_charHourByHour_13 : decode cX1_charHourByHour 13 = .ok (.aload_n 0, 1) := by decide +kernel
theorem dX1_charHourByHour_14 : decode cX1_charHourByHour 14 = .ok (.getfield 18, 3) := by decide +kernel
theorem dX1_charHourByHour_17 : decode cX1_charHourByHour 17 = .ok (.iload_n 1, 1) := by decide +kernel
theorem dX1_charHourByHour_18 : decode cX1_charHourByHour 18 = .ok (.invokevirtual 28, 3) := by decide +kernel
theorem dX1_charHourByHour_21 : decode cX1_charHourByHour 21 = .ok (.invokevirtual 32, 3) := by decide +kernel
theorem dX1_charHourByHour_24 : decode cX1_charHourByHour 24 = .ok (.iconst 0, 1) := by decide +kernel
theorem dX1_charHourByHour_25 : decode cX1_charHourByHour 25 = .ok (.istore 4, 2) := by decide +kernel
theorem dX1_charHourByHour_27 : decode cX1_charHourByHour 27 = .ok (.iload 4, 2) := by decide +kernel
theorem dX1_charHourByHour_29 : decode cX1_charHourByHour 29 = .ok (.iload_n 2, 1) := by decide +kernel
theorem dX1_charHourByHour_30 : decode cX1_charHourByHour 30 = .ok (.if_icmp .ge 16, 3) := by decide +kernel
theorem dX1_charHourByHour_33 : decode cX1_charHourByHour 33 = .ok (.aload_n 0, 1) := by decide +kernel
theorem dX1_charHourByHour_34 : decode cX1_charHourByHour 34 = .ok (.iload 4, 2) := by decide +kernel
theorem dX1_charHourByHour_36 : decode cX1_charHourByHour 36 = .ok (.iload_n 3, 1) := by decide +kernel
theorem dX1_charHourByHour_37 : decode cX1_charHourByHour 37 = .ok (.invokevirtual 36, 3) := by decide +kernel
theorem dX1_charHourByHour_40 : decode cX1_charHourByHour 40 = .ok (.iinc 4 1, 3) := by decide +kernel
theorem dX1_charHourByHour_43 : decode cX1_charHourByHour 43 = .ok (.goto (-16), 3) := by decide +kernel
theorem dX1_charHourByHour_46 : decode cX1_charHourByHour 46 = .ok (.aload_n 0, 1) := by decide +kernel
theorem dX1_charHourByHour_47 : decode cX1_charHourByHour 47 = .ok (.getfield 12, 3) := by decide +kernel
theorem dX1_charHourByHour_50 : decode cX1_charHourByHour 50 = .ok (.invokevirtual 40, 3) := by decide +kernel
theorem dX1_charHourByHour_53 : decode cX1_charHourByHour 53 = .ok (.getfield 44, 3) := by decide +kernel
theorem dX1_charHourByHour_56 : decode cX1_charHourByHour 56 = .ok (.ireturn, 1) := by decide +kernel
theorem dX1_charAtOnce_0 : decode cX1_charAtOnce 0 = .ok (.aload_n 0, 1) := by decide +kernel
theorem dX1_charAtOnce_1 : decode cX1_charAtOnce 1 = .ok (.getfield 18, 3) := by decide +kernel
theorem dX1_charAtOnce_4 : decode cX1_charAtOnce 4 = .ok (.iload_n 1, 1) := by decide +kernel
theorem dX1_charAtOnce_5 : decode cX1_charAtOnce 5 = .ok (.invokevirtual 28, 3) := by decide +kernel
theorem dX1_charAtOnce_8 : decode cX1_charAtOnce 8 = .ok (.astore_n 3, 1) := by decide +kernel
theorem dX1_charAtOnce_9 : decode cX1_charAtOnce 9 = .ok (.aload_n 3, 1) := by decide +kernel
theorem dX1_charAtOnce_10 : decode cX1_charAtOnce 10 = .ok (.invokevirtual 40, 3) := by decide +kernel
theorem dX1_charAtOnce_13 : decode cX1_charAtOnce 13 = .ok (.getfield 44, 3) := by decide +kernel
theorem dX1_charAtOnce_16 : decode cX1_charAtOnce 16 = .ok (.istore 4, 2) := by decide +kernel
theorem dX1_charAtOnce_18 : decode cX1_charAtOnce 18 = .ok (.aload_n 3, 1) := by decide +kernel
theorem dX1_charAtOnce_19 : decode cX1_charAtOnce 19 = .ok (.invokevirtual 50, 3) := by decide +kernel
theorem dX1_charAtOnce_22 : decode cX1_charAtOnce 22 = .ok (.ifCond .ne 6, 3) := by decide +kernel
theorem dX1_charAtOnce_25 : decode cX1_charAtOnce 25 = .ok (.iload 4, 2) := by decide +kernel
theorem dX1_charAtOnce_27 : decode cX1_charAtOnce 27 = .ok (.ireturn, 1) := by decide +kernel
theorem dX1_charAtOnce_28 : decode cX1_charAtOnce 28 = .ok (.aload_n 0, 1) := by decide +kernel
theorem dX1_charAtOnce_29 : decode cX1_charAtOnce 29 = .ok (.getfield 18, 3) := by decide +kernel
theorem dX1_charAtOnce_32 : decode cX1_charAtOnce 32 = .ok (.getfield 54, 3) := by decide +kernel
theorem dX1_charAtOnce_35 : decode cX1_charAtOnce 35 = .ok (.aload_n 3, 1) := by decide +kernel
theorem dX1_charAtOnce_36 : decode cX1_charAtOnce 36 = .ok (.getfield 57, 3) := by decide +kernel
theorem dX1_charAtOnce_39 : decode cX1_charAtOnce 39 = .ok (.invokestatic 60, 3) := by decide +kernel
theorem dX1_charAtOnce_42 : decode cX1_charAtOnce 42 = .ok (.aload_n 3, 1) := by decide +kernel
theorem dX1_charAtOnce_43 : decode cX1_charAtOnce 43 = .ok (.invokevirtual 64, 3) := by decide +kernel
theorem dX1_charAtOnce_46 : decode cX1_charAtOnce 46 = .ok (.isub, 1) := by decide +kernel
theorem dX1_charAtOnce_47 : decode cX1_charAtOnce 47 = .ok (.istore 5, 2) := by decide +kernel
theorem dX1_charAtOnce_49 : decode cX1_charAtOnce 49 = .ok (.aload_n 3, 1) := by decide +kernel
theorem dX1_charAtOnce_50 : decode cX1_charAtOnce 50 = .ok (.getfield 68, 3) := by decide +kernel
theorem dX1_charAtOnce_53 : decode cX1_charAtOnce 53 = .ok (.ifCond .eq 7, 3) := by decide +kernel
theorem dX1_charAtOnce_56 : decode cX1_charAtOnce 56 = .ok (.iconst 1, 1) := by decide +kernel
theorem dX1_charAtOnce_57 : decode cX1_charAtOnce 57 = .ok (.goto 4, 3) := by decide +kernel
theorem dX1_charAtOnce_60 : decode cX1_charAtOnce 60 = .ok (.iconst 0, 1) := by decide +kernel
theorem dX1_charAtOnce_61 : decode cX1_charAtOnce 61 = .ok (.istore 6, 2) := by decide +kernel
theorem dX1_charAtOnce_63 : decode cX1_charAtOnce 63 = .ok (.iload_n 2, 1) := by decide +kernel
theorem dX1_charAtOnce_64 : decode cX1_charAtOnce 64 = .ok (.iload 5, 2) := by decide +kernel
theorem dX1_charAtOnce_66 : decode cX1_charAtOnce 66 = .ok (.invokestatic 72, 3) := by decide +kernel
theorem dX1_charAtOnce_69 : decode cX1_charAtOnce 69 = .ok (.istore 7, 2) := by decide +kernel
theorem dX1_charAtOnce_71 : decode cX1_charAtOnce 71 = .ok (.iload 7, 2) := by decide +kernel
theorem dX1_charAtOnce_73 : decode cX1_charAtOnce 73 = .ok (.iload 6, 2) := by decide +kernel
theorem dX1_charAtOnce_75 : decode cX1_charAtOnce 75 = .ok (.if_icmp .gt 6, 3) := by decide +kernel
theorem dX1_charAtOnce_78 : decode cX1_charAtOnce 78 = .ok (.iload 4, 2) := by decide +kernel
theorem dX1_charAtOnce_80 : decode cX1_charAtOnce 80 = .ok (.ireturn, 1) := by decide +kernel
theorem dX1_charAtOnce_81 : decode cX1_charAtOnce 81 = .ok (.iload 7, 2) := by decide +kernel
theorem dX1_charAtOnce_83 : decode cX1_charAtOnce 83 = .ok (.iload 6, 2) := by decide +kernel
theorem dX1_charAtOnce_85 : decode cX1_charAtOnce 85 = .ok (.isub, 1) := by decide +kernel
theorem dX1_charAtOnce_86 : decode cX1_charAtOnce 86 = .ok (.iconst 2, 1) := by decide +kernel
theorem dX1_charAtOnce_87 : decode cX1_charAtOnce 87 = .ok (.iload 5, 2) := by decide +kernel
theorem dX1_charAtOnce_89 : decode cX1_charAtOnce 89 = .ok (.imul, 1) := by decide +kernel
theorem dX1_charAtOnce_90 : decode cX1_charAtOnce 90 = .ok (.iload 6, 2) := by decide +kernel
theorem dX1_charAtOnce_92 : decode cX1_charAtOnce 92 = .ok (.isub, 1) := by decide +kernel
theorem dX1_charAtOnce_93 : decode cX1_charAtOnce 93 = .ok (.iload 7, 2) := by decide +kernel
theorem dX1_charAtOnce_95 : decode cX1_charAtOnce 95 = .ok (.isub, 1) := by decide +kernel
theorem dX1_charAtOnce_96 : decode cX1_charAtOnce 96 = .ok (.iconst 1, 1) := by decide +kernel
theorem dX1_charAtOnce_97 : decode cX1_charAtOnce 97 = .ok (.iadd, 1) := by decide +kernel
theorem dX1_charAtOnce_98 : decode cX1_charAtOnce 98 = .ok (.imul, 1) := by decide +kernel
theorem dX1_charAtOnce_99 : decode cX1_charAtOnce 99 = .ok (.iconst 2, 1) := by decide +kernel
theorem dX1_charAtOnce_100 : decode cX1_charAtOnce 100 = .ok (.idiv, 1) := by decide +kernel
theorem dX1_charAtOnce_101 : decode cX1_charAtOnce 101 = .ok (.istore 8, 2) := by decide +kernel
theorem dX1_charAtOnce_103 : decode cX1_charAtOnce 103 = .ok (.bipush 9, 2) := by decide +kernel
theorem dX1_charAtOnce_105 : decode cX1_charAtOnce 105 = .ok (.iload 4, 2) := by decide +kernel
theorem dX1_charAtOnce_107 : decode cX1_charAtOnce 107 = .ok (.iload 8, 2) := by decide +kernel
theorem dX1_charAtOnce_109 : decode cX1_charAtOnce 109 = .ok (.iadd, 1) := by decide +kernel
theorem dX1_charAtOnce_110 : decode cX1_charAtOnce 110 = .ok (.invokestatic 72, 3) := by decide +kernel
theorem dX1_charAtOnce_113 : decode cX1_charAtOnce 113 = .ok (.ireturn, 1) := by decide +kernel
theorem dX1_hoursUntilBurnt_0 : decode cX1_hoursUntilBurnt 0 = .ok (.aload_n 0, 1) := by decide +kernel
theorem dX1_hoursUntilBurnt_1 : decode cX1_hoursUntilBurnt 1 = .ok (.getfield 18, 3) := by decide +kernel
theorem dX1_hoursUntilBurnt_4 : decode cX1_hoursUntilBurnt 4 = .ok (.iload_n 1, 1) := by decide +kernel
theorem dX1_hoursUntilBurnt_5 : decode cX1_hoursUntilBurnt 5 = .ok (.invokevirtual 22, 3) := by decide +kernel
theorem dX1_hoursUntilBurnt_8 : decode cX1_hoursUntilBurnt 8 = .ok (.istore_n 2, 1) := by decide +kernel
theorem dX1_hoursUntilBurnt_9 : decode cX1_hoursUntilBurnt 9 = .ok (.aload_n 0, 1) := by decide +kernel
theorem dX1_hoursUntilBurnt_10 : decode cX1_hoursUntilBurnt 10 = .ok (.getfield 12, 3) := by decide +kernel
theorem dX1_hoursUntilBurnt_13 : decode cX1_hoursUntilBurnt 13 = .ok (.aload_n 0, 1) := by decide +kernel
theorem dX1_hoursUntilBurnt_14 : decode cX1_hoursUntilBurnt 14 = .ok (.getfield 18, 3) := by decide +kernel
theorem dX1_hoursUntilBurnt_17 : decode cX1_hoursUntilBurnt 17 = .ok (.iload_n 1, 1) := by decide +kernel
theorem dX1_hoursUntilBurnt_18 : decode cX1_hoursUntilBurnt 18 = .ok (.invokevirtual 28, 3) := by decide +kernel
theorem dX1_hoursUntilBurnt_21 : decode cX1_hoursUntilBurnt 21 = .ok (.invokevirtual 32, 3) := by decide +kernel
theorem dX1_hoursUntilBurnt_24 : decode cX1_hoursUntilBurnt 24 = .ok (.iconst 0, 1) := by decide +kernel
theorem dX1_hoursUntilBurnt_25 : decode cX1_hoursUntilBurnt 25 = .ok (.istore_n 3, 1) := by decide +kernel
theorem dX1_hoursUntilBurnt_26 : decode cX1_hoursUntilBurnt 26 = .ok (.iload_n 3, 1) := by decide +kernel
theorem dX1_hoursUntilBurnt_27 : decode cX1_hoursUntilBurnt 27 = .ok (.bipush 12, 2) := by decide +kernel
theorem dX1_hoursUntilBurnt_29 : decode cX1_hoursUntilBurnt 29 = .ok (.if_icmp .gt 27, 3) := by decide +kernel
theorem dX1_hoursUntilBurnt_32 : decode cX1_hoursUntilBurnt 32 = .ok (.aload_n 0, 1) := by decide +kernel
theorem dX1_hoursUntilBurnt_33 : decode cX1_hoursUntilBurnt 33 = .ok (.getfield 12, 3) := by decide +kernel
theorem dX1_hoursUntilBurnt_36 : decode cX1_hoursUntilBurnt 36 = .ok (.invokevirtual 77, 3) := by decide +kernel
theorem dX1_hoursUntilBurnt_39 : decode cX1_hoursUntilBurnt 39 = .ok (.ifCond .eq 5, 3) := by decide +kernel
theorem dX1_hoursUntilBurnt_42 : decode cX1_hoursUntilBurnt 42 = .ok (.iload_n 3, 1) := by decide +kernel
theorem dX1_hoursUntilBurnt_43 : decode cX1_hoursUntilBurnt 43 = .ok (.ireturn, 1) := by decide +kernel
theorem dX1_hoursUntilBurnt_44 : decode cX1_hoursUntilBurnt 44 = .ok (.aload_n 0, 1) := by decide +kernel
theorem dX1_hoursUntilBurnt_45 : decode cX1_hoursUntilBurnt 45 = .ok (.iload_n 3, 1) := by decide +kernel
theorem dX1_hoursUntilBurnt_46 : decode cX1_hoursUntilBurnt 46 = .ok (.iload_n 2, 1) := by decide +kernel
theorem dX1_hoursUntilBurnt_47 : decode cX1_hoursUntilBurnt 47 = .ok (.invokevirtual 36, 3) := by decide +kernel
theorem dX1_hoursUntilBurnt_50 : decode cX1_hoursUntilBurnt 50 = .ok (.iinc 3 1, 3) := by decide +kernel
theorem dX1_hoursUntilBurnt_53 : decode cX1_hoursUntilBurnt 53 = .ok (.goto (-27), 3) := by decide +kernel
theorem dX1_hoursUntilBurnt_56 : decode cX1_hoursUntilBurnt 56 = .ok (.iconst (-1), 1) := by decide +kernel
theorem dX1_hoursUntilBurnt_57 : decode cX1_hoursUntilBurnt 57 = .ok (.ireturn, 1) := by decide +kernel
theorem dX1_hoursUntilReady_0 : decode cX1_hoursUntilReady 0 = .ok (.aload_n 0, 1) := by decide +kernel
theorem dX1_hoursUntilReady_1 : decode cX1_hoursUntilReady 1 = .ok (.getfield 18, 3) := by decide +kernel
theorem dX1_hoursUntilReady_4 : decode cX1_hoursUntilReady 4 = .ok (.iload_n 1, 1) := by decide +kernel
theorem dX1_hoursUntilReady_5 : decode cX1_hoursUntilReady 5 = .ok (.invokevirtual 22, 3) := by decide +kernel
theorem dX1_hoursUntilReady_8 : decode cX1_hoursUntilReady 8 = .ok (.istore_n 2, 1) := by decide +kernel
theorem dX1_hoursUntilReady_9 : decode cX1_hoursUntilReady 9 = .ok (.aload_n 0, 1) := by decide +kernel
theorem dX1_hoursUntilReady_10 : decode cX1_hoursUntilReady 10 = .ok (.getfield 12, 3) := by decide +kernel
theorem dX1_hoursUntilReady_13 : decode cX1_hoursUntilReady 13 = .ok (.aload_n 0, 1) := by decide +kernel
theorem dX1_hoursUntilReady_14 : decode cX1_hoursUntilReady 14 = .ok (.getfield 18, 3) := by decide +kernel
theorem dX1_hoursUntilReady_17 : decode cX1_hoursUntilReady 17 = .ok (.iload_n 1, 1) := by decide +kernel
theorem dX1_hoursUntilReady_18 : decode cX1_hoursUntilReady 18 = .ok (.invokevirtual 28, 3) := by decide +kernel
theorem dX1_hoursUntilReady_21 : decode cX1_hoursUntilReady 21 = .ok (.invokevirtual 32, 3) := by decide +kernel
theorem dX1_hoursUntilReady_24 : decode cX1_hoursUntilReady 24 = .ok (.iconst 0, 1) := by decide +kernel
theorem dX1_hoursUntilReady_25 : decode cX1_hoursUntilReady 25 = .ok (.istore_n 3, 1) := by decide +kernel
theorem dX1_hoursUntilReady_26 : decode cX1_hoursUntilReady 26 = .ok (.iload_n 3, 1) := by decide +kernel
theorem dX1_hoursUntilReady_27 : decode cX1_hoursUntilReady 27 = .ok (.bipush 12, 2) := by decide +kernel
theorem dX1_hoursUntilReady_29 : decode cX1_hoursUntilReady 29 = .ok (.if_icmp .gt 34, 3) := by decide +kernel
theorem dX1_hoursUntilReady_32 : decode cX1_hoursUntilReady 32 = .ok (.aload_n 0, 1) := by decide +kernel
theorem dX1_hoursUntilReady_33 : decode cX1_hoursUntilReady 33 = .ok (.getfield 12, 3) := by decide +kernel
theorem dX1_hoursUntilReady_36 : decode cX1_hoursUntilReady 36 = .ok (.invokevirtual 80, 3) := by decide +kernel
theorem dX1_hoursUntilReady_39 : decode cX1_hoursUntilReady 39 = .ok (.ifCond .eq 5, 3) := by decide +kernel
theorem dX1_hoursUntilReady_42 : decode cX1_hoursUntilReady 42 = .ok (.iload_n 3, 1) := by decide +kernel
theorem dX1_hoursUntilReady_43 : decode cX1_hoursUntilReady 43 = .ok (.ireturn, 1) := by decide +kernel
theorem dX1_hoursUntilReady_44 : decode cX1_hoursUntilReady 44 = .ok (.aload_n 0, 1) := by decide +kernel
theorem dX1_hoursUntilReady_45 : decode cX1_hoursUntilReady 45 = .ok (.getfield 12, 3) := by decide +kernel
theorem dX1_hoursUntilReady_48 : decode cX1_hoursUntilReady 48 = .ok (.invokevirtual 83, 3) := by decide +kernel
theorem dX1_hoursUntilReady_51 : decode cX1_hoursUntilReady 51 = .ok (.aload_n 0, 1) := by decide +kernel
theorem dX1_hoursUntilReady_52 : decode cX1_hoursUntilReady 52 = .ok (.iload_n 3, 1) := by decide +kernel
theorem dX1_hoursUntilReady_53 : decode cX1_hoursUntilReady 53 = .ok (.iload_n 2, 1) := by decide +kernel
theorem dX1_hoursUntilReady_54 : decode cX1_hoursUntilReady 54 = .ok (.invokevirtual 36, 3) := by decide +kernel
theorem dX1_hoursUntilReady_57 : decode cX1_hoursUntilReady 57 = .ok (.iinc 3 1, 3) := by decide +kernel
theorem dX1_hoursUntilReady_60 : decode cX1_hoursUntilReady 60 = .ok (.goto (-34), 3) := by decide +kernel
theorem dX1_hoursUntilReady_63 : decode cX1_hoursUntilReady 63 = .ok (.iconst (-1), 1) := by decide +kernel
theorem dX1_hoursUntilReady_64 : decode cX1_hoursUntilReady 64 = .ok (.ireturn, 1) := by decide +kernel
theorem dX1_firstToBurn_0 : decode cX1_firstToBurn 0 = .ok (.iconst (-1), 1) := by decide +kernel
theorem dX1_firstToBurn_1 : decode cX1_firstToBurn 1 = .ok (.istore_n 1, 1) := by decide +kernel
theorem dX1_firstToBurn_2 : decode cX1_firstToBurn 2 = .ok (.bipush 13, 2) := by decide +kernel
theorem dX1_firstToBurn_4 : decode cX1_firstToBurn 4 = .ok (.istore_n 2, 1) := by decide +kernel
theorem dX1_firstToBurn_5 : decode cX1_firstToBurn 5 = .ok (.iconst 0, 1) := by decide +kernel
theorem dX1_firstToBurn_6 : decode cX1_firstToBurn 6 = .ok (.istore_n 3, 1) := by decide +kernel
theorem dX1_firstToBurn_7 : decode cX1_firstToBurn 7 = .ok (.iload_n 3, 1) := by decide +kernel
theorem dX1_firstToBurn_8 : decode cX1_firstToBurn 8 = .ok (.aload_n 0, 1) := by decide +kernel
theorem dX1_firstToBurn_9 : decode cX1_firstToBurn 9 = .ok (.getfield 18, 3) := by decide +kernel
theorem dX1_firstToBurn_12 : decode cX1_firstToBurn 12 = .ok (.getfield 86, 3) := by decide +kernel
theorem dX1_firstToBurn_15 : decode cX1_firstToBurn 15 = .ok (.if_icmp .ge 32, 3) := by decide +kernel
theorem dX1_firstToBurn_18 : decode cX1_firstToBurn 18 = .ok (.aload_n 0, 1) := by decide +kernel
theorem dX1_firstToBurn_19 : decode cX1_firstToBurn 19 = .ok (.iload_n 3, 1) := by decide +kernel
theorem dX1_firstToBurn_20 : decode cX1_firstToBurn 20 = .ok (.invokevirtual 89, 3) := by decide +kernel
theorem dX1_firstToBurn_23 : decode cX1_firstToBurn 23 = .ok (.istore 4, 2) := by decide +kernel
theorem dX1_firstToBurn_25 : decode cX1_firstToBurn 25 = .ok (.iload 4, 2) := by decide +kernel
theorem dX1_firstToBurn_27 : decode cX1_firstToBurn 27 = .ok (.ifCond .le 14, 3) := by decide +kernel
theorem dX1_firstToBurn_30 : decode cX1_firstToBurn 30 = .ok (.iload 4, 2) := by decide +kernel
theorem dX1_firstToBurn_32 : decode cX1_firstToBurn 32 = .ok (.iload_n 2, 1) := by decide +kernel
theorem dX1_firstToBurn_33 : decode cX1_firstToBurn 33 = .ok (.if_icmp .ge 8, 3) := by decide +kernel
theorem dX1_firstToBurn_36 : decode cX1_firstToBurn 36 = .ok (.iload_n 3, 1) := by decide +kernel
theorem dX1_firstToBurn_37 : decode cX1_firstToBurn 37 = .ok (.istore_n 1, 1) := by decide +kernel
theorem dX1_firstToBurn_38 : decode cX1_firstToBurn 38 = .ok (.iload 4, 2) := by decide +kernel
theorem dX1_firstToBurn_40 : decode cX1_firstToBurn 40 = .ok (.istore_n 2, 1) := by decide +kernel
theorem dX1_firstToBurn_41 : decode cX1_firstToBurn 41 = .ok (.iinc 3 1, 3) := by decide +kernel
theorem dX1_firstToBurn_44 : decode cX1_firstToBurn 44 = .ok (.goto (-37), 3) := by decide +kernel
theorem dX1_firstToBurn_47 : decode cX1_firstToBurn 47 = .ok (.iload_n 1, 1) := by decide +kernel
theorem dX1_firstToBurn_48 : decode cX1_firstToBurn 48 = .ok (.ireturn, 1) := by decide +kernel
theorem dX1_tryHour_0 : decode cX1_tryHour 0 = .ok (.aload_n 0, 1) := by decide +kernel
theorem dX1_tryHour_1 : decode cX1_tryHour 1 = .ok (.getfield 18, 3) := by decide +kernel
theorem dX1_tryHour_4 : decode cX1_tryHour 4 = .ok (.aload_n 0, 1) := by decide +kernel
theorem dX1_tryHour_5 : decode cX1_tryHour 5 = .ok (.getfield 12, 3) := by decide +kernel
theorem dX1_tryHour_8 : decode cX1_tryHour 8 = .ok (.iconst 0, 1) := by decide +kernel
theorem dX1_tryHour_9 : decode cX1_tryHour 9 = .ok (.aload_n 0, 1) := by decide +kernel
theorem dX1_tryHour_10 : decode cX1_tryHour 10 = .ok (.getfield 18, 3) := by decide +kernel
theorem dX1_tryHour_13 : decode cX1_tryHour 13 = .ok (.getfield 54, 3) := by decide +kernel
theorem dX1_tryHour_16 : decode cX1_tryHour 16 = .ok (.iload_n 1, 1) := by decide +kernel
theorem dX1_tryHour_17 : decode cX1_tryHour 17 = .ok (.isub, 1) := by decide +kernel
theorem dX1_tryHour_18 : decode cX1_tryHour 18 = .ok (.invokestatic 93, 3) := by decide +kernel
theorem dX1_tryHour_21 : decode cX1_tryHour 21 = .ok (.iload_n 2, 1) := by decide +kernel
theorem dX1_tryHour_22 : decode cX1_tryHour 22 = .ok (.invokevirtual 96, 3) := by decide +kernel
theorem dX1_tryHour_25 : decode cX1_tryHour 25 = .ok (.return_, 1) := by decide +kernel
theorem dX2_init_0 : decode cX2_init 0 = .ok (.aload_n 0, 1) := by decide +kernel
theorem dX2_init_1 : decode cX2_init 1 = .ok (.invokespecial 3, 3) := by decide +kernel
theorem dX2_init_4 : decode cX2_init 4 = .ok (.aload_n 0, 1) := by decide +kernel
theorem dX2_init_5 : decode cX2_init 5 = .ok (.bipush 8, 2) := by decide +kernel
theorem dX2_init_7 : decode cX2_init 7 = .ok (.anewarray 9, 3) := by decide +kernel
theorem dX2_init_10 : decode cX2_init 10 = .ok (.putfield 11, 3) := by decide +kernel
theorem dX2_init_13 : decode cX2_init 13 = .ok (.iconst 0, 1) := by decide +kernel
theorem dX2_init_14 : decode cX2_init 14 = .ok (.istore_n 1, 1) := by decide +kernel
theorem dX2_init_15 : decode cX2_init 15 = .ok (.iload_n 1, 1) := by decide +kernel
theorem dX2_init_16 : decode cX2_init 16 = .ok (.aload_n 0, 1) := by decide +kernel
theorem dX2_init_17 : decode cX2_init 17 = .ok (.getfield 11, 3) := by decide +kernel
theorem dX2_init_20 : decode cX2_init 20 = .ok (.arraylength, 1) := by decide +kernel
theorem dX2_init_21 : decode cX2_init 21 = .ok (.if_icmp .ge 22, 3) := by decide +kernel
theorem dX2_init_24 : decode cX2_init 24 = .ok (.aload_n 0, 1) := by decide +kernel
theorem dX2_init_25 : decode cX2_init 25 = .ok (.getfield 11, 3) := by decide +kernel
theorem dX2_init_28 : decode cX2_init 28 = .ok (.iload_n 1, 1) := by decide +kernel
theorem dX2_init_29 : decode cX2_init 29 = .ok (.new 9, 3) := by decide +kernel
theorem dX2_init_32 : decode cX2_init 32 = .ok (.dup, 1) := by decide +kernel
theorem dX2_init_33 : decode cX2_init 33 = .ok (.invokespecial 17, 3) := by decide +kernel
theorem dX2_init_36 : decode cX2_init 36 = .ok (.aastore, 1) := by decide +kernel
theorem dX2_init_37 : decode cX2_init 37 = .ok (.iinc 1 1, 3) := by decide +kernel
theorem dX2_init_40 : decode cX2_init 40 = .ok (.goto (-25), 3) := by decide +kernel
theorem dX2_init_43 : decode cX2_init 43 = .ok (.return_, 1) := by decide +kernel
theorem dX2_keep_0 : decode cX2_keep 0 = .ok (.aload_n 0, 1) := by decide +kernel
theorem dX2_keep_1 : decode cX2_keep 1 = .ok (.getfield 11, 3) := by decide +kernel
theorem dX2_keep_4 : decode cX2_keep 4 = .ok (.bipush 7, 2) := by decide +kernel
theorem dX2_keep_6 : decode cX2_keep 6 = .ok (.aaload, 1) := by decide +kernel
theorem dX2_keep_7 : decode cX2_keep 7 = .ok (.astore_n 2, 1) := by decide +kernel
theorem dX2_keep_8 : decode cX2_keep 8 = .ok (.bipush 7, 2) := by decide +kernel
theorem dX2_keep_10 : decode cX2_keep 10 = .ok (.istore_n 3, 1) := by decide +kernel
theorem dX2_keep_11 : decode cX2_keep 11 = .ok (.iload_n 3, 1) := by decide +kernel
theorem dX2_keep_12 : decode cX2_keep 12 = .ok (.ifCond .le 23, 3) := by decide +kernel
theorem dX2_keep_15 : decode cX2_keep 15 = .ok (.aload_n 0, 1) := by decide +kernel
theorem dX2_keep_16 : decode cX2_keep 16 = .ok (.getfield 11, 3) := by decide +kernel
theorem dX2_keep_19 : decode cX2_keep 19 = .ok (.iload_n 3, 1) := by decide +kernel
theorem dX2_keep_20 : decode cX2_keep 20 = .ok (.aload_n 0, 1) := by decide +kernel
theorem dX2_keep_21 : decode cX2_keep 21 = .ok (.getfield 11, 3) := by decide +kernel
theorem dX2_keep_24 : decode cX2_keep 24 = .ok (.iload_n 3, 1) := by decide +kernel
theorem dX2_keep_25 : decode cX2_keep 25 = .ok (.iconst 1, 1) := by decide +kernel
theorem dX2_keep_26 : decode cX2_keep 26 = .ok (.isub, 1) := by decide +kernel
theorem dX2_keep_27 : decode cX2_keep 27 = .ok (.aaload, 1) := by decide +kernel
theorem dX2_keep_28 : decode cX2_keep 28 = .ok (.aastore, 1) := by decide +kernel
theorem dX2_keep_29 : decode cX2_keep 29 = .ok (.iinc 3 (-1), 3) := by decide +kernel
theorem dX2_keep_32 : decode cX2_keep 32 = .ok (.goto (-21), 3) := by decide +kernel
theorem dX2_keep_35 : decode cX2_keep 35 = .ok (.aload_n 0, 1) := by decide +kernel
theorem dX2_keep_36 : decode cX2_keep 36 = .ok (.getfield 11, 3) := by decide +kernel
theorem dX2_keep_39 : decode cX2_keep 39 = .ok (.iconst 0, 1) := by decide +kernel
theorem dX2_keep_40 : decode cX2_keep 40 = .ok (.aload_n 2, 1) := by decide +kernel
theorem dX2_keep_41 : decode cX2_keep 41 = .ok (.aastore, 1) := by decide +kernel
theorem dX2_keep_42 : decode cX2_keep 42 = .ok (.aload_n 2, 1) := by decide +kernel
theorem dX2_keep_43 : decode cX2_keep 43 = .ok (.aload_n 1, 1) := by decide +kernel
theorem dX2_keep_44 : decode cX2_keep 44 = .ok (.invokevirtual 18, 3) := by decide +kernel
theorem dX2_keep_47 : decode cX2_keep 47 = .ok (.aload_n 0, 1) := by decide +kernel
theorem dX2_keep_48 : decode cX2_keep 48 = .ok (.bipush 8, 2) := by decide +kernel
theorem dX2_keep_50 : decode cX2_keep 50 = .ok (.aload_n 0, 1) := by decide +kernel
theorem dX2_keep_51 : decode cX2_keep 51 = .ok (.getfield 22, 3) := by decide +kernel
theorem dX2_keep_54 : decode cX2_keep 54 = .ok (.iconst 1, 1) := by decide +kernel
theorem dX2_keep_55 : decode cX2_keep 55 = .ok (.iadd, 1) := by decide +kernel
theorem dX2_keep_56 : decode cX2_keep 56 = .ok (.invokestatic 26, 3) := by decide +kernel
theorem dX2_keep_59 : decode cX2_keep 59 = .ok (.putfield 22, 3) := by decide +kernel
theorem dX2_keep_62 : decode cX2_keep 62 = .ok (.return_, 1) := by decide +kernel
theorem dX2_takeBack_0 : decode cX2_takeBack 0 = .ok (.aload_n 0, 1) := by decide +kernel
theorem dX2_takeBack_1 : decode cX2_takeBack 1 = .ok (.getfield 11, 3) := by decide +kernel
theorem dX2_takeBack_4 : decode cX2_takeBack 4 = .ok (.iconst 0, 1) := by decide +kernel
theorem dX2_takeBack_5 : decode cX2_takeBack 5 = .ok (.aaload, 1) := by decide +kernel
theorem dX2_takeBack_6 : decode cX2_takeBack 6 = .ok (.astore_n 2, 1) := by decide +kernel
theorem dX2_takeBack_7 : decode cX2_takeBack 7 = .ok (.iconst 1, 1) := by decide +kernel
theorem dX2_takeBack_8 : decode cX2_takeBack 8 = .ok (.istore_n 3, 1) := by decide +kernel
theorem dX2_takeBack_9 : decode cX2_takeBack 9 = .ok (.iload_n 3, 1) := by decide +kernel
theorem dX2_takeBack_10 : decode cX2_takeBack 10 = .ok (.bipush 8, 2) := by decide +kernel
theorem dX2_takeBack_12 : decode cX2_takeBack 12 = .ok (.if_icmp .ge 23, 3) := by decide +kernel
theorem dX2_takeBack_15 : decode cX2_takeBack 15 = .ok (.aload_n 0, 1) := by decide +kernel
theorem dX2_takeBack_16 : decode cX2_takeBack 16 = .ok (.getfield 11, 3) := by decide +kernel
theorem dX2_takeBack_19 : decode cX2_takeBack 19 = .ok (.iload_n 3, 1) := by decide +kernel
theorem dX2_takeBack_20 : decode cX2_takeBack 20 = .ok (.iconst 1, 1) := by decide +kernel
theorem dX2_takeBack_21 : decode cX2_takeBack 21 = .ok (.isub, 1) := by decide +kernel
theorem dX2_takeBack_22 : decode cX2_takeBack 22 = .ok (.aload_n 0, 1) := by decide +kernel
theorem dX2_takeBack_23 : decode cX2_takeBack 23 = .ok (.getfield 11, 3) := by decide +kernel
theorem dX2_takeBack_26 : decode cX2_takeBack 26 = .ok (.iload_n 3, 1) := by decide +kernel
theorem dX2_takeBack_27 : decode cX2_takeBack 27 = .ok (.aaload, 1) := by decide +kernel
theorem dX2_takeBack_28 : decode cX2_takeBack 28 = .ok (.aastore, 1) := by decide +kernel
theorem dX2_takeBack_29 : decode cX2_takeBack 29 = .ok (.iinc 3 1, 3) := by decide +kernel
theorem dX2_takeBack_32 : decode cX2_takeBack 32 = .ok (.goto (-23), 3) := by decide +kernel
theorem dX2_takeBack_35 : decode cX2_takeBack 35 = .ok (.aload_n 0, 1) := by decide +kernel
theorem dX2_takeBack_36 : decode cX2_takeBack 36 = .ok (.getfield 11, 3) := by decide +kernel
theorem dX2_takeBack_39 : decode cX2_takeBack 39 = .ok (.bipush 7, 2) := by decide +kernel
theorem dX2_takeBack_41 : decode cX2_takeBack 41 = .ok (.aload_n 2, 1) := by decide +kernel
theorem dX2_takeBack_42 : decode cX2_takeBack 42 = .ok (.aastore, 1) := by decide +kernel
theorem dX2_takeBack_43 : decode cX2_takeBack 43 = .ok (.aload_n 1, 1) := by decide +kernel
theorem dX2_takeBack_44 : decode cX2_takeBack 44 = .ok (.aload_n 2, 1) := by decide +kernel
theorem dX2_takeBack_45 : decode cX2_takeBack 45 = .ok (.invokevirtual 18, 3) := by decide +kernel
theorem dX2_takeBack_48 : decode cX2_takeBack 48 = .ok (.aload_n 0, 1) := by decide +kernel
theorem dX2_takeBack_49 : decode cX2_takeBack 49 = .ok (.iconst 0, 1) := by decide +kernel
theorem dX2_takeBack_50 : decode cX2_takeBack 50 = .ok (.aload_n 0, 1) := by decide +kernel
theorem dX2_takeBack_51 : decode cX2_takeBack 51 = .ok (.getfield 22, 3) := by decide +kernel
theorem dX2_takeBack_54 : decode cX2_takeBack 54 = .ok (.iconst 1, 1) := by decide +kernel
theorem dX2_takeBack_55 : decode cX2_takeBack 55 = .ok (.isub, 1) := by decide +kernel
theorem dX2_takeBack_56 : decode cX2_takeBack 56 = .ok (.invokestatic 32, 3) := by decide +kernel
theorem dX2_takeBack_59 : decode cX2_takeBack 59 = .ok (.putfield 22, 3) := by decide +kernel
theorem dX2_takeBack_62 : decode cX2_takeBack 62 = .ok (.return_, 1) := by decide +kernel
theorem dX2_forget_0 : decode cX2_forget 0 = .ok (.aload_n 0, 1) := by decide +kernel
theorem dX2_forget_1 : decode cX2_forget 1 = .ok (.iconst 0, 1) := by decide +kernel
theorem dX2_forget_2 : decode cX2_forget 2 = .ok (.putfield 22, 3) := by decide +kernel
theorem dX2_forget_5 : decode cX2_forget 5 = .ok (.return_, 1) := by decide +kernel
theorem dX3_init_0 : decode cX3_init 0 = .ok (.aload_n 0, 1) := by decide +kernel
theorem dX3_init_1 : decode cX3_init 1 = .ok (.invokespecial 3, 3) := by decide +kernel
theorem dX3_init_4 : decode cX3_init 4 = .ok (.aload_n 0, 1) := by decide +kernel
theorem dX3_init_5 : decode cX3_init 5 = .ok (.bipush 12, 2) := by decide +kernel
theorem dX3_init_7 : decode cX3_init 7 = .ok (.anewarray 9, 3) := by decide +kernel
theorem dX3_init_10 : decode cX3_init 10 = .ok (.putfield 11, 3) := by decide +kernel
theorem dX3_init_13 : decode cX3_init 13 = .ok (.aload_n 0, 1) := by decide +kernel
theorem dX3_init_14 : decode cX3_init 14 = .ok (.new 9, 3) := by decide +kernel
theorem dX3_init_17 : decode cX3_init 17 = .ok (.dup, 1) := by decide +kernel
theorem dX3_init_18 : decode cX3_init 18 = .ok (.invokespecial 17, 3) := by decide +kernel
theorem dX3_init_21 : decode cX3_init 21 = .ok (.putfield 18, 3) := by decide +kernel
theorem dX3_init_24 : decode cX3_init 24 = .ok (.iconst 0, 1) := by decide +kernel
theorem dX3_init_25 : decode cX3_init 25 = .ok (.istore_n 1, 1) := by decide +kernel
theorem dX3_init_26 : decode cX3_init 26 = .ok (.iload_n 1, 1) := by decide +kernel
theorem dX3_init_27 : decode cX3_init 27 = .ok (.aload_n 0, 1) := by decide +kernel
theorem dX3_init_28 : decode cX3_init 28 = .ok (.getfield 11, 3) := by decide +kernel
theorem dX3_init_31 : decode cX3_init 31 = .ok (.arraylength, 1) := by decide +kernel
theorem dX3_init_32 : decode cX3_init 32 = .ok (.if_icmp .ge 22, 3) := by decide +kernel
theorem dX3_init_35 : decode cX3_init 35 = .ok (.aload_n 0, 1) := by decide +kernel
theorem dX3_init_36 : decode cX3_init 36 = .ok (.getfield 11, 3) := by decide +kernel
theorem dX3_init_39 : decode cX3_init 39 = .ok (.iload_n 1, 1) := by decide +kernel
theorem dX3_init_40 : decode cX3_init 40 = .ok (.new 9, 3) := by decide +kernel
theorem dX3_init_43 : decode cX3_init 43 = .ok (.dup, 1) := by decide +kernel
theorem dX3_init_44 : decode cX3_init 44 = .ok (.invokespecial 17, 3) := by decide +kernel
theorem dX3_init_47 : decode cX3_init 47 = .ok (.aastore, 1) := by decide +kernel
theorem dX3_init_48 : decode cX3_init 48 = .ok (.iinc 1 1, 3) := by decide +kernel
theorem dX3_init_51 : decode cX3_init 51 = .ok (.goto (-25), 3) := by decide +kernel
theorem dX3_init_54 : decode cX3_init 54 = .ok (.return_, 1) := by decide +kernel
theorem dX3_copyFrom_0 : decode cX3_copyFrom 0 = .ok (.aload_n 0, 1) := by decide +kernel
theorem dX3_copyFrom_1 : decode cX3_copyFrom 1 = .ok (.aload_n 1, 1) := by decide +kernel
theorem dX3_copyFrom_2 : decode cX3_copyFrom 2 = .ok (.getfield 22, 3) := by decide +kernel
theorem dX3_copyFrom_5 : decode cX3_copyFrom 5 = .ok (.putfield 22, 3) := by decide +kernel
theorem dX3_copyFrom_8 : decode cX3_copyFrom 8 = .ok (.aload_n 0, 1) := by decide +kernel
theorem dX3_copyFrom_9 : decode cX3_copyFrom 9 = .ok (.aload_n 1, 1) := by decide +kernel
theorem dX3_copyFrom_10 : decode cX3_copyFrom 10 = .ok (.getfield 26, 3) := by decide +kernel
theorem dX3_copyFrom_13 : decode cX3_copyFrom 13 = .ok (.putfield 26, 3) := by decide +kernel
theorem dX3_copyFrom_16 : decode cX3_copyFrom 16 = .ok (.aload_n 0, 1) := by decide +kernel
theorem dX3_copyFrom_17 : decode cX3_copyFrom 17 = .ok (.aload_n 1, 1) := by decide +kernel
theorem dX3_copyFrom_18 : decode cX3_copyFrom 18 = .ok (.getfield 29, 3) := by decide +kernel
theorem dX3_copyFrom_21 : decode cX3_copyFrom 21 = .ok (.putfield 29, 3) := by decide +kernel
theorem dX3_copyFrom_24 : decode cX3_copyFrom 24 = .ok (.aload_n 0, 1) := by decide +kernel
theorem dX3_copyFrom_25 : decode cX3_copyFrom 25 = .ok (.aload_n 1, 1) := by decide +kernel
theorem dX3_copyFrom_26 : decode cX3_copyFrom 26 = .ok (.getfield 32, 3) := by decide +kernel
theorem dX3_copyFrom_29 : decode cX3_copyFrom 29 = .ok (.putfield 32, 3) := by decide +kernel
theorem dX3_copyFrom_32 : decode cX3_copyFrom 32 = .ok (.aload_n 0, 1) := by decide +kernel
theorem dX3_copyFrom_33 : decode cX3_copyFrom 33 = .ok (.aload_n 1, 1) := by decide +kernel
theorem dX3_copyFrom_34 : decode cX3_copyFrom 34 = .ok (.getfield 35, 3) := by decide +kernel
theorem dX3_copyFrom_37 : decode cX3_copyFrom 37 = .ok (.putfield 35, 3) := by decide +kernel
theorem dX3_copyFrom_40 : decode cX3_copyFrom 40 = .ok (.aload_n 0, 1) := by decide +kernel
theorem dX3_copyFrom_41 : decode cX3_copyFrom 41 = .ok (.aload_n 1, 1) := by decide +kernel
theorem dX3_copyFrom_42 : decode cX3_copyFrom 42 = .ok (.getfield 38, 3) := by decide +kernel
theorem dX3_copyFrom_45 : decode cX3_copyFrom 45 = .ok (.putfield 38, 3) := by decide +kernel
theorem dX3_copyFrom_48 : decode cX3_copyFrom 48 = .ok (.aload_n 0, 1) := by decide +kernel
theorem dX3_copyFrom_49 : decode cX3_copyFrom 49 = .ok (.aload_n 1, 1) := by decide +kernel
theorem dX3_copyFrom_50 : decode cX3_copyFrom 50 = .ok (.getfield 41, 3) := by decide +kernel
theorem dX3_copyFrom_53 : decode cX3_copyFrom 53 = .ok (.putfield 41, 3) := by decide +kernel
theorem dX3_copyFrom_56 : decode cX3_copyFrom 56 = .ok (.aload_n 0, 1) := by decide +kernel
theorem dX3_copyFrom_57 : decode cX3_copyFrom 57 = .ok (.aload_n 1, 1) := by decide +kernel
theorem dX3_copyFrom_58 : decode cX3_copyFrom 58 = .ok (.getfield 44, 3) := by decide +kernel
theorem dX3_copyFrom_61 : decode cX3_copyFrom 61 = .ok (.putfield 44, 3) := by decide +kernel
theorem dX3_copyFrom_64 : decode cX3_copyFrom 64 = .ok (.iconst 0, 1) := by decide +kernel
theorem dX3_copyFrom_65 : decode cX3_copyFrom 65 = .ok (.istore_n 2, 1) := by decide +kernel
theorem dX3_copyFrom_66 : decode cX3_copyFrom 66 = .ok (.iload_n 2, 1) := by decide +kernel
theorem dX3_copyFrom_67 : decode cX3_copyFrom 67 = .ok (.aload_n 0, 1) := by decide +kernel
theorem dX3_copyFrom_68 : decode cX3_copyFrom 68 = .ok (.getfield 22, 3) := by decide +kernel
theorem dX3_copyFrom_71 : decode cX3_copyFrom 71 = .ok (.if_icmp .ge 22, 3) := by decide +kernel
theorem dX3_copyFrom_74 : decode cX3_copyFrom 74 = .ok (.aload_n 0, 1) := by decide +kernel
theorem dX3_copyFrom_75 : decode cX3_copyFrom 75 = .ok (.iload_n 2, 1) := by decide +kernel
theorem dX3_copyFrom_76 : decode cX3_copyFrom 76 = .ok (.invokevirtual 47, 3) := by decide +kernel
theorem dX3_copyFrom_79 : decode cX3_copyFrom 79 = .ok (.aload_n 1, 1) := by decide +kernel
theorem dX3_copyFrom_80 : decode cX3_copyFrom 80 = .ok (.iload_n 2, 1) := by decide +kernel
theorem dX3_copyFrom_81 : decode cX3_copyFrom 81 = .ok (.invokevirtual 47, 3) := by decide +kernel
theorem dX3_copyFrom_84 : decode cX3_copyFrom 84 = .ok (.invokevirtual 51, 3) := by decide +kernel
theorem dX3_copyFrom_87 : decode cX3_copyFrom 87 = .ok (.iinc 2 1, 3) := by decide +kernel
theorem dX3_copyFrom_90 : decode cX3_copyFrom 90 = .ok (.goto (-24), 3) := by decide +kernel
theorem dX3_copyFrom_93 : decode cX3_copyFrom 93 = .ok (.return_, 1) := by decide +kernel
theorem dX3_has_0 : decode cX3_has 0 = .ok (.iload_n 1, 1) := by decide +kernel
theorem dX3_has_1 : decode cX3_has 1 = .ok (.ifCond .lt 15, 3) := by decide +kernel
theorem dX3_has_4 : decode cX3_has 4 = .ok (.iload_n 1, 1) := by decide +kernel
theorem dX3_has_5 : decode cX3_has 5 = .ok (.aload_n 0, 1) := by decide +kernel
theorem dX3_has_6 : decode cX3_has 6 = .ok (.getfield 22, 3) := by decide +kernel
theorem dX3_has_9 : decode cX3_has 9 = .ok (.if_icmp .ge 7, 3) := by decide +kernel
theorem dX3_has_12 : decode cX3_has 12 = .ok (.iconst 1, 1) := by decide +kernel
theorem dX3_has_13 : decode cX3_has 13 = .ok (.goto 4, 3) := by decide +kernel
theorem dX3_has_16 : decode cX3_has 16 = .ok (.iconst 0, 1) := by decide +kernel
theorem dX3_has_17 : decode cX3_has 17 = .ok (.ireturn, 1) := by decide +kernel
theorem dX3_fishAt_0 : decode cX3_fishAt 0 = .ok (.iload_n 1, 1) := by decide +kernel
theorem dX3_fishAt_1 : decode cX3_fishAt 1 = .ok (.ifCond .lt 21, 3) := by decide +kernel
theorem dX3_fishAt_4 : decode cX3_fishAt 4 = .ok (.iload_n 1, 1) := by decide +kernel
theorem dX3_fishAt_5 : decode cX3_fishAt 5 = .ok (.aload_n 0, 1) := by decide +kernel
theorem dX3_fishAt_6 : decode cX3_fishAt 6 = .ok (.getfield 11, 3) := by decide +kernel
theorem dX3_fishAt_9 : decode cX3_fishAt 9 = .ok (.arraylength, 1) := by decide +kernel
theorem dX3_fishAt_10 : decode cX3_fishAt 10 = .ok (.if_icmp .ge 12, 3) := by decide +kernel
theorem dX3_fishAt_13 : decode cX3_fishAt 13 = .ok (.aload_n 0, 1) := by decide +kernel
theorem dX3_fishAt_14 : decode cX3_fishAt 14 = .ok (.getfield 11, 3) := by decide +kernel
theorem dX3_fishAt_17 : decode cX3_fishAt 17 = .ok (.iload_n 1, 1) := by decide +kernel
theorem dX3_fishAt_18 : decode cX3_fishAt 18 = .ok (.aaload, 1) := by decide +kernel
theorem dX3_fishAt_19 : decode cX3_fishAt 19 = .ok (.goto 7, 3) := by decide +kernel
theorem dX3_fishAt_22 : decode cX3_fishAt 22 = .ok (.aload_n 0, 1) := by decide +kernel
theorem dX3_fishAt_23 : decode cX3_fishAt 23 = .ok (.getfield 18, 3) := by decide +kernel
theorem dX3_fishAt_26 : decode cX3_fishAt 26 = .ok (.areturn, 1) := by decide +kernel
theorem dX3_addFish_0 : decode cX3_addFish 0 = .ok (.aload_n 0, 1) := by decide +kernel
theorem dX3_addFish_1 : decode cX3_addFish 1 = .ok (.aload_n 0, 1) := by decide +kernel
theorem dX3_addFish_2 : decode cX3_addFish 2 = .ok (.getfield 22, 3) := by decide +kernel
theorem dX3_addFish_5 : decode cX3_addFish 5 = .ok (.invokevirtual 47, 3) := by decide +kernel
theorem dX3_addFish_8 : decode cX3_addFish 8 = .ok (.iload_n 1, 1) := by decide +kernel
theorem dX3_addFish_9 : decode cX3_addFish 9 = .ok (.invokevirtual 55, 3) := by decide +kernel
theorem dX3_addFish_12 : decode cX3_addFish 12 = .ok (.aload_n 0, 1) := by decide +kernel
theorem dX3_addFish_13 : decode cX3_addFish 13 = .ok (.dup, 1) := by decide +kernel
theorem dX3_addFish_14 : decode cX3_addFish 14 = .ok (.getfield 22, 3) := by decide +kernel
theorem dX3_addFish_17 : decode cX3_addFish 17 = .ok (.iconst 1, 1) := by decide +kernel
theorem dX3_addFish_18 : decode cX3_addFish 18 = .ok (.iadd, 1) := by decide +kernel
theorem dX3_addFish_19 : decode cX3_addFish 19 = .ok (.putfield 22, 3) := by decide +kernel
theorem dX3_addFish_22 : decode cX3_addFish 22 = .ok (.return_, 1) := by decide +kernel
theorem dX3_removeFish_0 : decode cX3_removeFish 0 = .ok (.aload_n 0, 1) := by decide +kernel
theorem dX3_removeFish_1 : decode cX3_removeFish 1 = .ok (.dup, 1) := by decide +kernel
theorem dX3_removeFish_2 : decode cX3_removeFish 2 = .ok (.getfield 22, 3) := by decide +kernel
theorem dX3_removeFish_5 : decode cX3_removeFish 5 = .ok (.iconst 1, 1) := by decide +kernel
theorem dX3_removeFish_6 : decode cX3_removeFish 6 = .ok (.isub, 1) := by decide +kernel
theorem dX3_removeFish_7 : decode cX3_removeFish 7 = .ok (.putfield 22, 3) := by decide +kernel
theorem dX3_removeFish_10 : decode cX3_removeFish 10 = .ok (.iload_n 1, 1) := by decide +kernel
theorem dX3_removeFish_11 : decode cX3_removeFish 11 = .ok (.istore_n 2, 1) := by decide +kernel
theorem dX3_removeFish_12 : decode cX3_removeFish 12 = .ok (.iload_n 2, 1) := by decide +kernel
theorem dX3_removeFish_13 : decode cX3_removeFish 13 = .ok (.aload_n 0, 1) := by decide +kernel
theorem dX3_removeFish_14 : decode cX3_removeFish 14 = .ok (.getfield 22, 3) := by decide +kernel
theorem dX3_removeFish_17 : decode cX3_removeFish 17 = .ok (.if_icmp .ge 24, 3) := by decide +kernel
theorem dX3_removeFish_20 : decode cX3_removeFish 20 = .ok (.aload_n 0, 1) := by decide +kernel
theorem dX3_removeFish_21 : decode cX3_removeFish 21 = .ok (.iload_n 2, 1) := by decide +kernel
theorem dX3_removeFish_22 : decode cX3_removeFish 22 = .ok (.invokevirtual 47, 3) := by decide +kernel
theorem dX3_removeFish_25 : decode cX3_removeFish 25 = .ok (.aload_n 0, 1) := by decide +kernel
theorem dX3_removeFish_26 : decode cX3_removeFish 26 = .ok (.iload_n 2, 1) := by decide +kernel
theorem dX3_removeFish_27 : decode cX3_removeFish 27 = .ok (.iconst 1, 1) := by decide +kernel
theorem dX3_removeFish_28 : decode cX3_removeFish 28 = .ok (.iadd, 1) := by decide +kernel
theorem dX3_removeFish_29 : decode cX3_removeFish 29 = .ok (.invokevirtual 47, 3) := by decide +kernel
theorem dX3_removeFish_32 : decode cX3_removeFish 32 = .ok (.invokevirtual 51, 3) := by decide +kernel
theorem dX3_removeFish_35 : decode cX3_removeFish 35 = .ok (.iinc 2 1, 3) := by decide +kernel
theorem dX3_removeFish_38 : decode cX3_removeFish 38 = .ok (.goto (-26), 3) := by decide +kernel
theorem dX3_removeFish_41 : decode cX3_removeFish 41 = .ok (.return_, 1) := by decide +kernel
theorem dX3_countIn_0 : decode cX3_countIn 0 = .ok (.iconst 0, 1) := by decide +kernel
theorem dX3_countIn_1 : decode cX3_countIn 1 = .ok (.istore_n 2, 1) := by decide +kernel
theorem dX3_countIn_2 : decode cX3_countIn 2 = .ok (.iconst 0, 1) := by decide +kernel
theorem dX3_countIn_3 : decode cX3_countIn 3 = .ok (.istore_n 3, 1) := by decide +kernel
theorem dX3_countIn_4 : decode cX3_countIn 4 = .ok (.iload_n 3, 1) := by decide +kernel
theorem dX3_countIn_5 : decode cX3_countIn 5 = .ok (.aload_n 0, 1) := by decide +kernel
theorem dX3_countIn_6 : decode cX3_countIn 6 = .ok (.getfield 22, 3) := by decide +kernel
theorem dX3_countIn_9 : decode cX3_countIn 9 = .ok (.if_icmp .ge 29, 3) := by decide +kernel
theorem dX3_countIn_12 : decode cX3_countIn 12 = .ok (.iload_n 2, 1) := by decide +kernel
theorem dX3_countIn_13 : decode cX3_countIn 13 = .ok (.aload_n 0, 1) := by decide +kernel
theorem dX3_countIn_14 : decode cX3_countIn 14 = .ok (.iload_n 3, 1) := by decide +kernel
theorem dX3_countIn_15 : decode cX3_countIn 15 = .ok (.invokevirtual 47, 3) := by decide +kernel
theorem dX3_countIn_18 : decode cX3_countIn 18 = .ok (.getfield 59, 3) := by decide +kernel
theorem dX3_countIn_21 : decode cX3_countIn 21 = .ok (.iload_n 1, 1) := by decide +kernel
theorem dX3_countIn_22 : decode cX3_countIn 22 = .ok (.if_icmp .ne 7, 3) := by decide +kernel
theorem dX3_countIn_25 : decode cX3_countIn 25 = .ok (.iconst 1, 1) := by decide +kernel
theorem dX3_countIn_26 : decode cX3_countIn 26 = .ok (.goto 4, 3) := by decide +kernel
theorem dX3_countIn_29 : decode cX3_countIn 29 = .ok (.iconst 0, 1) := by decide +kernel
theorem dX3_countIn_30 : decode cX3_countIn 30 = .ok (.iadd, 1) := by decide +kernel
theorem dX3_countIn_31 : decode cX3_countIn 31 = .ok (.istore_n 2, 1) := by decide +kernel
theorem dX3_countIn_32 : decode cX3_countIn 32 = .ok (.iinc 3 1, 3) := by decide +kernel
theorem dX3_countIn_35 : decode cX3_countIn 35 = .ok (.goto (-31), 3) := by decide +kernel
theorem dX3_countIn_38 : decode cX3_countIn 38 = .ok (.iload_n 2, 1) := by decide +kernel
theorem dX3_countIn_39 : decode cX3_countIn 39 = .ok (.ireturn, 1) := by decide +kernel
theorem dX3_countOnRack_0 : decode cX3_countOnRack 0 = .ok (.iconst 0, 1) := by decide +kernel
theorem dX3_countOnRack_1 : decode cX3_countOnRack 1 = .ok (.istore_n 2, 1) := by decide +kernel
theorem dX3_countOnRack_2 : decode cX3_countOnRack 2 = .ok (.iconst 0, 1) := by decide +kernel
theorem dX3_countOnRack_3 : decode cX3_countOnRack 3 = .ok (.istore_n 3, 1) := by decide +kernel
theorem dX3_countOnRack_4 : decode cX3_countOnRack 4 = .ok (.iload_n 3, 1) := by decide +kernel
theorem dX3_countOnRack_5 : decode cX3_countOnRack 5 = .ok (.aload_n 0, 1) := by decide +kernel
theorem dX3_countOnRack_6 : decode cX3_countOnRack 6 = .ok (.getfield 22, 3) := by decide +kernel
theorem dX3_countOnRack_9 : decode cX3_countOnRack 9 = .ok (.if_icmp .ge 29, 3) := by decide +kernel
theorem dX3_countOnRack_12 : decode cX3_countOnRack 12 = .ok (.iload_n 2, 1) := by decide +kernel
theorem dX3_countOnRack_13 : decode cX3_countOnRack 13 = .ok (.aload_n 0, 1) := by decide +kernel
theorem dX3_countOnRack_14 : decode cX3_countOnRack 14 = .ok (.iload_n 3, 1) := by decide +kernel
theorem dX3_countOnRack_15 : decode cX3_countOnRack 15 = .ok (.invokevirtual 47, 3) := by decide +kernel
theorem dX3_countOnRack_18 : decode cX3_countOnRack 18 = .ok (.getfield 62, 3) := by decide +kernel
theorem dX3_countOnRack_21 : decode cX3_countOnRack 21 = .ok (.iload_n 1, 1) := by decide +kernel
theorem dX3_countOnRack_22 : decode cX3_countOnRack 22 = .ok (.if_icmp .ne 7, 3) := by decide +kernel
theorem dX3_countOnRack_25 : decode cX3_countOnRack 25 = .ok (.iconst 1, 1) := by decide +kernel
theorem dX3_countOnRack_26 : decode cX3_countOnRack 26 = .ok (.goto 4, 3) := by decide +kernel
theorem dX3_countOnRack_29 : decode cX3_countOnRack 29 = .ok (.iconst 0, 1) := by decide +kernel
theorem dX3_countOnRack_30 : decode cX3_countOnRack 30 = .ok (.iadd, 1) := by decide +kernel
theorem dX3_countOnRack_31 : decode cX3_countOnRack 31 = .ok (.istore_n 2, 1) := by decide +kernel
theorem dX3_countOnRack_32 : decode cX3_countOnRack 32 = .ok (.iinc 3 1, 3) := by decide +kernel
theorem dX3_countOnRack_35 : decode cX3_countOnRack 35 = .ok (.goto (-31), 3) := by decide +kernel
theorem dX3_countOnRack_38 : decode cX3_countOnRack 38 = .ok (.iload_n 2, 1) := by decide +kernel
theorem dX3_countOnRack_39 : decode cX3_countOnRack 39 = .ok (.ireturn, 1) := by decide +kernel
theorem dX3_burntCount_0 : decode cX3_burntCount 0 = .ok (.iconst 0, 1) := by decide +kernel
theorem dX3_burntCount_1 : decode cX3_burntCount 1 = .ok (.istore_n 1, 1) := by decide +kernel
theorem dX3_burntCount_2 : decode cX3_burntCount 2 = .ok (.iconst 0, 1) := by decide +kernel
theorem dX3_burntCount_3 : decode cX3_burntCount 3 = .ok (.istore_n 2, 1) := by decide +kernel
theorem dX3_burntCount_4 : decode cX3_burntCount 4 = .ok (.iload_n 2, 1) := by decide +kernel
theorem dX3_burntCount_5 : decode cX3_burntCount 5 = .ok (.aload_n 0, 1) := by decide +kernel
theorem dX3_burntCount_6 : decode cX3_burntCount 6 = .ok (.getfield 22, 3) := by decide +kernel
theorem dX3_burntCount_9 : decode cX3_burntCount 9 = .ok (.if_icmp .ge 28, 3) := by decide +kernel
theorem dX3_burntCount_12 : decode cX3_burntCount 12 = .ok (.iload_n 1, 1) := by decide +kernel
theorem dX3_burntCount_13 : decode cX3_burntCount 13 = .ok (.aload_n 0, 1) := by decide +kernel
theorem dX3_burntCount_14 : decode cX3_burntCount 14 = .ok (.iload_n 2, 1) := by decide +kernel
theorem dX3_burntCount_15 : decode cX3_burntCount 15 = .ok (.invokevirtual 47, 3) := by decide +kernel
theorem dX3_burntCount_18 : decode cX3_burntCount 18 = .ok (.invokevirtual 65, 3) := by decide +kernel
theorem dX3_burntCount_21 : decode cX3_burntCount 21 = .ok (.ifCond .eq 7, 3) := by decide +kernel
theorem dX3_burntCount_24 : decode cX3_burntCount 24 = .ok (.iconst 1, 1) := by decide +kernel
theorem dX3_burntCount_25 : decode cX3_burntCount 25 = .ok (.goto 4, 3) := by decide +kernel
theorem dX3_burntCount_28 : decode cX3_burntCount 28 = .ok (.iconst 0, 1) := by decide +kernel
theorem dX3_burntCount_29 : decode cX3_burntCount 29 = .ok (.iadd, 1) := by decide +kernel
theorem dX3_burntCount_30 : decode cX3_burntCount 30 = .ok (.istore_n 1, 1) := by decide +kernel
theorem dX3_burntCount_31 : decode cX3_burntCount 31 = .ok (.iinc 2 1, 3) := by decide +kernel
theorem dX3_burntCount_34 : decode cX3_burntCount 34 = .ok (.goto (-30), 3) := by decide +kernel
theorem dX3_burntCount_37 : decode cX3_burntCount 37 = .ok (.iload_n 1, 1) := by decide +kernel
theorem dX3_burntCount_38 : decode cX3_burntCount 38 = .ok (.ireturn, 1) := by decide +kernel
theorem dX3_allSmoke_0 : decode cX3_allSmoke 0 = .ok (.iconst 0, 1) := by decide +kernel
theorem dX3_allSmoke_1 : decode cX3_allSmoke 1 = .ok (.istore_n 1, 1) := by decide +kernel
theorem dX3_allSmoke_2 : decode cX3_allSmoke 2 = .ok (.iconst 0, 1) := by decide +kernel
theorem dX3_allSmoke_3 : decode cX3_allSmoke 3 = .ok (.istore_n 2, 1) := by decide +kernel
theorem dX3_allSmoke_4 : decode cX3_allSmoke 4 = .ok (.iload_n 2, 1) := by decide +kernel
theorem dX3_allSmoke_5 : decode cX3_allSmoke 5 = .ok (.aload_n 0, 1) := by decide +kernel
theorem dX3_allSmoke_6 : decode cX3_allSmoke 6 = .ok (.getfield 22, 3) := by decide +kernel
theorem dX3_allSmoke_9 : decode cX3_allSmoke 9 = .ok (.if_icmp .ge 33, 3) := by decide +kernel
theorem dX3_allSmoke_12 : decode cX3_allSmoke 12 = .ok (.aload_n 0, 1) := by decide +kernel
theorem dX3_allSmoke_13 : decode cX3_allSmoke 13 = .ok (.iload_n 2, 1) := by decide +kernel
theorem dX3_allSmoke_14 : decode cX3_allSmoke 14 = .ok (.invokevirtual 47, 3) := by decide +kernel
theorem dX3_allSmoke_17 : decode cX3_allSmoke 17 = .ok (.astore_n 3, 1) := by decide +kernel
theorem dX3_allSmoke_18 : decode cX3_allSmoke 18 = .ok (.iload_n 1, 1) := by decide +kernel
theorem dX3_allSmoke_19 : decode cX3_allSmoke 19 = .ok (.aload_n 3, 1) := by decide +kernel
theorem dX3_allSmoke_20 : decode cX3_allSmoke 20 = .ok (.getfield 69, 3) := by decide +kernel
theorem dX3_allSmoke_23 : decode cX3_allSmoke 23 = .ok (.getfield 73, 3) := by decide +kernel
theorem dX3_allSmoke_26 : decode cX3_allSmoke 26 = .ok (.aload_n 3, 1) := by decide +kernel
theorem dX3_allSmoke_27 : decode cX3_allSmoke 27 = .ok (.getfield 78, 3) := by decide +kernel
theorem dX3_allSmoke_30 : decode cX3_allSmoke 30 = .ok (.getfield 73, 3) := by decide +kernel
theorem dX3_allSmoke_33 : decode cX3_allSmoke 33 = .ok (.iadd, 1) := by decide +kernel
theorem dX3_allSmoke_34 : decode cX3_allSmoke 34 = .ok (.iadd, 1) := by decide +kernel
theorem dX3_allSmoke_35 : decode cX3_allSmoke 35 = .ok (.istore_n 1, 1) := by decide +kernel
theorem dX3_allSmoke_36 : decode cX3_allSmoke 36 = .ok (.iinc 2 1, 3) := by decide +kernel
theorem dX3_allSmoke_39 : decode cX3_allSmoke 39 = .ok (.goto (-35), 3) := by decide +kernel
theorem dX3_allSmoke_42 : decode cX3_allSmoke 42 = .ok (.iload_n 1, 1) := by decide +kernel
theorem dX3_allSmoke_43 : decode cX3_allSmoke 43 = .ok (.ireturn, 1) := by decide +kernel
theorem dX3_saltInBrine_0 : decode cX3_saltInBrine 0 = .ok (.iconst 0, 1) := by decide +kernel
theorem dX3_saltInBrine_1 : decode cX3_saltInBrine 1 = .ok (.istore_n 1, 1) := by decide +kernel
theorem dX3_saltInBrine_2 : decode cX3_saltInBrine 2 = .ok (.iconst 0, 1) := by decide +kernel
theorem dX3_saltInBrine_3 : decode cX3_saltInBrine 3 = .ok (.istore_n 2, 1) := by decide +kernel
theorem dX3_saltInBrine_4 : decode cX3_saltInBrine 4 = .ok (.iload_n 2, 1) := by decide +kernel
theorem dX3_saltInBrine_5 : decode cX3_saltInBrine 5 = .ok (.aload_n 0, 1) := by decide +kernel
theorem dX3_saltInBrine_6 : decode cX3_saltInBrine 6 = .ok (.getfield 22, 3) := by decide +kernel
theorem dX3_saltInBrine_9 : decode cX3_saltInBrine 9 = .ok (.if_icmp .ge 34, 3) := by decide +kernel
theorem dX3_saltInBrine_12 : decode cX3_saltInBrine 12 = .ok (.aload_n 0, 1) := by decide +kernel
theorem dX3_saltInBrine_13 : decode cX3_saltInBrine 13 = .ok (.iload_n 2, 1) := by decide +kernel
theorem dX3_saltInBrine_14 : decode cX3_saltInBrine 14 = .ok (.invokevirtual 47, 3) := by decide +kernel
theorem dX3_saltInBrine_17 : decode cX3_saltInBrine 17 = .ok (.astore_n 3, 1) := by decide +kernel
theorem dX3_saltInBrine_18 : decode cX3_saltInBrine 18 = .ok (.iload_n 1, 1) := by decide +kernel
theorem dX3_saltInBrine_19 : decode cX3_saltInBrine 19 = .ok (.aload_n 3, 1) := by decide +kernel
theorem dX3_saltInBrine_20 : decode cX3_saltInBrine 20 = .ok (.getfield 59, 3) := by decide +kernel
theorem dX3_saltInBrine_23 : decode cX3_saltInBrine 23 = .ok (.iconst 1, 1) := by decide +kernel
theorem dX3_saltInBrine_24 : decode cX3_saltInBrine 24 = .ok (.if_icmp .ne 10, 3) := by decide +kernel
theorem dX3_saltInBrine_27 : decode cX3_saltInBrine 27 = .ok (.aload_n 3, 1) := by decide +kernel
theorem dX3_saltInBrine_28 : decode cX3_saltInBrine 28 = .ok (.getfield 81, 3) := by decide +kernel
theorem dX3_saltInBrine_31 : decode cX3_saltInBrine 31 = .ok (.goto 4, 3) := by decide +kernel
theorem dX3_saltInBrine_34 : decode cX3_saltInBrine 34 = .ok (.iconst 0, 1) := by decide +kernel
theorem dX3_saltInBrine_35 : decode cX3_saltInBrine 35 = .ok (.iadd, 1) := by decide +kernel
theorem dX3_saltInBrine_36 : decode cX3_saltInBrine 36 = .ok (.istore_n 1, 1) := by decide +kernel
theorem dX3_saltInBrine_37 : decode cX3_saltInBrine 37 = .ok (.iinc 2 1, 3) := by decide +kernel
theorem dX3_saltInBrine_40 : decode cX3_saltInBrine 40 = .ok (.goto (-36), 3) := by decide +kernel
theorem dX3_saltInBrine_43 : decode cX3_saltInBrine 43 = .ok (.iload_n 1, 1) := by decide +kernel
theorem dX3_saltInBrine_44 : decode cX3_saltInBrine 44 = .ok (.ireturn, 1) := by decide +kernel
theorem dX3_fishOn_0 : decode cX3_fishOn 0 = .ok (.iconst 0, 1) := by decide +kernel
theorem dX3_fishOn_1 : decode cX3_fishOn 1 = .ok (.istore_n 3, 1) := by decide +kernel
theorem dX3_fishOn_2 : decode cX3_fishOn 2 = .ok (.iload_n 3, 1) := by decide +kernel
theorem dX3_fishOn_3 : decode cX3_fishOn 3 = .ok (.aload_n 0, 1) := by decide +kernel
theorem dX3_fishOn_4 : decode cX3_fishOn 4 = .ok (.getfield 22, 3) := by decide +kernel
theorem dX3_fishOn_7 : decode cX3_fishOn 7 = .ok (.if_icmp .ge 36, 3) := by decide +kernel
theorem dX3_fishOn_10 : decode cX3_fishOn 10 = .ok (.aload_n 0, 1) := by decide +kernel
theorem dX3_fishOn_11 : decode cX3_fishOn 11 = .ok (.iload_n 3, 1) := by decide +kernel
theorem dX3_fishOn_12 : decode cX3_fishOn 12 = .ok (.invokevirtual 47, 3) := by decide +kernel
theorem dX3_fishOn_15 : decode cX3_fishOn 15 = .ok (.astore 4, 2) := by decide +kernel
theorem dX3_fishOn_17 : decode cX3_fishOn 17 = .ok (.aload 4, 2) := by decide +kernel
theorem dX3_fishOn_19 : decode cX3_fishOn 19 = .ok (.getfield 62, 3) := by decide +kernel
theorem dX3_fishOn_22 : decode cX3_fishOn 22 = .ok (.iload_n 1, 1) := by decide +kernel
theorem dX3_fishOn_23 : decode cX3_fishOn 23 = .ok (.if_icmp .ne 14, 3) := by decide +kernel
theorem dX3_fishOn_26 : decode cX3_fishOn 26 = .ok (.aload 4, 2) := by decide +kernel
theorem dX3_fishOn_28 : decode cX3_fishOn 28 = .ok (.getfield 84, 3) := by decide +kernel
theorem dX3_fishOn_31 : decode cX3_fishOn 31 = .ok (.iload_n 2, 1) := by decide +kernel
theorem dX3_fishOn_32 : decode cX3_fishOn 32 = .ok (.if_icmp .ne 5, 3) := by decide +kernel
theorem dX3_fishOn_35 : decode cX3_fishOn 35 = .ok (.iload_n 3, 1) := by decide +kernel
theorem dX3_fishOn_36 : decode cX3_fishOn 36 = .ok (.ireturn, 1) := by decide +kernel
theorem dX3_fishOn_37 : decode cX3_fishOn 37 = .ok (.iinc 3 1, 3) := by decide +kernel
theorem dX3_fishOn_40 : decode cX3_fishOn 40 = .ok (.goto (-38), 3) := by decide +kernel
theorem dX3_fishOn_43 : decode cX3_fishOn 43 = .ok (.iconst (-1), 1) := by decide +kernel
theorem dX3_fishOn_44 : decode cX3_fishOn 44 = .ok (.ireturn, 1) := by decide +kernel
theorem dX3_letterOn_0 : decode cX3_letterOn 0 = .ok (.aload_n 0, 1) := by decide +kernel
theorem dX3_letterOn_1 : decode cX3_letterOn 1 = .ok (.iload_n 1, 1) := by decide +kernel
theorem dX3_letterOn_2 : decode cX3_letterOn 2 = .ok (.iload_n 2, 1) := by decide +kernel
theorem dX3_letterOn_3 : decode cX3_letterOn 3 = .ok (.invokevirtual 87, 3) := by decide +kernel
theorem dX3_letterOn_6 : decode cX3_letterOn 6 = .ok (.istore_n 3, 1) := by decide +kernel
theorem dX3_letterOn_7 : decode cX3_letterOn 7 = .ok (.iload_n 3, 1) := by decide +kernel
theorem dX3_letterOn_8 : decode cX3_letterOn 8 = .ok (.iconst (-1), 1) := by decide +kernel
theorem dX3_letterOn_9 : decode cX3_letterOn 9 = .ok (.if_icmp .ne 6, 3) := by decide +kernel
theorem dX3_letterOn_12 : decode cX3_letterOn 12 = .ok (.bipush 46, 2) := by decide +kernel
theorem dX3_letterOn_14 : decode cX3_letterOn 14 = .ok (.ireturn, 1) := by decide +kernel
theorem dX3_letterOn_15 : decode cX3_letterOn 15 = .ok (.aload_n 0, 1) := by decide +kernel
theorem dX3_letterOn_16 : decode cX3_letterOn 16 = .ok (.iload_n 3, 1) := by decide +kernel
theorem dX3_letterOn_17 : decode cX3_letterOn 17 = .ok (.invokevirtual 47, 3) := by decide +kernel
theorem dX3_letterOn_20 : decode cX3_letterOn 20 = .ok (.invokevirtual 65, 3) := by decide +kernel
theorem dX3_letterOn_23 : decode cX3_letterOn 23 = .ok (.ifCond .eq 8, 3) := by decide +kernel
theorem dX3_letterOn_26 : decode cX3_letterOn 26 = .ok (.bipush 65, 2) := by decide +kernel
theorem dX3_letterOn_28 : decode cX3_letterOn 28 = .ok (.goto 5, 3) := by decide +kernel
theorem dX3_letterOn_31 : decode cX3_letterOn 31 = .ok (.bipush 97, 2) := by decide +kernel
theorem dX3_letterOn_33 : decode cX3_letterOn 33 = .ok (.iload_n 3, 1) := by decide +kernel
theorem dX3_letterOn_34 : decode cX3_letterOn 34 = .ok (.iadd, 1) := by decide +kernel
theorem dX3_letterOn_35 : decode cX3_letterOn 35 = .ok (.i2c, 1) := by decide +kernel
theorem dX3_letterOn_36 : decode cX3_letterOn 36 = .ok (.ireturn, 1) := by decide +kernel
theorem dX3_nearestOther_0 : decode cX3_nearestOther 0 = .ok (.bipush 10, 2) := by decide +kernel
theorem dX3_nearestOther_2 : decode cX3_nearestOther 2 = .ok (.istore 4, 2) := by decide +kernel
theorem dX3_nearestOther_4 : decode cX3_nearestOther 4 = .ok (.iconst 0, 1) := by decide +kernel
theorem dX3_nearestOther_5 : decode cX3_nearestOther 5 = .ok (.istore 5, 2) := by decide +kernel
theorem dX3_nearestOther_7 : decode cX3_nearestOther 7 = .ok (.iload 5, 2) := by decide +kernel
theorem dX3_nearestOther_9 : decode cX3_nearestOther 9 = .ok (.aload_n 0, 1) := by decide +kernel
theorem dX3_nearestOther_10 : decode cX3_nearestOther 10 = .ok (.getfield 22, 3) := by decide +kernel
theorem dX3_nearestOther_13 : decode cX3_nearestOther 13 = .ok (.if_icmp .ge 49, 3) := by decide +kernel
theorem dX3_nearestOther_16 : decode cX3_nearestOther 16 = .ok (.aload_n 0, 1) := by decide +kernel
theorem dX3_nearestOther_17 : decode cX3_nearestOther 17 = .ok (.iload 5, 2) := by decide +kernel
theorem dX3_nearestOther_19 : decode cX3_nearestOther 19 = .ok (.invokevirtual 47, 3) := by decide +kernel
theorem dX3_nearestOther_22 : decode cX3_nearestOther 22 = .ok (.astore 6, 2) := by decide +kernel
theorem dX3_nearestOther_24 : decode cX3_nearestOther 24 = .ok (.iload 5, 2) := by decide +kernel
theorem dX3_nearestOther_26 : decode cX3_nearestOther 26 = .ok (.iload_n 3, 1) := by decide +kernel
theorem dX3_nearestOther_27 : decode cX3_nearestOther 27 = .ok (.if_icmp .eq 29, 3) := by decide +kernel
theorem dX3_nearestOther_30 : decode cX3_nearestOther 30 = .ok (.aload 6, 2) := by decide +kernel
theorem dX3_nearestOther_32 : decode cX3_nearestOther 32 = .ok (.getfield 62, 3) := by decide +kernel
theorem dX3_nearestOther_35 : decode cX3_nearestOther 35 = .ok (.iload_n 1, 1) := by decide +kernel
theorem dX3_nearestOther_36 : decode cX3_nearestOther 36 = .ok (.if_icmp .ne 20, 3) := by decide +kernel
theorem dX3_nearestOther_39 : decode cX3_nearestOther 39 = .ok (.iload 4, 2) := by decide +kernel
theorem dX3_nearestOther_41 : decode cX3_nearestOther 41 = .ok (.aload 6, 2) := by decide +kernel
theorem dX3_nearestOther_43 : decode cX3_nearestOther 43 = .ok (.getfield 84, 3) := by decide +kernel
theorem dX3_nearestOther_46 : decode cX3_nearestOther 46 = .ok (.iload_n 2, 1) := by decide +kernel
theorem dX3_nearestOther_47 : decode cX3_nearestOther 47 = .ok (.isub, 1) := by decide +kernel
theorem dX3_nearestOther_48 : decode cX3_nearestOther 48 = .ok (.invokestatic 91, 3) := by decide +kernel
theorem dX3_nearestOther_51 : decode cX3_nearestOther 51 = .ok (.invokestatic 97, 3) := by decide +kernel
theorem dX3_nearestOther_54 : decode cX3_nearestOther 54 = .ok (.istore 4, 2) := by decide +kernel
theorem dX3_nearestOther_56 : decode cX3_nearestOther 56 = .ok (.iinc 5 1, 3) := by decide +kernel
theorem dX3_nearestOther_59 : decode cX3_nearestOther 59 = .ok (.goto (-52), 3) := by decide +kernel
theorem dX3_nearestOther_62 : decode cX3_nearestOther 62 = .ok (.iload 4, 2) := by decide +kernel
theorem dX3_nearestOther_64 : decode cX3_nearestOther 64 = .ok (.ireturn, 1) := by decide +kernel
theorem dX3_nearestTo_0 : decode cX3_nearestTo 0 = .ok (.aload_n 0, 1) := by decide +kernel
theorem dX3_nearestTo_1 : decode cX3_nearestTo 1 = .ok (.iload_n 1, 1) := by decide +kernel
theorem dX3_nearestTo_2 : decode cX3_nearestTo 2 = .ok (.invokevirtual 47, 3) := by decide +kernel
theorem dX3_nearestTo_5 : decode cX3_nearestTo 5 = .ok (.astore_n 2, 1) := by decide +kernel
theorem dX3_nearestTo_6 : decode cX3_nearestTo 6 = .ok (.aload_n 2, 1) := by decide +kernel
theorem dX3_nearestTo_7 : decode cX3_nearestTo 7 = .ok (.invokevirtual 100, 3) := by decide +kernel
theorem dX3_nearestTo_10 : decode cX3_nearestTo 10 = .ok (.ifCond .eq 19, 3) := by decide +kernel
theorem dX3_nearestTo_13 : decode cX3_nearestTo 13 = .ok (.aload_n 0, 1) := by decide +kernel
theorem dX3_nearestTo_14 : decode cX3_nearestTo 14 = .ok (.aload_n 2, 1) := by decide +kernel
theorem dX3_nearestTo_15 : decode cX3_nearestTo 15 = .ok (.getfield 62, 3) := by decide +kernel
theorem dX3_nearestTo_18 : decode cX3_nearestTo 18 = .ok (.aload_n 2, 1) := by decide +kernel
theorem dX3_nearestTo_19 : decode cX3_nearestTo 19 = .ok (.getfield 84, 3) := by decide +kernel
theorem dX3_nearestTo_22 : decode cX3_nearestTo 22 = .ok (.iload_n 1, 1) := by decide +kernel
theorem dX3_nearestTo_23 : decode cX3_nearestTo 23 = .ok (.invokevirtual 103, 3) := by decide +kernel
theorem dX3_nearestTo_26 : decode cX3_nearestTo 26 = .ok (.goto 5, 3) := by decide +kernel
theorem dX3_nearestTo_29 : decode cX3_nearestTo 29 = .ok (.bipush 10, 2) := by decide +kernel
theorem dX3_nearestTo_31 : decode cX3_nearestTo 31 = .ok (.ireturn, 1) := by decide +kernel
theorem dX3_hangsTooNear_0 : decode cX3_hangsTooNear 0 = .ok (.aload_n 0, 1) := by decide +kernel
theorem dX3_hangsTooNear_1 : decode cX3_hangsTooNear 1 = .ok (.iload_n 1, 1) := by decide +kernel
theorem dX3_hangsTooNear_2 : decode cX3_hangsTooNear 2 = .ok (.invokevirtual 47, 3) := by decide +kernel
theorem dX3_hangsTooNear_5 : decode cX3_hangsTooNear 5 = .ok (.astore_n 2, 1) := by decide +kernel
theorem dX3_hangsTooNear_6 : decode cX3_hangsTooNear 6 = .ok (.aload_n 2, 1) := by decide +kernel
theorem dX3_hangsTooNear_7 : decode cX3_hangsTooNear 7 = .ok (.invokevirtual 100, 3) := by decide +kernel
theorem dX3_hangsTooNear_10 : decode cX3_hangsTooNear 10 = .ok (.ifCond .eq 27, 3) := by decide +kernel
theorem dX3_hangsTooNear_13 : decode cX3_hangsTooNear 13 = .ok (.aload_n 0, 1) := by decide +kernel
theorem dX3_hangsTooNear_14 : decode cX3_hangsTooNear 14 = .ok (.aload_n 2, 1) := by decide +kernel
theorem dX3_hangsTooNear_15 : decode cX3_hangsTooNear 15 = .ok (.getfield 62, 3) := by decide +kernel
theorem dX3_hangsTooNear_18 : decode cX3_hangsTooNear 18 = .ok (.aload_n 2, 1) := by decide +kernel
theorem dX3_hangsTooNear_19 : decode cX3_hangsTooNear 19 = .ok (.getfield 84, 3) := by decide +kernel
theorem dX3_hangsTooNear_22 : decode cX3_hangsTooNear 22 = .ok (.iload_n 1, 1) := by decide +kernel
theorem dX3_hangsTooNear_23 : decode cX3_hangsTooNear 23 = .ok (.invokevirtual 103, 3) := by decide +kernel
theorem dX3_hangsTooNear_26 : decode cX3_hangsTooNear 26 = .ok (.aload_n 2, 1) := by decide +kernel
theorem dX3_hangsTooNear_27 : decode cX3_hangsTooNear 27 = .ok (.invokevirtual 107, 3) := by decide +kernel
theorem dX3_hangsTooNear_30 : decode cX3_hangsTooNear 30 = .ok (.if_icmp .ge 7, 3) := by decide +kernel
theorem dX3_hangsTooNear_33 : decode cX3_hangsTooNear 33 = .ok (.iconst 1, 1) := by decide +kernel
theorem dX3_hangsTooNear_34 : decode cX3_hangsTooNear 34 = .ok (.goto 4, 3) := by decide +kernel
theorem dX3_hangsTooNear_37 : decode cX3_hangsTooNear 37 = .ok (.iconst 0, 1) := by decide +kernel
theorem dX3_hangsTooNear_38 : decode cX3_hangsTooNear 38 = .ok (.ireturn, 1) := by decide +kernel
theorem dX3_farthestHook_0 : decode cX3_farthestHook 0 = .ok (.iconst (-1), 1) := by decide +kernel
theorem dX3_farthestHook_1 : decode cX3_farthestHook 1 = .ok (.istore_n 3, 1) := by decide +kernel
theorem dX3_farthestHook_2 : decode cX3_farthestHook 2 = .ok (.iconst 0, 1) := by decide +kernel
theorem dX3_farthestHook_3 : decode cX3_farthestHook 3 = .ok (.istore 4, 2) := by decide +kernel
theorem dX3_farthestHook_5 : decode cX3_farthestHook 5 = .ok (.iconst 0, 1) := by decide +kernel
theorem dX3_farthestHook_6 : decode cX3_farthestHook 6 = .ok (.istore 5, 2) := by decide +kernel
theorem dX3_farthestHook_8 : decode cX3_farthestHook 8 = .ok (.iload 5, 2) := by decide +kernel
theorem dX3_farthestHook_10 : decode cX3_farthestHook 10 = .ok (.bipush 10, 2) := by decide +kernel
theorem dX3_farthestHook_12 : decode cX3_farthestHook 12 = .ok (.if_icmp .ge 33, 3) := by decide +kernel
theorem dX3_farthestHook_15 : decode cX3_farthestHook 15 = .ok (.aload_n 0, 1) := by decide +kernel
theorem dX3_farthestHook_16 : decode cX3_farthestHook 16 = .ok (.iload_n 2, 1) := by decide +kernel
theorem dX3_farthestHook_17 : decode cX3_farthestHook 17 = .ok (.iload 5, 2) := by decide +kernel
theorem dX3_farthestHook_19 : decode cX3_farthestHook 19 = .ok (.iload_n 1, 1) := by decide +kernel
theorem dX3_farthestHook_20 : decode cX3_farthestHook 20 = .ok (.invokevirtual 103, 3) := by decide +kernel
theorem dX3_farthestHook_23 : decode cX3_farthestHook 23 = .ok (.istore 6, 2) := by decide +kernel
theorem dX3_farthestHook_25 : decode cX3_farthestHook 25 = .ok (.iload 6, 2) := by decide +kernel
theorem dX3_farthestHook_27 : decode cX3_farthestHook 27 = .ok (.iload 4, 2) := by decide +kernel
theorem dX3_farthestHook_29 : decode cX3_farthestHook 29 = .ok (.if_icmp .le 10, 3) := by decide +kernel
theorem dX3_farthestHook_32 : decode cX3_farthestHook 32 = .ok (.iload 5, 2) := by decide +kernel
theorem dX3_farthestHook_34 : decode cX3_farthestHook 34 = .ok (.istore_n 3, 1) := by decide +kernel
theorem dX3_farthestHook_35 : decode cX3_farthestHook 35 = .ok (.iload 6, 2) := by decide +kernel
theorem dX3_farthestHook_37 : decode cX3_farthestHook 37 = .ok (.istore 4, 2) := by decide +kernel
theorem dX3_farthestHook_39 : decode cX3_farthestHook 39 = .ok (.iinc 5 1, 3) := by decide +kernel
theorem dX3_farthestHook_42 : decode cX3_farthestHook 42 = .ok (.goto (-34), 3) := by decide +kernel
theorem dX3_farthestHook_45 : decode cX3_farthestHook 45 = .ok (.iload_n 3, 1) := by decide +kernel
theorem dX3_farthestHook_46 : decode cX3_farthestHook 46 = .ok (.ireturn, 1) := by decide +kernel
theorem dX3_fishAtPlace_0 : decode cX3_fishAtPlace 0 = .ok (.iconst 0, 1) := by decide +kernel
theorem dX3_fishAtPlace_1 : decode cX3_fishAtPlace 1 = .ok (.istore_n 3, 1) := by decide +kernel
theorem dX3_fishAtPlace_2 : decode cX3_fishAtPlace 2 = .ok (.iload_n 3, 1) := by decide +kernel
theorem dX3_fishAtPlace_3 : decode cX3_fishAtPlace 3 = .ok (.aload_n 0, 1) := by decide +kernel
theorem dX3_fishAtPlace_4 : decode cX3_fishAtPlace 4 = .ok (.getfield 22, 3) := by decide +kernel
theorem dX3_fishAtPlace_7 : decode cX3_fishAtPlace 7 = .ok (.if_icmp .ge 21, 3) := by decide +kernel
theorem dX3_fishAtPlace_10 : decode cX3_fishAtPlace 10 = .ok (.aload_n 0, 1) := by decide +kernel
theorem dX3_fishAtPlace_11 : decode cX3_fishAtPlace 11 = .ok (.iload_n 1, 1) := by decide +kernel
theorem dX3_fishAtPlace_12 : decode cX3_fishAtPlace 12 = .ok (.iload_n 3, 1) := by decide +kernel
theorem dX3_fishAtPlace_13 : decode cX3_fishAtPlace 13 = .ok (.invokevirtual 111, 3) := by decide +kernel
theorem dX3_fishAtPlace_16 : decode cX3_fishAtPlace 16 = .ok (.iload_n 2, 1) := by decide +kernel
theorem dX3_fishAtPlace_17 : decode cX3_fishAtPlace 17 = .ok (.if_icmp .ne 5, 3) := by decide +kernel
theorem dX3_fishAtPlace_20 : decode cX3_fishAtPlace 20 = .ok (.iload_n 3, 1) := by decide +kernel
theorem dX3_fishAtPlace_21 : decode cX3_fishAtPlace 21 = .ok (.ireturn, 1) := by decide +kernel
theorem dX3_fishAtPlace_22 : decode cX3_fishAtPlace 22 = .ok (.iinc 3 1, 3) := by decide +kernel
theorem dX3_fishAtPlace_25 : decode cX3_fishAtPlace 25 = .ok (.goto (-23), 3) := by decide +kernel
theorem dX3_fishAtPlace_28 : decode cX3_fishAtPlace 28 = .ok (.iconst (-1), 1) := by decide +kernel
theorem dX3_fishAtPlace_29 : decode cX3_fishAtPlace 29 = .ok (.ireturn, 1) := by decide +kernel
theorem dX3_placeOf_0 : decode cX3_placeOf 0 = .ok (.aload_n 0, 1) := by decide +kernel
theorem dX3_placeOf_1 : decode cX3_placeOf 1 = .ok (.iload_n 2, 1) := by decide +kernel
theorem dX3_placeOf_2 : decode cX3_placeOf 2 = .ok (.invokevirtual 47, 3) := by decide +kernel
theorem dX3_placeOf_5 : decode cX3_placeOf 5 = .ok (.iload_n 1, 1) := by decide +kernel
theorem dX3_placeOf_6 : decode cX3_placeOf 6 = .ok (.invokevirtual 114, 3) := by decide +kernel
theorem dX3_placeOf_9 : decode cX3_placeOf 9 = .ok (.istore_n 3, 1) := by decide +kernel
theorem dX3_placeOf_10 : decode cX3_placeOf 10 = .ok (.iconst 0, 1) := by decide +kernel
theorem dX3_placeOf_11 : decode cX3_placeOf 11 = .ok (.istore 4, 2) := by decide +kernel
theorem dX3_placeOf_13 : decode cX3_placeOf 13 = .ok (.iconst 0, 1) := by decide +kernel
theorem dX3_placeOf_14 : decode cX3_placeOf 14 = .ok (.istore 5, 2) := by decide +kernel
theorem dX3_placeOf_16 : decode cX3_placeOf 16 = .ok (.iload 5, 2) := by decide +kernel
theorem dX3_placeOf_18 : decode cX3_placeOf 18 = .ok (.aload_n 0, 1) := by decide +kernel
theorem dX3_placeOf_19 : decode cX3_placeOf 19 = .ok (.getfield 22, 3) := by decide +kernel
theorem dX3_placeOf_22 : decode cX3_placeOf 22 = .ok (.if_icmp .ge 61, 3) := by decide +kernel
theorem dX3_placeOf_25 : decode cX3_placeOf 25 = .ok (.aload_n 0, 1) := by decide +kernel
theorem dX3_placeOf_26 : decode cX3_placeOf 26 = .ok (.iload 5, 2) := by decide +kernel
theorem dX3_placeOf_28 : decode cX3_placeOf 28 = .ok (.invokevirtual 47, 3) := by decide +kernel
theorem dX3_placeOf_31 : decode cX3_placeOf 31 = .ok (.iload_n 1, 1) := by decide +kernel
theorem dX3_placeOf_32 : decode cX3_placeOf 32 = .ok (.invokevirtual 114, 3) := by decide +kernel
theorem dX3_placeOf_35 : decode cX3_placeOf 35 = .ok (.istore 6, 2) := by decide +kernel
theorem dX3_placeOf_37 : decode cX3_placeOf 37 = .ok (.iload 6, 2) := by decide +kernel
theorem dX3_placeOf_39 : decode cX3_placeOf 39 = .ok (.iload_n 3, 1) := by decide +kernel
theorem dX3_placeOf_40 : decode cX3_placeOf 40 = .ok (.if_icmp .gt 15, 3) := by decide +kernel
theorem dX3_placeOf_43 : decode cX3_placeOf 43 = .ok (.iload 6, 2) := by decide +kernel
theorem dX3_placeOf_45 : decode cX3_placeOf 45 = .ok (.iload_n 3, 1) := by decide +kernel
theorem dX3_placeOf_46 : decode cX3_placeOf 46 = .ok (.if_icmp .ne 13, 3) := by decide +kernel
theorem dX3_placeOf_49 : decode cX3_placeOf 49 = .ok (.iload 5, 2) := by decide +kernel
theorem dX3_placeOf_51 : decode cX3_placeOf 51 = .ok (.iload_n 2, 1) := by decide +kernel
theorem dX3_placeOf_52 : decode cX3_placeOf 52 = .ok (.if_icmp .ge 7, 3) := by decide +kernel
theorem dX3_placeOf_55 : decode cX3_placeOf 55 = .ok (.iconst 1, 1) := by decide +kernel
theorem dX3_placeOf_56 : decode cX3_placeOf 56 = .ok (.goto 4, 3) := by decide +kernel
theorem dX3_placeOf_59 : decode cX3_placeOf 59 = .ok (.iconst 0, 1) := by decide +kernel
theorem dX3_placeOf_60 : decode cX3_placeOf 60 = .ok (.istore 7, 2) := by decide +kernel
theorem dX3_placeOf_62 : decode cX3_placeOf 62 = .ok (.iload 4, 2) := by decide +kernel
theorem dX3_placeOf_64 : decode cX3_placeOf 64 = .ok (.iload 7, 2) := by decide +kernel
theorem dX3_placeOf_66 : decode cX3_placeOf 66 = .ok (.ifCond .eq 7, 3) := by decide +kernel
theorem dX3_placeOf_69 : decode cX3_placeOf 69 = .ok (.iconst 1, 1) := by decide +kernel
theorem dX3_placeOf_70 : decode cX3_placeOf 70 = .ok (.goto 4, 3) := by decide +kernel
theorem dX3_placeOf_73 : decode cX3_placeOf 73 = .ok (.iconst 0, 1) := by decide +kernel
theorem dX3_placeOf_74 : decode cX3_placeOf 74 = .ok (.iadd, 1) := by decide +kernel
theorem dX3_placeOf_75 : decode cX3_placeOf 75 = .ok (.istore 4, 2) := by decide +kernel
theorem dX3_placeOf_77 : decode cX3_placeOf 77 = .ok (.iinc 5 1, 3) := by decide +kernel
theorem dX3_placeOf_80 : decode cX3_placeOf 80 = .ok (.goto (-64), 3) := by decide +kernel
theorem dX3_placeOf_83 : decode cX3_placeOf 83 = .ok (.iload 4, 2) := by decide +kernel
theorem dX3_placeOf_85 : decode cX3_placeOf 85 = .ok (.ireturn, 1) := by decide +kernel
theorem dX3_smokeOne_0 : decode cX3_smokeOne 0 = .ok (.aload_n 1, 1) := by decide +kernel
theorem dX3_smokeOne_1 : decode cX3_smokeOne 1 = .ok (.invokevirtual 100, 3) := by decide +kernel
theorem dX3_smokeOne_4 : decode cX3_smokeOne 4 = .ok (.ifCond .ne 4, 3) := by decide +kernel
theorem dX3_smokeOne_7 : decode cX3_smokeOne 7 = .ok (.return_, 1) := by decide +kernel
theorem dX3_smokeOne_8 : decode cX3_smokeOne 8 = .ok (.iload_n 2, 1) := by decide +kernel
theorem dX3_smokeOne_9 : decode cX3_smokeOne 9 = .ok (.aload_n 1, 1) := by decide +kernel
theorem dX3_smokeOne_10 : decode cX3_smokeOne 10 = .ok (.getfield 62, 3) := by decide +kernel
theorem dX3_smokeOne_13 : decode cX3_smokeOne 13 = .ok (.invokestatic 117, 3) := by decide +kernel
theorem dX3_smokeOne_16 : decode cX3_smokeOne 16 = .ok (.istore 4, 2) := by decide +kernel
theorem dX3_smokeOne_18 : decode cX3_smokeOne 18 = .ok (.iload_n 2, 1) := by decide +kernel
theorem dX3_smokeOne_19 : decode cX3_smokeOne 19 = .ok (.ifCond .le 13, 3) := by decide +kernel
theorem dX3_smokeOne_22 : decode cX3_smokeOne 22 = .ok (.iload 4, 2) := by decide +kernel
theorem dX3_smokeOne_24 : decode cX3_smokeOne 24 = .ok (.aload_n 0, 1) := by decide +kernel
theorem dX3_smokeOne_25 : decode cX3_smokeOne 25 = .ok (.getfield 29, 3) := by decide +kernel
theorem dX3_smokeOne_28 : decode cX3_smokeOne 28 = .ok (.iadd, 1) := by decide +kernel
theorem dX3_smokeOne_29 : decode cX3_smokeOne 29 = .ok (.goto 4, 3) := by decide +kernel
theorem dX3_smokeOne_32 : decode cX3_smokeOne 32 = .ok (.iconst 0, 1) := by decide +kernel
theorem dX3_smokeOne_33 : decode cX3_smokeOne 33 = .ok (.istore 5, 2) := by decide +kernel
theorem dX3_smokeOne_35 : decode cX3_smokeOne 35 = .ok (.aload_n 1, 1) := by decide +kernel
theorem dX3_smokeOne_36 : decode cX3_smokeOne 36 = .ok (.iload 4, 2) := by decide +kernel
theorem dX3_smokeOne_38 : decode cX3_smokeOne 38 = .ok (.iload_n 3, 1) := by decide +kernel
theorem dX3_smokeOne_39 : decode cX3_smokeOne 39 = .ok (.ifCond .eq 10, 3) := by decide +kernel
theorem dX3_smokeOne_42 : decode cX3_smokeOne 42 = .ok (.iload 5, 2) := by decide +kernel
theorem dX3_smokeOne_44 : decode cX3_smokeOne 44 = .ok (.iconst 2, 1) := by decide +kernel
theorem dX3_smokeOne_45 : decode cX3_smokeOne 45 = .ok (.idiv, 1) := by decide +kernel
theorem dX3_smokeOne_46 : decode cX3_smokeOne 46 = .ok (.goto 5, 3) := by decide +kernel
theorem dX3_smokeOne_49 : decode cX3_smokeOne 49 = .ok (.iload 5, 2) := by decide +kernel
theorem dX3_smokeOne_51 : decode cX3_smokeOne 51 = .ok (.invokevirtual 120, 3) := by decide +kernel
theorem dX3_smokeOne_54 : decode cX3_smokeOne 54 = .ok (.return_, 1) := by decide +kernel
theorem dX3_passHour_0 : decode cX3_passHour 0 = .ok (.iconst 0, 1) := by decide +kernel
theorem dX3_passHour_1 : decode cX3_passHour 1 = .ok (.istore_n 1, 1) := by decide +kernel
theorem dX3_passHour_2 : decode cX3_passHour 2 = .ok (.iload_n 1, 1) := by decide +kernel
theorem dX3_passHour_3 : decode cX3_passHour 3 = .ok (.aload_n 0, 1) := by decide +kernel
theorem dX3_passHour_4 : decode cX3_passHour 4 = .ok (.getfield 22, 3) := by decide +kernel
theorem dX3_passHour_7 : decode cX3_passHour 7 = .ok (.if_icmp .ge 27, 3) := by decide +kernel
theorem dX3_passHour_10 : decode cX3_passHour 10 = .ok (.aload_n 0, 1) := by decide +kernel
theorem dX3_passHour_11 : decode cX3_passHour 11 = .ok (.aload_n 0, 1) := by decide +kernel
theorem dX3_passHour_12 : decode cX3_passHour 12 = .ok (.iload_n 1, 1) := by decide +kernel
theorem dX3_passHour_13 : decode cX3_passHour 13 = .ok (.invokevirtual 47, 3) := by decide +kernel
theorem dX3_passHour_16 : decode cX3_passHour 16 = .ok (.aload_n 0, 1) := by decide +kernel
theorem dX3_passHour_17 : decode cX3_passHour 17 = .ok (.getfield 26, 3) := by decide +kernel
theorem dX3_passHour_20 : decode cX3_passHour 20 = .ok (.aload_n 0, 1) := by decide +kernel
theorem dX3_passHour_21 : decode cX3_passHour 21 = .ok (.iload_n 1, 1) := by decide +kernel
theorem dX3_passHour_22 : decode cX3_passHour 22 = .ok (.invokevirtual 124, 3) := by decide +kernel
theorem dX3_passHour_25 : decode cX3_passHour 25 = .ok (.invokevirtual 128, 3) := by decide +kernel
theorem dX3_passHour_28 : decode cX3_passHour 28 = .ok (.iinc 1 1, 3) := by decide +kernel
theorem dX3_passHour_31 : decode cX3_passHour 31 = .ok (.goto (-29), 3) := by decide +kernel
theorem dX3_passHour_34 : decode cX3_passHour 34 = .ok (.aload_n 0, 1) := by decide +kernel
theorem dX3_passHour_35 : decode cX3_passHour 35 = .ok (.iconst 0, 1) := by decide +kernel
theorem dX3_passHour_36 : decode cX3_passHour 36 = .ok (.aload_n 0, 1) := by decide +kernel
theorem dX3_passHour_37 : decode cX3_passHour 37 = .ok (.getfield 26, 3) := by decide +kernel
theorem dX3_passHour_40 : decode cX3_passHour 40 = .ok (.iconst 1, 1) := by decide +kernel
theorem dX3_passHour_41 : decode cX3_passHour 41 = .ok (.isub, 1) := by decide +kernel
theorem dX3_passHour_42 : decode cX3_passHour 42 = .ok (.invokestatic 132, 3) := by decide +kernel
theorem dX3_passHour_45 : decode cX3_passHour 45 = .ok (.putfield 26, 3) := by decide +kernel
theorem dX3_passHour_48 : decode cX3_passHour 48 = .ok (.aload_n 0, 1) := by decide +kernel
theorem dX3_passHour_49 : decode cX3_passHour 49 = .ok (.dup, 1) := by decide +kernel
theorem dX3_passHour_50 : decode cX3_passHour 50 = .ok (.getfield 32, 3) := by decide +kernel
theorem dX3_passHour_53 : decode cX3_passHour 53 = .ok (.iconst 1, 1) := by decide +kernel
theorem dX3_passHour_54 : decode cX3_passHour 54 = .ok (.iadd, 1) := by decide +kernel
theorem dX3_passHour_55 : decode cX3_passHour 55 = .ok (.putfield 32, 3) := by decide +kernel
theorem dX3_passHour_58 : decode cX3_passHour 58 = .ok (.return_, 1) := by decide +kernel
theorem dX4_init_0 : decode cX4_init 0 = .ok (.aload_n 0, 1) := by decide +kernel
theorem dX4_init_1 : decode cX4_init 1 = .ok (.invokespecial 3, 3) := by decide +kernel
theorem dX4_init_4 : decode cX4_init 4 = .ok (.aload_n 0, 1) := by decide +kernel
theorem dX4_init_5 : decode cX4_init 5 = .ok (.bipush 14, 2) := by decide +kernel
theorem dX4_init_7 : decode cX4_init 7 = .ok (.newarray .char, 2) := by decide +kernel
theorem dX4_init_9 : decode cX4_init 9 = .ok (.putfield 9, 3) := by decide +kernel
theorem dX4_init_12 : decode cX4_init 12 = .ok (.return_, 1) := by decide +kernel
theorem dX4_empty_0 : decode cX4_empty 0 = .ok (.aload_n 0, 1) := by decide +kernel
theorem dX4_empty_1 : decode cX4_empty 1 = .ok (.iconst 0, 1) := by decide +kernel
theorem dX4_empty_2 : decode cX4_empty 2 = .ok (.putfield 15, 3) := by decide +kernel
theorem dX4_empty_5 : decode cX4_empty 5 = .ok (.return_, 1) := by decide +kernel
theorem dX4_add_0 : decode cX4_add 0 = .ok (.aload_n 0, 1) := by decide +kernel
theorem dX4_add_1 : decode cX4_add 1 = .ok (.getfield 15, 3) := by decide +kernel
theorem dX4_add_4 : decode cX4_add 4 = .ok (.aload_n 0, 1) := by decide +kernel
theorem dX4_add_5 : decode cX4_add 5 = .ok (.getfield 9, 3) := by decide +kernel
theorem dX4_add_8 : decode cX4_add 8 = .ok (.arraylength, 1) := by decide +kernel
theorem dX4_add_9 : decode cX4_add 9 = .ok (.if_icmp .ge 23, 3) := by decide +kernel
theorem dX4_add_12 : decode cX4_add 12 = .ok (.aload_n 0, 1) := by decide +kernel
theorem dX4_add_13 : decode cX4_add 13 = .ok (.getfield 9, 3) := by decide +kernel
theorem dX4_add_16 : decode cX4_add 16 = .ok (.aload_n 0, 1) := by decide +kernel
theorem dX4_add_17 : decode cX4_add 17 = .ok (.getfield 15, 3) := by decide +kernel
theorem dX4_add_20 : decode cX4_add 20 = .ok (.iload_n 1, 1) := by decide +kernel
theorem dX4_add_21 : decode cX4_add 21 = .ok (.castore, 1) := by decide +kernel
theorem dX4_add_22 : decode cX4_add 22 = .ok (.aload_n 0, 1) := by decide +kernel
theorem dX4_add_23 : decode cX4_add 23 = .ok (.dup, 1) := by decide +kernel
theorem dX4_add_24 : decode cX4_add 24 = .ok (.getfield 15, 3) := by decide +kernel
theorem dX4_add_27 : decode cX4_add 27 = .ok (.iconst 1, 1) := by decide +kernel
theorem dX4_add_28 : decode cX4_add 28 = .ok (.iadd, 1) := by decide +kernel
theorem dX4_add_29 : decode cX4_add 29 = .ok (.putfield 15, 3) := by decide +kernel
theorem dX4_add_32 : decode cX4_add 32 = .ok (.return_, 1) := by decide +kernel
theorem dX4_addNumber_0 : decode cX4_addNumber 0 = .ok (.iload_n 1, 1) := by decide +kernel
theorem dX4_addNumber_1 : decode cX4_addNumber 1 = .ok (.bipush 9, 2) := by decide +kernel
theorem dX4_addNumber_3 : decode cX4_addNumber 3 = .ok (.if_icmp .le 15, 3) := by decide +kernel
theorem dX4_addNumber_6 : decode cX4_addNumber 6 = .ok (.aload_n 0, 1) := by decide +kernel
theorem dX4_addNumber_7 : decode cX4_addNumber 7 = .ok (.bipush 48, 2) := by decide +kernel
theorem dX4_addNumber_9 : decode cX4_addNumber 9 = .ok (.iload_n 1, 1) := by decide +kernel
theorem dX4_addNumber_10 : decode cX4_addNumber 10 = .ok (.bipush 10, 2) := by decide +kernel
theorem dX4_addNumber_12 : decode cX4_addNumber 12 = .ok (.idiv, 1) := by decide +kernel
theorem dX4_addNumber_13 : decode cX4_addNumber 13 = .ok (.iadd, 1) := by decide +kernel
theorem dX4_addNumber_14 : decode cX4_addNumber 14 = .ok (.i2c, 1) := by decide +kernel
theorem dX4_addNumber_15 : decode cX4_addNumber 15 = .ok (.invokevirtual 19, 3) := by decide +kernel
theorem dX4_addNumber_18 : decode cX4_addNumber 18 = .ok (.aload_n 0, 1) := by decide +kernel
theorem dX4_addNumber_19 : decode cX4_addNumber 19 = .ok (.bipush 48, 2) := by decide +kernel
theorem dX4_addNumber_21 : decode cX4_addNumber 21 = .ok (.iload_n 1, 1) := by decide +kernel
theorem dX4_addNumber_22 : decode cX4_addNumber 22 = .ok (.bipush 10, 2) := by decide +kernel
theorem dX4_addNumber_24 : decode cX4_addNumber 24 = .ok (.irem, 1) := by decide +kernel
theorem dX4_addNumber_25 : decode cX4_addNumber 25 = .ok (.iadd, 1) := by decide +kernel
theorem dX4_addNumber_26 : decode cX4_addNumber 26 = .ok (.i2c, 1) := by decide +kernel
theorem dX4_addNumber_27 : decode cX4_addNumber 27 = .ok (.invokevirtual 19, 3) := by decide +kernel
theorem dX4_addNumber_30 : decode cX4_addNumber 30 = .ok (.return_, 1) := by decide +kernel
theorem dX4_addSide_0 : decode cX4_addSide 0 = .ok (.aload_n 0, 1) := by decide +kernel
theorem dX4_addSide_1 : decode cX4_addSide 1 = .ok (.bipush 47, 2) := by decide +kernel
theorem dX4_addSide_3 : decode cX4_addSide 3 = .ok (.invokevirtual 19, 3) := by decide +kernel
theorem dX4_addSide_6 : decode cX4_addSide 6 = .ok (.aload_n 0, 1) := by decide +kernel
theorem dX4_addSide_7 : decode cX4_addSide 7 = .ok (.aload_n 1, 1) := by decide +kernel
theorem dX4_addSide_8 : decode cX4_addSide 8 = .ok (.getfield 23, 3) := by decide +kernel
theorem dX4_addSide_11 : decode cX4_addSide 11 = .ok (.invokevirtual 28, 3) := by decide +kernel
theorem dX4_addSide_14 : decode cX4_addSide 14 = .ok (.aload_n 0, 1) := by decide +kernel
theorem dX4_addSide_15 : decode cX4_addSide 15 = .ok (.bipush 126, 2) := by decide +kernel
theorem dX4_addSide_17 : decode cX4_addSide 17 = .ok (.invokevirtual 19, 3) := by decide +kernel
theorem dX4_addSide_20 : decode cX4_addSide 20 = .ok (.aload_n 0, 1) := by decide +kernel
theorem dX4_addSide_21 : decode cX4_addSide 21 = .ok (.aload_n 1, 1) := by decide +kernel
theorem dX4_addSide_22 : decode cX4_addSide 22 = .ok (.getfield 32, 3) := by decide +kernel
theorem dX4_addSide_25 : decode cX4_addSide 25 = .ok (.invokevirtual 28, 3) := by decide +kernel
theorem dX4_addSide_28 : decode cX4_addSide 28 = .ok (.iload_n 2, 1) := by decide +kernel
theorem dX4_addSide_29 : decode cX4_addSide 29 = .ok (.ifCond .eq 9, 3) := by decide +kernel
theorem dX4_addSide_32 : decode cX4_addSide 32 = .ok (.aload_n 0, 1) := by decide +kernel
theorem dX4_addSide_33 : decode cX4_addSide 33 = .ok (.bipush 33, 2) := by decide +kernel
theorem dX4_addSide_35 : decode cX4_addSide 35 = .ok (.invokevirtual 19, 3) := by decide +kernel
theorem dX4_addSide_38 : decode cX4_addSide 38 = .ok (.return_, 1) := by decide +kernel
theorem dX4_signAt_0 : decode cX4_signAt 0 = .ok (.iload_n 1, 1) := by decide +kernel
theorem dX4_signAt_1 : decode cX4_signAt 1 = .ok (.ifCond .lt 21, 3) := by decide +kernel
theorem dX4_signAt_4 : decode cX4_signAt 4 = .ok (.iload_n 1, 1) := by decide +kernel
theorem dX4_signAt_5 : decode cX4_signAt 5 = .ok (.aload_n 0, 1) := by decide +kernel
theorem dX4_signAt_6 : decode cX4_signAt 6 = .ok (.getfield 9, 3) := by decide +kernel
theorem dX4_signAt_9 : decode cX4_signAt 9 = .ok (.arraylength, 1) := by decide +kernel
theorem dX4_signAt_10 : decode cX4_signAt 10 = .ok (.if_icmp .ge 12, 3) := by decide +kernel
theorem dX4_signAt_13 : decode cX4_signAt 13 = .ok (.aload_n 0, 1) := by decide +kernel
theorem dX4_signAt_14 : decode cX4_signAt 14 = .ok (.getfield 9, 3) := by decide +kernel
theorem dX4_signAt_17 : decode cX4_signAt 17 = .ok (.iload_n 1, 1) := by decide +kernel
theorem dX4_signAt_18 : decode cX4_signAt 18 = .ok (.caload, 1) := by decide +kernel
theorem dX4_signAt_19 : decode cX4_signAt 19 = .ok (.goto 4, 3) := by decide +kernel
theorem dX4_signAt_22 : decode cX4_signAt 22 = .ok (.iconst 0, 1) := by decide +kernel
theorem dX4_signAt_23 : decode cX4_signAt 23 = .ok (.ireturn, 1) := by decide +kernel
theorem dX5_init_0 : decode cX5_init 0 = .ok (.aload_n 0, 1) := by decide +kernel
theorem dX5_init_1 : decode cX5_init 1 = .ok (.invokespecial 3, 3) := by decide +kernel
theorem dX5_init_4 : decode cX5_init 4 = .ok (.return_, 1) := by decide +kernel
theorem dX5_keep_0 : decode cX5_keep 0 = .ok (.aload_n 0, 1) := by decide +kernel
theorem dX5_keep_1 : decode cX5_keep 1 = .ok (.iconst 1, 1) := by decide +kernel
theorem dX5_keep_2 : decode cX5_keep 2 = .ok (.putfield 9, 3) := by decide +kernel
theorem dX5_keep_5 : decode cX5_keep 5 = .ok (.aload_n 0, 1) := by decide +kernel
theorem dX5_keep_6 : decode cX5_keep 6 = .ok (.iload_n 1, 1) := by decide +kernel
theorem dX5_keep_7 : decode cX5_keep 7 = .ok (.putfield 15, 3) := by decide +kernel
theorem dX5_keep_10 : decode cX5_keep 10 = .ok (.aload_n 0, 1) := by decide +kernel
theorem dX5_keep_11 : decode cX5_keep 11 = .ok (.iload_n 2, 1) := by decide +kernel
theorem dX5_keep_12 : decode cX5_keep 12 = .ok (.putfield 19, 3) := by decide +kernel
theorem dX5_keep_15 : decode cX5_keep 15 = .ok (.aload_n 0, 1) := by decide +kernel
theorem dX5_keep_16 : decode cX5_keep 16 = .ok (.aload_n 0, 1) := by decide +kernel
theorem dX5_keep_17 : decode cX5_keep 17 = .ok (.getfield 22, 3) := by decide +kernel
theorem dX5_keep_20 : decode cX5_keep 20 = .ok (.putfield 25, 3) := by decide +kernel
theorem dX5_keep_23 : decode cX5_keep 23 = .ok (.iconst (-1), 1) := by decide +kernel
theorem dX5_keep_24 : decode cX5_keep 24 = .ok (.ireturn, 1) := by decide +kernel
theorem dX5_number_0 : decode cX5_number 0 = .ok (.iload_n 1, 1) := by decide +kernel
theorem dX5_number_1 : decode cX5_number 1 = .ok (.lookupswitch 37 #[(0, 27), (1, 32)], 27) := by decide +kernel
theorem dX5_number_28 : decode cX5_number 28 = .ok (.aload_n 0, 1) := by decide +kernel
theorem dX5_number_29 : decode cX5_number 29 = .ok (.getfield 15, 3) := by decide +kernel
theorem dX5_number_32 : decode cX5_number 32 = .ok (.ireturn, 1) := by decide +kernel
theorem dX5_number_33 : decode cX5_number 33 = .ok (.aload_n 0, 1) := by decide +kernel
theorem dX5_number_34 : decode cX5_number 34 = .ok (.getfield 19, 3) := by decide +kernel
theorem dX5_number_37 : decode cX5_number 37 = .ok (.ireturn, 1) := by decide +kernel
theorem dX5_number_38 : decode cX5_number 38 = .ok (.aload_n 0, 1) := by decide +kernel
theorem dX5_number_39 : decode cX5_number 39 = .ok (.getfield 25, 3) := by decide +kernel
theorem dX5_number_42 : decode cX5_number 42 = .ok (.ireturn, 1) := by decide +kernel
theorem dX6_init_0 : decode cX6_init 0 = .ok (.aload_n 0, 1) := by decide +kernel
theorem dX6_init_1 : decode cX6_init 1 = .ok (.invokespecial 3, 3) := by decide +kernel
theorem dX6_init_4 : decode cX6_init 4 = .ok (.aload_n 0, 1) := by decide +kernel
theorem dX6_init_5 : decode cX6_init 5 = .ok (.bipush 60, 2) := by decide +kernel
theorem dX6_init_7 : decode cX6_init 7 = .ok (.newarray .char, 2) := by decide +kernel
theorem dX6_init_9 : decode cX6_init 9 = .ok (.putfield 9, 3) := by decide +kernel
theorem dX6_init_12 : decode cX6_init 12 = .ok (.aload_n 0, 1) := by decide +kernel
theorem dX6_init_13 : decode cX6_init 13 = .ok (.iconst (-1), 1) := by decide +kernel
theorem dX6_init_14 : decode cX6_init 14 = .ok (.putfield 15, 3) := by decide +kernel
theorem dX6_init_17 : decode cX6_init 17 = .ok (.return_, 1) := by decide +kernel
theorem dX6_add_0 : decode cX6_add 0 = .ok (.aload_n 0, 1) := by decide +kernel
theorem dX6_add_1 : decode cX6_add 1 = .ok (.getfield 19, 3) := by decide +kernel
theorem dX6_add_4 : decode cX6_add 4 = .ok (.aload_n 0, 1) := by decide +kernel
theorem dX6_add_5 : decode cX6_add 5 = .ok (.getfield 9, 3) := by decide +kernel
theorem dX6_add_8 : decode cX6_add 8 = .ok (.arraylength, 1) := by decide +kernel
theorem dX6_add_9 : decode cX6_add 9 = .ok (.if_icmp .ge 23, 3) := by decide +kernel
theorem dX6_add_12 : decode cX6_add 12 = .ok (.aload_n 0, 1) := by decide +kernel
theorem dX6_add_13 : decode cX6_add 13 = .ok (.getfield 9, 3) := by decide +kernel
theorem dX6_add_16 : decode cX6_add 16 = .ok (.aload_n 0, 1) := by decide +kernel
theorem dX6_add_17 : decode cX6_add 17 = .ok (.getfield 19, 3) := by decide +kernel
theorem dX6_add_20 : decode cX6_add 20 = .ok (.iload_n 1, 1) := by decide +kernel
theorem dX6_add_21 : decode cX6_add 21 = .ok (.castore, 1) := by decide +kernel
theorem dX6_add_22 : decode cX6_add 22 = .ok (.aload_n 0, 1) := by decide +kernel
theorem dX6_add_23 : decode cX6_add 23 = .ok (.dup, 1) := by decide +kernel
theorem dX6_add_24 : decode cX6_add 24 = .ok (.getfield 19, 3) := by decide +kernel
theorem dX6_add_27 : decode cX6_add 27 = .ok (.iconst 1, 1) := by decide +kernel
theorem dX6_add_28 : decode cX6_add 28 = .ok (.iadd, 1) := by decide +kernel
theorem dX6_add_29 : decode cX6_add 29 = .ok (.putfield 19, 3) := by decide +kernel
theorem dX6_add_32 : decode cX6_add 32 = .ok (.return_, 1) := by decide +kernel
theorem dX6_empty_0 : decode cX6_empty 0 = .ok (.aload_n 0, 1) := by decide +kernel
theorem dX6_empty_1 : decode cX6_empty 1 = .ok (.iconst 0, 1) := by decide +kernel
theorem dX6_empty_2 : decode cX6_empty 2 = .ok (.putfield 19, 3) := by decide +kernel
theorem dX6_empty_5 : decode cX6_empty 5 = .ok (.return_, 1) := by decide +kernel
theorem dX6_rewind_0 : decode cX6_rewind 0 = .ok (.aload_n 0, 1) := by decide +kernel
theorem dX6_rewind_1 : decode cX6_rewind 1 = .ok (.iconst 0, 1) := by decide +kernel
theorem dX6_rewind_2 : decode cX6_rewind 2 = .ok (.putfield 22, 3) := by decide +kernel
theorem dX6_rewind_5 : decode cX6_rewind 5 = .ok (.return_, 1) := by decide +kernel
theorem dX6_pass_0 : decode cX6_pass 0 = .ok (.aload_n 0, 1) := by decide +kernel
theorem dX6_pass_1 : decode cX6_pass 1 = .ok (.dup, 1) := by decide +kernel
theorem dX6_pass_2 : decode cX6_pass 2 = .ok (.getfield 22, 3) := by decide +kernel
theorem dX6_pass_5 : decode cX6_pass 5 = .ok (.iconst 1, 1) := by decide +kernel
theorem dX6_pass_6 : decode cX6_pass 6 = .ok (.iadd, 1) := by decide +kernel
theorem dX6_pass_7 : decode cX6_pass 7 = .ok (.putfield 22, 3) := by decide +kernel
theorem dX6_pass_10 : decode cX6_pass 10 = .ok (.return_, 1) := by decide +kernel
theorem dX6_examine_0 : decode cX6_examine 0 = .ok (.aload_n 0, 1) := by decide +kernel
theorem dX6_examine_1 : decode cX6_examine 1 = .ok (.invokevirtual 25, 3) := by decide +kernel
theorem dX6_examine_4 : decode cX6_examine 4 = .ok (.aload_n 0, 1) := by decide +kernel
theorem dX6_examine_5 : decode cX6_examine 5 = .ok (.aload_n 0, 1) := by decide +kernel
theorem dX6_examine_6 : decode cX6_examine 6 = .ok (.invokevirtual 28, 3) := by decide +kernel
theorem dX6_examine_9 : decode cX6_examine 9 = .ok (.putfield 15, 3) := by decide +kernel
theorem dX6_examine_12 : decode cX6_examine 12 = .ok (.return_, 1) := by decide +kernel
theorem dX6_findFault_0 : decode cX6_findFault 0 = .ok (.iconst 1, 1) := by decide +kernel
theorem dX6_findFault_1 : decode cX6_findFault 1 = .ok (.istore_n 1, 1) := by decide +kernel
theorem dX6_findFault_2 : decode cX6_findFault 2 = .ok (.iload_n 1, 1) := by decide +kernel
theorem dX6_findFault_3 : decode cX6_findFault 3 = .ok (.bipush 60, 2) := by decide +kernel
theorem dX6_findFault_5 : decode cX6_findFault 5 = .ok (.if_icmp .gt 57, 3) := by decide +kernel
theorem dX6_findFault_8 : decode cX6_findFault 8 = .ok (.aload_n 0, 1) := by decide +kernel
theorem dX6_findFault_9 : decode cX6_findFault 9 = .ok (.invokevirtual 32, 3) := by decide +kernel
theorem dX6_findFault_12 : decode cX6_findFault 12 = .ok (.ifCond .ne 8, 3) := by decide +kernel
theorem dX6_findFault_15 : decode cX6_findFault 15 = .ok (.aload_n 0, 1) := by decide +kernel
theorem dX6_findFault_16 : decode cX6_findFault 16 = .ok (.getfield 22, 3) := by decide +kernel
theorem dX6_findFault_19 : decode cX6_findFault 19 = .ok (.ireturn, 1) := by decide +kernel
theorem dX6_findFault_20 : decode cX6_findFault 20 = .ok (.aload_n 0, 1) := by decide +kernel
theorem dX6_findFault_21 : decode cX6_findFault 21 = .ok (.getfield 22, 3) := by decide +kernel
theorem dX6_findFault_24 : decode cX6_findFault 24 = .ok (.aload_n 0, 1) := by decide +kernel
