theorem dX0_init_0 : decode cX0_init 0 = .ok (.aload_n 0, 1) := by decide +kernel
theorem dX0_init_1 : decode cX0_init 1 = .ok (.invokespecial 3, 3) := by decide +kernel
theorem dX0_init_4 : decode cX0_init 4 = .ok (.aload_n 0, 1) := by decide +kernel
theorem dX0_init_5 : decode cX0_init 5 = .ok (.iconst 5, 1) := by decide +kernel
theorem dX0_init_6 : decode cX0_init 6 = .ok (.anewarray 9, 3) := by decide +kernel
theorem dX0_init_9 : decode cX0_init 9 = .ok (.putfield 11, 3) := by decide +kernel
theorem dX0_init_12 : decode cX0_init 12 = .ok (.aload_n 0, 1) := by decide +kernel
theorem dX0_init_13 : decode cX0_init 13 = .ok (.new 9, 3) := by decide +kernel
theorem dX0_init_16 : decode cX0_init 16 = .ok (.dup, 1) := by decide +kernel
theorem dX0_init_17 : decode cX0_init 17 = .ok (.invokespecial 17, 3) := by decide +kernel
theorem dX0_init_20 : decode cX0_init 20 = .ok (.putfield 18, 3) := by decide +kernel
theorem dX0_init_23 : decode cX0_init 23 = .ok (.aload_n 0, 1) := by decide +kernel
theorem dX0_init_24 : decode cX0_init 24 = .ok (.iconst 0, 1) := by decide +kernel
theorem dX0_init_25 : decode cX0_init 25 = .ok (.putfield 22, 3) := by decide +kernel
theorem dX0_init_28 : decode cX0_init 28 = .ok (.aload_n 0, 1) := by decide +kernel
theorem dX0_init_29 : decode cX0_init 29 = .ok (.bipush 30, 2) := by decide +kernel
theorem dX0_init_31 : decode cX0_init 31 = .ok (.putfield 26, 3) := by decide +kernel
theorem dX0_init_34 : decode cX0_init 34 = .ok (.aload_n 0, 1) := by decide +kernel
theorem dX0_init_35 : decode cX0_init 35 = .ok (.iconst 1, 1) := by decide +kernel
theorem dX0_init_36 : decode cX0_init 36 = .ok (.putfield 29, 3) := by decide +kernel
theorem dX0_init_39 : decode cX0_init 39 = .ok (.iconst 0, 1) := by decide +kernel
theorem dX0_init_40 : decode cX0_init 40 = .ok (.istore_n 1, 1) := by decide +kernel
theorem dX0_init_41 : decode cX0_init 41 = .ok (.iload_n 1, 1) := by decide +kernel
theorem dX0_init_42 : decode cX0_init 42 = .ok (.aload_n 0, 1) := by decide +kernel
theorem dX0_init_43 : decode cX0_init 43 = .ok (.getfield 11, 3) := by decide +kernel
theorem dX0_init_46 : decode cX0_init 46 = .ok (.arraylength, 1) := by decide +kernel
theorem dX0_init_47 : decode cX0_init 47 = .ok (.if_icmp .ge 22, 3) := by decide +kernel
theorem dX0_init_50 : decode cX0_init 50 = .ok (.aload_n 0, 1) := by decide +kernel
theorem dX0_init_51 : decode cX0_init 51 = .ok (.getfield 11, 3) := by decide +kernel
theorem dX0_init_54 : decode cX0_init 54 = .ok (.iload_n 1, 1) := by decide +kernel
theorem dX0_init_55 : decode cX0_init 55 = .ok (.new 9, 3) := by decide +kernel
theorem dX0_init_58 : decode cX0_init 58 = .ok (.dup, 1) := by decide +kernel
theorem dX0_init_59 : decode cX0_init 59 = .ok (.invokespecial 17, 3) := by decide +kernel
theorem dX0_init_62 : decode cX0_init 62 = .ok (.aastore, 1) := by decide +kernel
theorem dX0_init_63 : decode cX0_init 63 = .ok (.iinc 1 1, 3) := by decide +kernel
theorem dX0_init_66 : decode cX0_init 66 = .ok (.goto (-25), 3) := by decide +kernel
theorem dX0_init_69 : decode cX0_init 69 = .ok (.return_, 1) := by decide +kernel
theorem dX0_has_0 : decode cX0_has 0 = .ok (.iload_n 1, 1) := by decide +kernel
theorem dX0_has_1 : decode cX0_has 1 = .ok (.ifCond .lt 15, 3) := by decide +kernel
theorem dX0_has_4 : decode cX0_has 4 = .ok (.iload_n 1, 1) := by decide +kernel
theorem dX0_has_5 : decode cX0_has 5 = .ok (.aload_n 0, 1) := by decide +kernel
theorem dX0_has_6 : decode cX0_has 6 = .ok (.getfield 22, 3) := by decide +kernel
theorem dX0_has_9 : decode cX0_has 9 = .ok (.if_icmp .ge 7, 3) := by decide +kernel
theorem dX0_has_12 : decode cX0_has 12 = .ok (.iconst 1, 1) := by decide +kernel
theorem dX0_has_13 : decode cX0_has 13 = .ok (.goto 4, 3) := by decide +kernel
theorem dX0_has_16 : decode cX0_has 16 = .ok (.iconst 0, 1) := by decide +kernel
theorem dX0_has_17 : decode cX0_has 17 = .ok (.ireturn, 1) := by decide +kernel
theorem dX0_onGround_0 : decode cX0_onGround 0 = .ok (.iload_n 1, 1) := by decide +kernel
theorem dX0_onGround_1 : decode cX0_onGround 1 = .ok (.ifCond .lt 15, 3) := by decide +kernel
theorem dX0_onGround_4 : decode cX0_onGround 4 = .ok (.iload_n 1, 1) := by decide +kernel
theorem dX0_onGround_5 : decode cX0_onGround 5 = .ok (.aload_n 0, 1) := by decide +kernel
theorem dX0_onGround_6 : decode cX0_onGround 6 = .ok (.getfield 26, 3) := by decide +kernel
theorem dX0_onGround_9 : decode cX0_onGround 9 = .ok (.if_icmp .gt 7, 3) := by decide +kernel
theorem dX0_onGround_12 : decode cX0_onGround 12 = .ok (.iconst 1, 1) := by decide +kernel
theorem dX0_onGround_13 : decode cX0_onGround 13 = .ok (.goto 4, 3) := by decide +kernel
theorem dX0_onGround_16 : decode cX0_onGround 16 = .ok (.iconst 0, 1) := by decide +kernel
theorem dX0_onGround_17 : decode cX0_onGround 17 = .ok (.ireturn, 1) := by decide +kernel
theorem dX0_who_0 : decode cX0_who 0 = .ok (.iload_n 1, 1) := by decide +kernel
theorem dX0_who_1 : decode cX0_who 1 = .ok (.ifCond .lt 21, 3) := by decide +kernel
theorem dX0_who_4 : decode cX0_who 4 = .ok (.iload_n 1, 1) := by decide +kernel
theorem dX0_who_5 : decode cX0_who 5 = .ok (.aload_n 0, 1) := by decide +kernel
theorem dX0_who_6 : decode cX0_who 6 = .ok (.getfield 11, 3) := by decide +kernel
theorem dX0_who_9 : decode cX0_who 9 = .ok (.arraylength, 1) := by decide +kernel
theorem dX0_who_10 : decode cX0_who 10 = .ok (.if_icmp .ge 12, 3) := by decide +kernel
theorem dX0_who_13 : decode cX0_who 13 = .ok (.aload_n 0, 1) := by decide +kernel
theorem dX0_who_14 : decode cX0_who 14 = .ok (.getfield 11, 3) := by decide +kernel
theorem dX0_who_17 : decode cX0_who 17 = .ok (.iload_n 1, 1) := by decide +kernel
theorem dX0_who_18 : decode cX0_who 18 = .ok (.aaload, 1) := by decide +kernel
theorem dX0_who_19 : decode cX0_who 19 = .ok (.goto 4, 3) := by decide +kernel
theorem dX0_who_22 : decode cX0_who 22 = .ok (.aconst_null, 1) := by decide +kernel
theorem dX0_who_23 : decode cX0_who 23 = .ok (.astore_n 2, 1) := by decide +kernel
theorem dX0_who_24 : decode cX0_who 24 = .ok (.aload_n 2, 1) := by decide +kernel
theorem dX0_who_25 : decode cX0_who 25 = .ok (.ifnonnull 10, 3) := by decide +kernel
theorem dX0_who_28 : decode cX0_who 28 = .ok (.aload_n 0, 1) := by decide +kernel
theorem dX0_who_29 : decode cX0_who 29 = .ok (.getfield 18, 3) := by decide +kernel
theorem dX0_who_32 : decode cX0_who 32 = .ok (.goto 4, 3) := by decide +kernel
theorem dX0_who_35 : decode cX0_who 35 = .ok (.aload_n 2, 1) := by decide +kernel
theorem dX0_who_36 : decode cX0_who 36 = .ok (.areturn, 1) := by decide +kernel
theorem dX0_empty_0 : decode cX0_empty 0 = .ok (.aload_n 0, 1) := by decide +kernel
theorem dX0_empty_1 : decode cX0_empty 1 = .ok (.iconst 0, 1) := by decide +kernel
theorem dX0_empty_2 : decode cX0_empty 2 = .ok (.putfield 22, 3) := by decide +kernel
theorem dX0_empty_5 : decode cX0_empty 5 = .ok (.aload_n 0, 1) := by decide +kernel
theorem dX0_empty_6 : decode cX0_empty 6 = .ok (.bipush 30, 2) := by decide +kernel
theorem dX0_empty_8 : decode cX0_empty 8 = .ok (.putfield 26, 3) := by decide +kernel
theorem dX0_empty_11 : decode cX0_empty 11 = .ok (.aload_n 0, 1) := by decide +kernel
theorem dX0_empty_12 : decode cX0_empty 12 = .ok (.iconst 1, 1) := by decide +kernel
theorem dX0_empty_13 : decode cX0_empty 13 = .ok (.putfield 29, 3) := by decide +kernel
theorem dX0_empty_16 : decode cX0_empty 16 = .ok (.return_, 1) := by decide +kernel
theorem dX0_addPlayer_0 : decode cX0_addPlayer 0 = .ok (.aload_n 0, 1) := by decide +kernel
theorem dX0_addPlayer_1 : decode cX0_addPlayer 1 = .ok (.getfield 22, 3) := by decide +kernel
theorem dX0_addPlayer_4 : decode cX0_addPlayer 4 = .ok (.iconst 5, 1) := by decide +kernel
theorem dX0_addPlayer_5 : decode cX0_addPlayer 5 = .ok (.if_icmp .lt 4, 3) := by decide +kernel
theorem dX0_addPlayer_8 : decode cX0_addPlayer 8 = .ok (.return_, 1) := by decide +kernel
theorem dX0_addPlayer_9 : decode cX0_addPlayer 9 = .ok (.aload_n 0, 1) := by decide +kernel
theorem dX0_addPlayer_10 : decode cX0_addPlayer 10 = .ok (.aload_n 0, 1) := by decide +kernel
theorem dX0_addPlayer_11 : decode cX0_addPlayer 11 = .ok (.getfield 22, 3) := by decide +kernel
theorem dX0_addPlayer_14 : decode cX0_addPlayer 14 = .ok (.invokevirtual 32, 3) := by decide +kernel
theorem dX0_addPlayer_17 : decode cX0_addPlayer 17 = .ok (.astore 6, 2) := by decide +kernel
theorem dX0_addPlayer_19 : decode cX0_addPlayer 19 = .ok (.aload 6, 2) := by decide +kernel
theorem dX0_addPlayer_21 : decode cX0_addPlayer 21 = .ok (.iload_n 1, 1) := by decide +kernel
theorem dX0_addPlayer_22 : decode cX0_addPlayer 22 = .ok (.iload_n 2, 1) := by decide +kernel
theorem dX0_addPlayer_23 : decode cX0_addPlayer 23 = .ok (.iload_n 3, 1) := by decide +kernel
theorem dX0_addPlayer_24 : decode cX0_addPlayer 24 = .ok (.iload 4, 2) := by decide +kernel
theorem dX0_addPlayer_26 : decode cX0_addPlayer 26 = .ok (.iload 5, 2) := by decide +kernel
theorem dX0_addPlayer_28 : decode cX0_addPlayer 28 = .ok (.invokevirtual 36, 3) := by decide +kernel
theorem dX0_addPlayer_31 : decode cX0_addPlayer 31 = .ok (.aload 6, 2) := by decide +kernel
theorem dX0_addPlayer_33 : decode cX0_addPlayer 33 = .ok (.getfield 40, 3) := by decide +kernel
theorem dX0_addPlayer_36 : decode cX0_addPlayer 36 = .ok (.bipush (-4), 2) := by decide +kernel
theorem dX0_addPlayer_38 : decode cX0_addPlayer 38 = .ok (.iconst 0, 1) := by decide +kernel
theorem dX0_addPlayer_39 : decode cX0_addPlayer 39 = .ok (.iconst 1, 1) := by decide +kernel
theorem dX0_addPlayer_40 : decode cX0_addPlayer 40 = .ok (.invokevirtual 44, 3) := by decide +kernel
theorem dX0_addPlayer_43 : decode cX0_addPlayer 43 = .ok (.aload 6, 2) := by decide +kernel
theorem dX0_addPlayer_45 : decode cX0_addPlayer 45 = .ok (.getfield 40, 3) := by decide +kernel
theorem dX0_addPlayer_48 : decode cX0_addPlayer 48 = .ok (.iconst 0, 1) := by decide +kernel
theorem dX0_addPlayer_49 : decode cX0_addPlayer 49 = .ok (.putfield 50, 3) := by decide +kernel
theorem dX0_addPlayer_52 : decode cX0_addPlayer 52 = .ok (.aload_n 0, 1) := by decide +kernel
theorem dX0_addPlayer_53 : decode cX0_addPlayer 53 = .ok (.dup, 1) := by decide +kernel
theorem dX0_addPlayer_54 : decode cX0_addPlayer 54 = .ok (.getfield 22, 3) := by decide +kernel
theorem dX0_addPlayer_57 : decode cX0_addPlayer 57 = .ok (.iconst 1, 1) := by decide +kernel
theorem dX0_addPlayer_58 : decode cX0_addPlayer 58 = .ok (.iadd, 1) := by decide +kernel
theorem dX0_addPlayer_59 : decode cX0_addPlayer 59 = .ok (.putfield 22, 3) := by decide +kernel
theorem dX0_addPlayer_62 : decode cX0_addPlayer 62 = .ok (.return_, 1) := by decide +kernel
theorem dX0_tellUntoldCalls_0 : decode cX0_tellUntoldCalls 0 = .ok (.iconst 0, 1) := by decide +kernel
theorem dX0_tellUntoldCalls_1 : decode cX0_tellUntoldCalls 1 = .ok (.istore_n 1, 1) := by decide +kernel
theorem dX0_tellUntoldCalls_2 : decode cX0_tellUntoldCalls 2 = .ok (.iload_n 1, 1) := by decide +kernel
theorem dX0_tellUntoldCalls_3 : decode cX0_tellUntoldCalls 3 = .ok (.aload_n 0, 1) := by decide +kernel
theorem dX0_tellUntoldCalls_4 : decode cX0_tellUntoldCalls 4 = .ok (.getfield 22, 3) := by decide +kernel
theorem dX0_tellUntoldCalls_7 : decode cX0_tellUntoldCalls 7 = .ok (.if_icmp .ge 59, 3) := by decide +kernel
theorem dX0_tellUntoldCalls_10 : decode cX0_tellUntoldCalls 10 = .ok (.aload_n 0, 1) := by decide +kernel
theorem dX0_tellUntoldCalls_11 : decode cX0_tellUntoldCalls 11 = .ok (.iload_n 1, 1) := by decide +kernel
theorem dX0_tellUntoldCalls_12 : decode cX0_tellUntoldCalls 12 = .ok (.invokevirtual 32, 3) := by decide +kernel
theorem dX0_tellUntoldCalls_15 : decode cX0_tellUntoldCalls 15 = .ok (.getfield 40, 3) := by decide +kernel
theorem dX0_tellUntoldCalls_18 : decode cX0_tellUntoldCalls 18 = .ok (.astore_n 2, 1) := by decide +kernel
theorem dX0_tellUntoldCalls_19 : decode cX0_tellUntoldCalls 19 = .ok (.aload_n 2, 1) := by decide +kernel
theorem dX0_tellUntoldCalls_20 : decode cX0_tellUntoldCalls 20 = .ok (.getfield 53, 3) := by decide +kernel
theorem dX0_tellUntoldCalls_23 : decode cX0_tellUntoldCalls 23 = .ok (.bipush (-4), 2) := by decide +kernel
theorem dX0_tellUntoldCalls_25 : decode cX0_tellUntoldCalls 25 = .ok (.if_icmp .ne 35, 3) := by decide +kernel
theorem dX0_tellUntoldCalls_28 : decode cX0_tellUntoldCalls 28 = .ok (.iload_n 1, 1) := by decide +kernel
theorem dX0_tellUntoldCalls_29 : decode cX0_tellUntoldCalls 29 = .ok (.iconst 1, 1) := by decide +kernel
theorem dX0_tellUntoldCalls_30 : decode cX0_tellUntoldCalls 30 = .ok (.iadd, 1) := by decide +kernel
theorem dX0_tellUntoldCalls_31 : decode cX0_tellUntoldCalls 31 = .ok (.aload_n 0, 1) := by decide +kernel
theorem dX0_tellUntoldCalls_32 : decode cX0_tellUntoldCalls 32 = .ok (.getfield 22, 3) := by decide +kernel
theorem dX0_tellUntoldCalls_35 : decode cX0_tellUntoldCalls 35 = .ok (.if_icmp .ge 9, 3) := by decide +kernel
theorem dX0_tellUntoldCalls_38 : decode cX0_tellUntoldCalls 38 = .ok (.iload_n 1, 1) := by decide +kernel
theorem dX0_tellUntoldCalls_39 : decode cX0_tellUntoldCalls 39 = .ok (.iconst 1, 1) := by decide +kernel
theorem dX0_tellUntoldCalls_40 : decode cX0_tellUntoldCalls 40 = .ok (.iadd, 1) := by decide +kernel
theorem dX0_tellUntoldCalls_41 : decode cX0_tellUntoldCalls 41 = .ok (.goto 4, 3) := by decide +kernel
theorem dX0_tellUntoldCalls_44 : decode cX0_tellUntoldCalls 44 = .ok (.iconst 0, 1) := by decide +kernel
theorem dX0_tellUntoldCalls_45 : decode cX0_tellUntoldCalls 45 = .ok (.istore_n 3, 1) := by decide +kernel
theorem dX0_tellUntoldCalls_46 : decode cX0_tellUntoldCalls 46 = .ok (.aload_n 2, 1) := by decide +kernel
theorem dX0_tellUntoldCalls_47 : decode cX0_tellUntoldCalls 47 = .ok (.iload_n 3, 1) := by decide +kernel
theorem dX0_tellUntoldCalls_48 : decode cX0_tellUntoldCalls 48 = .ok (.aload_n 0, 1) := by decide +kernel
theorem dX0_tellUntoldCalls_49 : decode cX0_tellUntoldCalls 49 = .ok (.iload_n 3, 1) := by decide +kernel
theorem dX0_tellUntoldCalls_50 : decode cX0_tellUntoldCalls 50 = .ok (.invokevirtual 32, 3) := by decide +kernel
theorem dX0_tellUntoldCalls_53 : decode cX0_tellUntoldCalls 53 = .ok (.getfield 56, 3) := by decide +kernel
theorem dX0_tellUntoldCalls_56 : decode cX0_tellUntoldCalls 56 = .ok (.iconst 1, 1) := by decide +kernel
theorem dX0_tellUntoldCalls_57 : decode cX0_tellUntoldCalls 57 = .ok (.invokevirtual 44, 3) := by decide +kernel
theorem dX0_tellUntoldCalls_60 : decode cX0_tellUntoldCalls 60 = .ok (.iinc 1 1, 3) := by decide +kernel
theorem dX0_tellUntoldCalls_63 : decode cX0_tellUntoldCalls 63 = .ok (.goto (-61), 3) := by decide +kernel
theorem dX0_tellUntoldCalls_66 : decode cX0_tellUntoldCalls 66 = .ok (.return_, 1) := by decide +kernel
theorem dX0_canBePlayed_0 : decode cX0_canBePlayed 0 = .ok (.aload_n 0, 1) := by decide +kernel
theorem dX0_canBePlayed_1 : decode cX0_canBePlayed 1 = .ok (.getfield 22, 3) := by decide +kernel
theorem dX0_canBePlayed_4 : decode cX0_canBePlayed 4 = .ok (.iconst 2, 1) := by decide +kernel
theorem dX0_canBePlayed_5 : decode cX0_canBePlayed 5 = .ok (.if_icmp .ge 5, 3) := by decide +kernel
theorem dX0_canBePlayed_8 : decode cX0_canBePlayed 8 = .ok (.iconst 0, 1) := by decide +kernel
theorem dX0_canBePlayed_9 : decode cX0_canBePlayed 9 = .ok (.ireturn, 1) := by decide +kernel
theorem dX0_canBePlayed_10 : decode cX0_canBePlayed 10 = .ok (.iconst 0, 1) := by decide +kernel
theorem dX0_canBePlayed_11 : decode cX0_canBePlayed 11 = .ok (.istore_n 1, 1) := by decide +kernel
theorem dX0_canBePlayed_12 : decode cX0_canBePlayed 12 = .ok (.iload_n 1, 1) := by decide +kernel
theorem dX0_canBePlayed_13 : decode cX0_canBePlayed 13 = .ok (.aload_n 0, 1) := by decide +kernel
theorem dX0_canBePlayed_14 : decode cX0_canBePlayed 14 = .ok (.getfield 22, 3) := by decide +kernel
theorem dX0_canBePlayed_17 : decode cX0_canBePlayed 17 = .ok (.if_icmp .ge 44, 3) := by decide +kernel
theorem dX0_canBePlayed_20 : decode cX0_canBePlayed 20 = .ok (.aload_n 0, 1) := by decide +kernel
theorem dX0_canBePlayed_21 : decode cX0_canBePlayed 21 = .ok (.aload_n 0, 1) := by decide +kernel
theorem dX0_canBePlayed_22 : decode cX0_canBePlayed 22 = .ok (.iload_n 1, 1) := by decide +kernel
theorem dX0_canBePlayed_23 : decode cX0_canBePlayed 23 = .ok (.invokevirtual 32, 3) := by decide +kernel
theorem dX0_canBePlayed_26 : decode cX0_canBePlayed 26 = .ok (.getfield 56, 3) := by decide +kernel
theorem dX0_canBePlayed_29 : decode cX0_canBePlayed 29 = .ok (.invokevirtual 59, 3) := by decide +kernel
theorem dX0_canBePlayed_32 : decode cX0_canBePlayed 32 = .ok (.ifCond .eq 21, 3) := by decide +kernel
theorem dX0_canBePlayed_35 : decode cX0_canBePlayed 35 = .ok (.aload_n 0, 1) := by decide +kernel
theorem dX0_canBePlayed_36 : decode cX0_canBePlayed 36 = .ok (.aload_n 0, 1) := by decide +kernel
theorem dX0_canBePlayed_37 : decode cX0_canBePlayed 37 = .ok (.iload_n 1, 1) := by decide +kernel
theorem dX0_canBePlayed_38 : decode cX0_canBePlayed 38 = .ok (.invokevirtual 32, 3) := by decide +kernel
theorem dX0_canBePlayed_41 : decode cX0_canBePlayed 41 = .ok (.getfield 40, 3) := by decide +kernel
theorem dX0_canBePlayed_44 : decode cX0_canBePlayed 44 = .ok (.getfield 63, 3) := by decide +kernel
theorem dX0_canBePlayed_47 : decode cX0_canBePlayed 47 = .ok (.invokevirtual 59, 3) := by decide +kernel
theorem dX0_canBePlayed_50 : decode cX0_canBePlayed 50 = .ok (.ifCond .ne 5, 3) := by decide +kernel
theorem dX0_canBePlayed_53 : decode cX0_canBePlayed 53 = .ok (.iconst 0, 1) := by decide +kernel
theorem dX0_canBePlayed_54 : decode cX0_canBePlayed 54 = .ok (.ireturn, 1) := by decide +kernel
theorem dX0_canBePlayed_55 : decode cX0_canBePlayed 55 = .ok (.iinc 1 1, 3) := by decide +kernel
theorem dX0_canBePlayed_58 : decode cX0_canBePlayed 58 = .ok (.goto (-46), 3) := by decide +kernel
theorem dX0_canBePlayed_61 : decode cX0_canBePlayed 61 = .ok (.iconst 1, 1) := by decide +kernel
theorem dX0_canBePlayed_62 : decode cX0_canBePlayed 62 = .ok (.ireturn, 1) := by decide +kernel
theorem dX0_copyFrom_0 : decode cX0_copyFrom 0 = .ok (.aload_n 0, 1) := by decide +kernel
theorem dX0_copyFrom_1 : decode cX0_copyFrom 1 = .ok (.aload_n 1, 1) := by decide +kernel
theorem dX0_copyFrom_2 : decode cX0_copyFrom 2 = .ok (.getfield 22, 3) := by decide +kernel
theorem dX0_copyFrom_5 : decode cX0_copyFrom 5 = .ok (.putfield 22, 3) := by decide +kernel
theorem dX0_copyFrom_8 : decode cX0_copyFrom 8 = .ok (.aload_n 0, 1) := by decide +kernel
theorem dX0_copyFrom_9 : decode cX0_copyFrom 9 = .ok (.aload_n 1, 1) := by decide +kernel
theorem dX0_copyFrom_10 : decode cX0_copyFrom 10 = .ok (.getfield 26, 3) := by decide +kernel
theorem dX0_copyFrom_13 : decode cX0_copyFrom 13 = .ok (.putfield 26, 3) := by decide +kernel
theorem dX0_copyFrom_16 : decode cX0_copyFrom 16 = .ok (.aload_n 0, 1) := by decide +kernel
theorem dX0_copyFrom_17 : decode cX0_copyFrom 17 = .ok (.aload_n 1, 1) := by decide +kernel
theorem dX0_copyFrom_18 : decode cX0_copyFrom 18 = .ok (.getfield 29, 3) := by decide +kernel
theorem dX0_copyFrom_21 : decode cX0_copyFrom 21 = .ok (.putfield 29, 3) := by decide +kernel
theorem dX0_copyFrom_24 : decode cX0_copyFrom 24 = .ok (.iconst 0, 1) := by decide +kernel
theorem dX0_copyFrom_25 : decode cX0_copyFrom 25 = .ok (.istore_n 2, 1) := by decide +kernel
theorem dX0_copyFrom_26 : decode cX0_copyFrom 26 = .ok (.iload_n 2, 1) := by decide +kernel
theorem dX0_copyFrom_27 : decode cX0_copyFrom 27 = .ok (.iconst 5, 1) := by decide +kernel
theorem dX0_copyFrom_28 : decode cX0_copyFrom 28 = .ok (.if_icmp .ge 22, 3) := by decide +kernel
theorem dX0_copyFrom_31 : decode cX0_copyFrom 31 = .ok (.aload_n 0, 1) := by decide +kernel
theorem dX0_copyFrom_32 : decode cX0_copyFrom 32 = .ok (.iload_n 2, 1) := by decide +kernel
theorem dX0_copyFrom_33 : decode cX0_copyFrom 33 = .ok (.invokevirtual 32, 3) := by decide +kernel
theorem dX0_copyFrom_36 : decode cX0_copyFrom 36 = .ok (.aload_n 1, 1) := by decide +kernel
theorem dX0_copyFrom_37 : decode cX0_copyFrom 37 = .ok (.iload_n 2, 1) := by decide +kernel
theorem dX0_copyFrom_38 : decode cX0_copyFrom 38 = .ok (.invokevirtual 32, 3) := by decide +kernel
theorem dX0_copyFrom_41 : decode cX0_copyFrom 41 = .ok (.invokevirtual 66, 3) := by decide +kernel
theorem dX0_copyFrom_44 : decode cX0_copyFrom 44 = .ok (.iinc 2 1, 3) := by decide +kernel
theorem dX0_copyFrom_47 : decode cX0_copyFrom 47 = .ok (.goto (-21), 3) := by decide +kernel
theorem dX0_copyFrom_50 : decode cX0_copyFrom 50 = .ok (.return_, 1) := by decide +kernel
theorem dX1_init_0 : decode cX1_init 0 = .ok (.aload_n 0, 1) := by decide +kernel
theorem dX1_init_1 : decode cX1_init 1 = .ok (.invokespecial 5, 3) := by decide +kernel
theorem dX1_init_4 : decode cX1_init 4 = .ok (.aload_n 0, 1) := by decide +kernel
theorem dX1_init_5 : decode cX1_init 5 = .ok (.iconst 5, 1) := by decide +kernel
theorem dX1_init_6 : decode cX1_init 6 = .ok (.newarray .int, 2) := by decide +kernel
theorem dX1_init_8 : decode cX1_init 8 = .ok (.putfield 11, 3) := by decide +kernel
theorem dX1_init_11 : decode cX1_init 11 = .ok (.aload_n 0, 1) := by decide +kernel
theorem dX1_init_12 : decode cX1_init 12 = .ok (.iconst 5, 1) := by decide +kernel
theorem dX1_init_13 : decode cX1_init 13 = .ok (.newarray .int, 2) := by decide +kernel
theorem dX1_init_15 : decode cX1_init 15 = .ok (.putfield 15, 3) := by decide +kernel
theorem dX1_init_18 : decode cX1_init 18 = .ok (.aload_n 0, 1) := by decide +kernel
theorem dX1_init_19 : decode cX1_init 19 = .ok (.iconst 5, 1) := by decide +kernel
theorem dX1_init_20 : decode cX1_init 20 = .ok (.newarray .int, 2) := by decide +kernel
theorem dX1_init_22 : decode cX1_init 22 = .ok (.putfield 18, 3) := by decide +kernel
theorem dX1_init_25 : decode cX1_init 25 = .ok (.aload_n 0, 1) := by decide +kernel
theorem dX1_init_26 : decode cX1_init 26 = .ok (.sipush 5120, 3) := by decide +kernel
theorem dX1_init_29 : decode cX1_init 29 = .ok (.newarray .long, 2) := by decide +kernel
theorem dX1_init_31 : decode cX1_init 31 = .ok (.putfield 21, 3) := by decide +kernel
theorem dX1_init_34 : decode cX1_init 34 = .ok (.aload_n 0, 1) := by decide +kernel
theorem dX1_init_35 : decode cX1_init 35 = .ok (.iconst 5, 1) := by decide +kernel
theorem dX1_init_36 : decode cX1_init 36 = .ok (.newarray .long, 2) := by decide +kernel
theorem dX1_init_38 : decode cX1_init 38 = .ok (.putfield 25, 3) := by decide +kernel
theorem dX1_init_41 : decode cX1_init 41 = .ok (.aload_n 0, 1) := by decide +kernel
theorem dX1_init_42 : decode cX1_init 42 = .ok (.lconst 0, 1) := by decide +kernel
theorem dX1_init_43 : decode cX1_init 43 = .ok (.putfield 28, 3) := by decide +kernel
theorem dX1_init_46 : decode cX1_init 46 = .ok (.aload_n 0, 1) := by decide +kernel
theorem dX1_init_47 : decode cX1_init 47 = .ok (.iconst 0, 1) := by decide +kernel
theorem dX1_init_48 : decode cX1_init 48 = .ok (.putfield 32, 3) := by decide +kernel
theorem dX1_init_51 : decode cX1_init 51 = .ok (.aload_n 0, 1) := by decide +kernel
theorem dX1_init_52 : decode cX1_init 52 = .ok (.iconst 0, 1) := by decide +kernel
theorem dX1_init_53 : decode cX1_init 53 = .ok (.putfield 36, 3) := by decide +kernel
theorem dX1_init_56 : decode cX1_init 56 = .ok (.return_, 1) := by decide +kernel
theorem dX1_outWeight_0 : decode cX1_outWeight 0 = .ok (.aload_n 0, 1) := by decide +kernel
theorem dX1_outWeight_1 : decode cX1_outWeight 1 = .ok (.getfield 25, 3) := by decide +kernel
theorem dX1_outWeight_4 : decode cX1_outWeight 4 = .ok (.iload_n 1, 1) := by decide +kernel
theorem dX1_outWeight_5 : decode cX1_outWeight 5 = .ok (.invokestatic 39, 3) := by decide +kernel
theorem dX1_outWeight_8 : decode cX1_outWeight 8 = .ok (.lreturn, 1) := by decide +kernel
theorem dX1_prepareThrows_0 : decode cX1_prepareThrows 0 = .ok (.iconst 0, 1) := by decide +kernel
theorem dX1_prepareThrows_1 : decode cX1_prepareThrows 1 = .ok (.istore_n 2, 1) := by decide +kernel
theorem dX1_prepareThrows_2 : decode cX1_prepareThrows 2 = .ok (.iload_n 2, 1) := by decide +kernel
theorem dX1_prepareThrows_3 : decode cX1_prepareThrows 3 = .ok (.aload_n 1, 1) := by decide +kernel
theorem dX1_prepareThrows_4 : decode cX1_prepareThrows 4 = .ok (.getfield 45, 3) := by decide +kernel
theorem dX1_prepareThrows_7 : decode cX1_prepareThrows 7 = .ok (.getfield 51, 3) := by decide +kernel
theorem dX1_prepareThrows_10 : decode cX1_prepareThrows 10 = .ok (.if_icmp .ge 53, 3) := by decide +kernel
theorem dX1_prepareThrows_13 : decode cX1_prepareThrows 13 = .ok (.aload_n 1, 1) := by decide +kernel
theorem dX1_prepareThrows_14 : decode cX1_prepareThrows 14 = .ok (.iload_n 2, 1) := by decide +kernel
theorem dX1_prepareThrows_15 : decode cX1_prepareThrows 15 = .ok (.invokevirtual 56, 3) := by decide +kernel
theorem dX1_prepareThrows_18 : decode cX1_prepareThrows 18 = .ok (.aload_n 1, 1) := by decide +kernel
theorem dX1_prepareThrows_19 : decode cX1_prepareThrows 19 = .ok (.invokevirtual 60, 3) := by decide +kernel
theorem dX1_prepareThrows_22 : decode cX1_prepareThrows 22 = .ok (.istore_n 3, 1) := by decide +kernel
theorem dX1_prepareThrows_23 : decode cX1_prepareThrows 23 = .ok (.aload_n 0, 1) := by decide +kernel
theorem dX1_prepareThrows_24 : decode cX1_prepareThrows 24 = .ok (.getfield 11, 3) := by decide +kernel
theorem dX1_prepareThrows_27 : decode cX1_prepareThrows 27 = .ok (.iload_n 2, 1) := by decide +kernel
theorem dX1_prepareThrows_28 : decode cX1_prepareThrows 28 = .ok (.aload_n 1, 1) := by decide +kernel
theorem dX1_prepareThrows_29 : decode cX1_prepareThrows 29 = .ok (.getfield 64, 3) := by decide +kernel
theorem dX1_prepareThrows_32 : decode cX1_prepareThrows 32 = .ok (.invokestatic 67, 3) := by decide +kernel
theorem dX1_prepareThrows_35 : decode cX1_prepareThrows 35 = .ok (.aload_n 0, 1) := by decide +kernel
theorem dX1_prepareThrows_36 : decode cX1_prepareThrows 36 = .ok (.getfield 15, 3) := by decide +kernel
theorem dX1_prepareThrows_39 : decode cX1_prepareThrows 39 = .ok (.iload_n 2, 1) := by decide +kernel
theorem dX1_prepareThrows_40 : decode cX1_prepareThrows 40 = .ok (.iload_n 3, 1) := by decide +kernel
theorem dX1_prepareThrows_41 : decode cX1_prepareThrows 41 = .ok (.invokestatic 67, 3) := by decide +kernel
theorem dX1_prepareThrows_44 : decode cX1_prepareThrows 44 = .ok (.aload_n 0, 1) := by decide +kernel
theorem dX1_prepareThrows_45 : decode cX1_prepareThrows 45 = .ok (.getfield 18, 3) := by decide +kernel
theorem dX1_prepareThrows_48 : decode cX1_prepareThrows 48 = .ok (.iload_n 2, 1) := by decide +kernel
theorem dX1_prepareThrows_49 : decode cX1_prepareThrows 49 = .ok (.aload_n 1, 1) := by decide +kernel
theorem dX1_prepareThrows_50 : decode cX1_prepareThrows 50 = .ok (.iload_n 3, 1) := by decide +kernel
theorem dX1_prepareThrows_51 : decode cX1_prepareThrows 51 = .ok (.invokevirtual 71, 3) := by decide +kernel
theorem dX1_prepareThrows_54 : decode cX1_prepareThrows 54 = .ok (.invokestatic 67, 3) := by decide +kernel
theorem dX1_prepareThrows_57 : decode cX1_prepareThrows 57 = .ok (.iinc 2 1, 3) := by decide +kernel
theorem dX1_prepareThrows_60 : decode cX1_prepareThrows 60 = .ok (.goto (-58), 3) := by decide +kernel
theorem dX1_prepareThrows_63 : decode cX1_prepareThrows 63 = .ok (.return_, 1) := by decide +kernel
theorem dX1_weigh_0 : decode cX1_weigh 0 = .ok (.aload_n 0, 1) := by decide +kernel
theorem dX1_weigh_1 : decode cX1_weigh 1 = .ok (.getfield 21, 3) := by decide +kernel
theorem dX1_weigh_4 : decode cX1_weigh 4 = .ok (.lconst 0, 1) := by decide +kernel
theorem dX1_weigh_5 : decode cX1_weigh 5 = .ok (.invokestatic 75, 3) := by decide +kernel
theorem dX1_weigh_8 : decode cX1_weigh 8 = .ok (.aload_n 0, 1) := by decide +kernel
theorem dX1_weigh_9 : decode cX1_weigh 9 = .ok (.getfield 25, 3) := by decide +kernel
theorem dX1_weigh_12 : decode cX1_weigh 12 = .ok (.lconst 0, 1) := by decide +kernel
theorem dX1_weigh_13 : decode cX1_weigh 13 = .ok (.invokestatic 75, 3) := by decide +kernel
theorem dX1_weigh_16 : decode cX1_weigh 16 = .ok (.aload_n 0, 1) := by decide +kernel
theorem dX1_weigh_17 : decode cX1_weigh 17 = .ok (.lconst 0, 1) := by decide +kernel
theorem dX1_weigh_18 : decode cX1_weigh 18 = .ok (.putfield 28, 3) := by decide +kernel
theorem dX1_weigh_21 : decode cX1_weigh 21 = .ok (.aload_n 1, 1) := by decide +kernel
theorem dX1_weigh_22 : decode cX1_weigh 22 = .ok (.invokestatic 81, 3) := by decide +kernel
theorem dX1_weigh_25 : decode cX1_weigh 25 = .ok (.istore_n 3, 1) := by decide +kernel
theorem dX1_weigh_26 : decode cX1_weigh 26 = .ok (.aload_n 0, 1) := by decide +kernel
theorem dX1_weigh_27 : decode cX1_weigh 27 = .ok (.getfield 21, 3) := by decide +kernel
theorem dX1_weigh_30 : decode cX1_weigh 30 = .ok (.iload_n 3, 1) := by decide +kernel
theorem dX1_weigh_31 : decode cX1_weigh 31 = .ok (.iconst 5, 1) := by decide +kernel
theorem dX1_weigh_32 : decode cX1_weigh 32 = .ok (.imul, 1) := by decide +kernel
theorem dX1_weigh_33 : decode cX1_weigh 33 = .ok (.iload_n 2, 1) := by decide +kernel
theorem dX1_weigh_34 : decode cX1_weigh 34 = .ok (.iadd, 1) := by decide +kernel
theorem dX1_weigh_35 : decode cX1_weigh 35 = .ok (.ldc2_w 85, 3) := by decide +kernel
theorem dX1_weigh_38 : decode cX1_weigh 38 = .ok (.invokestatic 87, 3) := by decide +kernel
theorem dX1_weigh_41 : decode cX1_weigh 41 = .ok (.iload_n 3, 1) := by decide +kernel
theorem dX1_weigh_42 : decode cX1_weigh 42 = .ok (.istore 4, 2) := by decide +kernel
theorem dX1_weigh_44 : decode cX1_weigh 44 = .ok (.iload 4, 2) := by decide +kernel
theorem dX1_weigh_46 : decode cX1_weigh 46 = .ok (.sipush 1024, 3) := by decide +kernel
theorem dX1_weigh_49 : decode cX1_weigh 49 = .ok (.if_icmp .ge 35, 3) := by decide +kernel
theorem dX1_weigh_52 : decode cX1_weigh 52 = .ok (.iconst 0, 1) := by decide +kernel
theorem dX1_weigh_53 : decode cX1_weigh 53 = .ok (.istore 5, 2) := by decide +kernel
theorem dX1_weigh_55 : decode cX1_weigh 55 = .ok (.iload 5, 2) := by decide +kernel
theorem dX1_weigh_57 : decode cX1_weigh 57 = .ok (.aload_n 1, 1) := by decide +kernel
theorem dX1_weigh_58 : decode cX1_weigh 58 = .ok (.getfield 51, 3) := by decide +kernel
theorem dX1_weigh_61 : decode cX1_weigh 61 = .ok (.if_icmp .ge 17, 3) := by decide +kernel
theorem dX1_weigh_64 : decode cX1_weigh 64 = .ok (.aload_n 0, 1) := by decide +kernel
theorem dX1_weigh_65 : decode cX1_weigh 65 = .ok (.iload 4, 2) := by decide +kernel
theorem dX1_weigh_67 : decode cX1_weigh 67 = .ok (.iload 5, 2) := by decide +kernel
theorem dX1_weigh_69 : decode cX1_weigh 69 = .ok (.invokevirtual 91, 3) := by decide +kernel
theorem dX1_weigh_72 : decode cX1_weigh 72 = .ok (.iinc 5 1, 3) := by decide +kernel
theorem dX1_weigh_75 : decode cX1_weigh 75 = .ok (.goto (-20), 3) := by decide +kernel
theorem dX1_weigh_78 : decode cX1_weigh 78 = .ok (.iinc 4 1, 3) := by decide +kernel
theorem dX1_weigh_81 : decode cX1_weigh 81 = .ok (.goto (-37), 3) := by decide +kernel
theorem dX1_weigh_84 : decode cX1_weigh 84 = .ok (.return_, 1) := by decide +kernel
theorem dX1_shareOut_0 : decode cX1_shareOut 0 = .ok (.aload_n 0, 1) := by decide +kernel
theorem dX1_shareOut_1 : decode cX1_shareOut 1 = .ok (.getfield 21, 3) := by decide +kernel
theorem dX1_shareOut_4 : decode cX1_shareOut 4 = .ok (.iload_n 1, 1) := by decide +kernel
theorem dX1_shareOut_5 : decode cX1_shareOut 5 = .ok (.iconst 5, 1) := by decide +kernel
theorem dX1_shareOut_6 : decode cX1_shareOut 6 = .ok (.imul, 1) := by decide +kernel
theorem dX1_shareOut_7 : decode cX1_shareOut 7 = .ok (.iload_n 2, 1) := by decide +kernel
theorem dX1_shareOut_8 : decode cX1_shareOut 8 = .ok (.iadd, 1) := by decide +kernel
theorem dX1_shareOut_9 : decode cX1_shareOut 9 = .ok (.invokestatic 39, 3) := by decide +kernel
theorem dX1_shareOut_12 : decode cX1_shareOut 12 = .ok (.lstore_n 3, 1) := by decide +kernel
theorem dX1_shareOut_13 : decode cX1_shareOut 13 = .ok (.lload_n 3, 1) := by decide +kernel
theorem dX1_shareOut_14 : decode cX1_shareOut 14 = .ok (.lconst 0, 1) := by decide +kernel
theorem dX1_shareOut_15 : decode cX1_shareOut 15 = .ok (.lcmp, 1) := by decide +kernel
theorem dX1_shareOut_16 : decode cX1_shareOut 16 = .ok (.ifCond .ne 4, 3) := by decide +kernel
theorem dX1_shareOut_19 : decode cX1_shareOut 19 = .ok (.return_, 1) := by decide +kernel
theorem dX1_shareOut_20 : decode cX1_shareOut 20 = .ok (.aload_n 0, 1) := by decide +kernel
theorem dX1_shareOut_21 : decode cX1_shareOut 21 = .ok (.dup, 1) := by decide +kernel
theorem dX1_shareOut_22 : decode cX1_shareOut 22 = .ok (.getfield 28, 3) := by decide +kernel
theorem dX1_shareOut_25 : decode cX1_shareOut 25 = .ok (.lload_n 3, 1) := by decide +kernel
theorem dX1_shareOut_26 : decode cX1_shareOut 26 = .ok (.ladd, 1) := by decide +kernel
theorem dX1_shareOut_27 : decode cX1_shareOut 27 = .ok (.putfield 28, 3) := by decide +kernel
theorem dX1_shareOut_30 : decode cX1_shareOut 30 = .ok (.lload_n 3, 1) := by decide +kernel
theorem dX1_shareOut_31 : decode cX1_shareOut 31 = .ok (.ldc2_w 95, 3) := by decide +kernel
theorem dX1_shareOut_34 : decode cX1_shareOut 34 = .ok (.ldiv, 1) := by decide +kernel
theorem dX1_shareOut_35 : decode cX1_shareOut 35 = .ok (.lstore 5, 2) := by decide +kernel
theorem dX1_shareOut_37 : decode cX1_shareOut 37 = .ok (.aload_n 0, 1) := by decide +kernel
theorem dX1_shareOut_38 : decode cX1_shareOut 38 = .ok (.getfield 18, 3) := by decide +kernel
theorem dX1_shareOut_41 : decode cX1_shareOut 41 = .ok (.iload_n 2, 1) := by decide +kernel
theorem dX1_shareOut_42 : decode cX1_shareOut 42 = .ok (.invokestatic 97, 3) := by decide +kernel
theorem dX1_shareOut_45 : decode cX1_shareOut 45 = .ok (.istore 7, 2) := by decide +kernel
theorem dX1_shareOut_47 : decode cX1_shareOut 47 = .ok (.aload_n 0, 1) := by decide +kernel
theorem dX1_shareOut_48 : decode cX1_shareOut 48 = .ok (.iload_n 1, 1) := by decide +kernel
theorem dX1_shareOut_49 : decode cX1_shareOut 49 = .ok (.aload_n 0, 1) := by decide +kernel
theorem dX1_shareOut_50 : decode cX1_shareOut 50 = .ok (.getfield 15, 3) := by decide +kernel
theorem dX1_shareOut_53 : decode cX1_shareOut 53 = .ok (.iload_n 2, 1) := by decide +kernel
theorem dX1_shareOut_54 : decode cX1_shareOut 54 = .ok (.invokestatic 97, 3) := by decide +kernel
theorem dX1_shareOut_57 : decode cX1_shareOut 57 = .ok (.lload 5, 2) := by decide +kernel
theorem dX1_shareOut_59 : decode cX1_shareOut 59 = .ok (.iload 7, 2) := by decide +kernel
theorem dX1_shareOut_61 : decode cX1_shareOut 61 = .ok (.i2l, 1) := by decide +kernel
theorem dX1_shareOut_62 : decode cX1_shareOut 62 = .ok (.lmul, 1) := by decide +kernel
theorem dX1_shareOut_63 : decode cX1_shareOut 63 = .ok (.invokevirtual 101, 3) := by decide +kernel
theorem dX1_shareOut_66 : decode cX1_shareOut 66 = .ok (.aload_n 0, 1) := by decide +kernel
theorem dX1_shareOut_67 : decode cX1_shareOut 67 = .ok (.iload_n 1, 1) := by decide +kernel
theorem dX1_shareOut_68 : decode cX1_shareOut 68 = .ok (.aload_n 0, 1) := by decide +kernel
theorem dX1_shareOut_69 : decode cX1_shareOut 69 = .ok (.getfield 11, 3) := by decide +kernel
theorem dX1_shareOut_72 : decode cX1_shareOut 72 = .ok (.iload_n 2, 1) := by decide +kernel
theorem dX1_shareOut_73 : decode cX1_shareOut 73 = .ok (.invokestatic 97, 3) := by decide +kernel
theorem dX1_shareOut_76 : decode cX1_shareOut 76 = .ok (.lload 5, 2) := by decide +kernel
theorem dX1_shareOut_78 : decode cX1_shareOut 78 = .ok (.bipush 10, 2) := by decide +kernel
theorem dX1_shareOut_80 : decode cX1_shareOut 80 = .ok (.iload 7, 2) := by decide +kernel
theorem dX1_shareOut_82 : decode cX1_shareOut 82 = .ok (.isub, 1) := by decide +kernel
theorem dX1_shareOut_83 : decode cX1_shareOut 83 = .ok (.i2l, 1) := by decide +kernel
theorem dX1_shareOut_84 : decode cX1_shareOut 84 = .ok (.lmul, 1) := by decide +kernel
theorem dX1_shareOut_85 : decode cX1_shareOut 85 = .ok (.invokevirtual 101, 3) := by decide +kernel
theorem dX1_shareOut_88 : decode cX1_shareOut 88 = .ok (.return_, 1) := by decide +kernel
theorem dX1_giveLetter_0 : decode cX1_giveLetter 0 = .ok (.iload_n 1, 1) := by decide +kernel
theorem dX1_giveLetter_1 : decode cX1_giveLetter 1 = .ok (.iload_n 2, 1) := by decide +kernel
theorem dX1_giveLetter_2 : decode cX1_giveLetter 2 = .ok (.invokestatic 105, 3) := by decide +kernel
theorem dX1_giveLetter_5 : decode cX1_giveLetter 5 = .ok (.iconst 3, 1) := by decide +kernel
theorem dX1_giveLetter_6 : decode cX1_giveLetter 6 = .ok (.if_icmp .lt 15, 3) := by decide +kernel
theorem dX1_giveLetter_9 : decode cX1_giveLetter 9 = .ok (.aload_n 0, 1) := by decide +kernel
theorem dX1_giveLetter_10 : decode cX1_giveLetter 10 = .ok (.getfield 25, 3) := by decide +kernel
theorem dX1_giveLetter_13 : decode cX1_giveLetter 13 = .ok (.iload_n 2, 1) := by decide +kernel
theorem dX1_giveLetter_14 : decode cX1_giveLetter 14 = .ok (.lload_n 3, 1) := by decide +kernel
theorem dX1_giveLetter_15 : decode cX1_giveLetter 15 = .ok (.invokestatic 87, 3) := by decide +kernel
theorem dX1_giveLetter_18 : decode cX1_giveLetter 18 = .ok (.goto 21, 3) := by decide +kernel
theorem dX1_giveLetter_21 : decode cX1_giveLetter 21 = .ok (.aload_n 0, 1) := by decide +kernel
theorem dX1_giveLetter_22 : decode cX1_giveLetter 22 = .ok (.getfield 21, 3) := by decide +kernel
theorem dX1_giveLetter_25 : decode cX1_giveLetter 25 = .ok (.iload_n 1, 1) := by decide +kernel
theorem dX1_giveLetter_26 : decode cX1_giveLetter 26 = .ok (.iload_n 2, 1) := by decide +kernel
theorem dX1_giveLetter_27 : decode cX1_giveLetter 27 = .ok (.invokestatic 108, 3) := by decide +kernel
theorem dX1_giveLetter_30 : decode cX1_giveLetter 30 = .ok (.iadd, 1) := by decide +kernel
theorem dX1_giveLetter_31 : decode cX1_giveLetter 31 = .ok (.iconst 5, 1) := by decide +kernel
theorem dX1_giveLetter_32 : decode cX1_giveLetter 32 = .ok (.imul, 1) := by decide +kernel
theorem dX1_giveLetter_33 : decode cX1_giveLetter 33 = .ok (.iload_n 2, 1) := by decide +kernel
theorem dX1_giveLetter_34 : decode cX1_giveLetter 34 = .ok (.iadd, 1) := by decide +kernel
theorem dX1_giveLetter_35 : decode cX1_giveLetter 35 = .ok (.lload_n 3, 1) := by decide +kernel
theorem dX1_giveLetter_36 : decode cX1_giveLetter 36 = .ok (.invokestatic 87, 3) := by decide +kernel
theorem dX1_giveLetter_39 : decode cX1_giveLetter 39 = .ok (.return_, 1) := by decide +kernel
theorem dX1_playAfternoon_0 : decode cX1_playAfternoon 0 = .ok (.aload_n 1, 1) := by decide +kernel
theorem dX1_playAfternoon_1 : decode cX1_playAfternoon 1 = .ok (.invokestatic 81, 3) := by decide +kernel
theorem dX1_playAfternoon_4 : decode cX1_playAfternoon 4 = .ok (.istore_n 3, 1) := by decide +kernel
theorem dX1_playAfternoon_5 : decode cX1_playAfternoon 5 = .ok (.iconst 0, 1) := by decide +kernel
theorem dX1_playAfternoon_6 : decode cX1_playAfternoon 6 = .ok (.istore 4, 2) := by decide +kernel
theorem dX1_playAfternoon_8 : decode cX1_playAfternoon 8 = .ok (.iconst 0, 1) := by decide +kernel
theorem dX1_playAfternoon_9 : decode cX1_playAfternoon 9 = .ok (.istore 5, 2) := by decide +kernel
theorem dX1_playAfternoon_11 : decode cX1_playAfternoon 11 = .ok (.iload 5, 2) := by decide +kernel
theorem dX1_playAfternoon_13 : decode cX1_playAfternoon 13 = .ok (.bipush 16, 2) := by decide +kernel
theorem dX1_playAfternoon_15 : decode cX1_playAfternoon 15 = .ok (.if_icmp .ge 87, 3) := by decide +kernel
theorem dX1_playAfternoon_18 : decode cX1_playAfternoon 18 = .ok (.iload_n 2, 1) := by decide +kernel
theorem dX1_playAfternoon_19 : decode cX1_playAfternoon 19 = .ok (.iload 5, 2) := by decide +kernel
theorem dX1_playAfternoon_21 : decode cX1_playAfternoon 21 = .ok (.invokestatic 111, 3) := by decide +kernel
theorem dX1_playAfternoon_24 : decode cX1_playAfternoon 24 = .ok (.aload_n 0, 1) := by decide +kernel
theorem dX1_playAfternoon_25 : decode cX1_playAfternoon 25 = .ok (.getfield 18, 3) := by decide +kernel
theorem dX1_playAfternoon_28 : decode cX1_playAfternoon 28 = .ok (.iload 4, 2) := by decide +kernel
theorem dX1_playAfternoon_30 : decode cX1_playAfternoon 30 = .ok (.invokestatic 97, 3) := by decide +kernel
theorem dX1_playAfternoon_33 : decode cX1_playAfternoon 33 = .ok (.if_icmp .ge 15, 3) := by decide +kernel
theorem dX1_playAfternoon_36 : decode cX1_playAfternoon 36 = .ok (.aload_n 0, 1) := by decide +kernel
theorem dX1_playAfternoon_37 : decode cX1_playAfternoon 37 = .ok (.getfield 15, 3) := by decide +kernel
theorem dX1_playAfternoon_40 : decode cX1_playAfternoon 40 = .ok (.iload 4, 2) := by decide +kernel
theorem dX1_playAfternoon_42 : decode cX1_playAfternoon 42 = .ok (.invokestatic 97, 3) := by decide +kernel
theorem dX1_playAfternoon_45 : decode cX1_playAfternoon 45 = .ok (.goto 12, 3) := by decide +kernel
theorem dX1_playAfternoon_48 : decode cX1_playAfternoon 48 = .ok (.aload_n 0, 1) := by decide +kernel
theorem dX1_playAfternoon_49 : decode cX1_playAfternoon 49 = .ok (.getfield 11, 3) := by decide +kernel
theorem dX1_playAfternoon_52 : decode cX1_playAfternoon 52 = .ok (.iload 4, 2) := by decide +kernel
theorem dX1_playAfternoon_54 : decode cX1_playAfternoon 54 = .ok (.invokestatic 97, 3) := by decide +kernel
theorem dX1_playAfternoon_57 : decode cX1_playAfternoon 57 = .ok (.istore 6, 2) := by decide +kernel
theorem dX1_playAfternoon_59 : decode cX1_playAfternoon 59 = .ok (.aload_n 0, 1) := by decide +kernel
theorem dX1_playAfternoon_60 : decode cX1_playAfternoon 60 = .ok (.iload 6, 2) := by decide +kernel
theorem dX1_playAfternoon_62 : decode cX1_playAfternoon 62 = .ok (.putfield 32, 3) := by decide +kernel
theorem dX1_playAfternoon_65 : decode cX1_playAfternoon 65 = .ok (.aload_n 0, 1) := by decide +kernel
theorem dX1_playAfternoon_66 : decode cX1_playAfternoon 66 = .ok (.iload 5, 2) := by decide +kernel
theorem dX1_playAfternoon_68 : decode cX1_playAfternoon 68 = .ok (.iconst 1, 1) := by decide +kernel
theorem dX1_playAfternoon_69 : decode cX1_playAfternoon 69 = .ok (.iadd, 1) := by decide +kernel
theorem dX1_playAfternoon_70 : decode cX1_playAfternoon 70 = .ok (.putfield 36, 3) := by decide +kernel
theorem dX1_playAfternoon_73 : decode cX1_playAfternoon 73 = .ok (.iload_n 3, 1) := by decide +kernel
theorem dX1_playAfternoon_74 : decode cX1_playAfternoon 74 = .ok (.iload 6, 2) := by decide +kernel
theorem dX1_playAfternoon_76 : decode cX1_playAfternoon 76 = .ok (.invokestatic 105, 3) := by decide +kernel
theorem dX1_playAfternoon_79 : decode cX1_playAfternoon 79 = .ok (.iconst 3, 1) := by decide +kernel
theorem dX1_playAfternoon_80 : decode cX1_playAfternoon 80 = .ok (.if_icmp .lt 4, 3) := by decide +kernel
theorem dX1_playAfternoon_83 : decode cX1_playAfternoon 83 = .ok (.return_, 1) := by decide +kernel
theorem dX1_playAfternoon_84 : decode cX1_playAfternoon 84 = .ok (.iload_n 3, 1) := by decide +kernel
theorem dX1_playAfternoon_85 : decode cX1_playAfternoon 85 = .ok (.iload 6, 2) := by decide +kernel
theorem dX1_playAfternoon_87 : decode cX1_playAfternoon 87 = .ok (.invokestatic 108, 3) := by decide +kernel
theorem dX1_playAfternoon_90 : decode cX1_playAfternoon 90 = .ok (.iadd, 1) := by decide +kernel
theorem dX1_playAfternoon_91 : decode cX1_playAfternoon 91 = .ok (.istore_n 3, 1) := by decide +kernel
theorem dX1_playAfternoon_92 : decode cX1_playAfternoon 92 = .ok (.iload 6, 2) := by decide +kernel
theorem dX1_playAfternoon_94 : decode cX1_playAfternoon 94 = .ok (.istore 4, 2) := by decide +kernel
theorem dX1_playAfternoon_96 : decode cX1_playAfternoon 96 = .ok (.iinc 5 1, 3) := by decide +kernel
theorem dX1_playAfternoon_99 : decode cX1_playAfternoon 99 = .ok (.goto (-88), 3) := by decide +kernel
theorem dX1_playAfternoon_102 : decode cX1_playAfternoon 102 = .ok (.return_, 1) := by decide +kernel
theorem dX1_draw_0 : decode cX1_draw 0 = .ok (.ldc2_w 114, 3) := by decide +kernel
theorem dX1_draw_3 : decode cX1_draw 3 = .ok (.iload_n 0, 1) := by decide +kernel
theorem dX1_draw_4 : decode cX1_draw 4 = .ok (.i2l, 1) := by decide +kernel
theorem dX1_draw_5 : decode cX1_draw 5 = .ok (.lmul, 1) := by decide +kernel
theorem dX1_draw_6 : decode cX1_draw 6 = .ok (.ldc2_w 116, 3) := by decide +kernel
theorem dX1_draw_9 : decode cX1_draw 9 = .ok (.iload_n 1, 1) := by decide +kernel
theorem dX1_draw_10 : decode cX1_draw 10 = .ok (.i2l, 1) := by decide +kernel
theorem dX1_draw_11 : decode cX1_draw 11 = .ok (.lmul, 1) := by decide +kernel
theorem dX1_draw_12 : decode cX1_draw 12 = .ok (.ladd, 1) := by decide +kernel
theorem dX1_draw_13 : decode cX1_draw 13 = .ok (.lconst 1, 1) := by decide +kernel
theorem dX1_draw_14 : decode cX1_draw 14 = .ok (.ladd, 1) := by decide +kernel
theorem dX1_draw_15 : decode cX1_draw 15 = .ok (.lstore_n 2, 1) := by decide +kernel
theorem dX1_draw_16 : decode cX1_draw 16 = .ok (.lload_n 2, 1) := by decide +kernel
theorem dX1_draw_17 : decode cX1_draw 17 = .ok (.lload_n 2, 1) := by decide +kernel
theorem dX1_draw_18 : decode cX1_draw 18 = .ok (.lmul, 1) := by decide +kernel
theorem dX1_draw_19 : decode cX1_draw 19 = .ok (.ldc2_w 118, 3) := by decide +kernel
theorem dX1_draw_22 : decode cX1_draw 22 = .ok (.lrem, 1) := by decide +kernel
theorem dX1_draw_23 : decode cX1_draw 23 = .ok (.ldc2_w 95, 3) := by decide +kernel
theorem dX1_draw_26 : decode cX1_draw 26 = .ok (.lrem, 1) := by decide +kernel
theorem dX1_draw_27 : decode cX1_draw 27 = .ok (.l2i, 1) := by decide +kernel
theorem dX1_draw_28 : decode cX1_draw 28 = .ok (.ireturn, 1) := by decide +kernel
theorem dX1_lettersOf_0 : decode cX1_lettersOf 0 = .ok (.iconst 0, 1) := by decide +kernel
theorem dX1_lettersOf_1 : decode cX1_lettersOf 1 = .ok (.istore_n 1, 1) := by decide +kernel
theorem dX1_lettersOf_2 : decode cX1_lettersOf 2 = .ok (.iconst 0, 1) := by decide +kernel
theorem dX1_lettersOf_3 : decode cX1_lettersOf 3 = .ok (.istore_n 2, 1) := by decide +kernel
theorem dX1_lettersOf_4 : decode cX1_lettersOf 4 = .ok (.iload_n 2, 1) := by decide +kernel
theorem dX1_lettersOf_5 : decode cX1_lettersOf 5 = .ok (.aload_n 0, 1) := by decide +kernel
theorem dX1_lettersOf_6 : decode cX1_lettersOf 6 = .ok (.getfield 51, 3) := by decide +kernel
theorem dX1_lettersOf_9 : decode cX1_lettersOf 9 = .ok (.if_icmp .ge 28, 3) := by decide +kernel
theorem dX1_lettersOf_12 : decode cX1_lettersOf 12 = .ok (.iload_n 1, 1) := by decide +kernel
theorem dX1_lettersOf_13 : decode cX1_lettersOf 13 = .ok (.aload_n 0, 1) := by decide +kernel
theorem dX1_lettersOf_14 : decode cX1_lettersOf 14 = .ok (.iload_n 2, 1) := by decide +kernel
theorem dX1_lettersOf_15 : decode cX1_lettersOf 15 = .ok (.invokevirtual 120, 3) := by decide +kernel
theorem dX1_lettersOf_18 : decode cX1_lettersOf 18 = .ok (.getfield 124, 3) := by decide +kernel
theorem dX1_lettersOf_21 : decode cX1_lettersOf 21 = .ok (.getfield 130, 3) := by decide +kernel
theorem dX1_lettersOf_24 : decode cX1_lettersOf 24 = .ok (.iload_n 2, 1) := by decide +kernel
theorem dX1_lettersOf_25 : decode cX1_lettersOf 25 = .ok (.invokestatic 108, 3) := by decide +kernel
theorem dX1_lettersOf_28 : decode cX1_lettersOf 28 = .ok (.imul, 1) := by decide +kernel
theorem dX1_lettersOf_29 : decode cX1_lettersOf 29 = .ok (.iadd, 1) := by decide +kernel
theorem dX1_lettersOf_30 : decode cX1_lettersOf 30 = .ok (.istore_n 1, 1) := by decide +kernel
theorem dX1_lettersOf_31 : decode cX1_lettersOf 31 = .ok (.iinc 2 1, 3) := by decide +kernel
theorem dX1_lettersOf_34 : decode cX1_lettersOf 34 = .ok (.goto (-30), 3) := by decide +kernel
theorem dX1_lettersOf_37 : decode cX1_lettersOf 37 = .ok (.iload_n 1, 1) := by decide +kernel
theorem dX1_lettersOf_38 : decode cX1_lettersOf 38 = .ok (.ireturn, 1) := by decide +kernel
theorem dX1_lettersOf__0 : decode cX1_lettersOf_ 0 = .ok (.iload_n 0, 1) := by decide +kernel
theorem dX1_lettersOf__1 : decode cX1_lettersOf_ 1 = .ok (.iconst 2, 1) := by decide +kernel
theorem dX1_lettersOf__2 : decode cX1_lettersOf_ 2 = .ok (.iload_n 1, 1) := by decide +kernel
theorem dX1_lettersOf__3 : decode cX1_lettersOf_ 3 = .ok (.imul, 1) := by decide +kernel
theorem dX1_lettersOf__4 : decode cX1_lettersOf_ 4 = .ok (.ishr, 1) := by decide +kernel
theorem dX1_lettersOf__5 : decode cX1_lettersOf_ 5 = .ok (.iconst 3, 1) := by decide +kernel
theorem dX1_lettersOf__6 : decode cX1_lettersOf_ 6 = .ok (.iand, 1) := by decide +kernel
theorem dX1_lettersOf__7 : decode cX1_lettersOf_ 7 = .ok (.ireturn, 1) := by decide +kernel
theorem dX1_oneLetterOf_0 : decode cX1_oneLetterOf 0 = .ok (.iconst 1, 1) := by decide +kernel
theorem dX1_oneLetterOf_1 : decode cX1_oneLetterOf 1 = .ok (.iconst 2, 1) := by decide +kernel
theorem dX1_oneLetterOf_2 : decode cX1_oneLetterOf 2 = .ok (.iload_n 0, 1) := by decide +kernel
theorem dX1_oneLetterOf_3 : decode cX1_oneLetterOf 3 = .ok (.imul, 1) := by decide +kernel
theorem dX1_oneLetterOf_4 : decode cX1_oneLetterOf 4 = .ok (.ishl, 1) := by decide +kernel
theorem dX1_oneLetterOf_5 : decode cX1_oneLetterOf 5 = .ok (.ireturn, 1) := by decide +kernel
theorem dX2_init_0 : decode cX2_init 0 = .ok (.aload_n 0, 1) := by decide +kernel
theorem dX2_init_1 : decode cX2_init 1 = .ok (.invokespecial 1, 3) := by decide +kernel
theorem dX2_init_4 : decode cX2_init 4 = .ok (.aload_n 0, 1) := by decide +kernel
theorem dX2_init_5 : decode cX2_init 5 = .ok (.new 7, 3) := by decide +kernel
theorem dX2_init_8 : decode cX2_init 8 = .ok (.dup, 1) := by decide +kernel
theorem dX2_init_9 : decode cX2_init 9 = .ok (.invokespecial 9, 3) := by decide +kernel
theorem dX2_init_12 : decode cX2_init 12 = .ok (.putfield 10, 3) := by decide +kernel
theorem dX2_init_15 : decode cX2_init 15 = .ok (.aload_n 0, 1) := by decide +kernel
theorem dX2_init_16 : decode cX2_init 16 = .ok (.iconst 0, 1) := by decide +kernel
theorem dX2_init_17 : decode cX2_init 17 = .ok (.putfield 16, 3) := by decide +kernel
theorem dX2_init_20 : decode cX2_init 20 = .ok (.aload_n 0, 1) := by decide +kernel
theorem dX2_init_21 : decode cX2_init 21 = .ok (.iconst 1, 1) := by decide +kernel
theorem dX2_init_22 : decode cX2_init 22 = .ok (.putfield 20, 3) := by decide +kernel
theorem dX2_init_25 : decode cX2_init 25 = .ok (.aload_n 0, 1) := by decide +kernel
theorem dX2_init_26 : decode cX2_init 26 = .ok (.iconst 1, 1) := by decide +kernel
theorem dX2_init_27 : decode cX2_init 27 = .ok (.putfield 23, 3) := by decide +kernel
theorem dX2_init_30 : decode cX2_init 30 = .ok (.aload_n 0, 1) := by decide +kernel
theorem dX2_init_31 : decode cX2_init 31 = .ok (.iconst 0, 1) := by decide +kernel
theorem dX2_init_32 : decode cX2_init 32 = .ok (.putfield 26, 3) := by decide +kernel
theorem dX2_init_35 : decode cX2_init 35 = .ok (.aload_n 0, 1) := by decide +kernel
theorem dX2_init_36 : decode cX2_init 36 = .ok (.iconst 0, 1) := by decide +kernel
theorem dX2_init_37 : decode cX2_init 37 = .ok (.putfield 29, 3) := by decide +kernel
theorem dX2_init_40 : decode cX2_init 40 = .ok (.return_, 1) := by decide +kernel
theorem dX2_become_0 : decode cX2_become 0 = .ok (.aload_n 0, 1) := by decide +kernel
theorem dX2_become_1 : decode cX2_become 1 = .ok (.iload_n 1, 1) := by decide +kernel
theorem dX2_become_2 : decode cX2_become 2 = .ok (.putfield 16, 3) := by decide +kernel
theorem dX2_become_5 : decode cX2_become 5 = .ok (.aload_n 0, 1) := by decide +kernel
theorem dX2_become_6 : decode cX2_become 6 = .ok (.iload_n 2, 1) := by decide +kernel
theorem dX2_become_7 : decode cX2_become 7 = .ok (.putfield 20, 3) := by decide +kernel
theorem dX2_become_10 : decode cX2_become 10 = .ok (.aload_n 0, 1) := by decide +kernel
theorem dX2_become_11 : decode cX2_become 11 = .ok (.iload_n 3, 1) := by decide +kernel
theorem dX2_become_12 : decode cX2_become 12 = .ok (.putfield 23, 3) := by decide +kernel
theorem dX2_become_15 : decode cX2_become 15 = .ok (.aload_n 0, 1) := by decide +kernel
theorem dX2_become_16 : decode cX2_become 16 = .ok (.iload 4, 2) := by decide +kernel
theorem dX2_become_18 : decode cX2_become 18 = .ok (.putfield 26, 3) := by decide +kernel
theorem dX2_become_21 : decode cX2_become 21 = .ok (.aload_n 0, 1) := by decide +kernel
theorem dX2_become_22 : decode cX2_become 22 = .ok (.iload 5, 2) := by decide +kernel
theorem dX2_become_24 : decode cX2_become 24 = .ok (.putfield 29, 3) := by decide +kernel
theorem dX2_become_27 : decode cX2_become 27 = .ok (.return_, 1) := by decide +kernel
theorem dX2_copyFrom_0 : decode cX2_copyFrom 0 = .ok (.aload_n 0, 1) := by decide +kernel
theorem dX2_copyFrom_1 : decode cX2_copyFrom 1 = .ok (.aload_n 1, 1) := by decide +kernel
theorem dX2_copyFrom_2 : decode cX2_copyFrom 2 = .ok (.getfield 16, 3) := by decide +kernel
theorem dX2_copyFrom_5 : decode cX2_copyFrom 5 = .ok (.aload_n 1, 1) := by decide +kernel
theorem dX2_copyFrom_6 : decode cX2_copyFrom 6 = .ok (.getfield 20, 3) := by decide +kernel
theorem dX2_copyFrom_9 : decode cX2_copyFrom 9 = .ok (.aload_n 1, 1) := by decide +kernel
theorem dX2_copyFrom_10 : decode cX2_copyFrom 10 = .ok (.getfield 23, 3) := by decide +kernel
theorem dX2_copyFrom_13 : decode cX2_copyFrom 13 = .ok (.aload_n 1, 1) := by decide +kernel
theorem dX2_copyFrom_14 : decode cX2_copyFrom 14 = .ok (.getfield 26, 3) := by decide +kernel
theorem dX2_copyFrom_17 : decode cX2_copyFrom 17 = .ok (.aload_n 1, 1) := by decide +kernel
theorem dX2_copyFrom_18 : decode cX2_copyFrom 18 = .ok (.getfield 29, 3) := by decide +kernel
theorem dX2_copyFrom_21 : decode cX2_copyFrom 21 = .ok (.invokevirtual 32, 3) := by decide +kernel
theorem dX2_copyFrom_24 : decode cX2_copyFrom 24 = .ok (.aload_n 0, 1) := by decide +kernel
theorem dX2_copyFrom_25 : decode cX2_copyFrom 25 = .ok (.getfield 10, 3) := by decide +kernel
theorem dX2_copyFrom_28 : decode cX2_copyFrom 28 = .ok (.aload_n 1, 1) := by decide +kernel
theorem dX2_copyFrom_29 : decode cX2_copyFrom 29 = .ok (.getfield 10, 3) := by decide +kernel
theorem dX2_copyFrom_32 : decode cX2_copyFrom 32 = .ok (.invokevirtual 36, 3) := by decide +kernel
theorem dX2_copyFrom_35 : decode cX2_copyFrom 35 = .ok (.return_, 1) := by decide +kernel
theorem dX3_init_0 : decode cX3_init 0 = .ok (.aload_n 0, 1) := by decide +kernel
theorem dX3_init_1 : decode cX3_init 1 = .ok (.invokespecial 3, 3) := by decide +kernel
theorem dX3_init_4 : decode cX3_init 4 = .ok (.aload_n 0, 1) := by decide +kernel
theorem dX3_init_5 : decode cX3_init 5 = .ok (.iconst 5, 1) := by decide +kernel
theorem dX3_init_6 : decode cX3_init 6 = .ok (.newarray .int, 2) := by decide +kernel
theorem dX3_init_8 : decode cX3_init 8 = .ok (.putfield 11, 3) := by decide +kernel
theorem dX3_init_11 : decode cX3_init 11 = .ok (.aload_n 0, 1) := by decide +kernel
theorem dX3_init_12 : decode cX3_init 12 = .ok (.iconst 0, 1) := by decide +kernel
theorem dX3_init_13 : decode cX3_init 13 = .ok (.putfield 15, 3) := by decide +kernel
theorem dX3_init_16 : decode cX3_init 16 = .ok (.return_, 1) := by decide +kernel
theorem dX3_read_0 : decode cX3_read 0 = .ok (.aload_n 2, 1) := by decide +kernel
theorem dX3_read_1 : decode cX3_read 1 = .ok (.invokevirtual 19, 3) := by decide +kernel
theorem dX3_read_4 : decode cX3_read 4 = .ok (.iconst 0, 1) := by decide +kernel
theorem dX3_read_5 : decode cX3_read 5 = .ok (.istore_n 3, 1) := by decide +kernel
theorem dX3_read_6 : decode cX3_read 6 = .ok (.iload_n 3, 1) := by decide +kernel
theorem dX3_read_7 : decode cX3_read 7 = .ok (.aload_n 1, 1) := by decide +kernel
theorem dX3_read_8 : decode cX3_read 8 = .ok (.getfield 24, 3) := by decide +kernel
theorem dX3_read_11 : decode cX3_read 11 = .ok (.if_icmp .ge 40, 3) := by decide +kernel
theorem dX3_read_14 : decode cX3_read 14 = .ok (.aload_n 0, 1) := by decide +kernel
theorem dX3_read_15 : decode cX3_read 15 = .ok (.aload_n 1, 1) := by decide +kernel
theorem dX3_read_16 : decode cX3_read 16 = .ok (.iload_n 3, 1) := by decide +kernel
theorem dX3_read_17 : decode cX3_read 17 = .ok (.iconst 1, 1) := by decide +kernel
theorem dX3_read_18 : decode cX3_read 18 = .ok (.iadd, 1) := by decide +kernel
theorem dX3_read_19 : decode cX3_read 19 = .ok (.invokevirtual 29, 3) := by decide +kernel
theorem dX3_read_22 : decode cX3_read 22 = .ok (.istore 4, 2) := by decide +kernel
theorem dX3_read_24 : decode cX3_read 24 = .ok (.iload 4, 2) := by decide +kernel
theorem dX3_read_26 : decode cX3_read 26 = .ok (.iload_n 3, 1) := by decide +kernel
theorem dX3_read_27 : decode cX3_read 27 = .ok (.if_icmp .le 16, 3) := by decide +kernel
theorem dX3_read_30 : decode cX3_read 30 = .ok (.aload_n 0, 1) := by decide +kernel
theorem dX3_read_31 : decode cX3_read 31 = .ok (.aload_n 1, 1) := by decide +kernel
theorem dX3_read_32 : decode cX3_read 32 = .ok (.iload_n 3, 1) := by decide +kernel
theorem dX3_read_33 : decode cX3_read 33 = .ok (.invokevirtual 33, 3) := by decide +kernel
theorem dX3_read_36 : decode cX3_read 36 = .ok (.aload_n 2, 1) := by decide +kernel
theorem dX3_read_37 : decode cX3_read 37 = .ok (.invokevirtual 37, 3) := by decide +kernel
theorem dX3_read_40 : decode cX3_read 40 = .ok (.ifCond .ne 5, 3) := by decide +kernel
theorem dX3_read_43 : decode cX3_read 43 = .ok (.iload_n 3, 1) := by decide +kernel
theorem dX3_read_44 : decode cX3_read 44 = .ok (.ireturn, 1) := by decide +kernel
theorem dX3_read_45 : decode cX3_read 45 = .ok (.iload 4, 2) := by decide +kernel
theorem dX3_read_47 : decode cX3_read 47 = .ok (.istore_n 3, 1) := by decide +kernel
theorem dX3_read_48 : decode cX3_read 48 = .ok (.goto (-42), 3) := by decide +kernel
theorem dX3_read_51 : decode cX3_read 51 = .ok (.bipush (-4), 2) := by decide +kernel
theorem dX3_read_53 : decode cX3_read 53 = .ok (.ireturn, 1) := by decide +kernel
theorem dX3_readNumbers_0 : decode cX3_readNumbers 0 = .ok (.iload_n 2, 1) := by decide +kernel
theorem dX3_readNumbers_1 : decode cX3_readNumbers 1 = .ok (.istore_n 3, 1) := by decide +kernel
theorem dX3_readNumbers_2 : decode cX3_readNumbers 2 = .ok (.aload_n 0, 1) := by decide +kernel
theorem dX3_readNumbers_3 : decode cX3_readNumbers 3 = .ok (.iconst 0, 1) := by decide +kernel
theorem dX3_readNumbers_4 : decode cX3_readNumbers 4 = .ok (.putfield 15, 3) := by decide +kernel
theorem dX3_readNumbers_7 : decode cX3_readNumbers 7 = .ok (.iconst 0, 1) := by decide +kernel
theorem dX3_readNumbers_8 : decode cX3_readNumbers 8 = .ok (.istore 4, 2) := by decide +kernel
theorem dX3_readNumbers_10 : decode cX3_readNumbers 10 = .ok (.iload 4, 2) := by decide +kernel
theorem dX3_readNumbers_12 : decode cX3_readNumbers 12 = .ok (.iconst 5, 1) := by decide +kernel
theorem dX3_readNumbers_13 : decode cX3_readNumbers 13 = .ok (.if_icmp .ge 108, 3) := by decide +kernel
theorem dX3_readNumbers_16 : decode cX3_readNumbers 16 = .ok (.aload_n 1, 1) := by decide +kernel
theorem dX3_readNumbers_17 : decode cX3_readNumbers 17 = .ok (.iload_n 3, 1) := by decide +kernel
theorem dX3_readNumbers_18 : decode cX3_readNumbers 18 = .ok (.invokevirtual 41, 3) := by decide +kernel
theorem dX3_readNumbers_21 : decode cX3_readNumbers 21 = .ok (.ifCond .ne 6, 3) := by decide +kernel
theorem dX3_readNumbers_24 : decode cX3_readNumbers 24 = .ok (.bipush (-4), 2) := by decide +kernel
theorem dX3_readNumbers_26 : decode cX3_readNumbers 26 = .ok (.ireturn, 1) := by decide +kernel
theorem dX3_readNumbers_27 : decode cX3_readNumbers 27 = .ok (.aload_n 1, 1) := by decide +kernel
theorem dX3_readNumbers_28 : decode cX3_readNumbers 28 = .ok (.iload_n 3, 1) := by decide +kernel
theorem dX3_readNumbers_29 : decode cX3_readNumbers 29 = .ok (.invokevirtual 33, 3) := by decide +kernel
theorem dX3_readNumbers_32 : decode cX3_readNumbers 32 = .ok (.bipush 48, 2) := by decide +kernel
theorem dX3_readNumbers_34 : decode cX3_readNumbers 34 = .ok (.isub, 1) := by decide +kernel
theorem dX3_readNumbers_35 : decode cX3_readNumbers 35 = .ok (.istore 5, 2) := by decide +kernel
theorem dX3_readNumbers_37 : decode cX3_readNumbers 37 = .ok (.iinc 3 1, 3) := by decide +kernel
theorem dX3_readNumbers_40 : decode cX3_readNumbers 40 = .ok (.aload_n 1, 1) := by decide +kernel
theorem dX3_readNumbers_41 : decode cX3_readNumbers 41 = .ok (.iload_n 3, 1) := by decide +kernel
theorem dX3_readNumbers_42 : decode cX3_readNumbers 42 = .ok (.invokevirtual 41, 3) := by decide +kernel
theorem dX3_readNumbers_45 : decode cX3_readNumbers 45 = .ok (.ifCond .eq 22, 3) := by decide +kernel
theorem dX3_readNumbers_48 : decode cX3_readNumbers 48 = .ok (.bipush 10, 2) := by decide +kernel
theorem dX3_readNumbers_50 : decode cX3_readNumbers 50 = .ok (.iload 5, 2) := by decide +kernel
theorem dX3_readNumbers_52 : decode cX3_readNumbers 52 = .ok (.imul, 1) := by decide +kernel
theorem dX3_readNumbers_53 : decode cX3_readNumbers 53 = .ok (.aload_n 1, 1) := by decide +kernel
theorem dX3_readNumbers_54 : decode cX3_readNumbers 54 = .ok (.iload_n 3, 1) := by decide +kernel
theorem dX3_readNumbers_55 : decode cX3_readNumbers 55 = .ok (.invokevirtual 33, 3) := by decide +kernel
theorem dX3_readNumbers_58 : decode cX3_readNumbers 58 = .ok (.iadd, 1) := by decide +kernel
theorem dX3_readNumbers_59 : decode cX3_readNumbers 59 = .ok (.bipush 48, 2) := by decide +kernel
theorem dX3_readNumbers_61 : decode cX3_readNumbers 61 = .ok (.isub, 1) := by decide +kernel
theorem dX3_readNumbers_62 : decode cX3_readNumbers 62 = .ok (.istore 5, 2) := by decide +kernel
theorem dX3_readNumbers_64 : decode cX3_readNumbers 64 = .ok (.iinc 3 1, 3) := by decide +kernel
theorem dX3_readNumbers_67 : decode cX3_readNumbers 67 = .ok (.aload_n 0, 1) := by decide +kernel
theorem dX3_readNumbers_68 : decode cX3_readNumbers 68 = .ok (.getfield 11, 3) := by decide +kernel
theorem dX3_readNumbers_71 : decode cX3_readNumbers 71 = .ok (.iload 4, 2) := by decide +kernel
theorem dX3_readNumbers_73 : decode cX3_readNumbers 73 = .ok (.iload 5, 2) := by decide +kernel
theorem dX3_readNumbers_75 : decode cX3_readNumbers 75 = .ok (.invokestatic 45, 3) := by decide +kernel
theorem dX3_readNumbers_78 : decode cX3_readNumbers 78 = .ok (.aload_n 0, 1) := by decide +kernel
theorem dX3_readNumbers_79 : decode cX3_readNumbers 79 = .ok (.iload 4, 2) := by decide +kernel
theorem dX3_readNumbers_81 : decode cX3_readNumbers 81 = .ok (.iconst 1, 1) := by decide +kernel
theorem dX3_readNumbers_82 : decode cX3_readNumbers 82 = .ok (.iadd, 1) := by decide +kernel
theorem dX3_readNumbers_83 : decode cX3_readNumbers 83 = .ok (.putfield 15, 3) := by decide +kernel
theorem dX3_readNumbers_86 : decode cX3_readNumbers 86 = .ok (.aload_n 1, 1) := by decide +kernel
theorem dX3_readNumbers_87 : decode cX3_readNumbers 87 = .ok (.iload_n 3, 1) := by decide +kernel
theorem dX3_readNumbers_88 : decode cX3_readNumbers 88 = .ok (.invokevirtual 33, 3) := by decide +kernel
theorem dX3_readNumbers_91 : decode cX3_readNumbers 91 = .ok (.istore 6, 2) := by decide +kernel
theorem dX3_readNumbers_93 : decode cX3_readNumbers 93 = .ok (.iinc 3 1, 3) := by decide +kernel
theorem dX3_readNumbers_96 : decode cX3_readNumbers 96 = .ok (.iload 6, 2) := by decide +kernel
theorem dX3_readNumbers_98 : decode cX3_readNumbers 98 = .ok (.bipush 59, 2) := by decide +kernel
theorem dX3_readNumbers_100 : decode cX3_readNumbers 100 = .ok (.if_icmp .ne 5, 3) := by decide +kernel
theorem dX3_readNumbers_103 : decode cX3_readNumbers 103 = .ok (.iload_n 3, 1) := by decide +kernel
theorem dX3_readNumbers_104 : decode cX3_readNumbers 104 = .ok (.ireturn, 1) := by decide +kernel
theorem dX3_readNumbers_105 : decode cX3_readNumbers 105 = .ok (.iload 6, 2) := by decide +kernel
theorem dX3_readNumbers_107 : decode cX3_readNumbers 107 = .ok (.bipush 44, 2) := by decide +kernel
theorem dX3_readNumbers_109 : decode cX3_readNumbers 109 = .ok (.if_icmp .eq 6, 3) := by decide +kernel
theorem dX3_readNumbers_112 : decode cX3_readNumbers 112 = .ok (.bipush (-4), 2) := by decide +kernel
theorem dX3_readNumbers_114 : decode cX3_readNumbers 114 = .ok (.ireturn, 1) := by decide +kernel
theorem dX3_readNumbers_115 : decode cX3_readNumbers 115 = .ok (.iinc 4 1, 3) := by decide +kernel
theorem dX3_readNumbers_118 : decode cX3_readNumbers 118 = .ok (.goto (-108), 3) := by decide +kernel
theorem dX3_readNumbers_121 : decode cX3_readNumbers 121 = .ok (.bipush (-4), 2) := by decide +kernel
theorem dX3_readNumbers_123 : decode cX3_readNumbers 123 = .ok (.ireturn, 1) := by decide +kernel
theorem dX3_takeItem_0 : decode cX3_takeItem 0 = .ok (.iload_n 1, 1) := by decide +kernel
theorem dX3_takeItem_1 : decode cX3_takeItem 1 = .ok (.lookupswitch 81 #[(97, 63), (100, 75), (108, 69), (110, 51), (112, 57)], 51) := by decide +kernel
theorem dX3_takeItem_52 : decode cX3_takeItem 52 = .ok (.aload_n 0, 1) := by decide +kernel
theorem dX3_takeItem_53 : decode cX3_takeItem 53 = .ok (.aload_n 2, 1) := by decide +kernel
theorem dX3_takeItem_54 : decode cX3_takeItem 54 = .ok (.invokevirtual 51, 3) := by decide +kernel
theorem dX3_takeItem_57 : decode cX3_takeItem 57 = .ok (.ireturn, 1) := by decide +kernel
theorem dX3_takeItem_58 : decode cX3_takeItem 58 = .ok (.aload_n 0, 1) := by decide +kernel
theorem dX3_takeItem_59 : decode cX3_takeItem 59 = .ok (.aload_n 2, 1) := by decide +kernel
theorem dX3_takeItem_60 : decode cX3_takeItem 60 = .ok (.invokevirtual 55, 3) := by decide +kernel
theorem dX3_takeItem_63 : decode cX3_takeItem 63 = .ok (.ireturn, 1) := by decide +kernel
theorem dX3_takeItem_64 : decode cX3_takeItem 64 = .ok (.aload_n 0, 1) := by decide +kernel
theorem dX3_takeItem_65 : decode cX3_takeItem 65 = .ok (.aload_n 2, 1) := by decide +kernel
theorem dX3_takeItem_66 : decode cX3_takeItem 66 = .ok (.invokevirtual 58, 3) := by decide +kernel
theorem dX3_takeItem_69 : decode cX3_takeItem 69 = .ok (.ireturn, 1) := by decide +kernel
theorem dX3_takeItem_70 : decode cX3_takeItem 70 = .ok (.aload_n 0, 1) := by decide +kernel
theorem dX3_takeItem_71 : decode cX3_takeItem 71 = .ok (.aload_n 2, 1) := by decide +kernel
theorem dX3_takeItem_72 : decode cX3_takeItem 72 = .ok (.invokevirtual 61, 3) := by decide +kernel
theorem dX3_takeItem_75 : decode cX3_takeItem 75 = .ok (.ireturn, 1) := by decide +kernel
theorem dX3_takeItem_76 : decode cX3_takeItem 76 = .ok (.aload_n 0, 1) := by decide +kernel
theorem dX3_takeItem_77 : decode cX3_takeItem 77 = .ok (.aload_n 2, 1) := by decide +kernel
theorem dX3_takeItem_78 : decode cX3_takeItem 78 = .ok (.invokevirtual 64, 3) := by decide +kernel
theorem dX3_takeItem_81 : decode cX3_takeItem 81 = .ok (.ireturn, 1) := by decide +kernel
theorem dX3_takeItem_82 : decode cX3_takeItem 82 = .ok (.iconst 0, 1) := by decide +kernel
theorem dX3_takeItem_83 : decode cX3_takeItem 83 = .ok (.ireturn, 1) := by decide +kernel
theorem dX3_takeGround_0 : decode cX3_takeGround 0 = .ok (.aload_n 0, 1) := by decide +kernel
theorem dX3_takeGround_1 : decode cX3_takeGround 1 = .ok (.getfield 15, 3) := by decide +kernel
theorem dX3_takeGround_4 : decode cX3_takeGround 4 = .ok (.iconst 1, 1) := by decide +kernel
theorem dX3_takeGround_5 : decode cX3_takeGround 5 = .ok (.if_icmp .ne 17, 3) := by decide +kernel
theorem dX3_takeGround_8 : decode cX3_takeGround 8 = .ok (.aload_n 0, 1) := by decide +kernel
theorem dX3_takeGround_9 : decode cX3_takeGround 9 = .ok (.iconst 0, 1) := by decide +kernel
theorem dX3_takeGround_10 : decode cX3_takeGround 10 = .ok (.invokevirtual 67, 3) := by decide +kernel
theorem dX3_takeGround_13 : decode cX3_takeGround 13 = .ok (.iconst 5, 1) := by decide +kernel
theorem dX3_takeGround_14 : decode cX3_takeGround 14 = .ok (.bipush 40, 2) := by decide +kernel
theorem dX3_takeGround_16 : decode cX3_takeGround 16 = .ok (.invokestatic 70, 3) := by decide +kernel
theorem dX3_takeGround_19 : decode cX3_takeGround 19 = .ok (.ifCond .ne 5, 3) := by decide +kernel
theorem dX3_takeGround_22 : decode cX3_takeGround 22 = .ok (.iconst 0, 1) := by decide +kernel
theorem dX3_takeGround_23 : decode cX3_takeGround 23 = .ok (.ireturn, 1) := by decide +kernel
theorem dX3_takeGround_24 : decode cX3_takeGround 24 = .ok (.aload_n 1, 1) := by decide +kernel
theorem dX3_takeGround_25 : decode cX3_takeGround 25 = .ok (.aload_n 0, 1) := by decide +kernel
theorem dX3_takeGround_26 : decode cX3_takeGround 26 = .ok (.iconst 0, 1) := by decide +kernel
theorem dX3_takeGround_27 : decode cX3_takeGround 27 = .ok (.invokevirtual 67, 3) := by decide +kernel
theorem dX3_takeGround_30 : decode cX3_takeGround 30 = .ok (.putfield 74, 3) := by decide +kernel
theorem dX3_takeGround_33 : decode cX3_takeGround 33 = .ok (.iconst 1, 1) := by decide +kernel
theorem dX3_takeGround_34 : decode cX3_takeGround 34 = .ok (.ireturn, 1) := by decide +kernel
theorem dX3_takePlayer_0 : decode cX3_takePlayer 0 = .ok (.aload_n 0, 1) := by decide +kernel
theorem dX3_takePlayer_1 : decode cX3_takePlayer 1 = .ok (.getfield 15, 3) := by decide +kernel
theorem dX3_takePlayer_4 : decode cX3_takePlayer 4 = .ok (.iconst 5, 1) := by decide +kernel
theorem dX3_takePlayer_5 : decode cX3_takePlayer 5 = .ok (.if_icmp .ne 79, 3) := by decide +kernel
theorem dX3_takePlayer_8 : decode cX3_takePlayer 8 = .ok (.aload_n 1, 1) := by decide +kernel
theorem dX3_takePlayer_9 : decode cX3_takePlayer 9 = .ok (.getfield 77, 3) := by decide +kernel
theorem dX3_takePlayer_12 : decode cX3_takePlayer 12 = .ok (.iconst 5, 1) := by decide +kernel
theorem dX3_takePlayer_13 : decode cX3_takePlayer 13 = .ok (.if_icmp .ge 71, 3) := by decide +kernel
theorem dX3_takePlayer_16 : decode cX3_takePlayer 16 = .ok (.aload_n 0, 1) := by decide +kernel
theorem dX3_takePlayer_17 : decode cX3_takePlayer 17 = .ok (.iconst 0, 1) := by decide +kernel
theorem dX3_takePlayer_18 : decode cX3_takePlayer 18 = .ok (.invokevirtual 67, 3) := by decide +kernel
theorem dX3_takePlayer_21 : decode cX3_takePlayer 21 = .ok (.iconst 0, 1) := by decide +kernel
theorem dX3_takePlayer_22 : decode cX3_takePlayer 22 = .ok (.bipush 40, 2) := by decide +kernel
theorem dX3_takePlayer_24 : decode cX3_takePlayer 24 = .ok (.invokestatic 70, 3) := by decide +kernel
theorem dX3_takePlayer_27 : decode cX3_takePlayer 27 = .ok (.ifCond .eq 57, 3) := by decide +kernel
theorem dX3_takePlayer_30 : decode cX3_takePlayer 30 = .ok (.aload_n 0, 1) := by decide +kernel
theorem dX3_takePlayer_31 : decode cX3_takePlayer 31 = .ok (.iconst 1, 1) := by decide +kernel
theorem dX3_takePlayer_32 : decode cX3_takePlayer 32 = .ok (.invokevirtual 67, 3) := by decide +kernel
theorem dX3_takePlayer_35 : decode cX3_takePlayer 35 = .ok (.iconst 1, 1) := by decide +kernel
theorem dX3_takePlayer_36 : decode cX3_takePlayer 36 = .ok (.iconst 5, 1) := by decide +kernel
theorem dX3_takePlayer_37 : decode cX3_takePlayer 37 = .ok (.invokestatic 70, 3) := by decide +kernel
theorem dX3_takePlayer_40 : decode cX3_takePlayer 40 = .ok (.ifCond .eq 44, 3) := by decide +kernel
theorem dX3_takePlayer_43 : decode cX3_takePlayer 43 = .ok (.aload_n 0, 1) := by decide +kernel
theorem dX3_takePlayer_44 : decode cX3_takePlayer 44 = .ok (.iconst 2, 1) := by decide +kernel
theorem dX3_takePlayer_45 : decode cX3_takePlayer 45 = .ok (.invokevirtual 67, 3) := by decide +kernel
theorem dX3_takePlayer_48 : decode cX3_takePlayer 48 = .ok (.iconst 1, 1) := by decide +kernel
theorem dX3_takePlayer_49 : decode cX3_takePlayer 49 = .ok (.bipush 9, 2) := by decide +kernel
theorem dX3_takePlayer_51 : decode cX3_takePlayer 51 = .ok (.invokestatic 70, 3) := by decide +kernel
theorem dX3_takePlayer_54 : decode cX3_takePlayer 54 = .ok (.ifCond .eq 30, 3) := by decide +kernel
theorem dX3_takePlayer_57 : decode cX3_takePlayer 57 = .ok (.aload_n 0, 1) := by decide +kernel
theorem dX3_takePlayer_58 : decode cX3_takePlayer 58 = .ok (.iconst 3, 1) := by decide +kernel
theorem dX3_takePlayer_59 : decode cX3_takePlayer 59 = .ok (.invokevirtual 67, 3) := by decide +kernel
theorem dX3_takePlayer_62 : decode cX3_takePlayer 62 = .ok (.iconst 0, 1) := by decide +kernel
theorem dX3_takePlayer_63 : decode cX3_takePlayer 63 = .ok (.bipush 9, 2) := by decide +kernel
theorem dX3_takePlayer_65 : decode cX3_takePlayer 65 = .ok (.invokestatic 70, 3) := by decide +kernel
theorem dX3_takePlayer_68 : decode cX3_takePlayer 68 = .ok (.ifCond .eq 16, 3) := by decide +kernel
theorem dX3_takePlayer_71 : decode cX3_takePlayer 71 = .ok (.aload_n 0, 1) := by decide +kernel
theorem dX3_takePlayer_72 : decode cX3_takePlayer 72 = .ok (.iconst 4, 1) := by decide +kernel
theorem dX3_takePlayer_73 : decode cX3_takePlayer 73 = .ok (.invokevirtual 67, 3) := by decide +kernel
theorem dX3_takePlayer_76 : decode cX3_takePlayer 76 = .ok (.iconst 0, 1) := by decide +kernel
theorem dX3_takePlayer_77 : decode cX3_takePlayer 77 = .ok (.iconst 3, 1) := by decide +kernel
theorem dX3_takePlayer_78 : decode cX3_takePlayer 78 = .ok (.invokestatic 70, 3) := by decide +kernel
theorem dX3_takePlayer_81 : decode cX3_takePlayer 81 = .ok (.ifCond .ne 5, 3) := by decide +kernel
theorem dX3_takePlayer_84 : decode cX3_takePlayer 84 = .ok (.iconst 0, 1) := by decide +kernel
theorem dX3_takePlayer_85 : decode cX3_takePlayer 85 = .ok (.ireturn, 1) := by decide +kernel
theorem dX3_takePlayer_86 : decode cX3_takePlayer 86 = .ok (.aload_n 1, 1) := by decide +kernel
theorem dX3_takePlayer_87 : decode cX3_takePlayer 87 = .ok (.aload_n 0, 1) := by decide +kernel
theorem dX3_takePlayer_88 : decode cX3_takePlayer 88 = .ok (.iconst 0, 1) := by decide +kernel
theorem dX3_takePlayer_89 : decode cX3_takePlayer 89 = .ok (.invokevirtual 67, 3) := by decide +kernel
theorem dX3_takePlayer_92 : decode cX3_takePlayer 92 = .ok (.aload_n 0, 1) := by decide +kernel
theorem dX3_takePlayer_93 : decode cX3_takePlayer 93 = .ok (.iconst 1, 1) := by decide +kernel
theorem dX3_takePlayer_94 : decode cX3_takePlayer 94 = .ok (.invokevirtual 67, 3) := by decide +kernel
theorem dX3_takePlayer_97 : decode cX3_takePlayer 97 = .ok (.aload_n 0, 1) := by decide +kernel
theorem dX3_takePlayer_98 : decode cX3_takePlayer 98 = .ok (.iconst 2, 1) := by decide +kernel
theorem dX3_takePlayer_99 : decode cX3_takePlayer 99 = .ok (.invokevirtual 67, 3) := by decide +kernel
theorem dX3_takePlayer_102 : decode cX3_takePlayer 102 = .ok (.aload_n 0, 1) := by decide +kernel
theorem dX3_takePlayer_103 : decode cX3_takePlayer 103 = .ok (.iconst 3, 1) := by decide +kernel
theorem dX3_takePlayer_104 : decode cX3_takePlayer 104 = .ok (.invokevirtual 67, 3) := by decide +kernel
theorem dX3_takePlayer_107 : decode cX3_takePlayer 107 = .ok (.aload_n 0, 1) := by decide +kernel
theorem dX3_takePlayer_108 : decode cX3_takePlayer 108 = .ok (.iconst 4, 1) := by decide +kernel
theorem dX3_takePlayer_109 : decode cX3_takePlayer 109 = .ok (.invokevirtual 67, 3) := by decide +kernel
theorem dX3_takePlayer_112 : decode cX3_takePlayer 112 = .ok (.invokevirtual 78, 3) := by decide +kernel
theorem dX3_takePlayer_115 : decode cX3_takePlayer 115 = .ok (.iconst 1, 1) := by decide +kernel
theorem dX3_takePlayer_116 : decode cX3_takePlayer 116 = .ok (.ireturn, 1) := by decide +kernel
theorem dX3_takeCall_0 : decode cX3_takeCall 0 = .ok (.aload_n 0, 1) := by decide +kernel
theorem dX3_takeCall_1 : decode cX3_takeCall 1 = .ok (.getfield 15, 3) := by decide +kernel
theorem dX3_takeCall_4 : decode cX3_takeCall 4 = .ok (.iconst 4, 1) := by decide +kernel
theorem dX3_takeCall_5 : decode cX3_takeCall 5 = .ok (.if_icmp .ne 68, 3) := by decide +kernel
theorem dX3_takeCall_8 : decode cX3_takeCall 8 = .ok (.aload_n 1, 1) := by decide +kernel
theorem dX3_takeCall_9 : decode cX3_takeCall 9 = .ok (.aload_n 0, 1) := by decide +kernel
theorem dX3_takeCall_10 : decode cX3_takeCall 10 = .ok (.iconst 0, 1) := by decide +kernel
theorem dX3_takeCall_11 : decode cX3_takeCall 11 = .ok (.invokevirtual 67, 3) := by decide +kernel
theorem dX3_takeCall_14 : decode cX3_takeCall 14 = .ok (.invokevirtual 82, 3) := by decide +kernel
theorem dX3_takeCall_17 : decode cX3_takeCall 17 = .ok (.ifCond .eq 56, 3) := by decide +kernel
theorem dX3_takeCall_20 : decode cX3_takeCall 20 = .ok (.aload_n 1, 1) := by decide +kernel
theorem dX3_takeCall_21 : decode cX3_takeCall 21 = .ok (.aload_n 0, 1) := by decide +kernel
theorem dX3_takeCall_22 : decode cX3_takeCall 22 = .ok (.iconst 1, 1) := by decide +kernel
theorem dX3_takeCall_23 : decode cX3_takeCall 23 = .ok (.invokevirtual 67, 3) := by decide +kernel
theorem dX3_takeCall_26 : decode cX3_takeCall 26 = .ok (.invokevirtual 82, 3) := by decide +kernel
theorem dX3_takeCall_29 : decode cX3_takeCall 29 = .ok (.ifCond .eq 44, 3) := by decide +kernel
theorem dX3_takeCall_32 : decode cX3_takeCall 32 = .ok (.aload_n 0, 1) := by decide +kernel
theorem dX3_takeCall_33 : decode cX3_takeCall 33 = .ok (.iconst 0, 1) := by decide +kernel
theorem dX3_takeCall_34 : decode cX3_takeCall 34 = .ok (.invokevirtual 67, 3) := by decide +kernel
theorem dX3_takeCall_37 : decode cX3_takeCall 37 = .ok (.aload_n 0, 1) := by decide +kernel
theorem dX3_takeCall_38 : decode cX3_takeCall 38 = .ok (.iconst 1, 1) := by decide +kernel
theorem dX3_takeCall_39 : decode cX3_takeCall 39 = .ok (.invokevirtual 67, 3) := by decide +kernel
theorem dX3_takeCall_42 : decode cX3_takeCall 42 = .ok (.if_icmp .eq 31, 3) := by decide +kernel
theorem dX3_takeCall_45 : decode cX3_takeCall 45 = .ok (.aload_n 0, 1) := by decide +kernel
theorem dX3_takeCall_46 : decode cX3_takeCall 46 = .ok (.iconst 2, 1) := by decide +kernel
theorem dX3_takeCall_47 : decode cX3_takeCall 47 = .ok (.invokevirtual 67, 3) := by decide +kernel
theorem dX3_takeCall_50 : decode cX3_takeCall 50 = .ok (.iconst 0, 1) := by decide +kernel
theorem dX3_takeCall_51 : decode cX3_takeCall 51 = .ok (.bipush 40, 2) := by decide +kernel
theorem dX3_takeCall_53 : decode cX3_takeCall 53 = .ok (.invokestatic 70, 3) := by decide +kernel
theorem dX3_takeCall_56 : decode cX3_takeCall 56 = .ok (.ifCond .eq 17, 3) := by decide +kernel
theorem dX3_takeCall_59 : decode cX3_takeCall 59 = .ok (.aload_n 0, 1) := by decide +kernel
theorem dX3_takeCall_60 : decode cX3_takeCall 60 = .ok (.iconst 3, 1) := by decide +kernel
theorem dX3_takeCall_61 : decode cX3_takeCall 61 = .ok (.invokevirtual 67, 3) := by decide +kernel
theorem dX3_takeCall_64 : decode cX3_takeCall 64 = .ok (.iconst 1, 1) := by decide +kernel
theorem dX3_takeCall_65 : decode cX3_takeCall 65 = .ok (.bipush 9, 2) := by decide +kernel
theorem dX3_takeCall_67 : decode cX3_takeCall 67 = .ok (.invokestatic 70, 3) := by decide +kernel
theorem dX3_takeCall_70 : decode cX3_takeCall 70 = .ok (.ifCond .ne 5, 3) := by decide +kernel
theorem dX3_takeCall_73 : decode cX3_takeCall 73 = .ok (.iconst 0, 1) := by decide +kernel
theorem dX3_takeCall_74 : decode cX3_takeCall 74 = .ok (.ireturn, 1) := by decide +kernel
theorem dX3_takeCall_75 : decode cX3_takeCall 75 = .ok (.aload_n 1, 1) := by decide +kernel
theorem dX3_takeCall_76 : decode cX3_takeCall 76 = .ok (.aload_n 0, 1) := by decide +kernel
theorem dX3_takeCall_77 : decode cX3_takeCall 77 = .ok (.iconst 0, 1) := by decide +kernel
theorem dX3_takeCall_78 : decode cX3_takeCall 78 = .ok (.invokevirtual 67, 3) := by decide +kernel
theorem dX3_takeCall_81 : decode cX3_takeCall 81 = .ok (.invokevirtual 85, 3) := by decide +kernel
theorem dX3_takeCall_84 : decode cX3_takeCall 84 = .ok (.getfield 89, 3) := by decide +kernel
theorem dX3_takeCall_87 : decode cX3_takeCall 87 = .ok (.aload_n 0, 1) := by decide +kernel
theorem dX3_takeCall_88 : decode cX3_takeCall 88 = .ok (.iconst 1, 1) := by decide +kernel
theorem dX3_takeCall_89 : decode cX3_takeCall 89 = .ok (.invokevirtual 67, 3) := by decide +kernel
theorem dX3_takeCall_92 : decode cX3_takeCall 92 = .ok (.aload_n 0, 1) := by decide +kernel
theorem dX3_takeCall_93 : decode cX3_takeCall 93 = .ok (.iconst 2, 1) := by decide +kernel
theorem dX3_takeCall_94 : decode cX3_takeCall 94 = .ok (.invokevirtual 67, 3) := by decide +kernel
theorem dX3_takeCall_97 : decode cX3_takeCall 97 = .ok (.aload_n 0, 1) := by decide +kernel
theorem dX3_takeCall_98 : decode cX3_takeCall 98 = .ok (.iconst 3, 1) := by decide +kernel
theorem dX3_takeCall_99 : decode cX3_takeCall 99 = .ok (.invokevirtual 67, 3) := by decide +kernel
theorem dX3_takeCall_102 : decode cX3_takeCall 102 = .ok (.invokevirtual 95, 3) := by decide +kernel
theorem dX3_takeCall_105 : decode cX3_takeCall 105 = .ok (.iconst 1, 1) := by decide +kernel
theorem dX3_takeCall_106 : decode cX3_takeCall 106 = .ok (.ireturn, 1) := by decide +kernel
theorem dX3_takeLetters_0 : decode cX3_takeLetters 0 = .ok (.aload_n 0, 1) := by decide +kernel
theorem dX3_takeLetters_1 : decode cX3_takeLetters 1 = .ok (.getfield 15, 3) := by decide +kernel
theorem dX3_takeLetters_4 : decode cX3_takeLetters 4 = .ok (.iconst 2, 1) := by decide +kernel
theorem dX3_takeLetters_5 : decode cX3_takeLetters 5 = .ok (.if_icmp .ne 28, 3) := by decide +kernel
theorem dX3_takeLetters_8 : decode cX3_takeLetters 8 = .ok (.aload_n 1, 1) := by decide +kernel
theorem dX3_takeLetters_9 : decode cX3_takeLetters 9 = .ok (.aload_n 0, 1) := by decide +kernel
theorem dX3_takeLetters_10 : decode cX3_takeLetters 10 = .ok (.iconst 0, 1) := by decide +kernel
theorem dX3_takeLetters_11 : decode cX3_takeLetters 11 = .ok (.invokevirtual 67, 3) := by decide +kernel
theorem dX3_takeLetters_14 : decode cX3_takeLetters 14 = .ok (.invokevirtual 82, 3) := by decide +kernel
theorem dX3_takeLetters_17 : decode cX3_takeLetters 17 = .ok (.ifCond .eq 16, 3) := by decide +kernel
theorem dX3_takeLetters_20 : decode cX3_takeLetters 20 = .ok (.aload_n 0, 1) := by decide +kernel
theorem dX3_takeLetters_21 : decode cX3_takeLetters 21 = .ok (.iconst 1, 1) := by decide +kernel
theorem dX3_takeLetters_22 : decode cX3_takeLetters 22 = .ok (.invokevirtual 67, 3) := by decide +kernel
theorem dX3_takeLetters_25 : decode cX3_takeLetters 25 = .ok (.iconst 0, 1) := by decide +kernel
theorem dX3_takeLetters_26 : decode cX3_takeLetters 26 = .ok (.iconst 3, 1) := by decide +kernel
theorem dX3_takeLetters_27 : decode cX3_takeLetters 27 = .ok (.invokestatic 70, 3) := by decide +kernel
theorem dX3_takeLetters_30 : decode cX3_takeLetters 30 = .ok (.ifCond .ne 5, 3) := by decide +kernel
theorem dX3_takeLetters_33 : decode cX3_takeLetters 33 = .ok (.iconst 0, 1) := by decide +kernel
theorem dX3_takeLetters_34 : decode cX3_takeLetters 34 = .ok (.ireturn, 1) := by decide +kernel
theorem dX3_takeLetters_35 : decode cX3_takeLetters 35 = .ok (.aload_n 1, 1) := by decide +kernel
theorem dX3_takeLetters_36 : decode cX3_takeLetters 36 = .ok (.aload_n 0, 1) := by decide +kernel
theorem dX3_takeLetters_37 : decode cX3_takeLetters 37 = .ok (.iconst 0, 1) := by decide +kernel
theorem dX3_takeLetters_38 : decode cX3_takeLetters 38 = .ok (.invokevirtual 67, 3) := by decide +kernel
theorem dX3_takeLetters_41 : decode cX3_takeLetters 41 = .ok (.invokevirtual 85, 3) := by decide +kernel
theorem dX3_takeLetters_44 : decode cX3_takeLetters 44 = .ok (.getfield 89, 3) := by decide +kernel
theorem dX3_takeLetters_47 : decode cX3_takeLetters 47 = .ok (.aload_n 0, 1) := by decide +kernel
theorem dX3_takeLetters_48 : decode cX3_takeLetters 48 = .ok (.iconst 1, 1) := by decide +kernel
theorem dX3_takeLetters_49 : decode cX3_takeLetters 49 = .ok (.invokevirtual 67, 3) := by decide +kernel
theorem dX3_takeLetters_52 : decode cX3_takeLetters 52 = .ok (.putfield 101, 3) := by decide +kernel
theorem dX3_takeLetters_55 : decode cX3_takeLetters 55 = .ok (.iconst 1, 1) := by decide +kernel
theorem dX3_takeLetters_56 : decode cX3_takeLetters 56 = .ok (.ireturn, 1) := by decide +kernel
theorem dX3_takeSlide_0 : decode cX3_takeSlide 0 = .ok (.aload_n 0, 1) := by decide +kernel
theorem dX3_takeSlide_1 : decode cX3_takeSlide 1 = .ok (.getfield 15, 3) := by decide +kernel
theorem dX3_takeSlide_4 : decode cX3_takeSlide 4 = .ok (.iconst 1, 1) := by decide +kernel
theorem dX3_takeSlide_5 : decode cX3_takeSlide 5 = .ok (.if_icmp .ne 16, 3) := by decide +kernel
theorem dX3_takeSlide_8 : decode cX3_takeSlide 8 = .ok (.aload_n 0, 1) := by decide +kernel
theorem dX3_takeSlide_9 : decode cX3_takeSlide 9 = .ok (.iconst 0, 1) := by decide +kernel
theorem dX3_takeSlide_10 : decode cX3_takeSlide 10 = .ok (.invokevirtual 67, 3) := by decide +kernel
theorem dX3_takeSlide_13 : decode cX3_takeSlide 13 = .ok (.iconst 0, 1) := by decide +kernel
theorem dX3_takeSlide_14 : decode cX3_takeSlide 14 = .ok (.iconst 3, 1) := by decide +kernel
theorem dX3_takeSlide_15 : decode cX3_takeSlide 15 = .ok (.invokestatic 70, 3) := by decide +kernel
theorem dX3_takeSlide_18 : decode cX3_takeSlide 18 = .ok (.ifCond .ne 5, 3) := by decide +kernel
theorem dX3_takeSlide_21 : decode cX3_takeSlide 21 = .ok (.iconst 0, 1) := by decide +kernel
theorem dX3_takeSlide_22 : decode cX3_takeSlide 22 = .ok (.ireturn, 1) := by decide +kernel
theorem dX3_takeSlide_23 : decode cX3_takeSlide 23 = .ok (.aload_n 1, 1) := by decide +kernel
theorem dX3_takeSlide_24 : decode cX3_takeSlide 24 = .ok (.aload_n 0, 1) := by decide +kernel
theorem dX3_takeSlide_25 : decode cX3_takeSlide 25 = .ok (.iconst 0, 1) := by decide +kernel
theorem dX3_takeSlide_26 : decode cX3_takeSlide 26 = .ok (.invokevirtual 67, 3) := by decide +kernel
theorem dX3_takeSlide_29 : decode cX3_takeSlide 29 = .ok (.putfield 104, 3) := by decide +kernel
theorem dX3_takeSlide_32 : decode cX3_takeSlide 32 = .ok (.iconst 1, 1) := by decide +kernel
theorem dX3_takeSlide_33 : decode cX3_takeSlide 33 = .ok (.ireturn, 1) := by decide +kernel
theorem dX3_number_0 : decode cX3_number 0 = .ok (.aload_n 0, 1) := by decide +kernel
theorem dX3_number_1 : decode cX3_number 1 = .ok (.getfield 11, 3) := by decide +kernel
theorem dX3_number_4 : decode cX3_number 4 = .ok (.iload_n 1, 1) := by decide +kernel
theorem dX3_number_5 : decode cX3_number 5 = .ok (.invokestatic 107, 3) := by decide +kernel
theorem dX3_number_8 : decode cX3_number 8 = .ok (.ireturn, 1) := by decide +kernel
theorem dX4_init_0 : decode cX4_init 0 = .ok (.aload_n 0, 1) := by decide +kernel
theorem dX4_init_1 : decode cX4_init 1 = .ok (.invokespecial 3, 3) := by decide +kernel
theorem dX4_init_4 : decode cX4_init 4 = .ok (.aload_n 0, 1) := by decide +kernel
theorem dX4_init_5 : decode cX4_init 5 = .ok (.new 9, 3) := by decide +kernel
theorem dX4_init_8 : decode cX4_init 8 = .ok (.dup, 1) := by decide +kernel
theorem dX4_init_9 : decode cX4_init 9 = .ok (.invokespecial 11, 3) := by decide +kernel
theorem dX4_init_12 : decode cX4_init 12 = .ok (.putfield 12, 3) := by decide +kernel
theorem dX4_init_15 : decode cX4_init 15 = .ok (.aload_n 0, 1) := by decide +kernel
theorem dX4_init_16 : decode cX4_init 16 = .ok (.iconst 5, 1) := by decide +kernel
theorem dX4_init_17 : decode cX4_init 17 = .ok (.newarray .int, 2) := by decide +kernel
theorem dX4_init_19 : decode cX4_init 19 = .ok (.putfield 18, 3) := by decide +kernel
theorem dX4_init_22 : decode cX4_init 22 = .ok (.aload_n 0, 1) := by decide +kernel
theorem dX4_init_23 : decode cX4_init 23 = .ok (.iconst 5, 1) := by decide +kernel
theorem dX4_init_24 : decode cX4_init 24 = .ok (.newarray .int, 2) := by decide +kernel
theorem dX4_init_26 : decode cX4_init 26 = .ok (.putfield 22, 3) := by decide +kernel
theorem dX4_init_29 : decode cX4_init 29 = .ok (.aload_n 0, 1) := by decide +kernel
theorem dX4_init_30 : decode cX4_init 30 = .ok (.iconst 5, 1) := by decide +kernel
theorem dX4_init_31 : decode cX4_init 31 = .ok (.newarray .int, 2) := by decide +kernel
theorem dX4_init_33 : decode cX4_init 33 = .ok (.putfield 25, 3) := by decide +kernel
theorem dX4_init_36 : decode cX4_init 36 = .ok (.aload_n 0, 1) := by decide +kernel
theorem dX4_init_37 : decode cX4_init 37 = .ok (.iconst 0, 1) := by decide +kernel
theorem dX4_init_38 : decode cX4_init 38 = .ok (.putfield 28, 3) := by decide +kernel
theorem dX4_init_41 : decode cX4_init 41 = .ok (.aload_n 0, 1) := by decide +kernel
theorem dX4_init_42 : decode cX4_init 42 = .ok (.iconst 0, 1) := by decide +kernel
theorem dX4_init_43 : decode cX4_init 43 = .ok (.putfield 32, 3) := by decide +kernel
theorem dX4_init_46 : decode cX4_init 46 = .ok (.aload_n 0, 1) := by decide +kernel
theorem dX4_init_47 : decode cX4_init 47 = .ok (.iconst 0, 1) := by decide +kernel
theorem dX4_init_48 : decode cX4_init 48 = .ok (.putfield 35, 3) := by decide +kernel
theorem dX4_init_51 : decode cX4_init 51 = .ok (.return_, 1) := by decide +kernel
theorem dX4_playAsTold_0 : decode cX4_playAsTold 0 = .ok (.aload_n 0, 1) := by decide +kernel
theorem dX4_playAsTold_1 : decode cX4_playAsTold 1 = .ok (.getfield 12, 3) := by decide +kernel
theorem dX4_playAsTold_4 : decode cX4_playAsTold 4 = .ok (.iload_n 1, 1) := by decide +kernel
theorem dX4_playAsTold_5 : decode cX4_playAsTold 5 = .ok (.invokevirtual 38, 3) := by decide +kernel
theorem dX4_playAsTold_8 : decode cX4_playAsTold 8 = .ok (.getfield 42, 3) := by decide +kernel
theorem dX4_playAsTold_11 : decode cX4_playAsTold 11 = .ok (.astore_n 2, 1) := by decide +kernel
theorem dX4_playAsTold_12 : decode cX4_playAsTold 12 = .ok (.aload_n 0, 1) := by decide +kernel
theorem dX4_playAsTold_13 : decode cX4_playAsTold 13 = .ok (.aload_n 2, 1) := by decide +kernel
theorem dX4_playAsTold_14 : decode cX4_playAsTold 14 = .ok (.getfield 48, 3) := by decide +kernel
theorem dX4_playAsTold_17 : decode cX4_playAsTold 17 = .ok (.aload_n 2, 1) := by decide +kernel
theorem dX4_playAsTold_18 : decode cX4_playAsTold 18 = .ok (.getfield 51, 3) := by decide +kernel
theorem dX4_playAsTold_21 : decode cX4_playAsTold 21 = .ok (.aload_n 2, 1) := by decide +kernel
theorem dX4_playAsTold_22 : decode cX4_playAsTold 22 = .ok (.getfield 52, 3) := by decide +kernel
theorem dX4_playAsTold_25 : decode cX4_playAsTold 25 = .ok (.invokevirtual 55, 3) := by decide +kernel
theorem dX4_playAsTold_28 : decode cX4_playAsTold 28 = .ok (.return_, 1) := by decide +kernel
theorem dX4_playCall_0 : decode cX4_playCall 0 = .ok (.aload_n 0, 1) := by decide +kernel
theorem dX4_playCall_1 : decode cX4_playCall 1 = .ok (.iload_n 1, 1) := by decide +kernel
theorem dX4_playCall_2 : decode cX4_playCall 2 = .ok (.putfield 28, 3) := by decide +kernel
theorem dX4_playCall_5 : decode cX4_playCall 5 = .ok (.aload_n 0, 1) := by decide +kernel
theorem dX4_playCall_6 : decode cX4_playCall 6 = .ok (.iload_n 2, 1) := by decide +kernel
theorem dX4_playCall_7 : decode cX4_playCall 7 = .ok (.putfield 32, 3) := by decide +kernel
theorem dX4_playCall_10 : decode cX4_playCall 10 = .ok (.aload_n 0, 1) := by decide +kernel
theorem dX4_playCall_11 : decode cX4_playCall 11 = .ok (.iload_n 3, 1) := by decide +kernel
theorem dX4_playCall_12 : decode cX4_playCall 12 = .ok (.aload_n 0, 1) := by decide +kernel
theorem dX4_playCall_13 : decode cX4_playCall 13 = .ok (.aload_n 0, 1) := by decide +kernel
theorem dX4_playCall_14 : decode cX4_playCall 14 = .ok (.getfield 12, 3) := by decide +kernel
theorem dX4_playCall_17 : decode cX4_playCall 17 = .ok (.iload_n 1, 1) := by decide +kernel
theorem dX4_playCall_18 : decode cX4_playCall 18 = .ok (.invokevirtual 38, 3) := by decide +kernel
theorem dX4_playCall_21 : decode cX4_playCall 21 = .ok (.invokevirtual 59, 3) := by decide +kernel
theorem dX4_playCall_24 : decode cX4_playCall 24 = .ok (.invokestatic 63, 3) := by decide +kernel
theorem dX4_playCall_27 : decode cX4_playCall 27 = .ok (.putfield 35, 3) := by decide +kernel
theorem dX4_playCall_30 : decode cX4_playCall 30 = .ok (.iconst 0, 1) := by decide +kernel
theorem dX4_playCall_31 : decode cX4_playCall 31 = .ok (.istore 4, 2) := by decide +kernel
theorem dX4_playCall_33 : decode cX4_playCall 33 = .ok (.iload 4, 2) := by decide +kernel
theorem dX4_playCall_35 : decode cX4_playCall 35 = .ok (.aload_n 0, 1) := by decide +kernel
theorem dX4_playCall_36 : decode cX4_playCall 36 = .ok (.getfield 12, 3) := by decide +kernel
theorem dX4_playCall_39 : decode cX4_playCall 39 = .ok (.getfield 69, 3) := by decide +kernel
theorem dX4_playCall_42 : decode cX4_playCall 42 = .ok (.if_icmp .ge 27, 3) := by decide +kernel
theorem dX4_playCall_45 : decode cX4_playCall 45 = .ok (.aload_n 0, 1) := by decide +kernel
theorem dX4_playCall_46 : decode cX4_playCall 46 = .ok (.iload 4, 2) := by decide +kernel
theorem dX4_playCall_48 : decode cX4_playCall 48 = .ok (.aload_n 0, 1) := by decide +kernel
theorem dX4_playCall_49 : decode cX4_playCall 49 = .ok (.getfield 12, 3) := by decide +kernel
theorem dX4_playCall_52 : decode cX4_playCall 52 = .ok (.iload 4, 2) := by decide +kernel
theorem dX4_playCall_54 : decode cX4_playCall 54 = .ok (.invokevirtual 38, 3) := by decide +kernel
theorem dX4_playCall_57 : decode cX4_playCall 57 = .ok (.getfield 72, 3) := by decide +kernel
theorem dX4_playCall_60 : decode cX4_playCall 60 = .ok (.invokevirtual 75, 3) := by decide +kernel
theorem dX4_playCall_63 : decode cX4_playCall 63 = .ok (.iinc 4 1, 3) := by decide +kernel
theorem dX4_playCall_66 : decode cX4_playCall 66 = .ok (.goto (-33), 3) := by decide +kernel
theorem dX4_playCall_69 : decode cX4_playCall 69 = .ok (.return_, 1) := by decide +kernel
theorem dX4_suppose_0 : decode cX4_suppose 0 = .ok (.aload_n 0, 1) := by decide +kernel
theorem dX4_suppose_1 : decode cX4_suppose 1 = .ok (.getfield 12, 3) := by decide +kernel
theorem dX4_suppose_4 : decode cX4_suppose 4 = .ok (.iload_n 1, 1) := by decide +kernel
theorem dX4_suppose_5 : decode cX4_suppose 5 = .ok (.invokevirtual 38, 3) := by decide +kernel
theorem dX4_suppose_8 : decode cX4_suppose 8 = .ok (.astore_n 3, 1) := by decide +kernel
theorem dX4_suppose_9 : decode cX4_suppose 9 = .ok (.aload_n 3, 1) := by decide +kernel
theorem dX4_suppose_10 : decode cX4_suppose 10 = .ok (.getfield 79, 3) := by decide +kernel
theorem dX4_suppose_13 : decode cX4_suppose 13 = .ok (.aload_n 0, 1) := by decide +kernel
theorem dX4_suppose_14 : decode cX4_suppose 14 = .ok (.getfield 32, 3) := by decide +kernel
theorem dX4_suppose_17 : decode cX4_suppose 17 = .ok (.if_icmp .lt 13, 3) := by decide +kernel
theorem dX4_suppose_20 : decode cX4_suppose 20 = .ok (.aload_n 0, 1) := by decide +kernel
theorem dX4_suppose_21 : decode cX4_suppose 21 = .ok (.getfield 12, 3) := by decide +kernel
theorem dX4_suppose_24 : decode cX4_suppose 24 = .ok (.getfield 82, 3) := by decide +kernel
theorem dX4_suppose_27 : decode cX4_suppose 27 = .ok (.goto 4, 3) := by decide +kernel
theorem dX4_suppose_30 : decode cX4_suppose 30 = .ok (.iconst 0, 1) := by decide +kernel
theorem dX4_suppose_31 : decode cX4_suppose 31 = .ok (.istore 4, 2) := by decide +kernel
theorem dX4_suppose_33 : decode cX4_suppose 33 = .ok (.iload_n 2, 1) := by decide +kernel
theorem dX4_suppose_34 : decode cX4_suppose 34 = .ok (.iconst 2, 1) := by decide +kernel
theorem dX4_suppose_35 : decode cX4_suppose 35 = .ok (.if_icmp .ne 10, 3) := by decide +kernel
theorem dX4_suppose_38 : decode cX4_suppose 38 = .ok (.aload_n 0, 1) := by decide +kernel
theorem dX4_suppose_39 : decode cX4_suppose 39 = .ok (.getfield 32, 3) := by decide +kernel
theorem dX4_suppose_42 : decode cX4_suppose 42 = .ok (.goto 5, 3) := by decide +kernel
theorem dX4_suppose_45 : decode cX4_suppose 45 = .ok (.iload 4, 2) := by decide +kernel
theorem dX4_suppose_47 : decode cX4_suppose 47 = .ok (.istore 5, 2) := by decide +kernel
theorem dX4_suppose_49 : decode cX4_suppose 49 = .ok (.iload_n 2, 1) := by decide +kernel
theorem dX4_suppose_50 : decode cX4_suppose 50 = .ok (.iconst 1, 1) := by decide +kernel
theorem dX4_suppose_51 : decode cX4_suppose 51 = .ok (.if_icmp .ne 12, 3) := by decide +kernel
theorem dX4_suppose_54 : decode cX4_suppose 54 = .ok (.aload_n 0, 1) := by decide +kernel
theorem dX4_suppose_55 : decode cX4_suppose 55 = .ok (.getfield 35, 3) := by decide +kernel
theorem dX4_suppose_58 : decode cX4_suppose 58 = .ok (.iconst 1, 1) := by decide +kernel
theorem dX4_suppose_59 : decode cX4_suppose 59 = .ok (.isub, 1) := by decide +kernel
theorem dX4_suppose_60 : decode cX4_suppose 60 = .ok (.goto 7, 3) := by decide +kernel
theorem dX4_suppose_63 : decode cX4_suppose 63 = .ok (.aload_n 0, 1) := by decide +kernel
theorem dX4_suppose_64 : decode cX4_suppose 64 = .ok (.getfield 35, 3) := by decide +kernel
theorem dX4_suppose_67 : decode cX4_suppose 67 = .ok (.istore 6, 2) := by decide +kernel
theorem dX4_suppose_69 : decode cX4_suppose 69 = .ok (.iload_n 2, 1) := by decide +kernel
theorem dX4_suppose_70 : decode cX4_suppose 70 = .ok (.iconst 2, 1) := by decide +kernel
theorem dX4_suppose_71 : decode cX4_suppose 71 = .ok (.if_icmp .ne 7, 3) := by decide +kernel
theorem dX4_suppose_74 : decode cX4_suppose 74 = .ok (.iconst 0, 1) := by decide +kernel
theorem dX4_suppose_75 : decode cX4_suppose 75 = .ok (.goto 10, 3) := by decide +kernel
theorem dX4_suppose_78 : decode cX4_suppose 78 = .ok (.aload_n 0, 1) := by decide +kernel
theorem dX4_suppose_79 : decode cX4_suppose 79 = .ok (.getfield 12, 3) := by decide +kernel
theorem dX4_suppose_82 : decode cX4_suppose 82 = .ok (.getfield 85, 3) := by decide +kernel
theorem dX4_suppose_85 : decode cX4_suppose 85 = .ok (.istore 7, 2) := by decide +kernel
theorem dX4_suppose_87 : decode cX4_suppose 87 = .ok (.iload_n 1, 1) := by decide +kernel
theorem dX4_suppose_88 : decode cX4_suppose 88 = .ok (.aload_n 0, 1) := by decide +kernel
theorem dX4_suppose_89 : decode cX4_suppose 89 = .ok (.getfield 28, 3) := by decide +kernel
theorem dX4_suppose_92 : decode cX4_suppose 92 = .ok (.if_icmp .ne 10, 3) := by decide +kernel
theorem dX4_suppose_95 : decode cX4_suppose 95 = .ok (.aload_n 0, 1) := by decide +kernel
theorem dX4_suppose_96 : decode cX4_suppose 96 = .ok (.getfield 32, 3) := by decide +kernel
theorem dX4_suppose_99 : decode cX4_suppose 99 = .ok (.goto 22, 3) := by decide +kernel
theorem dX4_suppose_102 : decode cX4_suppose 102 = .ok (.iload 5, 2) := by decide +kernel
theorem dX4_suppose_104 : decode cX4_suppose 104 = .ok (.aload_n 3, 1) := by decide +kernel
theorem dX4_suppose_105 : decode cX4_suppose 105 = .ok (.getfield 79, 3) := by decide +kernel
theorem dX4_suppose_108 : decode cX4_suppose 108 = .ok (.iload 6, 2) := by decide +kernel
theorem dX4_suppose_110 : decode cX4_suppose 110 = .ok (.aload_n 3, 1) := by decide +kernel
theorem dX4_suppose_111 : decode cX4_suppose 111 = .ok (.getfield 88, 3) := by decide +kernel
theorem dX4_suppose_114 : decode cX4_suppose 114 = .ok (.imul, 1) := by decide +kernel
theorem dX4_suppose_115 : decode cX4_suppose 115 = .ok (.iload 7, 2) := by decide +kernel
theorem dX4_suppose_117 : decode cX4_suppose 117 = .ok (.iadd, 1) := by decide +kernel
theorem dX4_suppose_118 : decode cX4_suppose 118 = .ok (.invokestatic 91, 3) := by decide +kernel
theorem dX4_suppose_121 : decode cX4_suppose 121 = .ok (.istore 8, 2) := by decide +kernel
theorem dX4_suppose_123 : decode cX4_suppose 123 = .ok (.aload_n 0, 1) := by decide +kernel
theorem dX4_suppose_124 : decode cX4_suppose 124 = .ok (.getfield 18, 3) := by decide +kernel
theorem dX4_suppose_127 : decode cX4_suppose 127 = .ok (.iload_n 1, 1) := by decide +kernel
theorem dX4_suppose_128 : decode cX4_suppose 128 = .ok (.iload_n 2, 1) := by decide +kernel
theorem dX4_suppose_129 : decode cX4_suppose 129 = .ok (.invokestatic 95, 3) := by decide +kernel
theorem dX4_suppose_132 : decode cX4_suppose 132 = .ok (.aload_n 0, 1) := by decide +kernel
theorem dX4_suppose_133 : decode cX4_suppose 133 = .ok (.getfield 22, 3) := by decide +kernel
theorem dX4_suppose_136 : decode cX4_suppose 136 = .ok (.iload_n 1, 1) := by decide +kernel
theorem dX4_suppose_137 : decode cX4_suppose 137 = .ok (.iload 8, 2) := by decide +kernel
theorem dX4_suppose_139 : decode cX4_suppose 139 = .ok (.invokestatic 95, 3) := by decide +kernel
theorem dX4_suppose_142 : decode cX4_suppose 142 = .ok (.aload_n 0, 1) := by decide +kernel
theorem dX4_suppose_143 : decode cX4_suppose 143 = .ok (.getfield 25, 3) := by decide +kernel
theorem dX4_suppose_146 : decode cX4_suppose 146 = .ok (.iload_n 1, 1) := by decide +kernel
theorem dX4_suppose_147 : decode cX4_suppose 147 = .ok (.iload 8, 2) := by decide +kernel
theorem dX4_suppose_149 : decode cX4_suppose 149 = .ok (.aload_n 0, 1) := by decide +kernel
theorem dX4_suppose_150 : decode cX4_suppose 150 = .ok (.getfield 32, 3) := by decide +kernel
theorem dX4_suppose_153 : decode cX4_suppose 153 = .ok (.iconst 3, 1) := by decide +kernel
theorem dX4_suppose_154 : decode cX4_suppose 154 = .ok (.invokestatic 91, 3) := by decide +kernel
theorem dX4_suppose_157 : decode cX4_suppose 157 = .ok (.invokestatic 95, 3) := by decide +kernel
theorem dX4_suppose_160 : decode cX4_suppose 160 = .ok (.return_, 1) := by decide +kernel
theorem dX4_standOf_0 : decode cX4_standOf 0 = .ok (.aload_n 0, 1) := by decide +kernel
theorem dX4_standOf_1 : decode cX4_standOf 1 = .ok (.getfield 22, 3) := by decide +kernel
theorem dX4_standOf_4 : decode cX4_standOf 4 = .ok (.iload_n 1, 1) := by decide +kernel
theorem dX4_standOf_5 : decode cX4_standOf 5 = .ok (.invokestatic 101, 3) := by decide +kernel
theorem dX4_standOf_8 : decode cX4_standOf 8 = .ok (.ireturn, 1) := by decide +kernel
theorem dX4_target_0 : decode cX4_target 0 = .ok (.bipush (-4), 2) := by decide +kernel
theorem dX4_target_2 : decode cX4_target 2 = .ok (.istore_n 1, 1) := by decide +kernel
theorem dX4_target_3 : decode cX4_target 3 = .ok (.iconst (-1), 1) := by decide +kernel
theorem dX4_target_4 : decode cX4_target 4 = .ok (.istore_n 2, 1) := by decide +kernel
theorem dX4_target_5 : decode cX4_target 5 = .ok (.iconst 0, 1) := by decide +kernel
theorem dX4_target_6 : decode cX4_target 6 = .ok (.istore_n 3, 1) := by decide +kernel
theorem dX4_target_7 : decode cX4_target 7 = .ok (.iload_n 3, 1) := by decide +kernel
theorem dX4_target_8 : decode cX4_target 8 = .ok (.aload_n 0, 1) := by decide +kernel
theorem dX4_target_9 : decode cX4_target 9 = .ok (.getfield 12, 3) := by decide +kernel
theorem dX4_target_12 : decode cX4_target 12 = .ok (.getfield 69, 3) := by decide +kernel
theorem dX4_target_15 : decode cX4_target 15 = .ok (.if_icmp .ge 39, 3) := by decide +kernel
theorem dX4_target_18 : decode cX4_target 18 = .ok (.iload_n 3, 1) := by decide +kernel
theorem dX4_target_19 : decode cX4_target 19 = .ok (.aload_n 0, 1) := by decide +kernel
theorem dX4_target_20 : decode cX4_target 20 = .ok (.getfield 28, 3) := by decide +kernel
theorem dX4_target_23 : decode cX4_target 23 = .ok (.if_icmp .ne 7, 3) := by decide +kernel
theorem dX4_target_26 : decode cX4_target 26 = .ok (.iconst (-1), 1) := by decide +kernel
theorem dX4_target_27 : decode cX4_target 27 = .ok (.goto 8, 3) := by decide +kernel
theorem dX4_target_30 : decode cX4_target 30 = .ok (.aload_n 0, 1) := by decide +kernel
theorem dX4_target_31 : decode cX4_target 31 = .ok (.iload_n 3, 1) := by decide +kernel
theorem dX4_target_32 : decode cX4_target 32 = .ok (.invokevirtual 105, 3) := by decide +kernel
theorem dX4_target_35 : decode cX4_target 35 = .ok (.istore 4, 2) := by decide +kernel
theorem dX4_target_37 : decode cX4_target 37 = .ok (.iload 4, 2) := by decide +kernel
theorem dX4_target_39 : decode cX4_target 39 = .ok (.iload_n 2, 1) := by decide +kernel
theorem dX4_target_40 : decode cX4_target 40 = .ok (.if_icmp .le 8, 3) := by decide +kernel
theorem dX4_target_43 : decode cX4_target 43 = .ok (.iload 4, 2) := by decide +kernel
theorem dX4_target_45 : decode cX4_target 45 = .ok (.istore_n 2, 1) := by decide +kernel
theorem dX4_target_46 : decode cX4_target 46 = .ok (.iload_n 3, 1) := by decide +kernel
theorem dX4_target_47 : decode cX4_target 47 = .ok (.istore_n 1, 1) := by decide +kernel
theorem dX4_target_48 : decode cX4_target 48 = .ok (.iinc 3 1, 3) := by decide +kernel
theorem dX4_target_51 : decode cX4_target 51 = .ok (.goto (-44), 3) := by decide +kernel
theorem dX4_target_54 : decode cX4_target 54 = .ok (.iload_n 1, 1) := by decide +kernel
theorem dX4_target_55 : decode cX4_target 55 = .ok (.ireturn, 1) := by decide +kernel
theorem dX4_chanceOf_0 : decode cX4_chanceOf 0 = .ok (.aload_n 0, 1) := by decide +kernel
theorem dX4_chanceOf_1 : decode cX4_chanceOf 1 = .ok (.getfield 12, 3) := by decide +kernel
theorem dX4_chanceOf_4 : decode cX4_chanceOf 4 = .ok (.iload_n 1, 1) := by decide +kernel
theorem dX4_chanceOf_5 : decode cX4_chanceOf 5 = .ok (.invokevirtual 38, 3) := by decide +kernel
theorem dX4_chanceOf_8 : decode cX4_chanceOf 8 = .ok (.getfield 109, 3) := by decide +kernel
theorem dX4_chanceOf_11 : decode cX4_chanceOf 11 = .ok (.istore_n 2, 1) := by decide +kernel
theorem dX4_chanceOf_12 : decode cX4_chanceOf 12 = .ok (.aload_n 0, 1) := by decide +kernel
theorem dX4_chanceOf_13 : decode cX4_chanceOf 13 = .ok (.getfield 18, 3) := by decide +kernel
theorem dX4_chanceOf_16 : decode cX4_chanceOf 16 = .ok (.iload_n 1, 1) := by decide +kernel
theorem dX4_chanceOf_17 : decode cX4_chanceOf 17 = .ok (.invokestatic 101, 3) := by decide +kernel
theorem dX4_chanceOf_20 : decode cX4_chanceOf 20 = .ok (.iconst 3, 1) := by decide +kernel
theorem dX4_chanceOf_21 : decode cX4_chanceOf 21 = .ok (.if_icmp .ne 9, 3) := by decide +kernel
theorem dX4_chanceOf_24 : decode cX4_chanceOf 24 = .ok (.iload_n 2, 1) := by decide +kernel
theorem dX4_chanceOf_25 : decode cX4_chanceOf 25 = .ok (.iconst 2, 1) := by decide +kernel
theorem dX4_chanceOf_26 : decode cX4_chanceOf 26 = .ok (.idiv, 1) := by decide +kernel
theorem dX4_chanceOf_27 : decode cX4_chanceOf 27 = .ok (.goto 4, 3) := by decide +kernel
theorem dX4_chanceOf_30 : decode cX4_chanceOf 30 = .ok (.iload_n 2, 1) := by decide +kernel
theorem dX4_chanceOf_31 : decode cX4_chanceOf 31 = .ok (.istore_n 3, 1) := by decide +kernel
theorem dX4_chanceOf_32 : decode cX4_chanceOf 32 = .ok (.aload_n 0, 1) := by decide +kernel
theorem dX4_chanceOf_33 : decode cX4_chanceOf 33 = .ok (.getfield 22, 3) := by decide +kernel
theorem dX4_chanceOf_36 : decode cX4_chanceOf 36 = .ok (.iload_n 1, 1) := by decide +kernel
theorem dX4_chanceOf_37 : decode cX4_chanceOf 37 = .ok (.invokestatic 101, 3) := by decide +kernel
theorem dX4_chanceOf_40 : decode cX4_chanceOf 40 = .ok (.aload_n 0, 1) := by decide +kernel
theorem dX4_chanceOf_41 : decode cX4_chanceOf 41 = .ok (.getfield 25, 3) := by decide +kernel
theorem dX4_chanceOf_44 : decode cX4_chanceOf 44 = .ok (.iload_n 1, 1) := by decide +kernel
theorem dX4_chanceOf_45 : decode cX4_chanceOf 45 = .ok (.invokestatic 101, 3) := by decide +kernel
theorem dX4_chanceOf_48 : decode cX4_chanceOf 48 = .ok (.isub, 1) := by decide +kernel
theorem dX4_chanceOf_49 : decode cX4_chanceOf 49 = .ok (.invokestatic 112, 3) := by decide +kernel
theorem dX4_chanceOf_52 : decode cX4_chanceOf 52 = .ok (.istore 4, 2) := by decide +kernel
theorem dX4_chanceOf_54 : decode cX4_chanceOf 54 = .ok (.bipush 10, 2) := by decide +kernel
theorem dX4_chanceOf_56 : decode cX4_chanceOf 56 = .ok (.iconst 0, 1) := by decide +kernel
theorem dX4_chanceOf_57 : decode cX4_chanceOf 57 = .ok (.iload_n 3, 1) := by decide +kernel
theorem dX4_chanceOf_58 : decode cX4_chanceOf 58 = .ok (.aload_n 0, 1) := by decide +kernel
theorem dX4_chanceOf_59 : decode cX4_chanceOf 59 = .ok (.getfield 12, 3) := by decide +kernel
theorem dX4_chanceOf_62 : decode cX4_chanceOf 62 = .ok (.aload_n 0, 1) := by decide +kernel
theorem dX4_chanceOf_63 : decode cX4_chanceOf 63 = .ok (.getfield 28, 3) := by decide +kernel
theorem dX4_chanceOf_66 : decode cX4_chanceOf 66 = .ok (.invokevirtual 38, 3) := by decide +kernel
theorem dX4_chanceOf_69 : decode cX4_chanceOf 69 = .ok (.getfield 115, 3) := by decide +kernel
theorem dX4_chanceOf_72 : decode cX4_chanceOf 72 = .ok (.iadd, 1) := by decide +kernel
theorem dX4_chanceOf_73 : decode cX4_chanceOf 73 = .ok (.iload 4, 2) := by decide +kernel
theorem dX4_chanceOf_75 : decode cX4_chanceOf 75 = .ok (.isub, 1) := by decide +kernel
theorem dX4_chanceOf_76 : decode cX4_chanceOf 76 = .ok (.invokestatic 63, 3) := by decide +kernel
theorem dX4_chanceOf_79 : decode cX4_chanceOf 79 = .ok (.invokestatic 118, 3) := by decide +kernel
theorem dX4_chanceOf_82 : decode cX4_chanceOf 82 = .ok (.istore 5, 2) := by decide +kernel
theorem dX4_chanceOf_84 : decode cX4_chanceOf 84 = .ok (.aload_n 0, 1) := by decide +kernel
theorem dX4_chanceOf_85 : decode cX4_chanceOf 85 = .ok (.iload_n 1, 1) := by decide +kernel
theorem dX4_chanceOf_86 : decode cX4_chanceOf 86 = .ok (.invokevirtual 121, 3) := by decide +kernel
theorem dX4_chanceOf_89 : decode cX4_chanceOf 89 = .ok (.bipush (-4), 2) := by decide +kernel
theorem dX4_chanceOf_91 : decode cX4_chanceOf 91 = .ok (.if_icmp .ne 8, 3) := by decide +kernel
theorem dX4_chanceOf_94 : decode cX4_chanceOf 94 = .ok (.iload 5, 2) := by decide +kernel
theorem dX4_chanceOf_96 : decode cX4_chanceOf 96 = .ok (.goto 7, 3) := by decide +kernel
theorem dX4_chanceOf_99 : decode cX4_chanceOf 99 = .ok (.iload 5, 2) := by decide +kernel
theorem dX4_chanceOf_101 : decode cX4_chanceOf 101 = .ok (.iconst 2, 1) := by decide +kernel
theorem dX4_chanceOf_102 : decode cX4_chanceOf 102 = .ok (.idiv, 1) := by decide +kernel
theorem dX4_chanceOf_103 : decode cX4_chanceOf 103 = .ok (.ireturn, 1) := by decide +kernel
theorem dX4_hiderOf_0 : decode cX4_hiderOf 0 = .ok (.aload_n 0, 1) := by decide +kernel
theorem dX4_hiderOf_1 : decode cX4_hiderOf 1 = .ok (.getfield 25, 3) := by decide +kernel
theorem dX4_hiderOf_4 : decode cX4_hiderOf 4 = .ok (.iload_n 1, 1) := by decide +kernel
theorem dX4_hiderOf_5 : decode cX4_hiderOf 5 = .ok (.invokestatic 101, 3) := by decide +kernel
theorem dX4_hiderOf_8 : decode cX4_hiderOf 8 = .ok (.aload_n 0, 1) := by decide +kernel
theorem dX4_hiderOf_9 : decode cX4_hiderOf 9 = .ok (.getfield 22, 3) := by decide +kernel
theorem dX4_hiderOf_12 : decode cX4_hiderOf 12 = .ok (.iload_n 1, 1) := by decide +kernel
theorem dX4_hiderOf_13 : decode cX4_hiderOf 13 = .ok (.invokestatic 101, 3) := by decide +kernel
theorem dX4_hiderOf_16 : decode cX4_hiderOf 16 = .ok (.invokestatic 118, 3) := by decide +kernel
theorem dX4_hiderOf_19 : decode cX4_hiderOf 19 = .ok (.istore_n 2, 1) := by decide +kernel
theorem dX4_hiderOf_20 : decode cX4_hiderOf 20 = .ok (.aload_n 0, 1) := by decide +kernel
theorem dX4_hiderOf_21 : decode cX4_hiderOf 21 = .ok (.getfield 25, 3) := by decide +kernel
theorem dX4_hiderOf_24 : decode cX4_hiderOf 24 = .ok (.iload_n 1, 1) := by decide +kernel
theorem dX4_hiderOf_25 : decode cX4_hiderOf 25 = .ok (.invokestatic 101, 3) := by decide +kernel
theorem dX4_hiderOf_28 : decode cX4_hiderOf 28 = .ok (.aload_n 0, 1) := by decide +kernel
theorem dX4_hiderOf_29 : decode cX4_hiderOf 29 = .ok (.getfield 22, 3) := by decide +kernel
theorem dX4_hiderOf_32 : decode cX4_hiderOf 32 = .ok (.iload_n 1, 1) := by decide +kernel
theorem dX4_hiderOf_33 : decode cX4_hiderOf 33 = .ok (.invokestatic 101, 3) := by decide +kernel
theorem dX4_hiderOf_36 : decode cX4_hiderOf 36 = .ok (.invokestatic 63, 3) := by decide +kernel
theorem dX4_hiderOf_39 : decode cX4_hiderOf 39 = .ok (.istore_n 3, 1) := by decide +kernel
theorem dX4_hiderOf_40 : decode cX4_hiderOf 40 = .ok (.aload_n 0, 1) := by decide +kernel
theorem dX4_hiderOf_41 : decode cX4_hiderOf 41 = .ok (.getfield 12, 3) := by decide +kernel
theorem dX4_hiderOf_44 : decode cX4_hiderOf 44 = .ok (.iload_n 1, 1) := by decide +kernel
theorem dX4_hiderOf_45 : decode cX4_hiderOf 45 = .ok (.invokevirtual 38, 3) := by decide +kernel
theorem dX4_hiderOf_48 : decode cX4_hiderOf 48 = .ok (.getfield 109, 3) := by decide +kernel
theorem dX4_hiderOf_51 : decode cX4_hiderOf 51 = .ok (.istore 4, 2) := by decide +kernel
theorem dX4_hiderOf_53 : decode cX4_hiderOf 53 = .ok (.iconst 0, 1) := by decide +kernel
theorem dX4_hiderOf_54 : decode cX4_hiderOf 54 = .ok (.istore 5, 2) := by decide +kernel
theorem dX4_hiderOf_56 : decode cX4_hiderOf 56 = .ok (.iload 5, 2) := by decide +kernel
theorem dX4_hiderOf_58 : decode cX4_hiderOf 58 = .ok (.aload_n 0, 1) := by decide +kernel
theorem dX4_hiderOf_59 : decode cX4_hiderOf 59 = .ok (.getfield 12, 3) := by decide +kernel
theorem dX4_hiderOf_62 : decode cX4_hiderOf 62 = .ok (.getfield 69, 3) := by decide +kernel
theorem dX4_hiderOf_65 : decode cX4_hiderOf 65 = .ok (.if_icmp .ge 79, 3) := by decide +kernel
theorem dX4_hiderOf_68 : decode cX4_hiderOf 68 = .ok (.aload_n 0, 1) := by decide +kernel
theorem dX4_hiderOf_69 : decode cX4_hiderOf 69 = .ok (.getfield 22, 3) := by decide +kernel
theorem dX4_hiderOf_72 : decode cX4_hiderOf 72 = .ok (.iload 5, 2) := by decide +kernel
theorem dX4_hiderOf_74 : decode cX4_hiderOf 74 = .ok (.invokestatic 101, 3) := by decide +kernel
theorem dX4_hiderOf_77 : decode cX4_hiderOf 77 = .ok (.istore 6, 2) := by decide +kernel
theorem dX4_hiderOf_79 : decode cX4_hiderOf 79 = .ok (.iload 6, 2) := by decide +kernel
theorem dX4_hiderOf_81 : decode cX4_hiderOf 81 = .ok (.iload_n 2, 1) := by decide +kernel
theorem dX4_hiderOf_82 : decode cX4_hiderOf 82 = .ok (.if_icmp .le 13, 3) := by decide +kernel
theorem dX4_hiderOf_85 : decode cX4_hiderOf 85 = .ok (.iload 6, 2) := by decide +kernel
theorem dX4_hiderOf_87 : decode cX4_hiderOf 87 = .ok (.iload_n 3, 1) := by decide +kernel
theorem dX4_hiderOf_88 : decode cX4_hiderOf 88 = .ok (.if_icmp .ge 7, 3) := by decide +kernel
theorem dX4_hiderOf_91 : decode cX4_hiderOf 91 = .ok (.iconst 1, 1) := by decide +kernel
theorem dX4_hiderOf_92 : decode cX4_hiderOf 92 = .ok (.goto 4, 3) := by decide +kernel
theorem dX4_hiderOf_95 : decode cX4_hiderOf 95 = .ok (.iconst 0, 1) := by decide +kernel
theorem dX4_hiderOf_96 : decode cX4_hiderOf 96 = .ok (.istore 7, 2) := by decide +kernel
theorem dX4_hiderOf_98 : decode cX4_hiderOf 98 = .ok (.iload 5, 2) := by decide +kernel
theorem dX4_hiderOf_100 : decode cX4_hiderOf 100 = .ok (.iload_n 1, 1) := by decide +kernel
theorem dX4_hiderOf_101 : decode cX4_hiderOf 101 = .ok (.if_icmp .eq 37, 3) := by decide +kernel
theorem dX4_hiderOf_104 : decode cX4_hiderOf 104 = .ok (.iload 5, 2) := by decide +kernel
theorem dX4_hiderOf_106 : decode cX4_hiderOf 106 = .ok (.aload_n 0, 1) := by decide +kernel
theorem dX4_hiderOf_107 : decode cX4_hiderOf 107 = .ok (.getfield 28, 3) := by decide +kernel
theorem dX4_hiderOf_110 : decode cX4_hiderOf 110 = .ok (.if_icmp .eq 28, 3) := by decide +kernel
theorem dX4_hiderOf_113 : decode cX4_hiderOf 113 = .ok (.iload 7, 2) := by decide +kernel
theorem dX4_hiderOf_115 : decode cX4_hiderOf 115 = .ok (.ifCond .eq 23, 3) := by decide +kernel
theorem dX4_hiderOf_118 : decode cX4_hiderOf 118 = .ok (.aload_n 0, 1) := by decide +kernel
theorem dX4_hiderOf_119 : decode cX4_hiderOf 119 = .ok (.getfield 12, 3) := by decide +kernel
theorem dX4_hiderOf_122 : decode cX4_hiderOf 122 = .ok (.iload 5, 2) := by decide +kernel
theorem dX4_hiderOf_124 : decode cX4_hiderOf 124 = .ok (.invokevirtual 38, 3) := by decide +kernel
theorem dX4_hiderOf_127 : decode cX4_hiderOf 127 = .ok (.getfield 109, 3) := by decide +kernel
theorem dX4_hiderOf_130 : decode cX4_hiderOf 130 = .ok (.iload 4, 2) := by decide +kernel
theorem dX4_hiderOf_132 : decode cX4_hiderOf 132 = .ok (.if_icmp .lt 6, 3) := by decide +kernel
theorem dX4_hiderOf_135 : decode cX4_hiderOf 135 = .ok (.iload 5, 2) := by decide +kernel
theorem dX4_hiderOf_137 : decode cX4_hiderOf 137 = .ok (.ireturn, 1) := by decide +kernel
theorem dX4_hiderOf_138 : decode cX4_hiderOf 138 = .ok (.iinc 5 1, 3) := by decide +kernel
theorem dX4_hiderOf_141 : decode cX4_hiderOf 141 = .ok (.goto (-85), 3) := by decide +kernel
theorem dX4_hiderOf_144 : decode cX4_hiderOf 144 = .ok (.bipush (-4), 2) := by decide +kernel
theorem dX4_hiderOf_146 : decode cX4_hiderOf 146 = .ok (.ireturn, 1) := by decide +kernel
theorem dX4_beatsToBall_0 : decode cX4_beatsToBall 0 = .ok (.aload_n 0, 1) := by decide +kernel
theorem dX4_beatsToBall_1 : decode cX4_beatsToBall 1 = .ok (.getfield 32, 3) := by decide +kernel
theorem dX4_beatsToBall_4 : decode cX4_beatsToBall 4 = .ok (.aload_n 1, 1) := by decide +kernel
theorem dX4_beatsToBall_5 : decode cX4_beatsToBall 5 = .ok (.getfield 79, 3) := by decide +kernel
theorem dX4_beatsToBall_8 : decode cX4_beatsToBall 8 = .ok (.isub, 1) := by decide +kernel
theorem dX4_beatsToBall_9 : decode cX4_beatsToBall 9 = .ok (.invokestatic 112, 3) := by decide +kernel
theorem dX4_beatsToBall_12 : decode cX4_beatsToBall 12 = .ok (.istore_n 2, 1) := by decide +kernel
theorem dX4_beatsToBall_13 : decode cX4_beatsToBall 13 = .ok (.aload_n 1, 1) := by decide +kernel
theorem dX4_beatsToBall_14 : decode cX4_beatsToBall 14 = .ok (.getfield 88, 3) := by decide +kernel
theorem dX4_beatsToBall_17 : decode cX4_beatsToBall 17 = .ok (.ifCond .le 19, 3) := by decide +kernel
theorem dX4_beatsToBall_20 : decode cX4_beatsToBall 20 = .ok (.iload_n 2, 1) := by decide +kernel
theorem dX4_beatsToBall_21 : decode cX4_beatsToBall 21 = .ok (.aload_n 1, 1) := by decide +kernel
theorem dX4_beatsToBall_22 : decode cX4_beatsToBall 22 = .ok (.getfield 88, 3) := by decide +kernel
theorem dX4_beatsToBall_25 : decode cX4_beatsToBall 25 = .ok (.iadd, 1) := by decide +kernel
theorem dX4_beatsToBall_26 : decode cX4_beatsToBall 26 = .ok (.iconst 1, 1) := by decide +kernel
theorem dX4_beatsToBall_27 : decode cX4_beatsToBall 27 = .ok (.isub, 1) := by decide +kernel
theorem dX4_beatsToBall_28 : decode cX4_beatsToBall 28 = .ok (.aload_n 1, 1) := by decide +kernel
theorem dX4_beatsToBall_29 : decode cX4_beatsToBall 29 = .ok (.getfield 88, 3) := by decide +kernel
theorem dX4_beatsToBall_32 : decode cX4_beatsToBall 32 = .ok (.idiv, 1) := by decide +kernel
theorem dX4_beatsToBall_33 : decode cX4_beatsToBall 33 = .ok (.goto 4, 3) := by decide +kernel
theorem dX4_beatsToBall_36 : decode cX4_beatsToBall 36 = .ok (.iload_n 2, 1) := by decide +kernel
theorem dX4_beatsToBall_37 : decode cX4_beatsToBall 37 = .ok (.ireturn, 1) := by decide +kernel
theorem dX4_toward_0 : decode cX4_toward 0 = .ok (.iload_n 0, 1) := by decide +kernel
theorem dX4_toward_1 : decode cX4_toward 1 = .ok (.iload_n 1, 1) := by decide +kernel
theorem dX4_toward_2 : decode cX4_toward 2 = .ok (.if_icmp .lt 13, 3) := by decide +kernel
theorem dX4_toward_5 : decode cX4_toward 5 = .ok (.iload_n 0, 1) := by decide +kernel
theorem dX4_toward_6 : decode cX4_toward 6 = .ok (.iload_n 1, 1) := by decide +kernel
theorem dX4_toward_7 : decode cX4_toward 7 = .ok (.iload_n 2, 1) := by decide +kernel
theorem dX4_toward_8 : decode cX4_toward 8 = .ok (.iadd, 1) := by decide +kernel
theorem dX4_toward_9 : decode cX4_toward 9 = .ok (.invokestatic 118, 3) := by decide +kernel
theorem dX4_toward_12 : decode cX4_toward 12 = .ok (.goto 10, 3) := by decide +kernel
theorem dX4_toward_15 : decode cX4_toward 15 = .ok (.iload_n 0, 1) := by decide +kernel
theorem dX4_toward_16 : decode cX4_toward 16 = .ok (.iload_n 1, 1) := by decide +kernel
theorem dX4_toward_17 : decode cX4_toward 17 = .ok (.iload_n 2, 1) := by decide +kernel
theorem dX4_toward_18 : decode cX4_toward 18 = .ok (.isub, 1) := by decide +kernel
theorem dX4_toward_19 : decode cX4_toward 19 = .ok (.invokestatic 63, 3) := by decide +kernel
theorem dX4_toward_22 : decode cX4_toward 22 = .ok (.ireturn, 1) := by decide +kernel
theorem dX5_at_0 : decode cX5_at 0 = .ok (.iload_n 1, 1) := by decide +kernel
theorem dX5_at_1 : decode cX5_at 1 = .ok (.ifCond .lt 15, 3) := by decide +kernel
theorem dX5_at_4 : decode cX5_at 4 = .ok (.iload_n 1, 1) := by decide +kernel
theorem dX5_at_5 : decode cX5_at 5 = .ok (.aload_n 0, 1) := by decide +kernel
theorem dX5_at_6 : decode cX5_at 6 = .ok (.arraylength, 1) := by decide +kernel
theorem dX5_at_7 : decode cX5_at 7 = .ok (.if_icmp .ge 9, 3) := by decide +kernel
theorem dX5_at_10 : decode cX5_at 10 = .ok (.aload_n 0, 1) := by decide +kernel
theorem dX5_at_11 : decode cX5_at 11 = .ok (.iload_n 1, 1) := by decide +kernel
theorem dX5_at_12 : decode cX5_at 12 = .ok (.iaload, 1) := by decide +kernel
theorem dX5_at_13 : decode cX5_at 13 = .ok (.goto 4, 3) := by decide +kernel
theorem dX5_at_16 : decode cX5_at 16 = .ok (.iconst 0, 1) := by decide +kernel
theorem dX5_at_17 : decode cX5_at 17 = .ok (.ireturn, 1) := by decide +kernel
theorem dX5_put_0 : decode cX5_put 0 = .ok (.iload_n 1, 1) := by decide +kernel
theorem dX5_put_1 : decode cX5_put 1 = .ok (.ifCond .lt 13, 3) := by decide +kernel
theorem dX5_put_4 : decode cX5_put 4 = .ok (.iload_n 1, 1) := by decide +kernel
theorem dX5_put_5 : decode cX5_put 5 = .ok (.aload_n 0, 1) := by decide +kernel
theorem dX5_put_6 : decode cX5_put 6 = .ok (.arraylength, 1) := by decide +kernel
theorem dX5_put_7 : decode cX5_put 7 = .ok (.if_icmp .ge 7, 3) := by decide +kernel
theorem dX5_put_10 : decode cX5_put 10 = .ok (.aload_n 0, 1) := by decide +kernel
theorem dX5_put_11 : decode cX5_put 11 = .ok (.iload_n 1, 1) := by decide +kernel
theorem dX5_put_12 : decode cX5_put 12 = .ok (.iload_n 2, 1) := by decide +kernel
theorem dX5_put_13 : decode cX5_put 13 = .ok (.iastore, 1) := by decide +kernel
theorem dX5_put_14 : decode cX5_put 14 = .ok (.return_, 1) := by decide +kernel
theorem dX5_longAt_0 : decode cX5_longAt 0 = .ok (.iload_n 1, 1) := by decide +kernel
theorem dX5_longAt_1 : decode cX5_longAt 1 = .ok (.ifCond .lt 15, 3) := by decide +kernel
theorem dX5_longAt_4 : decode cX5_longAt 4 = .ok (.iload_n 1, 1) := by decide +kernel
theorem dX5_longAt_5 : decode cX5_longAt 5 = .ok (.aload_n 0, 1) := by decide +kernel
theorem dX5_longAt_6 : decode cX5_longAt 6 = .ok (.arraylength, 1) := by decide +kernel
theorem dX5_longAt_7 : decode cX5_longAt 7 = .ok (.if_icmp .ge 9, 3) := by decide +kernel
theorem dX5_longAt_10 : decode cX5_longAt 10 = .ok (.aload_n 0, 1) := by decide +kernel
theorem dX5_longAt_11 : decode cX5_longAt 11 = .ok (.iload_n 1, 1) := by decide +kernel
theorem dX5_longAt_12 : decode cX5_longAt 12 = .ok (.laload, 1) := by decide +kernel
theorem dX5_longAt_13 : decode cX5_longAt 13 = .ok (.goto 4, 3) := by decide +kernel
theorem dX5_longAt_16 : decode cX5_longAt 16 = .ok (.lconst 0, 1) := by decide +kernel
theorem dX5_longAt_17 : decode cX5_longAt 17 = .ok (.lreturn, 1) := by decide +kernel
theorem dX5_addLong_0 : decode cX5_addLong 0 = .ok (.iload_n 1, 1) := by decide +kernel
theorem dX5_addLong_1 : decode cX5_addLong 1 = .ok (.ifCond .lt 16, 3) := by decide +kernel
theorem dX5_addLong_4 : decode cX5_addLong 4 = .ok (.iload_n 1, 1) := by decide +kernel
theorem dX5_addLong_5 : decode cX5_addLong 5 = .ok (.aload_n 0, 1) := by decide +kernel
theorem dX5_addLong_6 : decode cX5_addLong 6 = .ok (.arraylength, 1) := by decide +kernel
theorem dX5_addLong_7 : decode cX5_addLong 7 = .ok (.if_icmp .ge 10, 3) := by decide +kernel
theorem dX5_addLong_10 : decode cX5_addLong 10 = .ok (.aload_n 0, 1) := by decide +kernel
theorem dX5_addLong_11 : decode cX5_addLong 11 = .ok (.iload_n 1, 1) := by decide +kernel
theorem dX5_addLong_12 : decode cX5_addLong 12 = .ok (.dup2, 1) := by decide +kernel
theorem dX5_addLong_13 : decode cX5_addLong 13 = .ok (.laload, 1) := by decide +kernel
theorem dX5_addLong_14 : decode cX5_addLong 14 = .ok (.lload_n 2, 1) := by decide +kernel
theorem dX5_addLong_15 : decode cX5_addLong 15 = .ok (.ladd, 1) := by decide +kernel
theorem dX5_addLong_16 : decode cX5_addLong 16 = .ok (.lastore, 1) := by decide +kernel
theorem dX5_addLong_17 : decode cX5_addLong 17 = .ok (.return_, 1) := by decide +kernel
theorem dX6_init_0 : decode cX6_init 0 = .ok (.aload_n 0, 1) := by decide +kernel
theorem dX6_init_1 : decode cX6_init 1 = .ok (.invokespecial 3, 3) := by decide +kernel
theorem dX6_init_4 : decode cX6_init 4 = .ok (.aload_n 0, 1) := by decide +kernel
theorem dX6_init_5 : decode cX6_init 5 = .ok (.iconst 0, 1) := by decide +kernel
theorem dX6_init_6 : decode cX6_init 6 = .ok (.putfield 9, 3) := by decide +kernel
theorem dX6_init_9 : decode cX6_init 9 = .ok (.aload_n 0, 1) := by decide +kernel
theorem dX6_init_10 : decode cX6_init 10 = .ok (.iconst 0, 1) := by decide +kernel
theorem dX6_init_11 : decode cX6_init 11 = .ok (.putfield 15, 3) := by decide +kernel
theorem dX6_init_14 : decode cX6_init 14 = .ok (.aload_n 0, 1) := by decide +kernel
theorem dX6_init_15 : decode cX6_init 15 = .ok (.iconst 0, 1) := by decide +kernel
theorem dX6_init_16 : decode cX6_init 16 = .ok (.putfield 19, 3) := by decide +kernel
theorem dX6_init_19 : decode cX6_init 19 = .ok (.aload_n 0, 1) := by decide +kernel
theorem dX6_init_20 : decode cX6_init 20 = .ok (.iconst 0, 1) := by decide +kernel
theorem dX6_init_21 : decode cX6_init 21 = .ok (.putfield 22, 3) := by decide +kernel
theorem dX6_init_24 : decode cX6_init 24 = .ok (.aload_n 0, 1) := by decide +kernel
theorem dX6_init_25 : decode cX6_init 25 = .ok (.iconst 0, 1) := by decide +kernel
theorem dX6_init_26 : decode cX6_init 26 = .ok (.putfield 25, 3) := by decide +kernel
theorem dX6_init_29 : decode cX6_init 29 = .ok (.return_, 1) := by decide +kernel
theorem dX6_search_0 : decode cX6_search 0 = .ok (.aload_n 0, 1) := by decide +kernel
theorem dX6_search_1 : decode cX6_search 1 = .ok (.iconst 0, 1) := by decide +kernel
theorem dX6_search_2 : decode cX6_search 2 = .ok (.putfield 9, 3) := by decide +kernel
theorem dX6_search_5 : decode cX6_search 5 = .ok (.iconst 0, 1) := by decide +kernel
theorem dX6_search_6 : decode cX6_search 6 = .ok (.istore_n 3, 1) := by decide +kernel
theorem dX6_search_7 : decode cX6_search 7 = .ok (.iload_n 3, 1) := by decide +kernel
theorem dX6_search_8 : decode cX6_search 8 = .ok (.aload_n 1, 1) := by decide +kernel
theorem dX6_search_9 : decode cX6_search 9 = .ok (.getfield 28, 3) := by decide +kernel
theorem dX6_search_12 : decode cX6_search 12 = .ok (.getfield 34, 3) := by decide +kernel
theorem dX6_search_15 : decode cX6_search 15 = .ok (.if_icmp .ge 57, 3) := by decide +kernel
theorem dX6_search_18 : decode cX6_search 18 = .ok (.iconst 0, 1) := by decide +kernel
theorem dX6_search_19 : decode cX6_search 19 = .ok (.istore 4, 2) := by decide +kernel
theorem dX6_search_21 : decode cX6_search 21 = .ok (.iload 4, 2) := by decide +kernel
theorem dX6_search_23 : decode cX6_search 23 = .ok (.aload_n 1, 1) := by decide +kernel
theorem dX6_search_24 : decode cX6_search 24 = .ok (.getfield 28, 3) := by decide +kernel
theorem dX6_search_27 : decode cX6_search 27 = .ok (.getfield 39, 3) := by decide +kernel
theorem dX6_search_30 : decode cX6_search 30 = .ok (.if_icmp .gt 36, 3) := by decide +kernel
theorem dX6_search_33 : decode cX6_search 33 = .ok (.iconst 1, 1) := by decide +kernel
theorem dX6_search_34 : decode cX6_search 34 = .ok (.istore 5, 2) := by decide +kernel
theorem dX6_search_36 : decode cX6_search 36 = .ok (.iload 5, 2) := by decide +kernel
theorem dX6_search_38 : decode cX6_search 38 = .ok (.bipush 9, 2) := by decide +kernel
theorem dX6_search_40 : decode cX6_search 40 = .ok (.if_icmp .gt 20, 3) := by decide +kernel
theorem dX6_search_43 : decode cX6_search 43 = .ok (.aload_n 0, 1) := by decide +kernel
theorem dX6_search_44 : decode cX6_search 44 = .ok (.aload_n 1, 1) := by decide +kernel
theorem dX6_search_45 : decode cX6_search 45 = .ok (.iload_n 2, 1) := by decide +kernel
theorem dX6_search_46 : decode cX6_search 46 = .ok (.iload_n 3, 1) := by decide +kernel
theorem dX6_search_47 : decode cX6_search 47 = .ok (.iload 4, 2) := by decide +kernel
theorem dX6_search_49 : decode cX6_search 49 = .ok (.iload 5, 2) := by decide +kernel
theorem dX6_search_51 : decode cX6_search 51 = .ok (.invokevirtual 42, 3) := by decide +kernel
theorem dX6_search_54 : decode cX6_search 54 = .ok (.iinc 5 1, 3) := by decide +kernel
theorem dX6_search_57 : decode cX6_search 57 = .ok (.goto (-21), 3) := by decide +kernel
theorem dX6_search_60 : decode cX6_search 60 = .ok (.iinc 4 1, 3) := by decide +kernel
theorem dX6_search_63 : decode cX6_search 63 = .ok (.goto (-42), 3) := by decide +kernel
theorem dX6_search_66 : decode cX6_search 66 = .ok (.iinc 3 1, 3) := by decide +kernel
theorem dX6_search_69 : decode cX6_search 69 = .ok (.goto (-62), 3) := by decide +kernel
theorem dX6_search_72 : decode cX6_search 72 = .ok (.return_, 1) := by decide +kernel
theorem dX6_tryCall_0 : decode cX6_tryCall 0 = .ok (.aload_n 0, 1) := by decide +kernel
theorem dX6_tryCall_1 : decode cX6_tryCall 1 = .ok (.getfield 9, 3) := by decide +kernel
theorem dX6_tryCall_4 : decode cX6_tryCall 4 = .ok (.ifCond .eq 14, 3) := by decide +kernel
theorem dX6_tryCall_7 : decode cX6_tryCall 7 = .ok (.aload_n 0, 1) := by decide +kernel
theorem dX6_tryCall_8 : decode cX6_tryCall 8 = .ok (.getfield 25, 3) := by decide +kernel
theorem dX6_tryCall_11 : decode cX6_tryCall 11 = .ok (.ifCond .ne 7, 3) := by decide +kernel
theorem dX6_tryCall_14 : decode cX6_tryCall 14 = .ok (.iconst 1, 1) := by decide +kernel
theorem dX6_tryCall_15 : decode cX6_tryCall 15 = .ok (.goto 4, 3) := by decide +kernel
theorem dX6_tryCall_18 : decode cX6_tryCall 18 = .ok (.iconst 0, 1) := by decide +kernel
theorem dX6_tryCall_19 : decode cX6_tryCall 19 = .ok (.istore 6, 2) := by decide +kernel
theorem dX6_tryCall_21 : decode cX6_tryCall 21 = .ok (.iload_n 2, 1) := by decide +kernel
theorem dX6_tryCall_22 : decode cX6_tryCall 22 = .ok (.iload_n 3, 1) := by decide +kernel
theorem dX6_tryCall_23 : decode cX6_tryCall 23 = .ok (.if_icmp .eq 8, 3) := by decide +kernel
theorem dX6_tryCall_26 : decode cX6_tryCall 26 = .ok (.iload 6, 2) := by decide +kernel
theorem dX6_tryCall_28 : decode cX6_tryCall 28 = .ok (.ifCond .eq 4, 3) := by decide +kernel
theorem dX6_tryCall_31 : decode cX6_tryCall 31 = .ok (.return_, 1) := by decide +kernel
theorem dX6_tryCall_32 : decode cX6_tryCall 32 = .ok (.aload_n 1, 1) := by decide +kernel
theorem dX6_tryCall_33 : decode cX6_tryCall 33 = .ok (.iload_n 3, 1) := by decide +kernel
theorem dX6_tryCall_34 : decode cX6_tryCall 34 = .ok (.iload 4, 2) := by decide +kernel
theorem dX6_tryCall_36 : decode cX6_tryCall 36 = .ok (.iload 5, 2) := by decide +kernel
theorem dX6_tryCall_38 : decode cX6_tryCall 38 = .ok (.invokevirtual 46, 3) := by decide +kernel
theorem dX6_tryCall_41 : decode cX6_tryCall 41 = .ok (.aload_n 1, 1) := by decide +kernel
theorem dX6_tryCall_42 : decode cX6_tryCall 42 = .ok (.invokevirtual 50, 3) := by decide +kernel
theorem dX6_tryCall_45 : decode cX6_tryCall 45 = .ok (.istore 7, 2) := by decide +kernel
theorem dX6_tryCall_47 : decode cX6_tryCall 47 = .ok (.aload_n 1, 1) := by decide +kernel
theorem dX6_tryCall_48 : decode cX6_tryCall 48 = .ok (.iload 7, 2) := by decide +kernel
theorem dX6_tryCall_50 : decode cX6_tryCall 50 = .ok (.invokevirtual 54, 3) := by decide +kernel
theorem dX6_tryCall_53 : decode cX6_tryCall 53 = .ok (.istore 8, 2) := by decide +kernel
theorem dX6_tryCall_55 : decode cX6_tryCall 55 = .ok (.aload_n 0, 1) := by decide +kernel
theorem dX6_tryCall_56 : decode cX6_tryCall 56 = .ok (.getfield 9, 3) := by decide +kernel
theorem dX6_tryCall_59 : decode cX6_tryCall 59 = .ok (.ifCond .eq 12, 3) := by decide +kernel
theorem dX6_tryCall_62 : decode cX6_tryCall 62 = .ok (.iload 8, 2) := by decide +kernel
theorem dX6_tryCall_64 : decode cX6_tryCall 64 = .ok (.aload_n 0, 1) := by decide +kernel
theorem dX6_tryCall_65 : decode cX6_tryCall 65 = .ok (.getfield 25, 3) := by decide +kernel
theorem dX6_tryCall_68 : decode cX6_tryCall 68 = .ok (.if_icmp .ge 7, 3) := by decide +kernel
theorem dX6_tryCall_71 : decode cX6_tryCall 71 = .ok (.iconst 1, 1) := by decide +kernel
theorem dX6_tryCall_72 : decode cX6_tryCall 72 = .ok (.goto 4, 3) := by decide +kernel
theorem dX6_tryCall_75 : decode cX6_tryCall 75 = .ok (.iconst 0, 1) := by decide +kernel
theorem dX6_tryCall_76 : decode cX6_tryCall 76 = .ok (.istore 9, 2) := by decide +kernel
theorem dX6_tryCall_78 : decode cX6_tryCall 78 = .ok (.iload 7, 2) := by decide +kernel
theorem dX6_tryCall_80 : decode cX6_tryCall 80 = .ok (.iload_n 2, 1) := by decide +kernel
theorem dX6_tryCall_81 : decode cX6_tryCall 81 = .ok (.if_icmp .eq 36, 3) := by decide +kernel
theorem dX6_tryCall_84 : decode cX6_tryCall 84 = .ok (.iload 9, 2) := by decide +kernel
theorem dX6_tryCall_86 : decode cX6_tryCall 86 = .ok (.ifCond .eq 31, 3) := by decide +kernel
theorem dX6_tryCall_89 : decode cX6_tryCall 89 = .ok (.aload_n 0, 1) := by decide +kernel
theorem dX6_tryCall_90 : decode cX6_tryCall 90 = .ok (.iconst 1, 1) := by decide +kernel
theorem dX6_tryCall_91 : decode cX6_tryCall 91 = .ok (.putfield 9, 3) := by decide +kernel
theorem dX6_tryCall_94 : decode cX6_tryCall 94 = .ok (.aload_n 0, 1) := by decide +kernel
theorem dX6_tryCall_95 : decode cX6_tryCall 95 = .ok (.iload_n 3, 1) := by decide +kernel
theorem dX6_tryCall_96 : decode cX6_tryCall 96 = .ok (.putfield 15, 3) := by decide +kernel
theorem dX6_tryCall_99 : decode cX6_tryCall 99 = .ok (.aload_n 0, 1) := by decide +kernel
theorem dX6_tryCall_100 : decode cX6_tryCall 100 = .ok (.iload 4, 2) := by decide +kernel
theorem dX6_tryCall_102 : decode cX6_tryCall 102 = .ok (.putfield 19, 3) := by decide +kernel
theorem dX6_tryCall_105 : decode cX6_tryCall 105 = .ok (.aload_n 0, 1) := by decide +kernel
theorem dX6_tryCall_106 : decode cX6_tryCall 106 = .ok (.iload 5, 2) := by decide +kernel
theorem dX6_tryCall_108 : decode cX6_tryCall 108 = .ok (.putfield 22, 3) := by decide +kernel
theorem dX6_tryCall_111 : decode cX6_tryCall 111 = .ok (.aload_n 0, 1) := by decide +kernel
theorem dX6_tryCall_112 : decode cX6_tryCall 112 = .ok (.iload 8, 2) := by decide +kernel
theorem dX6_tryCall_114 : decode cX6_tryCall 114 = .ok (.putfield 25, 3) := by decide +kernel
theorem dX6_tryCall_117 : decode cX6_tryCall 117 = .ok (.return_, 1) := by decide +kernel
theorem dX7_init_0 : decode cX7_init 0 = .ok (.aload_n 0, 1) := by decide +kernel
theorem dX7_init_1 : decode cX7_init 1 = .ok (.invokespecial 3, 3) := by decide +kernel
theorem dX7_init_4 : decode cX7_init 4 = .ok (.aload_n 0, 1) := by decide +kernel
theorem dX7_init_5 : decode cX7_init 5 = .ok (.iconst 0, 1) := by decide +kernel
theorem dX7_init_6 : decode cX7_init 6 = .ok (.putfield 9, 3) := by decide +kernel
theorem dX7_init_9 : decode cX7_init 9 = .ok (.aload_n 0, 1) := by decide +kernel
theorem dX7_init_10 : decode cX7_init 10 = .ok (.iconst 0, 1) := by decide +kernel
theorem dX7_init_11 : decode cX7_init 11 = .ok (.putfield 15, 3) := by decide +kernel
theorem dX7_init_14 : decode cX7_init 14 = .ok (.aload_n 0, 1) := by decide +kernel
theorem dX7_init_15 : decode cX7_init 15 = .ok (.iconst 1, 1) := by decide +kernel
theorem dX7_init_16 : decode cX7_init 16 = .ok (.iload_n 1, 1) := by decide +kernel
theorem dX7_init_17 : decode cX7_init 17 = .ok (.invokestatic 18, 3) := by decide +kernel
theorem dX7_init_20 : decode cX7_init 20 = .ok (.putfield 24, 3) := by decide +kernel
theorem dX7_init_23 : decode cX7_init 23 = .ok (.aload_n 0, 1) := by decide +kernel
theorem dX7_init_24 : decode cX7_init 24 = .ok (.aload_n 0, 1) := by decide +kernel
theorem dX7_init_25 : decode cX7_init 25 = .ok (.getfield 24, 3) := by decide +kernel
theorem dX7_init_28 : decode cX7_init 28 = .ok (.iconst 5, 1) := by decide +kernel
theorem dX7_init_29 : decode cX7_init 29 = .ok (.imul, 1) := by decide +kernel
theorem dX7_init_30 : decode cX7_init 30 = .ok (.anewarray 27, 3) := by decide +kernel
theorem dX7_init_33 : decode cX7_init 33 = .ok (.putfield 29, 3) := by decide +kernel
theorem dX7_init_36 : decode cX7_init 36 = .ok (.iconst 0, 1) := by decide +kernel
theorem dX7_init_37 : decode cX7_init 37 = .ok (.istore_n 2, 1) := by decide +kernel
theorem dX7_init_38 : decode cX7_init 38 = .ok (.iload_n 2, 1) := by decide +kernel
theorem dX7_init_39 : decode cX7_init 39 = .ok (.aload_n 0, 1) := by decide +kernel
theorem dX7_init_40 : decode cX7_init 40 = .ok (.getfield 29, 3) := by decide +kernel
theorem dX7_init_43 : decode cX7_init 43 = .ok (.arraylength, 1) := by decide +kernel
theorem dX7_init_44 : decode cX7_init 44 = .ok (.if_icmp .ge 22, 3) := by decide +kernel
theorem dX7_init_47 : decode cX7_init 47 = .ok (.aload_n 0, 1) := by decide +kernel
theorem dX7_init_48 : decode cX7_init 48 = .ok (.getfield 29, 3) := by decide +kernel
theorem dX7_init_51 : decode cX7_init 51 = .ok (.iload_n 2, 1) := by decide +kernel
theorem dX7_init_52 : decode cX7_init 52 = .ok (.new 27, 3) := by decide +kernel
theorem dX7_init_55 : decode cX7_init 55 = .ok (.dup, 1) := by decide +kernel
theorem dX7_init_56 : decode cX7_init 56 = .ok (.invokespecial 33, 3) := by decide +kernel
theorem dX7_init_59 : decode cX7_init 59 = .ok (.aastore, 1) := by decide +kernel
theorem dX7_init_60 : decode cX7_init 60 = .ok (.iinc 2 1, 3) := by decide +kernel
theorem dX7_init_63 : decode cX7_init 63 = .ok (.goto (-25), 3) := by decide +kernel
theorem dX7_init_66 : decode cX7_init 66 = .ok (.return_, 1) := by decide +kernel
theorem dX7_empty_0 : decode cX7_empty 0 = .ok (.aload_n 0, 1) := by decide +kernel
theorem dX7_empty_1 : decode cX7_empty 1 = .ok (.iconst 0, 1) := by decide +kernel
theorem dX7_empty_2 : decode cX7_empty 2 = .ok (.putfield 9, 3) := by decide +kernel
theorem dX7_empty_5 : decode cX7_empty 5 = .ok (.return_, 1) := by decide +kernel
theorem dX7_putNewest_0 : decode cX7_putNewest 0 = .ok (.aload_n 0, 1) := by decide +kernel
theorem dX7_putNewest_1 : decode cX7_putNewest 1 = .ok (.aload_n 0, 1) := by decide +kernel
theorem dX7_putNewest_2 : decode cX7_putNewest 2 = .ok (.getfield 15, 3) := by decide +kernel
theorem dX7_putNewest_5 : decode cX7_putNewest 5 = .ok (.iconst 1, 1) := by decide +kernel
theorem dX7_putNewest_6 : decode cX7_putNewest 6 = .ok (.iadd, 1) := by decide +kernel
theorem dX7_putNewest_7 : decode cX7_putNewest 7 = .ok (.aload_n 0, 1) := by decide +kernel
theorem dX7_putNewest_8 : decode cX7_putNewest 8 = .ok (.getfield 24, 3) := by decide +kernel
theorem dX7_putNewest_11 : decode cX7_putNewest 11 = .ok (.if_icmp .ge 12, 3) := by decide +kernel
theorem dX7_putNewest_14 : decode cX7_putNewest 14 = .ok (.aload_n 0, 1) := by decide +kernel
theorem dX7_putNewest_15 : decode cX7_putNewest 15 = .ok (.getfield 15, 3) := by decide +kernel
theorem dX7_putNewest_18 : decode cX7_putNewest 18 = .ok (.iconst 1, 1) := by decide +kernel
theorem dX7_putNewest_19 : decode cX7_putNewest 19 = .ok (.iadd, 1) := by decide +kernel
theorem dX7_putNewest_20 : decode cX7_putNewest 20 = .ok (.goto 4, 3) := by decide +kernel
theorem dX7_putNewest_23 : decode cX7_putNewest 23 = .ok (.iconst 0, 1) := by decide +kernel
theorem dX7_putNewest_24 : decode cX7_putNewest 24 = .ok (.putfield 15, 3) := by decide +kernel
theorem dX7_putNewest_27 : decode cX7_putNewest 27 = .ok (.aload_n 0, 1) := by decide +kernel
theorem dX7_putNewest_28 : decode cX7_putNewest 28 = .ok (.aload_n 0, 1) := by decide +kernel
theorem dX7_putNewest_29 : decode cX7_putNewest 29 = .ok (.getfield 24, 3) := by decide +kernel
theorem dX7_putNewest_32 : decode cX7_putNewest 32 = .ok (.aload_n 0, 1) := by decide +kernel
theorem dX7_putNewest_33 : decode cX7_putNewest 33 = .ok (.getfield 9, 3) := by decide +kernel
theorem dX7_putNewest_36 : decode cX7_putNewest 36 = .ok (.iconst 1, 1) := by decide +kernel
theorem dX7_putNewest_37 : decode cX7_putNewest 37 = .ok (.iadd, 1) := by decide +kernel
theorem dX7_putNewest_38 : decode cX7_putNewest 38 = .ok (.invokestatic 34, 3) := by decide +kernel
theorem dX7_putNewest_41 : decode cX7_putNewest 41 = .ok (.putfield 9, 3) := by decide +kernel
theorem dX7_putNewest_44 : decode cX7_putNewest 44 = .ok (.iconst 0, 1) := by decide +kernel
theorem dX7_putNewest_45 : decode cX7_putNewest 45 = .ok (.istore_n 2, 1) := by decide +kernel
theorem dX7_putNewest_46 : decode cX7_putNewest 46 = .ok (.iload_n 2, 1) := by decide +kernel
theorem dX7_putNewest_47 : decode cX7_putNewest 47 = .ok (.iconst 5, 1) := by decide +kernel
theorem dX7_putNewest_48 : decode cX7_putNewest 48 = .ok (.if_icmp .ge 31, 3) := by decide +kernel
theorem dX7_putNewest_51 : decode cX7_putNewest 51 = .ok (.aload_n 0, 1) := by decide +kernel
theorem dX7_putNewest_52 : decode cX7_putNewest 52 = .ok (.iload_n 2, 1) := by decide +kernel
theorem dX7_putNewest_53 : decode cX7_putNewest 53 = .ok (.invokevirtual 37, 3) := by decide +kernel
theorem dX7_putNewest_56 : decode cX7_putNewest 56 = .ok (.astore_n 3, 1) := by decide +kernel
theorem dX7_putNewest_57 : decode cX7_putNewest 57 = .ok (.aload_n 3, 1) := by decide +kernel
theorem dX7_putNewest_58 : decode cX7_putNewest 58 = .ok (.ifnull 15, 3) := by decide +kernel
theorem dX7_putNewest_61 : decode cX7_putNewest 61 = .ok (.aload_n 3, 1) := by decide +kernel
theorem dX7_putNewest_62 : decode cX7_putNewest 62 = .ok (.aload_n 1, 1) := by decide +kernel
theorem dX7_putNewest_63 : decode cX7_putNewest 63 = .ok (.iload_n 2, 1) := by decide +kernel
theorem dX7_putNewest_64 : decode cX7_putNewest 64 = .ok (.invokevirtual 41, 3) := by decide +kernel
theorem dX7_putNewest_67 : decode cX7_putNewest 67 = .ok (.getfield 47, 3) := by decide +kernel
theorem dX7_putNewest_70 : decode cX7_putNewest 70 = .ok (.invokevirtual 53, 3) := by decide +kernel
theorem dX7_putNewest_73 : decode cX7_putNewest 73 = .ok (.iinc 2 1, 3) := by decide +kernel
theorem dX7_putNewest_76 : decode cX7_putNewest 76 = .ok (.goto (-30), 3) := by decide +kernel
theorem dX7_putNewest_79 : decode cX7_putNewest 79 = .ok (.return_, 1) := by decide +kernel
theorem dX7_takeNewest_0 : decode cX7_takeNewest 0 = .ok (.aload_n 0, 1) := by decide +kernel
theorem dX7_takeNewest_1 : decode cX7_takeNewest 1 = .ok (.getfield 9, 3) := by decide +kernel
theorem dX7_takeNewest_4 : decode cX7_takeNewest 4 = .ok (.ifCond .ne 4, 3) := by decide +kernel
theorem dX7_takeNewest_7 : decode cX7_takeNewest 7 = .ok (.return_, 1) := by decide +kernel
theorem dX7_takeNewest_8 : decode cX7_takeNewest 8 = .ok (.iconst 0, 1) := by decide +kernel
theorem dX7_takeNewest_9 : decode cX7_takeNewest 9 = .ok (.istore_n 2, 1) := by decide +kernel
theorem dX7_takeNewest_10 : decode cX7_takeNewest 10 = .ok (.iload_n 2, 1) := by decide +kernel
theorem dX7_takeNewest_11 : decode cX7_takeNewest 11 = .ok (.iconst 5, 1) := by decide +kernel
theorem dX7_takeNewest_12 : decode cX7_takeNewest 12 = .ok (.if_icmp .ge 31, 3) := by decide +kernel
theorem dX7_takeNewest_15 : decode cX7_takeNewest 15 = .ok (.aload_n 0, 1) := by decide +kernel
theorem dX7_takeNewest_16 : decode cX7_takeNewest 16 = .ok (.iload_n 2, 1) := by decide +kernel
theorem dX7_takeNewest_17 : decode cX7_takeNewest 17 = .ok (.invokevirtual 37, 3) := by decide +kernel
theorem dX7_takeNewest_20 : decode cX7_takeNewest 20 = .ok (.astore_n 3, 1) := by decide +kernel
theorem dX7_takeNewest_21 : decode cX7_takeNewest 21 = .ok (.aload_n 3, 1) := by decide +kernel
theorem dX7_takeNewest_22 : decode cX7_takeNewest 22 = .ok (.ifnull 15, 3) := by decide +kernel
theorem dX7_takeNewest_25 : decode cX7_takeNewest 25 = .ok (.aload_n 1, 1) := by decide +kernel
theorem dX7_takeNewest_26 : decode cX7_takeNewest 26 = .ok (.iload_n 2, 1) := by decide +kernel
theorem dX7_takeNewest_27 : decode cX7_takeNewest 27 = .ok (.invokevirtual 41, 3) := by decide +kernel
theorem dX7_takeNewest_30 : decode cX7_takeNewest 30 = .ok (.getfield 47, 3) := by decide +kernel
theorem dX7_takeNewest_33 : decode cX7_takeNewest 33 = .ok (.aload_n 3, 1) := by decide +kernel
theorem dX7_takeNewest_34 : decode cX7_takeNewest 34 = .ok (.invokevirtual 53, 3) := by decide +kernel
theorem dX7_takeNewest_37 : decode cX7_takeNewest 37 = .ok (.iinc 2 1, 3) := by decide +kernel
theorem dX7_takeNewest_40 : decode cX7_takeNewest 40 = .ok (.goto (-30), 3) := by decide +kernel
theorem dX7_takeNewest_43 : decode cX7_takeNewest 43 = .ok (.aload_n 0, 1) := by decide +kernel
theorem dX7_takeNewest_44 : decode cX7_takeNewest 44 = .ok (.aload_n 0, 1) := by decide +kernel
theorem dX7_takeNewest_45 : decode cX7_takeNewest 45 = .ok (.getfield 15, 3) := by decide +kernel
theorem dX7_takeNewest_48 : decode cX7_takeNewest 48 = .ok (.ifCond .le 12, 3) := by decide +kernel
theorem dX7_takeNewest_51 : decode cX7_takeNewest 51 = .ok (.aload_n 0, 1) := by decide +kernel
theorem dX7_takeNewest_52 : decode cX7_takeNewest 52 = .ok (.getfield 15, 3) := by decide +kernel
theorem dX7_takeNewest_55 : decode cX7_takeNewest 55 = .ok (.iconst 1, 1) := by decide +kernel
theorem dX7_takeNewest_56 : decode cX7_takeNewest 56 = .ok (.isub, 1) := by decide +kernel
theorem dX7_takeNewest_57 : decode cX7_takeNewest 57 = .ok (.goto 9, 3) := by decide +kernel
theorem dX7_takeNewest_60 : decode cX7_takeNewest 60 = .ok (.aload_n 0, 1) := by decide +kernel
theorem dX7_takeNewest_61 : decode cX7_takeNewest 61 = .ok (.getfield 24, 3) := by decide +kernel
theorem dX7_takeNewest_64 : decode cX7_takeNewest 64 = .ok (.iconst 1, 1) := by decide +kernel
theorem dX7_takeNewest_65 : decode cX7_takeNewest 65 = .ok (.isub, 1) := by decide +kernel
theorem dX7_takeNewest_66 : decode cX7_takeNewest 66 = .ok (.putfield 15, 3) := by decide +kernel
theorem dX7_takeNewest_69 : decode cX7_takeNewest 69 = .ok (.aload_n 0, 1) := by decide +kernel
theorem dX7_takeNewest_70 : decode cX7_takeNewest 70 = .ok (.dup, 1) := by decide +kernel
theorem dX7_takeNewest_71 : decode cX7_takeNewest 71 = .ok (.getfield 9, 3) := by decide +kernel
theorem dX7_takeNewest_74 : decode cX7_takeNewest 74 = .ok (.iconst 1, 1) := by decide +kernel
theorem dX7_takeNewest_75 : decode cX7_takeNewest 75 = .ok (.isub, 1) := by decide +kernel
theorem dX7_takeNewest_76 : decode cX7_takeNewest 76 = .ok (.putfield 9, 3) := by decide +kernel
theorem dX7_takeNewest_79 : decode cX7_takeNewest 79 = .ok (.return_, 1) := by decide +kernel
theorem dX7_copyOf_0 : decode cX7_copyOf 0 = .ok (.aload_n 0, 1) := by decide +kernel
theorem dX7_copyOf_1 : decode cX7_copyOf 1 = .ok (.getfield 15, 3) := by decide +kernel
theorem dX7_copyOf_4 : decode cX7_copyOf 4 = .ok (.iconst 5, 1) := by decide +kernel
theorem dX7_copyOf_5 : decode cX7_copyOf 5 = .ok (.imul, 1) := by decide +kernel
theorem dX7_copyOf_6 : decode cX7_copyOf 6 = .ok (.iload_n 1, 1) := by decide +kernel
theorem dX7_copyOf_7 : decode cX7_copyOf 7 = .ok (.iadd, 1) := by decide +kernel
theorem dX7_copyOf_8 : decode cX7_copyOf 8 = .ok (.istore_n 2, 1) := by decide +kernel
theorem dX7_copyOf_9 : decode cX7_copyOf 9 = .ok (.iload_n 2, 1) := by decide +kernel
theorem dX7_copyOf_10 : decode cX7_copyOf 10 = .ok (.ifCond .lt 21, 3) := by decide +kernel
theorem dX7_copyOf_13 : decode cX7_copyOf 13 = .ok (.iload_n 2, 1) := by decide +kernel
theorem dX7_copyOf_14 : decode cX7_copyOf 14 = .ok (.aload_n 0, 1) := by decide +kernel
theorem dX7_copyOf_15 : decode cX7_copyOf 15 = .ok (.getfield 29, 3) := by decide +kernel
theorem dX7_copyOf_18 : decode cX7_copyOf 18 = .ok (.arraylength, 1) := by decide +kernel
theorem dX7_copyOf_19 : decode cX7_copyOf 19 = .ok (.if_icmp .ge 12, 3) := by decide +kernel
theorem dX7_copyOf_22 : decode cX7_copyOf 22 = .ok (.aload_n 0, 1) := by decide +kernel
theorem dX7_copyOf_23 : decode cX7_copyOf 23 = .ok (.getfield 29, 3) := by decide +kernel
theorem dX7_copyOf_26 : decode cX7_copyOf 26 = .ok (.iload_n 2, 1) := by decide +kernel
theorem dX7_copyOf_27 : decode cX7_copyOf 27 = .ok (.aaload, 1) := by decide +kernel
theorem dX7_copyOf_28 : decode cX7_copyOf 28 = .ok (.goto 4, 3) := by decide +kernel
theorem dX7_copyOf_31 : decode cX7_copyOf 31 = .ok (.aconst_null, 1) := by decide +kernel
theorem dX7_copyOf_32 : decode cX7_copyOf 32 = .ok (.areturn, 1) := by decide +kernel
theorem dX8_init_0 : decode cX8_init 0 = .ok (.aload_n 0, 1) := by decide +kernel
theorem dX8_init_1 : decode cX8_init 1 = .ok (.invokespecial 3, 3) := by decide +kernel
theorem dX8_init_4 : decode cX8_init 4 = .ok (.aload_n 0, 1) := by decide +kernel
theorem dX8_init_5 : decode cX8_init 5 = .ok (.bipush 8, 2) := by decide +kernel
theorem dX8_init_7 : decode cX8_init 7 = .ok (.newarray .int, 2) := by decide +kernel
theorem dX8_init_9 : decode cX8_init 9 = .ok (.putfield 9, 3) := by decide +kernel
theorem dX8_init_12 : decode cX8_init 12 = .ok (.aload_n 0, 1) := by decide +kernel
theorem dX8_init_13 : decode cX8_init 13 = .ok (.bipush 8, 2) := by decide +kernel
theorem dX8_init_15 : decode cX8_init 15 = .ok (.newarray .int, 2) := by decide +kernel
theorem dX8_init_17 : decode cX8_init 17 = .ok (.putfield 15, 3) := by decide +kernel
theorem dX8_init_20 : decode cX8_init 20 = .ok (.aload_n 0, 1) := by decide +kernel
theorem dX8_init_21 : decode cX8_init 21 = .ok (.bipush 8, 2) := by decide +kernel
theorem dX8_init_23 : decode cX8_init 23 = .ok (.newarray .int, 2) := by decide +kernel
theorem dX8_init_25 : decode cX8_init 25 = .ok (.putfield 18, 3) := by decide +kernel
theorem dX8_init_28 : decode cX8_init 28 = .ok (.aload_n 0, 1) := by decide +kernel
theorem dX8_init_29 : decode cX8_init 29 = .ok (.iconst 0, 1) := by decide +kernel
theorem dX8_init_30 : decode cX8_init 30 = .ok (.putfield 21, 3) := by decide +kernel
theorem dX8_init_33 : decode cX8_init 33 = .ok (.return_, 1) := by decide +kernel
theorem dX8_add_0 : decode cX8_add 0 = .ok (.aload_n 0, 1) := by decide +kernel
theorem dX8_add_1 : decode cX8_add 1 = .ok (.getfield 9, 3) := by decide +kernel
theorem dX8_add_4 : decode cX8_add 4 = .ok (.aload_n 0, 1) := by decide +kernel
theorem dX8_add_5 : decode cX8_add 5 = .ok (.getfield 21, 3) := by decide +kernel
theorem dX8_add_8 : decode cX8_add 8 = .ok (.iload_n 1, 1) := by decide +kernel
theorem dX8_add_9 : decode cX8_add 9 = .ok (.invokestatic 25, 3) := by decide +kernel
theorem dX8_add_12 : decode cX8_add 12 = .ok (.aload_n 0, 1) := by decide +kernel
theorem dX8_add_13 : decode cX8_add 13 = .ok (.getfield 15, 3) := by decide +kernel
theorem dX8_add_16 : decode cX8_add 16 = .ok (.aload_n 0, 1) := by decide +kernel
theorem dX8_add_17 : decode cX8_add 17 = .ok (.getfield 21, 3) := by decide +kernel
theorem dX8_add_20 : decode cX8_add 20 = .ok (.iload_n 2, 1) := by decide +kernel
theorem dX8_add_21 : decode cX8_add 21 = .ok (.invokestatic 25, 3) := by decide +kernel
theorem dX8_add_24 : decode cX8_add 24 = .ok (.aload_n 0, 1) := by decide +kernel
theorem dX8_add_25 : decode cX8_add 25 = .ok (.getfield 18, 3) := by decide +kernel
theorem dX8_add_28 : decode cX8_add 28 = .ok (.aload_n 0, 1) := by decide +kernel
theorem dX8_add_29 : decode cX8_add 29 = .ok (.getfield 21, 3) := by decide +kernel
theorem dX8_add_32 : decode cX8_add 32 = .ok (.iload_n 3, 1) := by decide +kernel
theorem dX8_add_33 : decode cX8_add 33 = .ok (.invokestatic 25, 3) := by decide +kernel
theorem dX8_add_36 : decode cX8_add 36 = .ok (.aload_n 0, 1) := by decide +kernel
theorem dX8_add_37 : decode cX8_add 37 = .ok (.dup, 1) := by decide +kernel
theorem dX8_add_38 : decode cX8_add 38 = .ok (.getfield 21, 3) := by decide +kernel
theorem dX8_add_41 : decode cX8_add 41 = .ok (.iconst 1, 1) := by decide +kernel
theorem dX8_add_42 : decode cX8_add 42 = .ok (.iadd, 1) := by decide +kernel
theorem dX8_add_43 : decode cX8_add 43 = .ok (.putfield 21, 3) := by decide +kernel
theorem dX8_add_46 : decode cX8_add 46 = .ok (.aload_n 0, 1) := by decide +kernel
theorem dX8_add_47 : decode cX8_add 47 = .ok (.getfield 21, 3) := by decide +kernel
theorem dX8_add_50 : decode cX8_add 50 = .ok (.ireturn, 1) := by decide +kernel
theorem dX8_empty_0 : decode cX8_empty 0 = .ok (.aload_n 0, 1) := by decide +kernel
theorem dX8_empty_1 : decode cX8_empty 1 = .ok (.getfield 21, 3) := by decide +kernel
theorem dX8_empty_4 : decode cX8_empty 4 = .ok (.istore_n 1, 1) := by decide +kernel
theorem dX8_empty_5 : decode cX8_empty 5 = .ok (.aload_n 0, 1) := by decide +kernel
theorem dX8_empty_6 : decode cX8_empty 6 = .ok (.iconst 0, 1) := by decide +kernel
theorem dX8_empty_7 : decode cX8_empty 7 = .ok (.putfield 21, 3) := by decide +kernel
theorem dX8_empty_10 : decode cX8_empty 10 = .ok (.iload_n 1, 1) := by decide +kernel
theorem dX8_empty_11 : decode cX8_empty 11 = .ok (.ireturn, 1) := by decide +kernel
theorem dX8_kindsOf_0 : decode cX8_kindsOf 0 = .ok (.iconst 0, 1) := by decide +kernel
theorem dX8_kindsOf_1 : decode cX8_kindsOf 1 = .ok (.istore_n 3, 1) := by decide +kernel
theorem dX8_kindsOf_2 : decode cX8_kindsOf 2 = .ok (.iconst 0, 1) := by decide +kernel
theorem dX8_kindsOf_3 : decode cX8_kindsOf 3 = .ok (.istore 4, 2) := by decide +kernel
theorem dX8_kindsOf_5 : decode cX8_kindsOf 5 = .ok (.iload 4, 2) := by decide +kernel
theorem dX8_kindsOf_7 : decode cX8_kindsOf 7 = .ok (.iconst 4, 1) := by decide +kernel
theorem dX8_kindsOf_8 : decode cX8_kindsOf 8 = .ok (.if_icmp .ge 27, 3) := by decide +kernel
theorem dX8_kindsOf_11 : decode cX8_kindsOf 11 = .ok (.aload_n 0, 1) := by decide +kernel
theorem dX8_kindsOf_12 : decode cX8_kindsOf 12 = .ok (.iload_n 1, 1) := by decide +kernel
theorem dX8_kindsOf_13 : decode cX8_kindsOf 13 = .ok (.iload 4, 2) := by decide +kernel
theorem dX8_kindsOf_15 : decode cX8_kindsOf 15 = .ok (.aload_n 2, 1) := by decide +kernel
theorem dX8_kindsOf_16 : decode cX8_kindsOf 16 = .ok (.invokevirtual 31, 3) := by decide +kernel
theorem dX8_kindsOf_19 : decode cX8_kindsOf 19 = .ok (.ifCond .eq 10, 3) := by decide +kernel
theorem dX8_kindsOf_22 : decode cX8_kindsOf 22 = .ok (.iload_n 3, 1) := by decide +kernel
theorem dX8_kindsOf_23 : decode cX8_kindsOf 23 = .ok (.iconst 1, 1) := by decide +kernel
theorem dX8_kindsOf_24 : decode cX8_kindsOf 24 = .ok (.iload 4, 2) := by decide +kernel
theorem dX8_kindsOf_26 : decode cX8_kindsOf 26 = .ok (.ishl, 1) := by decide +kernel
theorem dX8_kindsOf_27 : decode cX8_kindsOf 27 = .ok (.ior, 1) := by decide +kernel
theorem dX8_kindsOf_28 : decode cX8_kindsOf 28 = .ok (.istore_n 3, 1) := by decide +kernel
theorem dX8_kindsOf_29 : decode cX8_kindsOf 29 = .ok (.iinc 4 1, 3) := by decide +kernel
theorem dX8_kindsOf_32 : decode cX8_kindsOf 32 = .ok (.goto (-27), 3) := by decide +kernel
theorem dX8_kindsOf_35 : decode cX8_kindsOf 35 = .ok (.iload_n 3, 1) := by decide +kernel
theorem dX8_kindsOf_36 : decode cX8_kindsOf 36 = .ok (.ireturn, 1) := by decide +kernel
theorem dX8_allAreSo_0 : decode cX8_allAreSo 0 = .ok (.iconst 0, 1) := by decide +kernel
theorem dX8_allAreSo_1 : decode cX8_allAreSo 1 = .ok (.istore 4, 2) := by decide +kernel
theorem dX8_allAreSo_3 : decode cX8_allAreSo 3 = .ok (.iload 4, 2) := by decide +kernel
theorem dX8_allAreSo_5 : decode cX8_allAreSo 5 = .ok (.aload_n 0, 1) := by decide +kernel
theorem dX8_allAreSo_6 : decode cX8_allAreSo 6 = .ok (.getfield 21, 3) := by decide +kernel
theorem dX8_allAreSo_9 : decode cX8_allAreSo 9 = .ok (.if_icmp .ge 60, 3) := by decide +kernel
theorem dX8_allAreSo_12 : decode cX8_allAreSo 12 = .ok (.aload_n 0, 1) := by decide +kernel
theorem dX8_allAreSo_13 : decode cX8_allAreSo 13 = .ok (.getfield 15, 3) := by decide +kernel
theorem dX8_allAreSo_16 : decode cX8_allAreSo 16 = .ok (.iload 4, 2) := by decide +kernel
theorem dX8_allAreSo_18 : decode cX8_allAreSo 18 = .ok (.invokestatic 35, 3) := by decide +kernel
theorem dX8_allAreSo_21 : decode cX8_allAreSo 21 = .ok (.iload_n 1, 1) := by decide +kernel
theorem dX8_allAreSo_22 : decode cX8_allAreSo 22 = .ok (.if_icmp .ne 41, 3) := by decide +kernel
theorem dX8_allAreSo_25 : decode cX8_allAreSo 25 = .ok (.aload_n 3, 1) := by decide +kernel
theorem dX8_allAreSo_26 : decode cX8_allAreSo 26 = .ok (.aload_n 0, 1) := by decide +kernel
theorem dX8_allAreSo_27 : decode cX8_allAreSo 27 = .ok (.getfield 9, 3) := by decide +kernel
theorem dX8_allAreSo_30 : decode cX8_allAreSo 30 = .ok (.iload 4, 2) := by decide +kernel
theorem dX8_allAreSo_32 : decode cX8_allAreSo 32 = .ok (.invokestatic 35, 3) := by decide +kernel
theorem dX8_allAreSo_35 : decode cX8_allAreSo 35 = .ok (.invokevirtual 39, 3) := by decide +kernel
theorem dX8_allAreSo_38 : decode cX8_allAreSo 38 = .ok (.aload_n 3, 1) := by decide +kernel
theorem dX8_allAreSo_39 : decode cX8_allAreSo 39 = .ok (.iload_n 1, 1) := by decide +kernel
theorem dX8_allAreSo_40 : decode cX8_allAreSo 40 = .ok (.iload_n 2, 1) := by decide +kernel
theorem dX8_allAreSo_41 : decode cX8_allAreSo 41 = .ok (.invokevirtual 45, 3) := by decide +kernel
theorem dX8_allAreSo_44 : decode cX8_allAreSo 44 = .ok (.aload_n 3, 1) := by decide +kernel
theorem dX8_allAreSo_45 : decode cX8_allAreSo 45 = .ok (.iload_n 1, 1) := by decide +kernel
theorem dX8_allAreSo_46 : decode cX8_allAreSo 46 = .ok (.invokevirtual 49, 3) := by decide +kernel
theorem dX8_allAreSo_49 : decode cX8_allAreSo 49 = .ok (.aload_n 0, 1) := by decide +kernel
theorem dX8_allAreSo_50 : decode cX8_allAreSo 50 = .ok (.getfield 18, 3) := by decide +kernel
theorem dX8_allAreSo_53 : decode cX8_allAreSo 53 = .ok (.iload 4, 2) := by decide +kernel
theorem dX8_allAreSo_55 : decode cX8_allAreSo 55 = .ok (.invokestatic 35, 3) := by decide +kernel
theorem dX8_allAreSo_58 : decode cX8_allAreSo 58 = .ok (.if_icmp .eq 5, 3) := by decide +kernel
theorem dX8_allAreSo_61 : decode cX8_allAreSo 61 = .ok (.iconst 0, 1) := by decide +kernel
theorem dX8_allAreSo_62 : decode cX8_allAreSo 62 = .ok (.ireturn, 1) := by decide +kernel
theorem dX8_allAreSo_63 : decode cX8_allAreSo 63 = .ok (.iinc 4 1, 3) := by decide +kernel
theorem dX8_allAreSo_66 : decode cX8_allAreSo 66 = .ok (.goto (-63), 3) := by decide +kernel
theorem dX8_allAreSo_69 : decode cX8_allAreSo 69 = .ok (.iconst 1, 1) := by decide +kernel
theorem dX8_allAreSo_70 : decode cX8_allAreSo 70 = .ok (.ireturn, 1) := by decide +kernel
theorem dX9_init_0 : decode cX9_init 0 = .ok (.aload_n 0, 1) := by decide +kernel
theorem dX9_init_1 : decode cX9_init 1 = .ok (.invokespecial 3, 3) := by decide +kernel
theorem dX9_init_4 : decode cX9_init 4 = .ok (.aload_n 0, 1) := by decide +kernel
theorem dX9_init_5 : decode cX9_init 5 = .ok (.sipush 300, 3) := by decide +kernel
theorem dX9_init_8 : decode cX9_init 8 = .ok (.newarray .int, 2) := by decide +kernel
theorem dX9_init_10 : decode cX9_init 10 = .ok (.putfield 9, 3) := by decide +kernel
theorem dX9_init_13 : decode cX9_init 13 = .ok (.aload_n 0, 1) := by decide +kernel
theorem dX9_init_14 : decode cX9_init 14 = .ok (.iconst 0, 1) := by decide +kernel
theorem dX9_init_15 : decode cX9_init 15 = .ok (.putfield 15, 3) := by decide +kernel
theorem dX9_init_18 : decode cX9_init 18 = .ok (.return_, 1) := by decide +kernel
theorem dX9_hasRoomFor_0 : decode cX9_hasRoomFor 0 = .ok (.aload_n 0, 1) := by decide +kernel
theorem dX9_hasRoomFor_1 : decode cX9_hasRoomFor 1 = .ok (.getfield 15, 3) := by decide +kernel
theorem dX9_hasRoomFor_4 : decode cX9_hasRoomFor 4 = .ok (.iload_n 1, 1) := by decide +kernel
theorem dX9_hasRoomFor_5 : decode cX9_hasRoomFor 5 = .ok (.iadd, 1) := by decide +kernel
theorem dX9_hasRoomFor_6 : decode cX9_hasRoomFor 6 = .ok (.sipush 300, 3) := by decide +kernel
theorem dX9_hasRoomFor_9 : decode cX9_hasRoomFor 9 = .ok (.if_icmp .gt 7, 3) := by decide +kernel
theorem dX9_hasRoomFor_12 : decode cX9_hasRoomFor 12 = .ok (.iconst 1, 1) := by decide +kernel
theorem dX9_hasRoomFor_13 : decode cX9_hasRoomFor 13 = .ok (.goto 4, 3) := by decide +kernel
theorem dX9_hasRoomFor_16 : decode cX9_hasRoomFor 16 = .ok (.iconst 0, 1) := by decide +kernel
theorem dX9_hasRoomFor_17 : decode cX9_hasRoomFor 17 = .ok (.ireturn, 1) := by decide +kernel
theorem dX9_append_0 : decode cX9_append 0 = .ok (.iload_n 1, 1) := by decide +kernel
theorem dX9_append_1 : decode cX9_append 1 = .ok (.iconst 1, 1) := by decide +kernel
theorem dX9_append_2 : decode cX9_append 2 = .ok (.isub, 1) := by decide +kernel
theorem dX9_append_3 : decode cX9_append 3 = .ok (.istore 4, 2) := by decide +kernel
theorem dX9_append_5 : decode cX9_append 5 = .ok (.iload 4, 2) := by decide +kernel
theorem dX9_append_7 : decode cX9_append 7 = .ok (.ifCond .lt 42, 3) := by decide +kernel
theorem dX9_append_10 : decode cX9_append 10 = .ok (.aload_n 0, 1) := by decide +kernel
theorem dX9_append_11 : decode cX9_append 11 = .ok (.getfield 9, 3) := by decide +kernel
theorem dX9_append_14 : decode cX9_append 14 = .ok (.aload_n 0, 1) := by decide +kernel
theorem dX9_append_15 : decode cX9_append 15 = .ok (.getfield 15, 3) := by decide +kernel
theorem dX9_append_18 : decode cX9_append 18 = .ok (.lload_n 2, 1) := by decide +kernel
theorem dX9_append_19 : decode cX9_append 19 = .ok (.bipush 8, 2) := by decide +kernel
theorem dX9_append_21 : decode cX9_append 21 = .ok (.iload 4, 2) := by decide +kernel
theorem dX9_append_23 : decode cX9_append 23 = .ok (.imul, 1) := by decide +kernel
theorem dX9_append_24 : decode cX9_append 24 = .ok (.lushr, 1) := by decide +kernel
theorem dX9_append_25 : decode cX9_append 25 = .ok (.l2i, 1) := by decide +kernel
theorem dX9_append_26 : decode cX9_append 26 = .ok (.sipush 255, 3) := by decide +kernel
theorem dX9_append_29 : decode cX9_append 29 = .ok (.iand, 1) := by decide +kernel
theorem dX9_append_30 : decode cX9_append 30 = .ok (.invokestatic 19, 3) := by decide +kernel
theorem dX9_append_33 : decode cX9_append 33 = .ok (.aload_n 0, 1) := by decide +kernel
theorem dX9_append_34 : decode cX9_append 34 = .ok (.dup, 1) := by decide +kernel
theorem dX9_append_35 : decode cX9_append 35 = .ok (.getfield 15, 3) := by decide +kernel
theorem dX9_append_38 : decode cX9_append 38 = .ok (.iconst 1, 1) := by decide +kernel
theorem dX9_append_39 : decode cX9_append 39 = .ok (.iadd, 1) := by decide +kernel
theorem dX9_append_40 : decode cX9_append 40 = .ok (.putfield 15, 3) := by decide +kernel
theorem dX9_append_43 : decode cX9_append 43 = .ok (.iinc 4 (-1), 3) := by decide +kernel
theorem dX9_append_46 : decode cX9_append 46 = .ok (.goto (-41), 3) := by decide +kernel
theorem dX9_append_49 : decode cX9_append 49 = .ok (.aload_n 0, 1) := by decide +kernel
theorem dX9_append_50 : decode cX9_append 50 = .ok (.getfield 15, 3) := by decide +kernel
theorem dX9_append_53 : decode cX9_append 53 = .ok (.ireturn, 1) := by decide +kernel
theorem dX9_empty_0 : decode cX9_empty 0 = .ok (.aload_n 0, 1) := by decide +kernel
theorem dX9_empty_1 : decode cX9_empty 1 = .ok (.getfield 15, 3) := by decide +kernel
theorem dX9_empty_4 : decode cX9_empty 4 = .ok (.istore_n 1, 1) := by decide +kernel
theorem dX9_empty_5 : decode cX9_empty 5 = .ok (.aload_n 0, 1) := by decide +kernel
theorem dX9_empty_6 : decode cX9_empty 6 = .ok (.iconst 0, 1) := by decide +kernel
theorem dX9_empty_7 : decode cX9_empty 7 = .ok (.putfield 15, 3) := by decide +kernel
theorem dX9_empty_10 : decode cX9_empty 10 = .ok (.iload_n 1, 1) := by decide +kernel
theorem dX9_empty_11 : decode cX9_empty 11 = .ok (.ireturn, 1) := by decide +kernel
theorem dX9_byteAt_0 : decode cX9_byteAt 0 = .ok (.iload_n 1, 1) := by decide +kernel
theorem dX9_byteAt_1 : decode cX9_byteAt 1 = .ok (.aload_n 0, 1) := by decide +kernel
theorem dX9_byteAt_2 : decode cX9_byteAt 2 = .ok (.getfield 15, 3) := by decide +kernel
theorem dX9_byteAt_5 : decode cX9_byteAt 5 = .ok (.if_icmp .ge 14, 3) := by decide +kernel
theorem dX9_byteAt_8 : decode cX9_byteAt 8 = .ok (.aload_n 0, 1) := by decide +kernel
theorem dX9_byteAt_9 : decode cX9_byteAt 9 = .ok (.getfield 9, 3) := by decide +kernel
theorem dX9_byteAt_12 : decode cX9_byteAt 12 = .ok (.iload_n 1, 1) := by decide +kernel
theorem dX9_byteAt_13 : decode cX9_byteAt 13 = .ok (.invokestatic 25, 3) := by decide +kernel
theorem dX9_byteAt_16 : decode cX9_byteAt 16 = .ok (.goto 4, 3) := by decide +kernel
theorem dX9_byteAt_19 : decode cX9_byteAt 19 = .ok (.iconst (-1), 1) := by decide +kernel
theorem dX9_byteAt_20 : decode cX9_byteAt 20 = .ok (.ireturn, 1) := by decide +kernel
theorem dX9_hasFigureAt_0 : decode cX9_hasFigureAt 0 = .ok (.aload_n 0, 1) := by decide +kernel
theorem dX9_hasFigureAt_1 : decode cX9_hasFigureAt 1 = .ok (.iload_n 1, 1) := by decide +kernel
theorem dX9_hasFigureAt_2 : decode cX9_hasFigureAt 2 = .ok (.invokevirtual 29, 3) := by decide +kernel
theorem dX9_hasFigureAt_5 : decode cX9_hasFigureAt 5 = .ok (.bipush 48, 2) := by decide +kernel
theorem dX9_hasFigureAt_7 : decode cX9_hasFigureAt 7 = .ok (.bipush 57, 2) := by decide +kernel
theorem dX9_hasFigureAt_9 : decode cX9_hasFigureAt 9 = .ok (.invokestatic 33, 3) := by decide +kernel
theorem dX9_hasFigureAt_12 : decode cX9_hasFigureAt 12 = .ok (.ireturn, 1) := by decide +kernel
theorem dX10_init_0 : decode cX10_init 0 = .ok (.aload_n 0, 1) := by decide +kernel
theorem dX10_init_1 : decode cX10_init 1 = .ok (.invokespecial 3, 3) := by decide +kernel
theorem dX10_init_4 : decode cX10_init 4 = .ok (.aload_n 0, 1) := by decide +kernel
theorem dX10_init_5 : decode cX10_init 5 = .ok (.bipush (-4), 2) := by decide +kernel
theorem dX10_init_7 : decode cX10_init 7 = .ok (.putfield 9, 3) := by decide +kernel
theorem dX10_init_10 : decode cX10_init 10 = .ok (.aload_n 0, 1) := by decide +kernel
theorem dX10_init_11 : decode cX10_init 11 = .ok (.iconst 0, 1) := by decide +kernel
theorem dX10_init_12 : decode cX10_init 12 = .ok (.putfield 15, 3) := by decide +kernel
theorem dX10_init_15 : decode cX10_init 15 = .ok (.aload_n 0, 1) := by decide +kernel
theorem dX10_init_16 : decode cX10_init 16 = .ok (.iconst 1, 1) := by decide +kernel
theorem dX10_init_17 : decode cX10_init 17 = .ok (.putfield 18, 3) := by decide +kernel
theorem dX10_init_20 : decode cX10_init 20 = .ok (.aload_n 0, 1) := by decide +kernel
theorem dX10_init_21 : decode cX10_init 21 = .ok (.iconst 0, 1) := by decide +kernel
theorem dX10_init_22 : decode cX10_init 22 = .ok (.putfield 21, 3) := by decide +kernel
theorem dX10_init_25 : decode cX10_init 25 = .ok (.return_, 1) := by decide +kernel
theorem dX10_tellCall_0 : decode cX10_tellCall 0 = .ok (.aload_n 0, 1) := by decide +kernel
theorem dX10_tellCall_1 : decode cX10_tellCall 1 = .ok (.iload_n 1, 1) := by decide +kernel
theorem dX10_tellCall_2 : decode cX10_tellCall 2 = .ok (.putfield 9, 3) := by decide +kernel
theorem dX10_tellCall_5 : decode cX10_tellCall 5 = .ok (.aload_n 0, 1) := by decide +kernel
theorem dX10_tellCall_6 : decode cX10_tellCall 6 = .ok (.iload_n 2, 1) := by decide +kernel
theorem dX10_tellCall_7 : decode cX10_tellCall 7 = .ok (.putfield 15, 3) := by decide +kernel
theorem dX10_tellCall_10 : decode cX10_tellCall 10 = .ok (.aload_n 0, 1) := by decide +kernel
theorem dX10_tellCall_11 : decode cX10_tellCall 11 = .ok (.iload_n 3, 1) := by decide +kernel
theorem dX10_tellCall_12 : decode cX10_tellCall 12 = .ok (.putfield 18, 3) := by decide +kernel
theorem dX10_tellCall_15 : decode cX10_tellCall 15 = .ok (.return_, 1) := by decide +kernel
theorem dX10_copyFrom_0 : decode cX10_copyFrom 0 = .ok (.aload_n 0, 1) := by decide +kernel
theorem dX10_copyFrom_1 : decode cX10_copyFrom 1 = .ok (.aload_n 1, 1) := by decide +kernel
theorem dX10_copyFrom_2 : decode cX10_copyFrom 2 = .ok (.getfield 9, 3) := by decide +kernel
theorem dX10_copyFrom_5 : decode cX10_copyFrom 5 = .ok (.aload_n 1, 1) := by decide +kernel
theorem dX10_copyFrom_6 : decode cX10_copyFrom 6 = .ok (.getfield 15, 3) := by decide +kernel
theorem dX10_copyFrom_9 : decode cX10_copyFrom 9 = .ok (.aload_n 1, 1) := by decide +kernel
theorem dX10_copyFrom_10 : decode cX10_copyFrom 10 = .ok (.getfield 18, 3) := by decide +kernel
theorem dX10_copyFrom_13 : decode cX10_copyFrom 13 = .ok (.invokevirtual 24, 3) := by decide +kernel
theorem dX10_copyFrom_16 : decode cX10_copyFrom 16 = .ok (.aload_n 0, 1) := by decide +kernel
theorem dX10_copyFrom_17 : decode cX10_copyFrom 17 = .ok (.aload_n 1, 1) := by decide +kernel
theorem dX10_copyFrom_18 : decode cX10_copyFrom 18 = .ok (.getfield 21, 3) := by decide +kernel
theorem dX10_copyFrom_21 : decode cX10_copyFrom 21 = .ok (.putfield 21, 3) := by decide +kernel
theorem dX10_copyFrom_24 : decode cX10_copyFrom 24 = .ok (.return_, 1) := by decide +kernel
theorem dX11_init_0 : decode cX11_init 0 = .ok (.aload_n 0, 1) := by decide +kernel
theorem dX11_init_1 : decode cX11_init 1 = .ok (.invokespecial 1, 3) := by decide +kernel
theorem dX11_init_4 : decode cX11_init 4 = .ok (.aload_n 0, 1) := by decide +kernel
theorem dX11_init_5 : decode cX11_init 5 = .ok (.new 7, 3) := by decide +kernel
theorem dX11_init_8 : decode cX11_init 8 = .ok (.dup, 1) := by decide +kernel
theorem dX11_init_9 : decode cX11_init 9 = .ok (.invokespecial 9, 3) := by decide +kernel
theorem dX11_init_12 : decode cX11_init 12 = .ok (.putfield 10, 3) := by decide +kernel
theorem dX11_init_15 : decode cX11_init 15 = .ok (.aload_n 0, 1) := by decide +kernel
theorem dX11_init_16 : decode cX11_init 16 = .ok (.new 16, 3) := by decide +kernel
theorem dX11_init_19 : decode cX11_init 19 = .ok (.dup, 1) := by decide +kernel
theorem dX11_init_20 : decode cX11_init 20 = .ok (.invokespecial 18, 3) := by decide +kernel
theorem dX11_init_23 : decode cX11_init 23 = .ok (.putfield 19, 3) := by decide +kernel
theorem dX11_init_26 : decode cX11_init 26 = .ok (.aload_n 0, 1) := by decide +kernel
theorem dX11_init_27 : decode cX11_init 27 = .ok (.new 23, 3) := by decide +kernel
theorem dX11_init_30 : decode cX11_init 30 = .ok (.dup, 1) := by decide +kernel
theorem dX11_init_31 : decode cX11_init 31 = .ok (.invokespecial 25, 3) := by decide +kernel
theorem dX11_init_34 : decode cX11_init 34 = .ok (.putfield 26, 3) := by decide +kernel
theorem dX11_init_37 : decode cX11_init 37 = .ok (.aload_n 0, 1) := by decide +kernel
theorem dX11_init_38 : decode cX11_init 38 = .ok (.aload_n 0, 1) := by decide +kernel
theorem dX11_init_39 : decode cX11_init 39 = .ok (.getfield 26, 3) := by decide +kernel
theorem dX11_init_42 : decode cX11_init 42 = .ok (.getfield 30, 3) := by decide +kernel
theorem dX11_init_45 : decode cX11_init 45 = .ok (.putfield 34, 3) := by decide +kernel
theorem dX11_init_48 : decode cX11_init 48 = .ok (.aload_n 0, 1) := by decide +kernel
theorem dX11_init_49 : decode cX11_init 49 = .ok (.new 35, 3) := by decide +kernel
theorem dX11_init_52 : decode cX11_init 52 = .ok (.dup, 1) := by decide +kernel
theorem dX11_init_53 : decode cX11_init 53 = .ok (.invokespecial 37, 3) := by decide +kernel
theorem dX11_init_56 : decode cX11_init 56 = .ok (.putfield 38, 3) := by decide +kernel
theorem dX11_init_59 : decode cX11_init 59 = .ok (.aload_n 0, 1) := by decide +kernel
theorem dX11_init_60 : decode cX11_init 60 = .ok (.new 41, 3) := by decide +kernel
theorem dX11_init_63 : decode cX11_init 63 = .ok (.dup, 1) := by decide +kernel
theorem dX11_init_64 : decode cX11_init 64 = .ok (.invokespecial 43, 3) := by decide +kernel
theorem dX11_init_67 : decode cX11_init 67 = .ok (.putfield 44, 3) := by decide +kernel
theorem dX11_init_70 : decode cX11_init 70 = .ok (.aload_n 0, 1) := by decide +kernel
theorem dX11_init_71 : decode cX11_init 71 = .ok (.new 48, 3) := by decide +kernel
theorem dX11_init_74 : decode cX11_init 74 = .ok (.dup, 1) := by decide +kernel
theorem dX11_init_75 : decode cX11_init 75 = .ok (.invokespecial 50, 3) := by decide +kernel
theorem dX11_init_78 : decode cX11_init 78 = .ok (.putfield 51, 3) := by decide +kernel
theorem dX11_init_81 : decode cX11_init 81 = .ok (.aload_n 0, 1) := by decide +kernel
theorem dX11_init_82 : decode cX11_init 82 = .ok (.new 55, 3) := by decide +kernel
theorem dX11_init_85 : decode cX11_init 85 = .ok (.dup, 1) := by decide +kernel
theorem dX11_init_86 : decode cX11_init 86 = .ok (.invokespecial 57, 3) := by decide +kernel
theorem dX11_init_89 : decode cX11_init 89 = .ok (.putfield 58, 3) := by decide +kernel
theorem dX11_init_92 : decode cX11_init 92 = .ok (.aload_n 0, 1) := by decide +kernel
theorem dX11_init_93 : decode cX11_init 93 = .ok (.new 62, 3) := by decide +kernel
theorem dX11_init_96 : decode cX11_init 96 = .ok (.dup, 1) := by decide +kernel
theorem dX11_init_97 : decode cX11_init 97 = .ok (.bipush 8, 2) := by decide +kernel
theorem dX11_init_99 : decode cX11_init 99 = .ok (.invokespecial 64, 3) := by decide +kernel
theorem dX11_init_102 : decode cX11_init 102 = .ok (.putfield 67, 3) := by decide +kernel
theorem dX11_init_105 : decode cX11_init 105 = .ok (.aload_n 0, 1) := by decide +kernel
theorem dX11_init_106 : decode cX11_init 106 = .ok (.new 62, 3) := by decide +kernel
theorem dX11_init_109 : decode cX11_init 109 = .ok (.dup, 1) := by decide +kernel
theorem dX11_init_110 : decode cX11_init 110 = .ok (.iconst 2, 1) := by decide +kernel
theorem dX11_init_111 : decode cX11_init 111 = .ok (.invokespecial 64, 3) := by decide +kernel
theorem dX11_init_114 : decode cX11_init 114 = .ok (.putfield 71, 3) := by decide +kernel
theorem dX11_init_117 : decode cX11_init 117 = .ok (.aload_n 0, 1) := by decide +kernel
theorem dX11_init_118 : decode cX11_init 118 = .ok (.getfield 34, 3) := by decide +kernel
theorem dX11_init_121 : decode cX11_init 121 = .ok (.bipush 10, 2) := by decide +kernel
theorem dX11_init_123 : decode cX11_init 123 = .ok (.iconst 2, 1) := by decide +kernel
theorem dX11_init_124 : decode cX11_init 124 = .ok (.iconst 5, 1) := by decide +kernel
theorem dX11_init_125 : decode cX11_init 125 = .ok (.iconst 5, 1) := by decide +kernel
theorem dX11_init_126 : decode cX11_init 126 = .ok (.iconst 0, 1) := by decide +kernel
theorem dX11_init_127 : decode cX11_init 127 = .ok (.invokevirtual 74, 3) := by decide +kernel
theorem dX11_init_130 : decode cX11_init 130 = .ok (.aload_n 0, 1) := by decide +kernel
theorem dX11_init_131 : decode cX11_init 131 = .ok (.getfield 34, 3) := by decide +kernel
theorem dX11_init_134 : decode cX11_init 134 = .ok (.bipush 14, 2) := by decide +kernel
theorem dX11_init_136 : decode cX11_init 136 = .ok (.iconst 2, 1) := by decide +kernel
theorem dX11_init_137 : decode cX11_init 137 = .ok (.iconst 5, 1) := by decide +kernel
theorem dX11_init_138 : decode cX11_init 138 = .ok (.iconst 3, 1) := by decide +kernel
theorem dX11_init_139 : decode cX11_init 139 = .ok (.iconst 0, 1) := by decide +kernel
theorem dX11_init_140 : decode cX11_init 140 = .ok (.invokevirtual 74, 3) := by decide +kernel
theorem dX11_init_143 : decode cX11_init 143 = .ok (.aload_n 0, 1) := by decide +kernel
theorem dX11_init_144 : decode cX11_init 144 = .ok (.getfield 34, 3) := by decide +kernel
theorem dX11_init_147 : decode cX11_init 147 = .ok (.bipush 20, 2) := by decide +kernel
theorem dX11_init_149 : decode cX11_init 149 = .ok (.iconst 3, 1) := by decide +kernel
theorem dX11_init_150 : decode cX11_init 150 = .ok (.iconst 4, 1) := by decide +kernel
theorem dX11_init_151 : decode cX11_init 151 = .ok (.bipush 6, 2) := by decide +kernel
theorem dX11_init_153 : decode cX11_init 153 = .ok (.iconst 0, 1) := by decide +kernel
theorem dX11_init_154 : decode cX11_init 154 = .ok (.invokevirtual 74, 3) := by decide +kernel
theorem dX11_init_157 : decode cX11_init 157 = .ok (.aload_n 0, 1) := by decide +kernel
theorem dX11_init_158 : decode cX11_init 158 = .ok (.getfield 34, 3) := by decide +kernel
theorem dX11_init_161 : decode cX11_init 161 = .ok (.invokevirtual 78, 3) := by decide +kernel
theorem dX11_init_164 : decode cX11_init 164 = .ok (.return_, 1) := by decide +kernel
theorem dX11_write_0 : decode cX11_write 0 = .ok (.iload_n 1, 1) := by decide +kernel
theorem dX11_write_1 : decode cX11_write 1 = .ok (.iconst 1, 1) := by decide +kernel
theorem dX11_write_2 : decode cX11_write 2 = .ok (.bipush 8, 2) := by decide +kernel
theorem dX11_write_4 : decode cX11_write 4 = .ok (.invokestatic 81, 3) := by decide +kernel
theorem dX11_write_7 : decode cX11_write 7 = .ok (.ifCond .ne 5, 3) := by decide +kernel
theorem dX11_write_10 : decode cX11_write 10 = .ok (.iconst (-1), 1) := by decide +kernel
theorem dX11_write_11 : decode cX11_write 11 = .ok (.ireturn, 1) := by decide +kernel
theorem dX11_write_12 : decode cX11_write 12 = .ok (.aload_n 0, 1) := by decide +kernel
theorem dX11_write_13 : decode cX11_write 13 = .ok (.getfield 10, 3) := by decide +kernel
theorem dX11_write_16 : decode cX11_write 16 = .ok (.iload_n 1, 1) := by decide +kernel
theorem dX11_write_17 : decode cX11_write 17 = .ok (.invokevirtual 85, 3) := by decide +kernel
theorem dX11_write_20 : decode cX11_write 20 = .ok (.ifCond .eq 15, 3) := by decide +kernel
theorem dX11_write_23 : decode cX11_write 23 = .ok (.aload_n 0, 1) := by decide +kernel
theorem dX11_write_24 : decode cX11_write 24 = .ok (.getfield 10, 3) := by decide +kernel
theorem dX11_write_27 : decode cX11_write 27 = .ok (.iload_n 1, 1) := by decide +kernel
theorem dX11_write_28 : decode cX11_write 28 = .ok (.lload_n 2, 1) := by decide +kernel
theorem dX11_write_29 : decode cX11_write 29 = .ok (.invokevirtual 89, 3) := by decide +kernel
theorem dX11_write_32 : decode cX11_write 32 = .ok (.goto 5, 3) := by decide +kernel
theorem dX11_write_35 : decode cX11_write 35 = .ok (.bipush (-3), 2) := by decide +kernel
theorem dX11_write_37 : decode cX11_write 37 = .ok (.ireturn, 1) := by decide +kernel
theorem dX11_wipe_0 : decode cX11_wipe 0 = .ok (.aload_n 0, 1) := by decide +kernel
theorem dX11_wipe_1 : decode cX11_wipe 1 = .ok (.getfield 10, 3) := by decide +kernel
theorem dX11_wipe_4 : decode cX11_wipe 4 = .ok (.invokevirtual 93, 3) := by decide +kernel
theorem dX11_wipe_7 : decode cX11_wipe 7 = .ok (.ireturn, 1) := by decide +kernel
theorem dX11_fault_0 : decode cX11_fault 0 = .ok (.aload_n 0, 1) := by decide +kernel
theorem dX11_fault_1 : decode cX11_fault 1 = .ok (.getfield 19, 3) := by decide +kernel
theorem dX11_fault_4 : decode cX11_fault 4 = .ok (.aload_n 0, 1) := by decide +kernel
theorem dX11_fault_5 : decode cX11_fault 5 = .ok (.getfield 10, 3) := by decide +kernel
theorem dX11_fault_8 : decode cX11_fault 8 = .ok (.aload_n 0, 1) := by decide +kernel
theorem dX11_fault_9 : decode cX11_fault 9 = .ok (.getfield 38, 3) := by decide +kernel
theorem dX11_fault_12 : decode cX11_fault 12 = .ok (.invokevirtual 97, 3) := by decide +kernel
theorem dX11_fault_15 : decode cX11_fault 15 = .ok (.ireturn, 1) := by decide +kernel
theorem dX11_lay_0 : decode cX11_lay 0 = .ok (.aload_n 0, 1) := by decide +kernel
theorem dX11_lay_1 : decode cX11_lay 1 = .ok (.getfield 19, 3) := by decide +kernel
theorem dX11_lay_4 : decode cX11_lay 4 = .ok (.aload_n 0, 1) := by decide +kernel
theorem dX11_lay_5 : decode cX11_lay 5 = .ok (.getfield 10, 3) := by decide +kernel
theorem dX11_lay_8 : decode cX11_lay 8 = .ok (.aload_n 0, 1) := by decide +kernel
theorem dX11_lay_9 : decode cX11_lay 9 = .ok (.getfield 38, 3) := by decide +kernel
theorem dX11_lay_12 : decode cX11_lay 12 = .ok (.invokevirtual 97, 3) := by decide +kernel
theorem dX11_lay_15 : decode cX11_lay 15 = .ok (.bipush (-4), 2) := by decide +kernel
theorem dX11_lay_17 : decode cX11_lay 17 = .ok (.if_icmp .ne 13, 3) := by decide +kernel
theorem dX11_lay_20 : decode cX11_lay 20 = .ok (.aload_n 0, 1) := by decide +kernel
theorem dX11_lay_21 : decode cX11_lay 21 = .ok (.getfield 38, 3) := by decide +kernel
theorem dX11_lay_24 : decode cX11_lay 24 = .ok (.invokevirtual 101, 3) := by decide +kernel
theorem dX11_lay_27 : decode cX11_lay 27 = .ok (.ifCond .ne 6, 3) := by decide +kernel
theorem dX11_lay_30 : decode cX11_lay 30 = .ok (.bipush (-2), 2) := by decide +kernel
theorem dX11_lay_32 : decode cX11_lay 32 = .ok (.ireturn, 1) := by decide +kernel
theorem dX11_lay_33 : decode cX11_lay 33 = .ok (.aload_n 0, 1) := by decide +kernel
theorem dX11_lay_34 : decode cX11_lay 34 = .ok (.getfield 38, 3) := by decide +kernel
theorem dX11_lay_37 : decode cX11_lay 37 = .ok (.invokevirtual 78, 3) := by decide +kernel
theorem dX11_lay_40 : decode cX11_lay 40 = .ok (.aload_n 0, 1) := by decide +kernel
theorem dX11_lay_41 : decode cX11_lay 41 = .ok (.getfield 34, 3) := by decide +kernel
theorem dX11_lay_44 : decode cX11_lay 44 = .ok (.aload_n 0, 1) := by decide +kernel
theorem dX11_lay_45 : decode cX11_lay 45 = .ok (.getfield 38, 3) := by decide +kernel
theorem dX11_lay_48 : decode cX11_lay 48 = .ok (.invokevirtual 105, 3) := by decide +kernel
theorem dX11_lay_51 : decode cX11_lay 51 = .ok (.aload_n 0, 1) := by decide +kernel
theorem dX11_lay_52 : decode cX11_lay 52 = .ok (.getfield 58, 3) := by decide +kernel
theorem dX11_lay_55 : decode cX11_lay 55 = .ok (.invokevirtual 109, 3) := by decide +kernel
theorem dX11_lay_58 : decode cX11_lay 58 = .ok (.pop, 1) := by decide +kernel
theorem dX11_lay_59 : decode cX11_lay 59 = .ok (.aload_n 0, 1) := by decide +kernel
theorem dX11_lay_60 : decode cX11_lay 60 = .ok (.getfield 67, 3) := by decide +kernel
theorem dX11_lay_63 : decode cX11_lay 63 = .ok (.invokevirtual 110, 3) := by decide +kernel
theorem dX11_lay_66 : decode cX11_lay 66 = .ok (.aload_n 0, 1) := by decide +kernel
theorem dX11_lay_67 : decode cX11_lay 67 = .ok (.getfield 71, 3) := by decide +kernel
theorem dX11_lay_70 : decode cX11_lay 70 = .ok (.invokevirtual 110, 3) := by decide +kernel
theorem dX11_lay_73 : decode cX11_lay 73 = .ok (.aload_n 0, 1) := by decide +kernel
theorem dX11_lay_74 : decode cX11_lay 74 = .ok (.getfield 34, 3) := by decide +kernel
theorem dX11_lay_77 : decode cX11_lay 77 = .ok (.getfield 112, 3) := by decide +kernel
theorem dX11_lay_80 : decode cX11_lay 80 = .ok (.ireturn, 1) := by decide +kernel
theorem dX11_player_0 : decode cX11_player 0 = .ok (.aload_n 0, 1) := by decide +kernel
theorem dX11_player_1 : decode cX11_player 1 = .ok (.getfield 34, 3) := by decide +kernel
theorem dX11_player_4 : decode cX11_player 4 = .ok (.iload_n 1, 1) := by decide +kernel
theorem dX11_player_5 : decode cX11_player 5 = .ok (.invokevirtual 116, 3) := by decide +kernel
theorem dX11_player_8 : decode cX11_player 8 = .ok (.ifCond .ne 5, 3) := by decide +kernel
theorem dX11_player_11 : decode cX11_player 11 = .ok (.iconst (-1), 1) := by decide +kernel
theorem dX11_player_12 : decode cX11_player 12 = .ok (.ireturn, 1) := by decide +kernel
theorem dX11_player_13 : decode cX11_player 13 = .ok (.aload_n 0, 1) := by decide +kernel
theorem dX11_player_14 : decode cX11_player 14 = .ok (.getfield 34, 3) := by decide +kernel
theorem dX11_player_17 : decode cX11_player 17 = .ok (.iload_n 1, 1) := by decide +kernel
theorem dX11_player_18 : decode cX11_player 18 = .ok (.invokevirtual 119, 3) := by decide +kernel
theorem dX11_player_21 : decode cX11_player 21 = .ok (.astore_n 3, 1) := by decide +kernel
theorem dX11_player_22 : decode cX11_player 22 = .ok (.iload_n 2, 1) := by decide +kernel
theorem dX11_player_23 : decode cX11_player 23 = .ok (.tableswitch 70 0 5 #[37, 42, 47, 52, 57, 62], 37) := by decide +kernel
theorem dX11_player_60 : decode cX11_player 60 = .ok (.aload_n 3, 1) := by decide +kernel
theorem dX11_player_61 : decode cX11_player 61 = .ok (.getfield 123, 3) := by decide +kernel
theorem dX11_player_64 : decode cX11_player 64 = .ok (.ireturn, 1) := by decide +kernel
theorem dX11_player_65 : decode cX11_player 65 = .ok (.aload_n 3, 1) := by decide +kernel
theorem dX11_player_66 : decode cX11_player 66 = .ok (.getfield 128, 3) := by decide +kernel
theorem dX11_player_69 : decode cX11_player 69 = .ok (.ireturn, 1) := by decide +kernel
theorem dX11_player_70 : decode cX11_player 70 = .ok (.aload_n 3, 1) := by decide +kernel
theorem dX11_player_71 : decode cX11_player 71 = .ok (.getfield 131, 3) := by decide +kernel
theorem dX11_player_74 : decode cX11_player 74 = .ok (.ireturn, 1) := by decide +kernel
theorem dX11_player_75 : decode cX11_player 75 = .ok (.aload_n 3, 1) := by decide +kernel
theorem dX11_player_76 : decode cX11_player 76 = .ok (.getfield 134, 3) := by decide +kernel
theorem dX11_player_79 : decode cX11_player 79 = .ok (.ireturn, 1) := by decide +kernel
theorem dX11_player_80 : decode cX11_player 80 = .ok (.aload_n 3, 1) := by decide +kernel
theorem dX11_player_81 : decode cX11_player 81 = .ok (.getfield 137, 3) := by decide +kernel
theorem dX11_player_84 : decode cX11_player 84 = .ok (.ireturn, 1) := by decide +kernel
theorem dX11_player_85 : decode cX11_player 85 = .ok (.aload_n 3, 1) := by decide +kernel
theorem dX11_player_86 : decode cX11_player 86 = .ok (.getfield 140, 3) := by decide +kernel
theorem dX11_player_89 : decode cX11_player 89 = .ok (.getfield 144, 3) := by decide +kernel
theorem dX11_player_92 : decode cX11_player 92 = .ok (.ireturn, 1) := by decide +kernel
theorem dX11_player_93 : decode cX11_player 93 = .ok (.iconst (-1), 1) := by decide +kernel
theorem dX11_player_94 : decode cX11_player 94 = .ok (.ireturn, 1) := by decide +kernel
theorem dX11_called_0 : decode cX11_called 0 = .ok (.aload_n 0, 1) := by decide +kernel
theorem dX11_called_1 : decode cX11_called 1 = .ok (.getfield 34, 3) := by decide +kernel
theorem dX11_called_4 : decode cX11_called 4 = .ok (.iload_n 1, 1) := by decide +kernel
theorem dX11_called_5 : decode cX11_called 5 = .ok (.invokevirtual 116, 3) := by decide +kernel
theorem dX11_called_8 : decode cX11_called 8 = .ok (.ifCond .ne 5, 3) := by decide +kernel
theorem dX11_called_11 : decode cX11_called 11 = .ok (.iconst (-1), 1) := by decide +kernel
theorem dX11_called_12 : decode cX11_called 12 = .ok (.ireturn, 1) := by decide +kernel
theorem dX11_called_13 : decode cX11_called 13 = .ok (.aload_n 0, 1) := by decide +kernel
theorem dX11_called_14 : decode cX11_called 14 = .ok (.getfield 34, 3) := by decide +kernel
theorem dX11_called_17 : decode cX11_called 17 = .ok (.iload_n 1, 1) := by decide +kernel
theorem dX11_called_18 : decode cX11_called 18 = .ok (.invokevirtual 119, 3) := by decide +kernel
theorem dX11_called_21 : decode cX11_called 21 = .ok (.getfield 140, 3) := by decide +kernel
theorem dX11_called_24 : decode cX11_called 24 = .ok (.astore_n 3, 1) := by decide +kernel
theorem dX11_called_25 : decode cX11_called 25 = .ok (.iload_n 2, 1) := by decide +kernel
theorem dX11_called_26 : decode cX11_called 26 = .ok (.tableswitch 61 0 3 #[30, 35, 40, 45], 30) := by decide +kernel
theorem dX11_called_56 : decode cX11_called 56 = .ok (.aload_n 3, 1) := by decide +kernel
theorem dX11_called_57 : decode cX11_called 57 = .ok (.getfield 149, 3) := by decide +kernel
theorem dX11_called_60 : decode cX11_called 60 = .ok (.ireturn, 1) := by decide +kernel
theorem dX11_called_61 : decode cX11_called 61 = .ok (.aload_n 3, 1) := by decide +kernel
theorem dX11_called_62 : decode cX11_called 62 = .ok (.getfield 152, 3) := by decide +kernel
theorem dX11_called_65 : decode cX11_called 65 = .ok (.ireturn, 1) := by decide +kernel
theorem dX11_called_66 : decode cX11_called 66 = .ok (.aload_n 3, 1) := by decide +kernel
theorem dX11_called_67 : decode cX11_called 67 = .ok (.getfield 155, 3) := by decide +kernel
theorem dX11_called_70 : decode cX11_called 70 = .ok (.ireturn, 1) := by decide +kernel
theorem dX11_called_71 : decode cX11_called 71 = .ok (.aload_n 0, 1) := by decide +kernel
theorem dX11_called_72 : decode cX11_called 72 = .ok (.getfield 26, 3) := by decide +kernel
theorem dX11_called_75 : decode cX11_called 75 = .ok (.iload_n 1, 1) := by decide +kernel
theorem dX11_called_76 : decode cX11_called 76 = .ok (.invokevirtual 158, 3) := by decide +kernel
theorem dX11_called_79 : decode cX11_called 79 = .ok (.aload_n 0, 1) := by decide +kernel
theorem dX11_called_80 : decode cX11_called 80 = .ok (.getfield 26, 3) := by decide +kernel
theorem dX11_called_83 : decode cX11_called 83 = .ok (.getfield 161, 3) := by decide +kernel
theorem dX11_called_86 : decode cX11_called 86 = .ok (.ireturn, 1) := by decide +kernel
theorem dX11_called_87 : decode cX11_called 87 = .ok (.iconst (-1), 1) := by decide +kernel
theorem dX11_called_88 : decode cX11_called 88 = .ok (.ireturn, 1) := by decide +kernel
theorem dX11_stands_0 : decode cX11_stands 0 = .ok (.aload_n 0, 1) := by decide +kernel
theorem dX11_stands_1 : decode cX11_stands 1 = .ok (.getfield 34, 3) := by decide +kernel
theorem dX11_stands_4 : decode cX11_stands 4 = .ok (.iload_n 1, 1) := by decide +kernel
theorem dX11_stands_5 : decode cX11_stands 5 = .ok (.invokevirtual 116, 3) := by decide +kernel
theorem dX11_stands_8 : decode cX11_stands 8 = .ok (.ifCond .eq 14, 3) := by decide +kernel
theorem dX11_stands_11 : decode cX11_stands 11 = .ok (.aload_n 0, 1) := by decide +kernel
theorem dX11_stands_12 : decode cX11_stands 12 = .ok (.getfield 34, 3) := by decide +kernel
theorem dX11_stands_15 : decode cX11_stands 15 = .ok (.iload_n 2, 1) := by decide +kernel
theorem dX11_stands_16 : decode cX11_stands 16 = .ok (.invokevirtual 116, 3) := by decide +kernel
theorem dX11_stands_19 : decode cX11_stands 19 = .ok (.ifCond .ne 5, 3) := by decide +kernel
theorem dX11_stands_22 : decode cX11_stands 22 = .ok (.iconst (-1), 1) := by decide +kernel
theorem dX11_stands_23 : decode cX11_stands 23 = .ok (.ireturn, 1) := by decide +kernel
theorem dX11_stands_24 : decode cX11_stands 24 = .ok (.aload_n 0, 1) := by decide +kernel
theorem dX11_stands_25 : decode cX11_stands 25 = .ok (.getfield 26, 3) := by decide +kernel
theorem dX11_stands_28 : decode cX11_stands 28 = .ok (.iload_n 1, 1) := by decide +kernel
theorem dX11_stands_29 : decode cX11_stands 29 = .ok (.invokevirtual 158, 3) := by decide +kernel
theorem dX11_stands_32 : decode cX11_stands 32 = .ok (.aload_n 0, 1) := by decide +kernel
theorem dX11_stands_33 : decode cX11_stands 33 = .ok (.getfield 26, 3) := by decide +kernel
theorem dX11_stands_36 : decode cX11_stands 36 = .ok (.iload_n 2, 1) := by decide +kernel
theorem dX11_stands_37 : decode cX11_stands 37 = .ok (.invokevirtual 164, 3) := by decide +kernel
theorem dX11_stands_40 : decode cX11_stands 40 = .ok (.ireturn, 1) := by decide +kernel
theorem dX11_chance_0 : decode cX11_chance 0 = .ok (.aload_n 0, 1) := by decide +kernel
theorem dX11_chance_1 : decode cX11_chance 1 = .ok (.iload_n 1, 1) := by decide +kernel
theorem dX11_chance_2 : decode cX11_chance 2 = .ok (.iload_n 2, 1) := by decide +kernel
theorem dX11_chance_3 : decode cX11_chance 3 = .ok (.invokevirtual 168, 3) := by decide +kernel
theorem dX11_chance_6 : decode cX11_chance 6 = .ok (.ifCond .ne 5, 3) := by decide +kernel
theorem dX11_chance_9 : decode cX11_chance 9 = .ok (.iconst (-1), 1) := by decide +kernel
theorem dX11_chance_10 : decode cX11_chance 10 = .ok (.ireturn, 1) := by decide +kernel
theorem dX11_chance_11 : decode cX11_chance 11 = .ok (.aload_n 0, 1) := by decide +kernel
theorem dX11_chance_12 : decode cX11_chance 12 = .ok (.getfield 26, 3) := by decide +kernel
theorem dX11_chance_15 : decode cX11_chance 15 = .ok (.iload_n 1, 1) := by decide +kernel
theorem dX11_chance_16 : decode cX11_chance 16 = .ok (.invokevirtual 158, 3) := by decide +kernel
theorem dX11_chance_19 : decode cX11_chance 19 = .ok (.aload_n 0, 1) := by decide +kernel
theorem dX11_chance_20 : decode cX11_chance 20 = .ok (.getfield 26, 3) := by decide +kernel
theorem dX11_chance_23 : decode cX11_chance 23 = .ok (.iload_n 2, 1) := by decide +kernel
theorem dX11_chance_24 : decode cX11_chance 24 = .ok (.invokevirtual 172, 3) := by decide +kernel
theorem dX11_chance_27 : decode cX11_chance 27 = .ok (.ireturn, 1) := by decide +kernel
theorem dX11_thrown_0 : decode cX11_thrown 0 = .ok (.aload_n 0, 1) := by decide +kernel
theorem dX11_thrown_1 : decode cX11_thrown 1 = .ok (.getfield 34, 3) := by decide +kernel
theorem dX11_thrown_4 : decode cX11_thrown 4 = .ok (.iload_n 1, 1) := by decide +kernel
theorem dX11_thrown_5 : decode cX11_thrown 5 = .ok (.invokevirtual 116, 3) := by decide +kernel
theorem dX11_thrown_8 : decode cX11_thrown 8 = .ok (.ifCond .eq 12, 3) := by decide +kernel
theorem dX11_thrown_11 : decode cX11_thrown 11 = .ok (.iload_n 2, 1) := by decide +kernel
theorem dX11_thrown_12 : decode cX11_thrown 12 = .ok (.iconst 0, 1) := by decide +kernel
theorem dX11_thrown_13 : decode cX11_thrown 13 = .ok (.iconst 1, 1) := by decide +kernel
theorem dX11_thrown_14 : decode cX11_thrown 14 = .ok (.invokestatic 81, 3) := by decide +kernel
theorem dX11_thrown_17 : decode cX11_thrown 17 = .ok (.ifCond .ne 5, 3) := by decide +kernel
theorem dX11_thrown_20 : decode cX11_thrown 20 = .ok (.iconst (-1), 1) := by decide +kernel
theorem dX11_thrown_21 : decode cX11_thrown 21 = .ok (.ireturn, 1) := by decide +kernel
theorem dX11_thrown_22 : decode cX11_thrown 22 = .ok (.aload_n 0, 1) := by decide +kernel
theorem dX11_thrown_23 : decode cX11_thrown 23 = .ok (.getfield 26, 3) := by decide +kernel
theorem dX11_thrown_26 : decode cX11_thrown 26 = .ok (.iload_n 1, 1) := by decide +kernel
theorem dX11_thrown_27 : decode cX11_thrown 27 = .ok (.invokevirtual 158, 3) := by decide +kernel
theorem dX11_thrown_30 : decode cX11_thrown 30 = .ok (.aload_n 0, 1) := by decide +kernel
theorem dX11_thrown_31 : decode cX11_thrown 31 = .ok (.getfield 26, 3) := by decide +kernel
theorem dX11_thrown_34 : decode cX11_thrown 34 = .ok (.invokevirtual 175, 3) := by decide +kernel
theorem dX11_thrown_37 : decode cX11_thrown 37 = .ok (.istore_n 3, 1) := by decide +kernel
theorem dX11_thrown_38 : decode cX11_thrown 38 = .ok (.iload_n 2, 1) := by decide +kernel
theorem dX11_thrown_39 : decode cX11_thrown 39 = .ok (.ifCond .ne 7, 3) := by decide +kernel
theorem dX11_thrown_42 : decode cX11_thrown 42 = .ok (.iload_n 3, 1) := by decide +kernel
theorem dX11_thrown_43 : decode cX11_thrown 43 = .ok (.goto 11, 3) := by decide +kernel
theorem dX11_thrown_46 : decode cX11_thrown 46 = .ok (.aload_n 0, 1) := by decide +kernel
theorem dX11_thrown_47 : decode cX11_thrown 47 = .ok (.getfield 26, 3) := by decide +kernel
theorem dX11_thrown_50 : decode cX11_thrown 50 = .ok (.iload_n 3, 1) := by decide +kernel
theorem dX11_thrown_51 : decode cX11_thrown 51 = .ok (.invokevirtual 172, 3) := by decide +kernel
theorem dX11_thrown_54 : decode cX11_thrown 54 = .ok (.ireturn, 1) := by decide +kernel
theorem dX11_hidden_0 : decode cX11_hidden 0 = .ok (.aload_n 0, 1) := by decide +kernel
theorem dX11_hidden_1 : decode cX11_hidden 1 = .ok (.iload_n 1, 1) := by decide +kernel
theorem dX11_hidden_2 : decode cX11_hidden 2 = .ok (.iload_n 2, 1) := by decide +kernel
theorem dX11_hidden_3 : decode cX11_hidden 3 = .ok (.invokevirtual 168, 3) := by decide +kernel
theorem dX11_hidden_6 : decode cX11_hidden 6 = .ok (.ifCond .ne 5, 3) := by decide +kernel
theorem dX11_hidden_9 : decode cX11_hidden 9 = .ok (.iconst (-1), 1) := by decide +kernel
theorem dX11_hidden_10 : decode cX11_hidden 10 = .ok (.ireturn, 1) := by decide +kernel
theorem dX11_hidden_11 : decode cX11_hidden 11 = .ok (.aload_n 0, 1) := by decide +kernel
theorem dX11_hidden_12 : decode cX11_hidden 12 = .ok (.getfield 26, 3) := by decide +kernel
theorem dX11_hidden_15 : decode cX11_hidden 15 = .ok (.iload_n 1, 1) := by decide +kernel
theorem dX11_hidden_16 : decode cX11_hidden 16 = .ok (.invokevirtual 158, 3) := by decide +kernel
theorem dX11_hidden_19 : decode cX11_hidden 19 = .ok (.aload_n 0, 1) := by decide +kernel
theorem dX11_hidden_20 : decode cX11_hidden 20 = .ok (.getfield 26, 3) := by decide +kernel
theorem dX11_hidden_23 : decode cX11_hidden 23 = .ok (.iload_n 2, 1) := by decide +kernel
theorem dX11_hidden_24 : decode cX11_hidden 24 = .ok (.invokevirtual 178, 3) := by decide +kernel
theorem dX11_hidden_27 : decode cX11_hidden 27 = .ok (.ireturn, 1) := by decide +kernel
theorem dX11_safe_0 : decode cX11_safe 0 = .ok (.aload_n 0, 1) := by decide +kernel
theorem dX11_safe_1 : decode cX11_safe 1 = .ok (.getfield 34, 3) := by decide +kernel
theorem dX11_safe_4 : decode cX11_safe 4 = .ok (.iload_n 1, 1) := by decide +kernel
theorem dX11_safe_5 : decode cX11_safe 5 = .ok (.invokevirtual 116, 3) := by decide +kernel
theorem dX11_safe_8 : decode cX11_safe 8 = .ok (.ifCond .eq 12, 3) := by decide +kernel
theorem dX11_safe_11 : decode cX11_safe 11 = .ok (.iload_n 2, 1) := by decide +kernel
theorem dX11_safe_12 : decode cX11_safe 12 = .ok (.iconst 0, 1) := by decide +kernel
theorem dX11_safe_13 : decode cX11_safe 13 = .ok (.iconst 3, 1) := by decide +kernel
theorem dX11_safe_14 : decode cX11_safe 14 = .ok (.invokestatic 81, 3) := by decide +kernel
theorem dX11_safe_17 : decode cX11_safe 17 = .ok (.ifCond .ne 5, 3) := by decide +kernel
theorem dX11_safe_20 : decode cX11_safe 20 = .ok (.iconst (-1), 1) := by decide +kernel
theorem dX11_safe_21 : decode cX11_safe 21 = .ok (.ireturn, 1) := by decide +kernel
theorem dX11_safe_22 : decode cX11_safe 22 = .ok (.aload_n 0, 1) := by decide +kernel
theorem dX11_safe_23 : decode cX11_safe 23 = .ok (.getfield 44, 3) := by decide +kernel
theorem dX11_safe_26 : decode cX11_safe 26 = .ok (.aload_n 0, 1) := by decide +kernel
theorem dX11_safe_27 : decode cX11_safe 27 = .ok (.getfield 26, 3) := by decide +kernel
theorem dX11_safe_30 : decode cX11_safe 30 = .ok (.iload_n 1, 1) := by decide +kernel
theorem dX11_safe_31 : decode cX11_safe 31 = .ok (.invokevirtual 181, 3) := by decide +kernel
theorem dX11_safe_34 : decode cX11_safe 34 = .ok (.aload_n 0, 1) := by decide +kernel
theorem dX11_safe_35 : decode cX11_safe 35 = .ok (.getfield 44, 3) := by decide +kernel
theorem dX11_safe_38 : decode cX11_safe 38 = .ok (.getfield 185, 3) := by decide +kernel
theorem dX11_safe_41 : decode cX11_safe 41 = .ok (.ifCond .ne 6, 3) := by decide +kernel
theorem dX11_safe_44 : decode cX11_safe 44 = .ok (.bipush (-4), 2) := by decide +kernel
theorem dX11_safe_46 : decode cX11_safe 46 = .ok (.ireturn, 1) := by decide +kernel
theorem dX11_safe_47 : decode cX11_safe 47 = .ok (.iload_n 2, 1) := by decide +kernel
theorem dX11_safe_48 : decode cX11_safe 48 = .ok (.tableswitch 52 0 2 #[28, 36, 44], 28) := by decide +kernel
theorem dX11_safe_76 : decode cX11_safe 76 = .ok (.aload_n 0, 1) := by decide +kernel
theorem dX11_safe_77 : decode cX11_safe 77 = .ok (.getfield 44, 3) := by decide +kernel
theorem dX11_safe_80 : decode cX11_safe 80 = .ok (.getfield 189, 3) := by decide +kernel
theorem dX11_safe_83 : decode cX11_safe 83 = .ok (.ireturn, 1) := by decide +kernel
theorem dX11_safe_84 : decode cX11_safe 84 = .ok (.aload_n 0, 1) := by decide +kernel
theorem dX11_safe_85 : decode cX11_safe 85 = .ok (.getfield 44, 3) := by decide +kernel
theorem dX11_safe_88 : decode cX11_safe 88 = .ok (.getfield 190, 3) := by decide +kernel
theorem dX11_safe_91 : decode cX11_safe 91 = .ok (.ireturn, 1) := by decide +kernel
theorem dX11_safe_92 : decode cX11_safe 92 = .ok (.aload_n 0, 1) := by decide +kernel
theorem dX11_safe_93 : decode cX11_safe 93 = .ok (.getfield 44, 3) := by decide +kernel
theorem dX11_safe_96 : decode cX11_safe 96 = .ok (.getfield 191, 3) := by decide +kernel
theorem dX11_safe_99 : decode cX11_safe 99 = .ok (.ireturn, 1) := by decide +kernel
theorem dX11_safe_100 : decode cX11_safe 100 = .ok (.aload_n 0, 1) := by decide +kernel
theorem dX11_safe_101 : decode cX11_safe 101 = .ok (.getfield 44, 3) := by decide +kernel
theorem dX11_safe_104 : decode cX11_safe 104 = .ok (.getfield 192, 3) := by decide +kernel
theorem dX11_safe_107 : decode cX11_safe 107 = .ok (.ireturn, 1) := by decide +kernel
theorem dX11_run_0 : decode cX11_run 0 = .ok (.aload_n 0, 1) := by decide +kernel
theorem dX11_run_1 : decode cX11_run 1 = .ok (.iload_n 1, 1) := by decide +kernel
theorem dX11_run_2 : decode cX11_run 2 = .ok (.iload_n 2, 1) := by decide +kernel
theorem dX11_run_3 : decode cX11_run 3 = .ok (.invokevirtual 168, 3) := by decide +kernel
theorem dX11_run_6 : decode cX11_run 6 = .ok (.ifCond .eq 12, 3) := by decide +kernel
theorem dX11_run_9 : decode cX11_run 9 = .ok (.iload_n 3, 1) := by decide +kernel
theorem dX11_run_10 : decode cX11_run 10 = .ok (.iconst 0, 1) := by decide +kernel
theorem dX11_run_11 : decode cX11_run 11 = .ok (.iconst 1, 1) := by decide +kernel
theorem dX11_run_12 : decode cX11_run 12 = .ok (.invokestatic 81, 3) := by decide +kernel
theorem dX11_run_15 : decode cX11_run 15 = .ok (.ifCond .ne 5, 3) := by decide +kernel
theorem dX11_run_18 : decode cX11_run 18 = .ok (.iconst (-1), 1) := by decide +kernel
theorem dX11_run_19 : decode cX11_run 19 = .ok (.ireturn, 1) := by decide +kernel
theorem dX11_run_20 : decode cX11_run 20 = .ok (.aload_n 0, 1) := by decide +kernel
theorem dX11_run_21 : decode cX11_run 21 = .ok (.getfield 26, 3) := by decide +kernel
theorem dX11_run_24 : decode cX11_run 24 = .ok (.iload_n 1, 1) := by decide +kernel
theorem dX11_run_25 : decode cX11_run 25 = .ok (.invokevirtual 158, 3) := by decide +kernel
theorem dX11_run_28 : decode cX11_run 28 = .ok (.iconst 0, 1) := by decide +kernel
theorem dX11_run_29 : decode cX11_run 29 = .ok (.istore 4, 2) := by decide +kernel
theorem dX11_run_31 : decode cX11_run 31 = .ok (.bipush 11, 2) := by decide +kernel
theorem dX11_run_33 : decode cX11_run 33 = .ok (.istore 5, 2) := by decide +kernel
theorem dX11_run_35 : decode cX11_run 35 = .ok (.iconst 0, 1) := by decide +kernel
theorem dX11_run_36 : decode cX11_run 36 = .ok (.istore 6, 2) := by decide +kernel
theorem dX11_run_38 : decode cX11_run 38 = .ok (.iload 6, 2) := by decide +kernel
theorem dX11_run_40 : decode cX11_run 40 = .ok (.iconst 4, 1) := by decide +kernel
theorem dX11_run_41 : decode cX11_run 41 = .ok (.if_icmp .ge 59, 3) := by decide +kernel
theorem dX11_run_44 : decode cX11_run 44 = .ok (.aload_n 0, 1) := by decide +kernel
theorem dX11_run_45 : decode cX11_run 45 = .ok (.getfield 26, 3) := by decide +kernel
theorem dX11_run_48 : decode cX11_run 48 = .ok (.iload_n 2, 1) := by decide +kernel
theorem dX11_run_49 : decode cX11_run 49 = .ok (.iload 6, 2) := by decide +kernel
theorem dX11_run_51 : decode cX11_run 51 = .ok (.invokevirtual 195, 3) := by decide +kernel
theorem dX11_run_54 : decode cX11_run 54 = .ok (.aload_n 0, 1) := by decide +kernel
theorem dX11_run_55 : decode cX11_run 55 = .ok (.getfield 26, 3) := by decide +kernel
theorem dX11_run_58 : decode cX11_run 58 = .ok (.invokevirtual 175, 3) := by decide +kernel
theorem dX11_run_61 : decode cX11_run 61 = .ok (.iload_n 2, 1) := by decide +kernel
theorem dX11_run_62 : decode cX11_run 62 = .ok (.if_icmp .ne 14, 3) := by decide +kernel
theorem dX11_run_65 : decode cX11_run 65 = .ok (.aload_n 0, 1) := by decide +kernel
theorem dX11_run_66 : decode cX11_run 66 = .ok (.getfield 26, 3) := by decide +kernel
theorem dX11_run_69 : decode cX11_run 69 = .ok (.iload_n 2, 1) := by decide +kernel
theorem dX11_run_70 : decode cX11_run 70 = .ok (.invokevirtual 172, 3) := by decide +kernel
theorem dX11_run_73 : decode cX11_run 73 = .ok (.goto 4, 3) := by decide +kernel
theorem dX11_run_76 : decode cX11_run 76 = .ok (.iconst 0, 1) := by decide +kernel
theorem dX11_run_77 : decode cX11_run 77 = .ok (.istore 7, 2) := by decide +kernel
theorem dX11_run_79 : decode cX11_run 79 = .ok (.iload 7, 2) := by decide +kernel
theorem dX11_run_81 : decode cX11_run 81 = .ok (.iload 5, 2) := by decide +kernel
theorem dX11_run_83 : decode cX11_run 83 = .ok (.if_icmp .ge 11, 3) := by decide +kernel
theorem dX11_run_86 : decode cX11_run 86 = .ok (.iload 7, 2) := by decide +kernel
theorem dX11_run_88 : decode cX11_run 88 = .ok (.istore 5, 2) := by decide +kernel
theorem dX11_run_90 : decode cX11_run 90 = .ok (.iload 6, 2) := by decide +kernel
theorem dX11_run_92 : decode cX11_run 92 = .ok (.istore 4, 2) := by decide +kernel
theorem dX11_run_94 : decode cX11_run 94 = .ok (.iinc 6 1, 3) := by decide +kernel
theorem dX11_run_97 : decode cX11_run 97 = .ok (.goto (-59), 3) := by decide +kernel
theorem dX11_run_100 : decode cX11_run 100 = .ok (.iload_n 3, 1) := by decide +kernel
theorem dX11_run_101 : decode cX11_run 101 = .ok (.ifCond .ne 8, 3) := by decide +kernel
theorem dX11_run_104 : decode cX11_run 104 = .ok (.iload 4, 2) := by decide +kernel
theorem dX11_run_106 : decode cX11_run 106 = .ok (.goto 5, 3) := by decide +kernel
theorem dX11_run_109 : decode cX11_run 109 = .ok (.iload 5, 2) := by decide +kernel
theorem dX11_run_111 : decode cX11_run 111 = .ok (.ireturn, 1) := by decide +kernel
theorem dX11_first_0 : decode cX11_first 0 = .ok (.aload_n 0, 1) := by decide +kernel
theorem dX11_first_1 : decode cX11_first 1 = .ok (.getfield 34, 3) := by decide +kernel
theorem dX11_first_4 : decode cX11_first 4 = .ok (.iload_n 1, 1) := by decide +kernel
theorem dX11_first_5 : decode cX11_first 5 = .ok (.invokevirtual 116, 3) := by decide +kernel
theorem dX11_first_8 : decode cX11_first 8 = .ok (.ifCond .eq 23, 3) := by decide +kernel
theorem dX11_first_11 : decode cX11_first 11 = .ok (.aload_n 0, 1) := by decide +kernel
theorem dX11_first_12 : decode cX11_first 12 = .ok (.getfield 34, 3) := by decide +kernel
theorem dX11_first_15 : decode cX11_first 15 = .ok (.iload_n 2, 1) := by decide +kernel
theorem dX11_first_16 : decode cX11_first 16 = .ok (.invokevirtual 116, 3) := by decide +kernel
theorem dX11_first_19 : decode cX11_first 19 = .ok (.ifCond .eq 12, 3) := by decide +kernel
theorem dX11_first_22 : decode cX11_first 22 = .ok (.iload_n 3, 1) := by decide +kernel
theorem dX11_first_23 : decode cX11_first 23 = .ok (.iconst 0, 1) := by decide +kernel
theorem dX11_first_24 : decode cX11_first 24 = .ok (.iconst 1, 1) := by decide +kernel
theorem dX11_first_25 : decode cX11_first 25 = .ok (.invokestatic 81, 3) := by decide +kernel
theorem dX11_first_28 : decode cX11_first 28 = .ok (.ifCond .ne 7, 3) := by decide +kernel
theorem dX11_first_31 : decode cX11_first 31 = .ok (.ldc2_w 199, 3) := by decide +kernel
theorem dX11_first_34 : decode cX11_first 34 = .ok (.lreturn, 1) := by decide +kernel
theorem dX11_first_35 : decode cX11_first 35 = .ok (.aload_n 0, 1) := by decide +kernel
theorem dX11_first_36 : decode cX11_first 36 = .ok (.getfield 51, 3) := by decide +kernel
theorem dX11_first_39 : decode cX11_first 39 = .ok (.aload_n 0, 1) := by decide +kernel
theorem dX11_first_40 : decode cX11_first 40 = .ok (.getfield 26, 3) := by decide +kernel
theorem dX11_first_43 : decode cX11_first 43 = .ok (.invokevirtual 201, 3) := by decide +kernel
theorem dX11_first_46 : decode cX11_first 46 = .ok (.aload_n 0, 1) := by decide +kernel
theorem dX11_first_47 : decode cX11_first 47 = .ok (.getfield 51, 3) := by decide +kernel
theorem dX11_first_50 : decode cX11_first 50 = .ok (.aload_n 0, 1) := by decide +kernel
theorem dX11_first_51 : decode cX11_first 51 = .ok (.getfield 34, 3) := by decide +kernel
theorem dX11_first_54 : decode cX11_first 54 = .ok (.iload_n 1, 1) := by decide +kernel
theorem dX11_first_55 : decode cX11_first 55 = .ok (.invokevirtual 205, 3) := by decide +kernel
theorem dX11_first_58 : decode cX11_first 58 = .ok (.aload_n 0, 1) := by decide +kernel
theorem dX11_first_59 : decode cX11_first 59 = .ok (.getfield 51, 3) := by decide +kernel
theorem dX11_first_62 : decode cX11_first 62 = .ok (.iload_n 2, 1) := by decide +kernel
theorem dX11_first_63 : decode cX11_first 63 = .ok (.invokevirtual 209, 3) := by decide +kernel
theorem dX11_first_66 : decode cX11_first 66 = .ok (.iload_n 3, 1) := by decide +kernel
theorem dX11_first_67 : decode cX11_first 67 = .ok (.invokestatic 213, 3) := by decide +kernel
theorem dX11_first_70 : decode cX11_first 70 = .ok (.lreturn, 1) := by decide +kernel
theorem dX11_rounds_0 : decode cX11_rounds 0 = .ok (.aload_n 0, 1) := by decide +kernel
theorem dX11_rounds_1 : decode cX11_rounds 1 = .ok (.getfield 34, 3) := by decide +kernel
theorem dX11_rounds_4 : decode cX11_rounds 4 = .ok (.iload_n 1, 1) := by decide +kernel
theorem dX11_rounds_5 : decode cX11_rounds 5 = .ok (.invokevirtual 116, 3) := by decide +kernel
theorem dX11_rounds_8 : decode cX11_rounds 8 = .ok (.ifCond .eq 12, 3) := by decide +kernel
theorem dX11_rounds_11 : decode cX11_rounds 11 = .ok (.iload_n 2, 1) := by decide +kernel
theorem dX11_rounds_12 : decode cX11_rounds 12 = .ok (.iconst 0, 1) := by decide +kernel
theorem dX11_rounds_13 : decode cX11_rounds 13 = .ok (.iconst 1, 1) := by decide +kernel
theorem dX11_rounds_14 : decode cX11_rounds 14 = .ok (.invokestatic 81, 3) := by decide +kernel
theorem dX11_rounds_17 : decode cX11_rounds 17 = .ok (.ifCond .ne 7, 3) := by decide +kernel
theorem dX11_rounds_20 : decode cX11_rounds 20 = .ok (.ldc2_w 199, 3) := by decide +kernel
theorem dX11_rounds_23 : decode cX11_rounds 23 = .ok (.lreturn, 1) := by decide +kernel
theorem dX11_rounds_24 : decode cX11_rounds 24 = .ok (.aload_n 0, 1) := by decide +kernel
theorem dX11_rounds_25 : decode cX11_rounds 25 = .ok (.getfield 51, 3) := by decide +kernel
theorem dX11_rounds_28 : decode cX11_rounds 28 = .ok (.aload_n 0, 1) := by decide +kernel
theorem dX11_rounds_29 : decode cX11_rounds 29 = .ok (.getfield 26, 3) := by decide +kernel
theorem dX11_rounds_32 : decode cX11_rounds 32 = .ok (.invokevirtual 201, 3) := by decide +kernel
theorem dX11_rounds_35 : decode cX11_rounds 35 = .ok (.aload_n 0, 1) := by decide +kernel
theorem dX11_rounds_36 : decode cX11_rounds 36 = .ok (.getfield 51, 3) := by decide +kernel
theorem dX11_rounds_39 : decode cX11_rounds 39 = .ok (.aload_n 0, 1) := by decide +kernel
theorem dX11_rounds_40 : decode cX11_rounds 40 = .ok (.getfield 34, 3) := by decide +kernel
theorem dX11_rounds_43 : decode cX11_rounds 43 = .ok (.iload_n 1, 1) := by decide +kernel
theorem dX11_rounds_44 : decode cX11_rounds 44 = .ok (.invokevirtual 205, 3) := by decide +kernel
theorem dX11_rounds_47 : decode cX11_rounds 47 = .ok (.aload_n 0, 1) := by decide +kernel
theorem dX11_rounds_48 : decode cX11_rounds 48 = .ok (.getfield 51, 3) := by decide +kernel
theorem dX11_rounds_51 : decode cX11_rounds 51 = .ok (.getfield 217, 3) := by decide +kernel
theorem dX11_rounds_54 : decode cX11_rounds 54 = .ok (.iload_n 2, 1) := by decide +kernel
theorem dX11_rounds_55 : decode cX11_rounds 55 = .ok (.invokestatic 213, 3) := by decide +kernel
theorem dX11_rounds_58 : decode cX11_rounds 58 = .ok (.lreturn, 1) := by decide +kernel
theorem dX11_call_0 : decode cX11_call 0 = .ok (.aload_n 0, 1) := by decide +kernel
theorem dX11_call_1 : decode cX11_call 1 = .ok (.getfield 34, 3) := by decide +kernel
theorem dX11_call_4 : decode cX11_call 4 = .ok (.iload_n 1, 1) := by decide +kernel
theorem dX11_call_5 : decode cX11_call 5 = .ok (.invokevirtual 116, 3) := by decide +kernel
theorem dX11_call_8 : decode cX11_call 8 = .ok (.ifCond .eq 41, 3) := by decide +kernel
theorem dX11_call_11 : decode cX11_call 11 = .ok (.aload_n 0, 1) := by decide +kernel
theorem dX11_call_12 : decode cX11_call 12 = .ok (.getfield 34, 3) := by decide +kernel
theorem dX11_call_15 : decode cX11_call 15 = .ok (.iload_n 2, 1) := by decide +kernel
theorem dX11_call_16 : decode cX11_call 16 = .ok (.invokevirtual 116, 3) := by decide +kernel
theorem dX11_call_19 : decode cX11_call 19 = .ok (.ifCond .eq 30, 3) := by decide +kernel
theorem dX11_call_22 : decode cX11_call 22 = .ok (.iload_n 1, 1) := by decide +kernel
theorem dX11_call_23 : decode cX11_call 23 = .ok (.iload_n 2, 1) := by decide +kernel
theorem dX11_call_24 : decode cX11_call 24 = .ok (.if_icmp .eq 25, 3) := by decide +kernel
theorem dX11_call_27 : decode cX11_call 27 = .ok (.aload_n 0, 1) := by decide +kernel
theorem dX11_call_28 : decode cX11_call 28 = .ok (.getfield 34, 3) := by decide +kernel
theorem dX11_call_31 : decode cX11_call 31 = .ok (.iload_n 3, 1) := by decide +kernel
theorem dX11_call_32 : decode cX11_call 32 = .ok (.invokevirtual 221, 3) := by decide +kernel
theorem dX11_call_35 : decode cX11_call 35 = .ok (.ifCond .eq 14, 3) := by decide +kernel
theorem dX11_call_38 : decode cX11_call 38 = .ok (.iload 4, 2) := by decide +kernel
theorem dX11_call_40 : decode cX11_call 40 = .ok (.iconst 1, 1) := by decide +kernel
theorem dX11_call_41 : decode cX11_call 41 = .ok (.bipush 9, 2) := by decide +kernel
theorem dX11_call_43 : decode cX11_call 43 = .ok (.invokestatic 81, 3) := by decide +kernel
theorem dX11_call_46 : decode cX11_call 46 = .ok (.ifCond .ne 5, 3) := by decide +kernel
theorem dX11_call_49 : decode cX11_call 49 = .ok (.iconst (-1), 1) := by decide +kernel
theorem dX11_call_50 : decode cX11_call 50 = .ok (.ireturn, 1) := by decide +kernel
theorem dX11_call_51 : decode cX11_call 51 = .ok (.aload_n 0, 1) := by decide +kernel
theorem dX11_call_52 : decode cX11_call 52 = .ok (.getfield 67, 3) := by decide +kernel
theorem dX11_call_55 : decode cX11_call 55 = .ok (.aload_n 0, 1) := by decide +kernel
theorem dX11_call_56 : decode cX11_call 56 = .ok (.getfield 34, 3) := by decide +kernel
theorem dX11_call_59 : decode cX11_call 59 = .ok (.invokevirtual 224, 3) := by decide +kernel
theorem dX11_call_62 : decode cX11_call 62 = .ok (.aload_n 0, 1) := by decide +kernel
theorem dX11_call_63 : decode cX11_call 63 = .ok (.getfield 34, 3) := by decide +kernel
theorem dX11_call_66 : decode cX11_call 66 = .ok (.iload_n 1, 1) := by decide +kernel
theorem dX11_call_67 : decode cX11_call 67 = .ok (.invokevirtual 119, 3) := by decide +kernel
theorem dX11_call_70 : decode cX11_call 70 = .ok (.getfield 140, 3) := by decide +kernel
theorem dX11_call_73 : decode cX11_call 73 = .ok (.iload_n 2, 1) := by decide +kernel
theorem dX11_call_74 : decode cX11_call 74 = .ok (.iload_n 3, 1) := by decide +kernel
theorem dX11_call_75 : decode cX11_call 75 = .ok (.iload 4, 2) := by decide +kernel
theorem dX11_call_77 : decode cX11_call 77 = .ok (.invokevirtual 227, 3) := by decide +kernel
theorem dX11_call_80 : decode cX11_call 80 = .ok (.aload_n 0, 1) := by decide +kernel
theorem dX11_call_81 : decode cX11_call 81 = .ok (.getfield 67, 3) := by decide +kernel
theorem dX11_call_84 : decode cX11_call 84 = .ok (.getfield 231, 3) := by decide +kernel
theorem dX11_call_87 : decode cX11_call 87 = .ok (.ireturn, 1) := by decide +kernel
theorem dX11_letters_0 : decode cX11_letters 0 = .ok (.aload_n 0, 1) := by decide +kernel
theorem dX11_letters_1 : decode cX11_letters 1 = .ok (.getfield 34, 3) := by decide +kernel
theorem dX11_letters_4 : decode cX11_letters 4 = .ok (.iload_n 1, 1) := by decide +kernel
theorem dX11_letters_5 : decode cX11_letters 5 = .ok (.invokevirtual 116, 3) := by decide +kernel
theorem dX11_letters_8 : decode cX11_letters 8 = .ok (.ifCond .eq 12, 3) := by decide +kernel
theorem dX11_letters_11 : decode cX11_letters 11 = .ok (.iload_n 2, 1) := by decide +kernel
theorem dX11_letters_12 : decode cX11_letters 12 = .ok (.iconst 0, 1) := by decide +kernel
theorem dX11_letters_13 : decode cX11_letters 13 = .ok (.iconst 3, 1) := by decide +kernel
theorem dX11_letters_14 : decode cX11_letters 14 = .ok (.invokestatic 81, 3) := by decide +kernel
theorem dX11_letters_17 : decode cX11_letters 17 = .ok (.ifCond .ne 5, 3) := by decide +kernel
theorem dX11_letters_20 : decode cX11_letters 20 = .ok (.iconst (-1), 1) := by decide +kernel
theorem dX11_letters_21 : decode cX11_letters 21 = .ok (.ireturn, 1) := by decide +kernel
theorem dX11_letters_22 : decode cX11_letters 22 = .ok (.aload_n 0, 1) := by decide +kernel
theorem dX11_letters_23 : decode cX11_letters 23 = .ok (.getfield 67, 3) := by decide +kernel
theorem dX11_letters_26 : decode cX11_letters 26 = .ok (.aload_n 0, 1) := by decide +kernel
theorem dX11_letters_27 : decode cX11_letters 27 = .ok (.getfield 34, 3) := by decide +kernel
theorem dX11_letters_30 : decode cX11_letters 30 = .ok (.invokevirtual 224, 3) := by decide +kernel
theorem dX11_letters_33 : decode cX11_letters 33 = .ok (.aload_n 0, 1) := by decide +kernel
theorem dX11_letters_34 : decode cX11_letters 34 = .ok (.getfield 34, 3) := by decide +kernel
theorem dX11_letters_37 : decode cX11_letters 37 = .ok (.iload_n 1, 1) := by decide +kernel
theorem dX11_letters_38 : decode cX11_letters 38 = .ok (.invokevirtual 119, 3) := by decide +kernel
theorem dX11_letters_41 : decode cX11_letters 41 = .ok (.getfield 140, 3) := by decide +kernel
theorem dX11_letters_44 : decode cX11_letters 44 = .ok (.astore_n 3, 1) := by decide +kernel
theorem dX11_letters_45 : decode cX11_letters 45 = .ok (.aload_n 3, 1) := by decide +kernel
theorem dX11_letters_46 : decode cX11_letters 46 = .ok (.getfield 144, 3) := by decide +kernel
theorem dX11_letters_49 : decode cX11_letters 49 = .ok (.istore 4, 2) := by decide +kernel
theorem dX11_letters_51 : decode cX11_letters 51 = .ok (.aload_n 3, 1) := by decide +kernel
theorem dX11_letters_52 : decode cX11_letters 52 = .ok (.iload_n 2, 1) := by decide +kernel
theorem dX11_letters_53 : decode cX11_letters 53 = .ok (.putfield 144, 3) := by decide +kernel
theorem dX11_letters_56 : decode cX11_letters 56 = .ok (.iload 4, 2) := by decide +kernel
theorem dX11_letters_58 : decode cX11_letters 58 = .ok (.ireturn, 1) := by decide +kernel
theorem dX11_undo_0 : decode cX11_undo 0 = .ok (.aload_n 0, 1) := by decide +kernel
theorem dX11_undo_1 : decode cX11_undo 1 = .ok (.getfield 67, 3) := by decide +kernel
theorem dX11_undo_4 : decode cX11_undo 4 = .ok (.getfield 231, 3) := by decide +kernel
theorem dX11_undo_7 : decode cX11_undo 7 = .ok (.ifCond .ne 6, 3) := by decide +kernel
theorem dX11_undo_10 : decode cX11_undo 10 = .ok (.bipush (-2), 2) := by decide +kernel
theorem dX11_undo_12 : decode cX11_undo 12 = .ok (.ireturn, 1) := by decide +kernel
theorem dX11_undo_13 : decode cX11_undo 13 = .ok (.aload_n 0, 1) := by decide +kernel
theorem dX11_undo_14 : decode cX11_undo 14 = .ok (.getfield 67, 3) := by decide +kernel
theorem dX11_undo_17 : decode cX11_undo 17 = .ok (.aload_n 0, 1) := by decide +kernel
theorem dX11_undo_18 : decode cX11_undo 18 = .ok (.getfield 34, 3) := by decide +kernel
theorem dX11_undo_21 : decode cX11_undo 21 = .ok (.invokevirtual 232, 3) := by decide +kernel
theorem dX11_undo_24 : decode cX11_undo 24 = .ok (.aload_n 0, 1) := by decide +kernel
theorem dX11_undo_25 : decode cX11_undo 25 = .ok (.getfield 67, 3) := by decide +kernel
theorem dX11_undo_28 : decode cX11_undo 28 = .ok (.getfield 231, 3) := by decide +kernel
theorem dX11_undo_31 : decode cX11_undo 31 = .ok (.ireturn, 1) := by decide +kernel
theorem dX11_seen_0 : decode cX11_seen 0 = .ok (.aload_n 0, 1) := by decide +kernel
theorem dX11_seen_1 : decode cX11_seen 1 = .ok (.getfield 34, 3) := by decide +kernel
theorem dX11_seen_4 : decode cX11_seen 4 = .ok (.iload_n 1, 1) := by decide +kernel
theorem dX11_seen_5 : decode cX11_seen 5 = .ok (.invokevirtual 116, 3) := by decide +kernel
theorem dX11_seen_8 : decode cX11_seen 8 = .ok (.ifCond .eq 25, 3) := by decide +kernel
theorem dX11_seen_11 : decode cX11_seen 11 = .ok (.aload_n 0, 1) := by decide +kernel
theorem dX11_seen_12 : decode cX11_seen 12 = .ok (.getfield 34, 3) := by decide +kernel
theorem dX11_seen_15 : decode cX11_seen 15 = .ok (.iload_n 2, 1) := by decide +kernel
theorem dX11_seen_16 : decode cX11_seen 16 = .ok (.invokevirtual 116, 3) := by decide +kernel
theorem dX11_seen_19 : decode cX11_seen 19 = .ok (.ifCond .eq 14, 3) := by decide +kernel
theorem dX11_seen_22 : decode cX11_seen 22 = .ok (.aload_n 0, 1) := by decide +kernel
theorem dX11_seen_23 : decode cX11_seen 23 = .ok (.getfield 34, 3) := by decide +kernel
theorem dX11_seen_26 : decode cX11_seen 26 = .ok (.iload_n 3, 1) := by decide +kernel
theorem dX11_seen_27 : decode cX11_seen 27 = .ok (.invokevirtual 221, 3) := by decide +kernel
theorem dX11_seen_30 : decode cX11_seen 30 = .ok (.ifCond .ne 5, 3) := by decide +kernel
theorem dX11_seen_33 : decode cX11_seen 33 = .ok (.iconst (-1), 1) := by decide +kernel
theorem dX11_seen_34 : decode cX11_seen 34 = .ok (.ireturn, 1) := by decide +kernel
theorem dX11_seen_35 : decode cX11_seen 35 = .ok (.aload_n 0, 1) := by decide +kernel
theorem dX11_seen_36 : decode cX11_seen 36 = .ok (.getfield 58, 3) := by decide +kernel
theorem dX11_seen_39 : decode cX11_seen 39 = .ok (.getfield 235, 3) := by decide +kernel
theorem dX11_seen_42 : decode cX11_seen 42 = .ok (.bipush 8, 2) := by decide +kernel
theorem dX11_seen_44 : decode cX11_seen 44 = .ok (.if_icmp .ge 16, 3) := by decide +kernel
theorem dX11_seen_47 : decode cX11_seen 47 = .ok (.aload_n 0, 1) := by decide +kernel
theorem dX11_seen_48 : decode cX11_seen 48 = .ok (.getfield 58, 3) := by decide +kernel
theorem dX11_seen_51 : decode cX11_seen 51 = .ok (.iload_n 1, 1) := by decide +kernel
theorem dX11_seen_52 : decode cX11_seen 52 = .ok (.iload_n 2, 1) := by decide +kernel
theorem dX11_seen_53 : decode cX11_seen 53 = .ok (.iload_n 3, 1) := by decide +kernel
theorem dX11_seen_54 : decode cX11_seen 54 = .ok (.invokevirtual 236, 3) := by decide +kernel
theorem dX11_seen_57 : decode cX11_seen 57 = .ok (.goto 5, 3) := by decide +kernel
theorem dX11_seen_60 : decode cX11_seen 60 = .ok (.bipush (-3), 2) := by decide +kernel
theorem dX11_seen_62 : decode cX11_seen 62 = .ok (.ireturn, 1) := by decide +kernel
theorem dX11_forget_0 : decode cX11_forget 0 = .ok (.aload_n 0, 1) := by decide +kernel
theorem dX11_forget_1 : decode cX11_forget 1 = .ok (.getfield 58, 3) := by decide +kernel
theorem dX11_forget_4 : decode cX11_forget 4 = .ok (.invokevirtual 109, 3) := by decide +kernel
theorem dX11_forget_7 : decode cX11_forget 7 = .ok (.ireturn, 1) := by decide +kernel
theorem dX11_kinds_0 : decode cX11_kinds 0 = .ok (.aload_n 0, 1) := by decide +kernel
theorem dX11_kinds_1 : decode cX11_kinds 1 = .ok (.getfield 34, 3) := by decide +kernel
theorem dX11_kinds_4 : decode cX11_kinds 4 = .ok (.iload_n 1, 1) := by decide +kernel
theorem dX11_kinds_5 : decode cX11_kinds 5 = .ok (.invokevirtual 116, 3) := by decide +kernel
theorem dX11_kinds_8 : decode cX11_kinds 8 = .ok (.ifCond .eq 18, 3) := by decide +kernel
theorem dX11_kinds_11 : decode cX11_kinds 11 = .ok (.aload_n 0, 1) := by decide +kernel
theorem dX11_kinds_12 : decode cX11_kinds 12 = .ok (.getfield 58, 3) := by decide +kernel
theorem dX11_kinds_15 : decode cX11_kinds 15 = .ok (.iload_n 1, 1) := by decide +kernel
theorem dX11_kinds_16 : decode cX11_kinds 16 = .ok (.aload_n 0, 1) := by decide +kernel
theorem dX11_kinds_17 : decode cX11_kinds 17 = .ok (.getfield 26, 3) := by decide +kernel
theorem dX11_kinds_20 : decode cX11_kinds 20 = .ok (.invokevirtual 240, 3) := by decide +kernel
theorem dX11_kinds_23 : decode cX11_kinds 23 = .ok (.goto 4, 3) := by decide +kernel
theorem dX11_kinds_26 : decode cX11_kinds 26 = .ok (.iconst (-1), 1) := by decide +kernel
theorem dX11_kinds_27 : decode cX11_kinds 27 = .ok (.ireturn, 1) := by decide +kernel
theorem dX11_afternoon_0 : decode cX11_afternoon 0 = .ok (.iload_n 1, 1) := by decide +kernel
theorem dX11_afternoon_1 : decode cX11_afternoon 1 = .ok (.iconst 0, 1) := by decide +kernel
theorem dX11_afternoon_2 : decode cX11_afternoon 2 = .ok (.sipush 9999, 3) := by decide +kernel
theorem dX11_afternoon_5 : decode cX11_afternoon 5 = .ok (.invokestatic 81, 3) := by decide +kernel
theorem dX11_afternoon_8 : decode cX11_afternoon 8 = .ok (.ifCond .eq 12, 3) := by decide +kernel
theorem dX11_afternoon_11 : decode cX11_afternoon 11 = .ok (.iload_n 2, 1) := by decide +kernel
theorem dX11_afternoon_12 : decode cX11_afternoon 12 = .ok (.iconst 0, 1) := by decide +kernel
theorem dX11_afternoon_13 : decode cX11_afternoon 13 = .ok (.iconst 1, 1) := by decide +kernel
theorem dX11_afternoon_14 : decode cX11_afternoon 14 = .ok (.invokestatic 81, 3) := by decide +kernel
theorem dX11_afternoon_17 : decode cX11_afternoon 17 = .ok (.ifCond .ne 5, 3) := by decide +kernel
theorem dX11_afternoon_20 : decode cX11_afternoon 20 = .ok (.iconst (-1), 1) := by decide +kernel
theorem dX11_afternoon_21 : decode cX11_afternoon 21 = .ok (.ireturn, 1) := by decide +kernel
theorem dX11_afternoon_22 : decode cX11_afternoon 22 = .ok (.aload_n 0, 1) := by decide +kernel
theorem dX11_afternoon_23 : decode cX11_afternoon 23 = .ok (.getfield 51, 3) := by decide +kernel
theorem dX11_afternoon_26 : decode cX11_afternoon 26 = .ok (.aload_n 0, 1) := by decide +kernel
theorem dX11_afternoon_27 : decode cX11_afternoon 27 = .ok (.getfield 26, 3) := by decide +kernel
theorem dX11_afternoon_30 : decode cX11_afternoon 30 = .ok (.invokevirtual 201, 3) := by decide +kernel
theorem dX11_afternoon_33 : decode cX11_afternoon 33 = .ok (.aload_n 0, 1) := by decide +kernel
theorem dX11_afternoon_34 : decode cX11_afternoon 34 = .ok (.getfield 51, 3) := by decide +kernel
theorem dX11_afternoon_37 : decode cX11_afternoon 37 = .ok (.aload_n 0, 1) := by decide +kernel
theorem dX11_afternoon_38 : decode cX11_afternoon 38 = .ok (.getfield 34, 3) := by decide +kernel
theorem dX11_afternoon_41 : decode cX11_afternoon 41 = .ok (.iload_n 1, 1) := by decide +kernel
theorem dX11_afternoon_42 : decode cX11_afternoon 42 = .ok (.invokevirtual 244, 3) := by decide +kernel
theorem dX11_afternoon_45 : decode cX11_afternoon 45 = .ok (.iload_n 2, 1) := by decide +kernel
theorem dX11_afternoon_46 : decode cX11_afternoon 46 = .ok (.ifCond .ne 13, 3) := by decide +kernel
theorem dX11_afternoon_49 : decode cX11_afternoon 49 = .ok (.aload_n 0, 1) := by decide +kernel
theorem dX11_afternoon_50 : decode cX11_afternoon 50 = .ok (.getfield 51, 3) := by decide +kernel
theorem dX11_afternoon_53 : decode cX11_afternoon 53 = .ok (.getfield 247, 3) := by decide +kernel
theorem dX11_afternoon_56 : decode cX11_afternoon 56 = .ok (.goto 10, 3) := by decide +kernel
theorem dX11_afternoon_59 : decode cX11_afternoon 59 = .ok (.aload_n 0, 1) := by decide +kernel
theorem dX11_afternoon_60 : decode cX11_afternoon 60 = .ok (.getfield 51, 3) := by decide +kernel
theorem dX11_afternoon_63 : decode cX11_afternoon 63 = .ok (.getfield 250, 3) := by decide +kernel
theorem dX11_afternoon_66 : decode cX11_afternoon 66 = .ok (.ireturn, 1) := by decide +kernel
theorem dX11_keep_0 : decode cX11_keep 0 = .ok (.aload_n 0, 1) := by decide +kernel
theorem dX11_keep_1 : decode cX11_keep 1 = .ok (.getfield 71, 3) := by decide +kernel
theorem dX11_keep_4 : decode cX11_keep 4 = .ok (.getfield 231, 3) := by decide +kernel
theorem dX11_keep_7 : decode cX11_keep 7 = .ok (.iconst 2, 1) := by decide +kernel
theorem dX11_keep_8 : decode cX11_keep 8 = .ok (.if_icmp .lt 6, 3) := by decide +kernel
theorem dX11_keep_11 : decode cX11_keep 11 = .ok (.bipush (-3), 2) := by decide +kernel
theorem dX11_keep_13 : decode cX11_keep 13 = .ok (.ireturn, 1) := by decide +kernel
theorem dX11_keep_14 : decode cX11_keep 14 = .ok (.aload_n 0, 1) := by decide +kernel
theorem dX11_keep_15 : decode cX11_keep 15 = .ok (.getfield 71, 3) := by decide +kernel
theorem dX11_keep_18 : decode cX11_keep 18 = .ok (.aload_n 0, 1) := by decide +kernel
theorem dX11_keep_19 : decode cX11_keep 19 = .ok (.getfield 34, 3) := by decide +kernel
theorem dX11_keep_22 : decode cX11_keep 22 = .ok (.invokevirtual 224, 3) := by decide +kernel
theorem dX11_keep_25 : decode cX11_keep 25 = .ok (.aload_n 0, 1) := by decide +kernel
theorem dX11_keep_26 : decode cX11_keep 26 = .ok (.getfield 71, 3) := by decide +kernel
theorem dX11_keep_29 : decode cX11_keep 29 = .ok (.getfield 231, 3) := by decide +kernel
theorem dX11_keep_32 : decode cX11_keep 32 = .ok (.ireturn, 1) := by decide +kernel
theorem dX11_back_0 : decode cX11_back 0 = .ok (.aload_n 0, 1) := by decide +kernel
theorem dX11_back_1 : decode cX11_back 1 = .ok (.getfield 71, 3) := by decide +kernel
theorem dX11_back_4 : decode cX11_back 4 = .ok (.getfield 231, 3) := by decide +kernel
theorem dX11_back_7 : decode cX11_back 7 = .ok (.ifCond .ne 6, 3) := by decide +kernel
theorem dX11_back_10 : decode cX11_back 10 = .ok (.bipush (-2), 2) := by decide +kernel
theorem dX11_back_12 : decode cX11_back 12 = .ok (.ireturn, 1) := by decide +kernel
theorem dX11_back_13 : decode cX11_back 13 = .ok (.aload_n 0, 1) := by decide +kernel
theorem dX11_back_14 : decode cX11_back 14 = .ok (.getfield 71, 3) := by decide +kernel
theorem dX11_back_17 : decode cX11_back 17 = .ok (.aload_n 0, 1) := by decide +kernel
theorem dX11_back_18 : decode cX11_back 18 = .ok (.getfield 34, 3) := by decide +kernel
theorem dX11_back_21 : decode cX11_back 21 = .ok (.invokevirtual 232, 3) := by decide +kernel
theorem dX11_back_24 : decode cX11_back 24 = .ok (.aload_n 0, 1) := by decide +kernel
theorem dX11_back_25 : decode cX11_back 25 = .ok (.getfield 67, 3) := by decide +kernel
theorem dX11_back_28 : decode cX11_back 28 = .ok (.invokevirtual 110, 3) := by decide +kernel
theorem dX11_back_31 : decode cX11_back 31 = .ok (.aload_n 0, 1) := by decide +kernel
theorem dX11_back_32 : decode cX11_back 32 = .ok (.getfield 71, 3) := by decide +kernel
theorem dX11_back_35 : decode cX11_back 35 = .ok (.getfield 231, 3) := by decide +kernel
theorem dX11_back_38 : decode cX11_back 38 = .ok (.ireturn, 1) := by decide +kernel
theorem dX11_count_0 : decode cX11_count 0 = .ok (.iload_n 1, 1) := by decide +kernel
theorem dX11_count_1 : decode cX11_count 1 = .ok (.tableswitch 99 0 6 #[43, 51, 59, 67, 75, 83, 91], 43) := by decide +kernel
theorem dX11_count_44 : decode cX11_count 44 = .ok (.aload_n 0, 1) := by decide +kernel
theorem dX11_count_45 : decode cX11_count 45 = .ok (.getfield 34, 3) := by decide +kernel
theorem dX11_count_48 : decode cX11_count 48 = .ok (.getfield 112, 3) := by decide +kernel
theorem dX11_count_51 : decode cX11_count 51 = .ok (.ireturn, 1) := by decide +kernel
theorem dX11_count_52 : decode cX11_count 52 = .ok (.aload_n 0, 1) := by decide +kernel
theorem dX11_count_53 : decode cX11_count 53 = .ok (.getfield 34, 3) := by decide +kernel
theorem dX11_count_56 : decode cX11_count 56 = .ok (.getfield 253, 3) := by decide +kernel
theorem dX11_count_59 : decode cX11_count 59 = .ok (.ireturn, 1) := by decide +kernel
theorem dX11_count_60 : decode cX11_count 60 = .ok (.aload_n 0, 1) := by decide +kernel
theorem dX11_count_61 : decode cX11_count 61 = .ok (.getfield 34, 3) := by decide +kernel
theorem dX11_count_64 : decode cX11_count 64 = .ok (.getfield 256, 3) := by decide +kernel
theorem dX11_count_67 : decode cX11_count 67 = .ok (.ireturn, 1) := by decide +kernel
theorem dX11_count_68 : decode cX11_count 68 = .ok (.aload_n 0, 1) := by decide +kernel
theorem dX11_count_69 : decode cX11_count 69 = .ok (.getfield 58, 3) := by decide +kernel
theorem dX11_count_72 : decode cX11_count 72 = .ok (.getfield 235, 3) := by decide +kernel
theorem dX11_count_75 : decode cX11_count 75 = .ok (.ireturn, 1) := by decide +kernel
theorem dX11_count_76 : decode cX11_count 76 = .ok (.aload_n 0, 1) := by decide +kernel
theorem dX11_count_77 : decode cX11_count 77 = .ok (.getfield 67, 3) := by decide +kernel
theorem dX11_count_80 : decode cX11_count 80 = .ok (.getfield 231, 3) := by decide +kernel
theorem dX11_count_83 : decode cX11_count 83 = .ok (.ireturn, 1) := by decide +kernel
theorem dX11_count_84 : decode cX11_count 84 = .ok (.aload_n 0, 1) := by decide +kernel
theorem dX11_count_85 : decode cX11_count 85 = .ok (.getfield 71, 3) := by decide +kernel
theorem dX11_count_88 : decode cX11_count 88 = .ok (.getfield 231, 3) := by decide +kernel
theorem dX11_count_91 : decode cX11_count 91 = .ok (.ireturn, 1) := by decide +kernel
theorem dX11_count_92 : decode cX11_count 92 = .ok (.aload_n 0, 1) := by decide +kernel
theorem dX11_count_93 : decode cX11_count 93 = .ok (.getfield 10, 3) := by decide +kernel
theorem dX11_count_96 : decode cX11_count 96 = .ok (.getfield 259, 3) := by decide +kernel
theorem dX11_count_99 : decode cX11_count 99 = .ok (.ireturn, 1) := by decide +kernel
theorem dX11_count_100 : decode cX11_count 100 = .ok (.iconst (-1), 1) := by decide +kernel
theorem dX11_count_101 : decode cX11_count 101 = .ok (.ireturn, 1) := by decide +kernel
theorem dX11_canBeHit_0 : decode cX11_canBeHit 0 = .ok (.aload_n 0, 1) := by decide +kernel
theorem dX11_canBeHit_1 : decode cX11_canBeHit 1 = .ok (.getfield 34, 3) := by decide +kernel
theorem dX11_canBeHit_4 : decode cX11_canBeHit 4 = .ok (.iload_n 1, 1) := by decide +kernel
theorem dX11_canBeHit_5 : decode cX11_canBeHit 5 = .ok (.invokevirtual 116, 3) := by decide +kernel
theorem dX11_canBeHit_8 : decode cX11_canBeHit 8 = .ok (.ifCond .eq 36, 3) := by decide +kernel
theorem dX11_canBeHit_11 : decode cX11_canBeHit 11 = .ok (.aload_n 0, 1) := by decide +kernel
theorem dX11_canBeHit_12 : decode cX11_canBeHit 12 = .ok (.getfield 34, 3) := by decide +kernel
theorem dX11_canBeHit_15 : decode cX11_canBeHit 15 = .ok (.iload_n 2, 1) := by decide +kernel
theorem dX11_canBeHit_16 : decode cX11_canBeHit 16 = .ok (.invokevirtual 116, 3) := by decide +kernel
theorem dX11_canBeHit_19 : decode cX11_canBeHit 19 = .ok (.ifCond .eq 25, 3) := by decide +kernel
theorem dX11_canBeHit_22 : decode cX11_canBeHit 22 = .ok (.iload_n 2, 1) := by decide +kernel
theorem dX11_canBeHit_23 : decode cX11_canBeHit 23 = .ok (.aload_n 0, 1) := by decide +kernel
theorem dX11_canBeHit_24 : decode cX11_canBeHit 24 = .ok (.getfield 34, 3) := by decide +kernel
theorem dX11_canBeHit_27 : decode cX11_canBeHit 27 = .ok (.iload_n 1, 1) := by decide +kernel
theorem dX11_canBeHit_28 : decode cX11_canBeHit 28 = .ok (.invokevirtual 119, 3) := by decide +kernel
theorem dX11_canBeHit_31 : decode cX11_canBeHit 31 = .ok (.getfield 140, 3) := by decide +kernel
theorem dX11_canBeHit_34 : decode cX11_canBeHit 34 = .ok (.getfield 149, 3) := by decide +kernel
theorem dX11_canBeHit_37 : decode cX11_canBeHit 37 = .ok (.if_icmp .eq 7, 3) := by decide +kernel
theorem dX11_canBeHit_40 : decode cX11_canBeHit 40 = .ok (.iconst 1, 1) := by decide +kernel
theorem dX11_canBeHit_41 : decode cX11_canBeHit 41 = .ok (.goto 4, 3) := by decide +kernel
theorem dX11_canBeHit_44 : decode cX11_canBeHit 44 = .ok (.iconst 0, 1) := by decide +kernel
theorem dX11_canBeHit_45 : decode cX11_canBeHit 45 = .ok (.ireturn, 1) := by decide +kernel
theorem dX11_within_0 : decode cX11_within 0 = .ok (.iload_n 0, 1) := by decide +kernel
theorem dX11_within_1 : decode cX11_within 1 = .ok (.iload_n 1, 1) := by decide +kernel
theorem dX11_within_2 : decode cX11_within 2 = .ok (.if_icmp .lt 12, 3) := by decide +kernel
theorem dX11_within_5 : decode cX11_within 5 = .ok (.iload_n 0, 1) := by decide +kernel
theorem dX11_within_6 : decode cX11_within 6 = .ok (.iload_n 2, 1) := by decide +kernel
theorem dX11_within_7 : decode cX11_within 7 = .ok (.if_icmp .gt 7, 3) := by decide +kernel
theorem dX11_within_10 : decode cX11_within 10 = .ok (.iconst 1, 1) := by decide +kernel
theorem dX11_within_11 : decode cX11_within 11 = .ok (.goto 4, 3) := by decide +kernel
theorem dX11_within_14 : decode cX11_within 14 = .ok (.iconst 0, 1) := by decide +kernel
theorem dX11_within_15 : decode cX11_within 15 = .ok (.ireturn, 1) := by decide +kernel
theorem dX11_inLowestTerms_0 : decode cX11_inLowestTerms 0 = .ok (.lload_n 0, 1) := by decide +kernel
theorem dX11_inLowestTerms_1 : decode cX11_inLowestTerms 1 = .ok (.lstore_n 3, 1) := by decide +kernel
theorem dX11_inLowestTerms_2 : decode cX11_inLowestTerms 2 = .ok (.ldc2_w 262, 3) := by decide +kernel
theorem dX11_inLowestTerms_5 : decode cX11_inLowestTerms 5 = .ok (.lstore 5, 2) := by decide +kernel
theorem dX11_inLowestTerms_7 : decode cX11_inLowestTerms 7 = .ok (.iconst 0, 1) := by decide +kernel
theorem dX11_inLowestTerms_8 : decode cX11_inLowestTerms 8 = .ok (.istore 7, 2) := by decide +kernel
theorem dX11_inLowestTerms_10 : decode cX11_inLowestTerms 10 = .ok (.iload 7, 2) := by decide +kernel
theorem dX11_inLowestTerms_12 : decode cX11_inLowestTerms 12 = .ok (.bipush 16, 2) := by decide +kernel
theorem dX11_inLowestTerms_14 : decode cX11_inLowestTerms 14 = .ok (.if_icmp .ge 79, 3) := by decide +kernel
theorem dX11_inLowestTerms_17 : decode cX11_inLowestTerms 17 = .ok (.lload_n 3, 1) := by decide +kernel
theorem dX11_inLowestTerms_18 : decode cX11_inLowestTerms 18 = .ok (.ldc2_w 264, 3) := by decide +kernel
theorem dX11_inLowestTerms_21 : decode cX11_inLowestTerms 21 = .ok (.lrem, 1) := by decide +kernel
theorem dX11_inLowestTerms_22 : decode cX11_inLowestTerms 22 = .ok (.lconst 0, 1) := by decide +kernel
theorem dX11_inLowestTerms_23 : decode cX11_inLowestTerms 23 = .ok (.lcmp, 1) := by decide +kernel
theorem dX11_inLowestTerms_24 : decode cX11_inLowestTerms 24 = .ok (.ifCond .ne 28, 3) := by decide +kernel
theorem dX11_inLowestTerms_27 : decode cX11_inLowestTerms 27 = .ok (.lload 5, 2) := by decide +kernel
theorem dX11_inLowestTerms_29 : decode cX11_inLowestTerms 29 = .ok (.ldc2_w 264, 3) := by decide +kernel
theorem dX11_inLowestTerms_32 : decode cX11_inLowestTerms 32 = .ok (.lrem, 1) := by decide +kernel
theorem dX11_inLowestTerms_33 : decode cX11_inLowestTerms 33 = .ok (.lconst 0, 1) := by decide +kernel
theorem dX11_inLowestTerms_34 : decode cX11_inLowestTerms 34 = .ok (.lcmp, 1) := by decide +kernel
theorem dX11_inLowestTerms_35 : decode cX11_inLowestTerms 35 = .ok (.ifCond .ne 17, 3) := by decide +kernel
theorem dX11_inLowestTerms_38 : decode cX11_inLowestTerms 38 = .ok (.lload_n 3, 1) := by decide +kernel
theorem dX11_inLowestTerms_39 : decode cX11_inLowestTerms 39 = .ok (.ldc2_w 264, 3) := by decide +kernel
theorem dX11_inLowestTerms_42 : decode cX11_inLowestTerms 42 = .ok (.ldiv, 1) := by decide +kernel
theorem dX11_inLowestTerms_43 : decode cX11_inLowestTerms 43 = .ok (.lstore_n 3, 1) := by decide +kernel
theorem dX11_inLowestTerms_44 : decode cX11_inLowestTerms 44 = .ok (.lload 5, 2) := by decide +kernel
theorem dX11_inLowestTerms_46 : decode cX11_inLowestTerms 46 = .ok (.ldc2_w 264, 3) := by decide +kernel
theorem dX11_inLowestTerms_49 : decode cX11_inLowestTerms 49 = .ok (.ldiv, 1) := by decide +kernel
theorem dX11_inLowestTerms_50 : decode cX11_inLowestTerms 50 = .ok (.lstore 5, 2) := by decide +kernel
theorem dX11_inLowestTerms_52 : decode cX11_inLowestTerms 52 = .ok (.lload_n 3, 1) := by decide +kernel
theorem dX11_inLowestTerms_53 : decode cX11_inLowestTerms 53 = .ok (.ldc2_w 266, 3) := by decide +kernel
theorem dX11_inLowestTerms_56 : decode cX11_inLowestTerms 56 = .ok (.lrem, 1) := by decide +kernel
theorem dX11_inLowestTerms_57 : decode cX11_inLowestTerms 57 = .ok (.lconst 0, 1) := by decide +kernel
theorem dX11_inLowestTerms_58 : decode cX11_inLowestTerms 58 = .ok (.lcmp, 1) := by decide +kernel
theorem dX11_inLowestTerms_59 : decode cX11_inLowestTerms 59 = .ok (.ifCond .ne 28, 3) := by decide +kernel
theorem dX11_inLowestTerms_62 : decode cX11_inLowestTerms 62 = .ok (.lload 5, 2) := by decide +kernel
theorem dX11_inLowestTerms_64 : decode cX11_inLowestTerms 64 = .ok (.ldc2_w 266, 3) := by decide +kernel
theorem dX11_inLowestTerms_67 : decode cX11_inLowestTerms 67 = .ok (.lrem, 1) := by decide +kernel
theorem dX11_inLowestTerms_68 : decode cX11_inLowestTerms 68 = .ok (.lconst 0, 1) := by decide +kernel
theorem dX11_inLowestTerms_69 : decode cX11_inLowestTerms 69 = .ok (.lcmp, 1) := by decide +kernel
theorem dX11_inLowestTerms_70 : decode cX11_inLowestTerms 70 = .ok (.ifCond .ne 17, 3) := by decide +kernel
theorem dX11_inLowestTerms_73 : decode cX11_inLowestTerms 73 = .ok (.lload_n 3, 1) := by decide +kernel
theorem dX11_inLowestTerms_74 : decode cX11_inLowestTerms 74 = .ok (.ldc2_w 266, 3) := by decide +kernel
theorem dX11_inLowestTerms_77 : decode cX11_inLowestTerms 77 = .ok (.ldiv, 1) := by decide +kernel
theorem dX11_inLowestTerms_78 : decode cX11_inLowestTerms 78 = .ok (.lstore_n 3, 1) := by decide +kernel
theorem dX11_inLowestTerms_79 : decode cX11_inLowestTerms 79 = .ok (.lload 5, 2) := by decide +kernel
theorem dX11_inLowestTerms_81 : decode cX11_inLowestTerms 81 = .ok (.ldc2_w 266, 3) := by decide +kernel
theorem dX11_inLowestTerms_84 : decode cX11_inLowestTerms 84 = .ok (.ldiv, 1) := by decide +kernel
theorem dX11_inLowestTerms_85 : decode cX11_inLowestTerms 85 = .ok (.lstore 5, 2) := by decide +kernel
theorem dX11_inLowestTerms_87 : decode cX11_inLowestTerms 87 = .ok (.iinc 7 1, 3) := by decide +kernel
theorem dX11_inLowestTerms_90 : decode cX11_inLowestTerms 90 = .ok (.goto (-80), 3) := by decide +kernel
theorem dX11_inLowestTerms_93 : decode cX11_inLowestTerms 93 = .ok (.iload_n 2, 1) := by decide +kernel
theorem dX11_inLowestTerms_94 : decode cX11_inLowestTerms 94 = .ok (.ifCond .ne 7, 3) := by decide +kernel
theorem dX11_inLowestTerms_97 : decode cX11_inLowestTerms 97 = .ok (.lload_n 3, 1) := by decide +kernel
theorem dX11_inLowestTerms_98 : decode cX11_inLowestTerms 98 = .ok (.goto 5, 3) := by decide +kernel
theorem dX11_inLowestTerms_101 : decode cX11_inLowestTerms 101 = .ok (.lload 5, 2) := by decide +kernel
theorem dX11_inLowestTerms_103 : decode cX11_inLowestTerms 103 = .ok (.lreturn, 1) := by decide +kernel
theorem dX12_init_0 : decode cX12_init 0 = .ok (.aload_n 0, 1) := by decide +kernel
theorem dX12_init_1 : decode cX12_init 1 = .ok (.invokespecial 1, 3) := by decide +kernel
theorem dX12_init_4 : decode cX12_init 4 = .ok (.aload_n 0, 1) := by decide +kernel
theorem dX12_init_5 : decode cX12_init 5 = .ok (.bipush 25, 2) := by decide +kernel
theorem dX12_init_7 : decode cX12_init 7 = .ok (.newarray .int, 2) := by decide +kernel
theorem dX12_init_9 : decode cX12_init 9 = .ok (.putfield 7, 3) := by decide +kernel
theorem dX12_init_12 : decode cX12_init 12 = .ok (.aload_n 0, 1) := by decide +kernel
theorem dX12_init_13 : decode cX12_init 13 = .ok (.bipush 20, 2) := by decide +kernel
theorem dX12_init_15 : decode cX12_init 15 = .ok (.newarray .int, 2) := by decide +kernel
theorem dX12_init_17 : decode cX12_init 17 = .ok (.putfield 13, 3) := by decide +kernel
theorem dX12_init_20 : decode cX12_init 20 = .ok (.aload_n 0, 1) := by decide +kernel
theorem dX12_init_21 : decode cX12_init 21 = .ok (.sipush 300, 3) := by decide +kernel
theorem dX12_init_24 : decode cX12_init 24 = .ok (.newarray .int, 2) := by decide +kernel
theorem dX12_init_26 : decode cX12_init 26 = .ok (.putfield 16, 3) := by decide +kernel
theorem dX12_init_29 : decode cX12_init 29 = .ok (.aload_n 0, 1) := by decide +kernel
theorem dX12_init_30 : decode cX12_init 30 = .ok (.iconst 5, 1) := by decide +kernel
theorem dX12_init_31 : decode cX12_init 31 = .ok (.newarray .int, 2) := by decide +kernel
theorem dX12_init_33 : decode cX12_init 33 = .ok (.putfield 19, 3) := by decide +kernel
theorem dX12_init_36 : decode cX12_init 36 = .ok (.aload_n 0, 1) := by decide +kernel
theorem dX12_init_37 : decode cX12_init 37 = .ok (.bipush 25, 2) := by decide +kernel
theorem dX12_init_39 : decode cX12_init 39 = .ok (.newarray .int, 2) := by decide +kernel
theorem dX12_init_41 : decode cX12_init 41 = .ok (.putfield 22, 3) := by decide +kernel
theorem dX12_init_44 : decode cX12_init 44 = .ok (.aload_n 0, 1) := by decide +kernel
theorem dX12_init_45 : decode cX12_init 45 = .ok (.bipush 15, 2) := by decide +kernel
theorem dX12_init_47 : decode cX12_init 47 = .ok (.newarray .int, 2) := by decide +kernel
theorem dX12_init_49 : decode cX12_init 49 = .ok (.putfield 25, 3) := by decide +kernel
theorem dX12_init_52 : decode cX12_init 52 = .ok (.aload_n 0, 1) := by decide +kernel
theorem dX12_init_53 : decode cX12_init 53 = .ok (.iconst 5, 1) := by decide +kernel
theorem dX12_init_54 : decode cX12_init 54 = .ok (.newarray .int, 2) := by decide +kernel
theorem dX12_init_56 : decode cX12_init 56 = .ok (.putfield 28, 3) := by decide +kernel
theorem dX12_init_59 : decode cX12_init 59 = .ok (.aload_n 0, 1) := by decide +kernel
theorem dX12_init_60 : decode cX12_init 60 = .ok (.iconst 5, 1) := by decide +kernel
theorem dX12_init_61 : decode cX12_init 61 = .ok (.newarray .int, 2) := by decide +kernel
theorem dX12_init_63 : decode cX12_init 63 = .ok (.putfield 31, 3) := by decide +kernel
theorem dX12_init_66 : decode cX12_init 66 = .ok (.aload_n 0, 1) := by decide +kernel
theorem dX12_init_67 : decode cX12_init 67 = .ok (.iconst 5, 1) := by decide +kernel
theorem dX12_init_68 : decode cX12_init 68 = .ok (.newarray .int, 2) := by decide +kernel
theorem dX12_init_70 : decode cX12_init 70 = .ok (.putfield 34, 3) := by decide +kernel
theorem dX12_init_73 : decode cX12_init 73 = .ok (.aload_n 0, 1) := by decide +kernel
theorem dX12_init_74 : decode cX12_init 74 = .ok (.iconst 5, 1) := by decide +kernel
theorem dX12_init_75 : decode cX12_init 75 = .ok (.newarray .int, 2) := by decide +kernel
theorem dX12_init_77 : decode cX12_init 77 = .ok (.putfield 37, 3) := by decide +kernel
theorem dX12_init_80 : decode cX12_init 80 = .ok (.aload_n 0, 1) := by decide +kernel
theorem dX12_init_81 : decode cX12_init 81 = .ok (.iconst 4, 1) := by decide +kernel
theorem dX12_init_82 : decode cX12_init 82 = .ok (.newarray .int, 2) := by decide +kernel
theorem dX12_init_84 : decode cX12_init 84 = .ok (.putfield 40, 3) := by decide +kernel
theorem dX12_init_87 : decode cX12_init 87 = .ok (.aload_n 0, 1) := by decide +kernel
theorem dX12_init_88 : decode cX12_init 88 = .ok (.bipush 18, 2) := by decide +kernel
theorem dX12_init_90 : decode cX12_init 90 = .ok (.newarray .long, 2) := by decide +kernel
theorem dX12_init_92 : decode cX12_init 92 = .ok (.putfield 43, 3) := by decide +kernel
theorem dX12_init_95 : decode cX12_init 95 = .ok (.aload_n 0, 1) := by decide +kernel
theorem dX12_init_96 : decode cX12_init 96 = .ok (.sipush 5120, 3) := by decide +kernel
theorem dX12_init_99 : decode cX12_init 99 = .ok (.newarray .long, 2) := by decide +kernel
theorem dX12_init_101 : decode cX12_init 101 = .ok (.putfield 47, 3) := by decide +kernel
theorem dX12_init_104 : decode cX12_init 104 = .ok (.aload_n 0, 1) := by decide +kernel
theorem dX12_init_105 : decode cX12_init 105 = .ok (.iconst 5, 1) := by decide +kernel
theorem dX12_init_106 : decode cX12_init 106 = .ok (.newarray .int, 2) := by decide +kernel
theorem dX12_init_108 : decode cX12_init 108 = .ok (.putfield 50, 3) := by decide +kernel
theorem dX12_init_111 : decode cX12_init 111 = .ok (.aload_n 0, 1) := by decide +kernel
theorem dX12_init_112 : decode cX12_init 112 = .ok (.iconst 5, 1) := by decide +kernel
theorem dX12_init_113 : decode cX12_init 113 = .ok (.newarray .int, 2) := by decide +kernel
theorem dX12_init_115 : decode cX12_init 115 = .ok (.putfield 53, 3) := by decide +kernel
theorem dX12_init_118 : decode cX12_init 118 = .ok (.aload_n 0, 1) := by decide +kernel
theorem dX12_init_119 : decode cX12_init 119 = .ok (.bipush 40, 2) := by decide +kernel
theorem dX12_init_121 : decode cX12_init 121 = .ok (.newarray .int, 2) := by decide +kernel
theorem dX12_init_123 : decode cX12_init 123 = .ok (.putfield 56, 3) := by decide +kernel
theorem dX12_init_126 : decode cX12_init 126 = .ok (.aload_n 0, 1) := by decide +kernel
theorem dX12_init_127 : decode cX12_init 127 = .ok (.bipush 24, 2) := by decide +kernel
theorem dX12_init_129 : decode cX12_init 129 = .ok (.newarray .int, 2) := by decide +kernel
theorem dX12_init_131 : decode cX12_init 131 = .ok (.putfield 59, 3) := by decide +kernel
theorem dX12_init_134 : decode cX12_init 134 = .ok (.aload_n 0, 1) := by decide +kernel
theorem dX12_init_135 : decode cX12_init 135 = .ok (.iconst 5, 1) := by decide +kernel
theorem dX12_init_136 : decode cX12_init 136 = .ok (.newarray .int, 2) := by decide +kernel
theorem dX12_init_138 : decode cX12_init 138 = .ok (.putfield 62, 3) := by decide +kernel
theorem dX12_init_141 : decode cX12_init 141 = .ok (.aload_n 0, 1) := by decide +kernel
theorem dX12_init_142 : decode cX12_init 142 = .ok (.bipush 40, 2) := by decide +kernel
theorem dX12_init_144 : decode cX12_init 144 = .ok (.newarray .int, 2) := by decide +kernel
theorem dX12_init_146 : decode cX12_init 146 = .ok (.putfield 65, 3) := by decide +kernel
theorem dX12_init_149 : decode cX12_init 149 = .ok (.aload_n 0, 1) := by decide +kernel
theorem dX12_init_150 : decode cX12_init 150 = .ok (.bipush 30, 2) := by decide +kernel
theorem dX12_init_152 : decode cX12_init 152 = .ok (.putfield 68, 3) := by decide +kernel
theorem dX12_init_155 : decode cX12_init 155 = .ok (.aload_n 0, 1) := by decide +kernel
theorem dX12_init_156 : decode cX12_init 156 = .ok (.iconst 1, 1) := by decide +kernel
theorem dX12_init_157 : decode cX12_init 157 = .ok (.putfield 72, 3) := by decide +kernel
theorem dX12_init_160 : decode cX12_init 160 = .ok (.aload_n 0, 1) := by decide +kernel
theorem dX12_init_161 : decode cX12_init 161 = .ok (.iconst 3, 1) := by decide +kernel
theorem dX12_init_162 : decode cX12_init 162 = .ok (.putfield 75, 3) := by decide +kernel
theorem dX12_init_165 : decode cX12_init 165 = .ok (.aload_n 0, 1) := by decide +kernel
theorem dX12_init_166 : decode cX12_init 166 = .ok (.iconst 0, 1) := by decide +kernel
theorem dX12_init_167 : decode cX12_init 167 = .ok (.bipush 10, 2) := by decide +kernel
theorem dX12_init_169 : decode cX12_init 169 = .ok (.iconst 2, 1) := by decide +kernel
theorem dX12_init_170 : decode cX12_init 170 = .ok (.iconst 5, 1) := by decide +kernel
theorem dX12_init_171 : decode cX12_init 171 = .ok (.iconst 5, 1) := by decide +kernel
theorem dX12_init_172 : decode cX12_init 172 = .ok (.iconst 0, 1) := by decide +kernel
theorem dX12_init_173 : decode cX12_init 173 = .ok (.invokevirtual 78, 3) := by decide +kernel
theorem dX12_init_176 : decode cX12_init 176 = .ok (.aload_n 0, 1) := by decide +kernel
theorem dX12_init_177 : decode cX12_init 177 = .ok (.iconst 1, 1) := by decide +kernel
theorem dX12_init_178 : decode cX12_init 178 = .ok (.bipush 14, 2) := by decide +kernel
theorem dX12_init_180 : decode cX12_init 180 = .ok (.iconst 2, 1) := by decide +kernel
theorem dX12_init_181 : decode cX12_init 181 = .ok (.iconst 5, 1) := by decide +kernel
theorem dX12_init_182 : decode cX12_init 182 = .ok (.iconst 3, 1) := by decide +kernel
theorem dX12_init_183 : decode cX12_init 183 = .ok (.iconst 0, 1) := by decide +kernel
theorem dX12_init_184 : decode cX12_init 184 = .ok (.invokevirtual 78, 3) := by decide +kernel
theorem dX12_init_187 : decode cX12_init 187 = .ok (.aload_n 0, 1) := by decide +kernel
theorem dX12_init_188 : decode cX12_init 188 = .ok (.iconst 2, 1) := by decide +kernel
theorem dX12_init_189 : decode cX12_init 189 = .ok (.bipush 20, 2) := by decide +kernel
theorem dX12_init_191 : decode cX12_init 191 = .ok (.iconst 3, 1) := by decide +kernel
theorem dX12_init_192 : decode cX12_init 192 = .ok (.iconst 4, 1) := by decide +kernel
theorem dX12_init_193 : decode cX12_init 193 = .ok (.bipush 6, 2) := by decide +kernel
theorem dX12_init_195 : decode cX12_init 195 = .ok (.iconst 0, 1) := by decide +kernel
theorem dX12_init_196 : decode cX12_init 196 = .ok (.invokevirtual 78, 3) := by decide +kernel
theorem dX12_init_199 : decode cX12_init 199 = .ok (.iconst 0, 1) := by decide +kernel
theorem dX12_init_200 : decode cX12_init 200 = .ok (.istore_n 1, 1) := by decide +kernel
theorem dX12_init_201 : decode cX12_init 201 = .ok (.iload_n 1, 1) := by decide +kernel
theorem dX12_init_202 : decode cX12_init 202 = .ok (.aload_n 0, 1) := by decide +kernel
theorem dX12_init_203 : decode cX12_init 203 = .ok (.getfield 75, 3) := by decide +kernel
theorem dX12_init_206 : decode cX12_init 206 = .ok (.if_icmp .ge 54, 3) := by decide +kernel
theorem dX12_init_209 : decode cX12_init 209 = .ok (.aload_n 0, 1) := by decide +kernel
theorem dX12_init_210 : decode cX12_init 210 = .ok (.getfield 13, 3) := by decide +kernel
theorem dX12_init_213 : decode cX12_init 213 = .ok (.iload_n 1, 1) := by decide +kernel
theorem dX12_init_214 : decode cX12_init 214 = .ok (.iload_n 1, 1) := by decide +kernel
theorem dX12_init_215 : decode cX12_init 215 = .ok (.iconst 1, 1) := by decide +kernel
theorem dX12_init_216 : decode cX12_init 216 = .ok (.iadd, 1) := by decide +kernel
theorem dX12_init_217 : decode cX12_init 217 = .ok (.aload_n 0, 1) := by decide +kernel
theorem dX12_init_218 : decode cX12_init 218 = .ok (.getfield 75, 3) := by decide +kernel
theorem dX12_init_221 : decode cX12_init 221 = .ok (.irem, 1) := by decide +kernel
theorem dX12_init_222 : decode cX12_init 222 = .ok (.iastore, 1) := by decide +kernel
theorem dX12_init_223 : decode cX12_init 223 = .ok (.aload_n 0, 1) := by decide +kernel
theorem dX12_init_224 : decode cX12_init 224 = .ok (.getfield 13, 3) := by decide +kernel
theorem dX12_init_227 : decode cX12_init 227 = .ok (.iconst 5, 1) := by decide +kernel
theorem dX12_init_228 : decode cX12_init 228 = .ok (.iload_n 1, 1) := by decide +kernel
theorem dX12_init_229 : decode cX12_init 229 = .ok (.iadd, 1) := by decide +kernel
theorem dX12_init_230 : decode cX12_init 230 = .ok (.aload_n 0, 1) := by decide +kernel
theorem dX12_init_231 : decode cX12_init 231 = .ok (.getfield 7, 3) := by decide +kernel
theorem dX12_init_234 : decode cX12_init 234 = .ok (.iconst 5, 1) := by decide +kernel
theorem dX12_init_235 : decode cX12_init 235 = .ok (.aload_n 0, 1) := by decide +kernel
theorem dX12_init_236 : decode cX12_init 236 = .ok (.getfield 13, 3) := by decide +kernel
theorem dX12_init_239 : decode cX12_init 239 = .ok (.iload_n 1, 1) := by decide +kernel
theorem dX12_init_240 : decode cX12_init 240 = .ok (.iaload, 1) := by decide +kernel
theorem dX12_init_241 : decode cX12_init 241 = .ok (.imul, 1) := by decide +kernel
theorem dX12_init_242 : decode cX12_init 242 = .ok (.iaload, 1) := by decide +kernel
theorem dX12_init_243 : decode cX12_init 243 = .ok (.iastore, 1) := by decide +kernel
theorem dX12_init_244 : decode cX12_init 244 = .ok (.aload_n 0, 1) := by decide +kernel
theorem dX12_init_245 : decode cX12_init 245 = .ok (.getfield 13, 3) := by decide +kernel
theorem dX12_init_248 : decode cX12_init 248 = .ok (.bipush 10, 2) := by decide +kernel
theorem dX12_init_250 : decode cX12_init 250 = .ok (.iload_n 1, 1) := by decide +kernel
theorem dX12_init_251 : decode cX12_init 251 = .ok (.iadd, 1) := by decide +kernel
theorem dX12_init_252 : decode cX12_init 252 = .ok (.iconst 1, 1) := by decide +kernel
theorem dX12_init_253 : decode cX12_init 253 = .ok (.iastore, 1) := by decide +kernel
theorem dX12_init_254 : decode cX12_init 254 = .ok (.iinc 1 1, 3) := by decide +kernel
theorem dX12_init_257 : decode cX12_init 257 = .ok (.goto (-56), 3) := by decide +kernel
theorem dX12_init_260 : decode cX12_init 260 = .ok (.aload_n 0, 1) := by decide +kernel
theorem dX12_init_261 : decode cX12_init 261 = .ok (.getfield 43, 3) := by decide +kernel
theorem dX12_init_264 : decode cX12_init 264 = .ok (.iconst 0, 1) := by decide +kernel
theorem dX12_init_265 : decode cX12_init 265 = .ok (.lconst 1, 1) := by decide +kernel
theorem dX12_init_266 : decode cX12_init 266 = .ok (.lastore, 1) := by decide +kernel
theorem dX12_init_267 : decode cX12_init 267 = .ok (.iconst 1, 1) := by decide +kernel
theorem dX12_init_268 : decode cX12_init 268 = .ok (.istore_n 1, 1) := by decide +kernel
theorem dX12_init_269 : decode cX12_init 269 = .ok (.iload_n 1, 1) := by decide +kernel
theorem dX12_init_270 : decode cX12_init 270 = .ok (.bipush 18, 2) := by decide +kernel
theorem dX12_init_272 : decode cX12_init 272 = .ok (.if_icmp .ge 27, 3) := by decide +kernel
theorem dX12_init_275 : decode cX12_init 275 = .ok (.aload_n 0, 1) := by decide +kernel
theorem dX12_init_276 : decode cX12_init 276 = .ok (.getfield 43, 3) := by decide +kernel
theorem dX12_init_279 : decode cX12_init 279 = .ok (.iload_n 1, 1) := by decide +kernel
theorem dX12_init_280 : decode cX12_init 280 = .ok (.ldc2_w 82, 3) := by decide +kernel
theorem dX12_init_283 : decode cX12_init 283 = .ok (.aload_n 0, 1) := by decide +kernel
theorem dX12_init_284 : decode cX12_init 284 = .ok (.getfield 43, 3) := by decide +kernel
theorem dX12_init_287 : decode cX12_init 287 = .ok (.iload_n 1, 1) := by decide +kernel
theorem dX12_init_288 : decode cX12_init 288 = .ok (.iconst 1, 1) := by decide +kernel
theorem dX12_init_289 : decode cX12_init 289 = .ok (.isub, 1) := by decide +kernel
theorem dX12_init_290 : decode cX12_init 290 = .ok (.laload, 1) := by decide +kernel
theorem dX12_init_291 : decode cX12_init 291 = .ok (.lmul, 1) := by decide +kernel
theorem dX12_init_292 : decode cX12_init 292 = .ok (.lastore, 1) := by decide +kernel
theorem dX12_init_293 : decode cX12_init 293 = .ok (.iinc 1 1, 3) := by decide +kernel
theorem dX12_init_296 : decode cX12_init 296 = .ok (.goto (-27), 3) := by decide +kernel
theorem dX12_init_299 : decode cX12_init 299 = .ok (.return_, 1) := by decide +kernel
theorem dX12_lays_0 : decode cX12_lays 0 = .ok (.aload_n 0, 1) := by decide +kernel
theorem dX12_lays_1 : decode cX12_lays 1 = .ok (.getfield 7, 3) := by decide +kernel
theorem dX12_lays_4 : decode cX12_lays 4 = .ok (.iconst 5, 1) := by decide +kernel
theorem dX12_lays_5 : decode cX12_lays 5 = .ok (.iload_n 1, 1) := by decide +kernel
theorem dX12_lays_6 : decode cX12_lays 6 = .ok (.imul, 1) := by decide +kernel
theorem dX12_lays_7 : decode cX12_lays 7 = .ok (.iload_n 2, 1) := by decide +kernel
theorem dX12_lays_8 : decode cX12_lays 8 = .ok (.iastore, 1) := by decide +kernel
theorem dX12_lays_9 : decode cX12_lays 9 = .ok (.aload_n 0, 1) := by decide +kernel
theorem dX12_lays_10 : decode cX12_lays 10 = .ok (.getfield 7, 3) := by decide +kernel
theorem dX12_lays_13 : decode cX12_lays 13 = .ok (.iconst 5, 1) := by decide +kernel
theorem dX12_lays_14 : decode cX12_lays 14 = .ok (.iload_n 1, 1) := by decide +kernel
theorem dX12_lays_15 : decode cX12_lays 15 = .ok (.imul, 1) := by decide +kernel
theorem dX12_lays_16 : decode cX12_lays 16 = .ok (.iconst 1, 1) := by decide +kernel
theorem dX12_lays_17 : decode cX12_lays 17 = .ok (.iadd, 1) := by decide +kernel
theorem dX12_lays_18 : decode cX12_lays 18 = .ok (.iload_n 3, 1) := by decide +kernel
theorem dX12_lays_19 : decode cX12_lays 19 = .ok (.iastore, 1) := by decide +kernel
theorem dX12_lays_20 : decode cX12_lays 20 = .ok (.aload_n 0, 1) := by decide +kernel
theorem dX12_lays_21 : decode cX12_lays 21 = .ok (.getfield 7, 3) := by decide +kernel
theorem dX12_lays_24 : decode cX12_lays 24 = .ok (.iconst 5, 1) := by decide +kernel
theorem dX12_lays_25 : decode cX12_lays 25 = .ok (.iload_n 1, 1) := by decide +kernel
theorem dX12_lays_26 : decode cX12_lays 26 = .ok (.imul, 1) := by decide +kernel
theorem dX12_lays_27 : decode cX12_lays 27 = .ok (.iconst 2, 1) := by decide +kernel
theorem dX12_lays_28 : decode cX12_lays 28 = .ok (.iadd, 1) := by decide +kernel
theorem dX12_lays_29 : decode cX12_lays 29 = .ok (.iload 4, 2) := by decide +kernel
theorem dX12_lays_31 : decode cX12_lays 31 = .ok (.iastore, 1) := by decide +kernel
theorem dX12_lays_32 : decode cX12_lays 32 = .ok (.aload_n 0, 1) := by decide +kernel
theorem dX12_lays_33 : decode cX12_lays 33 = .ok (.getfield 7, 3) := by decide +kernel
theorem dX12_lays_36 : decode cX12_lays 36 = .ok (.iconst 5, 1) := by decide +kernel
theorem dX12_lays_37 : decode cX12_lays 37 = .ok (.iload_n 1, 1) := by decide +kernel
theorem dX12_lays_38 : decode cX12_lays 38 = .ok (.imul, 1) := by decide +kernel
theorem dX12_lays_39 : decode cX12_lays 39 = .ok (.iconst 3, 1) := by decide +kernel
theorem dX12_lays_40 : decode cX12_lays 40 = .ok (.iadd, 1) := by decide +kernel
theorem dX12_lays_41 : decode cX12_lays 41 = .ok (.iload 5, 2) := by decide +kernel
theorem dX12_lays_43 : decode cX12_lays 43 = .ok (.iastore, 1) := by decide +kernel
theorem dX12_lays_44 : decode cX12_lays 44 = .ok (.aload_n 0, 1) := by decide +kernel
theorem dX12_lays_45 : decode cX12_lays 45 = .ok (.getfield 7, 3) := by decide +kernel
theorem dX12_lays_48 : decode cX12_lays 48 = .ok (.iconst 5, 1) := by decide +kernel
theorem dX12_lays_49 : decode cX12_lays 49 = .ok (.iload_n 1, 1) := by decide +kernel
theorem dX12_lays_50 : decode cX12_lays 50 = .ok (.imul, 1) := by decide +kernel
theorem dX12_lays_51 : decode cX12_lays 51 = .ok (.iconst 4, 1) := by decide +kernel
theorem dX12_lays_52 : decode cX12_lays 52 = .ok (.iadd, 1) := by decide +kernel
theorem dX12_lays_53 : decode cX12_lays 53 = .ok (.iload 6, 2) := by decide +kernel
theorem dX12_lays_55 : decode cX12_lays 55 = .ok (.iastore, 1) := by decide +kernel
theorem dX12_lays_56 : decode cX12_lays 56 = .ok (.return_, 1) := by decide +kernel
theorem dX12_in_0 : decode cX12_in 0 = .ok (.iload_n 0, 1) := by decide +kernel
theorem dX12_in_1 : decode cX12_in 1 = .ok (.iload_n 1, 1) := by decide +kernel
theorem dX12_in_2 : decode cX12_in 2 = .ok (.if_icmp .lt 12, 3) := by decide +kernel
theorem dX12_in_5 : decode cX12_in 5 = .ok (.iload_n 0, 1) := by decide +kernel
theorem dX12_in_6 : decode cX12_in 6 = .ok (.iload_n 2, 1) := by decide +kernel
theorem dX12_in_7 : decode cX12_in 7 = .ok (.if_icmp .gt 7, 3) := by decide +kernel
theorem dX12_in_10 : decode cX12_in 10 = .ok (.iconst 1, 1) := by decide +kernel
theorem dX12_in_11 : decode cX12_in 11 = .ok (.goto 4, 3) := by decide +kernel
theorem dX12_in_14 : decode cX12_in 14 = .ok (.iconst 0, 1) := by decide +kernel
theorem dX12_in_15 : decode cX12_in 15 = .ok (.ireturn, 1) := by decide +kernel
theorem dX12_isPlayer_0 : decode cX12_isPlayer 0 = .ok (.iload_n 1, 1) := by decide +kernel
theorem dX12_isPlayer_1 : decode cX12_isPlayer 1 = .ok (.iconst 0, 1) := by decide +kernel
theorem dX12_isPlayer_2 : decode cX12_isPlayer 2 = .ok (.aload_n 0, 1) := by decide +kernel
theorem dX12_isPlayer_3 : decode cX12_isPlayer 3 = .ok (.getfield 75, 3) := by decide +kernel
theorem dX12_isPlayer_6 : decode cX12_isPlayer 6 = .ok (.iconst 1, 1) := by decide +kernel
theorem dX12_isPlayer_7 : decode cX12_isPlayer 7 = .ok (.isub, 1) := by decide +kernel
theorem dX12_isPlayer_8 : decode cX12_isPlayer 8 = .ok (.invokestatic 84, 3) := by decide +kernel
theorem dX12_isPlayer_11 : decode cX12_isPlayer 11 = .ok (.ireturn, 1) := by decide +kernel
theorem dX12_size_0 : decode cX12_size 0 = .ok (.iload_n 0, 1) := by decide +kernel
theorem dX12_size_1 : decode cX12_size 1 = .ok (.ifCond .ge 8, 3) := by decide +kernel
theorem dX12_size_4 : decode cX12_size 4 = .ok (.iload_n 0, 1) := by decide +kernel
theorem dX12_size_5 : decode cX12_size 5 = .ok (.ineg, 1) := by decide +kernel
theorem dX12_size_6 : decode cX12_size 6 = .ok (.goto 4, 3) := by decide +kernel
theorem dX12_size_9 : decode cX12_size 9 = .ok (.iload_n 0, 1) := by decide +kernel
theorem dX12_size_10 : decode cX12_size 10 = .ok (.ireturn, 1) := by decide +kernel
theorem dX12_write_0 : decode cX12_write 0 = .ok (.iload_n 1, 1) := by decide +kernel
theorem dX12_write_1 : decode cX12_write 1 = .ok (.iconst 1, 1) := by decide +kernel
theorem dX12_write_2 : decode cX12_write 2 = .ok (.bipush 8, 2) := by decide +kernel
theorem dX12_write_4 : decode cX12_write 4 = .ok (.invokestatic 84, 3) := by decide +kernel
theorem dX12_write_7 : decode cX12_write 7 = .ok (.ifCond .ne 5, 3) := by decide +kernel
theorem dX12_write_10 : decode cX12_write 10 = .ok (.iconst (-1), 1) := by decide +kernel
theorem dX12_write_11 : decode cX12_write 11 = .ok (.ireturn, 1) := by decide +kernel
theorem dX12_write_12 : decode cX12_write 12 = .ok (.aload_n 0, 1) := by decide +kernel
theorem dX12_write_13 : decode cX12_write 13 = .ok (.getfield 88, 3) := by decide +kernel
theorem dX12_write_16 : decode cX12_write 16 = .ok (.iload_n 1, 1) := by decide +kernel
theorem dX12_write_17 : decode cX12_write 17 = .ok (.iadd, 1) := by decide +kernel
theorem dX12_write_18 : decode cX12_write 18 = .ok (.sipush 300, 3) := by decide +kernel
theorem dX12_write_21 : decode cX12_write 21 = .ok (.if_icmp .le 6, 3) := by decide +kernel
theorem dX12_write_24 : decode cX12_write 24 = .ok (.bipush (-3), 2) := by decide +kernel
theorem dX12_write_26 : decode cX12_write 26 = .ok (.ireturn, 1) := by decide +kernel
theorem dX12_write_27 : decode cX12_write 27 = .ok (.iload_n 1, 1) := by decide +kernel
theorem dX12_write_28 : decode cX12_write 28 = .ok (.iconst 1, 1) := by decide +kernel
theorem dX12_write_29 : decode cX12_write 29 = .ok (.isub, 1) := by decide +kernel
theorem dX12_write_30 : decode cX12_write 30 = .ok (.istore 4, 2) := by decide +kernel
theorem dX12_write_32 : decode cX12_write 32 = .ok (.iload 4, 2) := by decide +kernel
theorem dX12_write_34 : decode cX12_write 34 = .ok (.ifCond .lt 40, 3) := by decide +kernel
theorem dX12_write_37 : decode cX12_write 37 = .ok (.aload_n 0, 1) := by decide +kernel
theorem dX12_write_38 : decode cX12_write 38 = .ok (.getfield 16, 3) := by decide +kernel
theorem dX12_write_41 : decode cX12_write 41 = .ok (.aload_n 0, 1) := by decide +kernel
theorem dX12_write_42 : decode cX12_write 42 = .ok (.getfield 88, 3) := by decide +kernel
theorem dX12_write_45 : decode cX12_write 45 = .ok (.lload_n 2, 1) := by decide +kernel
