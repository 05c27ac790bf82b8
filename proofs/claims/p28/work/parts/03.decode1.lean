theorem dX8_shared_2 : decode cX8_shared 2 = .ok (.iload_n 0, 1) := by decide +kernel
theorem dX8_shared_3 : decode cX8_shared 3 = .ok (.istore 4, 2) := by decide +kernel
theorem dX8_shared_5 : decode cX8_shared 5 = .ok (.iload 4, 2) := by decide +kernel
theorem dX8_shared_7 : decode cX8_shared 7 = .ok (.iload_n 0, 1) := by decide +kernel
theorem dX8_shared_8 : decode cX8_shared 8 = .ok (.iload_n 1, 1) := by decide +kernel
theorem dX8_shared_9 : decode cX8_shared 9 = .ok (.iadd, 1) := by decide +kernel
theorem dX8_shared_10 : decode cX8_shared 10 = .ok (.if_icmp .ge 30, 3) := by decide +kernel
theorem dX8_shared_13 : decode cX8_shared 13 = .ok (.iload_n 3, 1) := by decide +kernel
theorem dX8_shared_14 : decode cX8_shared 14 = .ok (.iload_n 2, 1) := by decide +kernel
theorem dX8_shared_15 : decode cX8_shared 15 = .ok (.iload 4, 2) := by decide +kernel
theorem dX8_shared_17 : decode cX8_shared 17 = .ok (.isub, 1) := by decide +kernel
theorem dX8_shared_18 : decode cX8_shared 18 = .ok (.iconst 1, 1) := by decide +kernel
theorem dX8_shared_19 : decode cX8_shared 19 = .ok (.iadd, 1) := by decide +kernel
theorem dX8_shared_20 : decode cX8_shared 20 = .ok (.iload 4, 2) := by decide +kernel
theorem dX8_shared_22 : decode cX8_shared 22 = .ok (.iconst 1, 1) := by decide +kernel
theorem dX8_shared_23 : decode cX8_shared 23 = .ok (.if_icmp .ne 7, 3) := by decide +kernel
theorem dX8_shared_26 : decode cX8_shared 26 = .ok (.iconst 1, 1) := by decide +kernel
theorem dX8_shared_27 : decode cX8_shared 27 = .ok (.goto 4, 3) := by decide +kernel
theorem dX8_shared_30 : decode cX8_shared 30 = .ok (.iconst 0, 1) := by decide +kernel
theorem dX8_shared_31 : decode cX8_shared 31 = .ok (.iadd, 1) := by decide +kernel
theorem dX8_shared_32 : decode cX8_shared 32 = .ok (.iadd, 1) := by decide +kernel
theorem dX8_shared_33 : decode cX8_shared 33 = .ok (.istore_n 3, 1) := by decide +kernel
theorem dX8_shared_34 : decode cX8_shared 34 = .ok (.iinc 4 1, 3) := by decide +kernel
theorem dX8_shared_37 : decode cX8_shared 37 = .ok (.goto (-32), 3) := by decide +kernel
theorem dX8_shared_40 : decode cX8_shared 40 = .ok (.iload_n 1, 1) := by decide +kernel
theorem dX8_shared_41 : decode cX8_shared 41 = .ok (.iconst 1, 1) := by decide +kernel
theorem dX8_shared_42 : decode cX8_shared 42 = .ok (.if_icmp .ge 7, 3) := by decide +kernel
theorem dX8_shared_45 : decode cX8_shared 45 = .ok (.iconst 0, 1) := by decide +kernel
theorem dX8_shared_46 : decode cX8_shared 46 = .ok (.goto 8, 3) := by decide +kernel
theorem dX8_shared_49 : decode cX8_shared 49 = .ok (.iconst 2, 1) := by decide +kernel
theorem dX8_shared_50 : decode cX8_shared 50 = .ok (.iload_n 3, 1) := by decide +kernel
theorem dX8_shared_51 : decode cX8_shared 51 = .ok (.imul, 1) := by decide +kernel
theorem dX8_shared_52 : decode cX8_shared 52 = .ok (.iload_n 1, 1) := by decide +kernel
theorem dX8_shared_53 : decode cX8_shared 53 = .ok (.idiv, 1) := by decide +kernel
theorem dX8_shared_54 : decode cX8_shared 54 = .ok (.ireturn, 1) := by decide +kernel
theorem dX8_ofClub_0 : decode cX8_ofClub 0 = .ok (.iconst 0, 1) := by decide +kernel
theorem dX8_ofClub_1 : decode cX8_ofClub 1 = .ok (.istore_n 2, 1) := by decide +kernel
theorem dX8_ofClub_2 : decode cX8_ofClub 2 = .ok (.iconst 0, 1) := by decide +kernel
theorem dX8_ofClub_3 : decode cX8_ofClub 3 = .ok (.istore_n 3, 1) := by decide +kernel
theorem dX8_ofClub_4 : decode cX8_ofClub 4 = .ok (.iload_n 3, 1) := by decide +kernel
theorem dX8_ofClub_5 : decode cX8_ofClub 5 = .ok (.aload_n 0, 1) := by decide +kernel
theorem dX8_ofClub_6 : decode cX8_ofClub 6 = .ok (.getfield 37, 3) := by decide +kernel
theorem dX8_ofClub_9 : decode cX8_ofClub 9 = .ok (.if_icmp .ge 34, 3) := by decide +kernel
theorem dX8_ofClub_12 : decode cX8_ofClub 12 = .ok (.aload_n 0, 1) := by decide +kernel
theorem dX8_ofClub_13 : decode cX8_ofClub 13 = .ok (.getfield 40, 3) := by decide +kernel
theorem dX8_ofClub_16 : decode cX8_ofClub 16 = .ok (.iload_n 3, 1) := by decide +kernel
theorem dX8_ofClub_17 : decode cX8_ofClub 17 = .ok (.aaload, 1) := by decide +kernel
theorem dX8_ofClub_18 : decode cX8_ofClub 18 = .ok (.getfield 44, 3) := by decide +kernel
theorem dX8_ofClub_21 : decode cX8_ofClub 21 = .ok (.iload_n 1, 1) := by decide +kernel
theorem dX8_ofClub_22 : decode cX8_ofClub 22 = .ok (.if_icmp .ne 15, 3) := by decide +kernel
theorem dX8_ofClub_25 : decode cX8_ofClub 25 = .ok (.iload_n 2, 1) := by decide +kernel
theorem dX8_ofClub_26 : decode cX8_ofClub 26 = .ok (.aload_n 0, 1) := by decide +kernel
theorem dX8_ofClub_27 : decode cX8_ofClub 27 = .ok (.getfield 40, 3) := by decide +kernel
theorem dX8_ofClub_30 : decode cX8_ofClub 30 = .ok (.iload_n 3, 1) := by decide +kernel
theorem dX8_ofClub_31 : decode cX8_ofClub 31 = .ok (.aaload, 1) := by decide +kernel
theorem dX8_ofClub_32 : decode cX8_ofClub 32 = .ok (.getfield 24, 3) := by decide +kernel
theorem dX8_ofClub_35 : decode cX8_ofClub 35 = .ok (.iadd, 1) := by decide +kernel
theorem dX8_ofClub_36 : decode cX8_ofClub 36 = .ok (.istore_n 2, 1) := by decide +kernel
theorem dX8_ofClub_37 : decode cX8_ofClub 37 = .ok (.iinc 3 1, 3) := by decide +kernel
theorem dX8_ofClub_40 : decode cX8_ofClub 40 = .ok (.goto (-36), 3) := by decide +kernel
theorem dX8_ofClub_43 : decode cX8_ofClub 43 = .ok (.iload_n 2, 1) := by decide +kernel
theorem dX8_ofClub_44 : decode cX8_ofClub 44 = .ok (.ireturn, 1) := by decide +kernel
theorem dX8_ofAllClubs_0 : decode cX8_ofAllClubs 0 = .ok (.iconst 0, 1) := by decide +kernel
theorem dX8_ofAllClubs_1 : decode cX8_ofAllClubs 1 = .ok (.istore_n 1, 1) := by decide +kernel
theorem dX8_ofAllClubs_2 : decode cX8_ofAllClubs 2 = .ok (.iconst 0, 1) := by decide +kernel
theorem dX8_ofAllClubs_3 : decode cX8_ofAllClubs 3 = .ok (.istore_n 2, 1) := by decide +kernel
theorem dX8_ofAllClubs_4 : decode cX8_ofAllClubs 4 = .ok (.iload_n 2, 1) := by decide +kernel
theorem dX8_ofAllClubs_5 : decode cX8_ofAllClubs 5 = .ok (.aload_n 0, 1) := by decide +kernel
theorem dX8_ofAllClubs_6 : decode cX8_ofAllClubs 6 = .ok (.getfield 37, 3) := by decide +kernel
theorem dX8_ofAllClubs_9 : decode cX8_ofAllClubs 9 = .ok (.if_icmp .ge 21, 3) := by decide +kernel
theorem dX8_ofAllClubs_12 : decode cX8_ofAllClubs 12 = .ok (.iload_n 1, 1) := by decide +kernel
theorem dX8_ofAllClubs_13 : decode cX8_ofAllClubs 13 = .ok (.aload_n 0, 1) := by decide +kernel
theorem dX8_ofAllClubs_14 : decode cX8_ofAllClubs 14 = .ok (.getfield 40, 3) := by decide +kernel
theorem dX8_ofAllClubs_17 : decode cX8_ofAllClubs 17 = .ok (.iload_n 2, 1) := by decide +kernel
theorem dX8_ofAllClubs_18 : decode cX8_ofAllClubs 18 = .ok (.aaload, 1) := by decide +kernel
theorem dX8_ofAllClubs_19 : decode cX8_ofAllClubs 19 = .ok (.getfield 24, 3) := by decide +kernel
theorem dX8_ofAllClubs_22 : decode cX8_ofAllClubs 22 = .ok (.iadd, 1) := by decide +kernel
theorem dX8_ofAllClubs_23 : decode cX8_ofAllClubs 23 = .ok (.istore_n 1, 1) := by decide +kernel
theorem dX8_ofAllClubs_24 : decode cX8_ofAllClubs 24 = .ok (.iinc 2 1, 3) := by decide +kernel
theorem dX8_ofAllClubs_27 : decode cX8_ofAllClubs 27 = .ok (.goto (-23), 3) := by decide +kernel
theorem dX8_ofAllClubs_30 : decode cX8_ofAllClubs 30 = .ok (.iload_n 1, 1) := by decide +kernel
theorem dX8_ofAllClubs_31 : decode cX8_ofAllClubs 31 = .ok (.ireturn, 1) := by decide +kernel
theorem dX9_allow_0 : decode cX9_allow 0 = .ok (.iload_n 0, 1) := by decide +kernel
theorem dX9_allow_1 : decode cX9_allow 1 = .ok (.ifCond .lt 30, 3) := by decide +kernel
theorem dX9_allow_4 : decode cX9_allow 4 = .ok (.iload_n 0, 1) := by decide +kernel
theorem dX9_allow_5 : decode cX9_allow 5 = .ok (.iconst 3, 1) := by decide +kernel
theorem dX9_allow_6 : decode cX9_allow 6 = .ok (.if_icmp .ge 25, 3) := by decide +kernel
theorem dX9_allow_9 : decode cX9_allow 9 = .ok (.iload_n 1, 1) := by decide +kernel
theorem dX9_allow_10 : decode cX9_allow 10 = .ok (.getstatic 9, 3) := by decide +kernel
theorem dX9_allow_13 : decode cX9_allow 13 = .ok (.iload_n 0, 1) := by decide +kernel
theorem dX9_allow_14 : decode cX9_allow 14 = .ok (.iaload, 1) := by decide +kernel
theorem dX9_allow_15 : decode cX9_allow 15 = .ok (.if_icmp .lt 16, 3) := by decide +kernel
theorem dX9_allow_18 : decode cX9_allow 18 = .ok (.iload_n 1, 1) := by decide +kernel
theorem dX9_allow_19 : decode cX9_allow 19 = .ok (.getstatic 15, 3) := by decide +kernel
theorem dX9_allow_22 : decode cX9_allow 22 = .ok (.iload_n 0, 1) := by decide +kernel
theorem dX9_allow_23 : decode cX9_allow 23 = .ok (.iaload, 1) := by decide +kernel
theorem dX9_allow_24 : decode cX9_allow 24 = .ok (.if_icmp .gt 7, 3) := by decide +kernel
theorem dX9_allow_27 : decode cX9_allow 27 = .ok (.iconst 1, 1) := by decide +kernel
theorem dX9_allow_28 : decode cX9_allow 28 = .ok (.goto 4, 3) := by decide +kernel
theorem dX9_allow_31 : decode cX9_allow 31 = .ok (.iconst 0, 1) := by decide +kernel
theorem dX9_allow_32 : decode cX9_allow 32 = .ok (.ireturn, 1) := by decide +kernel
theorem dX10_init_0 : decode cX10_init 0 = .ok (.aload_n 0, 1) := by decide +kernel
theorem dX10_init_1 : decode cX10_init 1 = .ok (.invokespecial 3, 3) := by decide +kernel
theorem dX10_init_4 : decode cX10_init 4 = .ok (.aload_n 0, 1) := by decide +kernel
theorem dX10_init_5 : decode cX10_init 5 = .ok (.iload_n 1, 1) := by decide +kernel
theorem dX10_init_6 : decode cX10_init 6 = .ok (.putfield 9, 3) := by decide +kernel
theorem dX10_init_9 : decode cX10_init 9 = .ok (.return_, 1) := by decide +kernel
theorem dX10_join_0 : decode cX10_join 0 = .ok (.aload_n 0, 1) := by decide +kernel
theorem dX10_join_1 : decode cX10_join 1 = .ok (.iload_n 1, 1) := by decide +kernel
theorem dX10_join_2 : decode cX10_join 2 = .ok (.putfield 15, 3) := by decide +kernel
theorem dX10_join_5 : decode cX10_join 5 = .ok (.aload_n 0, 1) := by decide +kernel
theorem dX10_join_6 : decode cX10_join 6 = .ok (.iload_n 2, 1) := by decide +kernel
theorem dX10_join_7 : decode cX10_join 7 = .ok (.putfield 18, 3) := by decide +kernel
theorem dX10_join_10 : decode cX10_join 10 = .ok (.aload_n 0, 1) := by decide +kernel
theorem dX10_join_11 : decode cX10_join 11 = .ok (.iconst 0, 1) := by decide +kernel
theorem dX10_join_12 : decode cX10_join 12 = .ok (.putfield 21, 3) := by decide +kernel
theorem dX10_join_15 : decode cX10_join 15 = .ok (.aload_n 0, 1) := by decide +kernel
theorem dX10_join_16 : decode cX10_join 16 = .ok (.invokevirtual 24, 3) := by decide +kernel
theorem dX10_join_19 : decode cX10_join 19 = .ok (.return_, 1) := by decide +kernel
theorem dX10_forgetEvent_0 : decode cX10_forgetEvent 0 = .ok (.aload_n 0, 1) := by decide +kernel
theorem dX10_forgetEvent_1 : decode cX10_forgetEvent 1 = .ok (.iconst 0, 1) := by decide +kernel
theorem dX10_forgetEvent_2 : decode cX10_forgetEvent 2 = .ok (.putfield 27, 3) := by decide +kernel
theorem dX10_forgetEvent_5 : decode cX10_forgetEvent 5 = .ok (.aload_n 0, 1) := by decide +kernel
theorem dX10_forgetEvent_6 : decode cX10_forgetEvent 6 = .ok (.iconst 0, 1) := by decide +kernel
theorem dX10_forgetEvent_7 : decode cX10_forgetEvent 7 = .ok (.putfield 31, 3) := by decide +kernel
theorem dX10_forgetEvent_10 : decode cX10_forgetEvent 10 = .ok (.aload_n 0, 1) := by decide +kernel
theorem dX10_forgetEvent_11 : decode cX10_forgetEvent 11 = .ok (.invokevirtual 34, 3) := by decide +kernel
theorem dX10_forgetEvent_14 : decode cX10_forgetEvent 14 = .ok (.aload_n 0, 1) := by decide +kernel
theorem dX10_forgetEvent_15 : decode cX10_forgetEvent 15 = .ok (.invokevirtual 37, 3) := by decide +kernel
theorem dX10_forgetEvent_18 : decode cX10_forgetEvent 18 = .ok (.return_, 1) := by decide +kernel
theorem dX10_leaveHeat_0 : decode cX10_leaveHeat 0 = .ok (.aload_n 0, 1) := by decide +kernel
theorem dX10_leaveHeat_1 : decode cX10_leaveHeat 1 = .ok (.iconst (-1), 1) := by decide +kernel
theorem dX10_leaveHeat_2 : decode cX10_leaveHeat 2 = .ok (.putfield 40, 3) := by decide +kernel
theorem dX10_leaveHeat_5 : decode cX10_leaveHeat 5 = .ok (.aload_n 0, 1) := by decide +kernel
theorem dX10_leaveHeat_6 : decode cX10_leaveHeat 6 = .ok (.iconst 0, 1) := by decide +kernel
theorem dX10_leaveHeat_7 : decode cX10_leaveHeat 7 = .ok (.putfield 43, 3) := by decide +kernel
theorem dX10_leaveHeat_10 : decode cX10_leaveHeat 10 = .ok (.aload_n 0, 1) := by decide +kernel
theorem dX10_leaveHeat_11 : decode cX10_leaveHeat 11 = .ok (.iconst (-1), 1) := by decide +kernel
theorem dX10_leaveHeat_12 : decode cX10_leaveHeat 12 = .ok (.putfield 46, 3) := by decide +kernel
theorem dX10_leaveHeat_15 : decode cX10_leaveHeat 15 = .ok (.return_, 1) := by decide +kernel
theorem dX10_leaveFinal_0 : decode cX10_leaveFinal 0 = .ok (.aload_n 0, 1) := by decide +kernel
theorem dX10_leaveFinal_1 : decode cX10_leaveFinal 1 = .ok (.iconst 0, 1) := by decide +kernel
theorem dX10_leaveFinal_2 : decode cX10_leaveFinal 2 = .ok (.putfield 49, 3) := by decide +kernel
theorem dX10_leaveFinal_5 : decode cX10_leaveFinal 5 = .ok (.aload_n 0, 1) := by decide +kernel
theorem dX10_leaveFinal_6 : decode cX10_leaveFinal 6 = .ok (.iconst (-1), 1) := by decide +kernel
theorem dX10_leaveFinal_7 : decode cX10_leaveFinal 7 = .ok (.putfield 52, 3) := by decide +kernel
theorem dX10_leaveFinal_10 : decode cX10_leaveFinal 10 = .ok (.return_, 1) := by decide +kernel
theorem dX10_aheadByEntry_0 : decode cX10_aheadByEntry 0 = .ok (.aload_n 0, 1) := by decide +kernel
theorem dX10_aheadByEntry_1 : decode cX10_aheadByEntry 1 = .ok (.getfield 18, 3) := by decide +kernel
theorem dX10_aheadByEntry_4 : decode cX10_aheadByEntry 4 = .ok (.aload_n 1, 1) := by decide +kernel
theorem dX10_aheadByEntry_5 : decode cX10_aheadByEntry 5 = .ok (.getfield 18, 3) := by decide +kernel
theorem dX10_aheadByEntry_8 : decode cX10_aheadByEntry 8 = .ok (.if_icmp .eq 34, 3) := by decide +kernel
theorem dX10_aheadByEntry_11 : decode cX10_aheadByEntry 11 = .ok (.aload_n 1, 1) := by decide +kernel
theorem dX10_aheadByEntry_12 : decode cX10_aheadByEntry 12 = .ok (.getfield 18, 3) := by decide +kernel
theorem dX10_aheadByEntry_15 : decode cX10_aheadByEntry 15 = .ok (.ifCond .eq 21, 3) := by decide +kernel
theorem dX10_aheadByEntry_18 : decode cX10_aheadByEntry 18 = .ok (.aload_n 0, 1) := by decide +kernel
theorem dX10_aheadByEntry_19 : decode cX10_aheadByEntry 19 = .ok (.getfield 18, 3) := by decide +kernel
theorem dX10_aheadByEntry_22 : decode cX10_aheadByEntry 22 = .ok (.ifCond .eq 18, 3) := by decide +kernel
theorem dX10_aheadByEntry_25 : decode cX10_aheadByEntry 25 = .ok (.aload_n 0, 1) := by decide +kernel
theorem dX10_aheadByEntry_26 : decode cX10_aheadByEntry 26 = .ok (.getfield 18, 3) := by decide +kernel
theorem dX10_aheadByEntry_29 : decode cX10_aheadByEntry 29 = .ok (.aload_n 1, 1) := by decide +kernel
theorem dX10_aheadByEntry_30 : decode cX10_aheadByEntry 30 = .ok (.getfield 18, 3) := by decide +kernel
theorem dX10_aheadByEntry_33 : decode cX10_aheadByEntry 33 = .ok (.if_icmp .ge 7, 3) := by decide +kernel
theorem dX10_aheadByEntry_36 : decode cX10_aheadByEntry 36 = .ok (.iconst 1, 1) := by decide +kernel
theorem dX10_aheadByEntry_37 : decode cX10_aheadByEntry 37 = .ok (.goto 4, 3) := by decide +kernel
theorem dX10_aheadByEntry_40 : decode cX10_aheadByEntry 40 = .ok (.iconst 0, 1) := by decide +kernel
theorem dX10_aheadByEntry_41 : decode cX10_aheadByEntry 41 = .ok (.ireturn, 1) := by decide +kernel
theorem dX10_aheadByEntry_42 : decode cX10_aheadByEntry 42 = .ok (.aload_n 0, 1) := by decide +kernel
theorem dX10_aheadByEntry_43 : decode cX10_aheadByEntry 43 = .ok (.getfield 9, 3) := by decide +kernel
theorem dX10_aheadByEntry_46 : decode cX10_aheadByEntry 46 = .ok (.aload_n 1, 1) := by decide +kernel
theorem dX10_aheadByEntry_47 : decode cX10_aheadByEntry 47 = .ok (.getfield 9, 3) := by decide +kernel
theorem dX10_aheadByEntry_50 : decode cX10_aheadByEntry 50 = .ok (.if_icmp .ge 7, 3) := by decide +kernel
theorem dX10_aheadByEntry_53 : decode cX10_aheadByEntry 53 = .ok (.iconst 1, 1) := by decide +kernel
theorem dX10_aheadByEntry_54 : decode cX10_aheadByEntry 54 = .ok (.goto 4, 3) := by decide +kernel
theorem dX10_aheadByEntry_57 : decode cX10_aheadByEntry 57 = .ok (.iconst 0, 1) := by decide +kernel
theorem dX10_aheadByEntry_58 : decode cX10_aheadByEntry 58 = .ok (.ireturn, 1) := by decide +kernel
theorem dX10_aheadByHeatTime_0 : decode cX10_aheadByHeatTime 0 = .ok (.aload_n 0, 1) := by decide +kernel
theorem dX10_aheadByHeatTime_1 : decode cX10_aheadByHeatTime 1 = .ok (.getfield 46, 3) := by decide +kernel
theorem dX10_aheadByHeatTime_4 : decode cX10_aheadByHeatTime 4 = .ok (.aload_n 1, 1) := by decide +kernel
theorem dX10_aheadByHeatTime_5 : decode cX10_aheadByHeatTime 5 = .ok (.getfield 46, 3) := by decide +kernel
theorem dX10_aheadByHeatTime_8 : decode cX10_aheadByHeatTime 8 = .ok (.if_icmp .eq 22, 3) := by decide +kernel
theorem dX10_aheadByHeatTime_11 : decode cX10_aheadByHeatTime 11 = .ok (.aload_n 0, 1) := by decide +kernel
theorem dX10_aheadByHeatTime_12 : decode cX10_aheadByHeatTime 12 = .ok (.getfield 46, 3) := by decide +kernel
theorem dX10_aheadByHeatTime_15 : decode cX10_aheadByHeatTime 15 = .ok (.aload_n 1, 1) := by decide +kernel
theorem dX10_aheadByHeatTime_16 : decode cX10_aheadByHeatTime 16 = .ok (.getfield 46, 3) := by decide +kernel
theorem dX10_aheadByHeatTime_19 : decode cX10_aheadByHeatTime 19 = .ok (.if_icmp .ge 7, 3) := by decide +kernel
theorem dX10_aheadByHeatTime_22 : decode cX10_aheadByHeatTime 22 = .ok (.iconst 1, 1) := by decide +kernel
theorem dX10_aheadByHeatTime_23 : decode cX10_aheadByHeatTime 23 = .ok (.goto 12, 3) := by decide +kernel
theorem dX10_aheadByHeatTime_26 : decode cX10_aheadByHeatTime 26 = .ok (.iconst 0, 1) := by decide +kernel
theorem dX10_aheadByHeatTime_27 : decode cX10_aheadByHeatTime 27 = .ok (.goto 8, 3) := by decide +kernel
theorem dX10_aheadByHeatTime_30 : decode cX10_aheadByHeatTime 30 = .ok (.aload_n 0, 1) := by decide +kernel
theorem dX10_aheadByHeatTime_31 : decode cX10_aheadByHeatTime 31 = .ok (.aload_n 1, 1) := by decide +kernel
theorem dX10_aheadByHeatTime_32 : decode cX10_aheadByHeatTime 32 = .ok (.invokevirtual 55, 3) := by decide +kernel
theorem dX10_aheadByHeatTime_35 : decode cX10_aheadByHeatTime 35 = .ok (.ireturn, 1) := by decide +kernel
theorem dX10_bestTime_0 : decode cX10_bestTime 0 = .ok (.aload_n 0, 1) := by decide +kernel
theorem dX10_bestTime_1 : decode cX10_bestTime 1 = .ok (.getfield 18, 3) := by decide +kernel
theorem dX10_bestTime_4 : decode cX10_bestTime 4 = .ok (.istore_n 1, 1) := by decide +kernel
theorem dX10_bestTime_5 : decode cX10_bestTime 5 = .ok (.aload_n 0, 1) := by decide +kernel
theorem dX10_bestTime_6 : decode cX10_bestTime 6 = .ok (.getfield 46, 3) := by decide +kernel
theorem dX10_bestTime_9 : decode cX10_bestTime 9 = .ok (.ifCond .le 20, 3) := by decide +kernel
theorem dX10_bestTime_12 : decode cX10_bestTime 12 = .ok (.iload_n 1, 1) := by decide +kernel
theorem dX10_bestTime_13 : decode cX10_bestTime 13 = .ok (.ifCond .eq 11, 3) := by decide +kernel
theorem dX10_bestTime_16 : decode cX10_bestTime 16 = .ok (.aload_n 0, 1) := by decide +kernel
theorem dX10_bestTime_17 : decode cX10_bestTime 17 = .ok (.getfield 46, 3) := by decide +kernel
theorem dX10_bestTime_20 : decode cX10_bestTime 20 = .ok (.iload_n 1, 1) := by decide +kernel
theorem dX10_bestTime_21 : decode cX10_bestTime 21 = .ok (.if_icmp .ge 8, 3) := by decide +kernel
theorem dX10_bestTime_24 : decode cX10_bestTime 24 = .ok (.aload_n 0, 1) := by decide +kernel
theorem dX10_bestTime_25 : decode cX10_bestTime 25 = .ok (.getfield 46, 3) := by decide +kernel
theorem dX10_bestTime_28 : decode cX10_bestTime 28 = .ok (.istore_n 1, 1) := by decide +kernel
theorem dX10_bestTime_29 : decode cX10_bestTime 29 = .ok (.aload_n 0, 1) := by decide +kernel
theorem dX10_bestTime_30 : decode cX10_bestTime 30 = .ok (.getfield 52, 3) := by decide +kernel
theorem dX10_bestTime_33 : decode cX10_bestTime 33 = .ok (.ifCond .le 20, 3) := by decide +kernel
theorem dX10_bestTime_36 : decode cX10_bestTime 36 = .ok (.iload_n 1, 1) := by decide +kernel
theorem dX10_bestTime_37 : decode cX10_bestTime 37 = .ok (.ifCond .eq 11, 3) := by decide +kernel
theorem dX10_bestTime_40 : decode cX10_bestTime 40 = .ok (.aload_n 0, 1) := by decide +kernel
theorem dX10_bestTime_41 : decode cX10_bestTime 41 = .ok (.getfield 52, 3) := by decide +kernel
theorem dX10_bestTime_44 : decode cX10_bestTime 44 = .ok (.iload_n 1, 1) := by decide +kernel
theorem dX10_bestTime_45 : decode cX10_bestTime 45 = .ok (.if_icmp .ge 8, 3) := by decide +kernel
theorem dX10_bestTime_48 : decode cX10_bestTime 48 = .ok (.aload_n 0, 1) := by decide +kernel
theorem dX10_bestTime_49 : decode cX10_bestTime 49 = .ok (.getfield 52, 3) := by decide +kernel
theorem dX10_bestTime_52 : decode cX10_bestTime 52 = .ok (.istore_n 1, 1) := by decide +kernel
theorem dX10_bestTime_53 : decode cX10_bestTime 53 = .ok (.iload_n 1, 1) := by decide +kernel
theorem dX10_bestTime_54 : decode cX10_bestTime 54 = .ok (.ireturn, 1) := by decide +kernel
theorem dX10_copyFrom_0 : decode cX10_copyFrom 0 = .ok (.aload_n 0, 1) := by decide +kernel
theorem dX10_copyFrom_1 : decode cX10_copyFrom 1 = .ok (.aload_n 1, 1) := by decide +kernel
theorem dX10_copyFrom_2 : decode cX10_copyFrom 2 = .ok (.getfield 15, 3) := by decide +kernel
theorem dX10_copyFrom_5 : decode cX10_copyFrom 5 = .ok (.putfield 15, 3) := by decide +kernel
theorem dX10_copyFrom_8 : decode cX10_copyFrom 8 = .ok (.aload_n 0, 1) := by decide +kernel
theorem dX10_copyFrom_9 : decode cX10_copyFrom 9 = .ok (.aload_n 1, 1) := by decide +kernel
theorem dX10_copyFrom_10 : decode cX10_copyFrom 10 = .ok (.getfield 18, 3) := by decide +kernel
theorem dX10_copyFrom_13 : decode cX10_copyFrom 13 = .ok (.putfield 18, 3) := by decide +kernel
theorem dX10_copyFrom_16 : decode cX10_copyFrom 16 = .ok (.aload_n 0, 1) := by decide +kernel
theorem dX10_copyFrom_17 : decode cX10_copyFrom 17 = .ok (.aload_n 1, 1) := by decide +kernel
theorem dX10_copyFrom_18 : decode cX10_copyFrom 18 = .ok (.getfield 27, 3) := by decide +kernel
theorem dX10_copyFrom_21 : decode cX10_copyFrom 21 = .ok (.putfield 27, 3) := by decide +kernel
theorem dX10_copyFrom_24 : decode cX10_copyFrom 24 = .ok (.aload_n 0, 1) := by decide +kernel
theorem dX10_copyFrom_25 : decode cX10_copyFrom 25 = .ok (.aload_n 1, 1) := by decide +kernel
theorem dX10_copyFrom_26 : decode cX10_copyFrom 26 = .ok (.getfield 40, 3) := by decide +kernel
theorem dX10_copyFrom_29 : decode cX10_copyFrom 29 = .ok (.putfield 40, 3) := by decide +kernel
theorem dX10_copyFrom_32 : decode cX10_copyFrom 32 = .ok (.aload_n 0, 1) := by decide +kernel
theorem dX10_copyFrom_33 : decode cX10_copyFrom 33 = .ok (.aload_n 1, 1) := by decide +kernel
theorem dX10_copyFrom_34 : decode cX10_copyFrom 34 = .ok (.getfield 43, 3) := by decide +kernel
theorem dX10_copyFrom_37 : decode cX10_copyFrom 37 = .ok (.putfield 43, 3) := by decide +kernel
theorem dX10_copyFrom_40 : decode cX10_copyFrom 40 = .ok (.aload_n 0, 1) := by decide +kernel
theorem dX10_copyFrom_41 : decode cX10_copyFrom 41 = .ok (.aload_n 1, 1) := by decide +kernel
theorem dX10_copyFrom_42 : decode cX10_copyFrom 42 = .ok (.getfield 46, 3) := by decide +kernel
theorem dX10_copyFrom_45 : decode cX10_copyFrom 45 = .ok (.putfield 46, 3) := by decide +kernel
theorem dX10_copyFrom_48 : decode cX10_copyFrom 48 = .ok (.aload_n 0, 1) := by decide +kernel
theorem dX10_copyFrom_49 : decode cX10_copyFrom 49 = .ok (.aload_n 1, 1) := by decide +kernel
theorem dX10_copyFrom_50 : decode cX10_copyFrom 50 = .ok (.getfield 49, 3) := by decide +kernel
theorem dX10_copyFrom_53 : decode cX10_copyFrom 53 = .ok (.putfield 49, 3) := by decide +kernel
theorem dX10_copyFrom_56 : decode cX10_copyFrom 56 = .ok (.aload_n 0, 1) := by decide +kernel
theorem dX10_copyFrom_57 : decode cX10_copyFrom 57 = .ok (.aload_n 1, 1) := by decide +kernel
theorem dX10_copyFrom_58 : decode cX10_copyFrom 58 = .ok (.getfield 52, 3) := by decide +kernel
theorem dX10_copyFrom_61 : decode cX10_copyFrom 61 = .ok (.putfield 52, 3) := by decide +kernel
theorem dX10_copyFrom_64 : decode cX10_copyFrom 64 = .ok (.aload_n 0, 1) := by decide +kernel
theorem dX10_copyFrom_65 : decode cX10_copyFrom 65 = .ok (.aload_n 1, 1) := by decide +kernel
theorem dX10_copyFrom_66 : decode cX10_copyFrom 66 = .ok (.getfield 31, 3) := by decide +kernel
theorem dX10_copyFrom_69 : decode cX10_copyFrom 69 = .ok (.putfield 31, 3) := by decide +kernel
theorem dX10_copyFrom_72 : decode cX10_copyFrom 72 = .ok (.aload_n 0, 1) := by decide +kernel
theorem dX10_copyFrom_73 : decode cX10_copyFrom 73 = .ok (.aload_n 1, 1) := by decide +kernel
theorem dX10_copyFrom_74 : decode cX10_copyFrom 74 = .ok (.getfield 21, 3) := by decide +kernel
theorem dX10_copyFrom_77 : decode cX10_copyFrom 77 = .ok (.putfield 21, 3) := by decide +kernel
theorem dX10_copyFrom_80 : decode cX10_copyFrom 80 = .ok (.return_, 1) := by decide +kernel
theorem dX11_init_0 : decode cX11_init 0 = .ok (.aload_n 0, 1) := by decide +kernel
theorem dX11_init_1 : decode cX11_init 1 = .ok (.invokespecial 1, 3) := by decide +kernel
theorem dX11_init_4 : decode cX11_init 4 = .ok (.aload_n 0, 1) := by decide +kernel
theorem dX11_init_5 : decode cX11_init 5 = .ok (.new 7, 3) := by decide +kernel
theorem dX11_init_8 : decode cX11_init 8 = .ok (.dup, 1) := by decide +kernel
theorem dX11_init_9 : decode cX11_init 9 = .ok (.invokespecial 9, 3) := by decide +kernel
theorem dX11_init_12 : decode cX11_init 12 = .ok (.putfield 10, 3) := by decide +kernel
theorem dX11_init_15 : decode cX11_init 15 = .ok (.aload_n 0, 1) := by decide +kernel
theorem dX11_init_16 : decode cX11_init 16 = .ok (.new 7, 3) := by decide +kernel
theorem dX11_init_19 : decode cX11_init 19 = .ok (.dup, 1) := by decide +kernel
theorem dX11_init_20 : decode cX11_init 20 = .ok (.invokespecial 9, 3) := by decide +kernel
theorem dX11_init_23 : decode cX11_init 23 = .ok (.putfield 16, 3) := by decide +kernel
theorem dX11_init_26 : decode cX11_init 26 = .ok (.aload_n 0, 1) := by decide +kernel
theorem dX11_init_27 : decode cX11_init 27 = .ok (.new 19, 3) := by decide +kernel
theorem dX11_init_30 : decode cX11_init 30 = .ok (.dup, 1) := by decide +kernel
theorem dX11_init_31 : decode cX11_init 31 = .ok (.invokespecial 21, 3) := by decide +kernel
theorem dX11_init_34 : decode cX11_init 34 = .ok (.putfield 22, 3) := by decide +kernel
theorem dX11_init_37 : decode cX11_init 37 = .ok (.aload_n 0, 1) := by decide +kernel
theorem dX11_init_38 : decode cX11_init 38 = .ok (.new 26, 3) := by decide +kernel
theorem dX11_init_41 : decode cX11_init 41 = .ok (.dup, 1) := by decide +kernel
theorem dX11_init_42 : decode cX11_init 42 = .ok (.invokespecial 28, 3) := by decide +kernel
theorem dX11_init_45 : decode cX11_init 45 = .ok (.putfield 29, 3) := by decide +kernel
theorem dX11_init_48 : decode cX11_init 48 = .ok (.aload_n 0, 1) := by decide +kernel
theorem dX11_init_49 : decode cX11_init 49 = .ok (.new 33, 3) := by decide +kernel
theorem dX11_init_52 : decode cX11_init 52 = .ok (.dup, 1) := by decide +kernel
theorem dX11_init_53 : decode cX11_init 53 = .ok (.invokespecial 35, 3) := by decide +kernel
theorem dX11_init_56 : decode cX11_init 56 = .ok (.putfield 36, 3) := by decide +kernel
theorem dX11_init_59 : decode cX11_init 59 = .ok (.return_, 1) := by decide +kernel
theorem dX11_enter_0 : decode cX11_enter 0 = .ok (.aload_n 0, 1) := by decide +kernel
theorem dX11_enter_1 : decode cX11_enter 1 = .ok (.getfield 22, 3) := by decide +kernel
theorem dX11_enter_4 : decode cX11_enter 4 = .ok (.aload_n 0, 1) := by decide +kernel
theorem dX11_enter_5 : decode cX11_enter 5 = .ok (.getfield 10, 3) := by decide +kernel
theorem dX11_enter_8 : decode cX11_enter 8 = .ok (.invokevirtual 40, 3) := by decide +kernel
theorem dX11_enter_11 : decode cX11_enter 11 = .ok (.aload_n 0, 1) := by decide +kernel
theorem dX11_enter_12 : decode cX11_enter 12 = .ok (.getfield 22, 3) := by decide +kernel
theorem dX11_enter_15 : decode cX11_enter 15 = .ok (.aload_n 0, 1) := by decide +kernel
theorem dX11_enter_16 : decode cX11_enter 16 = .ok (.getfield 10, 3) := by decide +kernel
theorem dX11_enter_19 : decode cX11_enter 19 = .ok (.iload_n 1, 1) := by decide +kernel
theorem dX11_enter_20 : decode cX11_enter 20 = .ok (.iload_n 2, 1) := by decide +kernel
theorem dX11_enter_21 : decode cX11_enter 21 = .ok (.invokestatic 44, 3) := by decide +kernel
theorem dX11_enter_24 : decode cX11_enter 24 = .ok (.invokevirtual 50, 3) := by decide +kernel
theorem dX11_enter_27 : decode cX11_enter 27 = .ok (.ireturn, 1) := by decide +kernel
theorem dX11_scratch_0 : decode cX11_scratch 0 = .ok (.aload_n 0, 1) := by decide +kernel
theorem dX11_scratch_1 : decode cX11_scratch 1 = .ok (.getfield 22, 3) := by decide +kernel
theorem dX11_scratch_4 : decode cX11_scratch 4 = .ok (.aload_n 0, 1) := by decide +kernel
theorem dX11_scratch_5 : decode cX11_scratch 5 = .ok (.getfield 10, 3) := by decide +kernel
theorem dX11_scratch_8 : decode cX11_scratch 8 = .ok (.invokevirtual 40, 3) := by decide +kernel
theorem dX11_scratch_11 : decode cX11_scratch 11 = .ok (.aload_n 0, 1) := by decide +kernel
theorem dX11_scratch_12 : decode cX11_scratch 12 = .ok (.getfield 22, 3) := by decide +kernel
theorem dX11_scratch_15 : decode cX11_scratch 15 = .ok (.aload_n 0, 1) := by decide +kernel
theorem dX11_scratch_16 : decode cX11_scratch 16 = .ok (.getfield 10, 3) := by decide +kernel
theorem dX11_scratch_19 : decode cX11_scratch 19 = .ok (.iload_n 1, 1) := by decide +kernel
theorem dX11_scratch_20 : decode cX11_scratch 20 = .ok (.invokestatic 54, 3) := by decide +kernel
theorem dX11_scratch_23 : decode cX11_scratch 23 = .ok (.invokevirtual 50, 3) := by decide +kernel
theorem dX11_scratch_26 : decode cX11_scratch 26 = .ok (.ireturn, 1) := by decide +kernel
theorem dX11_set_0 : decode cX11_set 0 = .ok (.aload_n 0, 1) := by decide +kernel
theorem dX11_set_1 : decode cX11_set 1 = .ok (.getfield 22, 3) := by decide +kernel
theorem dX11_set_4 : decode cX11_set 4 = .ok (.aload_n 0, 1) := by decide +kernel
theorem dX11_set_5 : decode cX11_set 5 = .ok (.getfield 10, 3) := by decide +kernel
theorem dX11_set_8 : decode cX11_set 8 = .ok (.invokevirtual 40, 3) := by decide +kernel
theorem dX11_set_11 : decode cX11_set 11 = .ok (.aload_n 0, 1) := by decide +kernel
theorem dX11_set_12 : decode cX11_set 12 = .ok (.getfield 22, 3) := by decide +kernel
theorem dX11_set_15 : decode cX11_set 15 = .ok (.aload_n 0, 1) := by decide +kernel
theorem dX11_set_16 : decode cX11_set 16 = .ok (.getfield 10, 3) := by decide +kernel
theorem dX11_set_19 : decode cX11_set 19 = .ok (.iload_n 1, 1) := by decide +kernel
theorem dX11_set_20 : decode cX11_set 20 = .ok (.iload_n 2, 1) := by decide +kernel
theorem dX11_set_21 : decode cX11_set 21 = .ok (.invokestatic 58, 3) := by decide +kernel
theorem dX11_set_24 : decode cX11_set 24 = .ok (.invokevirtual 50, 3) := by decide +kernel
theorem dX11_set_27 : decode cX11_set 27 = .ok (.ireturn, 1) := by decide +kernel
theorem dX11_draw_0 : decode cX11_draw 0 = .ok (.aload_n 0, 1) := by decide +kernel
theorem dX11_draw_1 : decode cX11_draw 1 = .ok (.getfield 22, 3) := by decide +kernel
theorem dX11_draw_4 : decode cX11_draw 4 = .ok (.aload_n 0, 1) := by decide +kernel
theorem dX11_draw_5 : decode cX11_draw 5 = .ok (.getfield 10, 3) := by decide +kernel
theorem dX11_draw_8 : decode cX11_draw 8 = .ok (.invokevirtual 40, 3) := by decide +kernel
theorem dX11_draw_11 : decode cX11_draw 11 = .ok (.aload_n 0, 1) := by decide +kernel
theorem dX11_draw_12 : decode cX11_draw 12 = .ok (.getfield 22, 3) := by decide +kernel
theorem dX11_draw_15 : decode cX11_draw 15 = .ok (.aload_n 0, 1) := by decide +kernel
theorem dX11_draw_16 : decode cX11_draw 16 = .ok (.getfield 10, 3) := by decide +kernel
theorem dX11_draw_19 : decode cX11_draw 19 = .ok (.invokestatic 61, 3) := by decide +kernel
theorem dX11_draw_22 : decode cX11_draw 22 = .ok (.invokevirtual 50, 3) := by decide +kernel
theorem dX11_draw_25 : decode cX11_draw 25 = .ok (.ireturn, 1) := by decide +kernel
theorem dX11_swim_0 : decode cX11_swim 0 = .ok (.aload_n 0, 1) := by decide +kernel
theorem dX11_swim_1 : decode cX11_swim 1 = .ok (.getfield 22, 3) := by decide +kernel
theorem dX11_swim_4 : decode cX11_swim 4 = .ok (.aload_n 0, 1) := by decide +kernel
theorem dX11_swim_5 : decode cX11_swim 5 = .ok (.getfield 10, 3) := by decide +kernel
theorem dX11_swim_8 : decode cX11_swim 8 = .ok (.invokevirtual 40, 3) := by decide +kernel
theorem dX11_swim_11 : decode cX11_swim 11 = .ok (.aload_n 0, 1) := by decide +kernel
theorem dX11_swim_12 : decode cX11_swim 12 = .ok (.getfield 22, 3) := by decide +kernel
theorem dX11_swim_15 : decode cX11_swim 15 = .ok (.aload_n 0, 1) := by decide +kernel
theorem dX11_swim_16 : decode cX11_swim 16 = .ok (.getfield 10, 3) := by decide +kernel
theorem dX11_swim_19 : decode cX11_swim 19 = .ok (.iload_n 1, 1) := by decide +kernel
theorem dX11_swim_20 : decode cX11_swim 20 = .ok (.iload_n 2, 1) := by decide +kernel
theorem dX11_swim_21 : decode cX11_swim 21 = .ok (.invokestatic 65, 3) := by decide +kernel
theorem dX11_swim_24 : decode cX11_swim 24 = .ok (.invokevirtual 50, 3) := by decide +kernel
theorem dX11_swim_27 : decode cX11_swim 27 = .ok (.ireturn, 1) := by decide +kernel
theorem dX11_finals_0 : decode cX11_finals 0 = .ok (.aload_n 0, 1) := by decide +kernel
theorem dX11_finals_1 : decode cX11_finals 1 = .ok (.getfield 22, 3) := by decide +kernel
theorem dX11_finals_4 : decode cX11_finals 4 = .ok (.aload_n 0, 1) := by decide +kernel
theorem dX11_finals_5 : decode cX11_finals 5 = .ok (.getfield 10, 3) := by decide +kernel
theorem dX11_finals_8 : decode cX11_finals 8 = .ok (.invokevirtual 40, 3) := by decide +kernel
theorem dX11_finals_11 : decode cX11_finals 11 = .ok (.aload_n 0, 1) := by decide +kernel
theorem dX11_finals_12 : decode cX11_finals 12 = .ok (.getfield 22, 3) := by decide +kernel
theorem dX11_finals_15 : decode cX11_finals 15 = .ok (.aload_n 0, 1) := by decide +kernel
theorem dX11_finals_16 : decode cX11_finals 16 = .ok (.getfield 10, 3) := by decide +kernel
theorem dX11_finals_19 : decode cX11_finals 19 = .ok (.invokestatic 68, 3) := by decide +kernel
theorem dX11_finals_22 : decode cX11_finals 22 = .ok (.invokevirtual 50, 3) := by decide +kernel
theorem dX11_finals_25 : decode cX11_finals 25 = .ok (.ireturn, 1) := by decide +kernel
theorem dX11_end_0 : decode cX11_end 0 = .ok (.aload_n 0, 1) := by decide +kernel
theorem dX11_end_1 : decode cX11_end 1 = .ok (.getfield 22, 3) := by decide +kernel
theorem dX11_end_4 : decode cX11_end 4 = .ok (.aload_n 0, 1) := by decide +kernel
theorem dX11_end_5 : decode cX11_end 5 = .ok (.getfield 10, 3) := by decide +kernel
theorem dX11_end_8 : decode cX11_end 8 = .ok (.invokevirtual 40, 3) := by decide +kernel
theorem dX11_end_11 : decode cX11_end 11 = .ok (.aload_n 0, 1) := by decide +kernel
theorem dX11_end_12 : decode cX11_end 12 = .ok (.getfield 22, 3) := by decide +kernel
theorem dX11_end_15 : decode cX11_end 15 = .ok (.aload_n 0, 1) := by decide +kernel
theorem dX11_end_16 : decode cX11_end 16 = .ok (.getfield 10, 3) := by decide +kernel
theorem dX11_end_19 : decode cX11_end 19 = .ok (.invokestatic 71, 3) := by decide +kernel
theorem dX11_end_22 : decode cX11_end 22 = .ok (.invokevirtual 50, 3) := by decide +kernel
theorem dX11_end_25 : decode cX11_end 25 = .ok (.ireturn, 1) := by decide +kernel
theorem dX11_next_0 : decode cX11_next 0 = .ok (.aload_n 0, 1) := by decide +kernel
theorem dX11_next_1 : decode cX11_next 1 = .ok (.getfield 22, 3) := by decide +kernel
theorem dX11_next_4 : decode cX11_next 4 = .ok (.aload_n 0, 1) := by decide +kernel
theorem dX11_next_5 : decode cX11_next 5 = .ok (.getfield 10, 3) := by decide +kernel
theorem dX11_next_8 : decode cX11_next 8 = .ok (.invokevirtual 40, 3) := by decide +kernel
theorem dX11_next_11 : decode cX11_next 11 = .ok (.aload_n 0, 1) := by decide +kernel
theorem dX11_next_12 : decode cX11_next 12 = .ok (.getfield 22, 3) := by decide +kernel
theorem dX11_next_15 : decode cX11_next 15 = .ok (.aload_n 0, 1) := by decide +kernel
theorem dX11_next_16 : decode cX11_next 16 = .ok (.getfield 10, 3) := by decide +kernel
theorem dX11_next_19 : decode cX11_next 19 = .ok (.invokestatic 74, 3) := by decide +kernel
theorem dX11_next_22 : decode cX11_next 22 = .ok (.invokevirtual 50, 3) := by decide +kernel
theorem dX11_next_25 : decode cX11_next 25 = .ok (.ireturn, 1) := by decide +kernel
theorem dX11_swimmer_0 : decode cX11_swimmer 0 = .ok (.aload_n 0, 1) := by decide +kernel
theorem dX11_swimmer_1 : decode cX11_swimmer 1 = .ok (.getfield 10, 3) := by decide +kernel
theorem dX11_swimmer_4 : decode cX11_swimmer 4 = .ok (.iload_n 1, 1) := by decide +kernel
theorem dX11_swimmer_5 : decode cX11_swimmer 5 = .ok (.invokevirtual 77, 3) := by decide +kernel
theorem dX11_swimmer_8 : decode cX11_swimmer 8 = .ok (.ifCond .eq 13, 3) := by decide +kernel
theorem dX11_swimmer_11 : decode cX11_swimmer 11 = .ok (.iload_n 2, 1) := by decide +kernel
theorem dX11_swimmer_12 : decode cX11_swimmer 12 = .ok (.ifCond .lt 9, 3) := by decide +kernel
theorem dX11_swimmer_15 : decode cX11_swimmer 15 = .ok (.iload_n 2, 1) := by decide +kernel
theorem dX11_swimmer_16 : decode cX11_swimmer 16 = .ok (.bipush 11, 2) := by decide +kernel
theorem dX11_swimmer_18 : decode cX11_swimmer 18 = .ok (.if_icmp .le 6, 3) := by decide +kernel
theorem dX11_swimmer_21 : decode cX11_swimmer 21 = .ok (.ldc 81, 2) := by decide +kernel
theorem dX11_swimmer_23 : decode cX11_swimmer 23 = .ok (.ireturn, 1) := by decide +kernel
theorem dX11_swimmer_24 : decode cX11_swimmer 24 = .ok (.aload_n 0, 1) := by decide +kernel
theorem dX11_swimmer_25 : decode cX11_swimmer 25 = .ok (.getfield 10, 3) := by decide +kernel
theorem dX11_swimmer_28 : decode cX11_swimmer 28 = .ok (.aload_n 0, 1) := by decide +kernel
theorem dX11_swimmer_29 : decode cX11_swimmer 29 = .ok (.getfield 10, 3) := by decide +kernel
theorem dX11_swimmer_32 : decode cX11_swimmer 32 = .ok (.getfield 82, 3) := by decide +kernel
theorem dX11_swimmer_35 : decode cX11_swimmer 35 = .ok (.iload_n 1, 1) := by decide +kernel
theorem dX11_swimmer_36 : decode cX11_swimmer 36 = .ok (.aaload, 1) := by decide +kernel
theorem dX11_swimmer_37 : decode cX11_swimmer 37 = .ok (.iload_n 2, 1) := by decide +kernel
theorem dX11_swimmer_38 : decode cX11_swimmer 38 = .ok (.invokestatic 86, 3) := by decide +kernel
theorem dX11_swimmer_41 : decode cX11_swimmer 41 = .ok (.ireturn, 1) := by decide +kernel
theorem dX11_reserve_0 : decode cX11_reserve 0 = .ok (.iload_n 1, 1) := by decide +kernel
theorem dX11_reserve_1 : decode cX11_reserve 1 = .ok (.ifCond .ge 8, 3) := by decide +kernel
theorem dX11_reserve_4 : decode cX11_reserve 4 = .ok (.ldc 81, 2) := by decide +kernel
theorem dX11_reserve_6 : decode cX11_reserve 6 = .ok (.goto 11, 3) := by decide +kernel
theorem dX11_reserve_9 : decode cX11_reserve 9 = .ok (.aload_n 0, 1) := by decide +kernel
theorem dX11_reserve_10 : decode cX11_reserve 10 = .ok (.getfield 10, 3) := by decide +kernel
theorem dX11_reserve_13 : decode cX11_reserve 13 = .ok (.iload_n 1, 1) := by decide +kernel
theorem dX11_reserve_14 : decode cX11_reserve 14 = .ok (.invokevirtual 105, 3) := by decide +kernel
theorem dX11_reserve_17 : decode cX11_reserve 17 = .ok (.ireturn, 1) := by decide +kernel
theorem dX11_points_0 : decode cX11_points 0 = .ok (.iload_n 1, 1) := by decide +kernel
theorem dX11_points_1 : decode cX11_points 1 = .ok (.ifCond .lt 9, 3) := by decide +kernel
theorem dX11_points_4 : decode cX11_points 4 = .ok (.iload_n 1, 1) := by decide +kernel
theorem dX11_points_5 : decode cX11_points 5 = .ok (.bipush 6, 2) := by decide +kernel
theorem dX11_points_7 : decode cX11_points 7 = .ok (.if_icmp .lt 8, 3) := by decide +kernel
theorem dX11_points_10 : decode cX11_points 10 = .ok (.ldc 81, 2) := by decide +kernel
theorem dX11_points_12 : decode cX11_points 12 = .ok (.goto 11, 3) := by decide +kernel
theorem dX11_points_15 : decode cX11_points 15 = .ok (.aload_n 0, 1) := by decide +kernel
theorem dX11_points_16 : decode cX11_points 16 = .ok (.getfield 10, 3) := by decide +kernel
theorem dX11_points_19 : decode cX11_points 19 = .ok (.iload_n 1, 1) := by decide +kernel
theorem dX11_points_20 : decode cX11_points 20 = .ok (.invokestatic 108, 3) := by decide +kernel
theorem dX11_points_23 : decode cX11_points 23 = .ok (.ireturn, 1) := by decide +kernel
theorem dX11_why_0 : decode cX11_why 0 = .ok (.aload_n 0, 1) := by decide +kernel
theorem dX11_why_1 : decode cX11_why 1 = .ok (.getfield 10, 3) := by decide +kernel
theorem dX11_why_4 : decode cX11_why 4 = .ok (.invokevirtual 142, 3) := by decide +kernel
theorem dX11_why_7 : decode cX11_why 7 = .ok (.ireturn, 1) := by decide +kernel
theorem dX11_missing_0 : decode cX11_missing 0 = .ok (.iload_n 1, 1) := by decide +kernel
theorem dX11_missing_1 : decode cX11_missing 1 = .ok (.ifCond .ge 8, 3) := by decide +kernel
theorem dX11_missing_4 : decode cX11_missing 4 = .ok (.ldc 81, 2) := by decide +kernel
theorem dX11_missing_6 : decode cX11_missing 6 = .ok (.goto 11, 3) := by decide +kernel
theorem dX11_missing_9 : decode cX11_missing 9 = .ok (.aload_n 0, 1) := by decide +kernel
theorem dX11_missing_10 : decode cX11_missing 10 = .ok (.getfield 10, 3) := by decide +kernel
theorem dX11_missing_13 : decode cX11_missing 13 = .ok (.iload_n 1, 1) := by decide +kernel
theorem dX11_missing_14 : decode cX11_missing 14 = .ok (.invokevirtual 145, 3) := by decide +kernel
theorem dX11_missing_17 : decode cX11_missing 17 = .ok (.ireturn, 1) := by decide +kernel
theorem dX11_count_0 : decode cX11_count 0 = .ok (.iload_n 1, 1) := by decide +kernel
theorem dX11_count_1 : decode cX11_count 1 = .ok (.bipush 12, 2) := by decide +kernel
theorem dX11_count_3 : decode cX11_count 3 = .ok (.if_icmp .ne 11, 3) := by decide +kernel
theorem dX11_count_6 : decode cX11_count 6 = .ok (.aload_n 0, 1) := by decide +kernel
theorem dX11_count_7 : decode cX11_count 7 = .ok (.getfield 22, 3) := by decide +kernel
theorem dX11_count_10 : decode cX11_count 10 = .ok (.getfield 154, 3) := by decide +kernel
theorem dX11_count_13 : decode cX11_count 13 = .ok (.ireturn, 1) := by decide +kernel
theorem dX11_count_14 : decode cX11_count 14 = .ok (.iload_n 1, 1) := by decide +kernel
theorem dX11_count_15 : decode cX11_count 15 = .ok (.bipush 13, 2) := by decide +kernel
theorem dX11_count_17 : decode cX11_count 17 = .ok (.if_icmp .ne 11, 3) := by decide +kernel
theorem dX11_count_20 : decode cX11_count 20 = .ok (.aload_n 0, 1) := by decide +kernel
theorem dX11_count_21 : decode cX11_count 21 = .ok (.getfield 29, 3) := by decide +kernel
theorem dX11_count_24 : decode cX11_count 24 = .ok (.getfield 157, 3) := by decide +kernel
theorem dX11_count_27 : decode cX11_count 27 = .ok (.ireturn, 1) := by decide +kernel
theorem dX11_count_28 : decode cX11_count 28 = .ok (.iload_n 1, 1) := by decide +kernel
theorem dX11_count_29 : decode cX11_count 29 = .ok (.bipush 20, 2) := by decide +kernel
theorem dX11_count_31 : decode cX11_count 31 = .ok (.if_icmp .lt 22, 3) := by decide +kernel
theorem dX11_count_34 : decode cX11_count 34 = .ok (.iload_n 1, 1) := by decide +kernel
theorem dX11_count_35 : decode cX11_count 35 = .ok (.bipush 23, 2) := by decide +kernel
theorem dX11_count_37 : decode cX11_count 37 = .ok (.if_icmp .ge 16, 3) := by decide +kernel
theorem dX11_count_40 : decode cX11_count 40 = .ok (.aload_n 0, 1) := by decide +kernel
theorem dX11_count_41 : decode cX11_count 41 = .ok (.getfield 10, 3) := by decide +kernel
theorem dX11_count_44 : decode cX11_count 44 = .ok (.getfield 160, 3) := by decide +kernel
theorem dX11_count_47 : decode cX11_count 47 = .ok (.iload_n 1, 1) := by decide +kernel
theorem dX11_count_48 : decode cX11_count 48 = .ok (.bipush 20, 2) := by decide +kernel
theorem dX11_count_50 : decode cX11_count 50 = .ok (.isub, 1) := by decide +kernel
theorem dX11_count_51 : decode cX11_count 51 = .ok (.iaload, 1) := by decide +kernel
theorem dX11_count_52 : decode cX11_count 52 = .ok (.ireturn, 1) := by decide +kernel
theorem dX11_count_53 : decode cX11_count 53 = .ok (.aload_n 0, 1) := by decide +kernel
theorem dX11_count_54 : decode cX11_count 54 = .ok (.getfield 10, 3) := by decide +kernel
theorem dX11_count_57 : decode cX11_count 57 = .ok (.iload_n 1, 1) := by decide +kernel
theorem dX11_count_58 : decode cX11_count 58 = .ok (.invokestatic 164, 3) := by decide +kernel
theorem dX11_count_61 : decode cX11_count 61 = .ok (.ireturn, 1) := by decide +kernel
theorem dL_cell_0 : decode cL_cell 0 = .ok (.iload_n 1, 1) := by decide +kernel
theorem dL_cell_1 : decode cL_cell 1 = .ok (.aload_n 0, 1) := by decide +kernel
theorem dL_cell_2 : decode cL_cell 2 = .ok (.arraylength, 1) := by decide +kernel
theorem dL_cell_3 : decode cL_cell 3 = .ok (.if_icmp .ge 9, 3) := by decide +kernel
theorem dL_cell_6 : decode cL_cell 6 = .ok (.aload_n 0, 1) := by decide +kernel
theorem dL_cell_7 : decode cL_cell 7 = .ok (.iload_n 1, 1) := by decide +kernel
theorem dL_cell_8 : decode cL_cell 8 = .ok (.iaload, 1) := by decide +kernel
theorem dL_cell_9 : decode cL_cell 9 = .ok (.goto 9, 3) := by decide +kernel
theorem dL_cell_12 : decode cL_cell 12 = .ok (.ldc 7, 2) := by decide +kernel
theorem dL_cell_14 : decode cL_cell 14 = .ok (.iload_n 1, 1) := by decide +kernel
theorem dL_cell_15 : decode cL_cell 15 = .ok (.iconst 3, 1) := by decide +kernel
theorem dL_cell_16 : decode cL_cell 16 = .ok (.iadd, 1) := by decide +kernel
theorem dL_cell_17 : decode cL_cell 17 = .ok (.imul, 1) := by decide +kernel
theorem dL_cell_18 : decode cL_cell 18 = .ok (.ireturn, 1) := by decide +kernel
theorem dL_isAhead_0 : decode cL_isAhead 0 = .ok (.aload_n 0, 1) := by decide +kernel
theorem dL_isAhead_1 : decode cL_isAhead 1 = .ok (.iconst 3, 1) := by decide +kernel
theorem dL_isAhead_2 : decode cL_isAhead 2 = .ok (.iload_n 1, 1) := by decide +kernel
theorem dL_isAhead_3 : decode cL_isAhead 3 = .ok (.imul, 1) := by decide +kernel
theorem dL_isAhead_4 : decode cL_isAhead 4 = .ok (.iconst 1, 1) := by decide +kernel
theorem dL_isAhead_5 : decode cL_isAhead 5 = .ok (.iadd, 1) := by decide +kernel
theorem dL_isAhead_6 : decode cL_isAhead 6 = .ok (.iaload, 1) := by decide +kernel
theorem dL_isAhead_7 : decode cL_isAhead 7 = .ok (.ifCond .ne 9, 3) := by decide +kernel
theorem dL_isAhead_10 : decode cL_isAhead 10 = .ok (.sipush 9999, 3) := by decide +kernel
theorem dL_isAhead_13 : decode cL_isAhead 13 = .ok (.goto 10, 3) := by decide +kernel
theorem dL_isAhead_16 : decode cL_isAhead 16 = .ok (.aload_n 0, 1) := by decide +kernel
theorem dL_isAhead_17 : decode cL_isAhead 17 = .ok (.iconst 3, 1) := by decide +kernel
theorem dL_isAhead_18 : decode cL_isAhead 18 = .ok (.iload_n 1, 1) := by decide +kernel
theorem dL_isAhead_19 : decode cL_isAhead 19 = .ok (.imul, 1) := by decide +kernel
theorem dL_isAhead_20 : decode cL_isAhead 20 = .ok (.iconst 1, 1) := by decide +kernel
theorem dL_isAhead_21 : decode cL_isAhead 21 = .ok (.iadd, 1) := by decide +kernel
theorem dL_isAhead_22 : decode cL_isAhead 22 = .ok (.iaload, 1) := by decide +kernel
theorem dL_isAhead_23 : decode cL_isAhead 23 = .ok (.istore_n 3, 1) := by decide +kernel
theorem dL_isAhead_24 : decode cL_isAhead 24 = .ok (.aload_n 0, 1) := by decide +kernel
theorem dL_isAhead_25 : decode cL_isAhead 25 = .ok (.iconst 3, 1) := by decide +kernel
theorem dL_isAhead_26 : decode cL_isAhead 26 = .ok (.iload_n 2, 1) := by decide +kernel
theorem dL_isAhead_27 : decode cL_isAhead 27 = .ok (.imul, 1) := by decide +kernel
theorem dL_isAhead_28 : decode cL_isAhead 28 = .ok (.iconst 1, 1) := by decide +kernel
theorem dL_isAhead_29 : decode cL_isAhead 29 = .ok (.iadd, 1) := by decide +kernel
theorem dL_isAhead_30 : decode cL_isAhead 30 = .ok (.iaload, 1) := by decide +kernel
theorem dL_isAhead_31 : decode cL_isAhead 31 = .ok (.ifCond .ne 9, 3) := by decide +kernel
theorem dL_isAhead_34 : decode cL_isAhead 34 = .ok (.sipush 9999, 3) := by decide +kernel
theorem dL_isAhead_37 : decode cL_isAhead 37 = .ok (.goto 10, 3) := by decide +kernel
theorem dL_isAhead_40 : decode cL_isAhead 40 = .ok (.aload_n 0, 1) := by decide +kernel
theorem dL_isAhead_41 : decode cL_isAhead 41 = .ok (.iconst 3, 1) := by decide +kernel
theorem dL_isAhead_42 : decode cL_isAhead 42 = .ok (.iload_n 2, 1) := by decide +kernel
theorem dL_isAhead_43 : decode cL_isAhead 43 = .ok (.imul, 1) := by decide +kernel
theorem dL_isAhead_44 : decode cL_isAhead 44 = .ok (.iconst 1, 1) := by decide +kernel
theorem dL_isAhead_45 : decode cL_isAhead 45 = .ok (.iadd, 1) := by decide +kernel
theorem dL_isAhead_46 : decode cL_isAhead 46 = .ok (.iaload, 1) := by decide +kernel
theorem dL_isAhead_47 : decode cL_isAhead 47 = .ok (.istore 4, 2) := by decide +kernel
theorem dL_isAhead_49 : decode cL_isAhead 49 = .ok (.iload_n 3, 1) := by decide +kernel
theorem dL_isAhead_50 : decode cL_isAhead 50 = .ok (.iload 4, 2) := by decide +kernel
theorem dL_isAhead_52 : decode cL_isAhead 52 = .ok (.if_icmp .lt 14, 3) := by decide +kernel
theorem dL_isAhead_55 : decode cL_isAhead 55 = .ok (.iload_n 3, 1) := by decide +kernel
theorem dL_isAhead_56 : decode cL_isAhead 56 = .ok (.iload 4, 2) := by decide +kernel
theorem dL_isAhead_58 : decode cL_isAhead 58 = .ok (.if_icmp .ne 12, 3) := by decide +kernel
theorem dL_isAhead_61 : decode cL_isAhead 61 = .ok (.iload_n 1, 1) := by decide +kernel
theorem dL_isAhead_62 : decode cL_isAhead 62 = .ok (.iload_n 2, 1) := by decide +kernel
theorem dL_isAhead_63 : decode cL_isAhead 63 = .ok (.if_icmp .ge 7, 3) := by decide +kernel
theorem dL_isAhead_66 : decode cL_isAhead 66 = .ok (.iconst 1, 1) := by decide +kernel
theorem dL_isAhead_67 : decode cL_isAhead 67 = .ok (.goto 4, 3) := by decide +kernel
theorem dL_isAhead_70 : decode cL_isAhead 70 = .ok (.iconst 0, 1) := by decide +kernel
theorem dL_isAhead_71 : decode cL_isAhead 71 = .ok (.ireturn, 1) := by decide +kernel
theorem dL_rank_0 : decode cL_rank 0 = .ok (.iconst 0, 1) := by decide +kernel
theorem dL_rank_1 : decode cL_rank 1 = .ok (.istore_n 3, 1) := by decide +kernel
theorem dL_rank_2 : decode cL_rank 2 = .ok (.iconst 0, 1) := by decide +kernel
theorem dL_rank_3 : decode cL_rank 3 = .ok (.istore 4, 2) := by decide +kernel
theorem dL_rank_5 : decode cL_rank 5 = .ok (.iload 4, 2) := by decide +kernel
theorem dL_rank_7 : decode cL_rank 7 = .ok (.aload_n 1, 1) := by decide +kernel
theorem dL_rank_8 : decode cL_rank 8 = .ok (.iconst 1, 1) := by decide +kernel
theorem dL_rank_9 : decode cL_rank 9 = .ok (.iaload, 1) := by decide +kernel
theorem dL_rank_10 : decode cL_rank 10 = .ok (.if_icmp .ge 38, 3) := by decide +kernel
theorem dL_rank_13 : decode cL_rank 13 = .ok (.iload_n 3, 1) := by decide +kernel
theorem dL_rank_14 : decode cL_rank 14 = .ok (.aload_n 0, 1) := by decide +kernel
theorem dL_rank_15 : decode cL_rank 15 = .ok (.iconst 3, 1) := by decide +kernel
theorem dL_rank_16 : decode cL_rank 16 = .ok (.iload 4, 2) := by decide +kernel
theorem dL_rank_18 : decode cL_rank 18 = .ok (.imul, 1) := by decide +kernel
theorem dL_rank_19 : decode cL_rank 19 = .ok (.iconst 2, 1) := by decide +kernel
theorem dL_rank_20 : decode cL_rank 20 = .ok (.iadd, 1) := by decide +kernel
theorem dL_rank_21 : decode cL_rank 21 = .ok (.iaload, 1) := by decide +kernel
theorem dL_rank_22 : decode cL_rank 22 = .ok (.ifCond .ne 17, 3) := by decide +kernel
theorem dL_rank_25 : decode cL_rank 25 = .ok (.aload_n 0, 1) := by decide +kernel
theorem dL_rank_26 : decode cL_rank 26 = .ok (.iload 4, 2) := by decide +kernel
theorem dL_rank_28 : decode cL_rank 28 = .ok (.iload_n 2, 1) := by decide +kernel
theorem dL_rank_29 : decode cL_rank 29 = .ok (.invokestatic 9, 3) := by decide +kernel
theorem dL_rank_32 : decode cL_rank 32 = .ok (.ifCond .eq 7, 3) := by decide +kernel
theorem dL_rank_35 : decode cL_rank 35 = .ok (.iconst 1, 1) := by decide +kernel
theorem dL_rank_36 : decode cL_rank 36 = .ok (.goto 4, 3) := by decide +kernel
theorem dL_rank_39 : decode cL_rank 39 = .ok (.iconst 0, 1) := by decide +kernel
theorem dL_rank_40 : decode cL_rank 40 = .ok (.iadd, 1) := by decide +kernel
theorem dL_rank_41 : decode cL_rank 41 = .ok (.istore_n 3, 1) := by decide +kernel
theorem dL_rank_42 : decode cL_rank 42 = .ok (.iinc 4 1, 3) := by decide +kernel
theorem dL_rank_45 : decode cL_rank 45 = .ok (.goto (-40), 3) := by decide +kernel
theorem dL_rank_48 : decode cL_rank 48 = .ok (.iload_n 3, 1) := by decide +kernel
theorem dL_rank_49 : decode cL_rank 49 = .ok (.ireturn, 1) := by decide +kernel
theorem dL_timeRank_0 : decode cL_timeRank 0 = .ok (.iconst 0, 1) := by decide +kernel
theorem dL_timeRank_1 : decode cL_timeRank 1 = .ok (.istore 4, 2) := by decide +kernel
theorem dL_timeRank_3 : decode cL_timeRank 3 = .ok (.iconst 0, 1) := by decide +kernel
theorem dL_timeRank_4 : decode cL_timeRank 4 = .ok (.istore 5, 2) := by decide +kernel
theorem dL_timeRank_6 : decode cL_timeRank 6 = .ok (.iload 5, 2) := by decide +kernel
theorem dL_timeRank_8 : decode cL_timeRank 8 = .ok (.aload_n 2, 1) := by decide +kernel
theorem dL_timeRank_9 : decode cL_timeRank 9 = .ok (.iconst 1, 1) := by decide +kernel
theorem dL_timeRank_10 : decode cL_timeRank 10 = .ok (.iaload, 1) := by decide +kernel
theorem dL_timeRank_11 : decode cL_timeRank 11 = .ok (.if_icmp .ge 89, 3) := by decide +kernel
theorem dL_timeRank_14 : decode cL_timeRank 14 = .ok (.aload_n 1, 1) := by decide +kernel
theorem dL_timeRank_15 : decode cL_timeRank 15 = .ok (.iconst 3, 1) := by decide +kernel
theorem dL_timeRank_16 : decode cL_timeRank 16 = .ok (.iload 5, 2) := by decide +kernel
theorem dL_timeRank_18 : decode cL_timeRank 18 = .ok (.imul, 1) := by decide +kernel
theorem dL_timeRank_19 : decode cL_timeRank 19 = .ok (.iconst 2, 1) := by decide +kernel
theorem dL_timeRank_20 : decode cL_timeRank 20 = .ok (.iadd, 1) := by decide +kernel
theorem dL_timeRank_21 : decode cL_timeRank 21 = .ok (.iaload, 1) := by decide +kernel
theorem dL_timeRank_22 : decode cL_timeRank 22 = .ok (.aload_n 1, 1) := by decide +kernel
theorem dL_timeRank_23 : decode cL_timeRank 23 = .ok (.iconst 3, 1) := by decide +kernel
theorem dL_timeRank_24 : decode cL_timeRank 24 = .ok (.iload_n 3, 1) := by decide +kernel
theorem dL_timeRank_25 : decode cL_timeRank 25 = .ok (.imul, 1) := by decide +kernel
theorem dL_timeRank_26 : decode cL_timeRank 26 = .ok (.iconst 2, 1) := by decide +kernel
theorem dL_timeRank_27 : decode cL_timeRank 27 = .ok (.iadd, 1) := by decide +kernel
theorem dL_timeRank_28 : decode cL_timeRank 28 = .ok (.iaload, 1) := by decide +kernel
theorem dL_timeRank_29 : decode cL_timeRank 29 = .ok (.if_icmp .lt 31, 3) := by decide +kernel
theorem dL_timeRank_32 : decode cL_timeRank 32 = .ok (.aload_n 1, 1) := by decide +kernel
theorem dL_timeRank_33 : decode cL_timeRank 33 = .ok (.iconst 3, 1) := by decide +kernel
theorem dL_timeRank_34 : decode cL_timeRank 34 = .ok (.iload 5, 2) := by decide +kernel
theorem dL_timeRank_36 : decode cL_timeRank 36 = .ok (.imul, 1) := by decide +kernel
theorem dL_timeRank_37 : decode cL_timeRank 37 = .ok (.iconst 2, 1) := by decide +kernel
theorem dL_timeRank_38 : decode cL_timeRank 38 = .ok (.iadd, 1) := by decide +kernel
theorem dL_timeRank_39 : decode cL_timeRank 39 = .ok (.iaload, 1) := by decide +kernel
theorem dL_timeRank_40 : decode cL_timeRank 40 = .ok (.aload_n 1, 1) := by decide +kernel
theorem dL_timeRank_41 : decode cL_timeRank 41 = .ok (.iconst 3, 1) := by decide +kernel
theorem dL_timeRank_42 : decode cL_timeRank 42 = .ok (.iload_n 3, 1) := by decide +kernel
theorem dL_timeRank_43 : decode cL_timeRank 43 = .ok (.imul, 1) := by decide +kernel
theorem dL_timeRank_44 : decode cL_timeRank 44 = .ok (.iconst 2, 1) := by decide +kernel
theorem dL_timeRank_45 : decode cL_timeRank 45 = .ok (.iadd, 1) := by decide +kernel
theorem dL_timeRank_46 : decode cL_timeRank 46 = .ok (.iaload, 1) := by decide +kernel
theorem dL_timeRank_47 : decode cL_timeRank 47 = .ok (.if_icmp .ne 17, 3) := by decide +kernel
theorem dL_timeRank_50 : decode cL_timeRank 50 = .ok (.aload_n 0, 1) := by decide +kernel
theorem dL_timeRank_51 : decode cL_timeRank 51 = .ok (.iload 5, 2) := by decide +kernel
theorem dL_timeRank_53 : decode cL_timeRank 53 = .ok (.iload_n 3, 1) := by decide +kernel
theorem dL_timeRank_54 : decode cL_timeRank 54 = .ok (.invokestatic 9, 3) := by decide +kernel
theorem dL_timeRank_57 : decode cL_timeRank 57 = .ok (.ifCond .eq 7, 3) := by decide +kernel
theorem dL_timeRank_60 : decode cL_timeRank 60 = .ok (.iconst 1, 1) := by decide +kernel
theorem dL_timeRank_61 : decode cL_timeRank 61 = .ok (.goto 4, 3) := by decide +kernel
theorem dL_timeRank_64 : decode cL_timeRank 64 = .ok (.iconst 0, 1) := by decide +kernel
theorem dL_timeRank_65 : decode cL_timeRank 65 = .ok (.istore 6, 2) := by decide +kernel
theorem dL_timeRank_67 : decode cL_timeRank 67 = .ok (.iload 4, 2) := by decide +kernel
theorem dL_timeRank_69 : decode cL_timeRank 69 = .ok (.aload_n 1, 1) := by decide +kernel
theorem dL_timeRank_70 : decode cL_timeRank 70 = .ok (.iconst 3, 1) := by decide +kernel
theorem dL_timeRank_71 : decode cL_timeRank 71 = .ok (.iload 5, 2) := by decide +kernel
theorem dL_timeRank_73 : decode cL_timeRank 73 = .ok (.imul, 1) := by decide +kernel
theorem dL_timeRank_74 : decode cL_timeRank 74 = .ok (.iconst 2, 1) := by decide +kernel
theorem dL_timeRank_75 : decode cL_timeRank 75 = .ok (.iadd, 1) := by decide +kernel
theorem dL_timeRank_76 : decode cL_timeRank 76 = .ok (.iaload, 1) := by decide +kernel
theorem dL_timeRank_77 : decode cL_timeRank 77 = .ok (.iconst 1, 1) := by decide +kernel
theorem dL_timeRank_78 : decode cL_timeRank 78 = .ok (.if_icmp .le 12, 3) := by decide +kernel
theorem dL_timeRank_81 : decode cL_timeRank 81 = .ok (.iload 6, 2) := by decide +kernel
theorem dL_timeRank_83 : decode cL_timeRank 83 = .ok (.ifCond .eq 7, 3) := by decide +kernel
theorem dL_timeRank_86 : decode cL_timeRank 86 = .ok (.iconst 1, 1) := by decide +kernel
theorem dL_timeRank_87 : decode cL_timeRank 87 = .ok (.goto 4, 3) := by decide +kernel
theorem dL_timeRank_90 : decode cL_timeRank 90 = .ok (.iconst 0, 1) := by decide +kernel
theorem dL_timeRank_91 : decode cL_timeRank 91 = .ok (.iadd, 1) := by decide +kernel
theorem dL_timeRank_92 : decode cL_timeRank 92 = .ok (.istore 4, 2) := by decide +kernel
theorem dL_timeRank_94 : decode cL_timeRank 94 = .ok (.iinc 5 1, 3) := by decide +kernel
theorem dL_timeRank_97 : decode cL_timeRank 97 = .ok (.goto (-91), 3) := by decide +kernel
theorem dL_timeRank_100 : decode cL_timeRank 100 = .ok (.iload 4, 2) := by decide +kernel
theorem dL_timeRank_102 : decode cL_timeRank 102 = .ok (.ireturn, 1) := by decide +kernel
theorem dL_lane_0 : decode cL_lane 0 = .ok (.iload_n 0, 1) := by decide +kernel
theorem dL_lane_1 : decode cL_lane 1 = .ok (.iconst 1, 1) := by decide +kernel
theorem dL_lane_2 : decode cL_lane 2 = .ok (.iadd, 1) := by decide +kernel
theorem dL_lane_3 : decode cL_lane 3 = .ok (.iconst 2, 1) := by decide +kernel
theorem dL_lane_4 : decode cL_lane 4 = .ok (.idiv, 1) := by decide +kernel
theorem dL_lane_5 : decode cL_lane 5 = .ok (.istore_n 2, 1) := by decide +kernel
theorem dL_lane_6 : decode cL_lane 6 = .ok (.iconst 1, 1) := by decide +kernel
theorem dL_lane_7 : decode cL_lane 7 = .ok (.istore_n 3, 1) := by decide +kernel
theorem dL_lane_8 : decode cL_lane 8 = .ok (.iload_n 3, 1) := by decide +kernel
theorem dL_lane_9 : decode cL_lane 9 = .ok (.iload_n 1, 1) := by decide +kernel
theorem dL_lane_10 : decode cL_lane 10 = .ok (.if_icmp .gt 25, 3) := by decide +kernel
theorem dL_lane_13 : decode cL_lane 13 = .ok (.iload_n 2, 1) := by decide +kernel
theorem dL_lane_14 : decode cL_lane 14 = .ok (.iload_n 3, 1) := by decide +kernel
theorem dL_lane_15 : decode cL_lane 15 = .ok (.iconst 2, 1) := by decide +kernel
theorem dL_lane_16 : decode cL_lane 16 = .ok (.irem, 1) := by decide +kernel
theorem dL_lane_17 : decode cL_lane 17 = .ok (.iconst 1, 1) := by decide +kernel
theorem dL_lane_18 : decode cL_lane 18 = .ok (.if_icmp .ne 7, 3) := by decide +kernel
theorem dL_lane_21 : decode cL_lane 21 = .ok (.iload_n 3, 1) := by decide +kernel
theorem dL_lane_22 : decode cL_lane 22 = .ok (.goto 5, 3) := by decide +kernel
theorem dL_lane_25 : decode cL_lane 25 = .ok (.iload_n 3, 1) := by decide +kernel
theorem dL_lane_26 : decode cL_lane 26 = .ok (.ineg, 1) := by decide +kernel
theorem dL_lane_27 : decode cL_lane 27 = .ok (.iadd, 1) := by decide +kernel
theorem dL_lane_28 : decode cL_lane 28 = .ok (.istore_n 2, 1) := by decide +kernel
theorem dL_lane_29 : decode cL_lane 29 = .ok (.iinc 3 1, 3) := by decide +kernel
theorem dL_lane_32 : decode cL_lane 32 = .ok (.goto (-24), 3) := by decide +kernel
theorem dL_lane_35 : decode cL_lane 35 = .ok (.iload_n 2, 1) := by decide +kernel
theorem dL_lane_36 : decode cL_lane 36 = .ok (.ireturn, 1) := by decide +kernel
theorem dL_plan_0 : decode cL_plan 0 = .ok (.iconst 0, 1) := by decide +kernel
theorem dL_plan_1 : decode cL_plan 1 = .ok (.istore_n 3, 1) := by decide +kernel
theorem dL_plan_2 : decode cL_plan 2 = .ok (.iconst 0, 1) := by decide +kernel
theorem dL_plan_3 : decode cL_plan 3 = .ok (.istore 4, 2) := by decide +kernel
theorem dL_plan_5 : decode cL_plan 5 = .ok (.iload 4, 2) := by decide +kernel
theorem dL_plan_7 : decode cL_plan 7 = .ok (.aload_n 1, 1) := by decide +kernel
theorem dL_plan_8 : decode cL_plan 8 = .ok (.iconst 1, 1) := by decide +kernel
theorem dL_plan_9 : decode cL_plan 9 = .ok (.iaload, 1) := by decide +kernel
theorem dL_plan_10 : decode cL_plan 10 = .ok (.if_icmp .ge 34, 3) := by decide +kernel
theorem dL_plan_13 : decode cL_plan 13 = .ok (.aload_n 0, 1) := by decide +kernel
theorem dL_plan_14 : decode cL_plan 14 = .ok (.iconst 3, 1) := by decide +kernel
theorem dL_plan_15 : decode cL_plan 15 = .ok (.iload 4, 2) := by decide +kernel
theorem dL_plan_17 : decode cL_plan 17 = .ok (.imul, 1) := by decide +kernel
theorem dL_plan_18 : decode cL_plan 18 = .ok (.iconst 2, 1) := by decide +kernel
theorem dL_plan_19 : decode cL_plan 19 = .ok (.iadd, 1) := by decide +kernel
theorem dL_plan_20 : decode cL_plan 20 = .ok (.iaload, 1) := by decide +kernel
theorem dL_plan_21 : decode cL_plan 21 = .ok (.ifCond .ne 17, 3) := by decide +kernel
theorem dL_plan_24 : decode cL_plan 24 = .ok (.aload_n 2, 1) := by decide +kernel
theorem dL_plan_25 : decode cL_plan 25 = .ok (.aload_n 0, 1) := by decide +kernel
theorem dL_plan_26 : decode cL_plan 26 = .ok (.aload_n 1, 1) := by decide +kernel
theorem dL_plan_27 : decode cL_plan 27 = .ok (.iload 4, 2) := by decide +kernel
theorem dL_plan_29 : decode cL_plan 29 = .ok (.invokestatic 15, 3) := by decide +kernel
theorem dL_plan_32 : decode cL_plan 32 = .ok (.iload 4, 2) := by decide +kernel
theorem dL_plan_34 : decode cL_plan 34 = .ok (.iastore, 1) := by decide +kernel
theorem dL_plan_35 : decode cL_plan 35 = .ok (.iinc 3 1, 3) := by decide +kernel
theorem dL_plan_38 : decode cL_plan 38 = .ok (.iinc 4 1, 3) := by decide +kernel
theorem dL_plan_41 : decode cL_plan 41 = .ok (.goto (-36), 3) := by decide +kernel
theorem dL_plan_44 : decode cL_plan 44 = .ok (.aload_n 1, 1) := by decide +kernel
theorem dL_plan_45 : decode cL_plan 45 = .ok (.bipush 7, 2) := by decide +kernel
theorem dL_plan_47 : decode cL_plan 47 = .ok (.iaload, 1) := by decide +kernel
theorem dL_plan_48 : decode cL_plan 48 = .ok (.istore 4, 2) := by decide +kernel
theorem dL_plan_50 : decode cL_plan 50 = .ok (.iload_n 3, 1) := by decide +kernel
theorem dL_plan_51 : decode cL_plan 51 = .ok (.iload 4, 2) := by decide +kernel
theorem dL_plan_53 : decode cL_plan 53 = .ok (.idiv, 1) := by decide +kernel
theorem dL_plan_54 : decode cL_plan 54 = .ok (.iload_n 3, 1) := by decide +kernel
theorem dL_plan_55 : decode cL_plan 55 = .ok (.iload 4, 2) := by decide +kernel
theorem dL_plan_57 : decode cL_plan 57 = .ok (.irem, 1) := by decide +kernel
theorem dL_plan_58 : decode cL_plan 58 = .ok (.ifCond .le 7, 3) := by decide +kernel
theorem dL_plan_61 : decode cL_plan 61 = .ok (.iconst 1, 1) := by decide +kernel
theorem dL_plan_62 : decode cL_plan 62 = .ok (.goto 4, 3) := by decide +kernel
theorem dL_plan_65 : decode cL_plan 65 = .ok (.iconst 0, 1) := by decide +kernel
theorem dL_plan_66 : decode cL_plan 66 = .ok (.iadd, 1) := by decide +kernel
theorem dL_plan_67 : decode cL_plan 67 = .ok (.istore 5, 2) := by decide +kernel
theorem dL_plan_69 : decode cL_plan 69 = .ok (.iconst 0, 1) := by decide +kernel
theorem dL_plan_70 : decode cL_plan 70 = .ok (.istore 6, 2) := by decide +kernel
theorem dL_plan_72 : decode cL_plan 72 = .ok (.iconst 0, 1) := by decide +kernel
theorem dL_plan_73 : decode cL_plan 73 = .ok (.istore 7, 2) := by decide +kernel
theorem dL_plan_75 : decode cL_plan 75 = .ok (.iload 7, 2) := by decide +kernel
theorem dL_plan_77 : decode cL_plan 77 = .ok (.iload_n 3, 1) := by decide +kernel
theorem dL_plan_78 : decode cL_plan 78 = .ok (.if_icmp .ge 91, 3) := by decide +kernel
theorem dL_plan_81 : decode cL_plan 81 = .ok (.iload 5, 2) := by decide +kernel
theorem dL_plan_83 : decode cL_plan 83 = .ok (.iconst 2, 1) := by decide +kernel
theorem dL_plan_84 : decode cL_plan 84 = .ok (.if_icmp .ge 7, 3) := by decide +kernel
theorem dL_plan_87 : decode cL_plan 87 = .ok (.iconst 0, 1) := by decide +kernel
theorem dL_plan_88 : decode cL_plan 88 = .ok (.goto 49, 3) := by decide +kernel
theorem dL_plan_91 : decode cL_plan 91 = .ok (.iload 5, 2) := by decide +kernel
theorem dL_plan_93 : decode cL_plan 93 = .ok (.iconst 2, 1) := by decide +kernel
theorem dL_plan_94 : decode cL_plan 94 = .ok (.if_icmp .ne 12, 3) := by decide +kernel
theorem dL_plan_97 : decode cL_plan 97 = .ok (.iconst 1, 1) := by decide +kernel
theorem dL_plan_98 : decode cL_plan 98 = .ok (.iload 7, 2) := by decide +kernel
theorem dL_plan_100 : decode cL_plan 100 = .ok (.iconst 2, 1) := by decide +kernel
theorem dL_plan_101 : decode cL_plan 101 = .ok (.irem, 1) := by decide +kernel
theorem dL_plan_102 : decode cL_plan 102 = .ok (.isub, 1) := by decide +kernel
theorem dL_plan_103 : decode cL_plan 103 = .ok (.goto 34, 3) := by decide +kernel
theorem dL_plan_106 : decode cL_plan 106 = .ok (.iload 7, 2) := by decide +kernel
theorem dL_plan_108 : decode cL_plan 108 = .ok (.iconst 3, 1) := by decide +kernel
theorem dL_plan_109 : decode cL_plan 109 = .ok (.iload 4, 2) := by decide +kernel
theorem dL_plan_111 : decode cL_plan 111 = .ok (.imul, 1) := by decide +kernel
theorem dL_plan_112 : decode cL_plan 112 = .ok (.if_icmp .lt 16, 3) := by decide +kernel
theorem dL_plan_115 : decode cL_plan 115 = .ok (.iload 5, 2) := by decide +kernel
theorem dL_plan_117 : decode cL_plan 117 = .ok (.iconst 1, 1) := by decide +kernel
theorem dL_plan_118 : decode cL_plan 118 = .ok (.isub, 1) := by decide +kernel
theorem dL_plan_119 : decode cL_plan 119 = .ok (.iload 7, 2) := by decide +kernel
theorem dL_plan_121 : decode cL_plan 121 = .ok (.iload 4, 2) := by decide +kernel
theorem dL_plan_123 : decode cL_plan 123 = .ok (.idiv, 1) := by decide +kernel
theorem dL_plan_124 : decode cL_plan 124 = .ok (.isub, 1) := by decide +kernel
theorem dL_plan_125 : decode cL_plan 125 = .ok (.goto 12, 3) := by decide +kernel
theorem dL_plan_128 : decode cL_plan 128 = .ok (.iload 5, 2) := by decide +kernel
theorem dL_plan_130 : decode cL_plan 130 = .ok (.iconst 1, 1) := by decide +kernel
theorem dL_plan_131 : decode cL_plan 131 = .ok (.isub, 1) := by decide +kernel
theorem dL_plan_132 : decode cL_plan 132 = .ok (.iload 7, 2) := by decide +kernel
theorem dL_plan_134 : decode cL_plan 134 = .ok (.iconst 3, 1) := by decide +kernel
theorem dL_plan_135 : decode cL_plan 135 = .ok (.irem, 1) := by decide +kernel
theorem dL_plan_136 : decode cL_plan 136 = .ok (.isub, 1) := by decide +kernel
theorem dL_plan_137 : decode cL_plan 137 = .ok (.istore 8, 2) := by decide +kernel
theorem dL_plan_139 : decode cL_plan 139 = .ok (.aload_n 2, 1) := by decide +kernel
theorem dL_plan_140 : decode cL_plan 140 = .ok (.bipush 20, 2) := by decide +kernel
theorem dL_plan_142 : decode cL_plan 142 = .ok (.iload 7, 2) := by decide +kernel
theorem dL_plan_144 : decode cL_plan 144 = .ok (.iadd, 1) := by decide +kernel
theorem dL_plan_145 : decode cL_plan 145 = .ok (.iload 8, 2) := by decide +kernel
theorem dL_plan_147 : decode cL_plan 147 = .ok (.iastore, 1) := by decide +kernel
theorem dL_plan_148 : decode cL_plan 148 = .ok (.iload 6, 2) := by decide +kernel
theorem dL_plan_150 : decode cL_plan 150 = .ok (.iload 8, 2) := by decide +kernel
theorem dL_plan_152 : decode cL_plan 152 = .ok (.ifCond .ne 7, 3) := by decide +kernel
theorem dL_plan_155 : decode cL_plan 155 = .ok (.iconst 1, 1) := by decide +kernel
theorem dL_plan_156 : decode cL_plan 156 = .ok (.goto 4, 3) := by decide +kernel
theorem dL_plan_159 : decode cL_plan 159 = .ok (.iconst 0, 1) := by decide +kernel
theorem dL_plan_160 : decode cL_plan 160 = .ok (.iadd, 1) := by decide +kernel
theorem dL_plan_161 : decode cL_plan 161 = .ok (.istore 6, 2) := by decide +kernel
theorem dL_plan_163 : decode cL_plan 163 = .ok (.iinc 7 1, 3) := by decide +kernel
theorem dL_plan_166 : decode cL_plan 166 = .ok (.goto (-91), 3) := by decide +kernel
theorem dL_plan_169 : decode cL_plan 169 = .ok (.iload_n 3, 1) := by decide +kernel
theorem dL_plan_170 : decode cL_plan 170 = .ok (.iconst 1, 1) := by decide +kernel
theorem dL_plan_171 : decode cL_plan 171 = .ok (.isub, 1) := by decide +kernel
theorem dL_plan_172 : decode cL_plan 172 = .ok (.istore 7, 2) := by decide +kernel
theorem dL_plan_174 : decode cL_plan 174 = .ok (.iload 7, 2) := by decide +kernel
theorem dL_plan_176 : decode cL_plan 176 = .ok (.ifCond .le 74, 3) := by decide +kernel
theorem dL_plan_179 : decode cL_plan 179 = .ok (.iload 5, 2) := by decide +kernel
theorem dL_plan_181 : decode cL_plan 181 = .ok (.iconst 3, 1) := by decide +kernel
theorem dL_plan_182 : decode cL_plan 182 = .ok (.if_icmp .le 68, 3) := by decide +kernel
theorem dL_plan_185 : decode cL_plan 185 = .ok (.iload 6, 2) := by decide +kernel
theorem dL_plan_187 : decode cL_plan 187 = .ok (.aload_n 1, 1) := by decide +kernel
theorem dL_plan_188 : decode cL_plan 188 = .ok (.bipush 8, 2) := by decide +kernel
theorem dL_plan_190 : decode cL_plan 190 = .ok (.iaload, 1) := by decide +kernel
theorem dL_plan_191 : decode cL_plan 191 = .ok (.if_icmp .ge 59, 3) := by decide +kernel
theorem dL_plan_194 : decode cL_plan 194 = .ok (.iload 6, 2) := by decide +kernel
theorem dL_plan_196 : decode cL_plan 196 = .ok (.aload_n 2, 1) := by decide +kernel
theorem dL_plan_197 : decode cL_plan 197 = .ok (.bipush 20, 2) := by decide +kernel
theorem dL_plan_199 : decode cL_plan 199 = .ok (.iload 7, 2) := by decide +kernel
theorem dL_plan_201 : decode cL_plan 201 = .ok (.iadd, 1) := by decide +kernel
theorem dL_plan_202 : decode cL_plan 202 = .ok (.iaload, 1) := by decide +kernel
theorem dL_plan_203 : decode cL_plan 203 = .ok (.iconst 1, 1) := by decide +kernel
theorem dL_plan_204 : decode cL_plan 204 = .ok (.if_icmp .ne 7, 3) := by decide +kernel
theorem dL_plan_207 : decode cL_plan 207 = .ok (.iconst 1, 1) := by decide +kernel
theorem dL_plan_208 : decode cL_plan 208 = .ok (.goto 4, 3) := by decide +kernel
theorem dL_plan_211 : decode cL_plan 211 = .ok (.iconst 0, 1) := by decide +kernel
theorem dL_plan_212 : decode cL_plan 212 = .ok (.iadd, 1) := by decide +kernel
theorem dL_plan_213 : decode cL_plan 213 = .ok (.istore 6, 2) := by decide +kernel
theorem dL_plan_215 : decode cL_plan 215 = .ok (.aload_n 2, 1) := by decide +kernel
theorem dL_plan_216 : decode cL_plan 216 = .ok (.bipush 20, 2) := by decide +kernel
theorem dL_plan_218 : decode cL_plan 218 = .ok (.iload 7, 2) := by decide +kernel
theorem dL_plan_220 : decode cL_plan 220 = .ok (.iadd, 1) := by decide +kernel
theorem dL_plan_221 : decode cL_plan 221 = .ok (.aload_n 2, 1) := by decide +kernel
theorem dL_plan_222 : decode cL_plan 222 = .ok (.bipush 20, 2) := by decide +kernel
theorem dL_plan_224 : decode cL_plan 224 = .ok (.iload 7, 2) := by decide +kernel
theorem dL_plan_226 : decode cL_plan 226 = .ok (.iadd, 1) := by decide +kernel
theorem dL_plan_227 : decode cL_plan 227 = .ok (.iaload, 1) := by decide +kernel
theorem dL_plan_228 : decode cL_plan 228 = .ok (.iconst 1, 1) := by decide +kernel
theorem dL_plan_229 : decode cL_plan 229 = .ok (.if_icmp .ne 7, 3) := by decide +kernel
theorem dL_plan_232 : decode cL_plan 232 = .ok (.iconst 0, 1) := by decide +kernel
theorem dL_plan_233 : decode cL_plan 233 = .ok (.goto 10, 3) := by decide +kernel
theorem dL_plan_236 : decode cL_plan 236 = .ok (.aload_n 2, 1) := by decide +kernel
theorem dL_plan_237 : decode cL_plan 237 = .ok (.bipush 20, 2) := by decide +kernel
theorem dL_plan_239 : decode cL_plan 239 = .ok (.iload 7, 2) := by decide +kernel
theorem dL_plan_241 : decode cL_plan 241 = .ok (.iadd, 1) := by decide +kernel
theorem dL_plan_242 : decode cL_plan 242 = .ok (.iaload, 1) := by decide +kernel
theorem dL_plan_243 : decode cL_plan 243 = .ok (.iastore, 1) := by decide +kernel
theorem dL_plan_244 : decode cL_plan 244 = .ok (.iinc 7 (-1), 3) := by decide +kernel
theorem dL_plan_247 : decode cL_plan 247 = .ok (.goto (-73), 3) := by decide +kernel
theorem dL_plan_250 : decode cL_plan 250 = .ok (.iload 5, 2) := by decide +kernel
theorem dL_plan_252 : decode cL_plan 252 = .ok (.ireturn, 1) := by decide +kernel
theorem dL_planLane_0 : decode cL_planLane 0 = .ok (.iconst 0, 1) := by decide +kernel
theorem dL_planLane_1 : decode cL_planLane 1 = .ok (.istore_n 3, 1) := by decide +kernel
theorem dL_planLane_2 : decode cL_planLane 2 = .ok (.iconst 0, 1) := by decide +kernel
theorem dL_planLane_3 : decode cL_planLane 3 = .ok (.istore 4, 2) := by decide +kernel
theorem dL_planLane_5 : decode cL_planLane 5 = .ok (.iload 4, 2) := by decide +kernel
theorem dL_planLane_7 : decode cL_planLane 7 = .ok (.iload_n 2, 1) := by decide +kernel
theorem dL_planLane_8 : decode cL_planLane 8 = .ok (.if_icmp .ge 33, 3) := by decide +kernel
theorem dL_planLane_11 : decode cL_planLane 11 = .ok (.iload_n 3, 1) := by decide +kernel
theorem dL_planLane_12 : decode cL_planLane 12 = .ok (.aload_n 1, 1) := by decide +kernel
theorem dL_planLane_13 : decode cL_planLane 13 = .ok (.bipush 20, 2) := by decide +kernel
theorem dL_planLane_15 : decode cL_planLane 15 = .ok (.iload 4, 2) := by decide +kernel
theorem dL_planLane_17 : decode cL_planLane 17 = .ok (.iadd, 1) := by decide +kernel
theorem dL_planLane_18 : decode cL_planLane 18 = .ok (.iaload, 1) := by decide +kernel
theorem dL_planLane_19 : decode cL_planLane 19 = .ok (.aload_n 1, 1) := by decide +kernel
theorem dL_planLane_20 : decode cL_planLane 20 = .ok (.bipush 20, 2) := by decide +kernel
theorem dL_planLane_22 : decode cL_planLane 22 = .ok (.iload_n 2, 1) := by decide +kernel
theorem dL_planLane_23 : decode cL_planLane 23 = .ok (.iadd, 1) := by decide +kernel
theorem dL_planLane_24 : decode cL_planLane 24 = .ok (.iaload, 1) := by decide +kernel
theorem dL_planLane_25 : decode cL_planLane 25 = .ok (.if_icmp .ne 7, 3) := by decide +kernel
theorem dL_planLane_28 : decode cL_planLane 28 = .ok (.iconst 1, 1) := by decide +kernel
theorem dL_planLane_29 : decode cL_planLane 29 = .ok (.goto 4, 3) := by decide +kernel
theorem dL_planLane_32 : decode cL_planLane 32 = .ok (.iconst 0, 1) := by decide +kernel
theorem dL_planLane_33 : decode cL_planLane 33 = .ok (.iadd, 1) := by decide +kernel
theorem dL_planLane_34 : decode cL_planLane 34 = .ok (.istore_n 3, 1) := by decide +kernel
theorem dL_planLane_35 : decode cL_planLane 35 = .ok (.iinc 4 1, 3) := by decide +kernel
theorem dL_planLane_38 : decode cL_planLane 38 = .ok (.goto (-33), 3) := by decide +kernel
theorem dL_planLane_41 : decode cL_planLane 41 = .ok (.aload_n 0, 1) := by decide +kernel
theorem dL_planLane_42 : decode cL_planLane 42 = .ok (.bipush 7, 2) := by decide +kernel
theorem dL_planLane_44 : decode cL_planLane 44 = .ok (.iaload, 1) := by decide +kernel
theorem dL_planLane_45 : decode cL_planLane 45 = .ok (.iload_n 3, 1) := by decide +kernel
theorem dL_planLane_46 : decode cL_planLane 46 = .ok (.invokestatic 19, 3) := by decide +kernel
theorem dL_planLane_49 : decode cL_planLane 49 = .ok (.ireturn, 1) := by decide +kernel
theorem dL_isAsked_0 : decode cL_isAsked 0 = .ok (.aload_n 0, 1) := by decide +kernel
theorem dL_isAsked_1 : decode cL_isAsked 1 = .ok (.iconst 3, 1) := by decide +kernel
theorem dL_isAsked_2 : decode cL_isAsked 2 = .ok (.iload 4, 2) := by decide +kernel
theorem dL_isAsked_4 : decode cL_isAsked 4 = .ok (.imul, 1) := by decide +kernel
theorem dL_isAsked_5 : decode cL_isAsked 5 = .ok (.iconst 2, 1) := by decide +kernel
theorem dL_isAsked_6 : decode cL_isAsked 6 = .ok (.iadd, 1) := by decide +kernel
theorem dL_isAsked_7 : decode cL_isAsked 7 = .ok (.iaload, 1) := by decide +kernel
theorem dL_isAsked_8 : decode cL_isAsked 8 = .ok (.ifCond .ne 39, 3) := by decide +kernel
theorem dL_isAsked_11 : decode cL_isAsked 11 = .ok (.aload_n 3, 1) := by decide +kernel
theorem dL_isAsked_12 : decode cL_isAsked 12 = .ok (.iconst 0, 1) := by decide +kernel
theorem dL_isAsked_13 : decode cL_isAsked 13 = .ok (.iaload, 1) := by decide +kernel
theorem dL_isAsked_14 : decode cL_isAsked 14 = .ok (.iconst 1, 1) := by decide +kernel
theorem dL_isAsked_15 : decode cL_isAsked 15 = .ok (.if_icmp .ne 12, 3) := by decide +kernel
theorem dL_isAsked_18 : decode cL_isAsked 18 = .ok (.aload_n 1, 1) := by decide +kernel
theorem dL_isAsked_19 : decode cL_isAsked 19 = .ok (.iconst 3, 1) := by decide +kernel
theorem dL_isAsked_20 : decode cL_isAsked 20 = .ok (.iload 4, 2) := by decide +kernel
theorem dL_isAsked_22 : decode cL_isAsked 22 = .ok (.imul, 1) := by decide +kernel
theorem dL_isAsked_23 : decode cL_isAsked 23 = .ok (.iaload, 1) := by decide +kernel
theorem dL_isAsked_24 : decode cL_isAsked 24 = .ok (.ifCond .gt 19, 3) := by decide +kernel
theorem dL_isAsked_27 : decode cL_isAsked 27 = .ok (.aload_n 3, 1) := by decide +kernel
theorem dL_isAsked_28 : decode cL_isAsked 28 = .ok (.iconst 0, 1) := by decide +kernel
theorem dL_isAsked_29 : decode cL_isAsked 29 = .ok (.iaload, 1) := by decide +kernel
theorem dL_isAsked_30 : decode cL_isAsked 30 = .ok (.iconst 2, 1) := by decide +kernel
theorem dL_isAsked_31 : decode cL_isAsked 31 = .ok (.if_icmp .ne 16, 3) := by decide +kernel
theorem dL_isAsked_34 : decode cL_isAsked 34 = .ok (.aload_n 2, 1) := by decide +kernel
theorem dL_isAsked_35 : decode cL_isAsked 35 = .ok (.iconst 3, 1) := by decide +kernel
theorem dL_isAsked_36 : decode cL_isAsked 36 = .ok (.iload 4, 2) := by decide +kernel
theorem dL_isAsked_38 : decode cL_isAsked 38 = .ok (.imul, 1) := by decide +kernel
theorem dL_isAsked_39 : decode cL_isAsked 39 = .ok (.iaload, 1) := by decide +kernel
theorem dL_isAsked_40 : decode cL_isAsked 40 = .ok (.ifCond .le 7, 3) := by decide +kernel
theorem dL_isAsked_43 : decode cL_isAsked 43 = .ok (.iconst 1, 1) := by decide +kernel
theorem dL_isAsked_44 : decode cL_isAsked 44 = .ok (.goto 4, 3) := by decide +kernel
theorem dL_isAsked_47 : decode cL_isAsked 47 = .ok (.iconst 0, 1) := by decide +kernel
theorem dL_isAsked_48 : decode cL_isAsked 48 = .ok (.ireturn, 1) := by decide +kernel
theorem dL_time_0 : decode cL_time 0 = .ok (.aload_n 2, 1) := by decide +kernel
theorem dL_time_1 : decode cL_time 1 = .ok (.iconst 0, 1) := by decide +kernel
theorem dL_time_2 : decode cL_time 2 = .ok (.iaload, 1) := by decide +kernel
theorem dL_time_3 : decode cL_time 3 = .ok (.iconst 1, 1) := by decide +kernel
theorem dL_time_4 : decode cL_time 4 = .ok (.if_icmp .ne 13, 3) := by decide +kernel
theorem dL_time_7 : decode cL_time 7 = .ok (.aload_n 0, 1) := by decide +kernel
theorem dL_time_8 : decode cL_time 8 = .ok (.iconst 3, 1) := by decide +kernel
theorem dL_time_9 : decode cL_time 9 = .ok (.iload_n 3, 1) := by decide +kernel
theorem dL_time_10 : decode cL_time 10 = .ok (.imul, 1) := by decide +kernel
theorem dL_time_11 : decode cL_time 11 = .ok (.iconst 2, 1) := by decide +kernel
theorem dL_time_12 : decode cL_time 12 = .ok (.iadd, 1) := by decide +kernel
theorem dL_time_13 : decode cL_time 13 = .ok (.iaload, 1) := by decide +kernel
theorem dL_time_14 : decode cL_time 14 = .ok (.goto 10, 3) := by decide +kernel
theorem dL_time_17 : decode cL_time 17 = .ok (.aload_n 1, 1) := by decide +kernel
theorem dL_time_18 : decode cL_time 18 = .ok (.iconst 3, 1) := by decide +kernel
theorem dL_time_19 : decode cL_time 19 = .ok (.iload_n 3, 1) := by decide +kernel
theorem dL_time_20 : decode cL_time 20 = .ok (.imul, 1) := by decide +kernel
theorem dL_time_21 : decode cL_time 21 = .ok (.iconst 1, 1) := by decide +kernel
theorem dL_time_22 : decode cL_time 22 = .ok (.iadd, 1) := by decide +kernel
theorem dL_time_23 : decode cL_time 23 = .ok (.iaload, 1) := by decide +kernel
theorem dL_time_24 : decode cL_time 24 = .ok (.ireturn, 1) := by decide +kernel
theorem dL_why_0 : decode cL_why 0 = .ok (.iconst 0, 1) := by decide +kernel
theorem dL_why_1 : decode cL_why 1 = .ok (.istore 4, 2) := by decide +kernel
theorem dL_why_3 : decode cL_why 3 = .ok (.iconst 0, 1) := by decide +kernel
theorem dL_why_4 : decode cL_why 4 = .ok (.istore 5, 2) := by decide +kernel
theorem dL_why_6 : decode cL_why 6 = .ok (.iconst 0, 1) := by decide +kernel
theorem dL_why_7 : decode cL_why 7 = .ok (.istore 6, 2) := by decide +kernel
theorem dL_why_9 : decode cL_why 9 = .ok (.iconst 0, 1) := by decide +kernel
theorem dL_why_10 : decode cL_why 10 = .ok (.istore 7, 2) := by decide +kernel
theorem dL_why_12 : decode cL_why 12 = .ok (.iload 7, 2) := by decide +kernel
theorem dL_why_14 : decode cL_why 14 = .ok (.aload_n 3, 1) := by decide +kernel
theorem dL_why_15 : decode cL_why 15 = .ok (.iconst 1, 1) := by decide +kernel
theorem dL_why_16 : decode cL_why 16 = .ok (.iaload, 1) := by decide +kernel
theorem dL_why_17 : decode cL_why 17 = .ok (.if_icmp .ge 79, 3) := by decide +kernel
theorem dL_why_20 : decode cL_why 20 = .ok (.iload 4, 2) := by decide +kernel
theorem dL_why_22 : decode cL_why 22 = .ok (.iconst 1, 1) := by decide +kernel
theorem dL_why_23 : decode cL_why 23 = .ok (.aload_n 0, 1) := by decide +kernel
theorem dL_why_24 : decode cL_why 24 = .ok (.iconst 3, 1) := by decide +kernel
theorem dL_why_25 : decode cL_why 25 = .ok (.iload 7, 2) := by decide +kernel
theorem dL_why_27 : decode cL_why 27 = .ok (.imul, 1) := by decide +kernel
theorem dL_why_28 : decode cL_why 28 = .ok (.iconst 2, 1) := by decide +kernel
theorem dL_why_29 : decode cL_why 29 = .ok (.iadd, 1) := by decide +kernel
theorem dL_why_30 : decode cL_why 30 = .ok (.iaload, 1) := by decide +kernel
theorem dL_why_31 : decode cL_why 31 = .ok (.isub, 1) := by decide +kernel
theorem dL_why_32 : decode cL_why 32 = .ok (.iadd, 1) := by decide +kernel
theorem dL_why_33 : decode cL_why 33 = .ok (.istore 4, 2) := by decide +kernel
theorem dL_why_35 : decode cL_why 35 = .ok (.iload 5, 2) := by decide +kernel
theorem dL_why_37 : decode cL_why 37 = .ok (.aload_n 0, 1) := by decide +kernel
theorem dL_why_38 : decode cL_why 38 = .ok (.aload_n 1, 1) := by decide +kernel
theorem dL_why_39 : decode cL_why 39 = .ok (.aload_n 2, 1) := by decide +kernel
theorem dL_why_40 : decode cL_why 40 = .ok (.aload_n 3, 1) := by decide +kernel
theorem dL_why_41 : decode cL_why 41 = .ok (.iload 7, 2) := by decide +kernel
theorem dL_why_43 : decode cL_why 43 = .ok (.invokestatic 23, 3) := by decide +kernel
theorem dL_why_46 : decode cL_why 46 = .ok (.ifCond .eq 18, 3) := by decide +kernel
theorem dL_why_49 : decode cL_why 49 = .ok (.aload_n 1, 1) := by decide +kernel
theorem dL_why_50 : decode cL_why 50 = .ok (.aload_n 2, 1) := by decide +kernel
theorem dL_why_51 : decode cL_why 51 = .ok (.aload_n 3, 1) := by decide +kernel
theorem dL_why_52 : decode cL_why 52 = .ok (.iload 7, 2) := by decide +kernel
theorem dL_why_54 : decode cL_why 54 = .ok (.invokestatic 27, 3) := by decide +kernel
theorem dL_why_57 : decode cL_why 57 = .ok (.ifCond .ne 7, 3) := by decide +kernel
theorem dL_why_60 : decode cL_why 60 = .ok (.iconst 1, 1) := by decide +kernel
theorem dL_why_61 : decode cL_why 61 = .ok (.goto 4, 3) := by decide +kernel
theorem dL_why_64 : decode cL_why 64 = .ok (.iconst 0, 1) := by decide +kernel
theorem dL_why_65 : decode cL_why 65 = .ok (.iadd, 1) := by decide +kernel
theorem dL_why_66 : decode cL_why 66 = .ok (.istore 5, 2) := by decide +kernel
theorem dL_why_68 : decode cL_why 68 = .ok (.iload 6, 2) := by decide +kernel
theorem dL_why_70 : decode cL_why 70 = .ok (.aload_n 1, 1) := by decide +kernel
theorem dL_why_71 : decode cL_why 71 = .ok (.iconst 3, 1) := by decide +kernel
theorem dL_why_72 : decode cL_why 72 = .ok (.iload 7, 2) := by decide +kernel
theorem dL_why_74 : decode cL_why 74 = .ok (.imul, 1) := by decide +kernel
theorem dL_why_75 : decode cL_why 75 = .ok (.iconst 2, 1) := by decide +kernel
theorem dL_why_76 : decode cL_why 76 = .ok (.iadd, 1) := by decide +kernel
theorem dL_why_77 : decode cL_why 77 = .ok (.iaload, 1) := by decide +kernel
theorem dL_why_78 : decode cL_why 78 = .ok (.iconst 1, 1) := by decide +kernel
theorem dL_why_79 : decode cL_why 79 = .ok (.if_icmp .le 7, 3) := by decide +kernel
theorem dL_why_82 : decode cL_why 82 = .ok (.iconst 1, 1) := by decide +kernel
theorem dL_why_83 : decode cL_why 83 = .ok (.goto 4, 3) := by decide +kernel
theorem dL_why_86 : decode cL_why 86 = .ok (.iconst 0, 1) := by decide +kernel
theorem dL_why_87 : decode cL_why 87 = .ok (.iadd, 1) := by decide +kernel
theorem dL_why_88 : decode cL_why 88 = .ok (.istore 6, 2) := by decide +kernel
theorem dL_why_90 : decode cL_why 90 = .ok (.iinc 7 1, 3) := by decide +kernel
theorem dL_why_93 : decode cL_why 93 = .ok (.goto (-81), 3) := by decide +kernel
theorem dL_why_96 : decode cL_why 96 = .ok (.aload_n 3, 1) := by decide +kernel
theorem dL_why_97 : decode cL_why 97 = .ok (.iconst 0, 1) := by decide +kernel
theorem dL_why_98 : decode cL_why 98 = .ok (.iaload, 1) := by decide +kernel
theorem dL_why_99 : decode cL_why 99 = .ok (.ifCond .ne 16, 3) := by decide +kernel
theorem dL_why_102 : decode cL_why 102 = .ok (.iload 4, 2) := by decide +kernel
theorem dL_why_104 : decode cL_why 104 = .ok (.ifCond .le 7, 3) := by decide +kernel
theorem dL_why_107 : decode cL_why 107 = .ok (.iconst 0, 1) := by decide +kernel
theorem dL_why_108 : decode cL_why 108 = .ok (.goto 44, 3) := by decide +kernel
theorem dL_why_111 : decode cL_why 111 = .ok (.iconst 1, 1) := by decide +kernel
theorem dL_why_112 : decode cL_why 112 = .ok (.goto 40, 3) := by decide +kernel
theorem dL_why_115 : decode cL_why 115 = .ok (.aload_n 3, 1) := by decide +kernel
theorem dL_why_116 : decode cL_why 116 = .ok (.iconst 0, 1) := by decide +kernel
theorem dL_why_117 : decode cL_why 117 = .ok (.iaload, 1) := by decide +kernel
theorem dL_why_118 : decode cL_why 118 = .ok (.iconst 3, 1) := by decide +kernel
theorem dL_why_119 : decode cL_why 119 = .ok (.if_icmp .ne 7, 3) := by decide +kernel
theorem dL_why_122 : decode cL_why 122 = .ok (.iconst 0, 1) := by decide +kernel
theorem dL_why_123 : decode cL_why 123 = .ok (.goto 29, 3) := by decide +kernel
theorem dL_why_126 : decode cL_why 126 = .ok (.iload 5, 2) := by decide +kernel
theorem dL_why_128 : decode cL_why 128 = .ok (.ifCond .le 7, 3) := by decide +kernel
theorem dL_why_131 : decode cL_why 131 = .ok (.iconst 2, 1) := by decide +kernel
theorem dL_why_132 : decode cL_why 132 = .ok (.goto 20, 3) := by decide +kernel
theorem dL_why_135 : decode cL_why 135 = .ok (.aload_n 3, 1) := by decide +kernel
theorem dL_why_136 : decode cL_why 136 = .ok (.iconst 0, 1) := by decide +kernel
theorem dL_why_137 : decode cL_why 137 = .ok (.iaload, 1) := by decide +kernel
theorem dL_why_138 : decode cL_why 138 = .ok (.iconst 1, 1) := by decide +kernel
theorem dL_why_139 : decode cL_why 139 = .ok (.if_icmp .ne 12, 3) := by decide +kernel
theorem dL_why_142 : decode cL_why 142 = .ok (.iload 6, 2) := by decide +kernel
theorem dL_why_144 : decode cL_why 144 = .ok (.ifCond .ne 7, 3) := by decide +kernel
theorem dL_why_147 : decode cL_why 147 = .ok (.iconst 1, 1) := by decide +kernel
theorem dL_why_148 : decode cL_why 148 = .ok (.goto 4, 3) := by decide +kernel
theorem dL_why_151 : decode cL_why 151 = .ok (.iconst 0, 1) := by decide +kernel
theorem dL_why_152 : decode cL_why 152 = .ok (.ireturn, 1) := by decide +kernel
theorem dL_scratch_0 : decode cL_scratch 0 = .ok (.aload_n 0, 1) := by decide +kernel
theorem dL_scratch_1 : decode cL_scratch 1 = .ok (.iconst 3, 1) := by decide +kernel
theorem dL_scratch_2 : decode cL_scratch 2 = .ok (.iload 5, 2) := by decide +kernel
theorem dL_scratch_4 : decode cL_scratch 4 = .ok (.imul, 1) := by decide +kernel
theorem dL_scratch_5 : decode cL_scratch 5 = .ok (.iconst 2, 1) := by decide +kernel
theorem dL_scratch_6 : decode cL_scratch 6 = .ok (.iadd, 1) := by decide +kernel
theorem dL_scratch_7 : decode cL_scratch 7 = .ok (.iconst 1, 1) := by decide +kernel
theorem dL_scratch_8 : decode cL_scratch 8 = .ok (.iastore, 1) := by decide +kernel
theorem dL_scratch_9 : decode cL_scratch 9 = .ok (.aload 4, 2) := by decide +kernel
theorem dL_scratch_11 : decode cL_scratch 11 = .ok (.iconst 0, 1) := by decide +kernel
theorem dL_scratch_12 : decode cL_scratch 12 = .ok (.iaload, 1) := by decide +kernel
theorem dL_scratch_13 : decode cL_scratch 13 = .ok (.iconst 1, 1) := by decide +kernel
theorem dL_scratch_14 : decode cL_scratch 14 = .ok (.if_icmp .ne 28, 3) := by decide +kernel
theorem dL_scratch_17 : decode cL_scratch 17 = .ok (.aload_n 1, 1) := by decide +kernel
theorem dL_scratch_18 : decode cL_scratch 18 = .ok (.iconst 3, 1) := by decide +kernel
theorem dL_scratch_19 : decode cL_scratch 19 = .ok (.iload 5, 2) := by decide +kernel
theorem dL_scratch_21 : decode cL_scratch 21 = .ok (.imul, 1) := by decide +kernel
theorem dL_scratch_22 : decode cL_scratch 22 = .ok (.iconst 0, 1) := by decide +kernel
theorem dL_scratch_23 : decode cL_scratch 23 = .ok (.iastore, 1) := by decide +kernel
theorem dL_scratch_24 : decode cL_scratch 24 = .ok (.aload_n 1, 1) := by decide +kernel
theorem dL_scratch_25 : decode cL_scratch 25 = .ok (.iconst 3, 1) := by decide +kernel
theorem dL_scratch_26 : decode cL_scratch 26 = .ok (.iload 5, 2) := by decide +kernel
theorem dL_scratch_28 : decode cL_scratch 28 = .ok (.imul, 1) := by decide +kernel
theorem dL_scratch_29 : decode cL_scratch 29 = .ok (.iconst 1, 1) := by decide +kernel
theorem dL_scratch_30 : decode cL_scratch 30 = .ok (.iadd, 1) := by decide +kernel
theorem dL_scratch_31 : decode cL_scratch 31 = .ok (.iconst 0, 1) := by decide +kernel
theorem dL_scratch_32 : decode cL_scratch 32 = .ok (.iastore, 1) := by decide +kernel
theorem dL_scratch_33 : decode cL_scratch 33 = .ok (.aload_n 1, 1) := by decide +kernel
theorem dL_scratch_34 : decode cL_scratch 34 = .ok (.iconst 3, 1) := by decide +kernel
theorem dL_scratch_35 : decode cL_scratch 35 = .ok (.iload 5, 2) := by decide +kernel
theorem dL_scratch_37 : decode cL_scratch 37 = .ok (.imul, 1) := by decide +kernel
theorem dL_scratch_38 : decode cL_scratch 38 = .ok (.iconst 2, 1) := by decide +kernel
theorem dL_scratch_39 : decode cL_scratch 39 = .ok (.iadd, 1) := by decide +kernel
theorem dL_scratch_40 : decode cL_scratch 40 = .ok (.iconst 0, 1) := by decide +kernel
theorem dL_scratch_41 : decode cL_scratch 41 = .ok (.iastore, 1) := by decide +kernel
theorem dL_scratch_42 : decode cL_scratch 42 = .ok (.aload_n 2, 1) := by decide +kernel
theorem dL_scratch_43 : decode cL_scratch 43 = .ok (.iconst 3, 1) := by decide +kernel
theorem dL_scratch_44 : decode cL_scratch 44 = .ok (.iload 5, 2) := by decide +kernel
theorem dL_scratch_46 : decode cL_scratch 46 = .ok (.imul, 1) := by decide +kernel
theorem dL_scratch_47 : decode cL_scratch 47 = .ok (.iaload, 1) := by decide +kernel
theorem dL_scratch_48 : decode cL_scratch 48 = .ok (.istore 6, 2) := by decide +kernel
theorem dL_scratch_50 : decode cL_scratch 50 = .ok (.aload_n 2, 1) := by decide +kernel
theorem dL_scratch_51 : decode cL_scratch 51 = .ok (.iconst 3, 1) := by decide +kernel
theorem dL_scratch_52 : decode cL_scratch 52 = .ok (.iload 5, 2) := by decide +kernel
theorem dL_scratch_54 : decode cL_scratch 54 = .ok (.imul, 1) := by decide +kernel
theorem dL_scratch_55 : decode cL_scratch 55 = .ok (.iconst 0, 1) := by decide +kernel
theorem dL_scratch_56 : decode cL_scratch 56 = .ok (.iastore, 1) := by decide +kernel
theorem dL_scratch_57 : decode cL_scratch 57 = .ok (.aload_n 2, 1) := by decide +kernel
theorem dL_scratch_58 : decode cL_scratch 58 = .ok (.iconst 3, 1) := by decide +kernel
theorem dL_scratch_59 : decode cL_scratch 59 = .ok (.iload 5, 2) := by decide +kernel
theorem dL_scratch_61 : decode cL_scratch 61 = .ok (.imul, 1) := by decide +kernel
theorem dL_scratch_62 : decode cL_scratch 62 = .ok (.iconst 1, 1) := by decide +kernel
theorem dL_scratch_63 : decode cL_scratch 63 = .ok (.iadd, 1) := by decide +kernel
theorem dL_scratch_64 : decode cL_scratch 64 = .ok (.iconst 0, 1) := by decide +kernel
theorem dL_scratch_65 : decode cL_scratch 65 = .ok (.iastore, 1) := by decide +kernel
theorem dL_scratch_66 : decode cL_scratch 66 = .ok (.iconst 0, 1) := by decide +kernel
theorem dL_scratch_67 : decode cL_scratch 67 = .ok (.istore 7, 2) := by decide +kernel
theorem dL_scratch_69 : decode cL_scratch 69 = .ok (.iload 7, 2) := by decide +kernel
theorem dL_scratch_71 : decode cL_scratch 71 = .ok (.iconst 4, 1) := by decide +kernel
theorem dL_scratch_72 : decode cL_scratch 72 = .ok (.if_icmp .ge 67, 3) := by decide +kernel
theorem dL_scratch_75 : decode cL_scratch 75 = .ok (.iload 6, 2) := by decide +kernel
theorem dL_scratch_77 : decode cL_scratch 77 = .ok (.ifCond .le 62, 3) := by decide +kernel
theorem dL_scratch_80 : decode cL_scratch 80 = .ok (.aload_n 3, 1) := by decide +kernel
theorem dL_scratch_81 : decode cL_scratch 81 = .ok (.iload 7, 2) := by decide +kernel
theorem dL_scratch_83 : decode cL_scratch 83 = .ok (.iaload, 1) := by decide +kernel
theorem dL_scratch_84 : decode cL_scratch 84 = .ok (.ifCond .le 49, 3) := by decide +kernel
theorem dL_scratch_87 : decode cL_scratch 87 = .ok (.aload_n 0, 1) := by decide +kernel
theorem dL_scratch_88 : decode cL_scratch 88 = .ok (.iconst 3, 1) := by decide +kernel
theorem dL_scratch_89 : decode cL_scratch 89 = .ok (.aload_n 3, 1) := by decide +kernel
theorem dL_scratch_90 : decode cL_scratch 90 = .ok (.iload 7, 2) := by decide +kernel
theorem dL_scratch_92 : decode cL_scratch 92 = .ok (.iaload, 1) := by decide +kernel
theorem dL_scratch_93 : decode cL_scratch 93 = .ok (.imul, 1) := by decide +kernel
theorem dL_scratch_94 : decode cL_scratch 94 = .ok (.iconst 1, 1) := by decide +kernel
theorem dL_scratch_95 : decode cL_scratch 95 = .ok (.isub, 1) := by decide +kernel
theorem dL_scratch_96 : decode cL_scratch 96 = .ok (.iaload, 1) := by decide +kernel
theorem dL_scratch_97 : decode cL_scratch 97 = .ok (.ifCond .ne 36, 3) := by decide +kernel
theorem dL_scratch_100 : decode cL_scratch 100 = .ok (.aload_n 3, 1) := by decide +kernel
theorem dL_scratch_101 : decode cL_scratch 101 = .ok (.iload 7, 2) := by decide +kernel
theorem dL_scratch_103 : decode cL_scratch 103 = .ok (.iaload, 1) := by decide +kernel
theorem dL_scratch_104 : decode cL_scratch 104 = .ok (.iconst 1, 1) := by decide +kernel
theorem dL_scratch_105 : decode cL_scratch 105 = .ok (.isub, 1) := by decide +kernel
theorem dL_scratch_106 : decode cL_scratch 106 = .ok (.istore 8, 2) := by decide +kernel
theorem dL_scratch_108 : decode cL_scratch 108 = .ok (.aload_n 3, 1) := by decide +kernel
theorem dL_scratch_109 : decode cL_scratch 109 = .ok (.iload 7, 2) := by decide +kernel
theorem dL_scratch_111 : decode cL_scratch 111 = .ok (.iconst 0, 1) := by decide +kernel
theorem dL_scratch_112 : decode cL_scratch 112 = .ok (.iastore, 1) := by decide +kernel
theorem dL_scratch_113 : decode cL_scratch 113 = .ok (.aload_n 2, 1) := by decide +kernel
theorem dL_scratch_114 : decode cL_scratch 114 = .ok (.iconst 3, 1) := by decide +kernel
theorem dL_scratch_115 : decode cL_scratch 115 = .ok (.iload 8, 2) := by decide +kernel
theorem dL_scratch_117 : decode cL_scratch 117 = .ok (.imul, 1) := by decide +kernel
theorem dL_scratch_118 : decode cL_scratch 118 = .ok (.iload 6, 2) := by decide +kernel
theorem dL_scratch_120 : decode cL_scratch 120 = .ok (.iastore, 1) := by decide +kernel
theorem dL_scratch_121 : decode cL_scratch 121 = .ok (.aload 4, 2) := by decide +kernel
theorem dL_scratch_123 : decode cL_scratch 123 = .ok (.bipush 6, 2) := by decide +kernel
theorem dL_scratch_125 : decode cL_scratch 125 = .ok (.dup2, 1) := by decide +kernel
theorem dL_scratch_126 : decode cL_scratch 126 = .ok (.iaload, 1) := by decide +kernel
theorem dL_scratch_127 : decode cL_scratch 127 = .ok (.iconst 1, 1) := by decide +kernel
theorem dL_scratch_128 : decode cL_scratch 128 = .ok (.iadd, 1) := by decide +kernel
theorem dL_scratch_129 : decode cL_scratch 129 = .ok (.iastore, 1) := by decide +kernel
theorem dL_scratch_130 : decode cL_scratch 130 = .ok (.iload 8, 2) := by decide +kernel
theorem dL_scratch_132 : decode cL_scratch 132 = .ok (.ireturn, 1) := by decide +kernel
theorem dL_scratch_133 : decode cL_scratch 133 = .ok (.iinc 7 1, 3) := by decide +kernel
theorem dL_scratch_136 : decode cL_scratch 136 = .ok (.goto (-67), 3) := by decide +kernel
theorem dL_scratch_139 : decode cL_scratch 139 = .ok (.bipush 100, 2) := by decide +kernel
theorem dL_scratch_141 : decode cL_scratch 141 = .ok (.ireturn, 1) := by decide +kernel
theorem dL_finals_0 : decode cL_finals 0 = .ok (.iconst 0, 1) := by decide +kernel
theorem dL_finals_1 : decode cL_finals 1 = .ok (.istore 5, 2) := by decide +kernel
theorem dL_finals_3 : decode cL_finals 3 = .ok (.iconst 0, 1) := by decide +kernel
theorem dL_finals_4 : decode cL_finals 4 = .ok (.istore 6, 2) := by decide +kernel
theorem dL_finals_6 : decode cL_finals 6 = .ok (.iload 6, 2) := by decide +kernel
theorem dL_finals_8 : decode cL_finals 8 = .ok (.aload 4, 2) := by decide +kernel
theorem dL_finals_10 : decode cL_finals 10 = .ok (.iconst 1, 1) := by decide +kernel
theorem dL_finals_11 : decode cL_finals 11 = .ok (.iaload, 1) := by decide +kernel
theorem dL_finals_12 : decode cL_finals 12 = .ok (.if_icmp .ge 125, 3) := by decide +kernel
theorem dL_finals_15 : decode cL_finals 15 = .ok (.aload_n 1, 1) := by decide +kernel
theorem dL_finals_16 : decode cL_finals 16 = .ok (.iconst 3, 1) := by decide +kernel
theorem dL_finals_17 : decode cL_finals 17 = .ok (.iload 6, 2) := by decide +kernel
theorem dL_finals_19 : decode cL_finals 19 = .ok (.imul, 1) := by decide +kernel
theorem dL_finals_20 : decode cL_finals 20 = .ok (.iconst 2, 1) := by decide +kernel
theorem dL_finals_21 : decode cL_finals 21 = .ok (.iadd, 1) := by decide +kernel
theorem dL_finals_22 : decode cL_finals 22 = .ok (.iaload, 1) := by decide +kernel
theorem dL_finals_23 : decode cL_finals 23 = .ok (.iconst 1, 1) := by decide +kernel
theorem dL_finals_24 : decode cL_finals 24 = .ok (.if_icmp .le 107, 3) := by decide +kernel
theorem dL_finals_27 : decode cL_finals 27 = .ok (.aload_n 0, 1) := by decide +kernel
theorem dL_finals_28 : decode cL_finals 28 = .ok (.aload_n 1, 1) := by decide +kernel
theorem dL_finals_29 : decode cL_finals 29 = .ok (.aload 4, 2) := by decide +kernel
theorem dL_finals_31 : decode cL_finals 31 = .ok (.iload 6, 2) := by decide +kernel
theorem dL_finals_33 : decode cL_finals 33 = .ok (.invokestatic 31, 3) := by decide +kernel
theorem dL_finals_36 : decode cL_finals 36 = .ok (.istore 7, 2) := by decide +kernel
theorem dL_finals_38 : decode cL_finals 38 = .ok (.aload_n 2, 1) := by decide +kernel
theorem dL_finals_39 : decode cL_finals 39 = .ok (.iconst 3, 1) := by decide +kernel
theorem dL_finals_40 : decode cL_finals 40 = .ok (.iload 6, 2) := by decide +kernel
theorem dL_finals_42 : decode cL_finals 42 = .ok (.imul, 1) := by decide +kernel
theorem dL_finals_43 : decode cL_finals 43 = .ok (.iload 7, 2) := by decide +kernel
theorem dL_finals_45 : decode cL_finals 45 = .ok (.aload 4, 2) := by decide +kernel
theorem dL_finals_47 : decode cL_finals 47 = .ok (.bipush 7, 2) := by decide +kernel
theorem dL_finals_49 : decode cL_finals 49 = .ok (.iaload, 1) := by decide +kernel
theorem dL_finals_50 : decode cL_finals 50 = .ok (.if_icmp .ge 16, 3) := by decide +kernel
theorem dL_finals_53 : decode cL_finals 53 = .ok (.aload 4, 2) := by decide +kernel
theorem dL_finals_55 : decode cL_finals 55 = .ok (.bipush 7, 2) := by decide +kernel
theorem dL_finals_57 : decode cL_finals 57 = .ok (.iaload, 1) := by decide +kernel
theorem dL_finals_58 : decode cL_finals 58 = .ok (.iload 7, 2) := by decide +kernel
theorem dL_finals_60 : decode cL_finals 60 = .ok (.invokestatic 19, 3) := by decide +kernel
theorem dL_finals_63 : decode cL_finals 63 = .ok (.goto 4, 3) := by decide +kernel
theorem dL_finals_66 : decode cL_finals 66 = .ok (.iconst 0, 1) := by decide +kernel
theorem dL_finals_67 : decode cL_finals 67 = .ok (.iastore, 1) := by decide +kernel
theorem dL_finals_68 : decode cL_finals 68 = .ok (.iload 5, 2) := by decide +kernel
theorem dL_finals_70 : decode cL_finals 70 = .ok (.iload 7, 2) := by decide +kernel
theorem dL_finals_72 : decode cL_finals 72 = .ok (.aload 4, 2) := by decide +kernel
theorem dL_finals_74 : decode cL_finals 74 = .ok (.bipush 7, 2) := by decide +kernel
theorem dL_finals_76 : decode cL_finals 76 = .ok (.iaload, 1) := by decide +kernel
theorem dL_finals_77 : decode cL_finals 77 = .ok (.if_icmp .ge 10, 3) := by decide +kernel
theorem dL_finals_80 : decode cL_finals 80 = .ok (.iconst 1, 1) := by decide +kernel
theorem dL_finals_81 : decode cL_finals 81 = .ok (.iload 6, 2) := by decide +kernel
theorem dL_finals_83 : decode cL_finals 83 = .ok (.ishl, 1) := by decide +kernel
theorem dL_finals_84 : decode cL_finals 84 = .ok (.goto 4, 3) := by decide +kernel
theorem dL_finals_87 : decode cL_finals 87 = .ok (.iconst 0, 1) := by decide +kernel
theorem dL_finals_88 : decode cL_finals 88 = .ok (.ior, 1) := by decide +kernel
theorem dL_finals_89 : decode cL_finals 89 = .ok (.istore 5, 2) := by decide +kernel
theorem dL_finals_91 : decode cL_finals 91 = .ok (.iload 7, 2) := by decide +kernel
theorem dL_finals_93 : decode cL_finals 93 = .ok (.aload 4, 2) := by decide +kernel
theorem dL_finals_95 : decode cL_finals 95 = .ok (.bipush 7, 2) := by decide +kernel
theorem dL_finals_97 : decode cL_finals 97 = .ok (.iaload, 1) := by decide +kernel
theorem dL_finals_98 : decode cL_finals 98 = .ok (.if_icmp .lt 33, 3) := by decide +kernel
theorem dL_finals_101 : decode cL_finals 101 = .ok (.iload 7, 2) := by decide +kernel
theorem dL_finals_103 : decode cL_finals 103 = .ok (.aload 4, 2) := by decide +kernel
theorem dL_finals_105 : decode cL_finals 105 = .ok (.bipush 7, 2) := by decide +kernel
theorem dL_finals_107 : decode cL_finals 107 = .ok (.iaload, 1) := by decide +kernel
theorem dL_finals_108 : decode cL_finals 108 = .ok (.aload 4, 2) := by decide +kernel
theorem dL_finals_110 : decode cL_finals 110 = .ok (.bipush 9, 2) := by decide +kernel
theorem dL_finals_112 : decode cL_finals 112 = .ok (.iaload, 1) := by decide +kernel
theorem dL_finals_113 : decode cL_finals 113 = .ok (.iadd, 1) := by decide +kernel
theorem dL_finals_114 : decode cL_finals 114 = .ok (.if_icmp .ge 17, 3) := by decide +kernel
theorem dL_finals_117 : decode cL_finals 117 = .ok (.aload_n 3, 1) := by decide +kernel
theorem dL_finals_118 : decode cL_finals 118 = .ok (.iload 7, 2) := by decide +kernel
theorem dL_finals_120 : decode cL_finals 120 = .ok (.aload 4, 2) := by decide +kernel
theorem dL_finals_122 : decode cL_finals 122 = .ok (.bipush 7, 2) := by decide +kernel
theorem dL_finals_124 : decode cL_finals 124 = .ok (.iaload, 1) := by decide +kernel
theorem dL_finals_125 : decode cL_finals 125 = .ok (.isub, 1) := by decide +kernel
theorem dL_finals_126 : decode cL_finals 126 = .ok (.iload 6, 2) := by decide +kernel
theorem dL_finals_128 : decode cL_finals 128 = .ok (.iconst 1, 1) := by decide +kernel
theorem dL_finals_129 : decode cL_finals 129 = .ok (.iadd, 1) := by decide +kernel
theorem dL_finals_130 : decode cL_finals 130 = .ok (.iastore, 1) := by decide +kernel
theorem dL_finals_131 : decode cL_finals 131 = .ok (.iinc 6 1, 3) := by decide +kernel
theorem dL_finals_134 : decode cL_finals 134 = .ok (.goto (-128), 3) := by decide +kernel
theorem dL_finals_137 : decode cL_finals 137 = .ok (.aload 4, 2) := by decide +kernel
theorem dL_finals_139 : decode cL_finals 139 = .ok (.iconst 0, 1) := by decide +kernel
theorem dL_finals_140 : decode cL_finals 140 = .ok (.iconst 2, 1) := by decide +kernel
theorem dL_finals_141 : decode cL_finals 141 = .ok (.iastore, 1) := by decide +kernel
theorem dL_finals_142 : decode cL_finals 142 = .ok (.iload 5, 2) := by decide +kernel
theorem dL_finals_144 : decode cL_finals 144 = .ok (.ireturn, 1) := by decide +kernel
theorem dL_end_0 : decode cL_end 0 = .ok (.iconst 0, 1) := by decide +kernel
theorem dL_end_1 : decode cL_end 1 = .ok (.istore 5, 2) := by decide +kernel
theorem dL_end_3 : decode cL_end 3 = .ok (.iconst 0, 1) := by decide +kernel
theorem dL_end_4 : decode cL_end 4 = .ok (.istore 6, 2) := by decide +kernel
theorem dL_end_6 : decode cL_end 6 = .ok (.iload 6, 2) := by decide +kernel
theorem dL_end_8 : decode cL_end 8 = .ok (.aload_n 3, 1) := by decide +kernel
theorem dL_end_9 : decode cL_end 9 = .ok (.iconst 1, 1) := by decide +kernel
theorem dL_end_10 : decode cL_end 10 = .ok (.iaload, 1) := by decide +kernel
theorem dL_end_11 : decode cL_end 11 = .ok (.if_icmp .ge 222, 3) := by decide +kernel
theorem dL_end_14 : decode cL_end 14 = .ok (.iconst 1, 1) := by decide +kernel
theorem dL_end_15 : decode cL_end 15 = .ok (.istore 7, 2) := by decide +kernel
theorem dL_end_17 : decode cL_end 17 = .ok (.iconst 0, 1) := by decide +kernel
theorem dL_end_18 : decode cL_end 18 = .ok (.istore 8, 2) := by decide +kernel
theorem dL_end_20 : decode cL_end 20 = .ok (.iconst 0, 1) := by decide +kernel
theorem dL_end_21 : decode cL_end 21 = .ok (.istore 9, 2) := by decide +kernel
theorem dL_end_23 : decode cL_end 23 = .ok (.iload 9, 2) := by decide +kernel
theorem dL_end_25 : decode cL_end 25 = .ok (.aload_n 3, 1) := by decide +kernel
theorem dL_end_26 : decode cL_end 26 = .ok (.iconst 1, 1) := by decide +kernel
theorem dL_end_27 : decode cL_end 27 = .ok (.iaload, 1) := by decide +kernel
theorem dL_end_28 : decode cL_end 28 = .ok (.if_icmp .ge 79, 3) := by decide +kernel
theorem dL_end_31 : decode cL_end 31 = .ok (.iload 7, 2) := by decide +kernel
theorem dL_end_33 : decode cL_end 33 = .ok (.aload_n 1, 1) := by decide +kernel
theorem dL_end_34 : decode cL_end 34 = .ok (.iconst 3, 1) := by decide +kernel
theorem dL_end_35 : decode cL_end 35 = .ok (.iload 9, 2) := by decide +kernel
theorem dL_end_37 : decode cL_end 37 = .ok (.imul, 1) := by decide +kernel
theorem dL_end_38 : decode cL_end 38 = .ok (.iconst 1, 1) := by decide +kernel
theorem dL_end_39 : decode cL_end 39 = .ok (.iadd, 1) := by decide +kernel
theorem dL_end_40 : decode cL_end 40 = .ok (.iaload, 1) := by decide +kernel
theorem dL_end_41 : decode cL_end 41 = .ok (.iconst 1, 1) := by decide +kernel
theorem dL_end_42 : decode cL_end 42 = .ok (.if_icmp .le 26, 3) := by decide +kernel
theorem dL_end_45 : decode cL_end 45 = .ok (.aload_n 1, 1) := by decide +kernel
theorem dL_end_46 : decode cL_end 46 = .ok (.iconst 3, 1) := by decide +kernel
theorem dL_end_47 : decode cL_end 47 = .ok (.iload 9, 2) := by decide +kernel
theorem dL_end_49 : decode cL_end 49 = .ok (.imul, 1) := by decide +kernel
theorem dL_end_50 : decode cL_end 50 = .ok (.iconst 1, 1) := by decide +kernel
theorem dL_end_51 : decode cL_end 51 = .ok (.iadd, 1) := by decide +kernel
theorem dL_end_52 : decode cL_end 52 = .ok (.iaload, 1) := by decide +kernel
theorem dL_end_53 : decode cL_end 53 = .ok (.aload_n 1, 1) := by decide +kernel
theorem dL_end_54 : decode cL_end 54 = .ok (.iconst 3, 1) := by decide +kernel
theorem dL_end_55 : decode cL_end 55 = .ok (.iload 6, 2) := by decide +kernel
theorem dL_end_57 : decode cL_end 57 = .ok (.imul, 1) := by decide +kernel
theorem dL_end_58 : decode cL_end 58 = .ok (.iconst 1, 1) := by decide +kernel
theorem dL_end_59 : decode cL_end 59 = .ok (.iadd, 1) := by decide +kernel
theorem dL_end_60 : decode cL_end 60 = .ok (.iaload, 1) := by decide +kernel
theorem dL_end_61 : decode cL_end 61 = .ok (.if_icmp .ge 7, 3) := by decide +kernel
theorem dL_end_64 : decode cL_end 64 = .ok (.iconst 1, 1) := by decide +kernel
theorem dL_end_65 : decode cL_end 65 = .ok (.goto 4, 3) := by decide +kernel
theorem dL_end_68 : decode cL_end 68 = .ok (.iconst 0, 1) := by decide +kernel
theorem dL_end_69 : decode cL_end 69 = .ok (.iadd, 1) := by decide +kernel
theorem dL_end_70 : decode cL_end 70 = .ok (.istore 7, 2) := by decide +kernel
theorem dL_end_72 : decode cL_end 72 = .ok (.iload 8, 2) := by decide +kernel
theorem dL_end_74 : decode cL_end 74 = .ok (.aload_n 1, 1) := by decide +kernel
theorem dL_end_75 : decode cL_end 75 = .ok (.iconst 3, 1) := by decide +kernel
theorem dL_end_76 : decode cL_end 76 = .ok (.iload 9, 2) := by decide +kernel
theorem dL_end_78 : decode cL_end 78 = .ok (.imul, 1) := by decide +kernel
theorem dL_end_79 : decode cL_end 79 = .ok (.iconst 1, 1) := by decide +kernel
theorem dL_end_80 : decode cL_end 80 = .ok (.iadd, 1) := by decide +kernel
theorem dL_end_81 : decode cL_end 81 = .ok (.iaload, 1) := by decide +kernel
theorem dL_end_82 : decode cL_end 82 = .ok (.aload_n 1, 1) := by decide +kernel
theorem dL_end_83 : decode cL_end 83 = .ok (.iconst 3, 1) := by decide +kernel
theorem dL_end_84 : decode cL_end 84 = .ok (.iload 6, 2) := by decide +kernel
theorem dL_end_86 : decode cL_end 86 = .ok (.imul, 1) := by decide +kernel
theorem dL_end_87 : decode cL_end 87 = .ok (.iconst 1, 1) := by decide +kernel
theorem dL_end_88 : decode cL_end 88 = .ok (.iadd, 1) := by decide +kernel
theorem dL_end_89 : decode cL_end 89 = .ok (.iaload, 1) := by decide +kernel
theorem dL_end_90 : decode cL_end 90 = .ok (.if_icmp .ne 7, 3) := by decide +kernel
theorem dL_end_93 : decode cL_end 93 = .ok (.iconst 1, 1) := by decide +kernel
theorem dL_end_94 : decode cL_end 94 = .ok (.goto 4, 3) := by decide +kernel
theorem dL_end_97 : decode cL_end 97 = .ok (.iconst 0, 1) := by decide +kernel
theorem dL_end_98 : decode cL_end 98 = .ok (.iadd, 1) := by decide +kernel
theorem dL_end_99 : decode cL_end 99 = .ok (.istore 8, 2) := by decide +kernel
theorem dL_end_101 : decode cL_end 101 = .ok (.iinc 9 1, 3) := by decide +kernel
theorem dL_end_104 : decode cL_end 104 = .ok (.goto (-81), 3) := by decide +kernel
theorem dL_end_107 : decode cL_end 107 = .ok (.aload_n 1, 1) := by decide +kernel
theorem dL_end_108 : decode cL_end 108 = .ok (.iconst 3, 1) := by decide +kernel
theorem dL_end_109 : decode cL_end 109 = .ok (.iload 6, 2) := by decide +kernel
theorem dL_end_111 : decode cL_end 111 = .ok (.imul, 1) := by decide +kernel
theorem dL_end_112 : decode cL_end 112 = .ok (.iconst 1, 1) := by decide +kernel
theorem dL_end_113 : decode cL_end 113 = .ok (.iadd, 1) := by decide +kernel
theorem dL_end_114 : decode cL_end 114 = .ok (.iaload, 1) := by decide +kernel
theorem dL_end_115 : decode cL_end 115 = .ok (.iconst 1, 1) := by decide +kernel
theorem dL_end_116 : decode cL_end 116 = .ok (.if_icmp .le 111, 3) := by decide +kernel
theorem dL_end_119 : decode cL_end 119 = .ok (.iload 7, 2) := by decide +kernel
theorem dL_end_121 : decode cL_end 121 = .ok (.iconst 1, 1) := by decide +kernel
theorem dL_end_122 : decode cL_end 122 = .ok (.if_icmp .ne 7, 3) := by decide +kernel
theorem dL_end_125 : decode cL_end 125 = .ok (.iconst 1, 1) := by decide +kernel
theorem dL_end_126 : decode cL_end 126 = .ok (.goto 4, 3) := by decide +kernel
theorem dL_end_129 : decode cL_end 129 = .ok (.iconst 0, 1) := by decide +kernel
theorem dL_end_130 : decode cL_end 130 = .ok (.istore 9, 2) := by decide +kernel
theorem dL_end_132 : decode cL_end 132 = .ok (.iconst 0, 1) := by decide +kernel
theorem dL_end_133 : decode cL_end 133 = .ok (.istore 10, 2) := by decide +kernel
theorem dL_end_135 : decode cL_end 135 = .ok (.iload 10, 2) := by decide +kernel
theorem dL_end_137 : decode cL_end 137 = .ok (.iload 8, 2) := by decide +kernel
theorem dL_end_139 : decode cL_end 139 = .ok (.if_icmp .ge 26, 3) := by decide +kernel
theorem dL_end_142 : decode cL_end 142 = .ok (.iload 9, 2) := by decide +kernel
theorem dL_end_144 : decode cL_end 144 = .ok (.aload_n 3, 1) := by decide +kernel
theorem dL_end_145 : decode cL_end 145 = .ok (.bipush 7, 2) := by decide +kernel
theorem dL_end_147 : decode cL_end 147 = .ok (.iaload, 1) := by decide +kernel
theorem dL_end_148 : decode cL_end 148 = .ok (.iconst 1, 1) := by decide +kernel
theorem dL_end_149 : decode cL_end 149 = .ok (.iadd, 1) := by decide +kernel
theorem dL_end_150 : decode cL_end 150 = .ok (.iload 7, 2) := by decide +kernel
theorem dL_end_152 : decode cL_end 152 = .ok (.isub, 1) := by decide +kernel
theorem dL_end_153 : decode cL_end 153 = .ok (.iload 10, 2) := by decide +kernel
theorem dL_end_155 : decode cL_end 155 = .ok (.isub, 1) := by decide +kernel
theorem dL_end_156 : decode cL_end 156 = .ok (.iadd, 1) := by decide +kernel
theorem dL_end_157 : decode cL_end 157 = .ok (.istore 9, 2) := by decide +kernel
theorem dL_end_159 : decode cL_end 159 = .ok (.iinc 10 1, 3) := by decide +kernel
theorem dL_end_162 : decode cL_end 162 = .ok (.goto (-27), 3) := by decide +kernel
theorem dL_end_165 : decode cL_end 165 = .ok (.aload_n 1, 1) := by decide +kernel
theorem dL_end_166 : decode cL_end 166 = .ok (.iconst 3, 1) := by decide +kernel
theorem dL_end_167 : decode cL_end 167 = .ok (.iload 6, 2) := by decide +kernel
theorem dL_end_169 : decode cL_end 169 = .ok (.imul, 1) := by decide +kernel
theorem dL_end_170 : decode cL_end 170 = .ok (.iconst 2, 1) := by decide +kernel
theorem dL_end_171 : decode cL_end 171 = .ok (.iadd, 1) := by decide +kernel
theorem dL_end_172 : decode cL_end 172 = .ok (.iload 7, 2) := by decide +kernel
theorem dL_end_174 : decode cL_end 174 = .ok (.iastore, 1) := by decide +kernel
theorem dL_end_175 : decode cL_end 175 = .ok (.aload_n 2, 1) := by decide +kernel
theorem dL_end_176 : decode cL_end 176 = .ok (.iload 6, 2) := by decide +kernel
theorem dL_end_178 : decode cL_end 178 = .ok (.dup2, 1) := by decide +kernel
theorem dL_end_179 : decode cL_end 179 = .ok (.iaload, 1) := by decide +kernel
theorem dL_end_180 : decode cL_end 180 = .ok (.iload 9, 2) := by decide +kernel
theorem dL_end_182 : decode cL_end 182 = .ok (.iconst 2, 1) := by decide +kernel
theorem dL_end_183 : decode cL_end 183 = .ok (.imul, 1) := by decide +kernel
theorem dL_end_184 : decode cL_end 184 = .ok (.iload 8, 2) := by decide +kernel
theorem dL_end_186 : decode cL_end 186 = .ok (.idiv, 1) := by decide +kernel
theorem dL_end_187 : decode cL_end 187 = .ok (.iadd, 1) := by decide +kernel
theorem dL_end_188 : decode cL_end 188 = .ok (.iastore, 1) := by decide +kernel
theorem dL_end_189 : decode cL_end 189 = .ok (.aload 4, 2) := by decide +kernel
theorem dL_end_191 : decode cL_end 191 = .ok (.aload_n 0, 1) := by decide +kernel
theorem dL_end_192 : decode cL_end 192 = .ok (.iconst 3, 1) := by decide +kernel
theorem dL_end_193 : decode cL_end 193 = .ok (.iload 6, 2) := by decide +kernel
theorem dL_end_195 : decode cL_end 195 = .ok (.imul, 1) := by decide +kernel
theorem dL_end_196 : decode cL_end 196 = .ok (.iaload, 1) := by decide +kernel
theorem dL_end_197 : decode cL_end 197 = .ok (.dup2, 1) := by decide +kernel
theorem dL_end_198 : decode cL_end 198 = .ok (.iaload, 1) := by decide +kernel
theorem dL_end_199 : decode cL_end 199 = .ok (.iload 9, 2) := by decide +kernel
theorem dL_end_201 : decode cL_end 201 = .ok (.iconst 2, 1) := by decide +kernel
theorem dL_end_202 : decode cL_end 202 = .ok (.imul, 1) := by decide +kernel
theorem dL_end_203 : decode cL_end 203 = .ok (.iload 8, 2) := by decide +kernel
theorem dL_end_205 : decode cL_end 205 = .ok (.idiv, 1) := by decide +kernel
theorem dL_end_206 : decode cL_end 206 = .ok (.iadd, 1) := by decide +kernel
theorem dL_end_207 : decode cL_end 207 = .ok (.iastore, 1) := by decide +kernel
theorem dL_end_208 : decode cL_end 208 = .ok (.iload 5, 2) := by decide +kernel
theorem dL_end_210 : decode cL_end 210 = .ok (.iload 7, 2) := by decide +kernel
theorem dL_end_212 : decode cL_end 212 = .ok (.iconst 1, 1) := by decide +kernel
theorem dL_end_213 : decode cL_end 213 = .ok (.if_icmp .ne 10, 3) := by decide +kernel
theorem dL_end_216 : decode cL_end 216 = .ok (.iconst 1, 1) := by decide +kernel
theorem dL_end_217 : decode cL_end 217 = .ok (.iload 6, 2) := by decide +kernel
theorem dL_end_219 : decode cL_end 219 = .ok (.ishl, 1) := by decide +kernel
theorem dL_end_220 : decode cL_end 220 = .ok (.goto 4, 3) := by decide +kernel
theorem dL_end_223 : decode cL_end 223 = .ok (.iconst 0, 1) := by decide +kernel
theorem dL_end_224 : decode cL_end 224 = .ok (.ior, 1) := by decide +kernel
theorem dL_end_225 : decode cL_end 225 = .ok (.istore 5, 2) := by decide +kernel
theorem dL_end_227 : decode cL_end 227 = .ok (.iinc 6 1, 3) := by decide +kernel
theorem dL_end_230 : decode cL_end 230 = .ok (.goto (-224), 3) := by decide +kernel
theorem dL_end_233 : decode cL_end 233 = .ok (.aload_n 3, 1) := by decide +kernel
theorem dL_end_234 : decode cL_end 234 = .ok (.iconst 0, 1) := by decide +kernel
theorem dL_end_235 : decode cL_end 235 = .ok (.iconst 3, 1) := by decide +kernel
theorem dL_end_236 : decode cL_end 236 = .ok (.iastore, 1) := by decide +kernel
theorem dL_end_237 : decode cL_end 237 = .ok (.aload_n 3, 1) := by decide +kernel
theorem dL_end_238 : decode cL_end 238 = .ok (.iconst 3, 1) := by decide +kernel
theorem dL_end_239 : decode cL_end 239 = .ok (.dup2, 1) := by decide +kernel
theorem dL_end_240 : decode cL_end 240 = .ok (.iaload, 1) := by decide +kernel
theorem dL_end_241 : decode cL_end 241 = .ok (.iconst 1, 1) := by decide +kernel
theorem dL_end_242 : decode cL_end 242 = .ok (.iadd, 1) := by decide +kernel
theorem dL_end_243 : decode cL_end 243 = .ok (.iastore, 1) := by decide +kernel
theorem dL_end_244 : decode cL_end 244 = .ok (.iload 5, 2) := by decide +kernel
theorem dL_end_246 : decode cL_end 246 = .ok (.ireturn, 1) := by decide +kernel
theorem dL_next_0 : decode cL_next 0 = .ok (.iconst 0, 1) := by decide +kernel
theorem dL_next_1 : decode cL_next 1 = .ok (.istore 5, 2) := by decide +kernel
theorem dL_next_3 : decode cL_next 3 = .ok (.iconst 0, 1) := by decide +kernel
theorem dL_next_4 : decode cL_next 4 = .ok (.istore 6, 2) := by decide +kernel
theorem dL_next_6 : decode cL_next 6 = .ok (.iload 6, 2) := by decide +kernel
theorem dL_next_8 : decode cL_next 8 = .ok (.aload 4, 2) := by decide +kernel
theorem dL_next_10 : decode cL_next 10 = .ok (.iconst 1, 1) := by decide +kernel
theorem dL_next_11 : decode cL_next 11 = .ok (.iaload, 1) := by decide +kernel
theorem dL_next_12 : decode cL_next 12 = .ok (.if_icmp .ge 192, 3) := by decide +kernel
theorem dL_next_15 : decode cL_next 15 = .ok (.aload_n 0, 1) := by decide +kernel
theorem dL_next_16 : decode cL_next 16 = .ok (.iconst 3, 1) := by decide +kernel
theorem dL_next_17 : decode cL_next 17 = .ok (.iload 6, 2) := by decide +kernel
theorem dL_next_19 : decode cL_next 19 = .ok (.imul, 1) := by decide +kernel
theorem dL_next_20 : decode cL_next 20 = .ok (.iconst 1, 1) := by decide +kernel
theorem dL_next_21 : decode cL_next 21 = .ok (.iadd, 1) := by decide +kernel
theorem dL_next_22 : decode cL_next 22 = .ok (.iaload, 1) := by decide +kernel
theorem dL_next_23 : decode cL_next 23 = .ok (.istore 7, 2) := by decide +kernel
theorem dL_next_25 : decode cL_next 25 = .ok (.aload_n 1, 1) := by decide +kernel
