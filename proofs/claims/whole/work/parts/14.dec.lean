theorem d_A_init_0 : decode prog_2_method_1_code 0 = .ok (.aload_n 0, 1) := by decide +kernel
theorem d_A_init_1 : decode prog_2_method_1_code 1 = .ok (.invokespecial 3, 3) := by decide +kernel
theorem d_A_init_4 : decode prog_2_method_1_code 4 = .ok (.aload_n 0, 1) := by decide +kernel
theorem d_A_init_5 : decode prog_2_method_1_code 5 = .ok (.iload_n 1, 1) := by decide +kernel
theorem d_A_init_6 : decode prog_2_method_1_code 6 = .ok (.putfield 9, 3) := by decide +kernel
theorem d_A_init_9 : decode prog_2_method_1_code 9 = .ok (.aload_n 0, 1) := by decide +kernel
theorem d_A_init_10 : decode prog_2_method_1_code 10 = .ok (.iconst 3, 1) := by decide +kernel
theorem d_A_init_11 : decode prog_2_method_1_code 11 = .ok (.newarray .int, 2) := by decide +kernel
theorem d_A_init_13 : decode prog_2_method_1_code 13 = .ok (.putfield 15, 3) := by decide +kernel
theorem d_A_init_16 : decode prog_2_method_1_code 16 = .ok (.aload_n 0, 1) := by decide +kernel
theorem d_A_init_17 : decode prog_2_method_1_code 17 = .ok (.iconst 1, 1) := by decide +kernel
theorem d_A_init_18 : decode prog_2_method_1_code 18 = .ok (.putfield 19, 3) := by decide +kernel
theorem d_A_init_21 : decode prog_2_method_1_code 21 = .ok (.return_, 1) := by decide +kernel
theorem d_A_addReference_0 : decode prog_2_method_2_code 0 = .ok (.aload_n 0, 1) := by decide +kernel
theorem d_A_addReference_1 : decode prog_2_method_2_code 1 = .ok (.getfield 23, 3) := by decide +kernel
theorem d_A_addReference_4 : decode prog_2_method_2_code 4 = .ok (.aload_n 0, 1) := by decide +kernel
theorem d_A_addReference_5 : decode prog_2_method_2_code 5 = .ok (.getfield 15, 3) := by decide +kernel
theorem d_A_addReference_8 : decode prog_2_method_2_code 8 = .ok (.arraylength, 1) := by decide +kernel
theorem d_A_addReference_9 : decode prog_2_method_2_code 9 = .ok (.if_icmp .lt 4, 3) := by decide +kernel
theorem d_A_addReference_12 : decode prog_2_method_2_code 12 = .ok (.return_, 1) := by decide +kernel
theorem d_A_addReference_13 : decode prog_2_method_2_code 13 = .ok (.aload_n 0, 1) := by decide +kernel
theorem d_A_addReference_14 : decode prog_2_method_2_code 14 = .ok (.getfield 15, 3) := by decide +kernel
theorem d_A_addReference_17 : decode prog_2_method_2_code 17 = .ok (.aload_n 0, 1) := by decide +kernel
theorem d_A_addReference_18 : decode prog_2_method_2_code 18 = .ok (.getfield 23, 3) := by decide +kernel
theorem d_A_addReference_21 : decode prog_2_method_2_code 21 = .ok (.iload_n 1, 1) := by decide +kernel
theorem d_A_addReference_22 : decode prog_2_method_2_code 22 = .ok (.iastore, 1) := by decide +kernel
theorem d_A_addReference_23 : decode prog_2_method_2_code 23 = .ok (.aload_n 0, 1) := by decide +kernel
theorem d_A_addReference_24 : decode prog_2_method_2_code 24 = .ok (.dup, 1) := by decide +kernel
theorem d_A_addReference_25 : decode prog_2_method_2_code 25 = .ok (.getfield 23, 3) := by decide +kernel
theorem d_A_addReference_28 : decode prog_2_method_2_code 28 = .ok (.iconst 1, 1) := by decide +kernel
theorem d_A_addReference_29 : decode prog_2_method_2_code 29 = .ok (.iadd, 1) := by decide +kernel
theorem d_A_addReference_30 : decode prog_2_method_2_code 30 = .ok (.putfield 23, 3) := by decide +kernel
theorem d_A_addReference_33 : decode prog_2_method_2_code 33 = .ok (.aload_n 0, 1) := by decide +kernel
theorem d_A_addReference_34 : decode prog_2_method_2_code 34 = .ok (.aload_n 0, 1) := by decide +kernel
theorem d_A_addReference_35 : decode prog_2_method_2_code 35 = .ok (.getfield 26, 3) := by decide +kernel
theorem d_A_addReference_38 : decode prog_2_method_2_code 38 = .ok (.iload_n 1, 1) := by decide +kernel
theorem d_A_addReference_39 : decode prog_2_method_2_code 39 = .ok (.iconst 1, 1) := by decide +kernel
theorem d_A_addReference_40 : decode prog_2_method_2_code 40 = .ok (.iadd, 1) := by decide +kernel
theorem d_A_addReference_41 : decode prog_2_method_2_code 41 = .ok (.invokestatic 29, 3) := by decide +kernel
theorem d_A_addReference_44 : decode prog_2_method_2_code 44 = .ok (.putfield 26, 3) := by decide +kernel
theorem d_A_addReference_47 : decode prog_2_method_2_code 47 = .ok (.return_, 1) := by decide +kernel
theorem d_A_refersTo_0 : decode prog_2_method_3_code 0 = .ok (.iconst 0, 1) := by decide +kernel
theorem d_A_refersTo_1 : decode prog_2_method_3_code 1 = .ok (.istore_n 2, 1) := by decide +kernel
theorem d_A_refersTo_2 : decode prog_2_method_3_code 2 = .ok (.iload_n 2, 1) := by decide +kernel
theorem d_A_refersTo_3 : decode prog_2_method_3_code 3 = .ok (.aload_n 0, 1) := by decide +kernel
theorem d_A_refersTo_4 : decode prog_2_method_3_code 4 = .ok (.getfield 23, 3) := by decide +kernel
theorem d_A_refersTo_7 : decode prog_2_method_3_code 7 = .ok (.if_icmp .ge 30, 3) := by decide +kernel
theorem d_A_refersTo_10 : decode prog_2_method_3_code 10 = .ok (.iload_n 2, 1) := by decide +kernel
theorem d_A_refersTo_11 : decode prog_2_method_3_code 11 = .ok (.aload_n 0, 1) := by decide +kernel
theorem d_A_refersTo_12 : decode prog_2_method_3_code 12 = .ok (.getfield 15, 3) := by decide +kernel
theorem d_A_refersTo_15 : decode prog_2_method_3_code 15 = .ok (.arraylength, 1) := by decide +kernel
theorem d_A_refersTo_16 : decode prog_2_method_3_code 16 = .ok (.if_icmp .ge 21, 3) := by decide +kernel
theorem d_A_refersTo_19 : decode prog_2_method_3_code 19 = .ok (.aload_n 0, 1) := by decide +kernel
theorem d_A_refersTo_20 : decode prog_2_method_3_code 20 = .ok (.getfield 15, 3) := by decide +kernel
theorem d_A_refersTo_23 : decode prog_2_method_3_code 23 = .ok (.iload_n 2, 1) := by decide +kernel
theorem d_A_refersTo_24 : decode prog_2_method_3_code 24 = .ok (.iaload, 1) := by decide +kernel
theorem d_A_refersTo_25 : decode prog_2_method_3_code 25 = .ok (.iload_n 1, 1) := by decide +kernel
theorem d_A_refersTo_26 : decode prog_2_method_3_code 26 = .ok (.if_icmp .ne 5, 3) := by decide +kernel
theorem d_A_refersTo_29 : decode prog_2_method_3_code 29 = .ok (.iconst 1, 1) := by decide +kernel
theorem d_A_refersTo_30 : decode prog_2_method_3_code 30 = .ok (.ireturn, 1) := by decide +kernel
theorem d_A_refersTo_31 : decode prog_2_method_3_code 31 = .ok (.iinc 2 1, 3) := by decide +kernel
theorem d_A_refersTo_34 : decode prog_2_method_3_code 34 = .ok (.goto (-32), 3) := by decide +kernel
theorem d_A_refersTo_37 : decode prog_2_method_3_code 37 = .ok (.iconst 0, 1) := by decide +kernel
theorem d_A_refersTo_38 : decode prog_2_method_3_code 38 = .ok (.ireturn, 1) := by decide +kernel
theorem d_K_init_0 : decode prog_8_method_1_code 0 = .ok (.aload_n 0, 1) := by decide +kernel
theorem d_K_init_1 : decode prog_8_method_1_code 1 = .ok (.invokespecial 1, 3) := by decide +kernel
theorem d_K_init_4 : decode prog_8_method_1_code 4 = .ok (.return_, 1) := by decide +kernel
theorem d_K_isFresh_0 : decode prog_8_method_2_code 0 = .ok (.aload_n 0, 1) := by decide +kernel
theorem d_K_isFresh_1 : decode prog_8_method_2_code 1 = .ok (.getfield 7, 3) := by decide +kernel
theorem d_K_isFresh_4 : decode prog_8_method_2_code 4 = .ok (.ifCond .eq 20, 3) := by decide +kernel
theorem d_K_isFresh_7 : decode prog_8_method_2_code 7 = .ok (.iload_n 1, 1) := by decide +kernel
theorem d_K_isFresh_8 : decode prog_8_method_2_code 8 = .ok (.aload_n 0, 1) := by decide +kernel
theorem d_K_isFresh_9 : decode prog_8_method_2_code 9 = .ok (.getfield 13, 3) := by decide +kernel
theorem d_K_isFresh_12 : decode prog_8_method_2_code 12 = .ok (.isub, 1) := by decide +kernel
theorem d_K_isFresh_13 : decode prog_8_method_2_code 13 = .ok (.aload_n 0, 1) := by decide +kernel
theorem d_K_isFresh_14 : decode prog_8_method_2_code 14 = .ok (.getfield 17, 3) := by decide +kernel
theorem d_K_isFresh_17 : decode prog_8_method_2_code 17 = .ok (.if_icmp .ge 7, 3) := by decide +kernel
theorem d_K_isFresh_20 : decode prog_8_method_2_code 20 = .ok (.iconst 1, 1) := by decide +kernel
theorem d_K_isFresh_21 : decode prog_8_method_2_code 21 = .ok (.goto 4, 3) := by decide +kernel
theorem d_K_isFresh_24 : decode prog_8_method_2_code 24 = .ok (.iconst 0, 1) := by decide +kernel
theorem d_K_isFresh_25 : decode prog_8_method_2_code 25 = .ok (.ireturn, 1) := by decide +kernel
theorem d_K_forgetIfOlderThan_0 : decode prog_8_method_4_code 0 = .ok (.aload_n 0, 1) := by decide +kernel
theorem d_K_forgetIfOlderThan_1 : decode prog_8_method_4_code 1 = .ok (.getfield 24, 3) := by decide +kernel
theorem d_K_forgetIfOlderThan_4 : decode prog_8_method_4_code 4 = .ok (.iload_n 1, 1) := by decide +kernel
theorem d_K_forgetIfOlderThan_5 : decode prog_8_method_4_code 5 = .ok (.if_icmp .ge 8, 3) := by decide +kernel
theorem d_K_forgetIfOlderThan_8 : decode prog_8_method_4_code 8 = .ok (.aload_n 0, 1) := by decide +kernel
theorem d_K_forgetIfOlderThan_9 : decode prog_8_method_4_code 9 = .ok (.iconst 0, 1) := by decide +kernel
theorem d_K_forgetIfOlderThan_10 : decode prog_8_method_4_code 10 = .ok (.putfield 7, 3) := by decide +kernel
theorem d_K_forgetIfOlderThan_13 : decode prog_8_method_4_code 13 = .ok (.return_, 1) := by decide +kernel
theorem d_K_freshFor_0 : decode prog_8_method_3_code 0 = .ok (.aload_n 0, 1) := by decide +kernel
theorem d_K_freshFor_1 : decode prog_8_method_3_code 1 = .ok (.iload_n 1, 1) := by decide +kernel
theorem d_K_freshFor_2 : decode prog_8_method_3_code 2 = .ok (.invokevirtual 20, 3) := by decide +kernel
theorem d_K_freshFor_5 : decode prog_8_method_3_code 5 = .ok (.ifCond .eq 17, 3) := by decide +kernel
theorem d_K_freshFor_8 : decode prog_8_method_3_code 8 = .ok (.aload_n 0, 1) := by decide +kernel
theorem d_K_freshFor_9 : decode prog_8_method_3_code 9 = .ok (.getfield 17, 3) := by decide +kernel
theorem d_K_freshFor_12 : decode prog_8_method_3_code 12 = .ok (.iload_n 1, 1) := by decide +kernel
theorem d_K_freshFor_13 : decode prog_8_method_3_code 13 = .ok (.aload_n 0, 1) := by decide +kernel
theorem d_K_freshFor_14 : decode prog_8_method_3_code 14 = .ok (.getfield 13, 3) := by decide +kernel
theorem d_K_freshFor_17 : decode prog_8_method_3_code 17 = .ok (.isub, 1) := by decide +kernel
theorem d_K_freshFor_18 : decode prog_8_method_3_code 18 = .ok (.isub, 1) := by decide +kernel
theorem d_K_freshFor_19 : decode prog_8_method_3_code 19 = .ok (.goto 4, 3) := by decide +kernel
theorem d_K_freshFor_22 : decode prog_8_method_3_code 22 = .ok (.iconst 0, 1) := by decide +kernel
theorem d_K_freshFor_23 : decode prog_8_method_3_code 23 = .ok (.ireturn, 1) := by decide +kernel
theorem d_C_init_0 : decode prog_3_method_1_code 0 = .ok (.aload_n 0, 1) := by decide +kernel
theorem d_C_init_1 : decode prog_3_method_1_code 1 = .ok (.invokespecial 3, 3) := by decide +kernel
theorem d_C_init_4 : decode prog_3_method_1_code 4 = .ok (.aload_n 0, 1) := by decide +kernel
theorem d_C_init_5 : decode prog_3_method_1_code 5 = .ok (.bipush 6, 2) := by decide +kernel
theorem d_C_init_7 : decode prog_3_method_1_code 7 = .ok (.anewarray 9, 3) := by decide +kernel
theorem d_C_init_10 : decode prog_3_method_1_code 10 = .ok (.putfield 11, 3) := by decide +kernel
theorem d_C_init_13 : decode prog_3_method_1_code 13 = .ok (.iconst 0, 1) := by decide +kernel
theorem d_C_init_14 : decode prog_3_method_1_code 14 = .ok (.istore_n 1, 1) := by decide +kernel
theorem d_C_init_15 : decode prog_3_method_1_code 15 = .ok (.iload_n 1, 1) := by decide +kernel
theorem d_C_init_16 : decode prog_3_method_1_code 16 = .ok (.aload_n 0, 1) := by decide +kernel
theorem d_C_init_17 : decode prog_3_method_1_code 17 = .ok (.getfield 11, 3) := by decide +kernel
theorem d_C_init_20 : decode prog_3_method_1_code 20 = .ok (.arraylength, 1) := by decide +kernel
theorem d_C_init_21 : decode prog_3_method_1_code 21 = .ok (.if_icmp .ge 22, 3) := by decide +kernel
theorem d_C_init_24 : decode prog_3_method_1_code 24 = .ok (.aload_n 0, 1) := by decide +kernel
theorem d_C_init_25 : decode prog_3_method_1_code 25 = .ok (.getfield 11, 3) := by decide +kernel
theorem d_C_init_28 : decode prog_3_method_1_code 28 = .ok (.iload_n 1, 1) := by decide +kernel
theorem d_C_init_29 : decode prog_3_method_1_code 29 = .ok (.new 9, 3) := by decide +kernel
theorem d_C_init_32 : decode prog_3_method_1_code 32 = .ok (.dup, 1) := by decide +kernel
theorem d_C_init_33 : decode prog_3_method_1_code 33 = .ok (.invokespecial 17, 3) := by decide +kernel
theorem d_C_init_36 : decode prog_3_method_1_code 36 = .ok (.aastore, 1) := by decide +kernel
theorem d_C_init_37 : decode prog_3_method_1_code 37 = .ok (.iinc 1 1, 3) := by decide +kernel
theorem d_C_init_40 : decode prog_3_method_1_code 40 = .ok (.goto (-25), 3) := by decide +kernel
theorem d_C_init_43 : decode prog_3_method_1_code 43 = .ok (.return_, 1) := by decide +kernel
theorem d_C_storedAt_0 : decode prog_3_method_2_code 0 = .ok (.iload_n 1, 1) := by decide +kernel
theorem d_C_storedAt_1 : decode prog_3_method_2_code 1 = .ok (.ifCond .lt 21, 3) := by decide +kernel
theorem d_C_storedAt_4 : decode prog_3_method_2_code 4 = .ok (.iload_n 1, 1) := by decide +kernel
theorem d_C_storedAt_5 : decode prog_3_method_2_code 5 = .ok (.aload_n 0, 1) := by decide +kernel
theorem d_C_storedAt_6 : decode prog_3_method_2_code 6 = .ok (.getfield 11, 3) := by decide +kernel
theorem d_C_storedAt_9 : decode prog_3_method_2_code 9 = .ok (.arraylength, 1) := by decide +kernel
theorem d_C_storedAt_10 : decode prog_3_method_2_code 10 = .ok (.if_icmp .ge 12, 3) := by decide +kernel
theorem d_C_storedAt_13 : decode prog_3_method_2_code 13 = .ok (.aload_n 0, 1) := by decide +kernel
theorem d_C_storedAt_14 : decode prog_3_method_2_code 14 = .ok (.getfield 11, 3) := by decide +kernel
theorem d_C_storedAt_17 : decode prog_3_method_2_code 17 = .ok (.iload_n 1, 1) := by decide +kernel
theorem d_C_storedAt_18 : decode prog_3_method_2_code 18 = .ok (.aaload, 1) := by decide +kernel
theorem d_C_storedAt_19 : decode prog_3_method_2_code 19 = .ok (.goto 4, 3) := by decide +kernel
theorem d_C_storedAt_22 : decode prog_3_method_2_code 22 = .ok (.aconst_null, 1) := by decide +kernel
theorem d_C_storedAt_23 : decode prog_3_method_2_code 23 = .ok (.areturn, 1) := by decide +kernel
theorem d_C_begin_0 : decode prog_3_method_3_code 0 = .ok (.aload_n 1, 1) := by decide +kernel
theorem d_C_begin_1 : decode prog_3_method_3_code 1 = .ok (.getfield 18, 3) := by decide +kernel
theorem d_C_begin_4 : decode prog_3_method_3_code 4 = .ok (.ifCond .ne 22, 3) := by decide +kernel
theorem d_C_begin_7 : decode prog_3_method_3_code 7 = .ok (.aload_n 2, 1) := by decide +kernel
theorem d_C_begin_8 : decode prog_3_method_3_code 8 = .ok (.iload_n 3, 1) := by decide +kernel
theorem d_C_begin_9 : decode prog_3_method_3_code 9 = .ok (.invokevirtual 24, 3) := by decide +kernel
theorem d_C_begin_12 : decode prog_3_method_3_code 12 = .ok (.ifCond .eq 14, 3) := by decide +kernel
theorem d_C_begin_15 : decode prog_3_method_3_code 15 = .ok (.aload_n 1, 1) := by decide +kernel
theorem d_C_begin_16 : decode prog_3_method_3_code 16 = .ok (.bipush 8, 2) := by decide +kernel
theorem d_C_begin_18 : decode prog_3_method_3_code 18 = .ok (.aload_n 2, 1) := by decide +kernel
theorem d_C_begin_19 : decode prog_3_method_3_code 19 = .ok (.getfield 28, 3) := by decide +kernel
theorem d_C_begin_22 : decode prog_3_method_3_code 22 = .ok (.invokevirtual 32, 3) := by decide +kernel
theorem d_C_begin_25 : decode prog_3_method_3_code 25 = .ok (.return_, 1) := by decide +kernel
theorem d_C_begin_26 : decode prog_3_method_3_code 26 = .ok (.aload_n 0, 1) := by decide +kernel
theorem d_C_begin_27 : decode prog_3_method_3_code 27 = .ok (.getfield 36, 3) := by decide +kernel
theorem d_C_begin_30 : decode prog_3_method_3_code 30 = .ok (.ifCond .eq 11, 3) := by decide +kernel
theorem d_C_begin_33 : decode prog_3_method_3_code 33 = .ok (.aload_n 1, 1) := by decide +kernel
theorem d_C_begin_34 : decode prog_3_method_3_code 34 = .ok (.bipush 7, 2) := by decide +kernel
theorem d_C_begin_36 : decode prog_3_method_3_code 36 = .ok (.iconst 0, 1) := by decide +kernel
theorem d_C_begin_37 : decode prog_3_method_3_code 37 = .ok (.invokevirtual 32, 3) := by decide +kernel
theorem d_C_begin_40 : decode prog_3_method_3_code 40 = .ok (.return_, 1) := by decide +kernel
theorem d_C_begin_41 : decode prog_3_method_3_code 41 = .ok (.aload_n 1, 1) := by decide +kernel
theorem d_C_begin_42 : decode prog_3_method_3_code 42 = .ok (.iload_n 3, 1) := by decide +kernel
theorem d_C_begin_43 : decode prog_3_method_3_code 43 = .ok (.putfield 39, 3) := by decide +kernel
theorem d_C_begin_46 : decode prog_3_method_3_code 46 = .ok (.aload_n 1, 1) := by decide +kernel
theorem d_C_begin_47 : decode prog_3_method_3_code 47 = .ok (.iconst 1, 1) := by decide +kernel
theorem d_C_begin_48 : decode prog_3_method_3_code 48 = .ok (.putfield 42, 3) := by decide +kernel
theorem d_C_begin_51 : decode prog_3_method_3_code 51 = .ok (.aload_n 2, 1) := by decide +kernel
theorem d_C_begin_52 : decode prog_3_method_3_code 52 = .ok (.getfield 45, 3) := by decide +kernel
theorem d_C_begin_55 : decode prog_3_method_3_code 55 = .ok (.ifCond .eq 19, 3) := by decide +kernel
theorem d_C_begin_58 : decode prog_3_method_3_code 58 = .ok (.aload_n 1, 1) := by decide +kernel
theorem d_C_begin_59 : decode prog_3_method_3_code 59 = .ok (.aload_n 2, 1) := by decide +kernel
theorem d_C_begin_60 : decode prog_3_method_3_code 60 = .ok (.getfield 48, 3) := by decide +kernel
theorem d_C_begin_63 : decode prog_3_method_3_code 63 = .ok (.putfield 51, 3) := by decide +kernel
theorem d_C_begin_66 : decode prog_3_method_3_code 66 = .ok (.aload_n 1, 1) := by decide +kernel
theorem d_C_begin_67 : decode prog_3_method_3_code 67 = .ok (.aload_n 2, 1) := by decide +kernel
theorem d_C_begin_68 : decode prog_3_method_3_code 68 = .ok (.getfield 28, 3) := by decide +kernel
theorem d_C_begin_71 : decode prog_3_method_3_code 71 = .ok (.putfield 52, 3) := by decide +kernel
theorem d_C_begin_74 : decode prog_3_method_3_code 74 = .ok (.return_, 1) := by decide +kernel
theorem d_C_mustWaitFor_0 : decode prog_3_method_4_code 0 = .ok (.aload_n 1, 1) := by decide +kernel
theorem d_C_mustWaitFor_1 : decode prog_3_method_4_code 1 = .ok (.getfield 55, 3) := by decide +kernel
theorem d_C_mustWaitFor_4 : decode prog_3_method_4_code 4 = .ok (.aload_n 0, 1) := by decide +kernel
theorem d_C_mustWaitFor_5 : decode prog_3_method_4_code 5 = .ok (.getfield 60, 3) := by decide +kernel
theorem d_C_mustWaitFor_8 : decode prog_3_method_4_code 8 = .ok (.if_icmp .le 7, 3) := by decide +kernel
theorem d_C_mustWaitFor_11 : decode prog_3_method_4_code 11 = .ok (.iconst 1, 1) := by decide +kernel
theorem d_C_mustWaitFor_12 : decode prog_3_method_4_code 12 = .ok (.goto 4, 3) := by decide +kernel
theorem d_C_mustWaitFor_15 : decode prog_3_method_4_code 15 = .ok (.iconst 0, 1) := by decide +kernel
theorem d_C_mustWaitFor_16 : decode prog_3_method_4_code 16 = .ok (.ireturn, 1) := by decide +kernel
theorem d_C_store_0 : decode prog_3_method_6_code 0 = .ok (.aload_n 1, 1) := by decide +kernel
theorem d_C_store_1 : decode prog_3_method_6_code 1 = .ok (.getfield 45, 3) := by decide +kernel
theorem d_C_store_4 : decode prog_3_method_6_code 4 = .ok (.ifCond .eq 15, 3) := by decide +kernel
theorem d_C_store_7 : decode prog_3_method_6_code 7 = .ok (.aload_n 1, 1) := by decide +kernel
theorem d_C_store_8 : decode prog_3_method_6_code 8 = .ok (.getfield 92, 3) := by decide +kernel
theorem d_C_store_11 : decode prog_3_method_6_code 11 = .ok (.aload_n 2, 1) := by decide +kernel
theorem d_C_store_12 : decode prog_3_method_6_code 12 = .ok (.getfield 73, 3) := by decide +kernel
theorem d_C_store_15 : decode prog_3_method_6_code 15 = .ok (.if_icmp .lt 4, 3) := by decide +kernel
theorem d_C_store_18 : decode prog_3_method_6_code 18 = .ok (.return_, 1) := by decide +kernel
theorem d_C_store_19 : decode prog_3_method_6_code 19 = .ok (.aload_n 1, 1) := by decide +kernel
theorem d_C_store_20 : decode prog_3_method_6_code 20 = .ok (.iconst 1, 1) := by decide +kernel
theorem d_C_store_21 : decode prog_3_method_6_code 21 = .ok (.putfield 45, 3) := by decide +kernel
theorem d_C_store_24 : decode prog_3_method_6_code 24 = .ok (.aload_n 1, 1) := by decide +kernel
theorem d_C_store_25 : decode prog_3_method_6_code 25 = .ok (.aload_n 3, 1) := by decide +kernel
theorem d_C_store_26 : decode prog_3_method_6_code 26 = .ok (.getfield 95, 3) := by decide +kernel
theorem d_C_store_29 : decode prog_3_method_6_code 29 = .ok (.putfield 48, 3) := by decide +kernel
theorem d_C_store_32 : decode prog_3_method_6_code 32 = .ok (.aload_n 1, 1) := by decide +kernel
theorem d_C_store_33 : decode prog_3_method_6_code 33 = .ok (.aload_n 3, 1) := by decide +kernel
theorem d_C_store_34 : decode prog_3_method_6_code 34 = .ok (.getfield 80, 3) := by decide +kernel
theorem d_C_store_37 : decode prog_3_method_6_code 37 = .ok (.putfield 28, 3) := by decide +kernel
theorem d_C_store_40 : decode prog_3_method_6_code 40 = .ok (.aload_n 1, 1) := by decide +kernel
theorem d_C_store_41 : decode prog_3_method_6_code 41 = .ok (.aload_n 3, 1) := by decide +kernel
theorem d_C_store_42 : decode prog_3_method_6_code 42 = .ok (.getfield 96, 3) := by decide +kernel
theorem d_C_store_45 : decode prog_3_method_6_code 45 = .ok (.putfield 99, 3) := by decide +kernel
theorem d_C_store_48 : decode prog_3_method_6_code 48 = .ok (.aload_n 1, 1) := by decide +kernel
theorem d_C_store_49 : decode prog_3_method_6_code 49 = .ok (.aload_n 2, 1) := by decide +kernel
theorem d_C_store_50 : decode prog_3_method_6_code 50 = .ok (.getfield 39, 3) := by decide +kernel
theorem d_C_store_53 : decode prog_3_method_6_code 53 = .ok (.putfield 100, 3) := by decide +kernel
theorem d_C_store_56 : decode prog_3_method_6_code 56 = .ok (.aload_n 1, 1) := by decide +kernel
theorem d_C_store_57 : decode prog_3_method_6_code 57 = .ok (.aload_n 2, 1) := by decide +kernel
theorem d_C_store_58 : decode prog_3_method_6_code 58 = .ok (.getfield 73, 3) := by decide +kernel
theorem d_C_store_61 : decode prog_3_method_6_code 61 = .ok (.putfield 92, 3) := by decide +kernel
theorem d_C_store_64 : decode prog_3_method_6_code 64 = .ok (.return_, 1) := by decide +kernel
theorem d_C_renew_0 : decode prog_3_method_7_code 0 = .ok (.aload_n 1, 1) := by decide +kernel
theorem d_C_renew_1 : decode prog_3_method_7_code 1 = .ok (.getfield 45, 3) := by decide +kernel
theorem d_C_renew_4 : decode prog_3_method_7_code 4 = .ok (.ifCond .eq 25, 3) := by decide +kernel
theorem d_C_renew_7 : decode prog_3_method_7_code 7 = .ok (.aload_n 1, 1) := by decide +kernel
theorem d_C_renew_8 : decode prog_3_method_7_code 8 = .ok (.getfield 48, 3) := by decide +kernel
theorem d_C_renew_11 : decode prog_3_method_7_code 11 = .ok (.aload_n 3, 1) := by decide +kernel
theorem d_C_renew_12 : decode prog_3_method_7_code 12 = .ok (.getfield 95, 3) := by decide +kernel
theorem d_C_renew_15 : decode prog_3_method_7_code 15 = .ok (.if_icmp .ne 14, 3) := by decide +kernel
theorem d_C_renew_18 : decode prog_3_method_7_code 18 = .ok (.aload_n 1, 1) := by decide +kernel
theorem d_C_renew_19 : decode prog_3_method_7_code 19 = .ok (.getfield 92, 3) := by decide +kernel
theorem d_C_renew_22 : decode prog_3_method_7_code 22 = .ok (.aload_n 2, 1) := by decide +kernel
theorem d_C_renew_23 : decode prog_3_method_7_code 23 = .ok (.getfield 73, 3) := by decide +kernel
theorem d_C_renew_26 : decode prog_3_method_7_code 26 = .ok (.if_icmp .lt 4, 3) := by decide +kernel
theorem d_C_renew_29 : decode prog_3_method_7_code 29 = .ok (.return_, 1) := by decide +kernel
theorem d_C_renew_30 : decode prog_3_method_7_code 30 = .ok (.aload_n 1, 1) := by decide +kernel
theorem d_C_renew_31 : decode prog_3_method_7_code 31 = .ok (.aload_n 3, 1) := by decide +kernel
theorem d_C_renew_32 : decode prog_3_method_7_code 32 = .ok (.getfield 96, 3) := by decide +kernel
theorem d_C_renew_35 : decode prog_3_method_7_code 35 = .ok (.putfield 99, 3) := by decide +kernel
theorem d_C_renew_38 : decode prog_3_method_7_code 38 = .ok (.aload_n 1, 1) := by decide +kernel
theorem d_C_renew_39 : decode prog_3_method_7_code 39 = .ok (.aload_n 2, 1) := by decide +kernel
theorem d_C_renew_40 : decode prog_3_method_7_code 40 = .ok (.getfield 39, 3) := by decide +kernel
theorem d_C_renew_43 : decode prog_3_method_7_code 43 = .ok (.putfield 100, 3) := by decide +kernel
theorem d_C_renew_46 : decode prog_3_method_7_code 46 = .ok (.aload_n 1, 1) := by decide +kernel
theorem d_C_renew_47 : decode prog_3_method_7_code 47 = .ok (.aload_n 2, 1) := by decide +kernel
theorem d_C_renew_48 : decode prog_3_method_7_code 48 = .ok (.getfield 73, 3) := by decide +kernel
theorem d_C_renew_51 : decode prog_3_method_7_code 51 = .ok (.putfield 92, 3) := by decide +kernel
theorem d_C_renew_54 : decode prog_3_method_7_code 54 = .ok (.return_, 1) := by decide +kernel
theorem d_C_acknowledge_0 : decode prog_3_method_8_code 0 = .ok (.aload_n 2, 1) := by decide +kernel
theorem d_C_acknowledge_1 : decode prog_3_method_8_code 1 = .ok (.getfield 55, 3) := by decide +kernel
theorem d_C_acknowledge_4 : decode prog_3_method_8_code 4 = .ok (.ifCond .ne 4, 3) := by decide +kernel
theorem d_C_acknowledge_7 : decode prog_3_method_8_code 7 = .ok (.return_, 1) := by decide +kernel
theorem d_C_acknowledge_8 : decode prog_3_method_8_code 8 = .ok (.aload_n 3, 1) := by decide +kernel
theorem d_C_acknowledge_9 : decode prog_3_method_8_code 9 = .ok (.iconst 0, 1) := by decide +kernel
theorem d_C_acknowledge_10 : decode prog_3_method_8_code 10 = .ok (.aload_n 1, 1) := by decide +kernel
theorem d_C_acknowledge_11 : decode prog_3_method_8_code 11 = .ok (.getfield 73, 3) := by decide +kernel
theorem d_C_acknowledge_14 : decode prog_3_method_8_code 14 = .ok (.invokevirtual 103, 3) := by decide +kernel
theorem d_C_acknowledge_17 : decode prog_3_method_8_code 17 = .ok (.aload_n 0, 1) := by decide +kernel
theorem d_C_acknowledge_18 : decode prog_3_method_8_code 18 = .ok (.aload_n 0, 1) := by decide +kernel
theorem d_C_acknowledge_19 : decode prog_3_method_8_code 19 = .ok (.getfield 108, 3) := by decide +kernel
theorem d_C_acknowledge_22 : decode prog_3_method_8_code 22 = .ok (.aload_n 2, 1) := by decide +kernel
theorem d_C_acknowledge_23 : decode prog_3_method_8_code 23 = .ok (.getfield 55, 3) := by decide +kernel
theorem d_C_acknowledge_26 : decode prog_3_method_8_code 26 = .ok (.invokestatic 111, 3) := by decide +kernel
theorem d_C_acknowledge_29 : decode prog_3_method_8_code 29 = .ok (.putfield 108, 3) := by decide +kernel
theorem d_C_acknowledge_32 : decode prog_3_method_8_code 32 = .ok (.return_, 1) := by decide +kernel
theorem d_C_read_0 : decode prog_3_method_5_code 0 = .ok (.aload_n 0, 1) := by decide +kernel
theorem d_C_read_1 : decode prog_3_method_5_code 1 = .ok (.aload_n 1, 1) := by decide +kernel
theorem d_C_read_2 : decode prog_3_method_5_code 2 = .ok (.getfield 63, 3) := by decide +kernel
theorem d_C_read_5 : decode prog_3_method_5_code 5 = .ok (.invokevirtual 66, 3) := by decide +kernel
theorem d_C_read_8 : decode prog_3_method_5_code 8 = .ok (.astore 4, 2) := by decide +kernel
theorem d_C_read_10 : decode prog_3_method_5_code 10 = .ok (.aload 4, 2) := by decide +kernel
theorem d_C_read_12 : decode prog_3_method_5_code 12 = .ok (.ifnonnull 4, 3) := by decide +kernel
theorem d_C_read_15 : decode prog_3_method_5_code 15 = .ok (.return_, 1) := by decide +kernel
theorem d_C_read_16 : decode prog_3_method_5_code 16 = .ok (.aload_n 2, 1) := by decide +kernel
theorem d_C_read_17 : decode prog_3_method_5_code 17 = .ok (.getfield 70, 3) := by decide +kernel
theorem d_C_read_20 : decode prog_3_method_5_code 20 = .ok (.lookupswitch 119 #[(200, 36), (304, 81), (404, 101)], 36) := by decide +kernel
theorem d_C_read_56 : decode prog_3_method_5_code 56 = .ok (.aload_n 1, 1) := by decide +kernel
theorem d_C_read_57 : decode prog_3_method_5_code 57 = .ok (.getfield 18, 3) := by decide +kernel
theorem d_C_read_60 : decode prog_3_method_5_code 60 = .ok (.ifCond .eq 21, 3) := by decide +kernel
theorem d_C_read_63 : decode prog_3_method_5_code 63 = .ok (.aload_n 1, 1) := by decide +kernel
theorem d_C_read_64 : decode prog_3_method_5_code 64 = .ok (.iconst 4, 1) := by decide +kernel
theorem d_C_read_65 : decode prog_3_method_5_code 65 = .ok (.iconst 0, 1) := by decide +kernel
theorem d_C_read_66 : decode prog_3_method_5_code 66 = .ok (.invokevirtual 32, 3) := by decide +kernel
theorem d_C_read_69 : decode prog_3_method_5_code 69 = .ok (.aload 4, 2) := by decide +kernel
theorem d_C_read_71 : decode prog_3_method_5_code 71 = .ok (.aload_n 1, 1) := by decide +kernel
theorem d_C_read_72 : decode prog_3_method_5_code 72 = .ok (.getfield 73, 3) := by decide +kernel
theorem d_C_read_75 : decode prog_3_method_5_code 75 = .ok (.invokevirtual 76, 3) := by decide +kernel
theorem d_C_read_78 : decode prog_3_method_5_code 78 = .ok (.goto 67, 3) := by decide +kernel
theorem d_C_read_81 : decode prog_3_method_5_code 81 = .ok (.aload_n 1, 1) := by decide +kernel
theorem d_C_read_82 : decode prog_3_method_5_code 82 = .ok (.iconst 1, 1) := by decide +kernel
theorem d_C_read_83 : decode prog_3_method_5_code 83 = .ok (.aload_n 2, 1) := by decide +kernel
theorem d_C_read_84 : decode prog_3_method_5_code 84 = .ok (.getfield 80, 3) := by decide +kernel
theorem d_C_read_87 : decode prog_3_method_5_code 87 = .ok (.invokevirtual 32, 3) := by decide +kernel
theorem d_C_read_90 : decode prog_3_method_5_code 90 = .ok (.aload_n 0, 1) := by decide +kernel
theorem d_C_read_91 : decode prog_3_method_5_code 91 = .ok (.aload 4, 2) := by decide +kernel
theorem d_C_read_93 : decode prog_3_method_5_code 93 = .ok (.aload_n 1, 1) := by decide +kernel
theorem d_C_read_94 : decode prog_3_method_5_code 94 = .ok (.aload_n 2, 1) := by decide +kernel
theorem d_C_read_95 : decode prog_3_method_5_code 95 = .ok (.invokevirtual 81, 3) := by decide +kernel
theorem d_C_read_98 : decode prog_3_method_5_code 98 = .ok (.goto 47, 3) := by decide +kernel
theorem d_C_read_101 : decode prog_3_method_5_code 101 = .ok (.aload_n 1, 1) := by decide +kernel
theorem d_C_read_102 : decode prog_3_method_5_code 102 = .ok (.iconst 2, 1) := by decide +kernel
theorem d_C_read_103 : decode prog_3_method_5_code 103 = .ok (.aload_n 1, 1) := by decide +kernel
theorem d_C_read_104 : decode prog_3_method_5_code 104 = .ok (.getfield 52, 3) := by decide +kernel
theorem d_C_read_107 : decode prog_3_method_5_code 107 = .ok (.invokevirtual 32, 3) := by decide +kernel
theorem d_C_read_110 : decode prog_3_method_5_code 110 = .ok (.aload_n 0, 1) := by decide +kernel
theorem d_C_read_111 : decode prog_3_method_5_code 111 = .ok (.aload 4, 2) := by decide +kernel
theorem d_C_read_113 : decode prog_3_method_5_code 113 = .ok (.aload_n 1, 1) := by decide +kernel
theorem d_C_read_114 : decode prog_3_method_5_code 114 = .ok (.aload_n 2, 1) := by decide +kernel
theorem d_C_read_115 : decode prog_3_method_5_code 115 = .ok (.invokevirtual 85, 3) := by decide +kernel
theorem d_C_read_118 : decode prog_3_method_5_code 118 = .ok (.goto 27, 3) := by decide +kernel
theorem d_C_read_121 : decode prog_3_method_5_code 121 = .ok (.aload_n 1, 1) := by decide +kernel
theorem d_C_read_122 : decode prog_3_method_5_code 122 = .ok (.iconst 3, 1) := by decide +kernel
theorem d_C_read_123 : decode prog_3_method_5_code 123 = .ok (.iconst 0, 1) := by decide +kernel
theorem d_C_read_124 : decode prog_3_method_5_code 124 = .ok (.invokevirtual 32, 3) := by decide +kernel
theorem d_C_read_127 : decode prog_3_method_5_code 127 = .ok (.aload 4, 2) := by decide +kernel
theorem d_C_read_129 : decode prog_3_method_5_code 129 = .ok (.aload_n 1, 1) := by decide +kernel
theorem d_C_read_130 : decode prog_3_method_5_code 130 = .ok (.getfield 73, 3) := by decide +kernel
theorem d_C_read_133 : decode prog_3_method_5_code 133 = .ok (.invokevirtual 76, 3) := by decide +kernel
theorem d_C_read_136 : decode prog_3_method_5_code 136 = .ok (.goto 9, 3) := by decide +kernel
theorem d_C_read_139 : decode prog_3_method_5_code 139 = .ok (.aload_n 1, 1) := by decide +kernel
theorem d_C_read_140 : decode prog_3_method_5_code 140 = .ok (.iconst 5, 1) := by decide +kernel
theorem d_C_read_141 : decode prog_3_method_5_code 141 = .ok (.iconst 0, 1) := by decide +kernel
theorem d_C_read_142 : decode prog_3_method_5_code 142 = .ok (.invokevirtual 32, 3) := by decide +kernel
theorem d_C_read_145 : decode prog_3_method_5_code 145 = .ok (.aload_n 0, 1) := by decide +kernel
theorem d_C_read_146 : decode prog_3_method_5_code 146 = .ok (.aload_n 1, 1) := by decide +kernel
theorem d_C_read_147 : decode prog_3_method_5_code 147 = .ok (.aload_n 2, 1) := by decide +kernel
theorem d_C_read_148 : decode prog_3_method_5_code 148 = .ok (.aload_n 3, 1) := by decide +kernel
theorem d_C_read_149 : decode prog_3_method_5_code 149 = .ok (.invokevirtual 88, 3) := by decide +kernel
theorem d_C_read_152 : decode prog_3_method_5_code 152 = .ok (.return_, 1) := by decide +kernel
theorem d_Q_settle_0 : decode prog_5_method_2_code 0 = .ok (.aload_n 0, 1) := by decide +kernel
theorem d_Q_settle_1 : decode prog_5_method_2_code 1 = .ok (.iload_n 1, 1) := by decide +kernel
theorem d_Q_settle_2 : decode prog_5_method_2_code 2 = .ok (.putfield 31, 3) := by decide +kernel
theorem d_Q_settle_5 : decode prog_5_method_2_code 5 = .ok (.aload_n 0, 1) := by decide +kernel
theorem d_Q_settle_6 : decode prog_5_method_2_code 6 = .ok (.iload_n 2, 1) := by decide +kernel
theorem d_Q_settle_7 : decode prog_5_method_2_code 7 = .ok (.putfield 34, 3) := by decide +kernel
theorem d_Q_settle_10 : decode prog_5_method_2_code 10 = .ok (.return_, 1) := by decide +kernel
theorem d_Q_init_0 : decode prog_5_method_1_code 0 = .ok (.aload_n 0, 1) := by decide +kernel
theorem d_Q_init_1 : decode prog_5_method_1_code 1 = .ok (.invokespecial 3, 3) := by decide +kernel
theorem d_Q_init_4 : decode prog_5_method_1_code 4 = .ok (.aload_n 0, 1) := by decide +kernel
theorem d_Q_init_5 : decode prog_5_method_1_code 5 = .ok (.iload_n 1, 1) := by decide +kernel
theorem d_Q_init_6 : decode prog_5_method_1_code 6 = .ok (.putfield 9, 3) := by decide +kernel
theorem d_Q_init_9 : decode prog_5_method_1_code 9 = .ok (.aload_n 0, 1) := by decide +kernel
theorem d_Q_init_10 : decode prog_5_method_1_code 10 = .ok (.iload_n 2, 1) := by decide +kernel
theorem d_Q_init_11 : decode prog_5_method_1_code 11 = .ok (.putfield 15, 3) := by decide +kernel
theorem d_Q_init_14 : decode prog_5_method_1_code 14 = .ok (.aload_n 0, 1) := by decide +kernel
theorem d_Q_init_15 : decode prog_5_method_1_code 15 = .ok (.iload_n 3, 1) := by decide +kernel
theorem d_Q_init_16 : decode prog_5_method_1_code 16 = .ok (.putfield 18, 3) := by decide +kernel
theorem d_Q_init_19 : decode prog_5_method_1_code 19 = .ok (.aload_n 0, 1) := by decide +kernel
theorem d_Q_init_20 : decode prog_5_method_1_code 20 = .ok (.iload 4, 2) := by decide +kernel
theorem d_Q_init_22 : decode prog_5_method_1_code 22 = .ok (.putfield 22, 3) := by decide +kernel
theorem d_Q_init_25 : decode prog_5_method_1_code 25 = .ok (.aload_n 0, 1) := by decide +kernel
theorem d_Q_init_26 : decode prog_5_method_1_code 26 = .ok (.iload 5, 2) := by decide +kernel
theorem d_Q_init_28 : decode prog_5_method_1_code 28 = .ok (.putfield 25, 3) := by decide +kernel
theorem d_Q_init_31 : decode prog_5_method_1_code 31 = .ok (.aload_n 0, 1) := by decide +kernel
theorem d_Q_init_32 : decode prog_5_method_1_code 32 = .ok (.iconst 0, 1) := by decide +kernel
theorem d_Q_init_33 : decode prog_5_method_1_code 33 = .ok (.putfield 28, 3) := by decide +kernel
theorem d_Q_init_36 : decode prog_5_method_1_code 36 = .ok (.aload_n 0, 1) := by decide +kernel
theorem d_Q_init_37 : decode prog_5_method_1_code 37 = .ok (.iconst 0, 1) := by decide +kernel
theorem d_Q_init_38 : decode prog_5_method_1_code 38 = .ok (.putfield 31, 3) := by decide +kernel
theorem d_Q_init_41 : decode prog_5_method_1_code 41 = .ok (.return_, 1) := by decide +kernel
theorem d_F_append_0 : decode prog_4_method_2_code 0 = .ok (.aload_n 0, 1) := by decide +kernel
theorem d_F_append_1 : decode prog_4_method_2_code 1 = .ok (.getfield 18, 3) := by decide +kernel
theorem d_F_append_4 : decode prog_4_method_2_code 4 = .ok (.aload_n 0, 1) := by decide +kernel
theorem d_F_append_5 : decode prog_4_method_2_code 5 = .ok (.getfield 9, 3) := by decide +kernel
theorem d_F_append_8 : decode prog_4_method_2_code 8 = .ok (.arraylength, 1) := by decide +kernel
theorem d_F_append_9 : decode prog_4_method_2_code 9 = .ok (.if_icmp .ge 15, 3) := by decide +kernel
theorem d_F_append_12 : decode prog_4_method_2_code 12 = .ok (.aload_n 0, 1) := by decide +kernel
theorem d_F_append_13 : decode prog_4_method_2_code 13 = .ok (.getfield 18, 3) := by decide +kernel
theorem d_F_append_16 : decode prog_4_method_2_code 16 = .ok (.aload_n 0, 1) := by decide +kernel
theorem d_F_append_17 : decode prog_4_method_2_code 17 = .ok (.getfield 15, 3) := by decide +kernel
theorem d_F_append_20 : decode prog_4_method_2_code 20 = .ok (.arraylength, 1) := by decide +kernel
theorem d_F_append_21 : decode prog_4_method_2_code 21 = .ok (.if_icmp .lt 4, 3) := by decide +kernel
theorem d_F_append_24 : decode prog_4_method_2_code 24 = .ok (.return_, 1) := by decide +kernel
theorem d_F_append_25 : decode prog_4_method_2_code 25 = .ok (.aload_n 0, 1) := by decide +kernel
theorem d_F_append_26 : decode prog_4_method_2_code 26 = .ok (.getfield 9, 3) := by decide +kernel
theorem d_F_append_29 : decode prog_4_method_2_code 29 = .ok (.aload_n 0, 1) := by decide +kernel
theorem d_F_append_30 : decode prog_4_method_2_code 30 = .ok (.getfield 18, 3) := by decide +kernel
theorem d_F_append_33 : decode prog_4_method_2_code 33 = .ok (.iload_n 1, 1) := by decide +kernel
theorem d_F_append_34 : decode prog_4_method_2_code 34 = .ok (.iastore, 1) := by decide +kernel
theorem d_F_append_35 : decode prog_4_method_2_code 35 = .ok (.aload_n 0, 1) := by decide +kernel
theorem d_F_append_36 : decode prog_4_method_2_code 36 = .ok (.getfield 15, 3) := by decide +kernel
theorem d_F_append_39 : decode prog_4_method_2_code 39 = .ok (.aload_n 0, 1) := by decide +kernel
theorem d_F_append_40 : decode prog_4_method_2_code 40 = .ok (.getfield 18, 3) := by decide +kernel
theorem d_F_append_43 : decode prog_4_method_2_code 43 = .ok (.iload_n 2, 1) := by decide +kernel
theorem d_F_append_44 : decode prog_4_method_2_code 44 = .ok (.iastore, 1) := by decide +kernel
theorem d_F_append_45 : decode prog_4_method_2_code 45 = .ok (.aload_n 0, 1) := by decide +kernel
theorem d_F_append_46 : decode prog_4_method_2_code 46 = .ok (.dup, 1) := by decide +kernel
theorem d_F_append_47 : decode prog_4_method_2_code 47 = .ok (.getfield 18, 3) := by decide +kernel
theorem d_F_append_50 : decode prog_4_method_2_code 50 = .ok (.iconst 1, 1) := by decide +kernel
theorem d_F_append_51 : decode prog_4_method_2_code 51 = .ok (.iadd, 1) := by decide +kernel
theorem d_F_append_52 : decode prog_4_method_2_code 52 = .ok (.putfield 18, 3) := by decide +kernel
theorem d_F_append_55 : decode prog_4_method_2_code 55 = .ok (.return_, 1) := by decide +kernel
theorem d_F_init_0 : decode prog_4_method_1_code 0 = .ok (.aload_n 0, 1) := by decide +kernel
theorem d_F_init_1 : decode prog_4_method_1_code 1 = .ok (.invokespecial 3, 3) := by decide +kernel
theorem d_F_init_4 : decode prog_4_method_1_code 4 = .ok (.aload_n 0, 1) := by decide +kernel
theorem d_F_init_5 : decode prog_4_method_1_code 5 = .ok (.sipush 240, 3) := by decide +kernel
theorem d_F_init_8 : decode prog_4_method_1_code 8 = .ok (.newarray .int, 2) := by decide +kernel
theorem d_F_init_10 : decode prog_4_method_1_code 10 = .ok (.putfield 9, 3) := by decide +kernel
theorem d_F_init_13 : decode prog_4_method_1_code 13 = .ok (.aload_n 0, 1) := by decide +kernel
theorem d_F_init_14 : decode prog_4_method_1_code 14 = .ok (.sipush 240, 3) := by decide +kernel
theorem d_F_init_17 : decode prog_4_method_1_code 17 = .ok (.newarray .int, 2) := by decide +kernel
theorem d_F_init_19 : decode prog_4_method_1_code 19 = .ok (.putfield 15, 3) := by decide +kernel
theorem d_F_init_22 : decode prog_4_method_1_code 22 = .ok (.return_, 1) := by decide +kernel
theorem d_F_nextKind_0 : decode prog_4_method_3_code 0 = .ok (.aload_n 0, 1) := by decide +kernel
theorem d_F_nextKind_1 : decode prog_4_method_3_code 1 = .ok (.getfield 22, 3) := by decide +kernel
theorem d_F_nextKind_4 : decode prog_4_method_3_code 4 = .ok (.aload_n 0, 1) := by decide +kernel
theorem d_F_nextKind_5 : decode prog_4_method_3_code 5 = .ok (.getfield 18, 3) := by decide +kernel
theorem d_F_nextKind_8 : decode prog_4_method_3_code 8 = .ok (.if_icmp .ge 27, 3) := by decide +kernel
theorem d_F_nextKind_11 : decode prog_4_method_3_code 11 = .ok (.aload_n 0, 1) := by decide +kernel
theorem d_F_nextKind_12 : decode prog_4_method_3_code 12 = .ok (.getfield 22, 3) := by decide +kernel
theorem d_F_nextKind_15 : decode prog_4_method_3_code 15 = .ok (.aload_n 0, 1) := by decide +kernel
theorem d_F_nextKind_16 : decode prog_4_method_3_code 16 = .ok (.getfield 9, 3) := by decide +kernel
theorem d_F_nextKind_19 : decode prog_4_method_3_code 19 = .ok (.arraylength, 1) := by decide +kernel
theorem d_F_nextKind_20 : decode prog_4_method_3_code 20 = .ok (.if_icmp .ge 15, 3) := by decide +kernel
theorem d_F_nextKind_23 : decode prog_4_method_3_code 23 = .ok (.aload_n 0, 1) := by decide +kernel
theorem d_F_nextKind_24 : decode prog_4_method_3_code 24 = .ok (.getfield 9, 3) := by decide +kernel
theorem d_F_nextKind_27 : decode prog_4_method_3_code 27 = .ok (.aload_n 0, 1) := by decide +kernel
theorem d_F_nextKind_28 : decode prog_4_method_3_code 28 = .ok (.getfield 22, 3) := by decide +kernel
theorem d_F_nextKind_31 : decode prog_4_method_3_code 31 = .ok (.iaload, 1) := by decide +kernel
theorem d_F_nextKind_32 : decode prog_4_method_3_code 32 = .ok (.goto 4, 3) := by decide +kernel
theorem d_F_nextKind_35 : decode prog_4_method_3_code 35 = .ok (.iconst (-1), 1) := by decide +kernel
theorem d_F_nextKind_36 : decode prog_4_method_3_code 36 = .ok (.ireturn, 1) := by decide +kernel
theorem d_F_nextNumber_0 : decode prog_4_method_4_code 0 = .ok (.aload_n 0, 1) := by decide +kernel
theorem d_F_nextNumber_1 : decode prog_4_method_4_code 1 = .ok (.getfield 22, 3) := by decide +kernel
theorem d_F_nextNumber_4 : decode prog_4_method_4_code 4 = .ok (.aload_n 0, 1) := by decide +kernel
theorem d_F_nextNumber_5 : decode prog_4_method_4_code 5 = .ok (.getfield 18, 3) := by decide +kernel
theorem d_F_nextNumber_8 : decode prog_4_method_4_code 8 = .ok (.if_icmp .ge 27, 3) := by decide +kernel
theorem d_F_nextNumber_11 : decode prog_4_method_4_code 11 = .ok (.aload_n 0, 1) := by decide +kernel
theorem d_F_nextNumber_12 : decode prog_4_method_4_code 12 = .ok (.getfield 22, 3) := by decide +kernel
theorem d_F_nextNumber_15 : decode prog_4_method_4_code 15 = .ok (.aload_n 0, 1) := by decide +kernel
theorem d_F_nextNumber_16 : decode prog_4_method_4_code 16 = .ok (.getfield 15, 3) := by decide +kernel
theorem d_F_nextNumber_19 : decode prog_4_method_4_code 19 = .ok (.arraylength, 1) := by decide +kernel
theorem d_F_nextNumber_20 : decode prog_4_method_4_code 20 = .ok (.if_icmp .ge 15, 3) := by decide +kernel
theorem d_F_nextNumber_23 : decode prog_4_method_4_code 23 = .ok (.aload_n 0, 1) := by decide +kernel
theorem d_F_nextNumber_24 : decode prog_4_method_4_code 24 = .ok (.getfield 15, 3) := by decide +kernel
theorem d_F_nextNumber_27 : decode prog_4_method_4_code 27 = .ok (.aload_n 0, 1) := by decide +kernel
theorem d_F_nextNumber_28 : decode prog_4_method_4_code 28 = .ok (.getfield 22, 3) := by decide +kernel
theorem d_F_nextNumber_31 : decode prog_4_method_4_code 31 = .ok (.iaload, 1) := by decide +kernel
theorem d_F_nextNumber_32 : decode prog_4_method_4_code 32 = .ok (.goto 4, 3) := by decide +kernel
theorem d_F_nextNumber_35 : decode prog_4_method_4_code 35 = .ok (.iconst (-1), 1) := by decide +kernel
theorem d_F_nextNumber_36 : decode prog_4_method_4_code 36 = .ok (.ireturn, 1) := by decide +kernel
theorem d_F_moveOn_0 : decode prog_4_method_5_code 0 = .ok (.aload_n 0, 1) := by decide +kernel
theorem d_F_moveOn_1 : decode prog_4_method_5_code 1 = .ok (.getfield 22, 3) := by decide +kernel
theorem d_F_moveOn_4 : decode prog_4_method_5_code 4 = .ok (.aload_n 0, 1) := by decide +kernel
theorem d_F_moveOn_5 : decode prog_4_method_5_code 5 = .ok (.getfield 18, 3) := by decide +kernel
theorem d_F_moveOn_8 : decode prog_4_method_5_code 8 = .ok (.if_icmp .ge 13, 3) := by decide +kernel
theorem d_F_moveOn_11 : decode prog_4_method_5_code 11 = .ok (.aload_n 0, 1) := by decide +kernel
theorem d_F_moveOn_12 : decode prog_4_method_5_code 12 = .ok (.dup, 1) := by decide +kernel
theorem d_F_moveOn_13 : decode prog_4_method_5_code 13 = .ok (.getfield 22, 3) := by decide +kernel
theorem d_F_moveOn_16 : decode prog_4_method_5_code 16 = .ok (.iconst 1, 1) := by decide +kernel
theorem d_F_moveOn_17 : decode prog_4_method_5_code 17 = .ok (.iadd, 1) := by decide +kernel
theorem d_F_moveOn_18 : decode prog_4_method_5_code 18 = .ok (.putfield 22, 3) := by decide +kernel
theorem d_F_moveOn_21 : decode prog_4_method_5_code 21 = .ok (.return_, 1) := by decide +kernel
theorem d_O_init_0 : decode prog_6_method_1_code 0 = .ok (.aload_n 0, 1) := by decide +kernel
theorem d_O_init_1 : decode prog_6_method_1_code 1 = .ok (.invokespecial 1, 3) := by decide +kernel
theorem d_O_init_4 : decode prog_6_method_1_code 4 = .ok (.return_, 1) := by decide +kernel
theorem d_T_init_0 : decode prog_9_method_1_code 0 = .ok (.aload_n 0, 1) := by decide +kernel
theorem d_T_init_1 : decode prog_9_method_1_code 1 = .ok (.invokespecial 3, 3) := by decide +kernel
theorem d_T_init_4 : decode prog_9_method_1_code 4 = .ok (.aload_n 0, 1) := by decide +kernel
theorem d_T_init_5 : decode prog_9_method_1_code 5 = .ok (.iconst 5, 1) := by decide +kernel
theorem d_T_init_6 : decode prog_9_method_1_code 6 = .ok (.newarray .int, 2) := by decide +kernel
theorem d_T_init_8 : decode prog_9_method_1_code 8 = .ok (.putfield 9, 3) := by decide +kernel
theorem d_T_init_11 : decode prog_9_method_1_code 11 = .ok (.aload_n 0, 1) := by decide +kernel
theorem d_T_init_12 : decode prog_9_method_1_code 12 = .ok (.iconst 5, 1) := by decide +kernel
theorem d_T_init_13 : decode prog_9_method_1_code 13 = .ok (.newarray .int, 2) := by decide +kernel
theorem d_T_init_15 : decode prog_9_method_1_code 15 = .ok (.putfield 15, 3) := by decide +kernel
theorem d_T_init_18 : decode prog_9_method_1_code 18 = .ok (.aload_n 0, 1) := by decide +kernel
theorem d_T_init_19 : decode prog_9_method_1_code 19 = .ok (.bipush 60, 2) := by decide +kernel
theorem d_T_init_21 : decode prog_9_method_1_code 21 = .ok (.anewarray 18, 3) := by decide +kernel
theorem d_T_init_24 : decode prog_9_method_1_code 24 = .ok (.putfield 20, 3) := by decide +kernel
theorem d_T_init_27 : decode prog_9_method_1_code 27 = .ok (.return_, 1) := by decide +kernel
theorem d_T_outstandingNeeding_0 : decode prog_9_method_9_code 0 = .ok (.iconst 0, 1) := by decide +kernel
theorem d_T_outstandingNeeding_1 : decode prog_9_method_9_code 1 = .ok (.istore_n 2, 1) := by decide +kernel
theorem d_T_outstandingNeeding_2 : decode prog_9_method_9_code 2 = .ok (.iconst 0, 1) := by decide +kernel
theorem d_T_outstandingNeeding_3 : decode prog_9_method_9_code 3 = .ok (.istore_n 3, 1) := by decide +kernel
theorem d_T_outstandingNeeding_4 : decode prog_9_method_9_code 4 = .ok (.iload_n 3, 1) := by decide +kernel
theorem d_T_outstandingNeeding_5 : decode prog_9_method_9_code 5 = .ok (.aload_n 0, 1) := by decide +kernel
theorem d_T_outstandingNeeding_6 : decode prog_9_method_9_code 6 = .ok (.getfield 67, 3) := by decide +kernel
theorem d_T_outstandingNeeding_9 : decode prog_9_method_9_code 9 = .ok (.if_icmp .ge 51, 3) := by decide +kernel
theorem d_T_outstandingNeeding_12 : decode prog_9_method_9_code 12 = .ok (.iload_n 3, 1) := by decide +kernel
theorem d_T_outstandingNeeding_13 : decode prog_9_method_9_code 13 = .ok (.aload_n 0, 1) := by decide +kernel
theorem d_T_outstandingNeeding_14 : decode prog_9_method_9_code 14 = .ok (.getfield 20, 3) := by decide +kernel
theorem d_T_outstandingNeeding_17 : decode prog_9_method_9_code 17 = .ok (.arraylength, 1) := by decide +kernel
theorem d_T_outstandingNeeding_18 : decode prog_9_method_9_code 18 = .ok (.if_icmp .ge 42, 3) := by decide +kernel
theorem d_T_outstandingNeeding_21 : decode prog_9_method_9_code 21 = .ok (.aload_n 0, 1) := by decide +kernel
theorem d_T_outstandingNeeding_22 : decode prog_9_method_9_code 22 = .ok (.getfield 20, 3) := by decide +kernel
theorem d_T_outstandingNeeding_25 : decode prog_9_method_9_code 25 = .ok (.iload_n 3, 1) := by decide +kernel
theorem d_T_outstandingNeeding_26 : decode prog_9_method_9_code 26 = .ok (.aaload, 1) := by decide +kernel
theorem d_T_outstandingNeeding_27 : decode prog_9_method_9_code 27 = .ok (.astore 4, 2) := by decide +kernel
theorem d_T_outstandingNeeding_29 : decode prog_9_method_9_code 29 = .ok (.aload 4, 2) := by decide +kernel
theorem d_T_outstandingNeeding_31 : decode prog_9_method_9_code 31 = .ok (.ifnull 23, 3) := by decide +kernel
theorem d_T_outstandingNeeding_34 : decode prog_9_method_9_code 34 = .ok (.aload 4, 2) := by decide +kernel
theorem d_T_outstandingNeeding_36 : decode prog_9_method_9_code 36 = .ok (.getfield 70, 3) := by decide +kernel
theorem d_T_outstandingNeeding_39 : decode prog_9_method_9_code 39 = .ok (.ifCond .eq 15, 3) := by decide +kernel
theorem d_T_outstandingNeeding_42 : decode prog_9_method_9_code 42 = .ok (.aload 4, 2) := by decide +kernel
theorem d_T_outstandingNeeding_44 : decode prog_9_method_9_code 44 = .ok (.getfield 37, 3) := by decide +kernel
theorem d_T_outstandingNeeding_47 : decode prog_9_method_9_code 47 = .ok (.iload_n 1, 1) := by decide +kernel
theorem d_T_outstandingNeeding_48 : decode prog_9_method_9_code 48 = .ok (.if_icmp .lt 6, 3) := by decide +kernel
theorem d_T_outstandingNeeding_51 : decode prog_9_method_9_code 51 = .ok (.iinc 2 1, 3) := by decide +kernel
theorem d_T_outstandingNeeding_54 : decode prog_9_method_9_code 54 = .ok (.iinc 3 1, 3) := by decide +kernel
theorem d_T_outstandingNeeding_57 : decode prog_9_method_9_code 57 = .ok (.goto (-53), 3) := by decide +kernel
theorem d_T_outstandingNeeding_60 : decode prog_9_method_9_code 60 = .ok (.iload_n 2, 1) := by decide +kernel
theorem d_T_outstandingNeeding_61 : decode prog_9_method_9_code 61 = .ok (.ireturn, 1) := by decide +kernel
theorem d_T_atRisk_0 : decode prog_9_method_8_code 0 = .ok (.aload_n 0, 1) := by decide +kernel
theorem d_T_atRisk_1 : decode prog_9_method_8_code 1 = .ok (.aload_n 0, 1) := by decide +kernel
theorem d_T_atRisk_2 : decode prog_9_method_8_code 2 = .ok (.getfield 40, 3) := by decide +kernel
theorem d_T_atRisk_5 : decode prog_9_method_8_code 5 = .ok (.iconst 1, 1) := by decide +kernel
theorem d_T_atRisk_6 : decode prog_9_method_8_code 6 = .ok (.iadd, 1) := by decide +kernel
theorem d_T_atRisk_7 : decode prog_9_method_8_code 7 = .ok (.invokevirtual 77, 3) := by decide +kernel
theorem d_T_atRisk_10 : decode prog_9_method_8_code 10 = .ok (.ireturn, 1) := by decide +kernel
theorem d_T_liveCount_0 : decode prog_9_method_2_code 0 = .ok (.aload_n 0, 1) := by decide +kernel
theorem d_T_liveCount_1 : decode prog_9_method_2_code 1 = .ok (.getfield 24, 3) := by decide +kernel
theorem d_T_liveCount_4 : decode prog_9_method_2_code 4 = .ok (.iconst 5, 1) := by decide +kernel
theorem d_T_liveCount_5 : decode prog_9_method_2_code 5 = .ok (.invokestatic 28, 3) := by decide +kernel
theorem d_T_liveCount_8 : decode prog_9_method_2_code 8 = .ok (.ireturn, 1) := by decide +kernel
theorem d_T_nameOf_0 : decode prog_9_method_3_code 0 = .ok (.aload_n 0, 1) := by decide +kernel
theorem d_T_nameOf_1 : decode prog_9_method_3_code 1 = .ok (.getfield 9, 3) := by decide +kernel
theorem d_T_nameOf_4 : decode prog_9_method_3_code 4 = .ok (.iload_n 1, 1) := by decide +kernel
theorem d_T_nameOf_5 : decode prog_9_method_3_code 5 = .ok (.iconst 5, 1) := by decide +kernel
theorem d_T_nameOf_6 : decode prog_9_method_3_code 6 = .ok (.invokestatic 34, 3) := by decide +kernel
theorem d_T_nameOf_9 : decode prog_9_method_3_code 9 = .ok (.iaload, 1) := by decide +kernel
theorem d_T_nameOf_10 : decode prog_9_method_3_code 10 = .ok (.ireturn, 1) := by decide +kernel
theorem d_T_valueOf_0 : decode prog_9_method_4_code 0 = .ok (.aload_n 0, 1) := by decide +kernel
theorem d_T_valueOf_1 : decode prog_9_method_4_code 1 = .ok (.getfield 15, 3) := by decide +kernel
theorem d_T_valueOf_4 : decode prog_9_method_4_code 4 = .ok (.iload_n 1, 1) := by decide +kernel
theorem d_T_valueOf_5 : decode prog_9_method_4_code 5 = .ok (.iconst 5, 1) := by decide +kernel
theorem d_T_valueOf_6 : decode prog_9_method_4_code 6 = .ok (.invokestatic 34, 3) := by decide +kernel
theorem d_T_valueOf_9 : decode prog_9_method_4_code 9 = .ok (.iaload, 1) := by decide +kernel
theorem d_T_valueOf_10 : decode prog_9_method_4_code 10 = .ok (.ireturn, 1) := by decide +kernel
theorem d_T_findLive_0 : decode prog_9_method_11_code 0 = .ok (.aload_n 0, 1) := by decide +kernel
theorem d_T_findLive_1 : decode prog_9_method_11_code 1 = .ok (.getfield 24, 3) := by decide +kernel
theorem d_T_findLive_4 : decode prog_9_method_11_code 4 = .ok (.aload_n 0, 1) := by decide +kernel
theorem d_T_findLive_5 : decode prog_9_method_11_code 5 = .ok (.invokevirtual 85, 3) := by decide +kernel
theorem d_T_findLive_8 : decode prog_9_method_11_code 8 = .ok (.isub, 1) := by decide +kernel
theorem d_T_findLive_9 : decode prog_9_method_11_code 9 = .ok (.istore_n 3, 1) := by decide +kernel
theorem d_T_findLive_10 : decode prog_9_method_11_code 10 = .ok (.aload_n 0, 1) := by decide +kernel
theorem d_T_findLive_11 : decode prog_9_method_11_code 11 = .ok (.getfield 24, 3) := by decide +kernel
theorem d_T_findLive_14 : decode prog_9_method_11_code 14 = .ok (.iconst 1, 1) := by decide +kernel
theorem d_T_findLive_15 : decode prog_9_method_11_code 15 = .ok (.isub, 1) := by decide +kernel
theorem d_T_findLive_16 : decode prog_9_method_11_code 16 = .ok (.istore 4, 2) := by decide +kernel
theorem d_T_findLive_18 : decode prog_9_method_11_code 18 = .ok (.iload 4, 2) := by decide +kernel
theorem d_T_findLive_20 : decode prog_9_method_11_code 20 = .ok (.iload_n 3, 1) := by decide +kernel
theorem d_T_findLive_21 : decode prog_9_method_11_code 21 = .ok (.if_icmp .lt 32, 3) := by decide +kernel
theorem d_T_findLive_24 : decode prog_9_method_11_code 24 = .ok (.aload_n 0, 1) := by decide +kernel
theorem d_T_findLive_25 : decode prog_9_method_11_code 25 = .ok (.iload 4, 2) := by decide +kernel
theorem d_T_findLive_27 : decode prog_9_method_11_code 27 = .ok (.invokevirtual 88, 3) := by decide +kernel
theorem d_T_findLive_30 : decode prog_9_method_11_code 30 = .ok (.iload_n 1, 1) := by decide +kernel
theorem d_T_findLive_31 : decode prog_9_method_11_code 31 = .ok (.if_icmp .ne 16, 3) := by decide +kernel
theorem d_T_findLive_34 : decode prog_9_method_11_code 34 = .ok (.aload_n 0, 1) := by decide +kernel
theorem d_T_findLive_35 : decode prog_9_method_11_code 35 = .ok (.iload 4, 2) := by decide +kernel
theorem d_T_findLive_37 : decode prog_9_method_11_code 37 = .ok (.invokevirtual 91, 3) := by decide +kernel
theorem d_T_findLive_40 : decode prog_9_method_11_code 40 = .ok (.iload_n 2, 1) := by decide +kernel
theorem d_T_findLive_41 : decode prog_9_method_11_code 41 = .ok (.if_icmp .ne 6, 3) := by decide +kernel
theorem d_T_findLive_44 : decode prog_9_method_11_code 44 = .ok (.iload 4, 2) := by decide +kernel
theorem d_T_findLive_46 : decode prog_9_method_11_code 46 = .ok (.ireturn, 1) := by decide +kernel
theorem d_T_findLive_47 : decode prog_9_method_11_code 47 = .ok (.iinc 4 (-1), 3) := by decide +kernel
theorem d_T_findLive_50 : decode prog_9_method_11_code 50 = .ok (.goto (-32), 3) := by decide +kernel
theorem d_T_findLive_53 : decode prog_9_method_11_code 53 = .ok (.iconst (-1), 1) := by decide +kernel
theorem d_T_findLive_54 : decode prog_9_method_11_code 54 = .ok (.ireturn, 1) := by decide +kernel
theorem d_T_refer_0 : decode prog_9_method_14_code 0 = .ok (.aload_n 1, 1) := by decide +kernel
theorem d_T_refer_1 : decode prog_9_method_14_code 1 = .ok (.iload_n 2, 1) := by decide +kernel
theorem d_T_refer_2 : decode prog_9_method_14_code 2 = .ok (.invokevirtual 97, 3) := by decide +kernel
theorem d_T_refer_5 : decode prog_9_method_14_code 5 = .ok (.aload_n 0, 1) := by decide +kernel
theorem d_T_refer_6 : decode prog_9_method_14_code 6 = .ok (.dup, 1) := by decide +kernel
theorem d_T_refer_7 : decode prog_9_method_14_code 7 = .ok (.getfield 101, 3) := by decide +kernel
theorem d_T_refer_10 : decode prog_9_method_14_code 10 = .ok (.iconst 1, 1) := by decide +kernel
theorem d_T_refer_11 : decode prog_9_method_14_code 11 = .ok (.iadd, 1) := by decide +kernel
theorem d_T_refer_12 : decode prog_9_method_14_code 12 = .ok (.putfield 101, 3) := by decide +kernel
theorem d_T_refer_15 : decode prog_9_method_14_code 15 = .ok (.return_, 1) := by decide +kernel
theorem d_T_referencesTo_0 : decode prog_9_method_10_code 0 = .ok (.iconst 0, 1) := by decide +kernel
theorem d_T_referencesTo_1 : decode prog_9_method_10_code 1 = .ok (.istore_n 2, 1) := by decide +kernel
theorem d_T_referencesTo_2 : decode prog_9_method_10_code 2 = .ok (.iconst 0, 1) := by decide +kernel
theorem d_T_referencesTo_3 : decode prog_9_method_10_code 3 = .ok (.istore_n 3, 1) := by decide +kernel
theorem d_T_referencesTo_4 : decode prog_9_method_10_code 4 = .ok (.iload_n 3, 1) := by decide +kernel
theorem d_T_referencesTo_5 : decode prog_9_method_10_code 5 = .ok (.aload_n 0, 1) := by decide +kernel
theorem d_T_referencesTo_6 : decode prog_9_method_10_code 6 = .ok (.getfield 67, 3) := by decide +kernel
theorem d_T_referencesTo_9 : decode prog_9_method_10_code 9 = .ok (.if_icmp .ge 51, 3) := by decide +kernel
theorem d_T_referencesTo_12 : decode prog_9_method_10_code 12 = .ok (.iload_n 3, 1) := by decide +kernel
theorem d_T_referencesTo_13 : decode prog_9_method_10_code 13 = .ok (.aload_n 0, 1) := by decide +kernel
theorem d_T_referencesTo_14 : decode prog_9_method_10_code 14 = .ok (.getfield 20, 3) := by decide +kernel
theorem d_T_referencesTo_17 : decode prog_9_method_10_code 17 = .ok (.arraylength, 1) := by decide +kernel
theorem d_T_referencesTo_18 : decode prog_9_method_10_code 18 = .ok (.if_icmp .ge 42, 3) := by decide +kernel
theorem d_T_referencesTo_21 : decode prog_9_method_10_code 21 = .ok (.aload_n 0, 1) := by decide +kernel
theorem d_T_referencesTo_22 : decode prog_9_method_10_code 22 = .ok (.getfield 20, 3) := by decide +kernel
theorem d_T_referencesTo_25 : decode prog_9_method_10_code 25 = .ok (.iload_n 3, 1) := by decide +kernel
theorem d_T_referencesTo_26 : decode prog_9_method_10_code 26 = .ok (.aaload, 1) := by decide +kernel
theorem d_T_referencesTo_27 : decode prog_9_method_10_code 27 = .ok (.astore 4, 2) := by decide +kernel
theorem d_T_referencesTo_29 : decode prog_9_method_10_code 29 = .ok (.aload 4, 2) := by decide +kernel
theorem d_T_referencesTo_31 : decode prog_9_method_10_code 31 = .ok (.ifnull 23, 3) := by decide +kernel
theorem d_T_referencesTo_34 : decode prog_9_method_10_code 34 = .ok (.aload 4, 2) := by decide +kernel
theorem d_T_referencesTo_36 : decode prog_9_method_10_code 36 = .ok (.getfield 70, 3) := by decide +kernel
theorem d_T_referencesTo_39 : decode prog_9_method_10_code 39 = .ok (.ifCond .eq 15, 3) := by decide +kernel
theorem d_T_referencesTo_42 : decode prog_9_method_10_code 42 = .ok (.aload 4, 2) := by decide +kernel
theorem d_T_referencesTo_44 : decode prog_9_method_10_code 44 = .ok (.iload_n 1, 1) := by decide +kernel
theorem d_T_referencesTo_45 : decode prog_9_method_10_code 45 = .ok (.invokevirtual 81, 3) := by decide +kernel
theorem d_T_referencesTo_48 : decode prog_9_method_10_code 48 = .ok (.ifCond .eq 6, 3) := by decide +kernel
theorem d_T_referencesTo_51 : decode prog_9_method_10_code 51 = .ok (.iinc 2 1, 3) := by decide +kernel
theorem d_T_referencesTo_54 : decode prog_9_method_10_code 54 = .ok (.iinc 3 1, 3) := by decide +kernel
theorem d_T_referencesTo_57 : decode prog_9_method_10_code 57 = .ok (.goto (-53), 3) := by decide +kernel
theorem d_T_referencesTo_60 : decode prog_9_method_10_code 60 = .ok (.iload_n 2, 1) := by decide +kernel
theorem d_T_referencesTo_61 : decode prog_9_method_10_code 61 = .ok (.ireturn, 1) := by decide +kernel
theorem d_T_hasRoomFor_0 : decode prog_9_method_12_code 0 = .ok (.aload_n 0, 1) := by decide +kernel
theorem d_T_hasRoomFor_1 : decode prog_9_method_12_code 1 = .ok (.invokevirtual 85, 3) := by decide +kernel
theorem d_T_hasRoomFor_4 : decode prog_9_method_12_code 4 = .ok (.iconst 5, 1) := by decide +kernel
theorem d_T_hasRoomFor_5 : decode prog_9_method_12_code 5 = .ok (.if_icmp .ge 5, 3) := by decide +kernel
theorem d_T_hasRoomFor_8 : decode prog_9_method_12_code 8 = .ok (.iconst 1, 1) := by decide +kernel
theorem d_T_hasRoomFor_9 : decode prog_9_method_12_code 9 = .ok (.ireturn, 1) := by decide +kernel
theorem d_T_hasRoomFor_10 : decode prog_9_method_12_code 10 = .ok (.aload_n 0, 1) := by decide +kernel
theorem d_T_hasRoomFor_11 : decode prog_9_method_12_code 11 = .ok (.getfield 24, 3) := by decide +kernel
theorem d_T_hasRoomFor_14 : decode prog_9_method_12_code 14 = .ok (.iconst 5, 1) := by decide +kernel
theorem d_T_hasRoomFor_15 : decode prog_9_method_12_code 15 = .ok (.isub, 1) := by decide +kernel
theorem d_T_hasRoomFor_16 : decode prog_9_method_12_code 16 = .ok (.istore_n 2, 1) := by decide +kernel
theorem d_T_hasRoomFor_17 : decode prog_9_method_12_code 17 = .ok (.iload_n 2, 1) := by decide +kernel
theorem d_T_hasRoomFor_18 : decode prog_9_method_12_code 18 = .ok (.aload_n 0, 1) := by decide +kernel
theorem d_T_hasRoomFor_19 : decode prog_9_method_12_code 19 = .ok (.getfield 40, 3) := by decide +kernel
theorem d_T_hasRoomFor_22 : decode prog_9_method_12_code 22 = .ok (.if_icmp .ge 23, 3) := by decide +kernel
theorem d_T_hasRoomFor_25 : decode prog_9_method_12_code 25 = .ok (.aload_n 0, 1) := by decide +kernel
theorem d_T_hasRoomFor_26 : decode prog_9_method_12_code 26 = .ok (.iload_n 2, 1) := by decide +kernel
theorem d_T_hasRoomFor_27 : decode prog_9_method_12_code 27 = .ok (.invokevirtual 94, 3) := by decide +kernel
theorem d_T_hasRoomFor_30 : decode prog_9_method_12_code 30 = .ok (.ifCond .ne 15, 3) := by decide +kernel
theorem d_T_hasRoomFor_33 : decode prog_9_method_12_code 33 = .ok (.aload_n 1, 1) := by decide +kernel
theorem d_T_hasRoomFor_34 : decode prog_9_method_12_code 34 = .ok (.iload_n 2, 1) := by decide +kernel
theorem d_T_hasRoomFor_35 : decode prog_9_method_12_code 35 = .ok (.invokevirtual 81, 3) := by decide +kernel
theorem d_T_hasRoomFor_38 : decode prog_9_method_12_code 38 = .ok (.ifCond .ne 7, 3) := by decide +kernel
theorem d_T_hasRoomFor_41 : decode prog_9_method_12_code 41 = .ok (.iconst 1, 1) := by decide +kernel
theorem d_T_hasRoomFor_42 : decode prog_9_method_12_code 42 = .ok (.goto 4, 3) := by decide +kernel
theorem d_T_hasRoomFor_45 : decode prog_9_method_12_code 45 = .ok (.iconst 0, 1) := by decide +kernel
theorem d_T_hasRoomFor_46 : decode prog_9_method_12_code 46 = .ok (.ireturn, 1) := by decide +kernel
theorem d_T_makeEntry_0 : decode prog_9_method_13_code 0 = .ok (.aload_n 0, 1) := by decide +kernel
theorem d_T_makeEntry_1 : decode prog_9_method_13_code 1 = .ok (.getfield 24, 3) := by decide +kernel
theorem d_T_makeEntry_4 : decode prog_9_method_13_code 4 = .ok (.istore_n 3, 1) := by decide +kernel
theorem d_T_makeEntry_5 : decode prog_9_method_13_code 5 = .ok (.aload_n 0, 1) := by decide +kernel
theorem d_T_makeEntry_6 : decode prog_9_method_13_code 6 = .ok (.getfield 9, 3) := by decide +kernel
theorem d_T_makeEntry_9 : decode prog_9_method_13_code 9 = .ok (.iload_n 3, 1) := by decide +kernel
theorem d_T_makeEntry_10 : decode prog_9_method_13_code 10 = .ok (.iconst 5, 1) := by decide +kernel
theorem d_T_makeEntry_11 : decode prog_9_method_13_code 11 = .ok (.invokestatic 34, 3) := by decide +kernel
theorem d_T_makeEntry_14 : decode prog_9_method_13_code 14 = .ok (.iload_n 1, 1) := by decide +kernel
theorem d_T_makeEntry_15 : decode prog_9_method_13_code 15 = .ok (.iastore, 1) := by decide +kernel
theorem d_T_makeEntry_16 : decode prog_9_method_13_code 16 = .ok (.aload_n 0, 1) := by decide +kernel
theorem d_T_makeEntry_17 : decode prog_9_method_13_code 17 = .ok (.getfield 15, 3) := by decide +kernel
theorem d_T_makeEntry_20 : decode prog_9_method_13_code 20 = .ok (.iload_n 3, 1) := by decide +kernel
theorem d_T_makeEntry_21 : decode prog_9_method_13_code 21 = .ok (.iconst 5, 1) := by decide +kernel
theorem d_T_makeEntry_22 : decode prog_9_method_13_code 22 = .ok (.invokestatic 34, 3) := by decide +kernel
theorem d_T_makeEntry_25 : decode prog_9_method_13_code 25 = .ok (.iload_n 2, 1) := by decide +kernel
theorem d_T_makeEntry_26 : decode prog_9_method_13_code 26 = .ok (.iastore, 1) := by decide +kernel
theorem d_T_makeEntry_27 : decode prog_9_method_13_code 27 = .ok (.aload_n 0, 1) := by decide +kernel
theorem d_T_makeEntry_28 : decode prog_9_method_13_code 28 = .ok (.dup, 1) := by decide +kernel
theorem d_T_makeEntry_29 : decode prog_9_method_13_code 29 = .ok (.getfield 24, 3) := by decide +kernel
theorem d_T_makeEntry_32 : decode prog_9_method_13_code 32 = .ok (.iconst 1, 1) := by decide +kernel
theorem d_T_makeEntry_33 : decode prog_9_method_13_code 33 = .ok (.iadd, 1) := by decide +kernel
theorem d_T_makeEntry_34 : decode prog_9_method_13_code 34 = .ok (.putfield 24, 3) := by decide +kernel
theorem d_T_makeEntry_37 : decode prog_9_method_13_code 37 = .ok (.iload_n 3, 1) := by decide +kernel
theorem d_T_makeEntry_38 : decode prog_9_method_13_code 38 = .ok (.ireturn, 1) := by decide +kernel
theorem d_T_putDown_0 : decode prog_9_method_5_code 0 = .ok (.aload_n 1, 1) := by decide +kernel
theorem d_T_putDown_1 : decode prog_9_method_5_code 1 = .ok (.getfield 37, 3) := by decide +kernel
theorem d_T_putDown_4 : decode prog_9_method_5_code 4 = .ok (.aload_n 0, 1) := by decide +kernel
theorem d_T_putDown_5 : decode prog_9_method_5_code 5 = .ok (.getfield 40, 3) := by decide +kernel
theorem d_T_putDown_8 : decode prog_9_method_5_code 8 = .ok (.if_icmp .gt 11, 3) := by decide +kernel
theorem d_T_putDown_11 : decode prog_9_method_5_code 11 = .ok (.aload_n 0, 1) := by decide +kernel
theorem d_T_putDown_12 : decode prog_9_method_5_code 12 = .ok (.invokevirtual 43, 3) := by decide +kernel
theorem d_T_putDown_15 : decode prog_9_method_5_code 15 = .ok (.iconst 2, 1) := by decide +kernel
theorem d_T_putDown_16 : decode prog_9_method_5_code 16 = .ok (.if_icmp .ge 7, 3) := by decide +kernel
theorem d_T_putDown_19 : decode prog_9_method_5_code 19 = .ok (.iconst 1, 1) := by decide +kernel
theorem d_T_putDown_20 : decode prog_9_method_5_code 20 = .ok (.goto 4, 3) := by decide +kernel
theorem d_T_putDown_23 : decode prog_9_method_5_code 23 = .ok (.iconst 0, 1) := by decide +kernel
theorem d_T_putDown_24 : decode prog_9_method_5_code 24 = .ok (.istore 4, 2) := by decide +kernel
theorem d_T_putDown_26 : decode prog_9_method_5_code 26 = .ok (.aload_n 0, 1) := by decide +kernel
theorem d_T_putDown_27 : decode prog_9_method_5_code 27 = .ok (.iload_n 2, 1) := by decide +kernel
theorem d_T_putDown_28 : decode prog_9_method_5_code 28 = .ok (.iload_n 3, 1) := by decide +kernel
theorem d_T_putDown_29 : decode prog_9_method_5_code 29 = .ok (.invokevirtual 47, 3) := by decide +kernel
theorem d_T_putDown_32 : decode prog_9_method_5_code 32 = .ok (.istore 5, 2) := by decide +kernel
theorem d_T_putDown_34 : decode prog_9_method_5_code 34 = .ok (.iload 5, 2) := by decide +kernel
theorem d_T_putDown_36 : decode prog_9_method_5_code 36 = .ok (.iconst (-1), 1) := by decide +kernel
theorem d_T_putDown_37 : decode prog_9_method_5_code 37 = .ok (.if_icmp .eq 27, 3) := by decide +kernel
theorem d_T_putDown_40 : decode prog_9_method_5_code 40 = .ok (.iload 5, 2) := by decide +kernel
theorem d_T_putDown_42 : decode prog_9_method_5_code 42 = .ok (.aload_n 0, 1) := by decide +kernel
theorem d_T_putDown_43 : decode prog_9_method_5_code 43 = .ok (.getfield 40, 3) := by decide +kernel
theorem d_T_putDown_46 : decode prog_9_method_5_code 46 = .ok (.if_icmp .lt 8, 3) := by decide +kernel
theorem d_T_putDown_49 : decode prog_9_method_5_code 49 = .ok (.iload 4, 2) := by decide +kernel
theorem d_T_putDown_51 : decode prog_9_method_5_code 51 = .ok (.ifCond .eq 13, 3) := by decide +kernel
theorem d_T_putDown_54 : decode prog_9_method_5_code 54 = .ok (.aload_n 0, 1) := by decide +kernel
theorem d_T_putDown_55 : decode prog_9_method_5_code 55 = .ok (.aload_n 1, 1) := by decide +kernel
theorem d_T_putDown_56 : decode prog_9_method_5_code 56 = .ok (.iload 5, 2) := by decide +kernel
theorem d_T_putDown_58 : decode prog_9_method_5_code 58 = .ok (.invokevirtual 50, 3) := by decide +kernel
theorem d_T_putDown_61 : decode prog_9_method_5_code 61 = .ok (.goto 46, 3) := by decide +kernel
theorem d_T_putDown_64 : decode prog_9_method_5_code 64 = .ok (.iload 5, 2) := by decide +kernel
theorem d_T_putDown_66 : decode prog_9_method_5_code 66 = .ok (.iconst (-1), 1) := by decide +kernel
theorem d_T_putDown_67 : decode prog_9_method_5_code 67 = .ok (.if_icmp .ne 30, 3) := by decide +kernel
theorem d_T_putDown_70 : decode prog_9_method_5_code 70 = .ok (.iload 4, 2) := by decide +kernel
theorem d_T_putDown_72 : decode prog_9_method_5_code 72 = .ok (.ifCond .eq 25, 3) := by decide +kernel
theorem d_T_putDown_75 : decode prog_9_method_5_code 75 = .ok (.aload_n 0, 1) := by decide +kernel
theorem d_T_putDown_76 : decode prog_9_method_5_code 76 = .ok (.aload_n 1, 1) := by decide +kernel
theorem d_T_putDown_77 : decode prog_9_method_5_code 77 = .ok (.invokevirtual 54, 3) := by decide +kernel
theorem d_T_putDown_80 : decode prog_9_method_5_code 80 = .ok (.ifCond .eq 17, 3) := by decide +kernel
theorem d_T_putDown_83 : decode prog_9_method_5_code 83 = .ok (.aload_n 0, 1) := by decide +kernel
theorem d_T_putDown_84 : decode prog_9_method_5_code 84 = .ok (.aload_n 1, 1) := by decide +kernel
theorem d_T_putDown_85 : decode prog_9_method_5_code 85 = .ok (.aload_n 0, 1) := by decide +kernel
theorem d_T_putDown_86 : decode prog_9_method_5_code 86 = .ok (.iload_n 2, 1) := by decide +kernel
theorem d_T_putDown_87 : decode prog_9_method_5_code 87 = .ok (.iload_n 3, 1) := by decide +kernel
theorem d_T_putDown_88 : decode prog_9_method_5_code 88 = .ok (.invokevirtual 58, 3) := by decide +kernel
theorem d_T_putDown_91 : decode prog_9_method_5_code 91 = .ok (.invokevirtual 50, 3) := by decide +kernel
theorem d_T_putDown_94 : decode prog_9_method_5_code 94 = .ok (.goto 13, 3) := by decide +kernel
theorem d_T_putDown_97 : decode prog_9_method_5_code 97 = .ok (.aload_n 0, 1) := by decide +kernel
theorem d_T_putDown_98 : decode prog_9_method_5_code 98 = .ok (.dup, 1) := by decide +kernel
theorem d_T_putDown_99 : decode prog_9_method_5_code 99 = .ok (.getfield 61, 3) := by decide +kernel
theorem d_T_putDown_102 : decode prog_9_method_5_code 102 = .ok (.iconst 1, 1) := by decide +kernel
theorem d_T_putDown_103 : decode prog_9_method_5_code 103 = .ok (.iadd, 1) := by decide +kernel
theorem d_T_putDown_104 : decode prog_9_method_5_code 104 = .ok (.putfield 61, 3) := by decide +kernel
theorem d_T_putDown_107 : decode prog_9_method_5_code 107 = .ok (.return_, 1) := by decide +kernel
theorem d_T_keepIfReferring_0 : decode prog_9_method_6_code 0 = .ok (.aload_n 1, 1) := by decide +kernel
theorem d_T_keepIfReferring_1 : decode prog_9_method_6_code 1 = .ok (.getfield 64, 3) := by decide +kernel
theorem d_T_keepIfReferring_4 : decode prog_9_method_6_code 4 = .ok (.ifCond .eq 15, 3) := by decide +kernel
theorem d_T_keepIfReferring_7 : decode prog_9_method_6_code 7 = .ok (.aload_n 0, 1) := by decide +kernel
theorem d_T_keepIfReferring_8 : decode prog_9_method_6_code 8 = .ok (.getfield 67, 3) := by decide +kernel
theorem d_T_keepIfReferring_11 : decode prog_9_method_6_code 11 = .ok (.aload_n 0, 1) := by decide +kernel
theorem d_T_keepIfReferring_12 : decode prog_9_method_6_code 12 = .ok (.getfield 20, 3) := by decide +kernel
theorem d_T_keepIfReferring_15 : decode prog_9_method_6_code 15 = .ok (.arraylength, 1) := by decide +kernel
theorem d_T_keepIfReferring_16 : decode prog_9_method_6_code 16 = .ok (.if_icmp .lt 4, 3) := by decide +kernel
theorem d_T_keepIfReferring_19 : decode prog_9_method_6_code 19 = .ok (.return_, 1) := by decide +kernel
theorem d_T_keepIfReferring_20 : decode prog_9_method_6_code 20 = .ok (.aload_n 1, 1) := by decide +kernel
theorem d_T_keepIfReferring_21 : decode prog_9_method_6_code 21 = .ok (.iconst 1, 1) := by decide +kernel
theorem d_T_keepIfReferring_22 : decode prog_9_method_6_code 22 = .ok (.putfield 70, 3) := by decide +kernel
theorem d_T_keepIfReferring_25 : decode prog_9_method_6_code 25 = .ok (.aload_n 0, 1) := by decide +kernel
theorem d_T_keepIfReferring_26 : decode prog_9_method_6_code 26 = .ok (.getfield 20, 3) := by decide +kernel
theorem d_T_keepIfReferring_29 : decode prog_9_method_6_code 29 = .ok (.aload_n 0, 1) := by decide +kernel
theorem d_T_keepIfReferring_30 : decode prog_9_method_6_code 30 = .ok (.getfield 67, 3) := by decide +kernel
theorem d_T_keepIfReferring_33 : decode prog_9_method_6_code 33 = .ok (.aload_n 1, 1) := by decide +kernel
theorem d_T_keepIfReferring_34 : decode prog_9_method_6_code 34 = .ok (.aastore, 1) := by decide +kernel
theorem d_T_keepIfReferring_35 : decode prog_9_method_6_code 35 = .ok (.aload_n 0, 1) := by decide +kernel
theorem d_T_keepIfReferring_36 : decode prog_9_method_6_code 36 = .ok (.dup, 1) := by decide +kernel
theorem d_T_keepIfReferring_37 : decode prog_9_method_6_code 37 = .ok (.getfield 67, 3) := by decide +kernel
theorem d_T_keepIfReferring_40 : decode prog_9_method_6_code 40 = .ok (.iconst 1, 1) := by decide +kernel
theorem d_T_keepIfReferring_41 : decode prog_9_method_6_code 41 = .ok (.iadd, 1) := by decide +kernel
theorem d_T_keepIfReferring_42 : decode prog_9_method_6_code 42 = .ok (.putfield 67, 3) := by decide +kernel
theorem d_T_keepIfReferring_45 : decode prog_9_method_6_code 45 = .ok (.return_, 1) := by decide +kernel
theorem d_T_learn_0 : decode prog_9_method_7_code 0 = .ok (.aload_n 0, 1) := by decide +kernel
theorem d_T_learn_1 : decode prog_9_method_7_code 1 = .ok (.aload_n 0, 1) := by decide +kernel
theorem d_T_learn_2 : decode prog_9_method_7_code 2 = .ok (.getfield 40, 3) := by decide +kernel
theorem d_T_learn_5 : decode prog_9_method_7_code 5 = .ok (.iload_n 1, 1) := by decide +kernel
theorem d_T_learn_6 : decode prog_9_method_7_code 6 = .ok (.invokestatic 74, 3) := by decide +kernel
theorem d_T_learn_9 : decode prog_9_method_7_code 9 = .ok (.putfield 40, 3) := by decide +kernel
theorem d_T_learn_12 : decode prog_9_method_7_code 12 = .ok (.return_, 1) := by decide +kernel
theorem d_S_init_0 : decode prog_7_method_1_code 0 = .ok (.aload_n 0, 1) := by decide +kernel
theorem d_S_init_1 : decode prog_7_method_1_code 1 = .ok (.invokespecial 3, 3) := by decide +kernel
theorem d_S_init_4 : decode prog_7_method_1_code 4 = .ok (.aload_n 0, 1) := by decide +kernel
theorem d_S_init_5 : decode prog_7_method_1_code 5 = .ok (.bipush 6, 2) := by decide +kernel
theorem d_S_init_7 : decode prog_7_method_1_code 7 = .ok (.anewarray 9, 3) := by decide +kernel
theorem d_S_init_10 : decode prog_7_method_1_code 10 = .ok (.putfield 11, 3) := by decide +kernel
theorem d_S_init_13 : decode prog_7_method_1_code 13 = .ok (.iconst 0, 1) := by decide +kernel
theorem d_S_init_14 : decode prog_7_method_1_code 14 = .ok (.istore_n 1, 1) := by decide +kernel
theorem d_S_init_15 : decode prog_7_method_1_code 15 = .ok (.iload_n 1, 1) := by decide +kernel
theorem d_S_init_16 : decode prog_7_method_1_code 16 = .ok (.aload_n 0, 1) := by decide +kernel
theorem d_S_init_17 : decode prog_7_method_1_code 17 = .ok (.getfield 11, 3) := by decide +kernel
theorem d_S_init_20 : decode prog_7_method_1_code 20 = .ok (.arraylength, 1) := by decide +kernel
theorem d_S_init_21 : decode prog_7_method_1_code 21 = .ok (.if_icmp .ge 22, 3) := by decide +kernel
theorem d_S_init_24 : decode prog_7_method_1_code 24 = .ok (.aload_n 0, 1) := by decide +kernel
theorem d_S_init_25 : decode prog_7_method_1_code 25 = .ok (.getfield 11, 3) := by decide +kernel
theorem d_S_init_28 : decode prog_7_method_1_code 28 = .ok (.iload_n 1, 1) := by decide +kernel
theorem d_S_init_29 : decode prog_7_method_1_code 29 = .ok (.new 9, 3) := by decide +kernel
theorem d_S_init_32 : decode prog_7_method_1_code 32 = .ok (.dup, 1) := by decide +kernel
theorem d_S_init_33 : decode prog_7_method_1_code 33 = .ok (.invokespecial 17, 3) := by decide +kernel
theorem d_S_init_36 : decode prog_7_method_1_code 36 = .ok (.aastore, 1) := by decide +kernel
theorem d_S_init_37 : decode prog_7_method_1_code 37 = .ok (.iinc 1 1, 3) := by decide +kernel
theorem d_S_init_40 : decode prog_7_method_1_code 40 = .ok (.goto (-25), 3) := by decide +kernel
theorem d_S_init_43 : decode prog_7_method_1_code 43 = .ok (.aload_n 0, 1) := by decide +kernel
theorem d_S_init_44 : decode prog_7_method_1_code 44 = .ok (.new 18, 3) := by decide +kernel
theorem d_S_init_47 : decode prog_7_method_1_code 47 = .ok (.dup, 1) := by decide +kernel
theorem d_S_init_48 : decode prog_7_method_1_code 48 = .ok (.invokespecial 20, 3) := by decide +kernel
theorem d_S_init_51 : decode prog_7_method_1_code 51 = .ok (.putfield 21, 3) := by decide +kernel
theorem d_S_init_54 : decode prog_7_method_1_code 54 = .ok (.return_, 1) := by decide +kernel
theorem d_S_resourceAt_0 : decode prog_7_method_2_code 0 = .ok (.iload_n 1, 1) := by decide +kernel
theorem d_S_resourceAt_1 : decode prog_7_method_2_code 1 = .ok (.ifCond .lt 21, 3) := by decide +kernel
theorem d_S_resourceAt_4 : decode prog_7_method_2_code 4 = .ok (.iload_n 1, 1) := by decide +kernel
theorem d_S_resourceAt_5 : decode prog_7_method_2_code 5 = .ok (.aload_n 0, 1) := by decide +kernel
theorem d_S_resourceAt_6 : decode prog_7_method_2_code 6 = .ok (.getfield 11, 3) := by decide +kernel
theorem d_S_resourceAt_9 : decode prog_7_method_2_code 9 = .ok (.arraylength, 1) := by decide +kernel
theorem d_S_resourceAt_10 : decode prog_7_method_2_code 10 = .ok (.if_icmp .ge 12, 3) := by decide +kernel
theorem d_S_resourceAt_13 : decode prog_7_method_2_code 13 = .ok (.aload_n 0, 1) := by decide +kernel
theorem d_S_resourceAt_14 : decode prog_7_method_2_code 14 = .ok (.getfield 11, 3) := by decide +kernel
theorem d_S_resourceAt_17 : decode prog_7_method_2_code 17 = .ok (.iload_n 1, 1) := by decide +kernel
theorem d_S_resourceAt_18 : decode prog_7_method_2_code 18 = .ok (.aaload, 1) := by decide +kernel
theorem d_S_resourceAt_19 : decode prog_7_method_2_code 19 = .ok (.goto 4, 3) := by decide +kernel
theorem d_S_resourceAt_22 : decode prog_7_method_2_code 22 = .ok (.aconst_null, 1) := by decide +kernel
theorem d_S_resourceAt_23 : decode prog_7_method_2_code 23 = .ok (.areturn, 1) := by decide +kernel
theorem d_S_write_0 : decode prog_7_method_3_code 0 = .ok (.aload_n 0, 1) := by decide +kernel
theorem d_S_write_1 : decode prog_7_method_3_code 1 = .ok (.dup, 1) := by decide +kernel
theorem d_S_write_2 : decode prog_7_method_3_code 2 = .ok (.getfield 25, 3) := by decide +kernel
theorem d_S_write_5 : decode prog_7_method_3_code 5 = .ok (.iconst 1, 1) := by decide +kernel
theorem d_S_write_6 : decode prog_7_method_3_code 6 = .ok (.iadd, 1) := by decide +kernel
theorem d_S_write_7 : decode prog_7_method_3_code 7 = .ok (.putfield 25, 3) := by decide +kernel
theorem d_S_write_10 : decode prog_7_method_3_code 10 = .ok (.aload_n 1, 1) := by decide +kernel
theorem d_S_write_11 : decode prog_7_method_3_code 11 = .ok (.iconst 1, 1) := by decide +kernel
theorem d_S_write_12 : decode prog_7_method_3_code 12 = .ok (.putfield 29, 3) := by decide +kernel
theorem d_S_write_15 : decode prog_7_method_3_code 15 = .ok (.aload_n 1, 1) := by decide +kernel
theorem d_S_write_16 : decode prog_7_method_3_code 16 = .ok (.aload_n 0, 1) := by decide +kernel
theorem d_S_write_17 : decode prog_7_method_3_code 17 = .ok (.getfield 25, 3) := by decide +kernel
theorem d_S_write_20 : decode prog_7_method_3_code 20 = .ok (.putfield 33, 3) := by decide +kernel
theorem d_S_write_23 : decode prog_7_method_3_code 23 = .ok (.aload_n 1, 1) := by decide +kernel
theorem d_S_write_24 : decode prog_7_method_3_code 24 = .ok (.iload_n 2, 1) := by decide +kernel
theorem d_S_write_25 : decode prog_7_method_3_code 25 = .ok (.putfield 36, 3) := by decide +kernel
theorem d_S_write_28 : decode prog_7_method_3_code 28 = .ok (.aload_n 1, 1) := by decide +kernel
theorem d_S_write_29 : decode prog_7_method_3_code 29 = .ok (.iload_n 3, 1) := by decide +kernel
theorem d_S_write_30 : decode prog_7_method_3_code 30 = .ok (.putfield 39, 3) := by decide +kernel
theorem d_S_write_33 : decode prog_7_method_3_code 33 = .ok (.return_, 1) := by decide +kernel
theorem d_S_answerPut_0 : decode prog_7_method_7_code 0 = .ok (.aload_n 2, 1) := by decide +kernel
theorem d_S_answerPut_1 : decode prog_7_method_7_code 1 = .ok (.getfield 29, 3) := by decide +kernel
theorem d_S_answerPut_4 : decode prog_7_method_7_code 4 = .ok (.ifCond .eq 18, 3) := by decide +kernel
theorem d_S_answerPut_7 : decode prog_7_method_7_code 7 = .ok (.aload_n 2, 1) := by decide +kernel
theorem d_S_answerPut_8 : decode prog_7_method_7_code 8 = .ok (.getfield 33, 3) := by decide +kernel
theorem d_S_answerPut_11 : decode prog_7_method_7_code 11 = .ok (.aload_n 1, 1) := by decide +kernel
theorem d_S_answerPut_12 : decode prog_7_method_7_code 12 = .ok (.getfield 95, 3) := by decide +kernel
theorem d_S_answerPut_15 : decode prog_7_method_7_code 15 = .ok (.if_icmp .ne 7, 3) := by decide +kernel
theorem d_S_answerPut_18 : decode prog_7_method_7_code 18 = .ok (.iconst 1, 1) := by decide +kernel
theorem d_S_answerPut_19 : decode prog_7_method_7_code 19 = .ok (.goto 4, 3) := by decide +kernel
theorem d_S_answerPut_22 : decode prog_7_method_7_code 22 = .ok (.iconst 0, 1) := by decide +kernel
theorem d_S_answerPut_23 : decode prog_7_method_7_code 23 = .ok (.istore_n 3, 1) := by decide +kernel
theorem d_S_answerPut_24 : decode prog_7_method_7_code 24 = .ok (.aload_n 1, 1) := by decide +kernel
theorem d_S_answerPut_25 : decode prog_7_method_7_code 25 = .ok (.getfield 95, 3) := by decide +kernel
theorem d_S_answerPut_28 : decode prog_7_method_7_code 28 = .ok (.ifCond .eq 18, 3) := by decide +kernel
theorem d_S_answerPut_31 : decode prog_7_method_7_code 31 = .ok (.iload_n 3, 1) := by decide +kernel
theorem d_S_answerPut_32 : decode prog_7_method_7_code 32 = .ok (.ifCond .ne 14, 3) := by decide +kernel
theorem d_S_answerPut_35 : decode prog_7_method_7_code 35 = .ok (.new 88, 3) := by decide +kernel
theorem d_S_answerPut_38 : decode prog_7_method_7_code 38 = .ok (.dup, 1) := by decide +kernel
theorem d_S_answerPut_39 : decode prog_7_method_7_code 39 = .ok (.sipush 412, 3) := by decide +kernel
theorem d_S_answerPut_42 : decode prog_7_method_7_code 42 = .ok (.invokespecial 92, 3) := by decide +kernel
theorem d_S_answerPut_45 : decode prog_7_method_7_code 45 = .ok (.areturn, 1) := by decide +kernel
theorem d_S_answerPut_46 : decode prog_7_method_7_code 46 = .ok (.aload_n 0, 1) := by decide +kernel
theorem d_S_answerPut_47 : decode prog_7_method_7_code 47 = .ok (.aload_n 2, 1) := by decide +kernel
theorem d_S_answerPut_48 : decode prog_7_method_7_code 48 = .ok (.aload_n 1, 1) := by decide +kernel
theorem d_S_answerPut_49 : decode prog_7_method_7_code 49 = .ok (.getfield 103, 3) := by decide +kernel
theorem d_S_answerPut_52 : decode prog_7_method_7_code 52 = .ok (.aload_n 1, 1) := by decide +kernel
theorem d_S_answerPut_53 : decode prog_7_method_7_code 53 = .ok (.getfield 104, 3) := by decide +kernel
theorem d_S_answerPut_56 : decode prog_7_method_7_code 56 = .ok (.invokevirtual 105, 3) := by decide +kernel
theorem d_S_answerPut_59 : decode prog_7_method_7_code 59 = .ok (.new 88, 3) := by decide +kernel
theorem d_S_answerPut_62 : decode prog_7_method_7_code 62 = .ok (.dup, 1) := by decide +kernel
theorem d_S_answerPut_63 : decode prog_7_method_7_code 63 = .ok (.sipush 200, 3) := by decide +kernel
theorem d_S_answerPut_66 : decode prog_7_method_7_code 66 = .ok (.invokespecial 92, 3) := by decide +kernel
theorem d_S_answerPut_69 : decode prog_7_method_7_code 69 = .ok (.astore 4, 2) := by decide +kernel
theorem d_S_answerPut_71 : decode prog_7_method_7_code 71 = .ok (.aload_n 0, 1) := by decide +kernel
theorem d_S_answerPut_72 : decode prog_7_method_7_code 72 = .ok (.getfield 21, 3) := by decide +kernel
theorem d_S_answerPut_75 : decode prog_7_method_7_code 75 = .ok (.aload 4, 2) := by decide +kernel
theorem d_S_answerPut_77 : decode prog_7_method_7_code 77 = .ok (.iconst 0, 1) := by decide +kernel
theorem d_S_answerPut_78 : decode prog_7_method_7_code 78 = .ok (.aload_n 2, 1) := by decide +kernel
theorem d_S_answerPut_79 : decode prog_7_method_7_code 79 = .ok (.getfield 33, 3) := by decide +kernel
theorem d_S_answerPut_82 : decode prog_7_method_7_code 82 = .ok (.invokevirtual 98, 3) := by decide +kernel
theorem d_S_answerPut_85 : decode prog_7_method_7_code 85 = .ok (.aload 4, 2) := by decide +kernel
theorem d_S_answerPut_87 : decode prog_7_method_7_code 87 = .ok (.areturn, 1) := by decide +kernel
theorem d_S_answerGet_0 : decode prog_7_method_6_code 0 = .ok (.aload_n 2, 1) := by decide +kernel
theorem d_S_answerGet_1 : decode prog_7_method_6_code 1 = .ok (.getfield 29, 3) := by decide +kernel
theorem d_S_answerGet_4 : decode prog_7_method_6_code 4 = .ok (.ifCond .ne 14, 3) := by decide +kernel
theorem d_S_answerGet_7 : decode prog_7_method_6_code 7 = .ok (.new 88, 3) := by decide +kernel
theorem d_S_answerGet_10 : decode prog_7_method_6_code 10 = .ok (.dup, 1) := by decide +kernel
theorem d_S_answerGet_11 : decode prog_7_method_6_code 11 = .ok (.sipush 404, 3) := by decide +kernel
theorem d_S_answerGet_14 : decode prog_7_method_6_code 14 = .ok (.invokespecial 92, 3) := by decide +kernel
theorem d_S_answerGet_17 : decode prog_7_method_6_code 17 = .ok (.areturn, 1) := by decide +kernel
theorem d_S_answerGet_18 : decode prog_7_method_6_code 18 = .ok (.aload_n 1, 1) := by decide +kernel
theorem d_S_answerGet_19 : decode prog_7_method_6_code 19 = .ok (.getfield 95, 3) := by decide +kernel
theorem d_S_answerGet_22 : decode prog_7_method_6_code 22 = .ok (.aload_n 2, 1) := by decide +kernel
theorem d_S_answerGet_23 : decode prog_7_method_6_code 23 = .ok (.getfield 33, 3) := by decide +kernel
theorem d_S_answerGet_26 : decode prog_7_method_6_code 26 = .ok (.if_icmp .ne 7, 3) := by decide +kernel
theorem d_S_answerGet_29 : decode prog_7_method_6_code 29 = .ok (.iconst 1, 1) := by decide +kernel
theorem d_S_answerGet_30 : decode prog_7_method_6_code 30 = .ok (.goto 4, 3) := by decide +kernel
theorem d_S_answerGet_33 : decode prog_7_method_6_code 33 = .ok (.iconst 0, 1) := by decide +kernel
theorem d_S_answerGet_34 : decode prog_7_method_6_code 34 = .ok (.istore_n 3, 1) := by decide +kernel
theorem d_S_answerGet_35 : decode prog_7_method_6_code 35 = .ok (.new 88, 3) := by decide +kernel
theorem d_S_answerGet_38 : decode prog_7_method_6_code 38 = .ok (.dup, 1) := by decide +kernel
theorem d_S_answerGet_39 : decode prog_7_method_6_code 39 = .ok (.iload_n 3, 1) := by decide +kernel
theorem d_S_answerGet_40 : decode prog_7_method_6_code 40 = .ok (.ifCond .eq 9, 3) := by decide +kernel
theorem d_S_answerGet_43 : decode prog_7_method_6_code 43 = .ok (.sipush 304, 3) := by decide +kernel
theorem d_S_answerGet_46 : decode prog_7_method_6_code 46 = .ok (.goto 6, 3) := by decide +kernel
theorem d_S_answerGet_49 : decode prog_7_method_6_code 49 = .ok (.sipush 200, 3) := by decide +kernel
theorem d_S_answerGet_52 : decode prog_7_method_6_code 52 = .ok (.invokespecial 92, 3) := by decide +kernel
theorem d_S_answerGet_55 : decode prog_7_method_6_code 55 = .ok (.astore 4, 2) := by decide +kernel
theorem d_S_answerGet_57 : decode prog_7_method_6_code 57 = .ok (.aload 4, 2) := by decide +kernel
theorem d_S_answerGet_59 : decode prog_7_method_6_code 59 = .ok (.aload_n 2, 1) := by decide +kernel
theorem d_S_answerGet_60 : decode prog_7_method_6_code 60 = .ok (.getfield 33, 3) := by decide +kernel
theorem d_S_answerGet_63 : decode prog_7_method_6_code 63 = .ok (.putfield 96, 3) := by decide +kernel
theorem d_S_answerGet_66 : decode prog_7_method_6_code 66 = .ok (.aload 4, 2) := by decide +kernel
theorem d_S_answerGet_68 : decode prog_7_method_6_code 68 = .ok (.aload_n 2, 1) := by decide +kernel
theorem d_S_answerGet_69 : decode prog_7_method_6_code 69 = .ok (.getfield 39, 3) := by decide +kernel
theorem d_S_answerGet_72 : decode prog_7_method_6_code 72 = .ok (.putfield 97, 3) := by decide +kernel
theorem d_S_answerGet_75 : decode prog_7_method_6_code 75 = .ok (.aload_n 0, 1) := by decide +kernel
theorem d_S_answerGet_76 : decode prog_7_method_6_code 76 = .ok (.getfield 21, 3) := by decide +kernel
theorem d_S_answerGet_79 : decode prog_7_method_6_code 79 = .ok (.aload 4, 2) := by decide +kernel
theorem d_S_answerGet_81 : decode prog_7_method_6_code 81 = .ok (.iconst 0, 1) := by decide +kernel
theorem d_S_answerGet_82 : decode prog_7_method_6_code 82 = .ok (.aload_n 2, 1) := by decide +kernel
theorem d_S_answerGet_83 : decode prog_7_method_6_code 83 = .ok (.getfield 33, 3) := by decide +kernel
theorem d_S_answerGet_86 : decode prog_7_method_6_code 86 = .ok (.invokevirtual 98, 3) := by decide +kernel
theorem d_S_answerGet_89 : decode prog_7_method_6_code 89 = .ok (.aload_n 0, 1) := by decide +kernel
theorem d_S_answerGet_90 : decode prog_7_method_6_code 90 = .ok (.getfield 21, 3) := by decide +kernel
theorem d_S_answerGet_93 : decode prog_7_method_6_code 93 = .ok (.aload 4, 2) := by decide +kernel
theorem d_S_answerGet_95 : decode prog_7_method_6_code 95 = .ok (.iconst 1, 1) := by decide +kernel
theorem d_S_answerGet_96 : decode prog_7_method_6_code 96 = .ok (.aload_n 2, 1) := by decide +kernel
theorem d_S_answerGet_97 : decode prog_7_method_6_code 97 = .ok (.getfield 39, 3) := by decide +kernel
theorem d_S_answerGet_100 : decode prog_7_method_6_code 100 = .ok (.invokevirtual 98, 3) := by decide +kernel
theorem d_S_answerGet_103 : decode prog_7_method_6_code 103 = .ok (.iload_n 3, 1) := by decide +kernel
theorem d_S_answerGet_104 : decode prog_7_method_6_code 104 = .ok (.ifCond .ne 26, 3) := by decide +kernel
theorem d_S_answerGet_107 : decode prog_7_method_6_code 107 = .ok (.aload 4, 2) := by decide +kernel
theorem d_S_answerGet_109 : decode prog_7_method_6_code 109 = .ok (.aload_n 2, 1) := by decide +kernel
theorem d_S_answerGet_110 : decode prog_7_method_6_code 110 = .ok (.getfield 36, 3) := by decide +kernel
theorem d_S_answerGet_113 : decode prog_7_method_6_code 113 = .ok (.putfield 102, 3) := by decide +kernel
theorem d_S_answerGet_116 : decode prog_7_method_6_code 116 = .ok (.aload_n 0, 1) := by decide +kernel
theorem d_S_answerGet_117 : decode prog_7_method_6_code 117 = .ok (.getfield 21, 3) := by decide +kernel
theorem d_S_answerGet_120 : decode prog_7_method_6_code 120 = .ok (.aload 4, 2) := by decide +kernel
theorem d_S_answerGet_122 : decode prog_7_method_6_code 122 = .ok (.iconst 2, 1) := by decide +kernel
theorem d_S_answerGet_123 : decode prog_7_method_6_code 123 = .ok (.aload_n 2, 1) := by decide +kernel
theorem d_S_answerGet_124 : decode prog_7_method_6_code 124 = .ok (.getfield 36, 3) := by decide +kernel
theorem d_S_answerGet_127 : decode prog_7_method_6_code 127 = .ok (.invokevirtual 98, 3) := by decide +kernel
theorem d_S_answerGet_130 : decode prog_7_method_6_code 130 = .ok (.aload 4, 2) := by decide +kernel
theorem d_S_answerGet_132 : decode prog_7_method_6_code 132 = .ok (.areturn, 1) := by decide +kernel
theorem d_S_takeRequest_0 : decode prog_7_method_4_code 0 = .ok (.aload_n 0, 1) := by decide +kernel
theorem d_S_takeRequest_1 : decode prog_7_method_4_code 1 = .ok (.aload_n 1, 1) := by decide +kernel
theorem d_S_takeRequest_2 : decode prog_7_method_4_code 2 = .ok (.getfield 42, 3) := by decide +kernel
theorem d_S_takeRequest_5 : decode prog_7_method_4_code 5 = .ok (.invokevirtual 47, 3) := by decide +kernel
theorem d_S_takeRequest_8 : decode prog_7_method_4_code 8 = .ok (.astore_n 2, 1) := by decide +kernel
theorem d_S_takeRequest_9 : decode prog_7_method_4_code 9 = .ok (.aload_n 2, 1) := by decide +kernel
theorem d_S_takeRequest_10 : decode prog_7_method_4_code 10 = .ok (.ifnull 21, 3) := by decide +kernel
theorem d_S_takeRequest_13 : decode prog_7_method_4_code 13 = .ok (.aload_n 0, 1) := by decide +kernel
theorem d_S_takeRequest_14 : decode prog_7_method_4_code 14 = .ok (.getfield 51, 3) := by decide +kernel
theorem d_S_takeRequest_17 : decode prog_7_method_4_code 17 = .ok (.ifCond .eq 16, 3) := by decide +kernel
theorem d_S_takeRequest_20 : decode prog_7_method_4_code 20 = .ok (.aload_n 1, 1) := by decide +kernel
theorem d_S_takeRequest_21 : decode prog_7_method_4_code 21 = .ok (.getfield 54, 3) := by decide +kernel
theorem d_S_takeRequest_24 : decode prog_7_method_4_code 24 = .ok (.aload_n 0, 1) := by decide +kernel
theorem d_S_takeRequest_25 : decode prog_7_method_4_code 25 = .ok (.getfield 57, 3) := by decide +kernel
theorem d_S_takeRequest_28 : decode prog_7_method_4_code 28 = .ok (.if_icmp .lt 5, 3) := by decide +kernel
theorem d_S_takeRequest_31 : decode prog_7_method_4_code 31 = .ok (.iconst 0, 1) := by decide +kernel
theorem d_S_takeRequest_32 : decode prog_7_method_4_code 32 = .ok (.ireturn, 1) := by decide +kernel
theorem d_S_takeRequest_33 : decode prog_7_method_4_code 33 = .ok (.aload_n 0, 1) := by decide +kernel
theorem d_S_takeRequest_34 : decode prog_7_method_4_code 34 = .ok (.aload_n 0, 1) := by decide +kernel
theorem d_S_takeRequest_35 : decode prog_7_method_4_code 35 = .ok (.getfield 60, 3) := by decide +kernel
theorem d_S_takeRequest_38 : decode prog_7_method_4_code 38 = .ok (.aload_n 1, 1) := by decide +kernel
theorem d_S_takeRequest_39 : decode prog_7_method_4_code 39 = .ok (.getfield 54, 3) := by decide +kernel
theorem d_S_takeRequest_42 : decode prog_7_method_4_code 42 = .ok (.iconst 1, 1) := by decide +kernel
theorem d_S_takeRequest_43 : decode prog_7_method_4_code 43 = .ok (.iadd, 1) := by decide +kernel
theorem d_S_takeRequest_44 : decode prog_7_method_4_code 44 = .ok (.invokestatic 63, 3) := by decide +kernel
theorem d_S_takeRequest_47 : decode prog_7_method_4_code 47 = .ok (.putfield 60, 3) := by decide +kernel
theorem d_S_takeRequest_50 : decode prog_7_method_4_code 50 = .ok (.aload_n 1, 1) := by decide +kernel
theorem d_S_takeRequest_51 : decode prog_7_method_4_code 51 = .ok (.getfield 69, 3) := by decide +kernel
theorem d_S_takeRequest_54 : decode prog_7_method_4_code 54 = .ok (.ifCond .eq 12, 3) := by decide +kernel
theorem d_S_takeRequest_57 : decode prog_7_method_4_code 57 = .ok (.aload_n 0, 1) := by decide +kernel
theorem d_S_takeRequest_58 : decode prog_7_method_4_code 58 = .ok (.aload_n 1, 1) := by decide +kernel
theorem d_S_takeRequest_59 : decode prog_7_method_4_code 59 = .ok (.aload_n 2, 1) := by decide +kernel
theorem d_S_takeRequest_60 : decode prog_7_method_4_code 60 = .ok (.invokevirtual 72, 3) := by decide +kernel
theorem d_S_takeRequest_63 : decode prog_7_method_4_code 63 = .ok (.goto 9, 3) := by decide +kernel
theorem d_S_takeRequest_66 : decode prog_7_method_4_code 66 = .ok (.aload_n 0, 1) := by decide +kernel
theorem d_S_takeRequest_67 : decode prog_7_method_4_code 67 = .ok (.aload_n 1, 1) := by decide +kernel
theorem d_S_takeRequest_68 : decode prog_7_method_4_code 68 = .ok (.aload_n 2, 1) := by decide +kernel
theorem d_S_takeRequest_69 : decode prog_7_method_4_code 69 = .ok (.invokevirtual 76, 3) := by decide +kernel
theorem d_S_takeRequest_72 : decode prog_7_method_4_code 72 = .ok (.astore_n 3, 1) := by decide +kernel
theorem d_S_takeRequest_73 : decode prog_7_method_4_code 73 = .ok (.aload_n 0, 1) := by decide +kernel
theorem d_S_takeRequest_74 : decode prog_7_method_4_code 74 = .ok (.getfield 21, 3) := by decide +kernel
theorem d_S_takeRequest_77 : decode prog_7_method_4_code 77 = .ok (.aload_n 3, 1) := by decide +kernel
theorem d_S_takeRequest_78 : decode prog_7_method_4_code 78 = .ok (.invokevirtual 79, 3) := by decide +kernel
theorem d_S_takeRequest_81 : decode prog_7_method_4_code 81 = .ok (.aload_n 1, 1) := by decide +kernel
theorem d_S_takeRequest_82 : decode prog_7_method_4_code 82 = .ok (.aload_n 3, 1) := by decide +kernel
theorem d_S_takeRequest_83 : decode prog_7_method_4_code 83 = .ok (.putfield 83, 3) := by decide +kernel
theorem d_S_takeRequest_86 : decode prog_7_method_4_code 86 = .ok (.aload_n 3, 1) := by decide +kernel
theorem d_S_takeRequest_87 : decode prog_7_method_4_code 87 = .ok (.getfield 87, 3) := by decide +kernel
theorem d_S_takeRequest_90 : decode prog_7_method_4_code 90 = .ok (.ireturn, 1) := by decide +kernel
theorem d_S_announceLimit_0 : decode prog_7_method_5_code 0 = .ok (.aload_n 0, 1) := by decide +kernel
theorem d_S_announceLimit_1 : decode prog_7_method_5_code 1 = .ok (.getfield 51, 3) := by decide +kernel
theorem d_S_announceLimit_4 : decode prog_7_method_5_code 4 = .ok (.ifCond .ne 16, 3) := by decide +kernel
theorem d_S_announceLimit_7 : decode prog_7_method_5_code 7 = .ok (.aload_n 0, 1) := by decide +kernel
theorem d_S_announceLimit_8 : decode prog_7_method_5_code 8 = .ok (.iconst 1, 1) := by decide +kernel
theorem d_S_announceLimit_9 : decode prog_7_method_5_code 9 = .ok (.putfield 51, 3) := by decide +kernel
theorem d_S_announceLimit_12 : decode prog_7_method_5_code 12 = .ok (.aload_n 0, 1) := by decide +kernel
theorem d_S_announceLimit_13 : decode prog_7_method_5_code 13 = .ok (.aload_n 0, 1) := by decide +kernel
theorem d_S_announceLimit_14 : decode prog_7_method_5_code 14 = .ok (.getfield 60, 3) := by decide +kernel
theorem d_S_announceLimit_17 : decode prog_7_method_5_code 17 = .ok (.putfield 57, 3) := by decide +kernel
theorem d_S_announceLimit_20 : decode prog_7_method_5_code 20 = .ok (.return_, 1) := by decide +kernel
theorem d_M_floorMod_0 : decode prog_12_method_50_code 0 = .ok (.iload_n 0, 1) := by decide +kernel
theorem d_M_floorMod_1 : decode prog_12_method_50_code 1 = .ok (.iload_n 1, 1) := by decide +kernel
theorem d_M_floorMod_2 : decode prog_12_method_50_code 2 = .ok (.irem, 1) := by decide +kernel
theorem d_M_floorMod_3 : decode prog_12_method_50_code 3 = .ok (.istore_n 2, 1) := by decide +kernel
theorem d_M_floorMod_4 : decode prog_12_method_50_code 4 = .ok (.iload_n 0, 1) := by decide +kernel
theorem d_M_floorMod_5 : decode prog_12_method_50_code 5 = .ok (.iload_n 1, 1) := by decide +kernel
theorem d_M_floorMod_6 : decode prog_12_method_50_code 6 = .ok (.ixor, 1) := by decide +kernel
theorem d_M_floorMod_7 : decode prog_12_method_50_code 7 = .ok (.ifCond .ge 11, 3) := by decide +kernel
theorem d_M_floorMod_10 : decode prog_12_method_50_code 10 = .ok (.iload_n 2, 1) := by decide +kernel
theorem d_M_floorMod_11 : decode prog_12_method_50_code 11 = .ok (.ifCond .eq 7, 3) := by decide +kernel
theorem d_M_floorMod_14 : decode prog_12_method_50_code 14 = .ok (.iload_n 2, 1) := by decide +kernel
theorem d_M_floorMod_15 : decode prog_12_method_50_code 15 = .ok (.iload_n 1, 1) := by decide +kernel
theorem d_M_floorMod_16 : decode prog_12_method_50_code 16 = .ok (.iadd, 1) := by decide +kernel
theorem d_M_floorMod_17 : decode prog_12_method_50_code 17 = .ok (.ireturn, 1) := by decide +kernel
theorem d_M_floorMod_18 : decode prog_12_method_50_code 18 = .ok (.iload_n 2, 1) := by decide +kernel
theorem d_M_floorMod_19 : decode prog_12_method_50_code 19 = .ok (.ireturn, 1) := by decide +kernel
theorem d_X_init_0 : decode prog_1_method_1_code 0 = .ok (.aload_n 0, 1) := by decide +kernel
theorem d_X_init_1 : decode prog_1_method_1_code 1 = .ok (.invokespecial 3, 3) := by decide +kernel
theorem d_X_init_4 : decode prog_1_method_1_code 4 = .ok (.aload_n 0, 1) := by decide +kernel
theorem d_X_init_5 : decode prog_1_method_1_code 5 = .ok (.new 9, 3) := by decide +kernel
theorem d_X_init_8 : decode prog_1_method_1_code 8 = .ok (.dup, 1) := by decide +kernel
theorem d_X_init_9 : decode prog_1_method_1_code 9 = .ok (.invokespecial 11, 3) := by decide +kernel
theorem d_X_init_12 : decode prog_1_method_1_code 12 = .ok (.putfield 12, 3) := by decide +kernel
theorem d_X_init_15 : decode prog_1_method_1_code 15 = .ok (.aload_n 0, 1) := by decide +kernel
theorem d_X_init_16 : decode prog_1_method_1_code 16 = .ok (.new 16, 3) := by decide +kernel
theorem d_X_init_19 : decode prog_1_method_1_code 19 = .ok (.dup, 1) := by decide +kernel
theorem d_X_init_20 : decode prog_1_method_1_code 20 = .ok (.invokespecial 18, 3) := by decide +kernel
theorem d_X_init_23 : decode prog_1_method_1_code 23 = .ok (.putfield 19, 3) := by decide +kernel
theorem d_X_init_26 : decode prog_1_method_1_code 26 = .ok (.aload_n 0, 1) := by decide +kernel
theorem d_X_init_27 : decode prog_1_method_1_code 27 = .ok (.new 23, 3) := by decide +kernel
theorem d_X_init_30 : decode prog_1_method_1_code 30 = .ok (.dup, 1) := by decide +kernel
theorem d_X_init_31 : decode prog_1_method_1_code 31 = .ok (.invokespecial 25, 3) := by decide +kernel
theorem d_X_init_34 : decode prog_1_method_1_code 34 = .ok (.putfield 26, 3) := by decide +kernel
theorem d_X_init_37 : decode prog_1_method_1_code 37 = .ok (.aload_n 0, 1) := by decide +kernel
theorem d_X_init_38 : decode prog_1_method_1_code 38 = .ok (.bipush 60, 2) := by decide +kernel
theorem d_X_init_40 : decode prog_1_method_1_code 40 = .ok (.anewarray 30, 3) := by decide +kernel
theorem d_X_init_43 : decode prog_1_method_1_code 43 = .ok (.putfield 32, 3) := by decide +kernel
theorem d_X_init_46 : decode prog_1_method_1_code 46 = .ok (.aload_n 0, 1) := by decide +kernel
theorem d_X_init_47 : decode prog_1_method_1_code 47 = .ok (.iconst 0, 1) := by decide +kernel
theorem d_X_init_48 : decode prog_1_method_1_code 48 = .ok (.putfield 36, 3) := by decide +kernel
theorem d_X_init_51 : decode prog_1_method_1_code 51 = .ok (.aload_n 0, 1) := by decide +kernel
theorem d_X_init_52 : decode prog_1_method_1_code 52 = .ok (.iconst 0, 1) := by decide +kernel
theorem d_X_init_53 : decode prog_1_method_1_code 53 = .ok (.putfield 40, 3) := by decide +kernel
theorem d_X_init_56 : decode prog_1_method_1_code 56 = .ok (.return_, 1) := by decide +kernel
theorem d_X_isLifetime_0 : decode prog_1_method_20_code 0 = .ok (.iload_n 0, 1) := by decide +kernel
theorem d_X_isLifetime_1 : decode prog_1_method_20_code 1 = .ok (.ifCond .lt 14, 3) := by decide +kernel
theorem d_X_isLifetime_4 : decode prog_1_method_20_code 4 = .ok (.iload_n 0, 1) := by decide +kernel
theorem d_X_isLifetime_5 : decode prog_1_method_20_code 5 = .ok (.sipush 1000, 3) := by decide +kernel
theorem d_X_isLifetime_8 : decode prog_1_method_20_code 8 = .ok (.if_icmp .gt 7, 3) := by decide +kernel
theorem d_X_isLifetime_11 : decode prog_1_method_20_code 11 = .ok (.iconst 1, 1) := by decide +kernel
theorem d_X_isLifetime_12 : decode prog_1_method_20_code 12 = .ok (.goto 4, 3) := by decide +kernel
theorem d_X_isLifetime_15 : decode prog_1_method_20_code 15 = .ok (.iconst 0, 1) := by decide +kernel
theorem d_X_isLifetime_16 : decode prog_1_method_20_code 16 = .ok (.ireturn, 1) := by decide +kernel
theorem d_X_put_0 : decode prog_1_method_2_code 0 = .ok (.aload_n 0, 1) := by decide +kernel
theorem d_X_put_1 : decode prog_1_method_2_code 1 = .ok (.getfield 12, 3) := by decide +kernel
theorem d_X_put_4 : decode prog_1_method_2_code 4 = .ok (.iload_n 1, 1) := by decide +kernel
theorem d_X_put_5 : decode prog_1_method_2_code 5 = .ok (.invokevirtual 43, 3) := by decide +kernel
theorem d_X_put_8 : decode prog_1_method_2_code 8 = .ok (.astore 4, 2) := by decide +kernel
theorem d_X_put_10 : decode prog_1_method_2_code 10 = .ok (.aload 4, 2) := by decide +kernel
theorem d_X_put_12 : decode prog_1_method_2_code 12 = .ok (.ifnull 10, 3) := by decide +kernel
theorem d_X_put_15 : decode prog_1_method_2_code 15 = .ok (.iload_n 3, 1) := by decide +kernel
theorem d_X_put_16 : decode prog_1_method_2_code 16 = .ok (.invokestatic 47, 3) := by decide +kernel
theorem d_X_put_19 : decode prog_1_method_2_code 19 = .ok (.ifCond .ne 5, 3) := by decide +kernel
theorem d_X_put_22 : decode prog_1_method_2_code 22 = .ok (.iconst (-1), 1) := by decide +kernel
theorem d_X_put_23 : decode prog_1_method_2_code 23 = .ok (.ireturn, 1) := by decide +kernel
theorem d_X_put_24 : decode prog_1_method_2_code 24 = .ok (.aload_n 0, 1) := by decide +kernel
theorem d_X_put_25 : decode prog_1_method_2_code 25 = .ok (.getfield 12, 3) := by decide +kernel
theorem d_X_put_28 : decode prog_1_method_2_code 28 = .ok (.aload 4, 2) := by decide +kernel
theorem d_X_put_30 : decode prog_1_method_2_code 30 = .ok (.iload_n 2, 1) := by decide +kernel
theorem d_X_put_31 : decode prog_1_method_2_code 31 = .ok (.iload_n 3, 1) := by decide +kernel
theorem d_X_put_32 : decode prog_1_method_2_code 32 = .ok (.invokevirtual 51, 3) := by decide +kernel
theorem d_X_put_35 : decode prog_1_method_2_code 35 = .ok (.aload 4, 2) := by decide +kernel
theorem d_X_put_37 : decode prog_1_method_2_code 37 = .ok (.getfield 55, 3) := by decide +kernel
theorem d_X_put_40 : decode prog_1_method_2_code 40 = .ok (.ireturn, 1) := by decide +kernel
theorem d_X_drop_0 : decode prog_1_method_3_code 0 = .ok (.aload_n 0, 1) := by decide +kernel
theorem d_X_drop_1 : decode prog_1_method_3_code 1 = .ok (.getfield 12, 3) := by decide +kernel
theorem d_X_drop_4 : decode prog_1_method_3_code 4 = .ok (.iload_n 1, 1) := by decide +kernel
theorem d_X_drop_5 : decode prog_1_method_3_code 5 = .ok (.invokevirtual 43, 3) := by decide +kernel
theorem d_X_drop_8 : decode prog_1_method_3_code 8 = .ok (.astore_n 2, 1) := by decide +kernel
theorem d_X_drop_9 : decode prog_1_method_3_code 9 = .ok (.aload_n 2, 1) := by decide +kernel
theorem d_X_drop_10 : decode prog_1_method_3_code 10 = .ok (.ifnull 10, 3) := by decide +kernel
theorem d_X_drop_13 : decode prog_1_method_3_code 13 = .ok (.aload_n 2, 1) := by decide +kernel
theorem d_X_drop_14 : decode prog_1_method_3_code 14 = .ok (.getfield 60, 3) := by decide +kernel
theorem d_X_drop_17 : decode prog_1_method_3_code 17 = .ok (.ifCond .ne 5, 3) := by decide +kernel
theorem d_X_drop_20 : decode prog_1_method_3_code 20 = .ok (.iconst 0, 1) := by decide +kernel
theorem d_X_drop_21 : decode prog_1_method_3_code 21 = .ok (.ireturn, 1) := by decide +kernel
theorem d_X_drop_22 : decode prog_1_method_3_code 22 = .ok (.aload_n 2, 1) := by decide +kernel
theorem d_X_drop_23 : decode prog_1_method_3_code 23 = .ok (.iconst 0, 1) := by decide +kernel
theorem d_X_drop_24 : decode prog_1_method_3_code 24 = .ok (.putfield 60, 3) := by decide +kernel
theorem d_X_drop_27 : decode prog_1_method_3_code 27 = .ok (.iconst 1, 1) := by decide +kernel
theorem d_X_drop_28 : decode prog_1_method_3_code 28 = .ok (.ireturn, 1) := by decide +kernel
theorem d_X_makeRequest_0 : decode prog_1_method_22_code 0 = .ok (.aload_n 0, 1) := by decide +kernel
theorem d_X_makeRequest_1 : decode prog_1_method_22_code 1 = .ok (.getfield 19, 3) := by decide +kernel
theorem d_X_makeRequest_4 : decode prog_1_method_22_code 4 = .ok (.iload_n 1, 1) := by decide +kernel
theorem d_X_makeRequest_5 : decode prog_1_method_22_code 5 = .ok (.invokevirtual 164, 3) := by decide +kernel
theorem d_X_makeRequest_8 : decode prog_1_method_22_code 8 = .ok (.astore 5, 2) := by decide +kernel
theorem d_X_makeRequest_10 : decode prog_1_method_22_code 10 = .ok (.aload 5, 2) := by decide +kernel
theorem d_X_makeRequest_12 : decode prog_1_method_22_code 12 = .ok (.ifnull 15, 3) := by decide +kernel
theorem d_X_makeRequest_15 : decode prog_1_method_22_code 15 = .ok (.aload_n 0, 1) := by decide +kernel
theorem d_X_makeRequest_16 : decode prog_1_method_22_code 16 = .ok (.getfield 36, 3) := by decide +kernel
theorem d_X_makeRequest_19 : decode prog_1_method_22_code 19 = .ok (.aload_n 0, 1) := by decide +kernel
theorem d_X_makeRequest_20 : decode prog_1_method_22_code 20 = .ok (.getfield 32, 3) := by decide +kernel
theorem d_X_makeRequest_23 : decode prog_1_method_22_code 23 = .ok (.arraylength, 1) := by decide +kernel
theorem d_X_makeRequest_24 : decode prog_1_method_22_code 24 = .ok (.if_icmp .lt 5, 3) := by decide +kernel
theorem d_X_makeRequest_27 : decode prog_1_method_22_code 27 = .ok (.iconst (-1), 1) := by decide +kernel
theorem d_X_makeRequest_28 : decode prog_1_method_22_code 28 = .ok (.ireturn, 1) := by decide +kernel
theorem d_X_makeRequest_29 : decode prog_1_method_22_code 29 = .ok (.new 30, 3) := by decide +kernel
theorem d_X_makeRequest_32 : decode prog_1_method_22_code 32 = .ok (.dup, 1) := by decide +kernel
theorem d_X_makeRequest_33 : decode prog_1_method_22_code 33 = .ok (.aload_n 0, 1) := by decide +kernel
theorem d_X_makeRequest_34 : decode prog_1_method_22_code 34 = .ok (.getfield 36, 3) := by decide +kernel
theorem d_X_makeRequest_37 : decode prog_1_method_22_code 37 = .ok (.iload_n 1, 1) := by decide +kernel
theorem d_X_makeRequest_38 : decode prog_1_method_22_code 38 = .ok (.iload_n 2, 1) := by decide +kernel
theorem d_X_makeRequest_39 : decode prog_1_method_22_code 39 = .ok (.iload_n 3, 1) := by decide +kernel
theorem d_X_makeRequest_40 : decode prog_1_method_22_code 40 = .ok (.iload 4, 2) := by decide +kernel
theorem d_X_makeRequest_42 : decode prog_1_method_22_code 42 = .ok (.invokespecial 208, 3) := by decide +kernel
theorem d_X_makeRequest_45 : decode prog_1_method_22_code 45 = .ok (.astore 6, 2) := by decide +kernel
theorem d_X_makeRequest_47 : decode prog_1_method_22_code 47 = .ok (.aload_n 0, 1) := by decide +kernel
theorem d_X_makeRequest_48 : decode prog_1_method_22_code 48 = .ok (.getfield 19, 3) := by decide +kernel
theorem d_X_makeRequest_51 : decode prog_1_method_22_code 51 = .ok (.aload 6, 2) := by decide +kernel
theorem d_X_makeRequest_53 : decode prog_1_method_22_code 53 = .ok (.aload 5, 2) := by decide +kernel
theorem d_X_makeRequest_55 : decode prog_1_method_22_code 55 = .ok (.aload_n 0, 1) := by decide +kernel
theorem d_X_makeRequest_56 : decode prog_1_method_22_code 56 = .ok (.getfield 40, 3) := by decide +kernel
theorem d_X_makeRequest_59 : decode prog_1_method_22_code 59 = .ok (.invokevirtual 211, 3) := by decide +kernel
theorem d_X_makeRequest_62 : decode prog_1_method_22_code 62 = .ok (.aload_n 0, 1) := by decide +kernel
theorem d_X_makeRequest_63 : decode prog_1_method_22_code 63 = .ok (.getfield 32, 3) := by decide +kernel
theorem d_X_makeRequest_66 : decode prog_1_method_22_code 66 = .ok (.aload_n 0, 1) := by decide +kernel
theorem d_X_makeRequest_67 : decode prog_1_method_22_code 67 = .ok (.getfield 36, 3) := by decide +kernel
theorem d_X_makeRequest_70 : decode prog_1_method_22_code 70 = .ok (.aload 6, 2) := by decide +kernel
theorem d_X_makeRequest_72 : decode prog_1_method_22_code 72 = .ok (.aastore, 1) := by decide +kernel
theorem d_X_makeRequest_73 : decode prog_1_method_22_code 73 = .ok (.aload_n 0, 1) := by decide +kernel
theorem d_X_makeRequest_74 : decode prog_1_method_22_code 74 = .ok (.dup, 1) := by decide +kernel
theorem d_X_makeRequest_75 : decode prog_1_method_22_code 75 = .ok (.getfield 36, 3) := by decide +kernel
theorem d_X_makeRequest_78 : decode prog_1_method_22_code 78 = .ok (.iconst 1, 1) := by decide +kernel
theorem d_X_makeRequest_79 : decode prog_1_method_22_code 79 = .ok (.iadd, 1) := by decide +kernel
theorem d_X_makeRequest_80 : decode prog_1_method_22_code 80 = .ok (.putfield 36, 3) := by decide +kernel
theorem d_X_makeRequest_83 : decode prog_1_method_22_code 83 = .ok (.aload 6, 2) := by decide +kernel
theorem d_X_makeRequest_85 : decode prog_1_method_22_code 85 = .ok (.getfield 158, 3) := by decide +kernel
theorem d_X_makeRequest_88 : decode prog_1_method_22_code 88 = .ok (.ireturn, 1) := by decide +kernel
theorem d_X_get_0 : decode prog_1_method_4_code 0 = .ok (.aload_n 0, 1) := by decide +kernel
theorem d_X_get_1 : decode prog_1_method_4_code 1 = .ok (.iload_n 1, 1) := by decide +kernel
theorem d_X_get_2 : decode prog_1_method_4_code 2 = .ok (.iconst 0, 1) := by decide +kernel
theorem d_X_get_3 : decode prog_1_method_4_code 3 = .ok (.iconst 0, 1) := by decide +kernel
theorem d_X_get_4 : decode prog_1_method_4_code 4 = .ok (.iconst 0, 1) := by decide +kernel
theorem d_X_get_5 : decode prog_1_method_4_code 5 = .ok (.invokevirtual 64, 3) := by decide +kernel
theorem d_X_get_8 : decode prog_1_method_4_code 8 = .ok (.ireturn, 1) := by decide +kernel
theorem d_X_replace_0 : decode prog_1_method_5_code 0 = .ok (.iload_n 3, 1) := by decide +kernel
theorem d_X_replace_1 : decode prog_1_method_5_code 1 = .ok (.invokestatic 47, 3) := by decide +kernel
theorem d_X_replace_4 : decode prog_1_method_5_code 4 = .ok (.ifCond .ne 5, 3) := by decide +kernel
theorem d_X_replace_7 : decode prog_1_method_5_code 7 = .ok (.iconst (-1), 1) := by decide +kernel
theorem d_X_replace_8 : decode prog_1_method_5_code 8 = .ok (.ireturn, 1) := by decide +kernel
theorem d_X_replace_9 : decode prog_1_method_5_code 9 = .ok (.aload_n 0, 1) := by decide +kernel
theorem d_X_replace_10 : decode prog_1_method_5_code 10 = .ok (.iload_n 1, 1) := by decide +kernel
theorem d_X_replace_11 : decode prog_1_method_5_code 11 = .ok (.iconst 1, 1) := by decide +kernel
theorem d_X_replace_12 : decode prog_1_method_5_code 12 = .ok (.iload_n 2, 1) := by decide +kernel
theorem d_X_replace_13 : decode prog_1_method_5_code 13 = .ok (.iload_n 3, 1) := by decide +kernel
theorem d_X_replace_14 : decode prog_1_method_5_code 14 = .ok (.invokevirtual 64, 3) := by decide +kernel
theorem d_X_replace_17 : decode prog_1_method_5_code 17 = .ok (.ireturn, 1) := by decide +kernel
theorem d_X_requestAt_0 : decode prog_1_method_21_code 0 = .ok (.iload_n 1, 1) := by decide +kernel
theorem d_X_requestAt_1 : decode prog_1_method_21_code 1 = .ok (.ifCond .lt 20, 3) := by decide +kernel
theorem d_X_requestAt_4 : decode prog_1_method_21_code 4 = .ok (.iload_n 1, 1) := by decide +kernel
theorem d_X_requestAt_5 : decode prog_1_method_21_code 5 = .ok (.aload_n 0, 1) := by decide +kernel
theorem d_X_requestAt_6 : decode prog_1_method_21_code 6 = .ok (.getfield 36, 3) := by decide +kernel
theorem d_X_requestAt_9 : decode prog_1_method_21_code 9 = .ok (.if_icmp .ge 12, 3) := by decide +kernel
theorem d_X_requestAt_12 : decode prog_1_method_21_code 12 = .ok (.iload_n 1, 1) := by decide +kernel
theorem d_X_requestAt_13 : decode prog_1_method_21_code 13 = .ok (.aload_n 0, 1) := by decide +kernel
theorem d_X_requestAt_14 : decode prog_1_method_21_code 14 = .ok (.getfield 32, 3) := by decide +kernel
theorem d_X_requestAt_17 : decode prog_1_method_21_code 17 = .ok (.arraylength, 1) := by decide +kernel
theorem d_X_requestAt_18 : decode prog_1_method_21_code 18 = .ok (.if_icmp .lt 5, 3) := by decide +kernel
theorem d_X_requestAt_21 : decode prog_1_method_21_code 21 = .ok (.aconst_null, 1) := by decide +kernel
theorem d_X_requestAt_22 : decode prog_1_method_21_code 22 = .ok (.areturn, 1) := by decide +kernel
theorem d_X_requestAt_23 : decode prog_1_method_21_code 23 = .ok (.aload_n 0, 1) := by decide +kernel
theorem d_X_requestAt_24 : decode prog_1_method_21_code 24 = .ok (.getfield 32, 3) := by decide +kernel
theorem d_X_requestAt_27 : decode prog_1_method_21_code 27 = .ok (.iload_n 1, 1) := by decide +kernel
theorem d_X_requestAt_28 : decode prog_1_method_21_code 28 = .ok (.aaload, 1) := by decide +kernel
theorem d_X_requestAt_29 : decode prog_1_method_21_code 29 = .ok (.areturn, 1) := by decide +kernel
theorem d_X_arrive_0 : decode prog_1_method_6_code 0 = .ok (.aload_n 0, 1) := by decide +kernel
theorem d_X_arrive_1 : decode prog_1_method_6_code 1 = .ok (.iload_n 1, 1) := by decide +kernel
theorem d_X_arrive_2 : decode prog_1_method_6_code 2 = .ok (.invokevirtual 68, 3) := by decide +kernel
theorem d_X_arrive_5 : decode prog_1_method_6_code 5 = .ok (.astore_n 2, 1) := by decide +kernel
theorem d_X_arrive_6 : decode prog_1_method_6_code 6 = .ok (.aload_n 2, 1) := by decide +kernel
theorem d_X_arrive_7 : decode prog_1_method_6_code 7 = .ok (.ifnull 10, 3) := by decide +kernel
theorem d_X_arrive_10 : decode prog_1_method_6_code 10 = .ok (.aload_n 2, 1) := by decide +kernel
theorem d_X_arrive_11 : decode prog_1_method_6_code 11 = .ok (.getfield 72, 3) := by decide +kernel
theorem d_X_arrive_14 : decode prog_1_method_6_code 14 = .ok (.ifCond .ne 5, 3) := by decide +kernel
theorem d_X_arrive_17 : decode prog_1_method_6_code 17 = .ok (.iconst (-1), 1) := by decide +kernel
theorem d_X_arrive_18 : decode prog_1_method_6_code 18 = .ok (.ireturn, 1) := by decide +kernel
theorem d_X_arrive_19 : decode prog_1_method_6_code 19 = .ok (.aload_n 2, 1) := by decide +kernel
theorem d_X_arrive_20 : decode prog_1_method_6_code 20 = .ok (.iconst 0, 1) := by decide +kernel
theorem d_X_arrive_21 : decode prog_1_method_6_code 21 = .ok (.putfield 72, 3) := by decide +kernel
theorem d_X_arrive_24 : decode prog_1_method_6_code 24 = .ok (.aload_n 0, 1) := by decide +kernel
theorem d_X_arrive_25 : decode prog_1_method_6_code 25 = .ok (.getfield 12, 3) := by decide +kernel
theorem d_X_arrive_28 : decode prog_1_method_6_code 28 = .ok (.aload_n 2, 1) := by decide +kernel
theorem d_X_arrive_29 : decode prog_1_method_6_code 29 = .ok (.invokevirtual 75, 3) := by decide +kernel
theorem d_X_arrive_32 : decode prog_1_method_6_code 32 = .ok (.ireturn, 1) := by decide +kernel
theorem d_X_reply_0 : decode prog_1_method_7_code 0 = .ok (.aload_n 0, 1) := by decide +kernel
theorem d_X_reply_1 : decode prog_1_method_7_code 1 = .ok (.iload_n 1, 1) := by decide +kernel
theorem d_X_reply_2 : decode prog_1_method_7_code 2 = .ok (.invokevirtual 68, 3) := by decide +kernel
theorem d_X_reply_5 : decode prog_1_method_7_code 5 = .ok (.astore_n 2, 1) := by decide +kernel
theorem d_X_reply_6 : decode prog_1_method_7_code 6 = .ok (.aload_n 2, 1) := by decide +kernel
theorem d_X_reply_7 : decode prog_1_method_7_code 7 = .ok (.ifnull 20, 3) := by decide +kernel
theorem d_X_reply_10 : decode prog_1_method_7_code 10 = .ok (.aload_n 2, 1) := by decide +kernel
theorem d_X_reply_11 : decode prog_1_method_7_code 11 = .ok (.getfield 79, 3) := by decide +kernel
theorem d_X_reply_14 : decode prog_1_method_7_code 14 = .ok (.ifnull 13, 3) := by decide +kernel
theorem d_X_reply_17 : decode prog_1_method_7_code 17 = .ok (.aload_n 2, 1) := by decide +kernel
theorem d_X_reply_18 : decode prog_1_method_7_code 18 = .ok (.getfield 79, 3) := by decide +kernel
theorem d_X_reply_21 : decode prog_1_method_7_code 21 = .ok (.getfield 83, 3) := by decide +kernel
theorem d_X_reply_24 : decode prog_1_method_7_code 24 = .ok (.ifCond .ne 5, 3) := by decide +kernel
theorem d_X_reply_27 : decode prog_1_method_7_code 27 = .ok (.iconst (-1), 1) := by decide +kernel
theorem d_X_reply_28 : decode prog_1_method_7_code 28 = .ok (.ireturn, 1) := by decide +kernel
theorem d_X_reply_29 : decode prog_1_method_7_code 29 = .ok (.aload_n 2, 1) := by decide +kernel
theorem d_X_reply_30 : decode prog_1_method_7_code 30 = .ok (.getfield 79, 3) := by decide +kernel
theorem d_X_reply_33 : decode prog_1_method_7_code 33 = .ok (.iconst 0, 1) := by decide +kernel
theorem d_X_reply_34 : decode prog_1_method_7_code 34 = .ok (.putfield 83, 3) := by decide +kernel
theorem d_X_reply_37 : decode prog_1_method_7_code 37 = .ok (.aload_n 0, 1) := by decide +kernel
theorem d_X_reply_38 : decode prog_1_method_7_code 38 = .ok (.getfield 19, 3) := by decide +kernel
theorem d_X_reply_41 : decode prog_1_method_7_code 41 = .ok (.aload_n 2, 1) := by decide +kernel
theorem d_X_reply_42 : decode prog_1_method_7_code 42 = .ok (.getfield 79, 3) := by decide +kernel
theorem d_X_reply_45 : decode prog_1_method_7_code 45 = .ok (.invokevirtual 86, 3) := by decide +kernel
theorem d_X_reply_48 : decode prog_1_method_7_code 48 = .ok (.ifCond .eq 13, 3) := by decide +kernel
theorem d_X_reply_51 : decode prog_1_method_7_code 51 = .ok (.aload_n 2, 1) := by decide +kernel
theorem d_X_reply_52 : decode prog_1_method_7_code 52 = .ok (.getfield 79, 3) := by decide +kernel
theorem d_X_reply_55 : decode prog_1_method_7_code 55 = .ok (.iconst 1, 1) := by decide +kernel
theorem d_X_reply_56 : decode prog_1_method_7_code 56 = .ok (.putfield 90, 3) := by decide +kernel
theorem d_X_reply_59 : decode prog_1_method_7_code 59 = .ok (.iconst 0, 1) := by decide +kernel
theorem d_X_reply_60 : decode prog_1_method_7_code 60 = .ok (.ireturn, 1) := by decide +kernel
theorem d_X_reply_61 : decode prog_1_method_7_code 61 = .ok (.aload_n 0, 1) := by decide +kernel
theorem d_X_reply_62 : decode prog_1_method_7_code 62 = .ok (.getfield 19, 3) := by decide +kernel
theorem d_X_reply_65 : decode prog_1_method_7_code 65 = .ok (.aload_n 2, 1) := by decide +kernel
theorem d_X_reply_66 : decode prog_1_method_7_code 66 = .ok (.aload_n 2, 1) := by decide +kernel
theorem d_X_reply_67 : decode prog_1_method_7_code 67 = .ok (.getfield 79, 3) := by decide +kernel
theorem d_X_reply_70 : decode prog_1_method_7_code 70 = .ok (.aload_n 0, 1) := by decide +kernel
theorem d_X_reply_71 : decode prog_1_method_7_code 71 = .ok (.getfield 26, 3) := by decide +kernel
theorem d_X_reply_74 : decode prog_1_method_7_code 74 = .ok (.invokevirtual 93, 3) := by decide +kernel
theorem d_X_reply_77 : decode prog_1_method_7_code 77 = .ok (.aload_n 2, 1) := by decide +kernel
theorem d_X_reply_78 : decode prog_1_method_7_code 78 = .ok (.getfield 97, 3) := by decide +kernel
theorem d_X_reply_81 : decode prog_1_method_7_code 81 = .ok (.ireturn, 1) := by decide +kernel
theorem d_X_isBlocked_0 : decode prog_1_method_24_code 0 = .ok (.aload_n 0, 1) := by decide +kernel
theorem d_X_isBlocked_1 : decode prog_1_method_24_code 1 = .ok (.ifnull 24, 3) := by decide +kernel
theorem d_X_isBlocked_4 : decode prog_1_method_24_code 4 = .ok (.aload_n 0, 1) := by decide +kernel
theorem d_X_isBlocked_5 : decode prog_1_method_24_code 5 = .ok (.getfield 79, 3) := by decide +kernel
theorem d_X_isBlocked_8 : decode prog_1_method_24_code 8 = .ok (.ifnull 17, 3) := by decide +kernel
theorem d_X_isBlocked_11 : decode prog_1_method_24_code 11 = .ok (.aload_n 0, 1) := by decide +kernel
theorem d_X_isBlocked_12 : decode prog_1_method_24_code 12 = .ok (.getfield 79, 3) := by decide +kernel
theorem d_X_isBlocked_15 : decode prog_1_method_24_code 15 = .ok (.getfield 90, 3) := by decide +kernel
theorem d_X_isBlocked_18 : decode prog_1_method_24_code 18 = .ok (.ifCond .eq 7, 3) := by decide +kernel
theorem d_X_isBlocked_21 : decode prog_1_method_24_code 21 = .ok (.iconst 1, 1) := by decide +kernel
theorem d_X_isBlocked_22 : decode prog_1_method_24_code 22 = .ok (.goto 4, 3) := by decide +kernel
theorem d_X_isBlocked_25 : decode prog_1_method_24_code 25 = .ok (.iconst 0, 1) := by decide +kernel
theorem d_X_isBlocked_26 : decode prog_1_method_24_code 26 = .ok (.ireturn, 1) := by decide +kernel
theorem d_X_readUnblocked_0 : decode prog_1_method_23_code 0 = .ok (.iconst 0, 1) := by decide +kernel
theorem d_X_readUnblocked_1 : decode prog_1_method_23_code 1 = .ok (.istore_n 1, 1) := by decide +kernel
theorem d_X_readUnblocked_2 : decode prog_1_method_23_code 2 = .ok (.iconst 0, 1) := by decide +kernel
theorem d_X_readUnblocked_3 : decode prog_1_method_23_code 3 = .ok (.istore_n 2, 1) := by decide +kernel
theorem d_X_readUnblocked_4 : decode prog_1_method_23_code 4 = .ok (.iload_n 2, 1) := by decide +kernel
theorem d_X_readUnblocked_5 : decode prog_1_method_23_code 5 = .ok (.aload_n 0, 1) := by decide +kernel
theorem d_X_readUnblocked_6 : decode prog_1_method_23_code 6 = .ok (.getfield 36, 3) := by decide +kernel
theorem d_X_readUnblocked_9 : decode prog_1_method_23_code 9 = .ok (.if_icmp .ge 63, 3) := by decide +kernel
theorem d_X_readUnblocked_12 : decode prog_1_method_23_code 12 = .ok (.aload_n 0, 1) := by decide +kernel
theorem d_X_readUnblocked_13 : decode prog_1_method_23_code 13 = .ok (.iload_n 2, 1) := by decide +kernel
theorem d_X_readUnblocked_14 : decode prog_1_method_23_code 14 = .ok (.invokevirtual 68, 3) := by decide +kernel
theorem d_X_readUnblocked_17 : decode prog_1_method_23_code 17 = .ok (.astore_n 3, 1) := by decide +kernel
theorem d_X_readUnblocked_18 : decode prog_1_method_23_code 18 = .ok (.aload_n 3, 1) := by decide +kernel
theorem d_X_readUnblocked_19 : decode prog_1_method_23_code 19 = .ok (.invokestatic 215, 3) := by decide +kernel
theorem d_X_readUnblocked_22 : decode prog_1_method_23_code 22 = .ok (.ifCond .eq 44, 3) := by decide +kernel
theorem d_X_readUnblocked_25 : decode prog_1_method_23_code 25 = .ok (.aload_n 0, 1) := by decide +kernel
theorem d_X_readUnblocked_26 : decode prog_1_method_23_code 26 = .ok (.getfield 19, 3) := by decide +kernel
theorem d_X_readUnblocked_29 : decode prog_1_method_23_code 29 = .ok (.aload_n 3, 1) := by decide +kernel
theorem d_X_readUnblocked_30 : decode prog_1_method_23_code 30 = .ok (.getfield 79, 3) := by decide +kernel
theorem d_X_readUnblocked_33 : decode prog_1_method_23_code 33 = .ok (.invokevirtual 86, 3) := by decide +kernel
theorem d_X_readUnblocked_36 : decode prog_1_method_23_code 36 = .ok (.ifCond .ne 30, 3) := by decide +kernel
theorem d_X_readUnblocked_39 : decode prog_1_method_23_code 39 = .ok (.aload_n 3, 1) := by decide +kernel
theorem d_X_readUnblocked_40 : decode prog_1_method_23_code 40 = .ok (.getfield 79, 3) := by decide +kernel
theorem d_X_readUnblocked_43 : decode prog_1_method_23_code 43 = .ok (.iconst 0, 1) := by decide +kernel
theorem d_X_readUnblocked_44 : decode prog_1_method_23_code 44 = .ok (.putfield 90, 3) := by decide +kernel
theorem d_X_readUnblocked_47 : decode prog_1_method_23_code 47 = .ok (.aload_n 0, 1) := by decide +kernel
theorem d_X_readUnblocked_48 : decode prog_1_method_23_code 48 = .ok (.getfield 19, 3) := by decide +kernel
theorem d_X_readUnblocked_51 : decode prog_1_method_23_code 51 = .ok (.aload_n 3, 1) := by decide +kernel
theorem d_X_readUnblocked_52 : decode prog_1_method_23_code 52 = .ok (.aload_n 3, 1) := by decide +kernel
theorem d_X_readUnblocked_53 : decode prog_1_method_23_code 53 = .ok (.getfield 79, 3) := by decide +kernel
theorem d_X_readUnblocked_56 : decode prog_1_method_23_code 56 = .ok (.aload_n 0, 1) := by decide +kernel
theorem d_X_readUnblocked_57 : decode prog_1_method_23_code 57 = .ok (.getfield 26, 3) := by decide +kernel
theorem d_X_readUnblocked_60 : decode prog_1_method_23_code 60 = .ok (.invokevirtual 93, 3) := by decide +kernel
theorem d_X_readUnblocked_63 : decode prog_1_method_23_code 63 = .ok (.iinc 1 1, 3) := by decide +kernel
theorem d_X_readUnblocked_66 : decode prog_1_method_23_code 66 = .ok (.iinc 2 1, 3) := by decide +kernel
theorem d_X_readUnblocked_69 : decode prog_1_method_23_code 69 = .ok (.goto (-65), 3) := by decide +kernel
theorem d_X_readUnblocked_72 : decode prog_1_method_23_code 72 = .ok (.iload_n 1, 1) := by decide +kernel
theorem d_X_readUnblocked_73 : decode prog_1_method_23_code 73 = .ok (.ireturn, 1) := by decide +kernel
theorem d_X_insert_0 : decode prog_1_method_8_code 0 = .ok (.aload_n 0, 1) := by decide +kernel
theorem d_X_insert_1 : decode prog_1_method_8_code 1 = .ok (.getfield 19, 3) := by decide +kernel
theorem d_X_insert_4 : decode prog_1_method_8_code 4 = .ok (.getfield 100, 3) := by decide +kernel
theorem d_X_insert_7 : decode prog_1_method_8_code 7 = .ok (.aload_n 0, 1) := by decide +kernel
theorem d_X_insert_8 : decode prog_1_method_8_code 8 = .ok (.getfield 12, 3) := by decide +kernel
theorem d_X_insert_11 : decode prog_1_method_8_code 11 = .ok (.getfield 103, 3) := by decide +kernel
theorem d_X_insert_14 : decode prog_1_method_8_code 14 = .ok (.getfield 107, 3) := by decide +kernel
theorem d_X_insert_17 : decode prog_1_method_8_code 17 = .ok (.if_icmp .lt 5, 3) := by decide +kernel
theorem d_X_insert_20 : decode prog_1_method_8_code 20 = .ok (.iconst (-1), 1) := by decide +kernel
theorem d_X_insert_21 : decode prog_1_method_8_code 21 = .ok (.ireturn, 1) := by decide +kernel
theorem d_X_insert_22 : decode prog_1_method_8_code 22 = .ok (.aload_n 0, 1) := by decide +kernel
theorem d_X_insert_23 : decode prog_1_method_8_code 23 = .ok (.getfield 19, 3) := by decide +kernel
theorem d_X_insert_26 : decode prog_1_method_8_code 26 = .ok (.dup, 1) := by decide +kernel
theorem d_X_insert_27 : decode prog_1_method_8_code 27 = .ok (.getfield 100, 3) := by decide +kernel
theorem d_X_insert_30 : decode prog_1_method_8_code 30 = .ok (.iconst 1, 1) := by decide +kernel
theorem d_X_insert_31 : decode prog_1_method_8_code 31 = .ok (.iadd, 1) := by decide +kernel
theorem d_X_insert_32 : decode prog_1_method_8_code 32 = .ok (.putfield 100, 3) := by decide +kernel
theorem d_X_insert_35 : decode prog_1_method_8_code 35 = .ok (.aload_n 0, 1) := by decide +kernel
theorem d_X_insert_36 : decode prog_1_method_8_code 36 = .ok (.invokevirtual 112, 3) := by decide +kernel
theorem d_X_insert_39 : decode prog_1_method_8_code 39 = .ok (.ireturn, 1) := by decide +kernel
theorem d_X_endOutstanding_0 : decode prog_1_method_26_code 0 = .ok (.aload_n 0, 1) := by decide +kernel
theorem d_X_endOutstanding_1 : decode prog_1_method_26_code 1 = .ok (.iload_n 1, 1) := by decide +kernel
theorem d_X_endOutstanding_2 : decode prog_1_method_26_code 2 = .ok (.invokevirtual 68, 3) := by decide +kernel
theorem d_X_endOutstanding_5 : decode prog_1_method_26_code 5 = .ok (.astore_n 3, 1) := by decide +kernel
theorem d_X_endOutstanding_6 : decode prog_1_method_26_code 6 = .ok (.aload_n 3, 1) := by decide +kernel
theorem d_X_endOutstanding_7 : decode prog_1_method_26_code 7 = .ok (.ifnull 10, 3) := by decide +kernel
theorem d_X_endOutstanding_10 : decode prog_1_method_26_code 10 = .ok (.aload_n 3, 1) := by decide +kernel
theorem d_X_endOutstanding_11 : decode prog_1_method_26_code 11 = .ok (.getfield 79, 3) := by decide +kernel
theorem d_X_endOutstanding_14 : decode prog_1_method_26_code 14 = .ok (.ifnonnull 4, 3) := by decide +kernel
theorem d_X_endOutstanding_17 : decode prog_1_method_26_code 17 = .ok (.return_, 1) := by decide +kernel
theorem d_X_endOutstanding_18 : decode prog_1_method_26_code 18 = .ok (.aload_n 3, 1) := by decide +kernel
theorem d_X_endOutstanding_19 : decode prog_1_method_26_code 19 = .ok (.getfield 79, 3) := by decide +kernel
theorem d_X_endOutstanding_22 : decode prog_1_method_26_code 22 = .ok (.iconst 0, 1) := by decide +kernel
theorem d_X_endOutstanding_23 : decode prog_1_method_26_code 23 = .ok (.putfield 219, 3) := by decide +kernel
theorem d_X_endOutstanding_26 : decode prog_1_method_26_code 26 = .ok (.iload_n 2, 1) := by decide +kernel
theorem d_X_endOutstanding_27 : decode prog_1_method_26_code 27 = .ok (.ifCond .eq 20, 3) := by decide +kernel
theorem d_X_endOutstanding_30 : decode prog_1_method_26_code 30 = .ok (.aload_n 0, 1) := by decide +kernel
theorem d_X_endOutstanding_31 : decode prog_1_method_26_code 31 = .ok (.getfield 12, 3) := by decide +kernel
theorem d_X_endOutstanding_34 : decode prog_1_method_26_code 34 = .ok (.getfield 103, 3) := by decide +kernel
theorem d_X_endOutstanding_37 : decode prog_1_method_26_code 37 = .ok (.aload_n 3, 1) := by decide +kernel
theorem d_X_endOutstanding_38 : decode prog_1_method_26_code 38 = .ok (.getfield 79, 3) := by decide +kernel
theorem d_X_endOutstanding_41 : decode prog_1_method_26_code 41 = .ok (.getfield 222, 3) := by decide +kernel
theorem d_X_endOutstanding_44 : decode prog_1_method_26_code 44 = .ok (.invokevirtual 225, 3) := by decide +kernel
theorem d_X_endOutstanding_47 : decode prog_1_method_26_code 47 = .ok (.return_, 1) := by decide +kernel
theorem d_X_feedback_0 : decode prog_1_method_9_code 0 = .ok (.aload_n 0, 1) := by decide +kernel
theorem d_X_feedback_1 : decode prog_1_method_9_code 1 = .ok (.getfield 26, 3) := by decide +kernel
theorem d_X_feedback_4 : decode prog_1_method_9_code 4 = .ok (.invokevirtual 116, 3) := by decide +kernel
theorem d_X_feedback_7 : decode prog_1_method_9_code 7 = .ok (.istore_n 1, 1) := by decide +kernel
theorem d_X_feedback_8 : decode prog_1_method_9_code 8 = .ok (.iload_n 1, 1) := by decide +kernel
theorem d_X_feedback_9 : decode prog_1_method_9_code 9 = .ok (.iconst (-1), 1) := by decide +kernel
theorem d_X_feedback_10 : decode prog_1_method_9_code 10 = .ok (.if_icmp .ne 5, 3) := by decide +kernel
theorem d_X_feedback_13 : decode prog_1_method_9_code 13 = .ok (.iconst (-1), 1) := by decide +kernel
theorem d_X_feedback_14 : decode prog_1_method_9_code 14 = .ok (.ireturn, 1) := by decide +kernel
theorem d_X_feedback_15 : decode prog_1_method_9_code 15 = .ok (.aload_n 0, 1) := by decide +kernel
theorem d_X_feedback_16 : decode prog_1_method_9_code 16 = .ok (.getfield 26, 3) := by decide +kernel
theorem d_X_feedback_19 : decode prog_1_method_9_code 19 = .ok (.invokevirtual 119, 3) := by decide +kernel
theorem d_X_feedback_22 : decode prog_1_method_9_code 22 = .ok (.istore_n 2, 1) := by decide +kernel
theorem d_X_feedback_23 : decode prog_1_method_9_code 23 = .ok (.aload_n 0, 1) := by decide +kernel
theorem d_X_feedback_24 : decode prog_1_method_9_code 24 = .ok (.getfield 26, 3) := by decide +kernel
theorem d_X_feedback_27 : decode prog_1_method_9_code 27 = .ok (.invokevirtual 122, 3) := by decide +kernel
theorem d_X_feedback_30 : decode prog_1_method_9_code 30 = .ok (.iload_n 1, 1) := by decide +kernel
theorem d_X_feedback_31 : decode prog_1_method_9_code 31 = .ok (.iconst 2, 1) := by decide +kernel
theorem d_X_feedback_32 : decode prog_1_method_9_code 32 = .ok (.if_icmp .ne 22, 3) := by decide +kernel
theorem d_X_feedback_35 : decode prog_1_method_9_code 35 = .ok (.aload_n 0, 1) := by decide +kernel
theorem d_X_feedback_36 : decode prog_1_method_9_code 36 = .ok (.getfield 12, 3) := by decide +kernel
theorem d_X_feedback_39 : decode prog_1_method_9_code 39 = .ok (.getfield 103, 3) := by decide +kernel
theorem d_X_feedback_42 : decode prog_1_method_9_code 42 = .ok (.dup, 1) := by decide +kernel
theorem d_X_feedback_43 : decode prog_1_method_9_code 43 = .ok (.getfield 125, 3) := by decide +kernel
theorem d_X_feedback_46 : decode prog_1_method_9_code 46 = .ok (.iload_n 2, 1) := by decide +kernel
theorem d_X_feedback_47 : decode prog_1_method_9_code 47 = .ok (.iadd, 1) := by decide +kernel
theorem d_X_feedback_48 : decode prog_1_method_9_code 48 = .ok (.putfield 125, 3) := by decide +kernel
theorem d_X_feedback_51 : decode prog_1_method_9_code 51 = .ok (.goto 17, 3) := by decide +kernel
theorem d_X_feedback_54 : decode prog_1_method_9_code 54 = .ok (.aload_n 0, 1) := by decide +kernel
theorem d_X_feedback_55 : decode prog_1_method_9_code 55 = .ok (.iload_n 2, 1) := by decide +kernel
theorem d_X_feedback_56 : decode prog_1_method_9_code 56 = .ok (.iload_n 1, 1) := by decide +kernel
theorem d_X_feedback_57 : decode prog_1_method_9_code 57 = .ok (.ifCond .ne 7, 3) := by decide +kernel
theorem d_X_feedback_60 : decode prog_1_method_9_code 60 = .ok (.iconst 1, 1) := by decide +kernel
theorem d_X_feedback_61 : decode prog_1_method_9_code 61 = .ok (.goto 4, 3) := by decide +kernel
theorem d_X_feedback_64 : decode prog_1_method_9_code 64 = .ok (.iconst 0, 1) := by decide +kernel
theorem d_X_feedback_65 : decode prog_1_method_9_code 65 = .ok (.invokevirtual 128, 3) := by decide +kernel
theorem d_X_feedback_68 : decode prog_1_method_9_code 68 = .ok (.iload_n 1, 1) := by decide +kernel
theorem d_X_feedback_69 : decode prog_1_method_9_code 69 = .ok (.ireturn, 1) := by decide +kernel
theorem d_X_report_0 : decode prog_1_method_10_code 0 = .ok (.aload_n 0, 1) := by decide +kernel
theorem d_X_report_1 : decode prog_1_method_10_code 1 = .ok (.getfield 19, 3) := by decide +kernel
theorem d_X_report_4 : decode prog_1_method_10_code 4 = .ok (.getfield 100, 3) := by decide +kernel
theorem d_X_report_7 : decode prog_1_method_10_code 7 = .ok (.aload_n 0, 1) := by decide +kernel
theorem d_X_report_8 : decode prog_1_method_10_code 8 = .ok (.getfield 19, 3) := by decide +kernel
theorem d_X_report_11 : decode prog_1_method_10_code 11 = .ok (.getfield 132, 3) := by decide +kernel
theorem d_X_report_14 : decode prog_1_method_10_code 14 = .ok (.isub, 1) := by decide +kernel
theorem d_X_report_15 : decode prog_1_method_10_code 15 = .ok (.istore_n 1, 1) := by decide +kernel
theorem d_X_report_16 : decode prog_1_method_10_code 16 = .ok (.iload_n 1, 1) := by decide +kernel
theorem d_X_report_17 : decode prog_1_method_10_code 17 = .ok (.ifCond .gt 5, 3) := by decide +kernel
theorem d_X_report_20 : decode prog_1_method_10_code 20 = .ok (.iconst 0, 1) := by decide +kernel
theorem d_X_report_21 : decode prog_1_method_10_code 21 = .ok (.ireturn, 1) := by decide +kernel
theorem d_X_report_22 : decode prog_1_method_10_code 22 = .ok (.aload_n 0, 1) := by decide +kernel
theorem d_X_report_23 : decode prog_1_method_10_code 23 = .ok (.getfield 26, 3) := by decide +kernel
theorem d_X_report_26 : decode prog_1_method_10_code 26 = .ok (.iconst 2, 1) := by decide +kernel
theorem d_X_report_27 : decode prog_1_method_10_code 27 = .ok (.iload_n 1, 1) := by decide +kernel
theorem d_X_report_28 : decode prog_1_method_10_code 28 = .ok (.invokevirtual 135, 3) := by decide +kernel
theorem d_X_report_31 : decode prog_1_method_10_code 31 = .ok (.aload_n 0, 1) := by decide +kernel
theorem d_X_report_32 : decode prog_1_method_10_code 32 = .ok (.getfield 19, 3) := by decide +kernel
theorem d_X_report_35 : decode prog_1_method_10_code 35 = .ok (.aload_n 0, 1) := by decide +kernel
theorem d_X_report_36 : decode prog_1_method_10_code 36 = .ok (.getfield 19, 3) := by decide +kernel
theorem d_X_report_39 : decode prog_1_method_10_code 39 = .ok (.getfield 100, 3) := by decide +kernel
theorem d_X_report_42 : decode prog_1_method_10_code 42 = .ok (.putfield 132, 3) := by decide +kernel
theorem d_X_report_45 : decode prog_1_method_10_code 45 = .ok (.iconst 1, 1) := by decide +kernel
theorem d_X_report_46 : decode prog_1_method_10_code 46 = .ok (.ireturn, 1) := by decide +kernel
theorem d_X_goaway_0 : decode prog_1_method_11_code 0 = .ok (.aload_n 0, 1) := by decide +kernel
theorem d_X_goaway_1 : decode prog_1_method_11_code 1 = .ok (.getfield 12, 3) := by decide +kernel
theorem d_X_goaway_4 : decode prog_1_method_11_code 4 = .ok (.invokevirtual 139, 3) := by decide +kernel
theorem d_X_goaway_7 : decode prog_1_method_11_code 7 = .ok (.aload_n 0, 1) := by decide +kernel
theorem d_X_goaway_8 : decode prog_1_method_11_code 8 = .ok (.getfield 12, 3) := by decide +kernel
theorem d_X_goaway_11 : decode prog_1_method_11_code 11 = .ok (.getfield 142, 3) := by decide +kernel
theorem d_X_goaway_14 : decode prog_1_method_11_code 14 = .ok (.ireturn, 1) := by decide +kernel
theorem d_X_refuseFrom_0 : decode prog_1_method_27_code 0 = .ok (.iconst 0, 1) := by decide +kernel
theorem d_X_refuseFrom_1 : decode prog_1_method_27_code 1 = .ok (.istore_n 2, 1) := by decide +kernel
theorem d_X_refuseFrom_2 : decode prog_1_method_27_code 2 = .ok (.iload_n 1, 1) := by decide +kernel
theorem d_X_refuseFrom_3 : decode prog_1_method_27_code 3 = .ok (.istore_n 3, 1) := by decide +kernel
theorem d_X_refuseFrom_4 : decode prog_1_method_27_code 4 = .ok (.iload_n 3, 1) := by decide +kernel
theorem d_X_refuseFrom_5 : decode prog_1_method_27_code 5 = .ok (.aload_n 0, 1) := by decide +kernel
theorem d_X_refuseFrom_6 : decode prog_1_method_27_code 6 = .ok (.getfield 36, 3) := by decide +kernel
theorem d_X_refuseFrom_9 : decode prog_1_method_27_code 9 = .ok (.if_icmp .ge 46, 3) := by decide +kernel
theorem d_X_refuseFrom_12 : decode prog_1_method_27_code 12 = .ok (.aload_n 0, 1) := by decide +kernel
theorem d_X_refuseFrom_13 : decode prog_1_method_27_code 13 = .ok (.iload_n 3, 1) := by decide +kernel
theorem d_X_refuseFrom_14 : decode prog_1_method_27_code 14 = .ok (.invokevirtual 68, 3) := by decide +kernel
theorem d_X_refuseFrom_17 : decode prog_1_method_27_code 17 = .ok (.astore 4, 2) := by decide +kernel
theorem d_X_refuseFrom_19 : decode prog_1_method_27_code 19 = .ok (.aload 4, 2) := by decide +kernel
theorem d_X_refuseFrom_21 : decode prog_1_method_27_code 21 = .ok (.ifnull 28, 3) := by decide +kernel
theorem d_X_refuseFrom_24 : decode prog_1_method_27_code 24 = .ok (.aload 4, 2) := by decide +kernel
theorem d_X_refuseFrom_26 : decode prog_1_method_27_code 26 = .ok (.getfield 97, 3) := by decide +kernel
theorem d_X_refuseFrom_29 : decode prog_1_method_27_code 29 = .ok (.ifCond .ne 20, 3) := by decide +kernel
theorem d_X_refuseFrom_32 : decode prog_1_method_27_code 32 = .ok (.aload 4, 2) := by decide +kernel
theorem d_X_refuseFrom_34 : decode prog_1_method_27_code 34 = .ok (.bipush 7, 2) := by decide +kernel
theorem d_X_refuseFrom_36 : decode prog_1_method_27_code 36 = .ok (.iconst 0, 1) := by decide +kernel
theorem d_X_refuseFrom_37 : decode prog_1_method_27_code 37 = .ok (.invokevirtual 155, 3) := by decide +kernel
theorem d_X_refuseFrom_40 : decode prog_1_method_27_code 40 = .ok (.aload 4, 2) := by decide +kernel
theorem d_X_refuseFrom_42 : decode prog_1_method_27_code 42 = .ok (.iconst 0, 1) := by decide +kernel
theorem d_X_refuseFrom_43 : decode prog_1_method_27_code 43 = .ok (.putfield 72, 3) := by decide +kernel
theorem d_X_refuseFrom_46 : decode prog_1_method_27_code 46 = .ok (.iinc 2 1, 3) := by decide +kernel
theorem d_X_refuseFrom_49 : decode prog_1_method_27_code 49 = .ok (.iinc 3 1, 3) := by decide +kernel
theorem d_X_refuseFrom_52 : decode prog_1_method_27_code 52 = .ok (.goto (-48), 3) := by decide +kernel
theorem d_X_refuseFrom_55 : decode prog_1_method_27_code 55 = .ok (.iload_n 2, 1) := by decide +kernel
theorem d_X_refuseFrom_56 : decode prog_1_method_27_code 56 = .ok (.ireturn, 1) := by decide +kernel
theorem d_X_notice_0 : decode prog_1_method_12_code 0 = .ok (.aload_n 0, 1) := by decide +kernel
theorem d_X_notice_1 : decode prog_1_method_12_code 1 = .ok (.getfield 12, 3) := by decide +kernel
theorem d_X_notice_4 : decode prog_1_method_12_code 4 = .ok (.getfield 145, 3) := by decide +kernel
theorem d_X_notice_7 : decode prog_1_method_12_code 7 = .ok (.ifCond .eq 13, 3) := by decide +kernel
theorem d_X_notice_10 : decode prog_1_method_12_code 10 = .ok (.aload_n 0, 1) := by decide +kernel
theorem d_X_notice_11 : decode prog_1_method_12_code 11 = .ok (.getfield 19, 3) := by decide +kernel
theorem d_X_notice_14 : decode prog_1_method_12_code 14 = .ok (.getfield 148, 3) := by decide +kernel
theorem d_X_notice_17 : decode prog_1_method_12_code 17 = .ok (.ifCond .eq 5, 3) := by decide +kernel
theorem d_X_notice_20 : decode prog_1_method_12_code 20 = .ok (.iconst (-1), 1) := by decide +kernel
theorem d_X_notice_21 : decode prog_1_method_12_code 21 = .ok (.ireturn, 1) := by decide +kernel
theorem d_X_notice_22 : decode prog_1_method_12_code 22 = .ok (.aload_n 0, 1) := by decide +kernel
theorem d_X_notice_23 : decode prog_1_method_12_code 23 = .ok (.getfield 19, 3) := by decide +kernel
theorem d_X_notice_26 : decode prog_1_method_12_code 26 = .ok (.iconst 1, 1) := by decide +kernel
theorem d_X_notice_27 : decode prog_1_method_12_code 27 = .ok (.putfield 148, 3) := by decide +kernel
theorem d_X_notice_30 : decode prog_1_method_12_code 30 = .ok (.aload_n 0, 1) := by decide +kernel
theorem d_X_notice_31 : decode prog_1_method_12_code 31 = .ok (.aload_n 0, 1) := by decide +kernel
theorem d_X_notice_32 : decode prog_1_method_12_code 32 = .ok (.getfield 12, 3) := by decide +kernel
theorem d_X_notice_35 : decode prog_1_method_12_code 35 = .ok (.getfield 142, 3) := by decide +kernel
theorem d_X_notice_38 : decode prog_1_method_12_code 38 = .ok (.invokevirtual 151, 3) := by decide +kernel
theorem d_X_notice_41 : decode prog_1_method_12_code 41 = .ok (.ireturn, 1) := by decide +kernel
theorem d_X_cancel_0 : decode prog_1_method_13_code 0 = .ok (.aload_n 0, 1) := by decide +kernel
theorem d_X_cancel_1 : decode prog_1_method_13_code 1 = .ok (.iload_n 1, 1) := by decide +kernel
theorem d_X_cancel_2 : decode prog_1_method_13_code 2 = .ok (.invokevirtual 68, 3) := by decide +kernel
theorem d_X_cancel_5 : decode prog_1_method_13_code 5 = .ok (.astore_n 2, 1) := by decide +kernel
theorem d_X_cancel_6 : decode prog_1_method_13_code 6 = .ok (.aload_n 2, 1) := by decide +kernel
theorem d_X_cancel_7 : decode prog_1_method_13_code 7 = .ok (.ifnull 10, 3) := by decide +kernel
theorem d_X_cancel_10 : decode prog_1_method_13_code 10 = .ok (.aload_n 2, 1) := by decide +kernel
theorem d_X_cancel_11 : decode prog_1_method_13_code 11 = .ok (.getfield 97, 3) := by decide +kernel
theorem d_X_cancel_14 : decode prog_1_method_13_code 14 = .ok (.ifCond .eq 5, 3) := by decide +kernel
theorem d_X_cancel_17 : decode prog_1_method_13_code 17 = .ok (.iconst 0, 1) := by decide +kernel
theorem d_X_cancel_18 : decode prog_1_method_13_code 18 = .ok (.ireturn, 1) := by decide +kernel
theorem d_X_cancel_19 : decode prog_1_method_13_code 19 = .ok (.aload_n 2, 1) := by decide +kernel
theorem d_X_cancel_20 : decode prog_1_method_13_code 20 = .ok (.bipush 6, 2) := by decide +kernel
theorem d_X_cancel_22 : decode prog_1_method_13_code 22 = .ok (.iconst 0, 1) := by decide +kernel
theorem d_X_cancel_23 : decode prog_1_method_13_code 23 = .ok (.invokevirtual 155, 3) := by decide +kernel
theorem d_X_cancel_26 : decode prog_1_method_13_code 26 = .ok (.aload_n 2, 1) := by decide +kernel
theorem d_X_cancel_27 : decode prog_1_method_13_code 27 = .ok (.iconst 0, 1) := by decide +kernel
theorem d_X_cancel_28 : decode prog_1_method_13_code 28 = .ok (.putfield 72, 3) := by decide +kernel
theorem d_X_cancel_31 : decode prog_1_method_13_code 31 = .ok (.aload_n 2, 1) := by decide +kernel
theorem d_X_cancel_32 : decode prog_1_method_13_code 32 = .ok (.getfield 79, 3) := by decide +kernel
theorem d_X_cancel_35 : decode prog_1_method_13_code 35 = .ok (.ifnull 19, 3) := by decide +kernel
theorem d_X_cancel_38 : decode prog_1_method_13_code 38 = .ok (.aload_n 2, 1) := by decide +kernel
theorem d_X_cancel_39 : decode prog_1_method_13_code 39 = .ok (.getfield 79, 3) := by decide +kernel
theorem d_X_cancel_42 : decode prog_1_method_13_code 42 = .ok (.iconst 0, 1) := by decide +kernel
theorem d_X_cancel_43 : decode prog_1_method_13_code 43 = .ok (.putfield 83, 3) := by decide +kernel
theorem d_X_cancel_46 : decode prog_1_method_13_code 46 = .ok (.aload_n 2, 1) := by decide +kernel
theorem d_X_cancel_47 : decode prog_1_method_13_code 47 = .ok (.getfield 79, 3) := by decide +kernel
theorem d_X_cancel_50 : decode prog_1_method_13_code 50 = .ok (.iconst 0, 1) := by decide +kernel
theorem d_X_cancel_51 : decode prog_1_method_13_code 51 = .ok (.putfield 90, 3) := by decide +kernel
theorem d_X_cancel_54 : decode prog_1_method_13_code 54 = .ok (.aload_n 0, 1) := by decide +kernel
theorem d_X_cancel_55 : decode prog_1_method_13_code 55 = .ok (.getfield 26, 3) := by decide +kernel
theorem d_X_cancel_58 : decode prog_1_method_13_code 58 = .ok (.iconst 1, 1) := by decide +kernel
theorem d_X_cancel_59 : decode prog_1_method_13_code 59 = .ok (.aload_n 2, 1) := by decide +kernel
theorem d_X_cancel_60 : decode prog_1_method_13_code 60 = .ok (.getfield 158, 3) := by decide +kernel
theorem d_X_cancel_63 : decode prog_1_method_13_code 63 = .ok (.invokevirtual 135, 3) := by decide +kernel
theorem d_X_cancel_66 : decode prog_1_method_13_code 66 = .ok (.iconst 1, 1) := by decide +kernel
theorem d_X_cancel_67 : decode prog_1_method_13_code 67 = .ok (.ireturn, 1) := by decide +kernel
theorem d_X_tick_0 : decode prog_1_method_14_code 0 = .ok (.iload_n 1, 1) := by decide +kernel
theorem d_X_tick_1 : decode prog_1_method_14_code 1 = .ok (.ifCond .lt 10, 3) := by decide +kernel
theorem d_X_tick_4 : decode prog_1_method_14_code 4 = .ok (.iload_n 1, 1) := by decide +kernel
theorem d_X_tick_5 : decode prog_1_method_14_code 5 = .ok (.sipush 1000, 3) := by decide +kernel
theorem d_X_tick_8 : decode prog_1_method_14_code 8 = .ok (.if_icmp .le 5, 3) := by decide +kernel
theorem d_X_tick_11 : decode prog_1_method_14_code 11 = .ok (.iconst 0, 1) := by decide +kernel
theorem d_X_tick_12 : decode prog_1_method_14_code 12 = .ok (.ireturn, 1) := by decide +kernel
theorem d_X_tick_13 : decode prog_1_method_14_code 13 = .ok (.aload_n 0, 1) := by decide +kernel
theorem d_X_tick_14 : decode prog_1_method_14_code 14 = .ok (.dup, 1) := by decide +kernel
theorem d_X_tick_15 : decode prog_1_method_14_code 15 = .ok (.getfield 40, 3) := by decide +kernel
theorem d_X_tick_18 : decode prog_1_method_14_code 18 = .ok (.iload_n 1, 1) := by decide +kernel
theorem d_X_tick_19 : decode prog_1_method_14_code 19 = .ok (.iadd, 1) := by decide +kernel
theorem d_X_tick_20 : decode prog_1_method_14_code 20 = .ok (.putfield 40, 3) := by decide +kernel
theorem d_X_tick_23 : decode prog_1_method_14_code 23 = .ok (.iconst 1, 1) := by decide +kernel
theorem d_X_tick_24 : decode prog_1_method_14_code 24 = .ok (.ireturn, 1) := by decide +kernel
theorem d_X_outcome_0 : decode prog_1_method_15_code 0 = .ok (.aload_n 0, 1) := by decide +kernel
theorem d_X_outcome_1 : decode prog_1_method_15_code 1 = .ok (.iload_n 1, 1) := by decide +kernel
theorem d_X_outcome_2 : decode prog_1_method_15_code 2 = .ok (.invokevirtual 68, 3) := by decide +kernel
theorem d_X_outcome_5 : decode prog_1_method_15_code 5 = .ok (.astore_n 2, 1) := by decide +kernel
theorem d_X_outcome_6 : decode prog_1_method_15_code 6 = .ok (.aload_n 2, 1) := by decide +kernel
theorem d_X_outcome_7 : decode prog_1_method_15_code 7 = .ok (.ifnonnull 7, 3) := by decide +kernel
theorem d_X_outcome_10 : decode prog_1_method_15_code 10 = .ok (.iconst (-1), 1) := by decide +kernel
theorem d_X_outcome_11 : decode prog_1_method_15_code 11 = .ok (.goto 7, 3) := by decide +kernel
theorem d_X_outcome_14 : decode prog_1_method_15_code 14 = .ok (.aload_n 2, 1) := by decide +kernel
theorem d_X_outcome_15 : decode prog_1_method_15_code 15 = .ok (.getfield 97, 3) := by decide +kernel
theorem d_X_outcome_18 : decode prog_1_method_15_code 18 = .ok (.ireturn, 1) := by decide +kernel
theorem d_X_content_0 : decode prog_1_method_16_code 0 = .ok (.aload_n 0, 1) := by decide +kernel
theorem d_X_content_1 : decode prog_1_method_16_code 1 = .ok (.iload_n 1, 1) := by decide +kernel
theorem d_X_content_2 : decode prog_1_method_16_code 2 = .ok (.invokevirtual 68, 3) := by decide +kernel
theorem d_X_content_5 : decode prog_1_method_16_code 5 = .ok (.astore_n 2, 1) := by decide +kernel
theorem d_X_content_6 : decode prog_1_method_16_code 6 = .ok (.aload_n 2, 1) := by decide +kernel
theorem d_X_content_7 : decode prog_1_method_16_code 7 = .ok (.ifnonnull 7, 3) := by decide +kernel
theorem d_X_content_10 : decode prog_1_method_16_code 10 = .ok (.iconst (-1), 1) := by decide +kernel
theorem d_X_content_11 : decode prog_1_method_16_code 11 = .ok (.goto 7, 3) := by decide +kernel
theorem d_X_content_14 : decode prog_1_method_16_code 14 = .ok (.aload_n 2, 1) := by decide +kernel
theorem d_X_content_15 : decode prog_1_method_16_code 15 = .ok (.getfield 161, 3) := by decide +kernel
theorem d_X_content_18 : decode prog_1_method_16_code 18 = .ok (.ireturn, 1) := by decide +kernel
theorem d_X_stored_0 : decode prog_1_method_17_code 0 = .ok (.aload_n 0, 1) := by decide +kernel
theorem d_X_stored_1 : decode prog_1_method_17_code 1 = .ok (.getfield 19, 3) := by decide +kernel
theorem d_X_stored_4 : decode prog_1_method_17_code 4 = .ok (.iload_n 1, 1) := by decide +kernel
theorem d_X_stored_5 : decode prog_1_method_17_code 5 = .ok (.invokevirtual 164, 3) := by decide +kernel
theorem d_X_stored_8 : decode prog_1_method_17_code 8 = .ok (.astore_n 3, 1) := by decide +kernel
theorem d_X_stored_9 : decode prog_1_method_17_code 9 = .ok (.aload_n 3, 1) := by decide +kernel
theorem d_X_stored_10 : decode prog_1_method_17_code 10 = .ok (.ifnull 10, 3) := by decide +kernel
theorem d_X_stored_13 : decode prog_1_method_17_code 13 = .ok (.aload_n 3, 1) := by decide +kernel
theorem d_X_stored_14 : decode prog_1_method_17_code 14 = .ok (.getfield 168, 3) := by decide +kernel
theorem d_X_stored_17 : decode prog_1_method_17_code 17 = .ok (.ifCond .ne 5, 3) := by decide +kernel
theorem d_X_stored_20 : decode prog_1_method_17_code 20 = .ok (.iconst (-1), 1) := by decide +kernel
theorem d_X_stored_21 : decode prog_1_method_17_code 21 = .ok (.ireturn, 1) := by decide +kernel
theorem d_X_stored_22 : decode prog_1_method_17_code 22 = .ok (.iload_n 2, 1) := by decide +kernel
theorem d_X_stored_23 : decode prog_1_method_17_code 23 = .ok (.tableswitch 53 0 3 #[29, 34, 39, 44], 29) := by decide +kernel
theorem d_X_stored_52 : decode prog_1_method_17_code 52 = .ok (.aload_n 3, 1) := by decide +kernel
theorem d_X_stored_53 : decode prog_1_method_17_code 53 = .ok (.getfield 171, 3) := by decide +kernel
theorem d_X_stored_56 : decode prog_1_method_17_code 56 = .ok (.ireturn, 1) := by decide +kernel
theorem d_X_stored_57 : decode prog_1_method_17_code 57 = .ok (.aload_n 3, 1) := by decide +kernel
theorem d_X_stored_58 : decode prog_1_method_17_code 58 = .ok (.getfield 172, 3) := by decide +kernel
theorem d_X_stored_61 : decode prog_1_method_17_code 61 = .ok (.ireturn, 1) := by decide +kernel
theorem d_X_stored_62 : decode prog_1_method_17_code 62 = .ok (.aload_n 3, 1) := by decide +kernel
theorem d_X_stored_63 : decode prog_1_method_17_code 63 = .ok (.getfield 175, 3) := by decide +kernel
theorem d_X_stored_66 : decode prog_1_method_17_code 66 = .ok (.ireturn, 1) := by decide +kernel
theorem d_X_stored_67 : decode prog_1_method_17_code 67 = .ok (.aload_n 3, 1) := by decide +kernel
theorem d_X_stored_68 : decode prog_1_method_17_code 68 = .ok (.aload_n 0, 1) := by decide +kernel
theorem d_X_stored_69 : decode prog_1_method_17_code 69 = .ok (.getfield 40, 3) := by decide +kernel
theorem d_X_stored_72 : decode prog_1_method_17_code 72 = .ok (.invokevirtual 178, 3) := by decide +kernel
theorem d_X_stored_75 : decode prog_1_method_17_code 75 = .ok (.ireturn, 1) := by decide +kernel
theorem d_X_stored_76 : decode prog_1_method_17_code 76 = .ok (.iconst (-1), 1) := by decide +kernel
theorem d_X_stored_77 : decode prog_1_method_17_code 77 = .ok (.ireturn, 1) := by decide +kernel
theorem d_X_entry_0 : decode prog_1_method_18_code 0 = .ok (.aload_n 0, 1) := by decide +kernel
theorem d_X_entry_1 : decode prog_1_method_18_code 1 = .ok (.getfield 12, 3) := by decide +kernel
theorem d_X_entry_4 : decode prog_1_method_18_code 4 = .ok (.getfield 103, 3) := by decide +kernel
theorem d_X_entry_7 : decode prog_1_method_18_code 7 = .ok (.astore_n 3, 1) := by decide +kernel
theorem d_X_entry_8 : decode prog_1_method_18_code 8 = .ok (.iload_n 1, 1) := by decide +kernel
theorem d_X_entry_9 : decode prog_1_method_18_code 9 = .ok (.ifCond .lt 11, 3) := by decide +kernel
theorem d_X_entry_12 : decode prog_1_method_18_code 12 = .ok (.iload_n 1, 1) := by decide +kernel
theorem d_X_entry_13 : decode prog_1_method_18_code 13 = .ok (.aload_n 3, 1) := by decide +kernel
theorem d_X_entry_14 : decode prog_1_method_18_code 14 = .ok (.invokevirtual 181, 3) := by decide +kernel
theorem d_X_entry_17 : decode prog_1_method_18_code 17 = .ok (.if_icmp .lt 5, 3) := by decide +kernel
theorem d_X_entry_20 : decode prog_1_method_18_code 20 = .ok (.iconst (-1), 1) := by decide +kernel
theorem d_X_entry_21 : decode prog_1_method_18_code 21 = .ok (.ireturn, 1) := by decide +kernel
theorem d_X_entry_22 : decode prog_1_method_18_code 22 = .ok (.aload_n 3, 1) := by decide +kernel
theorem d_X_entry_23 : decode prog_1_method_18_code 23 = .ok (.getfield 107, 3) := by decide +kernel
theorem d_X_entry_26 : decode prog_1_method_18_code 26 = .ok (.iconst 1, 1) := by decide +kernel
theorem d_X_entry_27 : decode prog_1_method_18_code 27 = .ok (.isub, 1) := by decide +kernel
theorem d_X_entry_28 : decode prog_1_method_18_code 28 = .ok (.iload_n 1, 1) := by decide +kernel
theorem d_X_entry_29 : decode prog_1_method_18_code 29 = .ok (.isub, 1) := by decide +kernel
theorem d_X_entry_30 : decode prog_1_method_18_code 30 = .ok (.istore 4, 2) := by decide +kernel
theorem d_X_entry_32 : decode prog_1_method_18_code 32 = .ok (.iload_n 2, 1) := by decide +kernel
theorem d_X_entry_33 : decode prog_1_method_18_code 33 = .ok (.tableswitch 48 0 2 #[27, 34, 41], 27) := by decide +kernel
theorem d_X_entry_60 : decode prog_1_method_18_code 60 = .ok (.aload_n 3, 1) := by decide +kernel
theorem d_X_entry_61 : decode prog_1_method_18_code 61 = .ok (.iload 4, 2) := by decide +kernel
theorem d_X_entry_63 : decode prog_1_method_18_code 63 = .ok (.invokevirtual 184, 3) := by decide +kernel
theorem d_X_entry_66 : decode prog_1_method_18_code 66 = .ok (.ireturn, 1) := by decide +kernel
theorem d_X_entry_67 : decode prog_1_method_18_code 67 = .ok (.aload_n 3, 1) := by decide +kernel
theorem d_X_entry_68 : decode prog_1_method_18_code 68 = .ok (.iload 4, 2) := by decide +kernel
theorem d_X_entry_70 : decode prog_1_method_18_code 70 = .ok (.invokevirtual 187, 3) := by decide +kernel
theorem d_X_entry_73 : decode prog_1_method_18_code 73 = .ok (.ireturn, 1) := by decide +kernel
theorem d_X_entry_74 : decode prog_1_method_18_code 74 = .ok (.aload_n 3, 1) := by decide +kernel
theorem d_X_entry_75 : decode prog_1_method_18_code 75 = .ok (.iload 4, 2) := by decide +kernel
theorem d_X_entry_77 : decode prog_1_method_18_code 77 = .ok (.invokevirtual 190, 3) := by decide +kernel
theorem d_X_entry_80 : decode prog_1_method_18_code 80 = .ok (.ireturn, 1) := by decide +kernel
theorem d_X_entry_81 : decode prog_1_method_18_code 81 = .ok (.iconst (-1), 1) := by decide +kernel
theorem d_X_entry_82 : decode prog_1_method_18_code 82 = .ok (.ireturn, 1) := by decide +kernel
theorem d_X_blockedAnswers_0 : decode prog_1_method_25_code 0 = .ok (.iconst 0, 1) := by decide +kernel
theorem d_X_blockedAnswers_1 : decode prog_1_method_25_code 1 = .ok (.istore_n 1, 1) := by decide +kernel
theorem d_X_blockedAnswers_2 : decode prog_1_method_25_code 2 = .ok (.iconst 0, 1) := by decide +kernel
theorem d_X_blockedAnswers_3 : decode prog_1_method_25_code 3 = .ok (.istore_n 2, 1) := by decide +kernel
theorem d_X_blockedAnswers_4 : decode prog_1_method_25_code 4 = .ok (.iload_n 2, 1) := by decide +kernel
theorem d_X_blockedAnswers_5 : decode prog_1_method_25_code 5 = .ok (.aload_n 0, 1) := by decide +kernel
theorem d_X_blockedAnswers_6 : decode prog_1_method_25_code 6 = .ok (.getfield 36, 3) := by decide +kernel
theorem d_X_blockedAnswers_9 : decode prog_1_method_25_code 9 = .ok (.if_icmp .ge 23, 3) := by decide +kernel
theorem d_X_blockedAnswers_12 : decode prog_1_method_25_code 12 = .ok (.aload_n 0, 1) := by decide +kernel
theorem d_X_blockedAnswers_13 : decode prog_1_method_25_code 13 = .ok (.iload_n 2, 1) := by decide +kernel
theorem d_X_blockedAnswers_14 : decode prog_1_method_25_code 14 = .ok (.invokevirtual 68, 3) := by decide +kernel
theorem d_X_blockedAnswers_17 : decode prog_1_method_25_code 17 = .ok (.invokestatic 215, 3) := by decide +kernel
theorem d_X_blockedAnswers_20 : decode prog_1_method_25_code 20 = .ok (.ifCond .eq 6, 3) := by decide +kernel
theorem d_X_blockedAnswers_23 : decode prog_1_method_25_code 23 = .ok (.iinc 1 1, 3) := by decide +kernel
theorem d_X_blockedAnswers_26 : decode prog_1_method_25_code 26 = .ok (.iinc 2 1, 3) := by decide +kernel
theorem d_X_blockedAnswers_29 : decode prog_1_method_25_code 29 = .ok (.goto (-25), 3) := by decide +kernel
theorem d_X_blockedAnswers_32 : decode prog_1_method_25_code 32 = .ok (.iload_n 1, 1) := by decide +kernel
theorem d_X_blockedAnswers_33 : decode prog_1_method_25_code 33 = .ok (.ireturn, 1) := by decide +kernel
theorem d_X_count_0 : decode prog_1_method_19_code 0 = .ok (.aload_n 0, 1) := by decide +kernel
theorem d_X_count_1 : decode prog_1_method_19_code 1 = .ok (.getfield 12, 3) := by decide +kernel
theorem d_X_count_4 : decode prog_1_method_19_code 4 = .ok (.getfield 103, 3) := by decide +kernel
theorem d_X_count_7 : decode prog_1_method_19_code 7 = .ok (.astore_n 2, 1) := by decide +kernel
theorem d_X_count_8 : decode prog_1_method_19_code 8 = .ok (.iload_n 1, 1) := by decide +kernel
theorem d_X_count_9 : decode prog_1_method_19_code 9 = .ok (.tableswitch 103 0 8 #[51, 56, 61, 69, 77, 82, 87, 93, 98], 51) := by decide +kernel
theorem d_X_count_60 : decode prog_1_method_19_code 60 = .ok (.aload_n 2, 1) := by decide +kernel
theorem d_X_count_61 : decode prog_1_method_19_code 61 = .ok (.getfield 107, 3) := by decide +kernel
theorem d_X_count_64 : decode prog_1_method_19_code 64 = .ok (.ireturn, 1) := by decide +kernel
theorem d_X_count_65 : decode prog_1_method_19_code 65 = .ok (.aload_n 2, 1) := by decide +kernel
theorem d_X_count_66 : decode prog_1_method_19_code 66 = .ok (.getfield 125, 3) := by decide +kernel
theorem d_X_count_69 : decode prog_1_method_19_code 69 = .ok (.ireturn, 1) := by decide +kernel
theorem d_X_count_70 : decode prog_1_method_19_code 70 = .ok (.aload_n 0, 1) := by decide +kernel
theorem d_X_count_71 : decode prog_1_method_19_code 71 = .ok (.getfield 19, 3) := by decide +kernel
theorem d_X_count_74 : decode prog_1_method_19_code 74 = .ok (.getfield 100, 3) := by decide +kernel
theorem d_X_count_77 : decode prog_1_method_19_code 77 = .ok (.ireturn, 1) := by decide +kernel
theorem d_X_count_78 : decode prog_1_method_19_code 78 = .ok (.aload_n 0, 1) := by decide +kernel
theorem d_X_count_79 : decode prog_1_method_19_code 79 = .ok (.getfield 19, 3) := by decide +kernel
theorem d_X_count_82 : decode prog_1_method_19_code 82 = .ok (.getfield 132, 3) := by decide +kernel
theorem d_X_count_85 : decode prog_1_method_19_code 85 = .ok (.ireturn, 1) := by decide +kernel
theorem d_X_count_86 : decode prog_1_method_19_code 86 = .ok (.aload_n 2, 1) := by decide +kernel
theorem d_X_count_87 : decode prog_1_method_19_code 87 = .ok (.getfield 193, 3) := by decide +kernel
theorem d_X_count_90 : decode prog_1_method_19_code 90 = .ok (.ireturn, 1) := by decide +kernel
theorem d_X_count_91 : decode prog_1_method_19_code 91 = .ok (.aload_n 2, 1) := by decide +kernel
theorem d_X_count_92 : decode prog_1_method_19_code 92 = .ok (.getfield 196, 3) := by decide +kernel
theorem d_X_count_95 : decode prog_1_method_19_code 95 = .ok (.ireturn, 1) := by decide +kernel
theorem d_X_count_96 : decode prog_1_method_19_code 96 = .ok (.aload_n 2, 1) := by decide +kernel
theorem d_X_count_97 : decode prog_1_method_19_code 97 = .ok (.iconst 0, 1) := by decide +kernel
theorem d_X_count_98 : decode prog_1_method_19_code 98 = .ok (.invokevirtual 199, 3) := by decide +kernel
theorem d_X_count_101 : decode prog_1_method_19_code 101 = .ok (.ireturn, 1) := by decide +kernel
theorem d_X_count_102 : decode prog_1_method_19_code 102 = .ok (.aload_n 2, 1) := by decide +kernel
theorem d_X_count_103 : decode prog_1_method_19_code 103 = .ok (.invokevirtual 202, 3) := by decide +kernel
theorem d_X_count_106 : decode prog_1_method_19_code 106 = .ok (.ireturn, 1) := by decide +kernel
theorem d_X_count_107 : decode prog_1_method_19_code 107 = .ok (.aload_n 0, 1) := by decide +kernel
theorem d_X_count_108 : decode prog_1_method_19_code 108 = .ok (.invokevirtual 205, 3) := by decide +kernel
theorem d_X_count_111 : decode prog_1_method_19_code 111 = .ok (.ireturn, 1) := by decide +kernel
theorem d_X_count_112 : decode prog_1_method_19_code 112 = .ok (.iconst (-1), 1) := by decide +kernel
theorem d_X_count_113 : decode prog_1_method_19_code 113 = .ok (.ireturn, 1) := by decide +kernel
