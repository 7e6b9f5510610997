theorem e_Math_max_0 : decode m_Math_max.2.1 0 = .ok (.iload_n 0, 1) := by decide +kernel
theorem e_Math_max_1 : decode m_Math_max.2.1 1 = .ok (.iload_n 1, 1) := by decide +kernel
theorem e_Math_max_2 : decode m_Math_max.2.1 2 = .ok (.if_icmp .lt 7, 3) := by decide +kernel
theorem e_Math_max_5 : decode m_Math_max.2.1 5 = .ok (.iload_n 0, 1) := by decide +kernel
theorem e_Math_max_6 : decode m_Math_max.2.1 6 = .ok (.goto 4, 3) := by decide +kernel
theorem e_Math_max_9 : decode m_Math_max.2.1 9 = .ok (.iload_n 1, 1) := by decide +kernel
theorem e_Math_max_10 : decode m_Math_max.2.1 10 = .ok (.ireturn, 1) := by decide +kernel
theorem e_Math_min_0 : decode m_Math_min.2.1 0 = .ok (.iload_n 0, 1) := by decide +kernel
theorem e_Math_min_1 : decode m_Math_min.2.1 1 = .ok (.iload_n 1, 1) := by decide +kernel
theorem e_Math_min_2 : decode m_Math_min.2.1 2 = .ok (.if_icmp .gt 7, 3) := by decide +kernel
theorem e_Math_min_5 : decode m_Math_min.2.1 5 = .ok (.iload_n 0, 1) := by decide +kernel
theorem e_Math_min_6 : decode m_Math_min.2.1 6 = .ok (.goto 4, 3) := by decide +kernel
theorem e_Math_min_9 : decode m_Math_min.2.1 9 = .ok (.iload_n 1, 1) := by decide +kernel
theorem e_Math_min_10 : decode m_Math_min.2.1 10 = .ok (.ireturn, 1) := by decide +kernel
theorem e_AC_init_0 : decode m_AC_init.2.1 0 = .ok (.aload_n 0, 1) := by decide +kernel
theorem e_AC_init_1 : decode m_AC_init.2.1 1 = .ok (.invokespecial 1, 3) := by decide +kernel
theorem e_AC_init_4 : decode m_AC_init.2.1 4 = .ok (.return_, 1) := by decide +kernel
theorem e_AbL_init_0 : decode m_AbL_init.2.1 0 = .ok (.aload_n 0, 1) := by decide +kernel
theorem e_AbL_init_1 : decode m_AbL_init.2.1 1 = .ok (.invokespecial 1, 3) := by decide +kernel
theorem e_AbL_init_4 : decode m_AbL_init.2.1 4 = .ok (.aload_n 0, 1) := by decide +kernel
theorem e_AbL_init_5 : decode m_AbL_init.2.1 5 = .ok (.iconst 0, 1) := by decide +kernel
theorem e_AbL_init_6 : decode m_AbL_init.2.1 6 = .ok (.putfield 7, 3) := by decide +kernel
theorem e_AbL_init_9 : decode m_AbL_init.2.1 9 = .ok (.return_, 1) := by decide +kernel
theorem e_AL_init_0 : decode m_AL_init.2.1 0 = .ok (.aload_n 0, 1) := by decide +kernel
theorem e_AL_init_1 : decode m_AL_init.2.1 1 = .ok (.invokespecial 1, 3) := by decide +kernel
theorem e_AL_init_4 : decode m_AL_init.2.1 4 = .ok (.aload_n 0, 1) := by decide +kernel
theorem e_AL_init_5 : decode m_AL_init.2.1 5 = .ok (.getstatic 39, 3) := by decide +kernel
theorem e_AL_init_8 : decode m_AL_init.2.1 8 = .ok (.putfield 9, 3) := by decide +kernel
theorem e_AL_init_11 : decode m_AL_init.2.1 11 = .ok (.return_, 1) := by decide +kernel
theorem e_AL_grow1_0 : decode m_AL_grow1.2.1 0 = .ok (.aload_n 0, 1) := by decide +kernel
theorem e_AL_grow1_1 : decode m_AL_grow1.2.1 1 = .ok (.getfield 9, 3) := by decide +kernel
theorem e_AL_grow1_4 : decode m_AL_grow1.2.1 4 = .ok (.arraylength, 1) := by decide +kernel
theorem e_AL_grow1_5 : decode m_AL_grow1.2.1 5 = .ok (.istore_n 2, 1) := by decide +kernel
theorem e_AL_grow1_6 : decode m_AL_grow1.2.1 6 = .ok (.iload_n 2, 1) := by decide +kernel
theorem e_AL_grow1_7 : decode m_AL_grow1.2.1 7 = .ok (.ifCond .gt 13, 3) := by decide +kernel
theorem e_AL_grow1_10 : decode m_AL_grow1.2.1 10 = .ok (.aload_n 0, 1) := by decide +kernel
theorem e_AL_grow1_11 : decode m_AL_grow1.2.1 11 = .ok (.getfield 9, 3) := by decide +kernel
theorem e_AL_grow1_14 : decode m_AL_grow1.2.1 14 = .ok (.getstatic 39, 3) := by decide +kernel
theorem e_AL_grow1_17 : decode m_AL_grow1.2.1 17 = .ok (.if_acmp .eq 28, 3) := by decide +kernel
theorem e_AL_grow1_20 : decode m_AL_grow1.2.1 20 = .ok (.iload_n 2, 1) := by decide +kernel
theorem e_AL_grow1_21 : decode m_AL_grow1.2.1 21 = .ok (.iload_n 1, 1) := by decide +kernel
theorem e_AL_grow1_22 : decode m_AL_grow1.2.1 22 = .ok (.iload_n 2, 1) := by decide +kernel
theorem e_AL_grow1_23 : decode m_AL_grow1.2.1 23 = .ok (.isub, 1) := by decide +kernel
theorem e_AL_grow1_24 : decode m_AL_grow1.2.1 24 = .ok (.iload_n 2, 1) := by decide +kernel
theorem e_AL_grow1_25 : decode m_AL_grow1.2.1 25 = .ok (.iconst 1, 1) := by decide +kernel
theorem e_AL_grow1_26 : decode m_AL_grow1.2.1 26 = .ok (.ishr, 1) := by decide +kernel
theorem e_AL_grow1_27 : decode m_AL_grow1.2.1 27 = .ok (.invokestatic 73, 3) := by decide +kernel
theorem e_AL_grow1_30 : decode m_AL_grow1.2.1 30 = .ok (.istore_n 3, 1) := by decide +kernel
theorem e_AL_grow1_31 : decode m_AL_grow1.2.1 31 = .ok (.aload_n 0, 1) := by decide +kernel
theorem e_AL_grow1_32 : decode m_AL_grow1.2.1 32 = .ok (.aload_n 0, 1) := by decide +kernel
theorem e_AL_grow1_33 : decode m_AL_grow1.2.1 33 = .ok (.getfield 9, 3) := by decide +kernel
theorem e_AL_grow1_36 : decode m_AL_grow1.2.1 36 = .ok (.iload_n 3, 1) := by decide +kernel
theorem e_AL_grow1_37 : decode m_AL_grow1.2.1 37 = .ok (.invokestatic 66, 3) := by decide +kernel
theorem e_AL_grow1_40 : decode m_AL_grow1.2.1 40 = .ok (.dup_x1, 1) := by decide +kernel
theorem e_AL_grow1_41 : decode m_AL_grow1.2.1 41 = .ok (.putfield 9, 3) := by decide +kernel
theorem e_AL_grow1_44 : decode m_AL_grow1.2.1 44 = .ok (.areturn, 1) := by decide +kernel
theorem e_AL_grow1_45 : decode m_AL_grow1.2.1 45 = .ok (.aload_n 0, 1) := by decide +kernel
theorem e_AL_grow1_46 : decode m_AL_grow1.2.1 46 = .ok (.bipush 10, 2) := by decide +kernel
theorem e_AL_grow1_48 : decode m_AL_grow1.2.1 48 = .ok (.iload_n 1, 1) := by decide +kernel
theorem e_AL_grow1_49 : decode m_AL_grow1.2.1 49 = .ok (.invokestatic 79, 3) := by decide +kernel
theorem e_AL_grow1_52 : decode m_AL_grow1.2.1 52 = .ok (.anewarray 7, 3) := by decide +kernel
theorem e_AL_grow1_55 : decode m_AL_grow1.2.1 55 = .ok (.dup_x1, 1) := by decide +kernel
theorem e_AL_grow1_56 : decode m_AL_grow1.2.1 56 = .ok (.putfield 9, 3) := by decide +kernel
theorem e_AL_grow1_59 : decode m_AL_grow1.2.1 59 = .ok (.areturn, 1) := by decide +kernel
theorem e_AL_grow0_0 : decode m_AL_grow0.2.1 0 = .ok (.aload_n 0, 1) := by decide +kernel
theorem e_AL_grow0_1 : decode m_AL_grow0.2.1 1 = .ok (.aload_n 0, 1) := by decide +kernel
theorem e_AL_grow0_2 : decode m_AL_grow0.2.1 2 = .ok (.getfield 48, 3) := by decide +kernel
theorem e_AL_grow0_5 : decode m_AL_grow0.2.1 5 = .ok (.iconst 1, 1) := by decide +kernel
theorem e_AL_grow0_6 : decode m_AL_grow0.2.1 6 = .ok (.iadd, 1) := by decide +kernel
theorem e_AL_grow0_7 : decode m_AL_grow0.2.1 7 = .ok (.invokevirtual 69, 3) := by decide +kernel
theorem e_AL_grow0_10 : decode m_AL_grow0.2.1 10 = .ok (.areturn, 1) := by decide +kernel
theorem e_AL_size_0 : decode m_AL_size.2.1 0 = .ok (.aload_n 0, 1) := by decide +kernel
theorem e_AL_size_1 : decode m_AL_size.2.1 1 = .ok (.getfield 48, 3) := by decide +kernel
theorem e_AL_size_4 : decode m_AL_size.2.1 4 = .ok (.ireturn, 1) := by decide +kernel
theorem e_AL_isEmpty_0 : decode m_AL_isEmpty.2.1 0 = .ok (.aload_n 0, 1) := by decide +kernel
theorem e_AL_isEmpty_1 : decode m_AL_isEmpty.2.1 1 = .ok (.getfield 48, 3) := by decide +kernel
theorem e_AL_isEmpty_4 : decode m_AL_isEmpty.2.1 4 = .ok (.ifCond .ne 7, 3) := by decide +kernel
theorem e_AL_isEmpty_7 : decode m_AL_isEmpty.2.1 7 = .ok (.iconst 1, 1) := by decide +kernel
theorem e_AL_isEmpty_8 : decode m_AL_isEmpty.2.1 8 = .ok (.goto 4, 3) := by decide +kernel
theorem e_AL_isEmpty_11 : decode m_AL_isEmpty.2.1 11 = .ok (.iconst 0, 1) := by decide +kernel
theorem e_AL_isEmpty_12 : decode m_AL_isEmpty.2.1 12 = .ok (.ireturn, 1) := by decide +kernel
theorem e_AL_elementData_0 : decode m_AL_elementData.2.1 0 = .ok (.aload_n 0, 1) := by decide +kernel
theorem e_AL_elementData_1 : decode m_AL_elementData.2.1 1 = .ok (.getfield 9, 3) := by decide +kernel
theorem e_AL_elementData_4 : decode m_AL_elementData.2.1 4 = .ok (.iload_n 1, 1) := by decide +kernel
theorem e_AL_elementData_5 : decode m_AL_elementData.2.1 5 = .ok (.aaload, 1) := by decide +kernel
theorem e_AL_elementData_6 : decode m_AL_elementData.2.1 6 = .ok (.areturn, 1) := by decide +kernel
theorem e_AL_get_0 : decode m_AL_get.2.1 0 = .ok (.iload_n 1, 1) := by decide +kernel
theorem e_AL_get_1 : decode m_AL_get.2.1 1 = .ok (.aload_n 0, 1) := by decide +kernel
theorem e_AL_get_2 : decode m_AL_get.2.1 2 = .ok (.getfield 48, 3) := by decide +kernel
theorem e_AL_get_5 : decode m_AL_get.2.1 5 = .ok (.invokestatic 118, 3) := by decide +kernel
theorem e_AL_get_8 : decode m_AL_get.2.1 8 = .ok (.pop, 1) := by decide +kernel
theorem e_AL_get_9 : decode m_AL_get.2.1 9 = .ok (.aload_n 0, 1) := by decide +kernel
theorem e_AL_get_10 : decode m_AL_get.2.1 10 = .ok (.iload_n 1, 1) := by decide +kernel
theorem e_AL_get_11 : decode m_AL_get.2.1 11 = .ok (.invokevirtual 123, 3) := by decide +kernel
theorem e_AL_get_14 : decode m_AL_get.2.1 14 = .ok (.areturn, 1) := by decide +kernel
theorem e_AL_add3_0 : decode m_AL_add3.2.1 0 = .ok (.iload_n 3, 1) := by decide +kernel
theorem e_AL_add3_1 : decode m_AL_add3.2.1 1 = .ok (.aload_n 2, 1) := by decide +kernel
theorem e_AL_add3_2 : decode m_AL_add3.2.1 2 = .ok (.arraylength, 1) := by decide +kernel
theorem e_AL_add3_3 : decode m_AL_add3.2.1 3 = .ok (.if_icmp .ne 8, 3) := by decide +kernel
theorem e_AL_add3_6 : decode m_AL_add3.2.1 6 = .ok (.aload_n 0, 1) := by decide +kernel
theorem e_AL_add3_7 : decode m_AL_add3.2.1 7 = .ok (.invokevirtual 129, 3) := by decide +kernel
theorem e_AL_add3_10 : decode m_AL_add3.2.1 10 = .ok (.astore_n 2, 1) := by decide +kernel
theorem e_AL_add3_11 : decode m_AL_add3.2.1 11 = .ok (.aload_n 2, 1) := by decide +kernel
theorem e_AL_add3_12 : decode m_AL_add3.2.1 12 = .ok (.iload_n 3, 1) := by decide +kernel
theorem e_AL_add3_13 : decode m_AL_add3.2.1 13 = .ok (.aload_n 1, 1) := by decide +kernel
theorem e_AL_add3_14 : decode m_AL_add3.2.1 14 = .ok (.aastore, 1) := by decide +kernel
theorem e_AL_add3_15 : decode m_AL_add3.2.1 15 = .ok (.aload_n 0, 1) := by decide +kernel
theorem e_AL_add3_16 : decode m_AL_add3.2.1 16 = .ok (.iload_n 3, 1) := by decide +kernel
theorem e_AL_add3_17 : decode m_AL_add3.2.1 17 = .ok (.iconst 1, 1) := by decide +kernel
theorem e_AL_add3_18 : decode m_AL_add3.2.1 18 = .ok (.iadd, 1) := by decide +kernel
theorem e_AL_add3_19 : decode m_AL_add3.2.1 19 = .ok (.putfield 48, 3) := by decide +kernel
theorem e_AL_add3_22 : decode m_AL_add3.2.1 22 = .ok (.return_, 1) := by decide +kernel
theorem e_AL_add1_0 : decode m_AL_add1.2.1 0 = .ok (.aload_n 0, 1) := by decide +kernel
theorem e_AL_add1_1 : decode m_AL_add1.2.1 1 = .ok (.dup, 1) := by decide +kernel
theorem e_AL_add1_2 : decode m_AL_add1.2.1 2 = .ok (.getfield 63, 3) := by decide +kernel
theorem e_AL_add1_5 : decode m_AL_add1.2.1 5 = .ok (.iconst 1, 1) := by decide +kernel
theorem e_AL_add1_6 : decode m_AL_add1.2.1 6 = .ok (.iadd, 1) := by decide +kernel
theorem e_AL_add1_7 : decode m_AL_add1.2.1 7 = .ok (.putfield 63, 3) := by decide +kernel
theorem e_AL_add1_10 : decode m_AL_add1.2.1 10 = .ok (.aload_n 0, 1) := by decide +kernel
theorem e_AL_add1_11 : decode m_AL_add1.2.1 11 = .ok (.aload_n 1, 1) := by decide +kernel
theorem e_AL_add1_12 : decode m_AL_add1.2.1 12 = .ok (.aload_n 0, 1) := by decide +kernel
theorem e_AL_add1_13 : decode m_AL_add1.2.1 13 = .ok (.getfield 9, 3) := by decide +kernel
theorem e_AL_add1_16 : decode m_AL_add1.2.1 16 = .ok (.aload_n 0, 1) := by decide +kernel
theorem e_AL_add1_17 : decode m_AL_add1.2.1 17 = .ok (.getfield 48, 3) := by decide +kernel
theorem e_AL_add1_20 : decode m_AL_add1.2.1 20 = .ok (.invokevirtual 131, 3) := by decide +kernel
theorem e_AL_add1_23 : decode m_AL_add1.2.1 23 = .ok (.iconst 1, 1) := by decide +kernel
theorem e_AL_add1_24 : decode m_AL_add1.2.1 24 = .ok (.ireturn, 1) := by decide +kernel
theorem e_AL_remove_0 : decode m_AL_remove.2.1 0 = .ok (.iload_n 1, 1) := by decide +kernel
theorem e_AL_remove_1 : decode m_AL_remove.2.1 1 = .ok (.aload_n 0, 1) := by decide +kernel
theorem e_AL_remove_2 : decode m_AL_remove.2.1 2 = .ok (.getfield 48, 3) := by decide +kernel
theorem e_AL_remove_5 : decode m_AL_remove.2.1 5 = .ok (.invokestatic 118, 3) := by decide +kernel
theorem e_AL_remove_8 : decode m_AL_remove.2.1 8 = .ok (.pop, 1) := by decide +kernel
theorem e_AL_remove_9 : decode m_AL_remove.2.1 9 = .ok (.aload_n 0, 1) := by decide +kernel
theorem e_AL_remove_10 : decode m_AL_remove.2.1 10 = .ok (.getfield 9, 3) := by decide +kernel
theorem e_AL_remove_13 : decode m_AL_remove.2.1 13 = .ok (.astore_n 2, 1) := by decide +kernel
theorem e_AL_remove_14 : decode m_AL_remove.2.1 14 = .ok (.aload_n 2, 1) := by decide +kernel
theorem e_AL_remove_15 : decode m_AL_remove.2.1 15 = .ok (.iload_n 1, 1) := by decide +kernel
theorem e_AL_remove_16 : decode m_AL_remove.2.1 16 = .ok (.aaload, 1) := by decide +kernel
theorem e_AL_remove_17 : decode m_AL_remove.2.1 17 = .ok (.astore_n 3, 1) := by decide +kernel
theorem e_AL_remove_18 : decode m_AL_remove.2.1 18 = .ok (.aload_n 0, 1) := by decide +kernel
theorem e_AL_remove_19 : decode m_AL_remove.2.1 19 = .ok (.aload_n 2, 1) := by decide +kernel
theorem e_AL_remove_20 : decode m_AL_remove.2.1 20 = .ok (.iload_n 1, 1) := by decide +kernel
theorem e_AL_remove_21 : decode m_AL_remove.2.1 21 = .ok (.invokevirtual 144, 3) := by decide +kernel
theorem e_AL_remove_24 : decode m_AL_remove.2.1 24 = .ok (.aload_n 3, 1) := by decide +kernel
theorem e_AL_remove_25 : decode m_AL_remove.2.1 25 = .ok (.areturn, 1) := by decide +kernel
theorem e_AL_fastRemove_0 : decode m_AL_fastRemove.2.1 0 = .ok (.aload_n 0, 1) := by decide +kernel
theorem e_AL_fastRemove_1 : decode m_AL_fastRemove.2.1 1 = .ok (.dup, 1) := by decide +kernel
theorem e_AL_fastRemove_2 : decode m_AL_fastRemove.2.1 2 = .ok (.getfield 63, 3) := by decide +kernel
theorem e_AL_fastRemove_5 : decode m_AL_fastRemove.2.1 5 = .ok (.iconst 1, 1) := by decide +kernel
theorem e_AL_fastRemove_6 : decode m_AL_fastRemove.2.1 6 = .ok (.iadd, 1) := by decide +kernel
theorem e_AL_fastRemove_7 : decode m_AL_fastRemove.2.1 7 = .ok (.putfield 63, 3) := by decide +kernel
theorem e_AL_fastRemove_10 : decode m_AL_fastRemove.2.1 10 = .ok (.aload_n 0, 1) := by decide +kernel
theorem e_AL_fastRemove_11 : decode m_AL_fastRemove.2.1 11 = .ok (.getfield 48, 3) := by decide +kernel
theorem e_AL_fastRemove_14 : decode m_AL_fastRemove.2.1 14 = .ok (.iconst 1, 1) := by decide +kernel
theorem e_AL_fastRemove_15 : decode m_AL_fastRemove.2.1 15 = .ok (.isub, 1) := by decide +kernel
theorem e_AL_fastRemove_16 : decode m_AL_fastRemove.2.1 16 = .ok (.dup, 1) := by decide +kernel
theorem e_AL_fastRemove_17 : decode m_AL_fastRemove.2.1 17 = .ok (.istore_n 3, 1) := by decide +kernel
theorem e_AL_fastRemove_18 : decode m_AL_fastRemove.2.1 18 = .ok (.iload_n 2, 1) := by decide +kernel
theorem e_AL_fastRemove_19 : decode m_AL_fastRemove.2.1 19 = .ok (.if_icmp .le 15, 3) := by decide +kernel
theorem e_AL_fastRemove_22 : decode m_AL_fastRemove.2.1 22 = .ok (.aload_n 1, 1) := by decide +kernel
theorem e_AL_fastRemove_23 : decode m_AL_fastRemove.2.1 23 = .ok (.iload_n 2, 1) := by decide +kernel
theorem e_AL_fastRemove_24 : decode m_AL_fastRemove.2.1 24 = .ok (.iconst 1, 1) := by decide +kernel
theorem e_AL_fastRemove_25 : decode m_AL_fastRemove.2.1 25 = .ok (.iadd, 1) := by decide +kernel
theorem e_AL_fastRemove_26 : decode m_AL_fastRemove.2.1 26 = .ok (.aload_n 1, 1) := by decide +kernel
theorem e_AL_fastRemove_27 : decode m_AL_fastRemove.2.1 27 = .ok (.iload_n 2, 1) := by decide +kernel
theorem e_AL_fastRemove_28 : decode m_AL_fastRemove.2.1 28 = .ok (.iload_n 3, 1) := by decide +kernel
theorem e_AL_fastRemove_29 : decode m_AL_fastRemove.2.1 29 = .ok (.iload_n 2, 1) := by decide +kernel
theorem e_AL_fastRemove_30 : decode m_AL_fastRemove.2.1 30 = .ok (.isub, 1) := by decide +kernel
theorem e_AL_fastRemove_31 : decode m_AL_fastRemove.2.1 31 = .ok (.invokestatic 112, 3) := by decide +kernel
theorem e_AL_fastRemove_34 : decode m_AL_fastRemove.2.1 34 = .ok (.aload_n 1, 1) := by decide +kernel
theorem e_AL_fastRemove_35 : decode m_AL_fastRemove.2.1 35 = .ok (.aload_n 0, 1) := by decide +kernel
theorem e_AL_fastRemove_36 : decode m_AL_fastRemove.2.1 36 = .ok (.iload_n 3, 1) := by decide +kernel
theorem e_AL_fastRemove_37 : decode m_AL_fastRemove.2.1 37 = .ok (.dup_x1, 1) := by decide +kernel
theorem e_AL_fastRemove_38 : decode m_AL_fastRemove.2.1 38 = .ok (.putfield 48, 3) := by decide +kernel
theorem e_AL_fastRemove_41 : decode m_AL_fastRemove.2.1 41 = .ok (.aconst_null, 1) := by decide +kernel
theorem e_AL_fastRemove_42 : decode m_AL_fastRemove.2.1 42 = .ok (.aastore, 1) := by decide +kernel
theorem e_AL_fastRemove_43 : decode m_AL_fastRemove.2.1 43 = .ok (.return_, 1) := by decide +kernel
theorem e_Arrs_copyOf2_0 : decode m_Arrs_copyOf2.2.1 0 = .ok (.aload_n 0, 1) := by decide +kernel
theorem e_Arrs_copyOf2_1 : decode m_Arrs_copyOf2.2.1 1 = .ok (.iload_n 1, 1) := by decide +kernel
theorem e_Arrs_copyOf2_2 : decode m_Arrs_copyOf2.2.1 2 = .ok (.aload_n 0, 1) := by decide +kernel
theorem e_Arrs_copyOf2_3 : decode m_Arrs_copyOf2.2.1 3 = .ok (.invokevirtual 86, 3) := by decide +kernel
theorem e_Arrs_copyOf2_6 : decode m_Arrs_copyOf2.2.1 6 = .ok (.invokestatic 300, 3) := by decide +kernel
theorem e_Arrs_copyOf2_9 : decode m_Arrs_copyOf2.2.1 9 = .ok (.areturn, 1) := by decide +kernel
theorem e_Arrs_copyOf3_0 : decode m_Arrs_copyOf3.2.1 0 = .ok (.aload_n 2, 1) := by decide +kernel
theorem e_Arrs_copyOf3_1 : decode m_Arrs_copyOf3.2.1 1 = .ok (.ldc 110, 2) := by decide +kernel
theorem e_Arrs_copyOf3_3 : decode m_Arrs_copyOf3.2.1 3 = .ok (.if_acmp .ne 10, 3) := by decide +kernel
theorem e_Arrs_copyOf3_6 : decode m_Arrs_copyOf3.2.1 6 = .ok (.iload_n 1, 1) := by decide +kernel
theorem e_Arrs_copyOf3_7 : decode m_Arrs_copyOf3.2.1 7 = .ok (.anewarray 2, 3) := by decide +kernel
theorem e_Arrs_copyOf3_10 : decode m_Arrs_copyOf3.2.1 10 = .ok (.goto 14, 3) := by decide +kernel
theorem e_Arrs_copyOf3_13 : decode m_Arrs_copyOf3.2.1 13 = .ok (.aload_n 2, 1) := by decide +kernel
theorem e_Arrs_copyOf3_14 : decode m_Arrs_copyOf3.2.1 14 = .ok (.invokevirtual 90, 3) := by decide +kernel
theorem e_Arrs_copyOf3_17 : decode m_Arrs_copyOf3.2.1 17 = .ok (.iload_n 1, 1) := by decide +kernel
theorem e_Arrs_copyOf3_18 : decode m_Arrs_copyOf3.2.1 18 = .ok (.invokestatic 95, 3) := by decide +kernel
theorem e_Arrs_copyOf3_21 : decode m_Arrs_copyOf3.2.1 21 = .ok (.checkcast 110, 3) := by decide +kernel
theorem e_Arrs_copyOf3_24 : decode m_Arrs_copyOf3.2.1 24 = .ok (.astore_n 3, 1) := by decide +kernel
theorem e_Arrs_copyOf3_25 : decode m_Arrs_copyOf3.2.1 25 = .ok (.aload_n 0, 1) := by decide +kernel
theorem e_Arrs_copyOf3_26 : decode m_Arrs_copyOf3.2.1 26 = .ok (.iconst 0, 1) := by decide +kernel
theorem e_Arrs_copyOf3_27 : decode m_Arrs_copyOf3.2.1 27 = .ok (.aload_n 3, 1) := by decide +kernel
theorem e_Arrs_copyOf3_28 : decode m_Arrs_copyOf3.2.1 28 = .ok (.iconst 0, 1) := by decide +kernel
theorem e_Arrs_copyOf3_29 : decode m_Arrs_copyOf3.2.1 29 = .ok (.aload_n 0, 1) := by decide +kernel
theorem e_Arrs_copyOf3_30 : decode m_Arrs_copyOf3.2.1 30 = .ok (.arraylength, 1) := by decide +kernel
theorem e_Arrs_copyOf3_31 : decode m_Arrs_copyOf3.2.1 31 = .ok (.iload_n 1, 1) := by decide +kernel
theorem e_Arrs_copyOf3_32 : decode m_Arrs_copyOf3.2.1 32 = .ok (.invokestatic 304, 3) := by decide +kernel
theorem e_Arrs_copyOf3_35 : decode m_Arrs_copyOf3.2.1 35 = .ok (.invokestatic 150, 3) := by decide +kernel
theorem e_Arrs_copyOf3_38 : decode m_Arrs_copyOf3.2.1 38 = .ok (.aload_n 3, 1) := by decide +kernel
theorem e_Arrs_copyOf3_39 : decode m_Arrs_copyOf3.2.1 39 = .ok (.areturn, 1) := by decide +kernel
theorem e_Objs_checkIndex_0 : decode m_Objs_checkIndex.2.1 0 = .ok (.iload_n 0, 1) := by decide +kernel
theorem e_Objs_checkIndex_1 : decode m_Objs_checkIndex.2.1 1 = .ok (.iload_n 1, 1) := by decide +kernel
theorem e_Objs_checkIndex_2 : decode m_Objs_checkIndex.2.1 2 = .ok (.aconst_null, 1) := by decide +kernel
theorem e_Objs_checkIndex_3 : decode m_Objs_checkIndex.2.1 3 = .ok (.invokestatic 105, 3) := by decide +kernel
theorem e_Objs_checkIndex_6 : decode m_Objs_checkIndex.2.1 6 = .ok (.ireturn, 1) := by decide +kernel
theorem e_ASup_newLength_0 : decode m_ASup_newLength.2.1 0 = .ok (.iload_n 0, 1) := by decide +kernel
theorem e_ASup_newLength_1 : decode m_ASup_newLength.2.1 1 = .ok (.iload_n 1, 1) := by decide +kernel
theorem e_ASup_newLength_2 : decode m_ASup_newLength.2.1 2 = .ok (.iload_n 2, 1) := by decide +kernel
theorem e_ASup_newLength_3 : decode m_ASup_newLength.2.1 3 = .ok (.invokestatic 194, 3) := by decide +kernel
theorem e_ASup_newLength_6 : decode m_ASup_newLength.2.1 6 = .ok (.iadd, 1) := by decide +kernel
theorem e_ASup_newLength_7 : decode m_ASup_newLength.2.1 7 = .ok (.istore_n 3, 1) := by decide +kernel
theorem e_ASup_newLength_8 : decode m_ASup_newLength.2.1 8 = .ok (.iconst 0, 1) := by decide +kernel
theorem e_ASup_newLength_9 : decode m_ASup_newLength.2.1 9 = .ok (.iload_n 3, 1) := by decide +kernel
theorem e_ASup_newLength_10 : decode m_ASup_newLength.2.1 10 = .ok (.if_icmp .ge 11, 3) := by decide +kernel
theorem e_ASup_newLength_13 : decode m_ASup_newLength.2.1 13 = .ok (.iload_n 3, 1) := by decide +kernel
theorem e_ASup_newLength_14 : decode m_ASup_newLength.2.1 14 = .ok (.ldc 200, 2) := by decide +kernel
theorem e_ASup_newLength_16 : decode m_ASup_newLength.2.1 16 = .ok (.if_icmp .gt 5, 3) := by decide +kernel
theorem e_ASup_newLength_19 : decode m_ASup_newLength.2.1 19 = .ok (.iload_n 3, 1) := by decide +kernel
theorem e_ASup_newLength_20 : decode m_ASup_newLength.2.1 20 = .ok (.ireturn, 1) := by decide +kernel
theorem e_ASup_newLength_21 : decode m_ASup_newLength.2.1 21 = .ok (.iload_n 0, 1) := by decide +kernel
theorem e_ASup_newLength_22 : decode m_ASup_newLength.2.1 22 = .ok (.iload_n 1, 1) := by decide +kernel
theorem e_ASup_newLength_23 : decode m_ASup_newLength.2.1 23 = .ok (.invokestatic 201, 3) := by decide +kernel
theorem e_ASup_newLength_26 : decode m_ASup_newLength.2.1 26 = .ok (.ireturn, 1) := by decide +kernel
theorem e_Pre_checkIndex_0 : decode m_Pre_checkIndex.2.1 0 = .ok (.iload_n 0, 1) := by decide +kernel
theorem e_Pre_checkIndex_1 : decode m_Pre_checkIndex.2.1 1 = .ok (.ifCond .lt 8, 3) := by decide +kernel
theorem e_Pre_checkIndex_4 : decode m_Pre_checkIndex.2.1 4 = .ok (.iload_n 0, 1) := by decide +kernel
theorem e_Pre_checkIndex_5 : decode m_Pre_checkIndex.2.1 5 = .ok (.iload_n 1, 1) := by decide +kernel
theorem e_Pre_checkIndex_6 : decode m_Pre_checkIndex.2.1 6 = .ok (.if_icmp .lt 10, 3) := by decide +kernel
theorem e_Pre_checkIndex_9 : decode m_Pre_checkIndex.2.1 9 = .ok (.aload_n 2, 1) := by decide +kernel
theorem e_Pre_checkIndex_10 : decode m_Pre_checkIndex.2.1 10 = .ok (.iload_n 0, 1) := by decide +kernel
theorem e_Pre_checkIndex_11 : decode m_Pre_checkIndex.2.1 11 = .ok (.iload_n 1, 1) := by decide +kernel
theorem e_Pre_checkIndex_12 : decode m_Pre_checkIndex.2.1 12 = .ok (.invokestatic 95, 3) := by decide +kernel
theorem e_Pre_checkIndex_15 : decode m_Pre_checkIndex.2.1 15 = .ok (.athrow, 1) := by decide +kernel
theorem e_Pre_checkIndex_16 : decode m_Pre_checkIndex.2.1 16 = .ok (.iload_n 0, 1) := by decide +kernel
theorem e_Pre_checkIndex_17 : decode m_Pre_checkIndex.2.1 17 = .ok (.ireturn, 1) := by decide +kernel
theorem e_Law_cell_0 : decode m_Law_cell.2.1 0 = .ok (.iload_n 1, 1) := by decide +kernel
theorem e_Law_cell_1 : decode m_Law_cell.2.1 1 = .ok (.aload_n 0, 1) := by decide +kernel
theorem e_Law_cell_2 : decode m_Law_cell.2.1 2 = .ok (.arraylength, 1) := by decide +kernel
theorem e_Law_cell_3 : decode m_Law_cell.2.1 3 = .ok (.if_icmp .ge 9, 3) := by decide +kernel
theorem e_Law_cell_6 : decode m_Law_cell.2.1 6 = .ok (.aload_n 0, 1) := by decide +kernel
theorem e_Law_cell_7 : decode m_Law_cell.2.1 7 = .ok (.iload_n 1, 1) := by decide +kernel
theorem e_Law_cell_8 : decode m_Law_cell.2.1 8 = .ok (.iaload, 1) := by decide +kernel
theorem e_Law_cell_9 : decode m_Law_cell.2.1 9 = .ok (.goto 4, 3) := by decide +kernel
theorem e_Law_cell_12 : decode m_Law_cell.2.1 12 = .ok (.iconst 0, 1) := by decide +kernel
theorem e_Law_cell_13 : decode m_Law_cell.2.1 13 = .ok (.ireturn, 1) := by decide +kernel
theorem e_Law_law_0 : decode m_Law_law.2.1 0 = .ok (.new 7, 3) := by decide +kernel
theorem e_Law_law_3 : decode m_Law_law.2.1 3 = .ok (.dup, 1) := by decide +kernel
theorem e_Law_law_4 : decode m_Law_law.2.1 4 = .ok (.aload_n 0, 1) := by decide +kernel
theorem e_Law_law_5 : decode m_Law_law.2.1 5 = .ok (.iconst 0, 1) := by decide +kernel
theorem e_Law_law_6 : decode m_Law_law.2.1 6 = .ok (.invokestatic 9, 3) := by decide +kernel
theorem e_Law_law_9 : decode m_Law_law.2.1 9 = .ok (.aload_n 0, 1) := by decide +kernel
theorem e_Law_law_10 : decode m_Law_law.2.1 10 = .ok (.iconst 1, 1) := by decide +kernel
theorem e_Law_law_11 : decode m_Law_law.2.1 11 = .ok (.invokestatic 9, 3) := by decide +kernel
theorem e_Law_law_14 : decode m_Law_law.2.1 14 = .ok (.aload_n 0, 1) := by decide +kernel
theorem e_Law_law_15 : decode m_Law_law.2.1 15 = .ok (.iconst 2, 1) := by decide +kernel
theorem e_Law_law_16 : decode m_Law_law.2.1 16 = .ok (.invokestatic 9, 3) := by decide +kernel
theorem e_Law_law_19 : decode m_Law_law.2.1 19 = .ok (.invokespecial 15, 3) := by decide +kernel
theorem e_Law_law_22 : decode m_Law_law.2.1 22 = .ok (.astore_n 1, 1) := by decide +kernel
theorem e_Law_law_23 : decode m_Law_law.2.1 23 = .ok (.new 18, 3) := by decide +kernel
theorem e_Law_law_26 : decode m_Law_law.2.1 26 = .ok (.dup, 1) := by decide +kernel
theorem e_Law_law_27 : decode m_Law_law.2.1 27 = .ok (.aload_n 0, 1) := by decide +kernel
theorem e_Law_law_28 : decode m_Law_law.2.1 28 = .ok (.iconst 0, 1) := by decide +kernel
theorem e_Law_law_29 : decode m_Law_law.2.1 29 = .ok (.invokestatic 9, 3) := by decide +kernel
theorem e_Law_law_32 : decode m_Law_law.2.1 32 = .ok (.aload_n 0, 1) := by decide +kernel
theorem e_Law_law_33 : decode m_Law_law.2.1 33 = .ok (.iconst 1, 1) := by decide +kernel
theorem e_Law_law_34 : decode m_Law_law.2.1 34 = .ok (.invokestatic 9, 3) := by decide +kernel
theorem e_Law_law_37 : decode m_Law_law.2.1 37 = .ok (.aload_n 0, 1) := by decide +kernel
theorem e_Law_law_38 : decode m_Law_law.2.1 38 = .ok (.iconst 2, 1) := by decide +kernel
theorem e_Law_law_39 : decode m_Law_law.2.1 39 = .ok (.invokestatic 9, 3) := by decide +kernel
theorem e_Law_law_42 : decode m_Law_law.2.1 42 = .ok (.invokespecial 20, 3) := by decide +kernel
theorem e_Law_law_45 : decode m_Law_law.2.1 45 = .ok (.astore_n 2, 1) := by decide +kernel
theorem e_Law_law_46 : decode m_Law_law.2.1 46 = .ok (.iconst 3, 1) := by decide +kernel
theorem e_Law_law_47 : decode m_Law_law.2.1 47 = .ok (.istore_n 3, 1) := by decide +kernel
theorem e_Law_law_48 : decode m_Law_law.2.1 48 = .ok (.iload_n 3, 1) := by decide +kernel
theorem e_Law_law_49 : decode m_Law_law.2.1 49 = .ok (.aload_n 0, 1) := by decide +kernel
theorem e_Law_law_50 : decode m_Law_law.2.1 50 = .ok (.arraylength, 1) := by decide +kernel
theorem e_Law_law_51 : decode m_Law_law.2.1 51 = .ok (.iconst 5, 1) := by decide +kernel
theorem e_Law_law_52 : decode m_Law_law.2.1 52 = .ok (.isub, 1) := by decide +kernel
theorem e_Law_law_53 : decode m_Law_law.2.1 53 = .ok (.if_icmp .gt 483, 3) := by decide +kernel
theorem e_Law_law_56 : decode m_Law_law.2.1 56 = .ok (.aload_n 0, 1) := by decide +kernel
theorem e_Law_law_57 : decode m_Law_law.2.1 57 = .ok (.iload_n 3, 1) := by decide +kernel
theorem e_Law_law_58 : decode m_Law_law.2.1 58 = .ok (.iaload, 1) := by decide +kernel
theorem e_Law_law_59 : decode m_Law_law.2.1 59 = .ok (.bipush 15, 2) := by decide +kernel
theorem e_Law_law_61 : decode m_Law_law.2.1 61 = .ok (.iand, 1) := by decide +kernel
theorem e_Law_law_62 : decode m_Law_law.2.1 62 = .ok (.tableswitch 468 0 13 #[70, 139, 162, 185, 218, 231, 254, 287, 320, 353, 376, 399, 422, 445], 70) := by decide +kernel
theorem e_Law_law_132 : decode m_Law_law.2.1 132 = .ok (.aload_n 1, 1) := by decide +kernel
theorem e_Law_law_133 : decode m_Law_law.2.1 133 = .ok (.aload_n 0, 1) := by decide +kernel
theorem e_Law_law_134 : decode m_Law_law.2.1 134 = .ok (.iload_n 3, 1) := by decide +kernel
theorem e_Law_law_135 : decode m_Law_law.2.1 135 = .ok (.iconst 1, 1) := by decide +kernel
theorem e_Law_law_136 : decode m_Law_law.2.1 136 = .ok (.iadd, 1) := by decide +kernel
theorem e_Law_law_137 : decode m_Law_law.2.1 137 = .ok (.iaload, 1) := by decide +kernel
theorem e_Law_law_138 : decode m_Law_law.2.1 138 = .ok (.aload_n 0, 1) := by decide +kernel
theorem e_Law_law_139 : decode m_Law_law.2.1 139 = .ok (.iload_n 3, 1) := by decide +kernel
theorem e_Law_law_140 : decode m_Law_law.2.1 140 = .ok (.iconst 2, 1) := by decide +kernel
theorem e_Law_law_141 : decode m_Law_law.2.1 141 = .ok (.iadd, 1) := by decide +kernel
theorem e_Law_law_142 : decode m_Law_law.2.1 142 = .ok (.iaload, 1) := by decide +kernel
theorem e_Law_law_143 : decode m_Law_law.2.1 143 = .ok (.ifCond .eq 7, 3) := by decide +kernel
theorem e_Law_law_146 : decode m_Law_law.2.1 146 = .ok (.iconst 1, 1) := by decide +kernel
theorem e_Law_law_147 : decode m_Law_law.2.1 147 = .ok (.goto 4, 3) := by decide +kernel
theorem e_Law_law_150 : decode m_Law_law.2.1 150 = .ok (.iconst 0, 1) := by decide +kernel
theorem e_Law_law_151 : decode m_Law_law.2.1 151 = .ok (.aload_n 0, 1) := by decide +kernel
theorem e_Law_law_152 : decode m_Law_law.2.1 152 = .ok (.iload_n 3, 1) := by decide +kernel
theorem e_Law_law_153 : decode m_Law_law.2.1 153 = .ok (.iconst 3, 1) := by decide +kernel
theorem e_Law_law_154 : decode m_Law_law.2.1 154 = .ok (.iadd, 1) := by decide +kernel
theorem e_Law_law_155 : decode m_Law_law.2.1 155 = .ok (.iaload, 1) := by decide +kernel
theorem e_Law_law_156 : decode m_Law_law.2.1 156 = .ok (.aload_n 0, 1) := by decide +kernel
theorem e_Law_law_157 : decode m_Law_law.2.1 157 = .ok (.iload_n 3, 1) := by decide +kernel
theorem e_Law_law_158 : decode m_Law_law.2.1 158 = .ok (.iconst 4, 1) := by decide +kernel
theorem e_Law_law_159 : decode m_Law_law.2.1 159 = .ok (.iadd, 1) := by decide +kernel
theorem e_Law_law_160 : decode m_Law_law.2.1 160 = .ok (.iaload, 1) := by decide +kernel
theorem e_Law_law_161 : decode m_Law_law.2.1 161 = .ok (.invokevirtual 21, 3) := by decide +kernel
theorem e_Law_law_164 : decode m_Law_law.2.1 164 = .ok (.aload_n 2, 1) := by decide +kernel
theorem e_Law_law_165 : decode m_Law_law.2.1 165 = .ok (.aload_n 0, 1) := by decide +kernel
theorem e_Law_law_166 : decode m_Law_law.2.1 166 = .ok (.iload_n 3, 1) := by decide +kernel
theorem e_Law_law_167 : decode m_Law_law.2.1 167 = .ok (.iconst 1, 1) := by decide +kernel
theorem e_Law_law_168 : decode m_Law_law.2.1 168 = .ok (.iadd, 1) := by decide +kernel
theorem e_Law_law_169 : decode m_Law_law.2.1 169 = .ok (.iaload, 1) := by decide +kernel
theorem e_Law_law_170 : decode m_Law_law.2.1 170 = .ok (.aload_n 0, 1) := by decide +kernel
theorem e_Law_law_171 : decode m_Law_law.2.1 171 = .ok (.iload_n 3, 1) := by decide +kernel
theorem e_Law_law_172 : decode m_Law_law.2.1 172 = .ok (.iconst 2, 1) := by decide +kernel
theorem e_Law_law_173 : decode m_Law_law.2.1 173 = .ok (.iadd, 1) := by decide +kernel
theorem e_Law_law_174 : decode m_Law_law.2.1 174 = .ok (.iaload, 1) := by decide +kernel
theorem e_Law_law_175 : decode m_Law_law.2.1 175 = .ok (.ifCond .eq 7, 3) := by decide +kernel
theorem e_Law_law_178 : decode m_Law_law.2.1 178 = .ok (.iconst 1, 1) := by decide +kernel
theorem e_Law_law_179 : decode m_Law_law.2.1 179 = .ok (.goto 4, 3) := by decide +kernel
theorem e_Law_law_182 : decode m_Law_law.2.1 182 = .ok (.iconst 0, 1) := by decide +kernel
theorem e_Law_law_183 : decode m_Law_law.2.1 183 = .ok (.aload_n 0, 1) := by decide +kernel
theorem e_Law_law_184 : decode m_Law_law.2.1 184 = .ok (.iload_n 3, 1) := by decide +kernel
theorem e_Law_law_185 : decode m_Law_law.2.1 185 = .ok (.iconst 3, 1) := by decide +kernel
theorem e_Law_law_186 : decode m_Law_law.2.1 186 = .ok (.iadd, 1) := by decide +kernel
theorem e_Law_law_187 : decode m_Law_law.2.1 187 = .ok (.iaload, 1) := by decide +kernel
theorem e_Law_law_188 : decode m_Law_law.2.1 188 = .ok (.aload_n 0, 1) := by decide +kernel
theorem e_Law_law_189 : decode m_Law_law.2.1 189 = .ok (.iload_n 3, 1) := by decide +kernel
theorem e_Law_law_190 : decode m_Law_law.2.1 190 = .ok (.iconst 4, 1) := by decide +kernel
theorem e_Law_law_191 : decode m_Law_law.2.1 191 = .ok (.iadd, 1) := by decide +kernel
theorem e_Law_law_192 : decode m_Law_law.2.1 192 = .ok (.iaload, 1) := by decide +kernel
theorem e_Law_law_193 : decode m_Law_law.2.1 193 = .ok (.invokevirtual 25, 3) := by decide +kernel
theorem e_Law_law_196 : decode m_Law_law.2.1 196 = .ok (.if_icmp .eq 334, 3) := by decide +kernel
theorem e_Law_law_199 : decode m_Law_law.2.1 199 = .ok (.iconst 0, 1) := by decide +kernel
theorem e_Law_law_200 : decode m_Law_law.2.1 200 = .ok (.ireturn, 1) := by decide +kernel
theorem e_Law_law_201 : decode m_Law_law.2.1 201 = .ok (.aload_n 1, 1) := by decide +kernel
theorem e_Law_law_202 : decode m_Law_law.2.1 202 = .ok (.aload_n 0, 1) := by decide +kernel
theorem e_Law_law_203 : decode m_Law_law.2.1 203 = .ok (.iload_n 3, 1) := by decide +kernel
theorem e_Law_law_204 : decode m_Law_law.2.1 204 = .ok (.iconst 1, 1) := by decide +kernel
theorem e_Law_law_205 : decode m_Law_law.2.1 205 = .ok (.iadd, 1) := by decide +kernel
theorem e_Law_law_206 : decode m_Law_law.2.1 206 = .ok (.iaload, 1) := by decide +kernel
theorem e_Law_law_207 : decode m_Law_law.2.1 207 = .ok (.invokevirtual 26, 3) := by decide +kernel
theorem e_Law_law_210 : decode m_Law_law.2.1 210 = .ok (.aload_n 2, 1) := by decide +kernel
theorem e_Law_law_211 : decode m_Law_law.2.1 211 = .ok (.aload_n 0, 1) := by decide +kernel
theorem e_Law_law_212 : decode m_Law_law.2.1 212 = .ok (.iload_n 3, 1) := by decide +kernel
theorem e_Law_law_213 : decode m_Law_law.2.1 213 = .ok (.iconst 1, 1) := by decide +kernel
theorem e_Law_law_214 : decode m_Law_law.2.1 214 = .ok (.iadd, 1) := by decide +kernel
theorem e_Law_law_215 : decode m_Law_law.2.1 215 = .ok (.iaload, 1) := by decide +kernel
theorem e_Law_law_216 : decode m_Law_law.2.1 216 = .ok (.invokevirtual 30, 3) := by decide +kernel
theorem e_Law_law_219 : decode m_Law_law.2.1 219 = .ok (.if_icmp .eq 311, 3) := by decide +kernel
theorem e_Law_law_222 : decode m_Law_law.2.1 222 = .ok (.iconst 0, 1) := by decide +kernel
theorem e_Law_law_223 : decode m_Law_law.2.1 223 = .ok (.ireturn, 1) := by decide +kernel
theorem e_Law_law_224 : decode m_Law_law.2.1 224 = .ok (.aload_n 1, 1) := by decide +kernel
theorem e_Law_law_225 : decode m_Law_law.2.1 225 = .ok (.aload_n 0, 1) := by decide +kernel
theorem e_Law_law_226 : decode m_Law_law.2.1 226 = .ok (.iload_n 3, 1) := by decide +kernel
theorem e_Law_law_227 : decode m_Law_law.2.1 227 = .ok (.iconst 1, 1) := by decide +kernel
theorem e_Law_law_228 : decode m_Law_law.2.1 228 = .ok (.iadd, 1) := by decide +kernel
theorem e_Law_law_229 : decode m_Law_law.2.1 229 = .ok (.iaload, 1) := by decide +kernel
theorem e_Law_law_230 : decode m_Law_law.2.1 230 = .ok (.invokevirtual 31, 3) := by decide +kernel
theorem e_Law_law_233 : decode m_Law_law.2.1 233 = .ok (.aload_n 2, 1) := by decide +kernel
theorem e_Law_law_234 : decode m_Law_law.2.1 234 = .ok (.aload_n 0, 1) := by decide +kernel
theorem e_Law_law_235 : decode m_Law_law.2.1 235 = .ok (.iload_n 3, 1) := by decide +kernel
theorem e_Law_law_236 : decode m_Law_law.2.1 236 = .ok (.iconst 1, 1) := by decide +kernel
theorem e_Law_law_237 : decode m_Law_law.2.1 237 = .ok (.iadd, 1) := by decide +kernel
theorem e_Law_law_238 : decode m_Law_law.2.1 238 = .ok (.iaload, 1) := by decide +kernel
theorem e_Law_law_239 : decode m_Law_law.2.1 239 = .ok (.invokevirtual 34, 3) := by decide +kernel
theorem e_Law_law_242 : decode m_Law_law.2.1 242 = .ok (.if_icmp .eq 288, 3) := by decide +kernel
theorem e_Law_law_245 : decode m_Law_law.2.1 245 = .ok (.iconst 0, 1) := by decide +kernel
theorem e_Law_law_246 : decode m_Law_law.2.1 246 = .ok (.ireturn, 1) := by decide +kernel
theorem e_Law_law_247 : decode m_Law_law.2.1 247 = .ok (.aload_n 1, 1) := by decide +kernel
theorem e_Law_law_248 : decode m_Law_law.2.1 248 = .ok (.aload_n 0, 1) := by decide +kernel
theorem e_Law_law_249 : decode m_Law_law.2.1 249 = .ok (.iload_n 3, 1) := by decide +kernel
theorem e_Law_law_250 : decode m_Law_law.2.1 250 = .ok (.iconst 1, 1) := by decide +kernel
theorem e_Law_law_251 : decode m_Law_law.2.1 251 = .ok (.iadd, 1) := by decide +kernel
theorem e_Law_law_252 : decode m_Law_law.2.1 252 = .ok (.iaload, 1) := by decide +kernel
theorem e_Law_law_253 : decode m_Law_law.2.1 253 = .ok (.aload_n 0, 1) := by decide +kernel
theorem e_Law_law_254 : decode m_Law_law.2.1 254 = .ok (.iload_n 3, 1) := by decide +kernel
theorem e_Law_law_255 : decode m_Law_law.2.1 255 = .ok (.iconst 2, 1) := by decide +kernel
theorem e_Law_law_256 : decode m_Law_law.2.1 256 = .ok (.iadd, 1) := by decide +kernel
theorem e_Law_law_257 : decode m_Law_law.2.1 257 = .ok (.iaload, 1) := by decide +kernel
theorem e_Law_law_258 : decode m_Law_law.2.1 258 = .ok (.invokevirtual 35, 3) := by decide +kernel
theorem e_Law_law_261 : decode m_Law_law.2.1 261 = .ok (.aload_n 2, 1) := by decide +kernel
theorem e_Law_law_262 : decode m_Law_law.2.1 262 = .ok (.aload_n 0, 1) := by decide +kernel
theorem e_Law_law_263 : decode m_Law_law.2.1 263 = .ok (.iload_n 3, 1) := by decide +kernel
theorem e_Law_law_264 : decode m_Law_law.2.1 264 = .ok (.iconst 1, 1) := by decide +kernel
theorem e_Law_law_265 : decode m_Law_law.2.1 265 = .ok (.iadd, 1) := by decide +kernel
theorem e_Law_law_266 : decode m_Law_law.2.1 266 = .ok (.iaload, 1) := by decide +kernel
theorem e_Law_law_267 : decode m_Law_law.2.1 267 = .ok (.aload_n 0, 1) := by decide +kernel
theorem e_Law_law_268 : decode m_Law_law.2.1 268 = .ok (.iload_n 3, 1) := by decide +kernel
theorem e_Law_law_269 : decode m_Law_law.2.1 269 = .ok (.iconst 2, 1) := by decide +kernel
theorem e_Law_law_270 : decode m_Law_law.2.1 270 = .ok (.iadd, 1) := by decide +kernel
theorem e_Law_law_271 : decode m_Law_law.2.1 271 = .ok (.iaload, 1) := by decide +kernel
theorem e_Law_law_272 : decode m_Law_law.2.1 272 = .ok (.invokevirtual 39, 3) := by decide +kernel
theorem e_Law_law_275 : decode m_Law_law.2.1 275 = .ok (.if_icmp .eq 255, 3) := by decide +kernel
theorem e_Law_law_278 : decode m_Law_law.2.1 278 = .ok (.iconst 0, 1) := by decide +kernel
theorem e_Law_law_279 : decode m_Law_law.2.1 279 = .ok (.ireturn, 1) := by decide +kernel
theorem e_Law_law_280 : decode m_Law_law.2.1 280 = .ok (.aload_n 1, 1) := by decide +kernel
theorem e_Law_law_281 : decode m_Law_law.2.1 281 = .ok (.invokevirtual 40, 3) := by decide +kernel
theorem e_Law_law_284 : decode m_Law_law.2.1 284 = .ok (.aload_n 2, 1) := by decide +kernel
theorem e_Law_law_285 : decode m_Law_law.2.1 285 = .ok (.invokevirtual 44, 3) := by decide +kernel
theorem e_Law_law_288 : decode m_Law_law.2.1 288 = .ok (.if_icmp .eq 242, 3) := by decide +kernel
theorem e_Law_law_291 : decode m_Law_law.2.1 291 = .ok (.iconst 0, 1) := by decide +kernel
theorem e_Law_law_292 : decode m_Law_law.2.1 292 = .ok (.ireturn, 1) := by decide +kernel
theorem e_Law_law_293 : decode m_Law_law.2.1 293 = .ok (.aload_n 1, 1) := by decide +kernel
theorem e_Law_law_294 : decode m_Law_law.2.1 294 = .ok (.aload_n 0, 1) := by decide +kernel
theorem e_Law_law_295 : decode m_Law_law.2.1 295 = .ok (.iload_n 3, 1) := by decide +kernel
theorem e_Law_law_296 : decode m_Law_law.2.1 296 = .ok (.iconst 1, 1) := by decide +kernel
theorem e_Law_law_297 : decode m_Law_law.2.1 297 = .ok (.iadd, 1) := by decide +kernel
theorem e_Law_law_298 : decode m_Law_law.2.1 298 = .ok (.iaload, 1) := by decide +kernel
theorem e_Law_law_299 : decode m_Law_law.2.1 299 = .ok (.invokevirtual 45, 3) := by decide +kernel
theorem e_Law_law_302 : decode m_Law_law.2.1 302 = .ok (.aload_n 2, 1) := by decide +kernel
theorem e_Law_law_303 : decode m_Law_law.2.1 303 = .ok (.aload_n 0, 1) := by decide +kernel
theorem e_Law_law_304 : decode m_Law_law.2.1 304 = .ok (.iload_n 3, 1) := by decide +kernel
theorem e_Law_law_305 : decode m_Law_law.2.1 305 = .ok (.iconst 1, 1) := by decide +kernel
theorem e_Law_law_306 : decode m_Law_law.2.1 306 = .ok (.iadd, 1) := by decide +kernel
theorem e_Law_law_307 : decode m_Law_law.2.1 307 = .ok (.iaload, 1) := by decide +kernel
theorem e_Law_law_308 : decode m_Law_law.2.1 308 = .ok (.invokevirtual 48, 3) := by decide +kernel
theorem e_Law_law_311 : decode m_Law_law.2.1 311 = .ok (.if_icmp .eq 219, 3) := by decide +kernel
theorem e_Law_law_314 : decode m_Law_law.2.1 314 = .ok (.iconst 0, 1) := by decide +kernel
theorem e_Law_law_315 : decode m_Law_law.2.1 315 = .ok (.ireturn, 1) := by decide +kernel
theorem e_Law_law_316 : decode m_Law_law.2.1 316 = .ok (.aload_n 1, 1) := by decide +kernel
theorem e_Law_law_317 : decode m_Law_law.2.1 317 = .ok (.aload_n 0, 1) := by decide +kernel
theorem e_Law_law_318 : decode m_Law_law.2.1 318 = .ok (.iload_n 3, 1) := by decide +kernel
theorem e_Law_law_319 : decode m_Law_law.2.1 319 = .ok (.iconst 1, 1) := by decide +kernel
theorem e_Law_law_320 : decode m_Law_law.2.1 320 = .ok (.iadd, 1) := by decide +kernel
theorem e_Law_law_321 : decode m_Law_law.2.1 321 = .ok (.iaload, 1) := by decide +kernel
theorem e_Law_law_322 : decode m_Law_law.2.1 322 = .ok (.aload_n 0, 1) := by decide +kernel
theorem e_Law_law_323 : decode m_Law_law.2.1 323 = .ok (.iload_n 3, 1) := by decide +kernel
theorem e_Law_law_324 : decode m_Law_law.2.1 324 = .ok (.iconst 2, 1) := by decide +kernel
theorem e_Law_law_325 : decode m_Law_law.2.1 325 = .ok (.iadd, 1) := by decide +kernel
theorem e_Law_law_326 : decode m_Law_law.2.1 326 = .ok (.iaload, 1) := by decide +kernel
theorem e_Law_law_327 : decode m_Law_law.2.1 327 = .ok (.invokevirtual 49, 3) := by decide +kernel
theorem e_Law_law_330 : decode m_Law_law.2.1 330 = .ok (.aload_n 2, 1) := by decide +kernel
theorem e_Law_law_331 : decode m_Law_law.2.1 331 = .ok (.aload_n 0, 1) := by decide +kernel
theorem e_Law_law_332 : decode m_Law_law.2.1 332 = .ok (.iload_n 3, 1) := by decide +kernel
theorem e_Law_law_333 : decode m_Law_law.2.1 333 = .ok (.iconst 1, 1) := by decide +kernel
theorem e_Law_law_334 : decode m_Law_law.2.1 334 = .ok (.iadd, 1) := by decide +kernel
theorem e_Law_law_335 : decode m_Law_law.2.1 335 = .ok (.iaload, 1) := by decide +kernel
theorem e_Law_law_336 : decode m_Law_law.2.1 336 = .ok (.aload_n 0, 1) := by decide +kernel
theorem e_Law_law_337 : decode m_Law_law.2.1 337 = .ok (.iload_n 3, 1) := by decide +kernel
theorem e_Law_law_338 : decode m_Law_law.2.1 338 = .ok (.iconst 2, 1) := by decide +kernel
theorem e_Law_law_339 : decode m_Law_law.2.1 339 = .ok (.iadd, 1) := by decide +kernel
theorem e_Law_law_340 : decode m_Law_law.2.1 340 = .ok (.iaload, 1) := by decide +kernel
theorem e_Law_law_341 : decode m_Law_law.2.1 341 = .ok (.invokevirtual 53, 3) := by decide +kernel
theorem e_Law_law_344 : decode m_Law_law.2.1 344 = .ok (.if_icmp .eq 186, 3) := by decide +kernel
theorem e_Law_law_347 : decode m_Law_law.2.1 347 = .ok (.iconst 0, 1) := by decide +kernel
theorem e_Law_law_348 : decode m_Law_law.2.1 348 = .ok (.ireturn, 1) := by decide +kernel
theorem e_Law_law_349 : decode m_Law_law.2.1 349 = .ok (.aload_n 1, 1) := by decide +kernel
theorem e_Law_law_350 : decode m_Law_law.2.1 350 = .ok (.aload_n 0, 1) := by decide +kernel
theorem e_Law_law_351 : decode m_Law_law.2.1 351 = .ok (.iload_n 3, 1) := by decide +kernel
theorem e_Law_law_352 : decode m_Law_law.2.1 352 = .ok (.iconst 1, 1) := by decide +kernel
theorem e_Law_law_353 : decode m_Law_law.2.1 353 = .ok (.iadd, 1) := by decide +kernel
theorem e_Law_law_354 : decode m_Law_law.2.1 354 = .ok (.iaload, 1) := by decide +kernel
theorem e_Law_law_355 : decode m_Law_law.2.1 355 = .ok (.aload_n 0, 1) := by decide +kernel
theorem e_Law_law_356 : decode m_Law_law.2.1 356 = .ok (.iload_n 3, 1) := by decide +kernel
theorem e_Law_law_357 : decode m_Law_law.2.1 357 = .ok (.iconst 2, 1) := by decide +kernel
theorem e_Law_law_358 : decode m_Law_law.2.1 358 = .ok (.iadd, 1) := by decide +kernel
theorem e_Law_law_359 : decode m_Law_law.2.1 359 = .ok (.iaload, 1) := by decide +kernel
theorem e_Law_law_360 : decode m_Law_law.2.1 360 = .ok (.invokevirtual 54, 3) := by decide +kernel
theorem e_Law_law_363 : decode m_Law_law.2.1 363 = .ok (.aload_n 2, 1) := by decide +kernel
theorem e_Law_law_364 : decode m_Law_law.2.1 364 = .ok (.aload_n 0, 1) := by decide +kernel
theorem e_Law_law_365 : decode m_Law_law.2.1 365 = .ok (.iload_n 3, 1) := by decide +kernel
theorem e_Law_law_366 : decode m_Law_law.2.1 366 = .ok (.iconst 1, 1) := by decide +kernel
theorem e_Law_law_367 : decode m_Law_law.2.1 367 = .ok (.iadd, 1) := by decide +kernel
theorem e_Law_law_368 : decode m_Law_law.2.1 368 = .ok (.iaload, 1) := by decide +kernel
theorem e_Law_law_369 : decode m_Law_law.2.1 369 = .ok (.aload_n 0, 1) := by decide +kernel
theorem e_Law_law_370 : decode m_Law_law.2.1 370 = .ok (.iload_n 3, 1) := by decide +kernel
theorem e_Law_law_371 : decode m_Law_law.2.1 371 = .ok (.iconst 2, 1) := by decide +kernel
theorem e_Law_law_372 : decode m_Law_law.2.1 372 = .ok (.iadd, 1) := by decide +kernel
theorem e_Law_law_373 : decode m_Law_law.2.1 373 = .ok (.iaload, 1) := by decide +kernel
theorem e_Law_law_374 : decode m_Law_law.2.1 374 = .ok (.invokevirtual 57, 3) := by decide +kernel
theorem e_Law_law_377 : decode m_Law_law.2.1 377 = .ok (.if_icmp .eq 153, 3) := by decide +kernel
theorem e_Law_law_380 : decode m_Law_law.2.1 380 = .ok (.iconst 0, 1) := by decide +kernel
theorem e_Law_law_381 : decode m_Law_law.2.1 381 = .ok (.ireturn, 1) := by decide +kernel
theorem e_Law_law_382 : decode m_Law_law.2.1 382 = .ok (.aload_n 1, 1) := by decide +kernel
theorem e_Law_law_383 : decode m_Law_law.2.1 383 = .ok (.aload_n 0, 1) := by decide +kernel
theorem e_Law_law_384 : decode m_Law_law.2.1 384 = .ok (.iload_n 3, 1) := by decide +kernel
theorem e_Law_law_385 : decode m_Law_law.2.1 385 = .ok (.iconst 1, 1) := by decide +kernel
theorem e_Law_law_386 : decode m_Law_law.2.1 386 = .ok (.iadd, 1) := by decide +kernel
theorem e_Law_law_387 : decode m_Law_law.2.1 387 = .ok (.iaload, 1) := by decide +kernel
theorem e_Law_law_388 : decode m_Law_law.2.1 388 = .ok (.aload_n 0, 1) := by decide +kernel
theorem e_Law_law_389 : decode m_Law_law.2.1 389 = .ok (.iload_n 3, 1) := by decide +kernel
theorem e_Law_law_390 : decode m_Law_law.2.1 390 = .ok (.iconst 2, 1) := by decide +kernel
theorem e_Law_law_391 : decode m_Law_law.2.1 391 = .ok (.iadd, 1) := by decide +kernel
theorem e_Law_law_392 : decode m_Law_law.2.1 392 = .ok (.iaload, 1) := by decide +kernel
theorem e_Law_law_393 : decode m_Law_law.2.1 393 = .ok (.invokevirtual 58, 3) := by decide +kernel
theorem e_Law_law_396 : decode m_Law_law.2.1 396 = .ok (.aload_n 2, 1) := by decide +kernel
theorem e_Law_law_397 : decode m_Law_law.2.1 397 = .ok (.aload_n 0, 1) := by decide +kernel
theorem e_Law_law_398 : decode m_Law_law.2.1 398 = .ok (.iload_n 3, 1) := by decide +kernel
theorem e_Law_law_399 : decode m_Law_law.2.1 399 = .ok (.iconst 1, 1) := by decide +kernel
theorem e_Law_law_400 : decode m_Law_law.2.1 400 = .ok (.iadd, 1) := by decide +kernel
theorem e_Law_law_401 : decode m_Law_law.2.1 401 = .ok (.iaload, 1) := by decide +kernel
theorem e_Law_law_402 : decode m_Law_law.2.1 402 = .ok (.aload_n 0, 1) := by decide +kernel
theorem e_Law_law_403 : decode m_Law_law.2.1 403 = .ok (.iload_n 3, 1) := by decide +kernel
theorem e_Law_law_404 : decode m_Law_law.2.1 404 = .ok (.iconst 2, 1) := by decide +kernel
theorem e_Law_law_405 : decode m_Law_law.2.1 405 = .ok (.iadd, 1) := by decide +kernel
theorem e_Law_law_406 : decode m_Law_law.2.1 406 = .ok (.iaload, 1) := by decide +kernel
theorem e_Law_law_407 : decode m_Law_law.2.1 407 = .ok (.invokevirtual 61, 3) := by decide +kernel
theorem e_Law_law_410 : decode m_Law_law.2.1 410 = .ok (.if_icmp .eq 120, 3) := by decide +kernel
theorem e_Law_law_413 : decode m_Law_law.2.1 413 = .ok (.iconst 0, 1) := by decide +kernel
theorem e_Law_law_414 : decode m_Law_law.2.1 414 = .ok (.ireturn, 1) := by decide +kernel
theorem e_Law_law_415 : decode m_Law_law.2.1 415 = .ok (.aload_n 1, 1) := by decide +kernel
theorem e_Law_law_416 : decode m_Law_law.2.1 416 = .ok (.aload_n 0, 1) := by decide +kernel
theorem e_Law_law_417 : decode m_Law_law.2.1 417 = .ok (.iload_n 3, 1) := by decide +kernel
theorem e_Law_law_418 : decode m_Law_law.2.1 418 = .ok (.iconst 1, 1) := by decide +kernel
theorem e_Law_law_419 : decode m_Law_law.2.1 419 = .ok (.iadd, 1) := by decide +kernel
theorem e_Law_law_420 : decode m_Law_law.2.1 420 = .ok (.iaload, 1) := by decide +kernel
theorem e_Law_law_421 : decode m_Law_law.2.1 421 = .ok (.invokevirtual 62, 3) := by decide +kernel
theorem e_Law_law_424 : decode m_Law_law.2.1 424 = .ok (.aload_n 2, 1) := by decide +kernel
theorem e_Law_law_425 : decode m_Law_law.2.1 425 = .ok (.aload_n 0, 1) := by decide +kernel
theorem e_Law_law_426 : decode m_Law_law.2.1 426 = .ok (.iload_n 3, 1) := by decide +kernel
theorem e_Law_law_427 : decode m_Law_law.2.1 427 = .ok (.iconst 1, 1) := by decide +kernel
theorem e_Law_law_428 : decode m_Law_law.2.1 428 = .ok (.iadd, 1) := by decide +kernel
theorem e_Law_law_429 : decode m_Law_law.2.1 429 = .ok (.iaload, 1) := by decide +kernel
theorem e_Law_law_430 : decode m_Law_law.2.1 430 = .ok (.invokevirtual 65, 3) := by decide +kernel
theorem e_Law_law_433 : decode m_Law_law.2.1 433 = .ok (.if_icmp .eq 97, 3) := by decide +kernel
theorem e_Law_law_436 : decode m_Law_law.2.1 436 = .ok (.iconst 0, 1) := by decide +kernel
theorem e_Law_law_437 : decode m_Law_law.2.1 437 = .ok (.ireturn, 1) := by decide +kernel
theorem e_Law_law_438 : decode m_Law_law.2.1 438 = .ok (.aload_n 1, 1) := by decide +kernel
theorem e_Law_law_439 : decode m_Law_law.2.1 439 = .ok (.aload_n 0, 1) := by decide +kernel
theorem e_Law_law_440 : decode m_Law_law.2.1 440 = .ok (.iload_n 3, 1) := by decide +kernel
theorem e_Law_law_441 : decode m_Law_law.2.1 441 = .ok (.iconst 1, 1) := by decide +kernel
theorem e_Law_law_442 : decode m_Law_law.2.1 442 = .ok (.iadd, 1) := by decide +kernel
theorem e_Law_law_443 : decode m_Law_law.2.1 443 = .ok (.iaload, 1) := by decide +kernel
theorem e_Law_law_444 : decode m_Law_law.2.1 444 = .ok (.invokevirtual 66, 3) := by decide +kernel
theorem e_Law_law_447 : decode m_Law_law.2.1 447 = .ok (.aload_n 2, 1) := by decide +kernel
theorem e_Law_law_448 : decode m_Law_law.2.1 448 = .ok (.aload_n 0, 1) := by decide +kernel
theorem e_Law_law_449 : decode m_Law_law.2.1 449 = .ok (.iload_n 3, 1) := by decide +kernel
theorem e_Law_law_450 : decode m_Law_law.2.1 450 = .ok (.iconst 1, 1) := by decide +kernel
theorem e_Law_law_451 : decode m_Law_law.2.1 451 = .ok (.iadd, 1) := by decide +kernel
theorem e_Law_law_452 : decode m_Law_law.2.1 452 = .ok (.iaload, 1) := by decide +kernel
theorem e_Law_law_453 : decode m_Law_law.2.1 453 = .ok (.invokevirtual 69, 3) := by decide +kernel
theorem e_Law_law_456 : decode m_Law_law.2.1 456 = .ok (.if_icmp .eq 74, 3) := by decide +kernel
theorem e_Law_law_459 : decode m_Law_law.2.1 459 = .ok (.iconst 0, 1) := by decide +kernel
theorem e_Law_law_460 : decode m_Law_law.2.1 460 = .ok (.ireturn, 1) := by decide +kernel
theorem e_Law_law_461 : decode m_Law_law.2.1 461 = .ok (.aload_n 1, 1) := by decide +kernel
theorem e_Law_law_462 : decode m_Law_law.2.1 462 = .ok (.aload_n 0, 1) := by decide +kernel
theorem e_Law_law_463 : decode m_Law_law.2.1 463 = .ok (.iload_n 3, 1) := by decide +kernel
theorem e_Law_law_464 : decode m_Law_law.2.1 464 = .ok (.iconst 1, 1) := by decide +kernel
theorem e_Law_law_465 : decode m_Law_law.2.1 465 = .ok (.iadd, 1) := by decide +kernel
theorem e_Law_law_466 : decode m_Law_law.2.1 466 = .ok (.iaload, 1) := by decide +kernel
theorem e_Law_law_467 : decode m_Law_law.2.1 467 = .ok (.invokevirtual 70, 3) := by decide +kernel
theorem e_Law_law_470 : decode m_Law_law.2.1 470 = .ok (.aload_n 2, 1) := by decide +kernel
theorem e_Law_law_471 : decode m_Law_law.2.1 471 = .ok (.aload_n 0, 1) := by decide +kernel
theorem e_Law_law_472 : decode m_Law_law.2.1 472 = .ok (.iload_n 3, 1) := by decide +kernel
theorem e_Law_law_473 : decode m_Law_law.2.1 473 = .ok (.iconst 1, 1) := by decide +kernel
theorem e_Law_law_474 : decode m_Law_law.2.1 474 = .ok (.iadd, 1) := by decide +kernel
theorem e_Law_law_475 : decode m_Law_law.2.1 475 = .ok (.iaload, 1) := by decide +kernel
theorem e_Law_law_476 : decode m_Law_law.2.1 476 = .ok (.invokevirtual 73, 3) := by decide +kernel
theorem e_Law_law_479 : decode m_Law_law.2.1 479 = .ok (.if_icmp .eq 51, 3) := by decide +kernel
theorem e_Law_law_482 : decode m_Law_law.2.1 482 = .ok (.iconst 0, 1) := by decide +kernel
theorem e_Law_law_483 : decode m_Law_law.2.1 483 = .ok (.ireturn, 1) := by decide +kernel
theorem e_Law_law_484 : decode m_Law_law.2.1 484 = .ok (.aload_n 1, 1) := by decide +kernel
theorem e_Law_law_485 : decode m_Law_law.2.1 485 = .ok (.aload_n 0, 1) := by decide +kernel
theorem e_Law_law_486 : decode m_Law_law.2.1 486 = .ok (.iload_n 3, 1) := by decide +kernel
theorem e_Law_law_487 : decode m_Law_law.2.1 487 = .ok (.iconst 1, 1) := by decide +kernel
theorem e_Law_law_488 : decode m_Law_law.2.1 488 = .ok (.iadd, 1) := by decide +kernel
theorem e_Law_law_489 : decode m_Law_law.2.1 489 = .ok (.iaload, 1) := by decide +kernel
theorem e_Law_law_490 : decode m_Law_law.2.1 490 = .ok (.invokevirtual 74, 3) := by decide +kernel
theorem e_Law_law_493 : decode m_Law_law.2.1 493 = .ok (.aload_n 2, 1) := by decide +kernel
theorem e_Law_law_494 : decode m_Law_law.2.1 494 = .ok (.aload_n 0, 1) := by decide +kernel
theorem e_Law_law_495 : decode m_Law_law.2.1 495 = .ok (.iload_n 3, 1) := by decide +kernel
theorem e_Law_law_496 : decode m_Law_law.2.1 496 = .ok (.iconst 1, 1) := by decide +kernel
theorem e_Law_law_497 : decode m_Law_law.2.1 497 = .ok (.iadd, 1) := by decide +kernel
theorem e_Law_law_498 : decode m_Law_law.2.1 498 = .ok (.iaload, 1) := by decide +kernel
theorem e_Law_law_499 : decode m_Law_law.2.1 499 = .ok (.invokevirtual 77, 3) := by decide +kernel
theorem e_Law_law_502 : decode m_Law_law.2.1 502 = .ok (.if_icmp .eq 28, 3) := by decide +kernel
theorem e_Law_law_505 : decode m_Law_law.2.1 505 = .ok (.iconst 0, 1) := by decide +kernel
theorem e_Law_law_506 : decode m_Law_law.2.1 506 = .ok (.ireturn, 1) := by decide +kernel
theorem e_Law_law_507 : decode m_Law_law.2.1 507 = .ok (.aload_n 1, 1) := by decide +kernel
theorem e_Law_law_508 : decode m_Law_law.2.1 508 = .ok (.aload_n 0, 1) := by decide +kernel
theorem e_Law_law_509 : decode m_Law_law.2.1 509 = .ok (.iload_n 3, 1) := by decide +kernel
theorem e_Law_law_510 : decode m_Law_law.2.1 510 = .ok (.iconst 1, 1) := by decide +kernel
theorem e_Law_law_511 : decode m_Law_law.2.1 511 = .ok (.iadd, 1) := by decide +kernel
theorem e_Law_law_512 : decode m_Law_law.2.1 512 = .ok (.iaload, 1) := by decide +kernel
theorem e_Law_law_513 : decode m_Law_law.2.1 513 = .ok (.invokevirtual 78, 3) := by decide +kernel
theorem e_Law_law_516 : decode m_Law_law.2.1 516 = .ok (.aload_n 2, 1) := by decide +kernel
theorem e_Law_law_517 : decode m_Law_law.2.1 517 = .ok (.aload_n 0, 1) := by decide +kernel
theorem e_Law_law_518 : decode m_Law_law.2.1 518 = .ok (.iload_n 3, 1) := by decide +kernel
theorem e_Law_law_519 : decode m_Law_law.2.1 519 = .ok (.iconst 1, 1) := by decide +kernel
theorem e_Law_law_520 : decode m_Law_law.2.1 520 = .ok (.iadd, 1) := by decide +kernel
theorem e_Law_law_521 : decode m_Law_law.2.1 521 = .ok (.iaload, 1) := by decide +kernel
theorem e_Law_law_522 : decode m_Law_law.2.1 522 = .ok (.invokevirtual 81, 3) := by decide +kernel
theorem e_Law_law_525 : decode m_Law_law.2.1 525 = .ok (.if_icmp .eq 5, 3) := by decide +kernel
theorem e_Law_law_528 : decode m_Law_law.2.1 528 = .ok (.iconst 0, 1) := by decide +kernel
theorem e_Law_law_529 : decode m_Law_law.2.1 529 = .ok (.ireturn, 1) := by decide +kernel
theorem e_Law_law_530 : decode m_Law_law.2.1 530 = .ok (.iinc 3 5, 3) := by decide +kernel
theorem e_Law_law_533 : decode m_Law_law.2.1 533 = .ok (.goto (-485), 3) := by decide +kernel
theorem e_Law_law_536 : decode m_Law_law.2.1 536 = .ok (.iconst 1, 1) := by decide +kernel
theorem e_Law_law_537 : decode m_Law_law.2.1 537 = .ok (.ireturn, 1) := by decide +kernel
