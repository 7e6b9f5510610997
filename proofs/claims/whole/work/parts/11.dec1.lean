theorem e_Core_init_0 : decode m_Core_init.2.1 0 = .ok (.aload_n 0, 1) := by decide +kernel
theorem e_Core_init_1 : decode m_Core_init.2.1 1 = .ok (.invokespecial 1, 3) := by decide +kernel
theorem e_Core_init_4 : decode m_Core_init.2.1 4 = .ok (.return_, 1) := by decide +kernel
theorem e_Core_begin_0 : decode m_Core_begin.2.1 0 = .ok (.aload_n 0, 1) := by decide +kernel
theorem e_Core_begin_1 : decode m_Core_begin.2.1 1 = .ok (.dup, 1) := by decide +kernel
theorem e_Core_begin_2 : decode m_Core_begin.2.1 2 = .ok (.getfield 7, 3) := by decide +kernel
theorem e_Core_begin_5 : decode m_Core_begin.2.1 5 = .ok (.iconst 1, 1) := by decide +kernel
theorem e_Core_begin_6 : decode m_Core_begin.2.1 6 = .ok (.iadd, 1) := by decide +kernel
theorem e_Core_begin_7 : decode m_Core_begin.2.1 7 = .ok (.putfield 7, 3) := by decide +kernel
theorem e_Core_begin_10 : decode m_Core_begin.2.1 10 = .ok (.aload_n 0, 1) := by decide +kernel
theorem e_Core_begin_11 : decode m_Core_begin.2.1 11 = .ok (.iconst 1, 1) := by decide +kernel
theorem e_Core_begin_12 : decode m_Core_begin.2.1 12 = .ok (.putfield 13, 3) := by decide +kernel
theorem e_Core_begin_15 : decode m_Core_begin.2.1 15 = .ok (.aload_n 0, 1) := by decide +kernel
theorem e_Core_begin_16 : decode m_Core_begin.2.1 16 = .ok (.iload_n 1, 1) := by decide +kernel
theorem e_Core_begin_17 : decode m_Core_begin.2.1 17 = .ok (.putfield 17, 3) := by decide +kernel
theorem e_Core_begin_20 : decode m_Core_begin.2.1 20 = .ok (.aload_n 0, 1) := by decide +kernel
theorem e_Core_begin_21 : decode m_Core_begin.2.1 21 = .ok (.iload_n 2, 1) := by decide +kernel
theorem e_Core_begin_22 : decode m_Core_begin.2.1 22 = .ok (.putfield 20, 3) := by decide +kernel
theorem e_Core_begin_25 : decode m_Core_begin.2.1 25 = .ok (.aload_n 0, 1) := by decide +kernel
theorem e_Core_begin_26 : decode m_Core_begin.2.1 26 = .ok (.iload_n 3, 1) := by decide +kernel
theorem e_Core_begin_27 : decode m_Core_begin.2.1 27 = .ok (.putfield 23, 3) := by decide +kernel
theorem e_Core_begin_30 : decode m_Core_begin.2.1 30 = .ok (.aload_n 0, 1) := by decide +kernel
theorem e_Core_begin_31 : decode m_Core_begin.2.1 31 = .ok (.iconst 0, 1) := by decide +kernel
theorem e_Core_begin_32 : decode m_Core_begin.2.1 32 = .ok (.putfield 26, 3) := by decide +kernel
theorem e_Core_begin_35 : decode m_Core_begin.2.1 35 = .ok (.aload_n 0, 1) := by decide +kernel
theorem e_Core_begin_36 : decode m_Core_begin.2.1 36 = .ok (.iconst 0, 1) := by decide +kernel
theorem e_Core_begin_37 : decode m_Core_begin.2.1 37 = .ok (.putfield 29, 3) := by decide +kernel
theorem e_Core_begin_40 : decode m_Core_begin.2.1 40 = .ok (.return_, 1) := by decide +kernel
theorem e_Core_isDue_0 : decode m_Core_isDue.2.1 0 = .ok (.aload_n 0, 1) := by decide +kernel
theorem e_Core_isDue_1 : decode m_Core_isDue.2.1 1 = .ok (.getfield 13, 3) := by decide +kernel
theorem e_Core_isDue_4 : decode m_Core_isDue.2.1 4 = .ok (.ifCond .eq 22, 3) := by decide +kernel
theorem e_Core_isDue_7 : decode m_Core_isDue.2.1 7 = .ok (.aload_n 0, 1) := by decide +kernel
theorem e_Core_isDue_8 : decode m_Core_isDue.2.1 8 = .ok (.getfield 29, 3) := by decide +kernel
theorem e_Core_isDue_11 : decode m_Core_isDue.2.1 11 = .ok (.ifCond .ne 15, 3) := by decide +kernel
theorem e_Core_isDue_14 : decode m_Core_isDue.2.1 14 = .ok (.aload_n 0, 1) := by decide +kernel
theorem e_Core_isDue_15 : decode m_Core_isDue.2.1 15 = .ok (.getfield 32, 3) := by decide +kernel
theorem e_Core_isDue_18 : decode m_Core_isDue.2.1 18 = .ok (.iload_n 1, 1) := by decide +kernel
theorem e_Core_isDue_19 : decode m_Core_isDue.2.1 19 = .ok (.if_icmp .ne 7, 3) := by decide +kernel
theorem e_Core_isDue_22 : decode m_Core_isDue.2.1 22 = .ok (.iconst 1, 1) := by decide +kernel
theorem e_Core_isDue_23 : decode m_Core_isDue.2.1 23 = .ok (.goto 4, 3) := by decide +kernel
theorem e_Core_isDue_26 : decode m_Core_isDue.2.1 26 = .ok (.iconst 0, 1) := by decide +kernel
theorem e_Core_isDue_27 : decode m_Core_isDue.2.1 27 = .ok (.ireturn, 1) := by decide +kernel
theorem e_Core_isBusyWith_0 : decode m_Core_isBusyWith.2.1 0 = .ok (.aload_n 0, 1) := by decide +kernel
theorem e_Core_isBusyWith_1 : decode m_Core_isBusyWith.2.1 1 = .ok (.getfield 13, 3) := by decide +kernel
theorem e_Core_isBusyWith_4 : decode m_Core_isBusyWith.2.1 4 = .ok (.ifCond .eq 15, 3) := by decide +kernel
theorem e_Core_isBusyWith_7 : decode m_Core_isBusyWith.2.1 7 = .ok (.aload_n 0, 1) := by decide +kernel
theorem e_Core_isBusyWith_8 : decode m_Core_isBusyWith.2.1 8 = .ok (.getfield 20, 3) := by decide +kernel
theorem e_Core_isBusyWith_11 : decode m_Core_isBusyWith.2.1 11 = .ok (.iload_n 1, 1) := by decide +kernel
theorem e_Core_isBusyWith_12 : decode m_Core_isBusyWith.2.1 12 = .ok (.if_icmp .ne 7, 3) := by decide +kernel
theorem e_Core_isBusyWith_15 : decode m_Core_isBusyWith.2.1 15 = .ok (.iconst 1, 1) := by decide +kernel
theorem e_Core_isBusyWith_16 : decode m_Core_isBusyWith.2.1 16 = .ok (.goto 4, 3) := by decide +kernel
theorem e_Core_isBusyWith_19 : decode m_Core_isBusyWith.2.1 19 = .ok (.iconst 0, 1) := by decide +kernel
theorem e_Core_isBusyWith_20 : decode m_Core_isBusyWith.2.1 20 = .ok (.ireturn, 1) := by decide +kernel
theorem e_Desk_init_0 : decode m_Desk_init.2.1 0 = .ok (.aload_n 0, 1) := by decide +kernel
theorem e_Desk_init_1 : decode m_Desk_init.2.1 1 = .ok (.invokespecial 1, 3) := by decide +kernel
theorem e_Desk_init_4 : decode m_Desk_init.2.1 4 = .ok (.aload_n 0, 1) := by decide +kernel
theorem e_Desk_init_5 : decode m_Desk_init.2.1 5 = .ok (.new 7, 3) := by decide +kernel
theorem e_Desk_init_8 : decode m_Desk_init.2.1 8 = .ok (.dup, 1) := by decide +kernel
theorem e_Desk_init_9 : decode m_Desk_init.2.1 9 = .ok (.invokespecial 9, 3) := by decide +kernel
theorem e_Desk_init_12 : decode m_Desk_init.2.1 12 = .ok (.putfield 10, 3) := by decide +kernel
theorem e_Desk_init_15 : decode m_Desk_init.2.1 15 = .ok (.return_, 1) := by decide +kernel
theorem e_Desk_strike_0 : decode m_Desk_strike.2.1 0 = .ok (.aload_n 0, 1) := by decide +kernel
theorem e_Desk_strike_1 : decode m_Desk_strike.2.1 1 = .ok (.getfield 10, 3) := by decide +kernel
theorem e_Desk_strike_4 : decode m_Desk_strike.2.1 4 = .ok (.invokevirtual 16, 3) := by decide +kernel
theorem e_Desk_strike_7 : decode m_Desk_strike.2.1 7 = .ok (.iconst 1, 1) := by decide +kernel
theorem e_Desk_strike_8 : decode m_Desk_strike.2.1 8 = .ok (.isub, 1) := by decide +kernel
theorem e_Desk_strike_9 : decode m_Desk_strike.2.1 9 = .ok (.istore_n 3, 1) := by decide +kernel
theorem e_Desk_strike_10 : decode m_Desk_strike.2.1 10 = .ok (.iload_n 3, 1) := by decide +kernel
theorem e_Desk_strike_11 : decode m_Desk_strike.2.1 11 = .ok (.ifCond .lt 37, 3) := by decide +kernel
theorem e_Desk_strike_14 : decode m_Desk_strike.2.1 14 = .ok (.aload_n 0, 1) := by decide +kernel
theorem e_Desk_strike_15 : decode m_Desk_strike.2.1 15 = .ok (.getfield 10, 3) := by decide +kernel
theorem e_Desk_strike_18 : decode m_Desk_strike.2.1 18 = .ok (.iload_n 3, 1) := by decide +kernel
theorem e_Desk_strike_19 : decode m_Desk_strike.2.1 19 = .ok (.invokevirtual 20, 3) := by decide +kernel
theorem e_Desk_strike_22 : decode m_Desk_strike.2.1 22 = .ok (.checkcast 24, 3) := by decide +kernel
theorem e_Desk_strike_25 : decode m_Desk_strike.2.1 25 = .ok (.iload_n 1, 1) := by decide +kernel
theorem e_Desk_strike_26 : decode m_Desk_strike.2.1 26 = .ok (.iload_n 2, 1) := by decide +kernel
theorem e_Desk_strike_27 : decode m_Desk_strike.2.1 27 = .ok (.invokevirtual 26, 3) := by decide +kernel
theorem e_Desk_strike_30 : decode m_Desk_strike.2.1 30 = .ok (.ifCond .eq 12, 3) := by decide +kernel
theorem e_Desk_strike_33 : decode m_Desk_strike.2.1 33 = .ok (.aload_n 0, 1) := by decide +kernel
theorem e_Desk_strike_34 : decode m_Desk_strike.2.1 34 = .ok (.getfield 10, 3) := by decide +kernel
theorem e_Desk_strike_37 : decode m_Desk_strike.2.1 37 = .ok (.iload_n 3, 1) := by decide +kernel
theorem e_Desk_strike_38 : decode m_Desk_strike.2.1 38 = .ok (.invokevirtual 30, 3) := by decide +kernel
theorem e_Desk_strike_41 : decode m_Desk_strike.2.1 41 = .ok (.pop, 1) := by decide +kernel
theorem e_Desk_strike_42 : decode m_Desk_strike.2.1 42 = .ok (.iinc 3 (-1), 3) := by decide +kernel
theorem e_Desk_strike_45 : decode m_Desk_strike.2.1 45 = .ok (.goto (-35), 3) := by decide +kernel
theorem e_Desk_strike_48 : decode m_Desk_strike.2.1 48 = .ok (.return_, 1) := by decide +kernel
theorem e_Letter_init_0 : decode m_Letter_init.2.1 0 = .ok (.aload_n 0, 1) := by decide +kernel
theorem e_Letter_init_1 : decode m_Letter_init.2.1 1 = .ok (.invokespecial 3, 3) := by decide +kernel
theorem e_Letter_init_4 : decode m_Letter_init.2.1 4 = .ok (.return_, 1) := by decide +kernel
theorem e_Letter_address_0 : decode m_Letter_address.2.1 0 = .ok (.aload_n 0, 1) := by decide +kernel
theorem e_Letter_address_1 : decode m_Letter_address.2.1 1 = .ok (.iload_n 1, 1) := by decide +kernel
theorem e_Letter_address_2 : decode m_Letter_address.2.1 2 = .ok (.putfield 9, 3) := by decide +kernel
theorem e_Letter_address_5 : decode m_Letter_address.2.1 5 = .ok (.aload_n 0, 1) := by decide +kernel
theorem e_Letter_address_6 : decode m_Letter_address.2.1 6 = .ok (.iload_n 2, 1) := by decide +kernel
theorem e_Letter_address_7 : decode m_Letter_address.2.1 7 = .ok (.putfield 15, 3) := by decide +kernel
theorem e_Letter_address_10 : decode m_Letter_address.2.1 10 = .ok (.aload_n 0, 1) := by decide +kernel
theorem e_Letter_address_11 : decode m_Letter_address.2.1 11 = .ok (.iload_n 3, 1) := by decide +kernel
theorem e_Letter_address_12 : decode m_Letter_address.2.1 12 = .ok (.putfield 18, 3) := by decide +kernel
theorem e_Letter_address_15 : decode m_Letter_address.2.1 15 = .ok (.aload_n 0, 1) := by decide +kernel
theorem e_Letter_address_16 : decode m_Letter_address.2.1 16 = .ok (.iload 4, 2) := by decide +kernel
theorem e_Letter_address_18 : decode m_Letter_address.2.1 18 = .ok (.putfield 21, 3) := by decide +kernel
theorem e_Letter_address_21 : decode m_Letter_address.2.1 21 = .ok (.aload_n 0, 1) := by decide +kernel
theorem e_Letter_address_22 : decode m_Letter_address.2.1 22 = .ok (.iconst 0, 1) := by decide +kernel
theorem e_Letter_address_23 : decode m_Letter_address.2.1 23 = .ok (.putfield 24, 3) := by decide +kernel
theorem e_Letter_address_26 : decode m_Letter_address.2.1 26 = .ok (.aload_n 0, 1) := by decide +kernel
theorem e_Letter_address_27 : decode m_Letter_address.2.1 27 = .ok (.iconst 0, 1) := by decide +kernel
theorem e_Letter_address_28 : decode m_Letter_address.2.1 28 = .ok (.putfield 27, 3) := by decide +kernel
theorem e_Letter_address_31 : decode m_Letter_address.2.1 31 = .ok (.aload_n 0, 1) := by decide +kernel
theorem e_Letter_address_32 : decode m_Letter_address.2.1 32 = .ok (.iconst 0, 1) := by decide +kernel
theorem e_Letter_address_33 : decode m_Letter_address.2.1 33 = .ok (.putfield 31, 3) := by decide +kernel
theorem e_Letter_address_36 : decode m_Letter_address.2.1 36 = .ok (.aload_n 0, 1) := by decide +kernel
theorem e_Letter_address_37 : decode m_Letter_address.2.1 37 = .ok (.iconst 0, 1) := by decide +kernel
theorem e_Letter_address_38 : decode m_Letter_address.2.1 38 = .ok (.putfield 34, 3) := by decide +kernel
theorem e_Letter_address_41 : decode m_Letter_address.2.1 41 = .ok (.aload_n 0, 1) := by decide +kernel
theorem e_Letter_address_42 : decode m_Letter_address.2.1 42 = .ok (.iconst 0, 1) := by decide +kernel
theorem e_Letter_address_43 : decode m_Letter_address.2.1 43 = .ok (.putfield 37, 3) := by decide +kernel
theorem e_Letter_address_46 : decode m_Letter_address.2.1 46 = .ok (.aload_n 0, 1) := by decide +kernel
theorem e_Letter_address_47 : decode m_Letter_address.2.1 47 = .ok (.iconst (-1), 1) := by decide +kernel
theorem e_Letter_address_48 : decode m_Letter_address.2.1 48 = .ok (.putfield 40, 3) := by decide +kernel
theorem e_Letter_address_51 : decode m_Letter_address.2.1 51 = .ok (.aload_n 0, 1) := by decide +kernel
theorem e_Letter_address_52 : decode m_Letter_address.2.1 52 = .ok (.iconst 0, 1) := by decide +kernel
theorem e_Letter_address_53 : decode m_Letter_address.2.1 53 = .ok (.putfield 43, 3) := by decide +kernel
theorem e_Letter_address_56 : decode m_Letter_address.2.1 56 = .ok (.return_, 1) := by decide +kernel
theorem e_Letter_yieldsTo_0 : decode m_Letter_yieldsTo.2.1 0 = .ok (.aload_n 0, 1) := by decide +kernel
theorem e_Letter_yieldsTo_1 : decode m_Letter_yieldsTo.2.1 1 = .ok (.getfield 9, 3) := by decide +kernel
theorem e_Letter_yieldsTo_4 : decode m_Letter_yieldsTo.2.1 4 = .ok (.iload_n 1, 1) := by decide +kernel
theorem e_Letter_yieldsTo_5 : decode m_Letter_yieldsTo.2.1 5 = .ok (.if_icmp .ne 40, 3) := by decide +kernel
theorem e_Letter_yieldsTo_8 : decode m_Letter_yieldsTo.2.1 8 = .ok (.aload_n 0, 1) := by decide +kernel
theorem e_Letter_yieldsTo_9 : decode m_Letter_yieldsTo.2.1 9 = .ok (.getfield 15, 3) := by decide +kernel
theorem e_Letter_yieldsTo_12 : decode m_Letter_yieldsTo.2.1 12 = .ok (.iload_n 2, 1) := by decide +kernel
theorem e_Letter_yieldsTo_13 : decode m_Letter_yieldsTo.2.1 13 = .ok (.if_icmp .ne 32, 3) := by decide +kernel
theorem e_Letter_yieldsTo_16 : decode m_Letter_yieldsTo.2.1 16 = .ok (.aload_n 0, 1) := by decide +kernel
theorem e_Letter_yieldsTo_17 : decode m_Letter_yieldsTo.2.1 17 = .ok (.getfield 18, 3) := by decide +kernel
theorem e_Letter_yieldsTo_20 : decode m_Letter_yieldsTo.2.1 20 = .ok (.iload_n 3, 1) := by decide +kernel
theorem e_Letter_yieldsTo_21 : decode m_Letter_yieldsTo.2.1 21 = .ok (.if_icmp .ne 24, 3) := by decide +kernel
theorem e_Letter_yieldsTo_24 : decode m_Letter_yieldsTo.2.1 24 = .ok (.aload_n 0, 1) := by decide +kernel
theorem e_Letter_yieldsTo_25 : decode m_Letter_yieldsTo.2.1 25 = .ok (.getfield 9, 3) := by decide +kernel
theorem e_Letter_yieldsTo_28 : decode m_Letter_yieldsTo.2.1 28 = .ok (.iconst 5, 1) := by decide +kernel
theorem e_Letter_yieldsTo_29 : decode m_Letter_yieldsTo.2.1 29 = .ok (.if_icmp .ne 12, 3) := by decide +kernel
theorem e_Letter_yieldsTo_32 : decode m_Letter_yieldsTo.2.1 32 = .ok (.aload_n 0, 1) := by decide +kernel
theorem e_Letter_yieldsTo_33 : decode m_Letter_yieldsTo.2.1 33 = .ok (.getfield 21, 3) := by decide +kernel
theorem e_Letter_yieldsTo_36 : decode m_Letter_yieldsTo.2.1 36 = .ok (.iload 4, 2) := by decide +kernel
theorem e_Letter_yieldsTo_38 : decode m_Letter_yieldsTo.2.1 38 = .ok (.if_icmp .ne 7, 3) := by decide +kernel
theorem e_Letter_yieldsTo_41 : decode m_Letter_yieldsTo.2.1 41 = .ok (.iconst 1, 1) := by decide +kernel
theorem e_Letter_yieldsTo_42 : decode m_Letter_yieldsTo.2.1 42 = .ok (.goto 4, 3) := by decide +kernel
theorem e_Letter_yieldsTo_45 : decode m_Letter_yieldsTo.2.1 45 = .ok (.iconst 0, 1) := by decide +kernel
theorem e_Letter_yieldsTo_46 : decode m_Letter_yieldsTo.2.1 46 = .ok (.ireturn, 1) := by decide +kernel
theorem e_Letter_sum_0 : decode m_Letter_sum.2.1 0 = .ok (.aload_n 0, 1) := by decide +kernel
theorem e_Letter_sum_1 : decode m_Letter_sum.2.1 1 = .ok (.getfield 9, 3) := by decide +kernel
theorem e_Letter_sum_4 : decode m_Letter_sum.2.1 4 = .ok (.bipush 8, 2) := by decide +kernel
theorem e_Letter_sum_6 : decode m_Letter_sum.2.1 6 = .ok (.aload_n 0, 1) := by decide +kernel
theorem e_Letter_sum_7 : decode m_Letter_sum.2.1 7 = .ok (.getfield 18, 3) := by decide +kernel
theorem e_Letter_sum_10 : decode m_Letter_sum.2.1 10 = .ok (.imul, 1) := by decide +kernel
theorem e_Letter_sum_11 : decode m_Letter_sum.2.1 11 = .ok (.iadd, 1) := by decide +kernel
theorem e_Letter_sum_12 : decode m_Letter_sum.2.1 12 = .ok (.bipush 64, 2) := by decide +kernel
theorem e_Letter_sum_14 : decode m_Letter_sum.2.1 14 = .ok (.aload_n 0, 1) := by decide +kernel
theorem e_Letter_sum_15 : decode m_Letter_sum.2.1 15 = .ok (.getfield 15, 3) := by decide +kernel
theorem e_Letter_sum_18 : decode m_Letter_sum.2.1 18 = .ok (.imul, 1) := by decide +kernel
theorem e_Letter_sum_19 : decode m_Letter_sum.2.1 19 = .ok (.iadd, 1) := by decide +kernel
theorem e_Letter_sum_20 : decode m_Letter_sum.2.1 20 = .ok (.sipush 512, 3) := by decide +kernel
theorem e_Letter_sum_23 : decode m_Letter_sum.2.1 23 = .ok (.aload_n 0, 1) := by decide +kernel
theorem e_Letter_sum_24 : decode m_Letter_sum.2.1 24 = .ok (.getfield 21, 3) := by decide +kernel
theorem e_Letter_sum_27 : decode m_Letter_sum.2.1 27 = .ok (.imul, 1) := by decide +kernel
theorem e_Letter_sum_28 : decode m_Letter_sum.2.1 28 = .ok (.iadd, 1) := by decide +kernel
theorem e_Letter_sum_29 : decode m_Letter_sum.2.1 29 = .ok (.istore_n 1, 1) := by decide +kernel
theorem e_Letter_sum_30 : decode m_Letter_sum.2.1 30 = .ok (.iload_n 1, 1) := by decide +kernel
theorem e_Letter_sum_31 : decode m_Letter_sum.2.1 31 = .ok (.sipush 1024, 3) := by decide +kernel
theorem e_Letter_sum_34 : decode m_Letter_sum.2.1 34 = .ok (.aload_n 0, 1) := by decide +kernel
theorem e_Letter_sum_35 : decode m_Letter_sum.2.1 35 = .ok (.getfield 24, 3) := by decide +kernel
theorem e_Letter_sum_38 : decode m_Letter_sum.2.1 38 = .ok (.imul, 1) := by decide +kernel
theorem e_Letter_sum_39 : decode m_Letter_sum.2.1 39 = .ok (.iadd, 1) := by decide +kernel
theorem e_Letter_sum_40 : decode m_Letter_sum.2.1 40 = .ok (.aload_n 0, 1) := by decide +kernel
theorem e_Letter_sum_41 : decode m_Letter_sum.2.1 41 = .ok (.getfield 27, 3) := by decide +kernel
theorem e_Letter_sum_44 : decode m_Letter_sum.2.1 44 = .ok (.ifCond .eq 9, 3) := by decide +kernel
theorem e_Letter_sum_47 : decode m_Letter_sum.2.1 47 = .ok (.sipush 8192, 3) := by decide +kernel
theorem e_Letter_sum_50 : decode m_Letter_sum.2.1 50 = .ok (.goto 4, 3) := by decide +kernel
theorem e_Letter_sum_53 : decode m_Letter_sum.2.1 53 = .ok (.iconst 0, 1) := by decide +kernel
theorem e_Letter_sum_54 : decode m_Letter_sum.2.1 54 = .ok (.iadd, 1) := by decide +kernel
theorem e_Letter_sum_55 : decode m_Letter_sum.2.1 55 = .ok (.aload_n 0, 1) := by decide +kernel
theorem e_Letter_sum_56 : decode m_Letter_sum.2.1 56 = .ok (.getfield 31, 3) := by decide +kernel
theorem e_Letter_sum_59 : decode m_Letter_sum.2.1 59 = .ok (.ifCond .eq 9, 3) := by decide +kernel
theorem e_Letter_sum_62 : decode m_Letter_sum.2.1 62 = .ok (.sipush 16384, 3) := by decide +kernel
theorem e_Letter_sum_65 : decode m_Letter_sum.2.1 65 = .ok (.goto 4, 3) := by decide +kernel
theorem e_Letter_sum_68 : decode m_Letter_sum.2.1 68 = .ok (.iconst 0, 1) := by decide +kernel
theorem e_Letter_sum_69 : decode m_Letter_sum.2.1 69 = .ok (.iadd, 1) := by decide +kernel
theorem e_Letter_sum_70 : decode m_Letter_sum.2.1 70 = .ok (.ireturn, 1) := by decide +kernel
theorem e_Mail_init_0 : decode m_Mail_init.2.1 0 = .ok (.aload_n 0, 1) := by decide +kernel
theorem e_Mail_init_1 : decode m_Mail_init.2.1 1 = .ok (.invokespecial 3, 3) := by decide +kernel
theorem e_Mail_init_4 : decode m_Mail_init.2.1 4 = .ok (.aload_n 0, 1) := by decide +kernel
theorem e_Mail_init_5 : decode m_Mail_init.2.1 5 = .ok (.new 9, 3) := by decide +kernel
theorem e_Mail_init_8 : decode m_Mail_init.2.1 8 = .ok (.dup, 1) := by decide +kernel
theorem e_Mail_init_9 : decode m_Mail_init.2.1 9 = .ok (.invokespecial 11, 3) := by decide +kernel
theorem e_Mail_init_12 : decode m_Mail_init.2.1 12 = .ok (.putfield 12, 3) := by decide +kernel
theorem e_Mail_init_15 : decode m_Mail_init.2.1 15 = .ok (.aload_n 0, 1) := by decide +kernel
theorem e_Mail_init_16 : decode m_Mail_init.2.1 16 = .ok (.new 9, 3) := by decide +kernel
theorem e_Mail_init_19 : decode m_Mail_init.2.1 19 = .ok (.dup, 1) := by decide +kernel
theorem e_Mail_init_20 : decode m_Mail_init.2.1 20 = .ok (.invokespecial 11, 3) := by decide +kernel
theorem e_Mail_init_23 : decode m_Mail_init.2.1 23 = .ok (.putfield 18, 3) := by decide +kernel
theorem e_Mail_init_26 : decode m_Mail_init.2.1 26 = .ok (.return_, 1) := by decide +kernel
theorem e_Mail_size_0 : decode m_Mail_size.2.1 0 = .ok (.aload_n 0, 1) := by decide +kernel
theorem e_Mail_size_1 : decode m_Mail_size.2.1 1 = .ok (.getfield 12, 3) := by decide +kernel
theorem e_Mail_size_4 : decode m_Mail_size.2.1 4 = .ok (.invokevirtual 21, 3) := by decide +kernel
theorem e_Mail_size_7 : decode m_Mail_size.2.1 7 = .ok (.ireturn, 1) := by decide +kernel
theorem e_Mail_has_0 : decode m_Mail_has.2.1 0 = .ok (.iload_n 1, 1) := by decide +kernel
theorem e_Mail_has_1 : decode m_Mail_has.2.1 1 = .ok (.ifCond .lt 18, 3) := by decide +kernel
theorem e_Mail_has_4 : decode m_Mail_has.2.1 4 = .ok (.iload_n 1, 1) := by decide +kernel
theorem e_Mail_has_5 : decode m_Mail_has.2.1 5 = .ok (.aload_n 0, 1) := by decide +kernel
theorem e_Mail_has_6 : decode m_Mail_has.2.1 6 = .ok (.getfield 12, 3) := by decide +kernel
theorem e_Mail_has_9 : decode m_Mail_has.2.1 9 = .ok (.invokevirtual 21, 3) := by decide +kernel
theorem e_Mail_has_12 : decode m_Mail_has.2.1 12 = .ok (.if_icmp .ge 7, 3) := by decide +kernel
theorem e_Mail_has_15 : decode m_Mail_has.2.1 15 = .ok (.iconst 1, 1) := by decide +kernel
theorem e_Mail_has_16 : decode m_Mail_has.2.1 16 = .ok (.goto 4, 3) := by decide +kernel
theorem e_Mail_has_19 : decode m_Mail_has.2.1 19 = .ok (.iconst 0, 1) := by decide +kernel
theorem e_Mail_has_20 : decode m_Mail_has.2.1 20 = .ok (.ireturn, 1) := by decide +kernel
theorem e_Mail_at_0 : decode m_Mail_at.2.1 0 = .ok (.aload_n 0, 1) := by decide +kernel
theorem e_Mail_at_1 : decode m_Mail_at.2.1 1 = .ok (.getfield 12, 3) := by decide +kernel
theorem e_Mail_at_4 : decode m_Mail_at.2.1 4 = .ok (.iload_n 1, 1) := by decide +kernel
theorem e_Mail_at_5 : decode m_Mail_at.2.1 5 = .ok (.invokevirtual 25, 3) := by decide +kernel
theorem e_Mail_at_8 : decode m_Mail_at.2.1 8 = .ok (.checkcast 29, 3) := by decide +kernel
theorem e_Mail_at_11 : decode m_Mail_at.2.1 11 = .ok (.areturn, 1) := by decide +kernel
theorem e_Mail_take_0 : decode m_Mail_take.2.1 0 = .ok (.aload_n 0, 1) := by decide +kernel
theorem e_Mail_take_1 : decode m_Mail_take.2.1 1 = .ok (.getfield 12, 3) := by decide +kernel
theorem e_Mail_take_4 : decode m_Mail_take.2.1 4 = .ok (.iload_n 1, 1) := by decide +kernel
theorem e_Mail_take_5 : decode m_Mail_take.2.1 5 = .ok (.invokevirtual 31, 3) := by decide +kernel
theorem e_Mail_take_8 : decode m_Mail_take.2.1 8 = .ok (.checkcast 29, 3) := by decide +kernel
theorem e_Mail_take_11 : decode m_Mail_take.2.1 11 = .ok (.areturn, 1) := by decide +kernel
theorem e_Mail_giveBack_0 : decode m_Mail_giveBack.2.1 0 = .ok (.aload_n 0, 1) := by decide +kernel
theorem e_Mail_giveBack_1 : decode m_Mail_giveBack.2.1 1 = .ok (.getfield 18, 3) := by decide +kernel
theorem e_Mail_giveBack_4 : decode m_Mail_giveBack.2.1 4 = .ok (.aload_n 1, 1) := by decide +kernel
theorem e_Mail_giveBack_5 : decode m_Mail_giveBack.2.1 5 = .ok (.invokevirtual 34, 3) := by decide +kernel
theorem e_Mail_giveBack_8 : decode m_Mail_giveBack.2.1 8 = .ok (.pop, 1) := by decide +kernel
theorem e_Mail_giveBack_9 : decode m_Mail_giveBack.2.1 9 = .ok (.return_, 1) := by decide +kernel
theorem e_Mail_send_0 : decode m_Mail_send.2.1 0 = .ok (.iload_n 1, 1) := by decide +kernel
theorem e_Mail_send_1 : decode m_Mail_send.2.1 1 = .ok (.iconst 3, 1) := by decide +kernel
theorem e_Mail_send_2 : decode m_Mail_send.2.1 2 = .ok (.if_icmp .eq 12, 3) := by decide +kernel
theorem e_Mail_send_5 : decode m_Mail_send.2.1 5 = .ok (.aload_n 0, 1) := by decide +kernel
theorem e_Mail_send_6 : decode m_Mail_send.2.1 6 = .ok (.iload_n 1, 1) := by decide +kernel
theorem e_Mail_send_7 : decode m_Mail_send.2.1 7 = .ok (.iload_n 2, 1) := by decide +kernel
theorem e_Mail_send_8 : decode m_Mail_send.2.1 8 = .ok (.iload_n 3, 1) := by decide +kernel
theorem e_Mail_send_9 : decode m_Mail_send.2.1 9 = .ok (.iload 4, 2) := by decide +kernel
theorem e_Mail_send_11 : decode m_Mail_send.2.1 11 = .ok (.invokevirtual 38, 3) := by decide +kernel
theorem e_Mail_send_14 : decode m_Mail_send.2.1 14 = .ok (.aload_n 0, 1) := by decide +kernel
theorem e_Mail_send_15 : decode m_Mail_send.2.1 15 = .ok (.getfield 18, 3) := by decide +kernel
theorem e_Mail_send_18 : decode m_Mail_send.2.1 18 = .ok (.invokevirtual 42, 3) := by decide +kernel
theorem e_Mail_send_21 : decode m_Mail_send.2.1 21 = .ok (.ifCond .eq 13, 3) := by decide +kernel
theorem e_Mail_send_24 : decode m_Mail_send.2.1 24 = .ok (.new 29, 3) := by decide +kernel
theorem e_Mail_send_27 : decode m_Mail_send.2.1 27 = .ok (.dup, 1) := by decide +kernel
theorem e_Mail_send_28 : decode m_Mail_send.2.1 28 = .ok (.invokespecial 46, 3) := by decide +kernel
theorem e_Mail_send_31 : decode m_Mail_send.2.1 31 = .ok (.goto 22, 3) := by decide +kernel
theorem e_Mail_send_34 : decode m_Mail_send.2.1 34 = .ok (.aload_n 0, 1) := by decide +kernel
theorem e_Mail_send_35 : decode m_Mail_send.2.1 35 = .ok (.getfield 18, 3) := by decide +kernel
theorem e_Mail_send_38 : decode m_Mail_send.2.1 38 = .ok (.aload_n 0, 1) := by decide +kernel
theorem e_Mail_send_39 : decode m_Mail_send.2.1 39 = .ok (.getfield 18, 3) := by decide +kernel
theorem e_Mail_send_42 : decode m_Mail_send.2.1 42 = .ok (.invokevirtual 21, 3) := by decide +kernel
theorem e_Mail_send_45 : decode m_Mail_send.2.1 45 = .ok (.iconst 1, 1) := by decide +kernel
theorem e_Mail_send_46 : decode m_Mail_send.2.1 46 = .ok (.isub, 1) := by decide +kernel
theorem e_Mail_send_47 : decode m_Mail_send.2.1 47 = .ok (.invokevirtual 31, 3) := by decide +kernel
theorem e_Mail_send_50 : decode m_Mail_send.2.1 50 = .ok (.checkcast 29, 3) := by decide +kernel
theorem e_Mail_send_53 : decode m_Mail_send.2.1 53 = .ok (.astore 5, 2) := by decide +kernel
theorem e_Mail_send_55 : decode m_Mail_send.2.1 55 = .ok (.aload 5, 2) := by decide +kernel
theorem e_Mail_send_57 : decode m_Mail_send.2.1 57 = .ok (.iload_n 1, 1) := by decide +kernel
theorem e_Mail_send_58 : decode m_Mail_send.2.1 58 = .ok (.iload_n 2, 1) := by decide +kernel
theorem e_Mail_send_59 : decode m_Mail_send.2.1 59 = .ok (.iload_n 3, 1) := by decide +kernel
theorem e_Mail_send_60 : decode m_Mail_send.2.1 60 = .ok (.iload 4, 2) := by decide +kernel
theorem e_Mail_send_62 : decode m_Mail_send.2.1 62 = .ok (.invokevirtual 47, 3) := by decide +kernel
theorem e_Mail_send_65 : decode m_Mail_send.2.1 65 = .ok (.aload_n 0, 1) := by decide +kernel
theorem e_Mail_send_66 : decode m_Mail_send.2.1 66 = .ok (.getfield 12, 3) := by decide +kernel
theorem e_Mail_send_69 : decode m_Mail_send.2.1 69 = .ok (.aload 5, 2) := by decide +kernel
theorem e_Mail_send_71 : decode m_Mail_send.2.1 71 = .ok (.invokevirtual 34, 3) := by decide +kernel
theorem e_Mail_send_74 : decode m_Mail_send.2.1 74 = .ok (.pop, 1) := by decide +kernel
theorem e_Mail_send_75 : decode m_Mail_send.2.1 75 = .ok (.aload 5, 2) := by decide +kernel
theorem e_Mail_send_77 : decode m_Mail_send.2.1 77 = .ok (.areturn, 1) := by decide +kernel
theorem e_Mail_dropOlder_0 : decode m_Mail_dropOlder.2.1 0 = .ok (.iconst 0, 1) := by decide +kernel
theorem e_Mail_dropOlder_1 : decode m_Mail_dropOlder.2.1 1 = .ok (.istore 5, 2) := by decide +kernel
theorem e_Mail_dropOlder_3 : decode m_Mail_dropOlder.2.1 3 = .ok (.iload 5, 2) := by decide +kernel
theorem e_Mail_dropOlder_5 : decode m_Mail_dropOlder.2.1 5 = .ok (.aload_n 0, 1) := by decide +kernel
theorem e_Mail_dropOlder_6 : decode m_Mail_dropOlder.2.1 6 = .ok (.getfield 12, 3) := by decide +kernel
theorem e_Mail_dropOlder_9 : decode m_Mail_dropOlder.2.1 9 = .ok (.invokevirtual 21, 3) := by decide +kernel
theorem e_Mail_dropOlder_12 : decode m_Mail_dropOlder.2.1 12 = .ok (.if_icmp .ge 53, 3) := by decide +kernel
theorem e_Mail_dropOlder_15 : decode m_Mail_dropOlder.2.1 15 = .ok (.aload_n 0, 1) := by decide +kernel
theorem e_Mail_dropOlder_16 : decode m_Mail_dropOlder.2.1 16 = .ok (.getfield 12, 3) := by decide +kernel
theorem e_Mail_dropOlder_19 : decode m_Mail_dropOlder.2.1 19 = .ok (.iload 5, 2) := by decide +kernel
theorem e_Mail_dropOlder_21 : decode m_Mail_dropOlder.2.1 21 = .ok (.invokevirtual 25, 3) := by decide +kernel
theorem e_Mail_dropOlder_24 : decode m_Mail_dropOlder.2.1 24 = .ok (.checkcast 29, 3) := by decide +kernel
theorem e_Mail_dropOlder_27 : decode m_Mail_dropOlder.2.1 27 = .ok (.iload_n 1, 1) := by decide +kernel
theorem e_Mail_dropOlder_28 : decode m_Mail_dropOlder.2.1 28 = .ok (.iload_n 2, 1) := by decide +kernel
theorem e_Mail_dropOlder_29 : decode m_Mail_dropOlder.2.1 29 = .ok (.iload_n 3, 1) := by decide +kernel
theorem e_Mail_dropOlder_30 : decode m_Mail_dropOlder.2.1 30 = .ok (.iload 4, 2) := by decide +kernel
theorem e_Mail_dropOlder_32 : decode m_Mail_dropOlder.2.1 32 = .ok (.invokevirtual 50, 3) := by decide +kernel
theorem e_Mail_dropOlder_35 : decode m_Mail_dropOlder.2.1 35 = .ok (.ifCond .eq 24, 3) := by decide +kernel
theorem e_Mail_dropOlder_38 : decode m_Mail_dropOlder.2.1 38 = .ok (.aload_n 0, 1) := by decide +kernel
theorem e_Mail_dropOlder_39 : decode m_Mail_dropOlder.2.1 39 = .ok (.getfield 18, 3) := by decide +kernel
theorem e_Mail_dropOlder_42 : decode m_Mail_dropOlder.2.1 42 = .ok (.aload_n 0, 1) := by decide +kernel
theorem e_Mail_dropOlder_43 : decode m_Mail_dropOlder.2.1 43 = .ok (.getfield 12, 3) := by decide +kernel
theorem e_Mail_dropOlder_46 : decode m_Mail_dropOlder.2.1 46 = .ok (.iload 5, 2) := by decide +kernel
theorem e_Mail_dropOlder_48 : decode m_Mail_dropOlder.2.1 48 = .ok (.invokevirtual 31, 3) := by decide +kernel
theorem e_Mail_dropOlder_51 : decode m_Mail_dropOlder.2.1 51 = .ok (.checkcast 29, 3) := by decide +kernel
theorem e_Mail_dropOlder_54 : decode m_Mail_dropOlder.2.1 54 = .ok (.invokevirtual 34, 3) := by decide +kernel
theorem e_Mail_dropOlder_57 : decode m_Mail_dropOlder.2.1 57 = .ok (.pop, 1) := by decide +kernel
theorem e_Mail_dropOlder_58 : decode m_Mail_dropOlder.2.1 58 = .ok (.return_, 1) := by decide +kernel
theorem e_Mail_dropOlder_59 : decode m_Mail_dropOlder.2.1 59 = .ok (.iinc 5 1, 3) := by decide +kernel
theorem e_Mail_dropOlder_62 : decode m_Mail_dropOlder.2.1 62 = .ok (.goto (-59), 3) := by decide +kernel
theorem e_Mail_dropOlder_65 : decode m_Mail_dropOlder.2.1 65 = .ok (.return_, 1) := by decide +kernel
theorem e_Req_init_0 : decode m_Req_init.2.1 0 = .ok (.aload_n 0, 1) := by decide +kernel
theorem e_Req_init_1 : decode m_Req_init.2.1 1 = .ok (.invokespecial 1, 3) := by decide +kernel
theorem e_Req_init_4 : decode m_Req_init.2.1 4 = .ok (.aload_n 0, 1) := by decide +kernel
theorem e_Req_init_5 : decode m_Req_init.2.1 5 = .ok (.iload_n 1, 1) := by decide +kernel
theorem e_Req_init_6 : decode m_Req_init.2.1 6 = .ok (.putfield 7, 3) := by decide +kernel
theorem e_Req_init_9 : decode m_Req_init.2.1 9 = .ok (.aload_n 0, 1) := by decide +kernel
theorem e_Req_init_10 : decode m_Req_init.2.1 10 = .ok (.iload_n 2, 1) := by decide +kernel
theorem e_Req_init_11 : decode m_Req_init.2.1 11 = .ok (.putfield 13, 3) := by decide +kernel
theorem e_Req_init_14 : decode m_Req_init.2.1 14 = .ok (.aload_n 0, 1) := by decide +kernel
theorem e_Req_init_15 : decode m_Req_init.2.1 15 = .ok (.iload_n 3, 1) := by decide +kernel
theorem e_Req_init_16 : decode m_Req_init.2.1 16 = .ok (.putfield 16, 3) := by decide +kernel
theorem e_Req_init_19 : decode m_Req_init.2.1 19 = .ok (.return_, 1) := by decide +kernel
theorem e_Req_isOf_0 : decode m_Req_isOf.2.1 0 = .ok (.aload_n 0, 1) := by decide +kernel
theorem e_Req_isOf_1 : decode m_Req_isOf.2.1 1 = .ok (.getfield 7, 3) := by decide +kernel
theorem e_Req_isOf_4 : decode m_Req_isOf.2.1 4 = .ok (.iload_n 1, 1) := by decide +kernel
theorem e_Req_isOf_5 : decode m_Req_isOf.2.1 5 = .ok (.if_icmp .ne 15, 3) := by decide +kernel
theorem e_Req_isOf_8 : decode m_Req_isOf.2.1 8 = .ok (.aload_n 0, 1) := by decide +kernel
theorem e_Req_isOf_9 : decode m_Req_isOf.2.1 9 = .ok (.getfield 13, 3) := by decide +kernel
theorem e_Req_isOf_12 : decode m_Req_isOf.2.1 12 = .ok (.iload_n 2, 1) := by decide +kernel
theorem e_Req_isOf_13 : decode m_Req_isOf.2.1 13 = .ok (.if_icmp .gt 7, 3) := by decide +kernel
theorem e_Req_isOf_16 : decode m_Req_isOf.2.1 16 = .ok (.iconst 1, 1) := by decide +kernel
theorem e_Req_isOf_17 : decode m_Req_isOf.2.1 17 = .ok (.goto 4, 3) := by decide +kernel
theorem e_Req_isOf_20 : decode m_Req_isOf.2.1 20 = .ok (.iconst 0, 1) := by decide +kernel
theorem e_Req_isOf_21 : decode m_Req_isOf.2.1 21 = .ok (.ireturn, 1) := by decide +kernel
theorem e_Share_init_0 : decode m_Share_init.2.1 0 = .ok (.aload_n 0, 1) := by decide +kernel
theorem e_Share_init_1 : decode m_Share_init.2.1 1 = .ok (.invokespecial 3, 3) := by decide +kernel
theorem e_Share_init_4 : decode m_Share_init.2.1 4 = .ok (.aload_n 0, 1) := by decide +kernel
theorem e_Share_init_5 : decode m_Share_init.2.1 5 = .ok (.iconst (-1), 1) := by decide +kernel
theorem e_Share_init_6 : decode m_Share_init.2.1 6 = .ok (.putfield 9, 3) := by decide +kernel
theorem e_Share_init_9 : decode m_Share_init.2.1 9 = .ok (.return_, 1) := by decide +kernel
theorem e_Share_gain_0 : decode m_Share_gain.2.1 0 = .ok (.aload_n 0, 1) := by decide +kernel
theorem e_Share_gain_1 : decode m_Share_gain.2.1 1 = .ok (.dup, 1) := by decide +kernel
theorem e_Share_gain_2 : decode m_Share_gain.2.1 2 = .ok (.getfield 15, 3) := by decide +kernel
theorem e_Share_gain_5 : decode m_Share_gain.2.1 5 = .ok (.aload_n 1, 1) := by decide +kernel
theorem e_Share_gain_6 : decode m_Share_gain.2.1 6 = .ok (.getfield 18, 3) := by decide +kernel
theorem e_Share_gain_9 : decode m_Share_gain.2.1 9 = .ok (.iadd, 1) := by decide +kernel
theorem e_Share_gain_10 : decode m_Share_gain.2.1 10 = .ok (.putfield 15, 3) := by decide +kernel
theorem e_Share_gain_13 : decode m_Share_gain.2.1 13 = .ok (.aload_n 0, 1) := by decide +kernel
theorem e_Share_gain_14 : decode m_Share_gain.2.1 14 = .ok (.aload_n 0, 1) := by decide +kernel
theorem e_Share_gain_15 : decode m_Share_gain.2.1 15 = .ok (.getfield 21, 3) := by decide +kernel
theorem e_Share_gain_18 : decode m_Share_gain.2.1 18 = .ok (.ifCond .ne 10, 3) := by decide +kernel
theorem e_Share_gain_21 : decode m_Share_gain.2.1 21 = .ok (.aload_n 1, 1) := by decide +kernel
theorem e_Share_gain_22 : decode m_Share_gain.2.1 22 = .ok (.getfield 25, 3) := by decide +kernel
theorem e_Share_gain_25 : decode m_Share_gain.2.1 25 = .ok (.ifCond .eq 7, 3) := by decide +kernel
theorem e_Share_gain_28 : decode m_Share_gain.2.1 28 = .ok (.iconst 1, 1) := by decide +kernel
theorem e_Share_gain_29 : decode m_Share_gain.2.1 29 = .ok (.goto 4, 3) := by decide +kernel
theorem e_Share_gain_32 : decode m_Share_gain.2.1 32 = .ok (.iconst 0, 1) := by decide +kernel
theorem e_Share_gain_33 : decode m_Share_gain.2.1 33 = .ok (.putfield 21, 3) := by decide +kernel
theorem e_Share_gain_36 : decode m_Share_gain.2.1 36 = .ok (.aload_n 1, 1) := by decide +kernel
theorem e_Share_gain_37 : decode m_Share_gain.2.1 37 = .ok (.getfield 26, 3) := by decide +kernel
theorem e_Share_gain_40 : decode m_Share_gain.2.1 40 = .ok (.ifCond .eq 16, 3) := by decide +kernel
theorem e_Share_gain_43 : decode m_Share_gain.2.1 43 = .ok (.aload_n 0, 1) := by decide +kernel
theorem e_Share_gain_44 : decode m_Share_gain.2.1 44 = .ok (.iconst 1, 1) := by decide +kernel
theorem e_Share_gain_45 : decode m_Share_gain.2.1 45 = .ok (.putfield 29, 3) := by decide +kernel
theorem e_Share_gain_48 : decode m_Share_gain.2.1 48 = .ok (.aload_n 0, 1) := by decide +kernel
theorem e_Share_gain_49 : decode m_Share_gain.2.1 49 = .ok (.aload_n 1, 1) := by decide +kernel
theorem e_Share_gain_50 : decode m_Share_gain.2.1 50 = .ok (.getfield 32, 3) := by decide +kernel
theorem e_Share_gain_53 : decode m_Share_gain.2.1 53 = .ok (.putfield 35, 3) := by decide +kernel
theorem e_Share_gain_56 : decode m_Share_gain.2.1 56 = .ok (.return_, 1) := by decide +kernel
theorem e_Share_lose_0 : decode m_Share_lose.2.1 0 = .ok (.aload_n 0, 1) := by decide +kernel
theorem e_Share_lose_1 : decode m_Share_lose.2.1 1 = .ok (.dup, 1) := by decide +kernel
theorem e_Share_lose_2 : decode m_Share_lose.2.1 2 = .ok (.getfield 15, 3) := by decide +kernel
theorem e_Share_lose_5 : decode m_Share_lose.2.1 5 = .ok (.iload_n 1, 1) := by decide +kernel
theorem e_Share_lose_6 : decode m_Share_lose.2.1 6 = .ok (.isub, 1) := by decide +kernel
theorem e_Share_lose_7 : decode m_Share_lose.2.1 7 = .ok (.putfield 15, 3) := by decide +kernel
theorem e_Share_lose_10 : decode m_Share_lose.2.1 10 = .ok (.aload_n 0, 1) := by decide +kernel
theorem e_Share_lose_11 : decode m_Share_lose.2.1 11 = .ok (.aload_n 0, 1) := by decide +kernel
theorem e_Share_lose_12 : decode m_Share_lose.2.1 12 = .ok (.getfield 21, 3) := by decide +kernel
theorem e_Share_lose_15 : decode m_Share_lose.2.1 15 = .ok (.ifCond .eq 11, 3) := by decide +kernel
theorem e_Share_lose_18 : decode m_Share_lose.2.1 18 = .ok (.iload_n 2, 1) := by decide +kernel
theorem e_Share_lose_19 : decode m_Share_lose.2.1 19 = .ok (.ifCond .ne 7, 3) := by decide +kernel
theorem e_Share_lose_22 : decode m_Share_lose.2.1 22 = .ok (.iconst 1, 1) := by decide +kernel
theorem e_Share_lose_23 : decode m_Share_lose.2.1 23 = .ok (.goto 4, 3) := by decide +kernel
theorem e_Share_lose_26 : decode m_Share_lose.2.1 26 = .ok (.iconst 0, 1) := by decide +kernel
theorem e_Share_lose_27 : decode m_Share_lose.2.1 27 = .ok (.putfield 21, 3) := by decide +kernel
theorem e_Share_lose_30 : decode m_Share_lose.2.1 30 = .ok (.aload_n 0, 1) := by decide +kernel
theorem e_Share_lose_31 : decode m_Share_lose.2.1 31 = .ok (.aload_n 0, 1) := by decide +kernel
theorem e_Share_lose_32 : decode m_Share_lose.2.1 32 = .ok (.getfield 29, 3) := by decide +kernel
theorem e_Share_lose_35 : decode m_Share_lose.2.1 35 = .ok (.ifCond .eq 14, 3) := by decide +kernel
theorem e_Share_lose_38 : decode m_Share_lose.2.1 38 = .ok (.aload_n 0, 1) := by decide +kernel
theorem e_Share_lose_39 : decode m_Share_lose.2.1 39 = .ok (.getfield 15, 3) := by decide +kernel
theorem e_Share_lose_42 : decode m_Share_lose.2.1 42 = .ok (.ifCond .le 7, 3) := by decide +kernel
theorem e_Share_lose_45 : decode m_Share_lose.2.1 45 = .ok (.iconst 1, 1) := by decide +kernel
theorem e_Share_lose_46 : decode m_Share_lose.2.1 46 = .ok (.goto 4, 3) := by decide +kernel
theorem e_Share_lose_49 : decode m_Share_lose.2.1 49 = .ok (.iconst 0, 1) := by decide +kernel
theorem e_Share_lose_50 : decode m_Share_lose.2.1 50 = .ok (.putfield 29, 3) := by decide +kernel
theorem e_Share_lose_53 : decode m_Share_lose.2.1 53 = .ok (.return_, 1) := by decide +kernel
theorem e_Share_learn_0 : decode m_Share_learn.2.1 0 = .ok (.aload_n 0, 1) := by decide +kernel
theorem e_Share_learn_1 : decode m_Share_learn.2.1 1 = .ok (.iload_n 1, 1) := by decide +kernel
theorem e_Share_learn_2 : decode m_Share_learn.2.1 2 = .ok (.putfield 9, 3) := by decide +kernel
theorem e_Share_learn_5 : decode m_Share_learn.2.1 5 = .ok (.aload_n 0, 1) := by decide +kernel
theorem e_Share_learn_6 : decode m_Share_learn.2.1 6 = .ok (.iload_n 2, 1) := by decide +kernel
theorem e_Share_learn_7 : decode m_Share_learn.2.1 7 = .ok (.putfield 36, 3) := by decide +kernel
theorem e_Share_learn_10 : decode m_Share_learn.2.1 10 = .ok (.aload_n 0, 1) := by decide +kernel
theorem e_Share_learn_11 : decode m_Share_learn.2.1 11 = .ok (.iload_n 3, 1) := by decide +kernel
theorem e_Share_learn_12 : decode m_Share_learn.2.1 12 = .ok (.putfield 39, 3) := by decide +kernel
theorem e_Share_learn_15 : decode m_Share_learn.2.1 15 = .ok (.return_, 1) := by decide +kernel
theorem e_TM_init_0 : decode m_TM_init.2.1 0 = .ok (.aload_n 0, 1) := by decide +kernel
theorem e_TM_init_1 : decode m_TM_init.2.1 1 = .ok (.invokespecial 1, 3) := by decide +kernel
theorem e_TM_init_4 : decode m_TM_init.2.1 4 = .ok (.aload_n 0, 1) := by decide +kernel
theorem e_TM_init_5 : decode m_TM_init.2.1 5 = .ok (.iload_n 1, 1) := by decide +kernel
theorem e_TM_init_6 : decode m_TM_init.2.1 6 = .ok (.iconst 2, 1) := by decide +kernel
theorem e_TM_init_7 : decode m_TM_init.2.1 7 = .ok (.iconst 4, 1) := by decide +kernel
theorem e_TM_init_8 : decode m_TM_init.2.1 8 = .ok (.invokestatic 7, 3) := by decide +kernel
theorem e_TM_init_11 : decode m_TM_init.2.1 11 = .ok (.putfield 13, 3) := by decide +kernel
theorem e_TM_init_14 : decode m_TM_init.2.1 14 = .ok (.aload_n 0, 1) := by decide +kernel
theorem e_TM_init_15 : decode m_TM_init.2.1 15 = .ok (.iload_n 2, 1) := by decide +kernel
theorem e_TM_init_16 : decode m_TM_init.2.1 16 = .ok (.iconst 0, 1) := by decide +kernel
theorem e_TM_init_17 : decode m_TM_init.2.1 17 = .ok (.iconst 4, 1) := by decide +kernel
theorem e_TM_init_18 : decode m_TM_init.2.1 18 = .ok (.invokestatic 7, 3) := by decide +kernel
theorem e_TM_init_21 : decode m_TM_init.2.1 21 = .ok (.putfield 17, 3) := by decide +kernel
theorem e_TM_init_24 : decode m_TM_init.2.1 24 = .ok (.aload_n 0, 1) := by decide +kernel
theorem e_TM_init_25 : decode m_TM_init.2.1 25 = .ok (.iload_n 3, 1) := by decide +kernel
theorem e_TM_init_26 : decode m_TM_init.2.1 26 = .ok (.iconst 1, 1) := by decide +kernel
theorem e_TM_init_27 : decode m_TM_init.2.1 27 = .ok (.bipush 20, 2) := by decide +kernel
theorem e_TM_init_29 : decode m_TM_init.2.1 29 = .ok (.invokestatic 7, 3) := by decide +kernel
theorem e_TM_init_32 : decode m_TM_init.2.1 32 = .ok (.putfield 20, 3) := by decide +kernel
theorem e_TM_init_35 : decode m_TM_init.2.1 35 = .ok (.aload_n 0, 1) := by decide +kernel
theorem e_TM_init_36 : decode m_TM_init.2.1 36 = .ok (.aload_n 0, 1) := by decide +kernel
theorem e_TM_init_37 : decode m_TM_init.2.1 37 = .ok (.getfield 13, 3) := by decide +kernel
theorem e_TM_init_40 : decode m_TM_init.2.1 40 = .ok (.putfield 23, 3) := by decide +kernel
theorem e_TM_init_43 : decode m_TM_init.2.1 43 = .ok (.aload_n 0, 1) := by decide +kernel
theorem e_TM_init_44 : decode m_TM_init.2.1 44 = .ok (.aload_n 0, 1) := by decide +kernel
theorem e_TM_init_45 : decode m_TM_init.2.1 45 = .ok (.getfield 13, 3) := by decide +kernel
theorem e_TM_init_48 : decode m_TM_init.2.1 48 = .ok (.iconst 1, 1) := by decide +kernel
theorem e_TM_init_49 : decode m_TM_init.2.1 49 = .ok (.iadd, 1) := by decide +kernel
theorem e_TM_init_50 : decode m_TM_init.2.1 50 = .ok (.putfield 26, 3) := by decide +kernel
theorem e_TM_init_53 : decode m_TM_init.2.1 53 = .ok (.aload_n 0, 1) := by decide +kernel
theorem e_TM_init_54 : decode m_TM_init.2.1 54 = .ok (.aload_n 0, 1) := by decide +kernel
theorem e_TM_init_55 : decode m_TM_init.2.1 55 = .ok (.getfield 13, 3) := by decide +kernel
theorem e_TM_init_58 : decode m_TM_init.2.1 58 = .ok (.iconst 1, 1) := by decide +kernel
theorem e_TM_init_59 : decode m_TM_init.2.1 59 = .ok (.iadd, 1) := by decide +kernel
theorem e_TM_init_60 : decode m_TM_init.2.1 60 = .ok (.iconst 2, 1) := by decide +kernel
theorem e_TM_init_61 : decode m_TM_init.2.1 61 = .ok (.imul, 1) := by decide +kernel
theorem e_TM_init_62 : decode m_TM_init.2.1 62 = .ok (.anewarray 29, 3) := by decide +kernel
theorem e_TM_init_65 : decode m_TM_init.2.1 65 = .ok (.putfield 31, 3) := by decide +kernel
theorem e_TM_init_68 : decode m_TM_init.2.1 68 = .ok (.iconst 0, 1) := by decide +kernel
theorem e_TM_init_69 : decode m_TM_init.2.1 69 = .ok (.istore 4, 2) := by decide +kernel
theorem e_TM_init_71 : decode m_TM_init.2.1 71 = .ok (.iload 4, 2) := by decide +kernel
theorem e_TM_init_73 : decode m_TM_init.2.1 73 = .ok (.aload_n 0, 1) := by decide +kernel
theorem e_TM_init_74 : decode m_TM_init.2.1 74 = .ok (.getfield 31, 3) := by decide +kernel
theorem e_TM_init_77 : decode m_TM_init.2.1 77 = .ok (.arraylength, 1) := by decide +kernel
theorem e_TM_init_78 : decode m_TM_init.2.1 78 = .ok (.if_icmp .ge 23, 3) := by decide +kernel
theorem e_TM_init_81 : decode m_TM_init.2.1 81 = .ok (.aload_n 0, 1) := by decide +kernel
theorem e_TM_init_82 : decode m_TM_init.2.1 82 = .ok (.getfield 31, 3) := by decide +kernel
theorem e_TM_init_85 : decode m_TM_init.2.1 85 = .ok (.iload 4, 2) := by decide +kernel
theorem e_TM_init_87 : decode m_TM_init.2.1 87 = .ok (.new 29, 3) := by decide +kernel
theorem e_TM_init_90 : decode m_TM_init.2.1 90 = .ok (.dup, 1) := by decide +kernel
theorem e_TM_init_91 : decode m_TM_init.2.1 91 = .ok (.invokespecial 35, 3) := by decide +kernel
theorem e_TM_init_94 : decode m_TM_init.2.1 94 = .ok (.aastore, 1) := by decide +kernel
theorem e_TM_init_95 : decode m_TM_init.2.1 95 = .ok (.iinc 4 1, 3) := by decide +kernel
theorem e_TM_init_98 : decode m_TM_init.2.1 98 = .ok (.goto (-27), 3) := by decide +kernel
theorem e_TM_init_101 : decode m_TM_init.2.1 101 = .ok (.aload_n 0, 1) := by decide +kernel
theorem e_TM_init_102 : decode m_TM_init.2.1 102 = .ok (.aload_n 0, 1) := by decide +kernel
theorem e_TM_init_103 : decode m_TM_init.2.1 103 = .ok (.getfield 13, 3) := by decide +kernel
theorem e_TM_init_106 : decode m_TM_init.2.1 106 = .ok (.anewarray 36, 3) := by decide +kernel
theorem e_TM_init_109 : decode m_TM_init.2.1 109 = .ok (.putfield 38, 3) := by decide +kernel
theorem e_TM_init_112 : decode m_TM_init.2.1 112 = .ok (.iconst 0, 1) := by decide +kernel
theorem e_TM_init_113 : decode m_TM_init.2.1 113 = .ok (.istore 4, 2) := by decide +kernel
theorem e_TM_init_115 : decode m_TM_init.2.1 115 = .ok (.iload 4, 2) := by decide +kernel
theorem e_TM_init_117 : decode m_TM_init.2.1 117 = .ok (.aload_n 0, 1) := by decide +kernel
theorem e_TM_init_118 : decode m_TM_init.2.1 118 = .ok (.getfield 38, 3) := by decide +kernel
theorem e_TM_init_121 : decode m_TM_init.2.1 121 = .ok (.arraylength, 1) := by decide +kernel
theorem e_TM_init_122 : decode m_TM_init.2.1 122 = .ok (.if_icmp .ge 23, 3) := by decide +kernel
theorem e_TM_init_125 : decode m_TM_init.2.1 125 = .ok (.aload_n 0, 1) := by decide +kernel
theorem e_TM_init_126 : decode m_TM_init.2.1 126 = .ok (.getfield 38, 3) := by decide +kernel
theorem e_TM_init_129 : decode m_TM_init.2.1 129 = .ok (.iload 4, 2) := by decide +kernel
theorem e_TM_init_131 : decode m_TM_init.2.1 131 = .ok (.new 36, 3) := by decide +kernel
theorem e_TM_init_134 : decode m_TM_init.2.1 134 = .ok (.dup, 1) := by decide +kernel
theorem e_TM_init_135 : decode m_TM_init.2.1 135 = .ok (.invokespecial 42, 3) := by decide +kernel
theorem e_TM_init_138 : decode m_TM_init.2.1 138 = .ok (.aastore, 1) := by decide +kernel
theorem e_TM_init_139 : decode m_TM_init.2.1 139 = .ok (.iinc 4 1, 3) := by decide +kernel
theorem e_TM_init_142 : decode m_TM_init.2.1 142 = .ok (.goto (-27), 3) := by decide +kernel
theorem e_TM_init_145 : decode m_TM_init.2.1 145 = .ok (.aload_n 0, 1) := by decide +kernel
theorem e_TM_init_146 : decode m_TM_init.2.1 146 = .ok (.aload_n 0, 1) := by decide +kernel
theorem e_TM_init_147 : decode m_TM_init.2.1 147 = .ok (.getfield 13, 3) := by decide +kernel
theorem e_TM_init_150 : decode m_TM_init.2.1 150 = .ok (.newarray .int, 2) := by decide +kernel
theorem e_TM_init_152 : decode m_TM_init.2.1 152 = .ok (.putfield 43, 3) := by decide +kernel
theorem e_TM_init_155 : decode m_TM_init.2.1 155 = .ok (.aload_n 0, 1) := by decide +kernel
theorem e_TM_init_156 : decode m_TM_init.2.1 156 = .ok (.iconst 2, 1) := by decide +kernel
theorem e_TM_init_157 : decode m_TM_init.2.1 157 = .ok (.anewarray 47, 3) := by decide +kernel
theorem e_TM_init_160 : decode m_TM_init.2.1 160 = .ok (.putfield 49, 3) := by decide +kernel
theorem e_TM_init_163 : decode m_TM_init.2.1 163 = .ok (.iconst 0, 1) := by decide +kernel
theorem e_TM_init_164 : decode m_TM_init.2.1 164 = .ok (.istore 4, 2) := by decide +kernel
theorem e_TM_init_166 : decode m_TM_init.2.1 166 = .ok (.iload 4, 2) := by decide +kernel
theorem e_TM_init_168 : decode m_TM_init.2.1 168 = .ok (.iconst 2, 1) := by decide +kernel
theorem e_TM_init_169 : decode m_TM_init.2.1 169 = .ok (.if_icmp .ge 60, 3) := by decide +kernel
theorem e_TM_init_172 : decode m_TM_init.2.1 172 = .ok (.aload_n 0, 1) := by decide +kernel
theorem e_TM_init_173 : decode m_TM_init.2.1 173 = .ok (.getfield 49, 3) := by decide +kernel
theorem e_TM_init_176 : decode m_TM_init.2.1 176 = .ok (.iload 4, 2) := by decide +kernel
theorem e_TM_init_178 : decode m_TM_init.2.1 178 = .ok (.new 47, 3) := by decide +kernel
theorem e_TM_init_181 : decode m_TM_init.2.1 181 = .ok (.dup, 1) := by decide +kernel
theorem e_TM_init_182 : decode m_TM_init.2.1 182 = .ok (.invokespecial 53, 3) := by decide +kernel
theorem e_TM_init_185 : decode m_TM_init.2.1 185 = .ok (.aastore, 1) := by decide +kernel
theorem e_TM_init_186 : decode m_TM_init.2.1 186 = .ok (.aload_n 0, 1) := by decide +kernel
theorem e_TM_init_187 : decode m_TM_init.2.1 187 = .ok (.getfield 31, 3) := by decide +kernel
theorem e_TM_init_190 : decode m_TM_init.2.1 190 = .ok (.aload_n 0, 1) := by decide +kernel
theorem e_TM_init_191 : decode m_TM_init.2.1 191 = .ok (.getfield 23, 3) := by decide +kernel
theorem e_TM_init_194 : decode m_TM_init.2.1 194 = .ok (.iconst 2, 1) := by decide +kernel
theorem e_TM_init_195 : decode m_TM_init.2.1 195 = .ok (.imul, 1) := by decide +kernel
theorem e_TM_init_196 : decode m_TM_init.2.1 196 = .ok (.iload 4, 2) := by decide +kernel
theorem e_TM_init_198 : decode m_TM_init.2.1 198 = .ok (.iadd, 1) := by decide +kernel
theorem e_TM_init_199 : decode m_TM_init.2.1 199 = .ok (.aaload, 1) := by decide +kernel
theorem e_TM_init_200 : decode m_TM_init.2.1 200 = .ok (.astore 5, 2) := by decide +kernel
theorem e_TM_init_202 : decode m_TM_init.2.1 202 = .ok (.aload 5, 2) := by decide +kernel
theorem e_TM_init_204 : decode m_TM_init.2.1 204 = .ok (.aload_n 0, 1) := by decide +kernel
theorem e_TM_init_205 : decode m_TM_init.2.1 205 = .ok (.getfield 26, 3) := by decide +kernel
theorem e_TM_init_208 : decode m_TM_init.2.1 208 = .ok (.putfield 54, 3) := by decide +kernel
theorem e_TM_init_211 : decode m_TM_init.2.1 211 = .ok (.aload 5, 2) := by decide +kernel
theorem e_TM_init_213 : decode m_TM_init.2.1 213 = .ok (.iconst 1, 1) := by decide +kernel
theorem e_TM_init_214 : decode m_TM_init.2.1 214 = .ok (.putfield 57, 3) := by decide +kernel
theorem e_TM_init_217 : decode m_TM_init.2.1 217 = .ok (.aload 5, 2) := by decide +kernel
theorem e_TM_init_219 : decode m_TM_init.2.1 219 = .ok (.iconst 1, 1) := by decide +kernel
theorem e_TM_init_220 : decode m_TM_init.2.1 220 = .ok (.putfield 61, 3) := by decide +kernel
theorem e_TM_init_223 : decode m_TM_init.2.1 223 = .ok (.iinc 4 1, 3) := by decide +kernel
theorem e_TM_init_226 : decode m_TM_init.2.1 226 = .ok (.goto (-60), 3) := by decide +kernel
theorem e_TM_init_229 : decode m_TM_init.2.1 229 = .ok (.aload_n 0, 1) := by decide +kernel
theorem e_TM_init_230 : decode m_TM_init.2.1 230 = .ok (.new 64, 3) := by decide +kernel
theorem e_TM_init_233 : decode m_TM_init.2.1 233 = .ok (.dup, 1) := by decide +kernel
theorem e_TM_init_234 : decode m_TM_init.2.1 234 = .ok (.invokespecial 66, 3) := by decide +kernel
theorem e_TM_init_237 : decode m_TM_init.2.1 237 = .ok (.putfield 67, 3) := by decide +kernel
theorem e_TM_init_240 : decode m_TM_init.2.1 240 = .ok (.return_, 1) := by decide +kernel
theorem e_TM_issue_0 : decode m_TM_issue.2.1 0 = .ok (.aload_n 0, 1) := by decide +kernel
theorem e_TM_issue_1 : decode m_TM_issue.2.1 1 = .ok (.iload_n 1, 1) := by decide +kernel
theorem e_TM_issue_2 : decode m_TM_issue.2.1 2 = .ok (.invokevirtual 71, 3) := by decide +kernel
theorem e_TM_issue_5 : decode m_TM_issue.2.1 5 = .ok (.ifCond .eq 10, 3) := by decide +kernel
theorem e_TM_issue_8 : decode m_TM_issue.2.1 8 = .ok (.iload_n 3, 1) := by decide +kernel
theorem e_TM_issue_9 : decode m_TM_issue.2.1 9 = .ok (.invokestatic 75, 3) := by decide +kernel
theorem e_TM_issue_12 : decode m_TM_issue.2.1 12 = .ok (.ifCond .ne 5, 3) := by decide +kernel
theorem e_TM_issue_15 : decode m_TM_issue.2.1 15 = .ok (.iconst (-1), 1) := by decide +kernel
theorem e_TM_issue_16 : decode m_TM_issue.2.1 16 = .ok (.ireturn, 1) := by decide +kernel
theorem e_TM_issue_17 : decode m_TM_issue.2.1 17 = .ok (.aload_n 0, 1) := by decide +kernel
theorem e_TM_issue_18 : decode m_TM_issue.2.1 18 = .ok (.getfield 38, 3) := by decide +kernel
theorem e_TM_issue_21 : decode m_TM_issue.2.1 21 = .ok (.iload_n 1, 1) := by decide +kernel
theorem e_TM_issue_22 : decode m_TM_issue.2.1 22 = .ok (.aaload, 1) := by decide +kernel
theorem e_TM_issue_23 : decode m_TM_issue.2.1 23 = .ok (.astore 5, 2) := by decide +kernel
theorem e_TM_issue_25 : decode m_TM_issue.2.1 25 = .ok (.aload 5, 2) := by decide +kernel
theorem e_TM_issue_27 : decode m_TM_issue.2.1 27 = .ok (.getfield 78, 3) := by decide +kernel
theorem e_TM_issue_30 : decode m_TM_issue.2.1 30 = .ok (.ifCond .eq 6, 3) := by decide +kernel
theorem e_TM_issue_33 : decode m_TM_issue.2.1 33 = .ok (.bipush (-2), 2) := by decide +kernel
theorem e_TM_issue_35 : decode m_TM_issue.2.1 35 = .ok (.ireturn, 1) := by decide +kernel
theorem e_TM_issue_36 : decode m_TM_issue.2.1 36 = .ok (.aload 5, 2) := by decide +kernel
theorem e_TM_issue_38 : decode m_TM_issue.2.1 38 = .ok (.iload_n 2, 1) := by decide +kernel
theorem e_TM_issue_39 : decode m_TM_issue.2.1 39 = .ok (.iload_n 3, 1) := by decide +kernel
theorem e_TM_issue_40 : decode m_TM_issue.2.1 40 = .ok (.iload 4, 2) := by decide +kernel
theorem e_TM_issue_42 : decode m_TM_issue.2.1 42 = .ok (.invokevirtual 81, 3) := by decide +kernel
theorem e_TM_issue_45 : decode m_TM_issue.2.1 45 = .ok (.aload_n 0, 1) := by decide +kernel
theorem e_TM_issue_46 : decode m_TM_issue.2.1 46 = .ok (.iload_n 1, 1) := by decide +kernel
theorem e_TM_issue_47 : decode m_TM_issue.2.1 47 = .ok (.invokevirtual 85, 3) := by decide +kernel
theorem e_TM_issue_50 : decode m_TM_issue.2.1 50 = .ok (.ifCond .eq 10, 3) := by decide +kernel
theorem e_TM_issue_53 : decode m_TM_issue.2.1 53 = .ok (.aload_n 0, 1) := by decide +kernel
theorem e_TM_issue_54 : decode m_TM_issue.2.1 54 = .ok (.iload_n 1, 1) := by decide +kernel
theorem e_TM_issue_55 : decode m_TM_issue.2.1 55 = .ok (.invokevirtual 88, 3) := by decide +kernel
theorem e_TM_issue_58 : decode m_TM_issue.2.1 58 = .ok (.iconst 1, 1) := by decide +kernel
theorem e_TM_issue_59 : decode m_TM_issue.2.1 59 = .ok (.ireturn, 1) := by decide +kernel
theorem e_TM_issue_60 : decode m_TM_issue.2.1 60 = .ok (.aload 5, 2) := by decide +kernel
theorem e_TM_issue_62 : decode m_TM_issue.2.1 62 = .ok (.aload_n 0, 1) := by decide +kernel
theorem e_TM_issue_63 : decode m_TM_issue.2.1 63 = .ok (.getfield 92, 3) := by decide +kernel
theorem e_TM_issue_66 : decode m_TM_issue.2.1 66 = .ok (.aload_n 0, 1) := by decide +kernel
theorem e_TM_issue_67 : decode m_TM_issue.2.1 67 = .ok (.getfield 20, 3) := by decide +kernel
theorem e_TM_issue_70 : decode m_TM_issue.2.1 70 = .ok (.iadd, 1) := by decide +kernel
theorem e_TM_issue_71 : decode m_TM_issue.2.1 71 = .ok (.putfield 95, 3) := by decide +kernel
theorem e_TM_issue_74 : decode m_TM_issue.2.1 74 = .ok (.aload_n 0, 1) := by decide +kernel
theorem e_TM_issue_75 : decode m_TM_issue.2.1 75 = .ok (.iload_n 1, 1) := by decide +kernel
theorem e_TM_issue_76 : decode m_TM_issue.2.1 76 = .ok (.invokevirtual 98, 3) := by decide +kernel
theorem e_TM_issue_79 : decode m_TM_issue.2.1 79 = .ok (.iconst 0, 1) := by decide +kernel
theorem e_TM_issue_80 : decode m_TM_issue.2.1 80 = .ok (.ireturn, 1) := by decide +kernel
theorem e_TM_tick_0 : decode m_TM_tick.2.1 0 = .ok (.iload_n 1, 1) := by decide +kernel
theorem e_TM_tick_1 : decode m_TM_tick.2.1 1 = .ok (.iconst 1, 1) := by decide +kernel
theorem e_TM_tick_2 : decode m_TM_tick.2.1 2 = .ok (.if_icmp .lt 9, 3) := by decide +kernel
theorem e_TM_tick_5 : decode m_TM_tick.2.1 5 = .ok (.iload_n 1, 1) := by decide +kernel
theorem e_TM_tick_6 : decode m_TM_tick.2.1 6 = .ok (.bipush 50, 2) := by decide +kernel
theorem e_TM_tick_8 : decode m_TM_tick.2.1 8 = .ok (.if_icmp .le 5, 3) := by decide +kernel
theorem e_TM_tick_11 : decode m_TM_tick.2.1 11 = .ok (.iconst (-1), 1) := by decide +kernel
theorem e_TM_tick_12 : decode m_TM_tick.2.1 12 = .ok (.ireturn, 1) := by decide +kernel
theorem e_TM_tick_13 : decode m_TM_tick.2.1 13 = .ok (.iconst 0, 1) := by decide +kernel
theorem e_TM_tick_14 : decode m_TM_tick.2.1 14 = .ok (.istore_n 2, 1) := by decide +kernel
theorem e_TM_tick_15 : decode m_TM_tick.2.1 15 = .ok (.iload_n 2, 1) := by decide +kernel
theorem e_TM_tick_16 : decode m_TM_tick.2.1 16 = .ok (.iload_n 1, 1) := by decide +kernel
theorem e_TM_tick_17 : decode m_TM_tick.2.1 17 = .ok (.if_icmp .ge 56, 3) := by decide +kernel
theorem e_TM_tick_20 : decode m_TM_tick.2.1 20 = .ok (.aload_n 0, 1) := by decide +kernel
theorem e_TM_tick_21 : decode m_TM_tick.2.1 21 = .ok (.dup, 1) := by decide +kernel
theorem e_TM_tick_22 : decode m_TM_tick.2.1 22 = .ok (.getfield 92, 3) := by decide +kernel
theorem e_TM_tick_25 : decode m_TM_tick.2.1 25 = .ok (.iconst 1, 1) := by decide +kernel
theorem e_TM_tick_26 : decode m_TM_tick.2.1 26 = .ok (.iadd, 1) := by decide +kernel
theorem e_TM_tick_27 : decode m_TM_tick.2.1 27 = .ok (.putfield 92, 3) := by decide +kernel
theorem e_TM_tick_30 : decode m_TM_tick.2.1 30 = .ok (.iconst 0, 1) := by decide +kernel
theorem e_TM_tick_31 : decode m_TM_tick.2.1 31 = .ok (.istore_n 3, 1) := by decide +kernel
theorem e_TM_tick_32 : decode m_TM_tick.2.1 32 = .ok (.iload_n 3, 1) := by decide +kernel
theorem e_TM_tick_33 : decode m_TM_tick.2.1 33 = .ok (.aload_n 0, 1) := by decide +kernel
theorem e_TM_tick_34 : decode m_TM_tick.2.1 34 = .ok (.getfield 13, 3) := by decide +kernel
theorem e_TM_tick_37 : decode m_TM_tick.2.1 37 = .ok (.if_icmp .ge 30, 3) := by decide +kernel
theorem e_TM_tick_40 : decode m_TM_tick.2.1 40 = .ok (.aload_n 0, 1) := by decide +kernel
theorem e_TM_tick_41 : decode m_TM_tick.2.1 41 = .ok (.getfield 38, 3) := by decide +kernel
theorem e_TM_tick_44 : decode m_TM_tick.2.1 44 = .ok (.iload_n 3, 1) := by decide +kernel
theorem e_TM_tick_45 : decode m_TM_tick.2.1 45 = .ok (.aaload, 1) := by decide +kernel
theorem e_TM_tick_46 : decode m_TM_tick.2.1 46 = .ok (.aload_n 0, 1) := by decide +kernel
theorem e_TM_tick_47 : decode m_TM_tick.2.1 47 = .ok (.getfield 92, 3) := by decide +kernel
theorem e_TM_tick_50 : decode m_TM_tick.2.1 50 = .ok (.invokevirtual 101, 3) := by decide +kernel
theorem e_TM_tick_53 : decode m_TM_tick.2.1 53 = .ok (.ifCond .eq 8, 3) := by decide +kernel
theorem e_TM_tick_56 : decode m_TM_tick.2.1 56 = .ok (.aload_n 0, 1) := by decide +kernel
theorem e_TM_tick_57 : decode m_TM_tick.2.1 57 = .ok (.iload_n 3, 1) := by decide +kernel
theorem e_TM_tick_58 : decode m_TM_tick.2.1 58 = .ok (.invokevirtual 104, 3) := by decide +kernel
theorem e_TM_tick_61 : decode m_TM_tick.2.1 61 = .ok (.iinc 3 1, 3) := by decide +kernel
theorem e_TM_tick_64 : decode m_TM_tick.2.1 64 = .ok (.goto (-32), 3) := by decide +kernel
theorem e_TM_tick_67 : decode m_TM_tick.2.1 67 = .ok (.iinc 2 1, 3) := by decide +kernel
theorem e_TM_tick_70 : decode m_TM_tick.2.1 70 = .ok (.goto (-55), 3) := by decide +kernel
theorem e_TM_tick_73 : decode m_TM_tick.2.1 73 = .ok (.aload_n 0, 1) := by decide +kernel
theorem e_TM_tick_74 : decode m_TM_tick.2.1 74 = .ok (.getfield 92, 3) := by decide +kernel
theorem e_TM_tick_77 : decode m_TM_tick.2.1 77 = .ok (.ireturn, 1) := by decide +kernel
theorem e_TM_deliver_0 : decode m_TM_deliver.2.1 0 = .ok (.aload_n 0, 1) := by decide +kernel
theorem e_TM_deliver_1 : decode m_TM_deliver.2.1 1 = .ok (.getfield 67, 3) := by decide +kernel
theorem e_TM_deliver_4 : decode m_TM_deliver.2.1 4 = .ok (.iload_n 1, 1) := by decide +kernel
theorem e_TM_deliver_5 : decode m_TM_deliver.2.1 5 = .ok (.invokevirtual 107, 3) := by decide +kernel
theorem e_TM_deliver_8 : decode m_TM_deliver.2.1 8 = .ok (.ifCond .ne 5, 3) := by decide +kernel
theorem e_TM_deliver_11 : decode m_TM_deliver.2.1 11 = .ok (.iconst (-1), 1) := by decide +kernel
theorem e_TM_deliver_12 : decode m_TM_deliver.2.1 12 = .ok (.ireturn, 1) := by decide +kernel
theorem e_TM_deliver_13 : decode m_TM_deliver.2.1 13 = .ok (.aload_n 0, 1) := by decide +kernel
theorem e_TM_deliver_14 : decode m_TM_deliver.2.1 14 = .ok (.getfield 67, 3) := by decide +kernel
theorem e_TM_deliver_17 : decode m_TM_deliver.2.1 17 = .ok (.iload_n 1, 1) := by decide +kernel
theorem e_TM_deliver_18 : decode m_TM_deliver.2.1 18 = .ok (.invokevirtual 110, 3) := by decide +kernel
theorem e_TM_deliver_21 : decode m_TM_deliver.2.1 21 = .ok (.astore_n 2, 1) := by decide +kernel
theorem e_TM_deliver_22 : decode m_TM_deliver.2.1 22 = .ok (.aload_n 2, 1) := by decide +kernel
theorem e_TM_deliver_23 : decode m_TM_deliver.2.1 23 = .ok (.getfield 114, 3) := by decide +kernel
theorem e_TM_deliver_26 : decode m_TM_deliver.2.1 26 = .ok (.istore_n 3, 1) := by decide +kernel
theorem e_TM_deliver_27 : decode m_TM_deliver.2.1 27 = .ok (.iload_n 3, 1) := by decide +kernel
theorem e_TM_deliver_28 : decode m_TM_deliver.2.1 28 = .ok (.tableswitch 113 1 5 #[36, 55, 74, 82, 105], 36) := by decide +kernel
theorem e_TM_deliver_64 : decode m_TM_deliver.2.1 64 = .ok (.aload_n 0, 1) := by decide +kernel
theorem e_TM_deliver_65 : decode m_TM_deliver.2.1 65 = .ok (.aload_n 2, 1) := by decide +kernel
theorem e_TM_deliver_66 : decode m_TM_deliver.2.1 66 = .ok (.getfield 119, 3) := by decide +kernel
theorem e_TM_deliver_69 : decode m_TM_deliver.2.1 69 = .ok (.aload_n 2, 1) := by decide +kernel
theorem e_TM_deliver_70 : decode m_TM_deliver.2.1 70 = .ok (.getfield 122, 3) := by decide +kernel
theorem e_TM_deliver_73 : decode m_TM_deliver.2.1 73 = .ok (.aload_n 2, 1) := by decide +kernel
theorem e_TM_deliver_74 : decode m_TM_deliver.2.1 74 = .ok (.getfield 125, 3) := by decide +kernel
theorem e_TM_deliver_77 : decode m_TM_deliver.2.1 77 = .ok (.invokevirtual 128, 3) := by decide +kernel
theorem e_TM_deliver_80 : decode m_TM_deliver.2.1 80 = .ok (.goto 73, 3) := by decide +kernel
theorem e_TM_deliver_83 : decode m_TM_deliver.2.1 83 = .ok (.aload_n 0, 1) := by decide +kernel
theorem e_TM_deliver_84 : decode m_TM_deliver.2.1 84 = .ok (.aload_n 2, 1) := by decide +kernel
theorem e_TM_deliver_85 : decode m_TM_deliver.2.1 85 = .ok (.getfield 119, 3) := by decide +kernel
theorem e_TM_deliver_88 : decode m_TM_deliver.2.1 88 = .ok (.aload_n 2, 1) := by decide +kernel
theorem e_TM_deliver_89 : decode m_TM_deliver.2.1 89 = .ok (.getfield 122, 3) := by decide +kernel
theorem e_TM_deliver_92 : decode m_TM_deliver.2.1 92 = .ok (.aload_n 2, 1) := by decide +kernel
theorem e_TM_deliver_93 : decode m_TM_deliver.2.1 93 = .ok (.getfield 125, 3) := by decide +kernel
theorem e_TM_deliver_96 : decode m_TM_deliver.2.1 96 = .ok (.invokevirtual 132, 3) := by decide +kernel
theorem e_TM_deliver_99 : decode m_TM_deliver.2.1 99 = .ok (.goto 54, 3) := by decide +kernel
theorem e_TM_deliver_102 : decode m_TM_deliver.2.1 102 = .ok (.aload_n 0, 1) := by decide +kernel
theorem e_TM_deliver_103 : decode m_TM_deliver.2.1 103 = .ok (.aload_n 2, 1) := by decide +kernel
theorem e_TM_deliver_104 : decode m_TM_deliver.2.1 104 = .ok (.invokevirtual 135, 3) := by decide +kernel
theorem e_TM_deliver_107 : decode m_TM_deliver.2.1 107 = .ok (.goto 46, 3) := by decide +kernel
theorem e_TM_deliver_110 : decode m_TM_deliver.2.1 110 = .ok (.aload_n 0, 1) := by decide +kernel
theorem e_TM_deliver_111 : decode m_TM_deliver.2.1 111 = .ok (.aload_n 2, 1) := by decide +kernel
theorem e_TM_deliver_112 : decode m_TM_deliver.2.1 112 = .ok (.getfield 125, 3) := by decide +kernel
theorem e_TM_deliver_115 : decode m_TM_deliver.2.1 115 = .ok (.aload_n 2, 1) := by decide +kernel
theorem e_TM_deliver_116 : decode m_TM_deliver.2.1 116 = .ok (.getfield 122, 3) := by decide +kernel
theorem e_TM_deliver_119 : decode m_TM_deliver.2.1 119 = .ok (.aload_n 2, 1) := by decide +kernel
theorem e_TM_deliver_120 : decode m_TM_deliver.2.1 120 = .ok (.getfield 139, 3) := by decide +kernel
theorem e_TM_deliver_123 : decode m_TM_deliver.2.1 123 = .ok (.aload_n 2, 1) := by decide +kernel
theorem e_TM_deliver_124 : decode m_TM_deliver.2.1 124 = .ok (.getfield 142, 3) := by decide +kernel
theorem e_TM_deliver_127 : decode m_TM_deliver.2.1 127 = .ok (.invokevirtual 145, 3) := by decide +kernel
theorem e_TM_deliver_130 : decode m_TM_deliver.2.1 130 = .ok (.goto 23, 3) := by decide +kernel
theorem e_TM_deliver_133 : decode m_TM_deliver.2.1 133 = .ok (.aload_n 0, 1) := by decide +kernel
theorem e_TM_deliver_134 : decode m_TM_deliver.2.1 134 = .ok (.aload_n 2, 1) := by decide +kernel
theorem e_TM_deliver_135 : decode m_TM_deliver.2.1 135 = .ok (.invokevirtual 149, 3) := by decide +kernel
theorem e_TM_deliver_138 : decode m_TM_deliver.2.1 138 = .ok (.goto 15, 3) := by decide +kernel
theorem e_TM_deliver_141 : decode m_TM_deliver.2.1 141 = .ok (.aload_n 0, 1) := by decide +kernel
theorem e_TM_deliver_142 : decode m_TM_deliver.2.1 142 = .ok (.aload_n 2, 1) := by decide +kernel
theorem e_TM_deliver_143 : decode m_TM_deliver.2.1 143 = .ok (.getfield 125, 3) := by decide +kernel
theorem e_TM_deliver_146 : decode m_TM_deliver.2.1 146 = .ok (.aload_n 2, 1) := by decide +kernel
theorem e_TM_deliver_147 : decode m_TM_deliver.2.1 147 = .ok (.getfield 139, 3) := by decide +kernel
theorem e_TM_deliver_150 : decode m_TM_deliver.2.1 150 = .ok (.invokevirtual 152, 3) := by decide +kernel
theorem e_TM_deliver_153 : decode m_TM_deliver.2.1 153 = .ok (.aload_n 0, 1) := by decide +kernel
theorem e_TM_deliver_154 : decode m_TM_deliver.2.1 154 = .ok (.getfield 67, 3) := by decide +kernel
theorem e_TM_deliver_157 : decode m_TM_deliver.2.1 157 = .ok (.aload_n 2, 1) := by decide +kernel
theorem e_TM_deliver_158 : decode m_TM_deliver.2.1 158 = .ok (.invokevirtual 156, 3) := by decide +kernel
theorem e_TM_deliver_161 : decode m_TM_deliver.2.1 161 = .ok (.iload_n 3, 1) := by decide +kernel
theorem e_TM_deliver_162 : decode m_TM_deliver.2.1 162 = .ok (.ireturn, 1) := by decide +kernel
theorem e_TM_evict_0 : decode m_TM_evict.2.1 0 = .ok (.aload_n 0, 1) := by decide +kernel
theorem e_TM_evict_1 : decode m_TM_evict.2.1 1 = .ok (.iload_n 1, 1) := by decide +kernel
theorem e_TM_evict_2 : decode m_TM_evict.2.1 2 = .ok (.invokevirtual 71, 3) := by decide +kernel
theorem e_TM_evict_5 : decode m_TM_evict.2.1 5 = .ok (.ifCond .eq 10, 3) := by decide +kernel
theorem e_TM_evict_8 : decode m_TM_evict.2.1 8 = .ok (.iload_n 2, 1) := by decide +kernel
theorem e_TM_evict_9 : decode m_TM_evict.2.1 9 = .ok (.invokestatic 75, 3) := by decide +kernel
theorem e_TM_evict_12 : decode m_TM_evict.2.1 12 = .ok (.ifCond .ne 5, 3) := by decide +kernel
theorem e_TM_evict_15 : decode m_TM_evict.2.1 15 = .ok (.iconst 0, 1) := by decide +kernel
theorem e_TM_evict_16 : decode m_TM_evict.2.1 16 = .ok (.ireturn, 1) := by decide +kernel
theorem e_TM_evict_17 : decode m_TM_evict.2.1 17 = .ok (.aload_n 0, 1) := by decide +kernel
theorem e_TM_evict_18 : decode m_TM_evict.2.1 18 = .ok (.iload_n 1, 1) := by decide +kernel
theorem e_TM_evict_19 : decode m_TM_evict.2.1 19 = .ok (.iload_n 2, 1) := by decide +kernel
theorem e_TM_evict_20 : decode m_TM_evict.2.1 20 = .ok (.invokevirtual 159, 3) := by decide +kernel
theorem e_TM_evict_23 : decode m_TM_evict.2.1 23 = .ok (.astore_n 3, 1) := by decide +kernel
theorem e_TM_evict_24 : decode m_TM_evict.2.1 24 = .ok (.aload_n 3, 1) := by decide +kernel
theorem e_TM_evict_25 : decode m_TM_evict.2.1 25 = .ok (.getfield 54, 3) := by decide +kernel
theorem e_TM_evict_28 : decode m_TM_evict.2.1 28 = .ok (.ifCond .eq 16, 3) := by decide +kernel
theorem e_TM_evict_31 : decode m_TM_evict.2.1 31 = .ok (.aload_n 0, 1) := by decide +kernel
theorem e_TM_evict_32 : decode m_TM_evict.2.1 32 = .ok (.getfield 38, 3) := by decide +kernel
theorem e_TM_evict_35 : decode m_TM_evict.2.1 35 = .ok (.iload_n 1, 1) := by decide +kernel
theorem e_TM_evict_36 : decode m_TM_evict.2.1 36 = .ok (.aaload, 1) := by decide +kernel
theorem e_TM_evict_37 : decode m_TM_evict.2.1 37 = .ok (.iload_n 2, 1) := by decide +kernel
theorem e_TM_evict_38 : decode m_TM_evict.2.1 38 = .ok (.invokevirtual 163, 3) := by decide +kernel
theorem e_TM_evict_41 : decode m_TM_evict.2.1 41 = .ok (.ifCond .eq 5, 3) := by decide +kernel
theorem e_TM_evict_44 : decode m_TM_evict.2.1 44 = .ok (.iconst 0, 1) := by decide +kernel
theorem e_TM_evict_45 : decode m_TM_evict.2.1 45 = .ok (.ireturn, 1) := by decide +kernel
theorem e_TM_evict_46 : decode m_TM_evict.2.1 46 = .ok (.aload_n 0, 1) := by decide +kernel
theorem e_TM_evict_47 : decode m_TM_evict.2.1 47 = .ok (.iload_n 1, 1) := by decide +kernel
theorem e_TM_evict_48 : decode m_TM_evict.2.1 48 = .ok (.aload_n 0, 1) := by decide +kernel
theorem e_TM_evict_49 : decode m_TM_evict.2.1 49 = .ok (.getfield 23, 3) := by decide +kernel
theorem e_TM_evict_52 : decode m_TM_evict.2.1 52 = .ok (.iload_n 2, 1) := by decide +kernel
theorem e_TM_evict_53 : decode m_TM_evict.2.1 53 = .ok (.aload_n 3, 1) := by decide +kernel
theorem e_TM_evict_54 : decode m_TM_evict.2.1 54 = .ok (.getfield 54, 3) := by decide +kernel
theorem e_TM_evict_57 : decode m_TM_evict.2.1 57 = .ok (.aload_n 3, 1) := by decide +kernel
theorem e_TM_evict_58 : decode m_TM_evict.2.1 58 = .ok (.getfield 57, 3) := by decide +kernel
theorem e_TM_evict_61 : decode m_TM_evict.2.1 61 = .ok (.aload_n 3, 1) := by decide +kernel
theorem e_TM_evict_62 : decode m_TM_evict.2.1 62 = .ok (.getfield 57, 3) := by decide +kernel
theorem e_TM_evict_65 : decode m_TM_evict.2.1 65 = .ok (.invokevirtual 166, 3) := by decide +kernel
theorem e_TM_evict_68 : decode m_TM_evict.2.1 68 = .ok (.iconst 1, 1) := by decide +kernel
theorem e_TM_evict_69 : decode m_TM_evict.2.1 69 = .ok (.ireturn, 1) := by decide +kernel
theorem e_TM_letters_0 : decode m_TM_letters.2.1 0 = .ok (.aload_n 0, 1) := by decide +kernel
theorem e_TM_letters_1 : decode m_TM_letters.2.1 1 = .ok (.getfield 67, 3) := by decide +kernel
theorem e_TM_letters_4 : decode m_TM_letters.2.1 4 = .ok (.invokevirtual 170, 3) := by decide +kernel
theorem e_TM_letters_7 : decode m_TM_letters.2.1 7 = .ok (.ireturn, 1) := by decide +kernel
theorem e_TM_letter_0 : decode m_TM_letter.2.1 0 = .ok (.aload_n 0, 1) := by decide +kernel
theorem e_TM_letter_1 : decode m_TM_letter.2.1 1 = .ok (.getfield 67, 3) := by decide +kernel
theorem e_TM_letter_4 : decode m_TM_letter.2.1 4 = .ok (.iload_n 1, 1) := by decide +kernel
theorem e_TM_letter_5 : decode m_TM_letter.2.1 5 = .ok (.invokevirtual 107, 3) := by decide +kernel
theorem e_TM_letter_8 : decode m_TM_letter.2.1 8 = .ok (.ifCond .ne 5, 3) := by decide +kernel
theorem e_TM_letter_11 : decode m_TM_letter.2.1 11 = .ok (.iconst (-1), 1) := by decide +kernel
theorem e_TM_letter_12 : decode m_TM_letter.2.1 12 = .ok (.ireturn, 1) := by decide +kernel
theorem e_TM_letter_13 : decode m_TM_letter.2.1 13 = .ok (.aload_n 0, 1) := by decide +kernel
theorem e_TM_letter_14 : decode m_TM_letter.2.1 14 = .ok (.getfield 67, 3) := by decide +kernel
theorem e_TM_letter_17 : decode m_TM_letter.2.1 17 = .ok (.iload_n 1, 1) := by decide +kernel
theorem e_TM_letter_18 : decode m_TM_letter.2.1 18 = .ok (.invokevirtual 174, 3) := by decide +kernel
theorem e_TM_letter_21 : decode m_TM_letter.2.1 21 = .ok (.invokevirtual 177, 3) := by decide +kernel
theorem e_TM_letter_24 : decode m_TM_letter.2.1 24 = .ok (.ireturn, 1) := by decide +kernel
theorem e_TM_tokens_0 : decode m_TM_tokens.2.1 0 = .ok (.aload_n 0, 1) := by decide +kernel
theorem e_TM_tokens_1 : decode m_TM_tokens.2.1 1 = .ok (.iload_n 1, 1) := by decide +kernel
theorem e_TM_tokens_2 : decode m_TM_tokens.2.1 2 = .ok (.invokevirtual 180, 3) := by decide +kernel
theorem e_TM_tokens_5 : decode m_TM_tokens.2.1 5 = .ok (.ifCond .eq 10, 3) := by decide +kernel
theorem e_TM_tokens_8 : decode m_TM_tokens.2.1 8 = .ok (.iload_n 2, 1) := by decide +kernel
theorem e_TM_tokens_9 : decode m_TM_tokens.2.1 9 = .ok (.invokestatic 75, 3) := by decide +kernel
theorem e_TM_tokens_12 : decode m_TM_tokens.2.1 12 = .ok (.ifCond .ne 5, 3) := by decide +kernel
theorem e_TM_tokens_15 : decode m_TM_tokens.2.1 15 = .ok (.iconst (-1), 1) := by decide +kernel
theorem e_TM_tokens_16 : decode m_TM_tokens.2.1 16 = .ok (.ireturn, 1) := by decide +kernel
theorem e_TM_tokens_17 : decode m_TM_tokens.2.1 17 = .ok (.aload_n 0, 1) := by decide +kernel
theorem e_TM_tokens_18 : decode m_TM_tokens.2.1 18 = .ok (.iload_n 1, 1) := by decide +kernel
theorem e_TM_tokens_19 : decode m_TM_tokens.2.1 19 = .ok (.iload_n 2, 1) := by decide +kernel
theorem e_TM_tokens_20 : decode m_TM_tokens.2.1 20 = .ok (.invokevirtual 159, 3) := by decide +kernel
theorem e_TM_tokens_23 : decode m_TM_tokens.2.1 23 = .ok (.astore_n 3, 1) := by decide +kernel
theorem e_TM_tokens_24 : decode m_TM_tokens.2.1 24 = .ok (.aload_n 3, 1) := by decide +kernel
theorem e_TM_tokens_25 : decode m_TM_tokens.2.1 25 = .ok (.getfield 54, 3) := by decide +kernel
theorem e_TM_tokens_28 : decode m_TM_tokens.2.1 28 = .ok (.aload_n 3, 1) := by decide +kernel
theorem e_TM_tokens_29 : decode m_TM_tokens.2.1 29 = .ok (.getfield 57, 3) := by decide +kernel
theorem e_TM_tokens_32 : decode m_TM_tokens.2.1 32 = .ok (.ifCond .eq 8, 3) := by decide +kernel
theorem e_TM_tokens_35 : decode m_TM_tokens.2.1 35 = .ok (.bipush 8, 2) := by decide +kernel
theorem e_TM_tokens_37 : decode m_TM_tokens.2.1 37 = .ok (.goto 4, 3) := by decide +kernel
theorem e_TM_tokens_40 : decode m_TM_tokens.2.1 40 = .ok (.iconst 0, 1) := by decide +kernel
theorem e_TM_tokens_41 : decode m_TM_tokens.2.1 41 = .ok (.iadd, 1) := by decide +kernel
theorem e_TM_tokens_42 : decode m_TM_tokens.2.1 42 = .ok (.aload_n 3, 1) := by decide +kernel
theorem e_TM_tokens_43 : decode m_TM_tokens.2.1 43 = .ok (.getfield 61, 3) := by decide +kernel
theorem e_TM_tokens_46 : decode m_TM_tokens.2.1 46 = .ok (.ifCond .eq 8, 3) := by decide +kernel
theorem e_TM_tokens_49 : decode m_TM_tokens.2.1 49 = .ok (.bipush 16, 2) := by decide +kernel
theorem e_TM_tokens_51 : decode m_TM_tokens.2.1 51 = .ok (.goto 4, 3) := by decide +kernel
theorem e_TM_tokens_54 : decode m_TM_tokens.2.1 54 = .ok (.iconst 0, 1) := by decide +kernel
theorem e_TM_tokens_55 : decode m_TM_tokens.2.1 55 = .ok (.iadd, 1) := by decide +kernel
theorem e_TM_tokens_56 : decode m_TM_tokens.2.1 56 = .ok (.ireturn, 1) := by decide +kernel
theorem e_TM_data_0 : decode m_TM_data.2.1 0 = .ok (.aload_n 0, 1) := by decide +kernel
theorem e_TM_data_1 : decode m_TM_data.2.1 1 = .ok (.iload_n 1, 1) := by decide +kernel
theorem e_TM_data_2 : decode m_TM_data.2.1 2 = .ok (.invokevirtual 180, 3) := by decide +kernel
theorem e_TM_data_5 : decode m_TM_data.2.1 5 = .ok (.ifCond .eq 10, 3) := by decide +kernel
theorem e_TM_data_8 : decode m_TM_data.2.1 8 = .ok (.iload_n 2, 1) := by decide +kernel
theorem e_TM_data_9 : decode m_TM_data.2.1 9 = .ok (.invokestatic 75, 3) := by decide +kernel
theorem e_TM_data_12 : decode m_TM_data.2.1 12 = .ok (.ifCond .ne 5, 3) := by decide +kernel
theorem e_TM_data_15 : decode m_TM_data.2.1 15 = .ok (.iconst 0, 1) := by decide +kernel
theorem e_TM_data_16 : decode m_TM_data.2.1 16 = .ok (.ireturn, 1) := by decide +kernel
theorem e_TM_data_17 : decode m_TM_data.2.1 17 = .ok (.aload_n 0, 1) := by decide +kernel
theorem e_TM_data_18 : decode m_TM_data.2.1 18 = .ok (.iload_n 1, 1) := by decide +kernel
theorem e_TM_data_19 : decode m_TM_data.2.1 19 = .ok (.iload_n 2, 1) := by decide +kernel
theorem e_TM_data_20 : decode m_TM_data.2.1 20 = .ok (.invokevirtual 159, 3) := by decide +kernel
theorem e_TM_data_23 : decode m_TM_data.2.1 23 = .ok (.astore_n 3, 1) := by decide +kernel
theorem e_TM_data_24 : decode m_TM_data.2.1 24 = .ok (.aload_n 3, 1) := by decide +kernel
theorem e_TM_data_25 : decode m_TM_data.2.1 25 = .ok (.getfield 61, 3) := by decide +kernel
theorem e_TM_data_28 : decode m_TM_data.2.1 28 = .ok (.ifCond .eq 10, 3) := by decide +kernel
theorem e_TM_data_31 : decode m_TM_data.2.1 31 = .ok (.aload_n 3, 1) := by decide +kernel
theorem e_TM_data_32 : decode m_TM_data.2.1 32 = .ok (.getfield 183, 3) := by decide +kernel
theorem e_TM_data_35 : decode m_TM_data.2.1 35 = .ok (.goto 4, 3) := by decide +kernel
theorem e_TM_data_38 : decode m_TM_data.2.1 38 = .ok (.iconst 0, 1) := by decide +kernel
theorem e_TM_data_39 : decode m_TM_data.2.1 39 = .ok (.ireturn, 1) := by decide +kernel
theorem e_TM_knows_0 : decode m_TM_knows.2.1 0 = .ok (.aload_n 0, 1) := by decide +kernel
theorem e_TM_knows_1 : decode m_TM_knows.2.1 1 = .ok (.iload_n 1, 1) := by decide +kernel
theorem e_TM_knows_2 : decode m_TM_knows.2.1 2 = .ok (.invokevirtual 180, 3) := by decide +kernel
theorem e_TM_knows_5 : decode m_TM_knows.2.1 5 = .ok (.ifCond .eq 10, 3) := by decide +kernel
theorem e_TM_knows_8 : decode m_TM_knows.2.1 8 = .ok (.iload_n 2, 1) := by decide +kernel
theorem e_TM_knows_9 : decode m_TM_knows.2.1 9 = .ok (.invokestatic 75, 3) := by decide +kernel
theorem e_TM_knows_12 : decode m_TM_knows.2.1 12 = .ok (.ifCond .ne 6, 3) := by decide +kernel
theorem e_TM_knows_15 : decode m_TM_knows.2.1 15 = .ok (.bipush (-2), 2) := by decide +kernel
theorem e_TM_knows_17 : decode m_TM_knows.2.1 17 = .ok (.ireturn, 1) := by decide +kernel
theorem e_TM_knows_18 : decode m_TM_knows.2.1 18 = .ok (.aload_n 0, 1) := by decide +kernel
theorem e_TM_knows_19 : decode m_TM_knows.2.1 19 = .ok (.iload_n 1, 1) := by decide +kernel
theorem e_TM_knows_20 : decode m_TM_knows.2.1 20 = .ok (.iload_n 2, 1) := by decide +kernel
theorem e_TM_knows_21 : decode m_TM_knows.2.1 21 = .ok (.invokevirtual 159, 3) := by decide +kernel
theorem e_TM_knows_24 : decode m_TM_knows.2.1 24 = .ok (.astore_n 3, 1) := by decide +kernel
theorem e_TM_knows_25 : decode m_TM_knows.2.1 25 = .ok (.aload_n 3, 1) := by decide +kernel
theorem e_TM_knows_26 : decode m_TM_knows.2.1 26 = .ok (.getfield 186, 3) := by decide +kernel
theorem e_TM_knows_29 : decode m_TM_knows.2.1 29 = .ok (.iconst (-1), 1) := by decide +kernel
theorem e_TM_knows_30 : decode m_TM_knows.2.1 30 = .ok (.if_icmp .ne 5, 3) := by decide +kernel
theorem e_TM_knows_33 : decode m_TM_knows.2.1 33 = .ok (.iconst (-1), 1) := by decide +kernel
theorem e_TM_knows_34 : decode m_TM_knows.2.1 34 = .ok (.ireturn, 1) := by decide +kernel
theorem e_TM_knows_35 : decode m_TM_knows.2.1 35 = .ok (.aload_n 3, 1) := by decide +kernel
theorem e_TM_knows_36 : decode m_TM_knows.2.1 36 = .ok (.getfield 186, 3) := by decide +kernel
theorem e_TM_knows_39 : decode m_TM_knows.2.1 39 = .ok (.aload_n 3, 1) := by decide +kernel
theorem e_TM_knows_40 : decode m_TM_knows.2.1 40 = .ok (.getfield 189, 3) := by decide +kernel
theorem e_TM_knows_43 : decode m_TM_knows.2.1 43 = .ok (.ifCond .eq 8, 3) := by decide +kernel
theorem e_TM_knows_46 : decode m_TM_knows.2.1 46 = .ok (.bipush 8, 2) := by decide +kernel
theorem e_TM_knows_48 : decode m_TM_knows.2.1 48 = .ok (.goto 4, 3) := by decide +kernel
theorem e_TM_knows_51 : decode m_TM_knows.2.1 51 = .ok (.iconst 0, 1) := by decide +kernel
theorem e_TM_knows_52 : decode m_TM_knows.2.1 52 = .ok (.iadd, 1) := by decide +kernel
theorem e_TM_knows_53 : decode m_TM_knows.2.1 53 = .ok (.ireturn, 1) := by decide +kernel
theorem e_TM_row_0 : decode m_TM_row.2.1 0 = .ok (.iload_n 1, 1) := by decide +kernel
theorem e_TM_row_1 : decode m_TM_row.2.1 1 = .ok (.invokestatic 75, 3) := by decide +kernel
theorem e_TM_row_4 : decode m_TM_row.2.1 4 = .ok (.ifCond .eq 18, 3) := by decide +kernel
theorem e_TM_row_7 : decode m_TM_row.2.1 7 = .ok (.aload_n 0, 1) := by decide +kernel
theorem e_TM_row_8 : decode m_TM_row.2.1 8 = .ok (.getfield 49, 3) := by decide +kernel
theorem e_TM_row_11 : decode m_TM_row.2.1 11 = .ok (.iload_n 1, 1) := by decide +kernel
theorem e_TM_row_12 : decode m_TM_row.2.1 12 = .ok (.aaload, 1) := by decide +kernel
theorem e_TM_row_13 : decode m_TM_row.2.1 13 = .ok (.getfield 192, 3) := by decide +kernel
theorem e_TM_row_16 : decode m_TM_row.2.1 16 = .ok (.invokevirtual 196, 3) := by decide +kernel
theorem e_TM_row_19 : decode m_TM_row.2.1 19 = .ok (.goto 4, 3) := by decide +kernel
theorem e_TM_row_22 : decode m_TM_row.2.1 22 = .ok (.iconst (-1), 1) := by decide +kernel
theorem e_TM_row_23 : decode m_TM_row.2.1 23 = .ok (.ireturn, 1) := by decide +kernel
theorem e_TM_state_0 : decode m_TM_state.2.1 0 = .ok (.aload_n 0, 1) := by decide +kernel
theorem e_TM_state_1 : decode m_TM_state.2.1 1 = .ok (.iload_n 1, 1) := by decide +kernel
theorem e_TM_state_2 : decode m_TM_state.2.1 2 = .ok (.invokevirtual 71, 3) := by decide +kernel
theorem e_TM_state_5 : decode m_TM_state.2.1 5 = .ok (.ifCond .ne 5, 3) := by decide +kernel
theorem e_TM_state_8 : decode m_TM_state.2.1 8 = .ok (.iconst (-1), 1) := by decide +kernel
theorem e_TM_state_9 : decode m_TM_state.2.1 9 = .ok (.ireturn, 1) := by decide +kernel
theorem e_TM_state_10 : decode m_TM_state.2.1 10 = .ok (.aload_n 0, 1) := by decide +kernel
theorem e_TM_state_11 : decode m_TM_state.2.1 11 = .ok (.getfield 38, 3) := by decide +kernel
theorem e_TM_state_14 : decode m_TM_state.2.1 14 = .ok (.iload_n 1, 1) := by decide +kernel
theorem e_TM_state_15 : decode m_TM_state.2.1 15 = .ok (.aaload, 1) := by decide +kernel
theorem e_TM_state_16 : decode m_TM_state.2.1 16 = .ok (.astore_n 2, 1) := by decide +kernel
theorem e_TM_state_17 : decode m_TM_state.2.1 17 = .ok (.aload_n 2, 1) := by decide +kernel
theorem e_TM_state_18 : decode m_TM_state.2.1 18 = .ok (.getfield 78, 3) := by decide +kernel
theorem e_TM_state_21 : decode m_TM_state.2.1 21 = .ok (.ifCond .ne 5, 3) := by decide +kernel
theorem e_TM_state_24 : decode m_TM_state.2.1 24 = .ok (.iconst 0, 1) := by decide +kernel
theorem e_TM_state_25 : decode m_TM_state.2.1 25 = .ok (.ireturn, 1) := by decide +kernel
theorem e_TM_state_26 : decode m_TM_state.2.1 26 = .ok (.iconst 1, 1) := by decide +kernel
theorem e_TM_state_27 : decode m_TM_state.2.1 27 = .ok (.aload_n 2, 1) := by decide +kernel
theorem e_TM_state_28 : decode m_TM_state.2.1 28 = .ok (.getfield 199, 3) := by decide +kernel
theorem e_TM_state_31 : decode m_TM_state.2.1 31 = .ok (.iadd, 1) := by decide +kernel
theorem e_TM_state_32 : decode m_TM_state.2.1 32 = .ok (.aload_n 2, 1) := by decide +kernel
theorem e_TM_state_33 : decode m_TM_state.2.1 33 = .ok (.getfield 202, 3) := by decide +kernel
theorem e_TM_state_36 : decode m_TM_state.2.1 36 = .ok (.ifCond .eq 8, 3) := by decide +kernel
theorem e_TM_state_39 : decode m_TM_state.2.1 39 = .ok (.bipush 8, 2) := by decide +kernel
theorem e_TM_state_41 : decode m_TM_state.2.1 41 = .ok (.goto 4, 3) := by decide +kernel
theorem e_TM_state_44 : decode m_TM_state.2.1 44 = .ok (.iconst 0, 1) := by decide +kernel
theorem e_TM_state_45 : decode m_TM_state.2.1 45 = .ok (.iadd, 1) := by decide +kernel
theorem e_TM_state_46 : decode m_TM_state.2.1 46 = .ok (.ireturn, 1) := by decide +kernel
theorem e_TM_ended_0 : decode m_TM_ended.2.1 0 = .ok (.aload_n 0, 1) := by decide +kernel
theorem e_TM_ended_1 : decode m_TM_ended.2.1 1 = .ok (.iload_n 1, 1) := by decide +kernel
theorem e_TM_ended_2 : decode m_TM_ended.2.1 2 = .ok (.invokevirtual 71, 3) := by decide +kernel
theorem e_TM_ended_5 : decode m_TM_ended.2.1 5 = .ok (.ifCond .eq 15, 3) := by decide +kernel
theorem e_TM_ended_8 : decode m_TM_ended.2.1 8 = .ok (.aload_n 0, 1) := by decide +kernel
theorem e_TM_ended_9 : decode m_TM_ended.2.1 9 = .ok (.getfield 38, 3) := by decide +kernel
theorem e_TM_ended_12 : decode m_TM_ended.2.1 12 = .ok (.iload_n 1, 1) := by decide +kernel
theorem e_TM_ended_13 : decode m_TM_ended.2.1 13 = .ok (.aaload, 1) := by decide +kernel
theorem e_TM_ended_14 : decode m_TM_ended.2.1 14 = .ok (.getfield 205, 3) := by decide +kernel
theorem e_TM_ended_17 : decode m_TM_ended.2.1 17 = .ok (.goto 4, 3) := by decide +kernel
theorem e_TM_ended_20 : decode m_TM_ended.2.1 20 = .ok (.iconst (-1), 1) := by decide +kernel
theorem e_TM_ended_21 : decode m_TM_ended.2.1 21 = .ok (.ireturn, 1) := by decide +kernel
theorem e_TM_result_0 : decode m_TM_result.2.1 0 = .ok (.aload_n 0, 1) := by decide +kernel
theorem e_TM_result_1 : decode m_TM_result.2.1 1 = .ok (.iload_n 1, 1) := by decide +kernel
theorem e_TM_result_2 : decode m_TM_result.2.1 2 = .ok (.invokevirtual 71, 3) := by decide +kernel
theorem e_TM_result_5 : decode m_TM_result.2.1 5 = .ok (.ifCond .eq 15, 3) := by decide +kernel
theorem e_TM_result_8 : decode m_TM_result.2.1 8 = .ok (.aload_n 0, 1) := by decide +kernel
theorem e_TM_result_9 : decode m_TM_result.2.1 9 = .ok (.getfield 38, 3) := by decide +kernel
theorem e_TM_result_12 : decode m_TM_result.2.1 12 = .ok (.iload_n 1, 1) := by decide +kernel
theorem e_TM_result_13 : decode m_TM_result.2.1 13 = .ok (.aaload, 1) := by decide +kernel
theorem e_TM_result_14 : decode m_TM_result.2.1 14 = .ok (.getfield 208, 3) := by decide +kernel
theorem e_TM_result_17 : decode m_TM_result.2.1 17 = .ok (.goto 4, 3) := by decide +kernel
theorem e_TM_result_20 : decode m_TM_result.2.1 20 = .ok (.iconst 0, 1) := by decide +kernel
theorem e_TM_result_21 : decode m_TM_result.2.1 21 = .ok (.ireturn, 1) := by decide +kernel
theorem e_TM_memory_0 : decode m_TM_memory.2.1 0 = .ok (.iload_n 1, 1) := by decide +kernel
theorem e_TM_memory_1 : decode m_TM_memory.2.1 1 = .ok (.invokestatic 75, 3) := by decide +kernel
theorem e_TM_memory_4 : decode m_TM_memory.2.1 4 = .ok (.ifCond .ne 5, 3) := by decide +kernel
theorem e_TM_memory_7 : decode m_TM_memory.2.1 7 = .ok (.iconst 0, 1) := by decide +kernel
theorem e_TM_memory_8 : decode m_TM_memory.2.1 8 = .ok (.ireturn, 1) := by decide +kernel
theorem e_TM_memory_9 : decode m_TM_memory.2.1 9 = .ok (.iconst 0, 1) := by decide +kernel
theorem e_TM_memory_10 : decode m_TM_memory.2.1 10 = .ok (.istore_n 2, 1) := by decide +kernel
theorem e_TM_memory_11 : decode m_TM_memory.2.1 11 = .ok (.iload_n 2, 1) := by decide +kernel
theorem e_TM_memory_12 : decode m_TM_memory.2.1 12 = .ok (.aload_n 0, 1) := by decide +kernel
theorem e_TM_memory_13 : decode m_TM_memory.2.1 13 = .ok (.getfield 23, 3) := by decide +kernel
theorem e_TM_memory_16 : decode m_TM_memory.2.1 16 = .ok (.if_icmp .gt 28, 3) := by decide +kernel
theorem e_TM_memory_19 : decode m_TM_memory.2.1 19 = .ok (.aload_n 0, 1) := by decide +kernel
theorem e_TM_memory_20 : decode m_TM_memory.2.1 20 = .ok (.iload_n 2, 1) := by decide +kernel
theorem e_TM_memory_21 : decode m_TM_memory.2.1 21 = .ok (.iload_n 1, 1) := by decide +kernel
theorem e_TM_memory_22 : decode m_TM_memory.2.1 22 = .ok (.invokevirtual 159, 3) := by decide +kernel
theorem e_TM_memory_25 : decode m_TM_memory.2.1 25 = .ok (.astore_n 3, 1) := by decide +kernel
theorem e_TM_memory_26 : decode m_TM_memory.2.1 26 = .ok (.aload_n 3, 1) := by decide +kernel
theorem e_TM_memory_27 : decode m_TM_memory.2.1 27 = .ok (.getfield 57, 3) := by decide +kernel
theorem e_TM_memory_30 : decode m_TM_memory.2.1 30 = .ok (.ifCond .eq 8, 3) := by decide +kernel
theorem e_TM_memory_33 : decode m_TM_memory.2.1 33 = .ok (.aload_n 3, 1) := by decide +kernel
theorem e_TM_memory_34 : decode m_TM_memory.2.1 34 = .ok (.getfield 183, 3) := by decide +kernel
theorem e_TM_memory_37 : decode m_TM_memory.2.1 37 = .ok (.ireturn, 1) := by decide +kernel
theorem e_TM_memory_38 : decode m_TM_memory.2.1 38 = .ok (.iinc 2 1, 3) := by decide +kernel
theorem e_TM_memory_41 : decode m_TM_memory.2.1 41 = .ok (.goto (-30), 3) := by decide +kernel
theorem e_TM_memory_44 : decode m_TM_memory.2.1 44 = .ok (.iconst 0, 1) := by decide +kernel
theorem e_TM_memory_45 : decode m_TM_memory.2.1 45 = .ok (.istore_n 2, 1) := by decide +kernel
theorem e_TM_memory_46 : decode m_TM_memory.2.1 46 = .ok (.iload_n 2, 1) := by decide +kernel
theorem e_TM_memory_47 : decode m_TM_memory.2.1 47 = .ok (.aload_n 0, 1) := by decide +kernel
theorem e_TM_memory_48 : decode m_TM_memory.2.1 48 = .ok (.getfield 67, 3) := by decide +kernel
theorem e_TM_memory_51 : decode m_TM_memory.2.1 51 = .ok (.invokevirtual 170, 3) := by decide +kernel
theorem e_TM_memory_54 : decode m_TM_memory.2.1 54 = .ok (.if_icmp .ge 38, 3) := by decide +kernel
theorem e_TM_memory_57 : decode m_TM_memory.2.1 57 = .ok (.aload_n 0, 1) := by decide +kernel
theorem e_TM_memory_58 : decode m_TM_memory.2.1 58 = .ok (.getfield 67, 3) := by decide +kernel
theorem e_TM_memory_61 : decode m_TM_memory.2.1 61 = .ok (.iload_n 2, 1) := by decide +kernel
theorem e_TM_memory_62 : decode m_TM_memory.2.1 62 = .ok (.invokevirtual 174, 3) := by decide +kernel
theorem e_TM_memory_65 : decode m_TM_memory.2.1 65 = .ok (.astore_n 3, 1) := by decide +kernel
theorem e_TM_memory_66 : decode m_TM_memory.2.1 66 = .ok (.aload_n 3, 1) := by decide +kernel
theorem e_TM_memory_67 : decode m_TM_memory.2.1 67 = .ok (.getfield 211, 3) := by decide +kernel
theorem e_TM_memory_70 : decode m_TM_memory.2.1 70 = .ok (.ifCond .eq 16, 3) := by decide +kernel
theorem e_TM_memory_73 : decode m_TM_memory.2.1 73 = .ok (.aload_n 3, 1) := by decide +kernel
theorem e_TM_memory_74 : decode m_TM_memory.2.1 74 = .ok (.getfield 122, 3) := by decide +kernel
theorem e_TM_memory_77 : decode m_TM_memory.2.1 77 = .ok (.iload_n 1, 1) := by decide +kernel
theorem e_TM_memory_78 : decode m_TM_memory.2.1 78 = .ok (.if_icmp .ne 8, 3) := by decide +kernel
theorem e_TM_memory_81 : decode m_TM_memory.2.1 81 = .ok (.aload_n 3, 1) := by decide +kernel
theorem e_TM_memory_82 : decode m_TM_memory.2.1 82 = .ok (.getfield 212, 3) := by decide +kernel
theorem e_TM_memory_85 : decode m_TM_memory.2.1 85 = .ok (.ireturn, 1) := by decide +kernel
theorem e_TM_memory_86 : decode m_TM_memory.2.1 86 = .ok (.iinc 2 1, 3) := by decide +kernel
theorem e_TM_memory_89 : decode m_TM_memory.2.1 89 = .ok (.goto (-43), 3) := by decide +kernel
theorem e_TM_memory_92 : decode m_TM_memory.2.1 92 = .ok (.iconst 0, 1) := by decide +kernel
theorem e_TM_memory_93 : decode m_TM_memory.2.1 93 = .ok (.ireturn, 1) := by decide +kernel
theorem e_TM_clamp_0 : decode m_TM_clamp.2.1 0 = .ok (.iload_n 1, 1) := by decide +kernel
theorem e_TM_clamp_1 : decode m_TM_clamp.2.1 1 = .ok (.iload_n 2, 1) := by decide +kernel
theorem e_TM_clamp_2 : decode m_TM_clamp.2.1 2 = .ok (.iload_n 0, 1) := by decide +kernel
theorem e_TM_clamp_3 : decode m_TM_clamp.2.1 3 = .ok (.invokestatic 213, 3) := by decide +kernel
theorem e_TM_clamp_6 : decode m_TM_clamp.2.1 6 = .ok (.invokestatic 219, 3) := by decide +kernel
theorem e_TM_clamp_9 : decode m_TM_clamp.2.1 9 = .ok (.ireturn, 1) := by decide +kernel
theorem e_TM_isCore_0 : decode m_TM_isCore.2.1 0 = .ok (.iload_n 1, 1) := by decide +kernel
theorem e_TM_isCore_1 : decode m_TM_isCore.2.1 1 = .ok (.ifCond .lt 15, 3) := by decide +kernel
theorem e_TM_isCore_4 : decode m_TM_isCore.2.1 4 = .ok (.iload_n 1, 1) := by decide +kernel
theorem e_TM_isCore_5 : decode m_TM_isCore.2.1 5 = .ok (.aload_n 0, 1) := by decide +kernel
theorem e_TM_isCore_6 : decode m_TM_isCore.2.1 6 = .ok (.getfield 13, 3) := by decide +kernel
theorem e_TM_isCore_9 : decode m_TM_isCore.2.1 9 = .ok (.if_icmp .ge 7, 3) := by decide +kernel
theorem e_TM_isCore_12 : decode m_TM_isCore.2.1 12 = .ok (.iconst 1, 1) := by decide +kernel
theorem e_TM_isCore_13 : decode m_TM_isCore.2.1 13 = .ok (.goto 4, 3) := by decide +kernel
theorem e_TM_isCore_16 : decode m_TM_isCore.2.1 16 = .ok (.iconst 0, 1) := by decide +kernel
theorem e_TM_isCore_17 : decode m_TM_isCore.2.1 17 = .ok (.ireturn, 1) := by decide +kernel
theorem e_TM_isNode_0 : decode m_TM_isNode.2.1 0 = .ok (.iload_n 1, 1) := by decide +kernel
theorem e_TM_isNode_1 : decode m_TM_isNode.2.1 1 = .ok (.ifCond .lt 15, 3) := by decide +kernel
theorem e_TM_isNode_4 : decode m_TM_isNode.2.1 4 = .ok (.iload_n 1, 1) := by decide +kernel
theorem e_TM_isNode_5 : decode m_TM_isNode.2.1 5 = .ok (.aload_n 0, 1) := by decide +kernel
theorem e_TM_isNode_6 : decode m_TM_isNode.2.1 6 = .ok (.getfield 23, 3) := by decide +kernel
theorem e_TM_isNode_9 : decode m_TM_isNode.2.1 9 = .ok (.if_icmp .gt 7, 3) := by decide +kernel
theorem e_TM_isNode_12 : decode m_TM_isNode.2.1 12 = .ok (.iconst 1, 1) := by decide +kernel
theorem e_TM_isNode_13 : decode m_TM_isNode.2.1 13 = .ok (.goto 4, 3) := by decide +kernel
theorem e_TM_isNode_16 : decode m_TM_isNode.2.1 16 = .ok (.iconst 0, 1) := by decide +kernel
theorem e_TM_isNode_17 : decode m_TM_isNode.2.1 17 = .ok (.ireturn, 1) := by decide +kernel
theorem e_TM_isBlock_0 : decode m_TM_isBlock.2.1 0 = .ok (.iload_n 0, 1) := by decide +kernel
theorem e_TM_isBlock_1 : decode m_TM_isBlock.2.1 1 = .ok (.ifCond .lt 12, 3) := by decide +kernel
theorem e_TM_isBlock_4 : decode m_TM_isBlock.2.1 4 = .ok (.iload_n 0, 1) := by decide +kernel
theorem e_TM_isBlock_5 : decode m_TM_isBlock.2.1 5 = .ok (.iconst 2, 1) := by decide +kernel
theorem e_TM_isBlock_6 : decode m_TM_isBlock.2.1 6 = .ok (.if_icmp .ge 7, 3) := by decide +kernel
theorem e_TM_isBlock_9 : decode m_TM_isBlock.2.1 9 = .ok (.iconst 1, 1) := by decide +kernel
theorem e_TM_isBlock_10 : decode m_TM_isBlock.2.1 10 = .ok (.goto 4, 3) := by decide +kernel
theorem e_TM_isBlock_13 : decode m_TM_isBlock.2.1 13 = .ok (.iconst 0, 1) := by decide +kernel
theorem e_TM_isBlock_14 : decode m_TM_isBlock.2.1 14 = .ok (.ireturn, 1) := by decide +kernel
theorem e_TM_share_0 : decode m_TM_share.2.1 0 = .ok (.aload_n 0, 1) := by decide +kernel
theorem e_TM_share_1 : decode m_TM_share.2.1 1 = .ok (.getfield 31, 3) := by decide +kernel
theorem e_TM_share_4 : decode m_TM_share.2.1 4 = .ok (.iload_n 1, 1) := by decide +kernel
theorem e_TM_share_5 : decode m_TM_share.2.1 5 = .ok (.iconst 2, 1) := by decide +kernel
theorem e_TM_share_6 : decode m_TM_share.2.1 6 = .ok (.imul, 1) := by decide +kernel
theorem e_TM_share_7 : decode m_TM_share.2.1 7 = .ok (.iload_n 2, 1) := by decide +kernel
theorem e_TM_share_8 : decode m_TM_share.2.1 8 = .ok (.iadd, 1) := by decide +kernel
theorem e_TM_share_9 : decode m_TM_share.2.1 9 = .ok (.aaload, 1) := by decide +kernel
theorem e_TM_share_10 : decode m_TM_share.2.1 10 = .ok (.areturn, 1) := by decide +kernel
theorem e_TM_canEnd_0 : decode m_TM_canEnd.2.1 0 = .ok (.aload_n 0, 1) := by decide +kernel
theorem e_TM_canEnd_1 : decode m_TM_canEnd.2.1 1 = .ok (.getfield 38, 3) := by decide +kernel
theorem e_TM_canEnd_4 : decode m_TM_canEnd.2.1 4 = .ok (.iload_n 1, 1) := by decide +kernel
theorem e_TM_canEnd_5 : decode m_TM_canEnd.2.1 5 = .ok (.aaload, 1) := by decide +kernel
theorem e_TM_canEnd_6 : decode m_TM_canEnd.2.1 6 = .ok (.astore_n 2, 1) := by decide +kernel
theorem e_TM_canEnd_7 : decode m_TM_canEnd.2.1 7 = .ok (.aload_n 0, 1) := by decide +kernel
theorem e_TM_canEnd_8 : decode m_TM_canEnd.2.1 8 = .ok (.iload_n 1, 1) := by decide +kernel
theorem e_TM_canEnd_9 : decode m_TM_canEnd.2.1 9 = .ok (.aload_n 2, 1) := by decide +kernel
theorem e_TM_canEnd_10 : decode m_TM_canEnd.2.1 10 = .ok (.getfield 222, 3) := by decide +kernel
theorem e_TM_canEnd_13 : decode m_TM_canEnd.2.1 13 = .ok (.invokevirtual 159, 3) := by decide +kernel
theorem e_TM_canEnd_16 : decode m_TM_canEnd.2.1 16 = .ok (.astore_n 3, 1) := by decide +kernel
theorem e_TM_canEnd_17 : decode m_TM_canEnd.2.1 17 = .ok (.aload_n 3, 1) := by decide +kernel
theorem e_TM_canEnd_18 : decode m_TM_canEnd.2.1 18 = .ok (.getfield 61, 3) := by decide +kernel
theorem e_TM_canEnd_21 : decode m_TM_canEnd.2.1 21 = .ok (.ifCond .eq 25, 3) := by decide +kernel
theorem e_TM_canEnd_24 : decode m_TM_canEnd.2.1 24 = .ok (.aload_n 2, 1) := by decide +kernel
theorem e_TM_canEnd_25 : decode m_TM_canEnd.2.1 25 = .ok (.getfield 223, 3) := by decide +kernel
theorem e_TM_canEnd_28 : decode m_TM_canEnd.2.1 28 = .ok (.ifCond .eq 14, 3) := by decide +kernel
theorem e_TM_canEnd_31 : decode m_TM_canEnd.2.1 31 = .ok (.aload_n 3, 1) := by decide +kernel
theorem e_TM_canEnd_32 : decode m_TM_canEnd.2.1 32 = .ok (.getfield 54, 3) := by decide +kernel
theorem e_TM_canEnd_35 : decode m_TM_canEnd.2.1 35 = .ok (.aload_n 0, 1) := by decide +kernel
theorem e_TM_canEnd_36 : decode m_TM_canEnd.2.1 36 = .ok (.getfield 26, 3) := by decide +kernel
theorem e_TM_canEnd_39 : decode m_TM_canEnd.2.1 39 = .ok (.if_icmp .ne 7, 3) := by decide +kernel
theorem e_TM_canEnd_42 : decode m_TM_canEnd.2.1 42 = .ok (.iconst 1, 1) := by decide +kernel
theorem e_TM_canEnd_43 : decode m_TM_canEnd.2.1 43 = .ok (.goto 4, 3) := by decide +kernel
theorem e_TM_canEnd_46 : decode m_TM_canEnd.2.1 46 = .ok (.iconst 0, 1) := by decide +kernel
theorem e_TM_canEnd_47 : decode m_TM_canEnd.2.1 47 = .ok (.ireturn, 1) := by decide +kernel
theorem e_TM_endd_0 : decode m_TM_endd.2.1 0 = .ok (.aload_n 0, 1) := by decide +kernel
theorem e_TM_endd_1 : decode m_TM_endd.2.1 1 = .ok (.getfield 38, 3) := by decide +kernel
theorem e_TM_endd_4 : decode m_TM_endd.2.1 4 = .ok (.iload_n 1, 1) := by decide +kernel
theorem e_TM_endd_5 : decode m_TM_endd.2.1 5 = .ok (.aaload, 1) := by decide +kernel
theorem e_TM_endd_6 : decode m_TM_endd.2.1 6 = .ok (.astore_n 2, 1) := by decide +kernel
theorem e_TM_endd_7 : decode m_TM_endd.2.1 7 = .ok (.aload_n 0, 1) := by decide +kernel
theorem e_TM_endd_8 : decode m_TM_endd.2.1 8 = .ok (.iload_n 1, 1) := by decide +kernel
theorem e_TM_endd_9 : decode m_TM_endd.2.1 9 = .ok (.aload_n 2, 1) := by decide +kernel
theorem e_TM_endd_10 : decode m_TM_endd.2.1 10 = .ok (.getfield 222, 3) := by decide +kernel
theorem e_TM_endd_13 : decode m_TM_endd.2.1 13 = .ok (.invokevirtual 159, 3) := by decide +kernel
theorem e_TM_endd_16 : decode m_TM_endd.2.1 16 = .ok (.astore_n 3, 1) := by decide +kernel
theorem e_TM_endd_17 : decode m_TM_endd.2.1 17 = .ok (.aload_n 2, 1) := by decide +kernel
theorem e_TM_endd_18 : decode m_TM_endd.2.1 18 = .ok (.aload_n 3, 1) := by decide +kernel
theorem e_TM_endd_19 : decode m_TM_endd.2.1 19 = .ok (.getfield 183, 3) := by decide +kernel
theorem e_TM_endd_22 : decode m_TM_endd.2.1 22 = .ok (.putfield 208, 3) := by decide +kernel
theorem e_TM_endd_25 : decode m_TM_endd.2.1 25 = .ok (.aload_n 2, 1) := by decide +kernel
theorem e_TM_endd_26 : decode m_TM_endd.2.1 26 = .ok (.getfield 223, 3) := by decide +kernel
theorem e_TM_endd_29 : decode m_TM_endd.2.1 29 = .ok (.ifCond .eq 11, 3) := by decide +kernel
theorem e_TM_endd_32 : decode m_TM_endd.2.1 32 = .ok (.aload_n 3, 1) := by decide +kernel
theorem e_TM_endd_33 : decode m_TM_endd.2.1 33 = .ok (.aload_n 2, 1) := by decide +kernel
theorem e_TM_endd_34 : decode m_TM_endd.2.1 34 = .ok (.getfield 224, 3) := by decide +kernel
theorem e_TM_endd_37 : decode m_TM_endd.2.1 37 = .ok (.putfield 183, 3) := by decide +kernel
theorem e_TM_endd_40 : decode m_TM_endd.2.1 40 = .ok (.aload_n 2, 1) := by decide +kernel
theorem e_TM_endd_41 : decode m_TM_endd.2.1 41 = .ok (.iconst 0, 1) := by decide +kernel
theorem e_TM_endd_42 : decode m_TM_endd.2.1 42 = .ok (.putfield 78, 3) := by decide +kernel
theorem e_TM_endd_45 : decode m_TM_endd.2.1 45 = .ok (.aload_n 2, 1) := by decide +kernel
theorem e_TM_endd_46 : decode m_TM_endd.2.1 46 = .ok (.dup, 1) := by decide +kernel
theorem e_TM_endd_47 : decode m_TM_endd.2.1 47 = .ok (.getfield 205, 3) := by decide +kernel
theorem e_TM_endd_50 : decode m_TM_endd.2.1 50 = .ok (.iconst 1, 1) := by decide +kernel
theorem e_TM_endd_51 : decode m_TM_endd.2.1 51 = .ok (.iadd, 1) := by decide +kernel
theorem e_TM_endd_52 : decode m_TM_endd.2.1 52 = .ok (.putfield 205, 3) := by decide +kernel
theorem e_TM_endd_55 : decode m_TM_endd.2.1 55 = .ok (.aload_n 2, 1) := by decide +kernel
theorem e_TM_endd_56 : decode m_TM_endd.2.1 56 = .ok (.getfield 202, 3) := by decide +kernel
theorem e_TM_endd_59 : decode m_TM_endd.2.1 59 = .ok (.ifCond .eq 29, 3) := by decide +kernel
theorem e_TM_endd_62 : decode m_TM_endd.2.1 62 = .ok (.aload_n 0, 1) := by decide +kernel
theorem e_TM_endd_63 : decode m_TM_endd.2.1 63 = .ok (.getfield 67, 3) := by decide +kernel
theorem e_TM_endd_66 : decode m_TM_endd.2.1 66 = .ok (.bipush 6, 2) := by decide +kernel
theorem e_TM_endd_68 : decode m_TM_endd.2.1 68 = .ok (.iload_n 1, 1) := by decide +kernel
theorem e_TM_endd_69 : decode m_TM_endd.2.1 69 = .ok (.aload_n 0, 1) := by decide +kernel
theorem e_TM_endd_70 : decode m_TM_endd.2.1 70 = .ok (.getfield 23, 3) := by decide +kernel
theorem e_TM_endd_73 : decode m_TM_endd.2.1 73 = .ok (.iconst 0, 1) := by decide +kernel
theorem e_TM_endd_74 : decode m_TM_endd.2.1 74 = .ok (.invokevirtual 225, 3) := by decide +kernel
theorem e_TM_endd_77 : decode m_TM_endd.2.1 77 = .ok (.astore 4, 2) := by decide +kernel
theorem e_TM_endd_79 : decode m_TM_endd.2.1 79 = .ok (.aload 4, 2) := by decide +kernel
theorem e_TM_endd_81 : decode m_TM_endd.2.1 81 = .ok (.aload_n 2, 1) := by decide +kernel
theorem e_TM_endd_82 : decode m_TM_endd.2.1 82 = .ok (.getfield 229, 3) := by decide +kernel
theorem e_TM_endd_85 : decode m_TM_endd.2.1 85 = .ok (.putfield 139, 3) := by decide +kernel
theorem e_TM_endd_88 : decode m_TM_endd.2.1 88 = .ok (.return_, 1) := by decide +kernel
theorem e_TM_ask_0 : decode m_TM_ask.2.1 0 = .ok (.aload_n 0, 1) := by decide +kernel
theorem e_TM_ask_1 : decode m_TM_ask.2.1 1 = .ok (.getfield 38, 3) := by decide +kernel
theorem e_TM_ask_4 : decode m_TM_ask.2.1 4 = .ok (.iload_n 1, 1) := by decide +kernel
theorem e_TM_ask_5 : decode m_TM_ask.2.1 5 = .ok (.aaload, 1) := by decide +kernel
theorem e_TM_ask_6 : decode m_TM_ask.2.1 6 = .ok (.astore_n 2, 1) := by decide +kernel
theorem e_TM_ask_7 : decode m_TM_ask.2.1 7 = .ok (.iconst 0, 1) := by decide +kernel
theorem e_TM_ask_8 : decode m_TM_ask.2.1 8 = .ok (.istore_n 3, 1) := by decide +kernel
theorem e_TM_ask_9 : decode m_TM_ask.2.1 9 = .ok (.iload_n 3, 1) := by decide +kernel
theorem e_TM_ask_10 : decode m_TM_ask.2.1 10 = .ok (.aload_n 0, 1) := by decide +kernel
theorem e_TM_ask_11 : decode m_TM_ask.2.1 11 = .ok (.getfield 23, 3) := by decide +kernel
theorem e_TM_ask_14 : decode m_TM_ask.2.1 14 = .ok (.if_icmp .gt 40, 3) := by decide +kernel
theorem e_TM_ask_17 : decode m_TM_ask.2.1 17 = .ok (.iload_n 3, 1) := by decide +kernel
theorem e_TM_ask_18 : decode m_TM_ask.2.1 18 = .ok (.iload_n 1, 1) := by decide +kernel
theorem e_TM_ask_19 : decode m_TM_ask.2.1 19 = .ok (.if_icmp .eq 29, 3) := by decide +kernel
theorem e_TM_ask_22 : decode m_TM_ask.2.1 22 = .ok (.aload_n 0, 1) := by decide +kernel
theorem e_TM_ask_23 : decode m_TM_ask.2.1 23 = .ok (.getfield 67, 3) := by decide +kernel
theorem e_TM_ask_26 : decode m_TM_ask.2.1 26 = .ok (.aload_n 2, 1) := by decide +kernel
theorem e_TM_ask_27 : decode m_TM_ask.2.1 27 = .ok (.getfield 223, 3) := by decide +kernel
theorem e_TM_ask_30 : decode m_TM_ask.2.1 30 = .ok (.ifCond .eq 7, 3) := by decide +kernel
theorem e_TM_ask_33 : decode m_TM_ask.2.1 33 = .ok (.iconst 2, 1) := by decide +kernel
theorem e_TM_ask_34 : decode m_TM_ask.2.1 34 = .ok (.goto 4, 3) := by decide +kernel
theorem e_TM_ask_37 : decode m_TM_ask.2.1 37 = .ok (.iconst 1, 1) := by decide +kernel
theorem e_TM_ask_38 : decode m_TM_ask.2.1 38 = .ok (.iload_n 1, 1) := by decide +kernel
theorem e_TM_ask_39 : decode m_TM_ask.2.1 39 = .ok (.iload_n 3, 1) := by decide +kernel
theorem e_TM_ask_40 : decode m_TM_ask.2.1 40 = .ok (.aload_n 2, 1) := by decide +kernel
theorem e_TM_ask_41 : decode m_TM_ask.2.1 41 = .ok (.getfield 222, 3) := by decide +kernel
theorem e_TM_ask_44 : decode m_TM_ask.2.1 44 = .ok (.invokevirtual 225, 3) := by decide +kernel
theorem e_TM_ask_47 : decode m_TM_ask.2.1 47 = .ok (.pop, 1) := by decide +kernel
theorem e_TM_ask_48 : decode m_TM_ask.2.1 48 = .ok (.iinc 3 1, 3) := by decide +kernel
theorem e_TM_ask_51 : decode m_TM_ask.2.1 51 = .ok (.goto (-42), 3) := by decide +kernel
theorem e_TM_ask_54 : decode m_TM_ask.2.1 54 = .ok (.return_, 1) := by decide +kernel
theorem e_TM_askAgain_0 : decode m_TM_askAgain.2.1 0 = .ok (.aload_n 0, 1) := by decide +kernel
theorem e_TM_askAgain_1 : decode m_TM_askAgain.2.1 1 = .ok (.getfield 38, 3) := by decide +kernel
theorem e_TM_askAgain_4 : decode m_TM_askAgain.2.1 4 = .ok (.iload_n 1, 1) := by decide +kernel
theorem e_TM_askAgain_5 : decode m_TM_askAgain.2.1 5 = .ok (.aaload, 1) := by decide +kernel
theorem e_TM_askAgain_6 : decode m_TM_askAgain.2.1 6 = .ok (.astore_n 2, 1) := by decide +kernel
theorem e_TM_askAgain_7 : decode m_TM_askAgain.2.1 7 = .ok (.aload_n 2, 1) := by decide +kernel
theorem e_TM_askAgain_8 : decode m_TM_askAgain.2.1 8 = .ok (.getfield 199, 3) := by decide +kernel
theorem e_TM_askAgain_11 : decode m_TM_askAgain.2.1 11 = .ok (.aload_n 0, 1) := by decide +kernel
theorem e_TM_askAgain_12 : decode m_TM_askAgain.2.1 12 = .ok (.getfield 17, 3) := by decide +kernel
theorem e_TM_askAgain_15 : decode m_TM_askAgain.2.1 15 = .ok (.if_icmp .ge 32, 3) := by decide +kernel
theorem e_TM_askAgain_18 : decode m_TM_askAgain.2.1 18 = .ok (.aload_n 2, 1) := by decide +kernel
theorem e_TM_askAgain_19 : decode m_TM_askAgain.2.1 19 = .ok (.dup, 1) := by decide +kernel
theorem e_TM_askAgain_20 : decode m_TM_askAgain.2.1 20 = .ok (.getfield 199, 3) := by decide +kernel
theorem e_TM_askAgain_23 : decode m_TM_askAgain.2.1 23 = .ok (.iconst 1, 1) := by decide +kernel
theorem e_TM_askAgain_24 : decode m_TM_askAgain.2.1 24 = .ok (.iadd, 1) := by decide +kernel
theorem e_TM_askAgain_25 : decode m_TM_askAgain.2.1 25 = .ok (.putfield 199, 3) := by decide +kernel
theorem e_TM_askAgain_28 : decode m_TM_askAgain.2.1 28 = .ok (.aload_n 2, 1) := by decide +kernel
theorem e_TM_askAgain_29 : decode m_TM_askAgain.2.1 29 = .ok (.aload_n 0, 1) := by decide +kernel
theorem e_TM_askAgain_30 : decode m_TM_askAgain.2.1 30 = .ok (.getfield 92, 3) := by decide +kernel
theorem e_TM_askAgain_33 : decode m_TM_askAgain.2.1 33 = .ok (.aload_n 0, 1) := by decide +kernel
theorem e_TM_askAgain_34 : decode m_TM_askAgain.2.1 34 = .ok (.getfield 20, 3) := by decide +kernel
theorem e_TM_askAgain_37 : decode m_TM_askAgain.2.1 37 = .ok (.iadd, 1) := by decide +kernel
theorem e_TM_askAgain_38 : decode m_TM_askAgain.2.1 38 = .ok (.putfield 95, 3) := by decide +kernel
theorem e_TM_askAgain_41 : decode m_TM_askAgain.2.1 41 = .ok (.aload_n 0, 1) := by decide +kernel
theorem e_TM_askAgain_42 : decode m_TM_askAgain.2.1 42 = .ok (.iload_n 1, 1) := by decide +kernel
theorem e_TM_askAgain_43 : decode m_TM_askAgain.2.1 43 = .ok (.invokevirtual 98, 3) := by decide +kernel
theorem e_TM_askAgain_46 : decode m_TM_askAgain.2.1 46 = .ok (.return_, 1) := by decide +kernel
theorem e_TM_askAgain_47 : decode m_TM_askAgain.2.1 47 = .ok (.aload_n 2, 1) := by decide +kernel
theorem e_TM_askAgain_48 : decode m_TM_askAgain.2.1 48 = .ok (.iconst 1, 1) := by decide +kernel
theorem e_TM_askAgain_49 : decode m_TM_askAgain.2.1 49 = .ok (.putfield 202, 3) := by decide +kernel
theorem e_TM_askAgain_52 : decode m_TM_askAgain.2.1 52 = .ok (.aload_n 0, 1) := by decide +kernel
theorem e_TM_askAgain_53 : decode m_TM_askAgain.2.1 53 = .ok (.getfield 67, 3) := by decide +kernel
theorem e_TM_askAgain_56 : decode m_TM_askAgain.2.1 56 = .ok (.iconst 4, 1) := by decide +kernel
theorem e_TM_askAgain_57 : decode m_TM_askAgain.2.1 57 = .ok (.iload_n 1, 1) := by decide +kernel
theorem e_TM_askAgain_58 : decode m_TM_askAgain.2.1 58 = .ok (.aload_n 0, 1) := by decide +kernel
theorem e_TM_askAgain_59 : decode m_TM_askAgain.2.1 59 = .ok (.getfield 23, 3) := by decide +kernel
theorem e_TM_askAgain_62 : decode m_TM_askAgain.2.1 62 = .ok (.aload_n 2, 1) := by decide +kernel
theorem e_TM_askAgain_63 : decode m_TM_askAgain.2.1 63 = .ok (.getfield 222, 3) := by decide +kernel
theorem e_TM_askAgain_66 : decode m_TM_askAgain.2.1 66 = .ok (.invokevirtual 225, 3) := by decide +kernel
theorem e_TM_askAgain_69 : decode m_TM_askAgain.2.1 69 = .ok (.astore_n 3, 1) := by decide +kernel
theorem e_TM_askAgain_70 : decode m_TM_askAgain.2.1 70 = .ok (.aload_n 3, 1) := by decide +kernel
theorem e_TM_askAgain_71 : decode m_TM_askAgain.2.1 71 = .ok (.aload_n 2, 1) := by decide +kernel
theorem e_TM_askAgain_72 : decode m_TM_askAgain.2.1 72 = .ok (.getfield 229, 3) := by decide +kernel
theorem e_TM_askAgain_75 : decode m_TM_askAgain.2.1 75 = .ok (.putfield 139, 3) := by decide +kernel
theorem e_TM_askAgain_78 : decode m_TM_askAgain.2.1 78 = .ok (.aload_n 3, 1) := by decide +kernel
theorem e_TM_askAgain_79 : decode m_TM_askAgain.2.1 79 = .ok (.aload_n 2, 1) := by decide +kernel
theorem e_TM_askAgain_80 : decode m_TM_askAgain.2.1 80 = .ok (.getfield 223, 3) := by decide +kernel
theorem e_TM_askAgain_83 : decode m_TM_askAgain.2.1 83 = .ok (.putfield 142, 3) := by decide +kernel
theorem e_TM_askAgain_86 : decode m_TM_askAgain.2.1 86 = .ok (.return_, 1) := by decide +kernel
theorem e_TM_give_0 : decode m_TM_give.2.1 0 = .ok (.iload 4, 2) := by decide +kernel
theorem e_TM_give_2 : decode m_TM_give.2.1 2 = .ok (.ifCond .ne 4, 3) := by decide +kernel
theorem e_TM_give_5 : decode m_TM_give.2.1 5 = .ok (.return_, 1) := by decide +kernel
theorem e_TM_give_6 : decode m_TM_give.2.1 6 = .ok (.aload_n 0, 1) := by decide +kernel
theorem e_TM_give_7 : decode m_TM_give.2.1 7 = .ok (.iload_n 1, 1) := by decide +kernel
theorem e_TM_give_8 : decode m_TM_give.2.1 8 = .ok (.iload_n 3, 1) := by decide +kernel
theorem e_TM_give_9 : decode m_TM_give.2.1 9 = .ok (.invokevirtual 159, 3) := by decide +kernel
theorem e_TM_give_12 : decode m_TM_give.2.1 12 = .ok (.astore 7, 2) := by decide +kernel
theorem e_TM_give_14 : decode m_TM_give.2.1 14 = .ok (.aload_n 0, 1) := by decide +kernel
theorem e_TM_give_15 : decode m_TM_give.2.1 15 = .ok (.getfield 67, 3) := by decide +kernel
theorem e_TM_give_18 : decode m_TM_give.2.1 18 = .ok (.iconst 3, 1) := by decide +kernel
theorem e_TM_give_19 : decode m_TM_give.2.1 19 = .ok (.iload_n 1, 1) := by decide +kernel
theorem e_TM_give_20 : decode m_TM_give.2.1 20 = .ok (.iload_n 2, 1) := by decide +kernel
theorem e_TM_give_21 : decode m_TM_give.2.1 21 = .ok (.iload_n 3, 1) := by decide +kernel
theorem e_TM_give_22 : decode m_TM_give.2.1 22 = .ok (.invokevirtual 225, 3) := by decide +kernel
theorem e_TM_give_25 : decode m_TM_give.2.1 25 = .ok (.astore 8, 2) := by decide +kernel
theorem e_TM_give_27 : decode m_TM_give.2.1 27 = .ok (.aload 8, 2) := by decide +kernel
theorem e_TM_give_29 : decode m_TM_give.2.1 29 = .ok (.iload 4, 2) := by decide +kernel
theorem e_TM_give_31 : decode m_TM_give.2.1 31 = .ok (.putfield 230, 3) := by decide +kernel
theorem e_TM_give_34 : decode m_TM_give.2.1 34 = .ok (.aload 8, 2) := by decide +kernel
theorem e_TM_give_36 : decode m_TM_give.2.1 36 = .ok (.iload 5, 2) := by decide +kernel
theorem e_TM_give_38 : decode m_TM_give.2.1 38 = .ok (.putfield 211, 3) := by decide +kernel
theorem e_TM_give_41 : decode m_TM_give.2.1 41 = .ok (.aload 8, 2) := by decide +kernel
theorem e_TM_give_43 : decode m_TM_give.2.1 43 = .ok (.iload 6, 2) := by decide +kernel
theorem e_TM_give_45 : decode m_TM_give.2.1 45 = .ok (.putfield 231, 3) := by decide +kernel
theorem e_TM_give_48 : decode m_TM_give.2.1 48 = .ok (.aload 8, 2) := by decide +kernel
theorem e_TM_give_50 : decode m_TM_give.2.1 50 = .ok (.aload 7, 2) := by decide +kernel
theorem e_TM_give_52 : decode m_TM_give.2.1 52 = .ok (.getfield 183, 3) := by decide +kernel
theorem e_TM_give_55 : decode m_TM_give.2.1 55 = .ok (.putfield 212, 3) := by decide +kernel
theorem e_TM_give_58 : decode m_TM_give.2.1 58 = .ok (.aload 7, 2) := by decide +kernel
theorem e_TM_give_60 : decode m_TM_give.2.1 60 = .ok (.iload 4, 2) := by decide +kernel
theorem e_TM_give_62 : decode m_TM_give.2.1 62 = .ok (.iload 5, 2) := by decide +kernel
theorem e_TM_give_64 : decode m_TM_give.2.1 64 = .ok (.invokevirtual 234, 3) := by decide +kernel
theorem e_TM_give_67 : decode m_TM_give.2.1 67 = .ok (.return_, 1) := by decide +kernel
theorem e_TM_giveWay_0 : decode m_TM_giveWay.2.1 0 = .ok (.aload_n 0, 1) := by decide +kernel
theorem e_TM_giveWay_1 : decode m_TM_giveWay.2.1 1 = .ok (.iload_n 1, 1) := by decide +kernel
theorem e_TM_giveWay_2 : decode m_TM_giveWay.2.1 2 = .ok (.iload_n 2, 1) := by decide +kernel
theorem e_TM_giveWay_3 : decode m_TM_giveWay.2.1 3 = .ok (.invokevirtual 159, 3) := by decide +kernel
theorem e_TM_giveWay_6 : decode m_TM_giveWay.2.1 6 = .ok (.astore_n 3, 1) := by decide +kernel
theorem e_TM_giveWay_7 : decode m_TM_giveWay.2.1 7 = .ok (.aload_n 3, 1) := by decide +kernel
theorem e_TM_giveWay_8 : decode m_TM_giveWay.2.1 8 = .ok (.getfield 186, 3) := by decide +kernel
theorem e_TM_giveWay_11 : decode m_TM_giveWay.2.1 11 = .ok (.iconst (-1), 1) := by decide +kernel
theorem e_TM_giveWay_12 : decode m_TM_giveWay.2.1 12 = .ok (.if_icmp .eq 11, 3) := by decide +kernel
theorem e_TM_giveWay_15 : decode m_TM_giveWay.2.1 15 = .ok (.aload_n 3, 1) := by decide +kernel
theorem e_TM_giveWay_16 : decode m_TM_giveWay.2.1 16 = .ok (.getfield 186, 3) := by decide +kernel
theorem e_TM_giveWay_19 : decode m_TM_giveWay.2.1 19 = .ok (.iload_n 1, 1) := by decide +kernel
theorem e_TM_giveWay_20 : decode m_TM_giveWay.2.1 20 = .ok (.if_icmp .ne 4, 3) := by decide +kernel
theorem e_TM_giveWay_23 : decode m_TM_giveWay.2.1 23 = .ok (.return_, 1) := by decide +kernel
theorem e_TM_giveWay_24 : decode m_TM_giveWay.2.1 24 = .ok (.aload_n 3, 1) := by decide +kernel
theorem e_TM_giveWay_25 : decode m_TM_giveWay.2.1 25 = .ok (.getfield 189, 3) := by decide +kernel
theorem e_TM_giveWay_28 : decode m_TM_giveWay.2.1 28 = .ok (.ifCond .eq 28, 3) := by decide +kernel
theorem e_TM_giveWay_31 : decode m_TM_giveWay.2.1 31 = .ok (.aload_n 0, 1) := by decide +kernel
theorem e_TM_giveWay_32 : decode m_TM_giveWay.2.1 32 = .ok (.iload_n 1, 1) := by decide +kernel
theorem e_TM_giveWay_33 : decode m_TM_giveWay.2.1 33 = .ok (.aload_n 3, 1) := by decide +kernel
theorem e_TM_giveWay_34 : decode m_TM_giveWay.2.1 34 = .ok (.getfield 186, 3) := by decide +kernel
theorem e_TM_giveWay_37 : decode m_TM_giveWay.2.1 37 = .ok (.iload_n 2, 1) := by decide +kernel
theorem e_TM_giveWay_38 : decode m_TM_giveWay.2.1 38 = .ok (.aload_n 3, 1) := by decide +kernel
theorem e_TM_giveWay_39 : decode m_TM_giveWay.2.1 39 = .ok (.getfield 54, 3) := by decide +kernel
theorem e_TM_giveWay_42 : decode m_TM_giveWay.2.1 42 = .ok (.aload_n 3, 1) := by decide +kernel
theorem e_TM_giveWay_43 : decode m_TM_giveWay.2.1 43 = .ok (.getfield 57, 3) := by decide +kernel
theorem e_TM_giveWay_46 : decode m_TM_giveWay.2.1 46 = .ok (.aload_n 3, 1) := by decide +kernel
theorem e_TM_giveWay_47 : decode m_TM_giveWay.2.1 47 = .ok (.getfield 57, 3) := by decide +kernel
theorem e_TM_giveWay_50 : decode m_TM_giveWay.2.1 50 = .ok (.invokevirtual 166, 3) := by decide +kernel
theorem e_TM_giveWay_53 : decode m_TM_giveWay.2.1 53 = .ok (.goto 23, 3) := by decide +kernel
theorem e_TM_giveWay_56 : decode m_TM_giveWay.2.1 56 = .ok (.aload_n 3, 1) := by decide +kernel
theorem e_TM_giveWay_57 : decode m_TM_giveWay.2.1 57 = .ok (.getfield 57, 3) := by decide +kernel
theorem e_TM_giveWay_60 : decode m_TM_giveWay.2.1 60 = .ok (.ifCond .eq 16, 3) := by decide +kernel
theorem e_TM_giveWay_63 : decode m_TM_giveWay.2.1 63 = .ok (.aload_n 0, 1) := by decide +kernel
theorem e_TM_giveWay_64 : decode m_TM_giveWay.2.1 64 = .ok (.iload_n 1, 1) := by decide +kernel
theorem e_TM_giveWay_65 : decode m_TM_giveWay.2.1 65 = .ok (.aload_n 3, 1) := by decide +kernel
theorem e_TM_giveWay_66 : decode m_TM_giveWay.2.1 66 = .ok (.getfield 186, 3) := by decide +kernel
theorem e_TM_giveWay_69 : decode m_TM_giveWay.2.1 69 = .ok (.iload_n 2, 1) := by decide +kernel
theorem e_TM_giveWay_70 : decode m_TM_giveWay.2.1 70 = .ok (.iconst 1, 1) := by decide +kernel
theorem e_TM_giveWay_71 : decode m_TM_giveWay.2.1 71 = .ok (.iconst 1, 1) := by decide +kernel
theorem e_TM_giveWay_72 : decode m_TM_giveWay.2.1 72 = .ok (.iconst 1, 1) := by decide +kernel
theorem e_TM_giveWay_73 : decode m_TM_giveWay.2.1 73 = .ok (.invokevirtual 166, 3) := by decide +kernel
theorem e_TM_giveWay_76 : decode m_TM_giveWay.2.1 76 = .ok (.return_, 1) := by decide +kernel
theorem e_TM_onRead_0 : decode m_TM_onRead.2.1 0 = .ok (.aload_n 0, 1) := by decide +kernel
theorem e_TM_onRead_1 : decode m_TM_onRead.2.1 1 = .ok (.iload_n 1, 1) := by decide +kernel
theorem e_TM_onRead_2 : decode m_TM_onRead.2.1 2 = .ok (.iload_n 2, 1) := by decide +kernel
theorem e_TM_onRead_3 : decode m_TM_onRead.2.1 3 = .ok (.invokevirtual 159, 3) := by decide +kernel
theorem e_TM_onRead_6 : decode m_TM_onRead.2.1 6 = .ok (.astore 4, 2) := by decide +kernel
theorem e_TM_onRead_8 : decode m_TM_onRead.2.1 8 = .ok (.aload 4, 2) := by decide +kernel
theorem e_TM_onRead_10 : decode m_TM_onRead.2.1 10 = .ok (.getfield 186, 3) := by decide +kernel
theorem e_TM_onRead_13 : decode m_TM_onRead.2.1 13 = .ok (.iconst (-1), 1) := by decide +kernel
theorem e_TM_onRead_14 : decode m_TM_onRead.2.1 14 = .ok (.if_icmp .ne 11, 3) := by decide +kernel
theorem e_TM_onRead_17 : decode m_TM_onRead.2.1 17 = .ok (.aload 4, 2) := by decide +kernel
theorem e_TM_onRead_19 : decode m_TM_onRead.2.1 19 = .ok (.getfield 57, 3) := by decide +kernel
theorem e_TM_onRead_22 : decode m_TM_onRead.2.1 22 = .ok (.ifCond .ne 4, 3) := by decide +kernel
theorem e_TM_onRead_25 : decode m_TM_onRead.2.1 25 = .ok (.return_, 1) := by decide +kernel
theorem e_TM_onRead_26 : decode m_TM_onRead.2.1 26 = .ok (.aload 4, 2) := by decide +kernel
theorem e_TM_onRead_28 : decode m_TM_onRead.2.1 28 = .ok (.getfield 54, 3) := by decide +kernel
theorem e_TM_onRead_31 : decode m_TM_onRead.2.1 31 = .ok (.iconst 1, 1) := by decide +kernel
theorem e_TM_onRead_32 : decode m_TM_onRead.2.1 32 = .ok (.if_icmp .ne 7, 3) := by decide +kernel
theorem e_TM_onRead_35 : decode m_TM_onRead.2.1 35 = .ok (.iconst 1, 1) := by decide +kernel
theorem e_TM_onRead_36 : decode m_TM_onRead.2.1 36 = .ok (.goto 4, 3) := by decide +kernel
theorem e_TM_onRead_39 : decode m_TM_onRead.2.1 39 = .ok (.iconst 0, 1) := by decide +kernel
theorem e_TM_onRead_40 : decode m_TM_onRead.2.1 40 = .ok (.istore 5, 2) := by decide +kernel
theorem e_TM_onRead_42 : decode m_TM_onRead.2.1 42 = .ok (.aload_n 0, 1) := by decide +kernel
theorem e_TM_onRead_43 : decode m_TM_onRead.2.1 43 = .ok (.iload_n 1, 1) := by decide +kernel
theorem e_TM_onRead_44 : decode m_TM_onRead.2.1 44 = .ok (.iload_n 3, 1) := by decide +kernel
theorem e_TM_onRead_45 : decode m_TM_onRead.2.1 45 = .ok (.iload_n 2, 1) := by decide +kernel
theorem e_TM_onRead_46 : decode m_TM_onRead.2.1 46 = .ok (.iconst 1, 1) := by decide +kernel
theorem e_TM_onRead_47 : decode m_TM_onRead.2.1 47 = .ok (.iload 5, 2) := by decide +kernel
theorem e_TM_onRead_49 : decode m_TM_onRead.2.1 49 = .ok (.iconst 1, 1) := by decide +kernel
theorem e_TM_onRead_50 : decode m_TM_onRead.2.1 50 = .ok (.invokevirtual 166, 3) := by decide +kernel
theorem e_TM_onRead_53 : decode m_TM_onRead.2.1 53 = .ok (.return_, 1) := by decide +kernel
theorem e_TM_onWrite_0 : decode m_TM_onWrite.2.1 0 = .ok (.aload_n 0, 1) := by decide +kernel
theorem e_TM_onWrite_1 : decode m_TM_onWrite.2.1 1 = .ok (.iload_n 1, 1) := by decide +kernel
theorem e_TM_onWrite_2 : decode m_TM_onWrite.2.1 2 = .ok (.iload_n 2, 1) := by decide +kernel
theorem e_TM_onWrite_3 : decode m_TM_onWrite.2.1 3 = .ok (.invokevirtual 159, 3) := by decide +kernel
theorem e_TM_onWrite_6 : decode m_TM_onWrite.2.1 6 = .ok (.astore 4, 2) := by decide +kernel
theorem e_TM_onWrite_8 : decode m_TM_onWrite.2.1 8 = .ok (.aload 4, 2) := by decide +kernel
theorem e_TM_onWrite_10 : decode m_TM_onWrite.2.1 10 = .ok (.getfield 186, 3) := by decide +kernel
theorem e_TM_onWrite_13 : decode m_TM_onWrite.2.1 13 = .ok (.iconst (-1), 1) := by decide +kernel
theorem e_TM_onWrite_14 : decode m_TM_onWrite.2.1 14 = .ok (.if_icmp .ne 25, 3) := by decide +kernel
theorem e_TM_onWrite_17 : decode m_TM_onWrite.2.1 17 = .ok (.aload_n 0, 1) := by decide +kernel
theorem e_TM_onWrite_18 : decode m_TM_onWrite.2.1 18 = .ok (.iload_n 1, 1) := by decide +kernel
theorem e_TM_onWrite_19 : decode m_TM_onWrite.2.1 19 = .ok (.iload_n 3, 1) := by decide +kernel
theorem e_TM_onWrite_20 : decode m_TM_onWrite.2.1 20 = .ok (.iload_n 2, 1) := by decide +kernel
theorem e_TM_onWrite_21 : decode m_TM_onWrite.2.1 21 = .ok (.aload 4, 2) := by decide +kernel
theorem e_TM_onWrite_23 : decode m_TM_onWrite.2.1 23 = .ok (.getfield 54, 3) := by decide +kernel
theorem e_TM_onWrite_26 : decode m_TM_onWrite.2.1 26 = .ok (.aload 4, 2) := by decide +kernel
theorem e_TM_onWrite_28 : decode m_TM_onWrite.2.1 28 = .ok (.getfield 57, 3) := by decide +kernel
theorem e_TM_onWrite_31 : decode m_TM_onWrite.2.1 31 = .ok (.aload 4, 2) := by decide +kernel
theorem e_TM_onWrite_33 : decode m_TM_onWrite.2.1 33 = .ok (.getfield 57, 3) := by decide +kernel
theorem e_TM_onWrite_36 : decode m_TM_onWrite.2.1 36 = .ok (.invokevirtual 166, 3) := by decide +kernel
theorem e_TM_onWrite_39 : decode m_TM_onWrite.2.1 39 = .ok (.return_, 1) := by decide +kernel
theorem e_TM_onTokens_0 : decode m_TM_onTokens.2.1 0 = .ok (.aload_n 0, 1) := by decide +kernel
theorem e_TM_onTokens_1 : decode m_TM_onTokens.2.1 1 = .ok (.aload_n 1, 1) := by decide +kernel
theorem e_TM_onTokens_2 : decode m_TM_onTokens.2.1 2 = .ok (.getfield 119, 3) := by decide +kernel
theorem e_TM_onTokens_5 : decode m_TM_onTokens.2.1 5 = .ok (.aload_n 1, 1) := by decide +kernel
theorem e_TM_onTokens_6 : decode m_TM_onTokens.2.1 6 = .ok (.getfield 122, 3) := by decide +kernel
theorem e_TM_onTokens_9 : decode m_TM_onTokens.2.1 9 = .ok (.invokevirtual 159, 3) := by decide +kernel
theorem e_TM_onTokens_12 : decode m_TM_onTokens.2.1 12 = .ok (.aload_n 1, 1) := by decide +kernel
theorem e_TM_onTokens_13 : decode m_TM_onTokens.2.1 13 = .ok (.invokevirtual 238, 3) := by decide +kernel
theorem e_TM_onTokens_16 : decode m_TM_onTokens.2.1 16 = .ok (.aload_n 0, 1) := by decide +kernel
theorem e_TM_onTokens_17 : decode m_TM_onTokens.2.1 17 = .ok (.aload_n 1, 1) := by decide +kernel
theorem e_TM_onTokens_18 : decode m_TM_onTokens.2.1 18 = .ok (.getfield 119, 3) := by decide +kernel
theorem e_TM_onTokens_21 : decode m_TM_onTokens.2.1 21 = .ok (.aload_n 1, 1) := by decide +kernel
theorem e_TM_onTokens_22 : decode m_TM_onTokens.2.1 22 = .ok (.getfield 122, 3) := by decide +kernel
theorem e_TM_onTokens_25 : decode m_TM_onTokens.2.1 25 = .ok (.invokevirtual 241, 3) := by decide +kernel
theorem e_TM_onTokens_28 : decode m_TM_onTokens.2.1 28 = .ok (.aload_n 0, 1) := by decide +kernel
theorem e_TM_onTokens_29 : decode m_TM_onTokens.2.1 29 = .ok (.aload_n 1, 1) := by decide +kernel
theorem e_TM_onTokens_30 : decode m_TM_onTokens.2.1 30 = .ok (.getfield 119, 3) := by decide +kernel
theorem e_TM_onTokens_33 : decode m_TM_onTokens.2.1 33 = .ok (.invokevirtual 71, 3) := by decide +kernel
theorem e_TM_onTokens_36 : decode m_TM_onTokens.2.1 36 = .ok (.ifCond .eq 41, 3) := by decide +kernel
theorem e_TM_onTokens_39 : decode m_TM_onTokens.2.1 39 = .ok (.aload_n 0, 1) := by decide +kernel
theorem e_TM_onTokens_40 : decode m_TM_onTokens.2.1 40 = .ok (.getfield 38, 3) := by decide +kernel
theorem e_TM_onTokens_43 : decode m_TM_onTokens.2.1 43 = .ok (.aload_n 1, 1) := by decide +kernel
theorem e_TM_onTokens_44 : decode m_TM_onTokens.2.1 44 = .ok (.getfield 119, 3) := by decide +kernel
theorem e_TM_onTokens_47 : decode m_TM_onTokens.2.1 47 = .ok (.aaload, 1) := by decide +kernel
theorem e_TM_onTokens_48 : decode m_TM_onTokens.2.1 48 = .ok (.aload_n 1, 1) := by decide +kernel
theorem e_TM_onTokens_49 : decode m_TM_onTokens.2.1 49 = .ok (.getfield 122, 3) := by decide +kernel
theorem e_TM_onTokens_52 : decode m_TM_onTokens.2.1 52 = .ok (.invokevirtual 163, 3) := by decide +kernel
theorem e_TM_onTokens_55 : decode m_TM_onTokens.2.1 55 = .ok (.ifCond .eq 22, 3) := by decide +kernel
theorem e_TM_onTokens_58 : decode m_TM_onTokens.2.1 58 = .ok (.aload_n 0, 1) := by decide +kernel
theorem e_TM_onTokens_59 : decode m_TM_onTokens.2.1 59 = .ok (.aload_n 1, 1) := by decide +kernel
theorem e_TM_onTokens_60 : decode m_TM_onTokens.2.1 60 = .ok (.getfield 119, 3) := by decide +kernel
theorem e_TM_onTokens_63 : decode m_TM_onTokens.2.1 63 = .ok (.invokevirtual 85, 3) := by decide +kernel
theorem e_TM_onTokens_66 : decode m_TM_onTokens.2.1 66 = .ok (.ifCond .eq 11, 3) := by decide +kernel
theorem e_TM_onTokens_69 : decode m_TM_onTokens.2.1 69 = .ok (.aload_n 0, 1) := by decide +kernel
theorem e_TM_onTokens_70 : decode m_TM_onTokens.2.1 70 = .ok (.aload_n 1, 1) := by decide +kernel
theorem e_TM_onTokens_71 : decode m_TM_onTokens.2.1 71 = .ok (.getfield 119, 3) := by decide +kernel
theorem e_TM_onTokens_74 : decode m_TM_onTokens.2.1 74 = .ok (.invokevirtual 88, 3) := by decide +kernel
theorem e_TM_onTokens_77 : decode m_TM_onTokens.2.1 77 = .ok (.return_, 1) := by decide +kernel
theorem e_TM_onPlease_0 : decode m_TM_onPlease.2.1 0 = .ok (.iload_n 3, 1) := by decide +kernel
theorem e_TM_onPlease_1 : decode m_TM_onPlease.2.1 1 = .ok (.aload_n 0, 1) := by decide +kernel
theorem e_TM_onPlease_2 : decode m_TM_onPlease.2.1 2 = .ok (.getfield 43, 3) := by decide +kernel
theorem e_TM_onPlease_5 : decode m_TM_onPlease.2.1 5 = .ok (.iload_n 1, 1) := by decide +kernel
theorem e_TM_onPlease_6 : decode m_TM_onPlease.2.1 6 = .ok (.iaload, 1) := by decide +kernel
theorem e_TM_onPlease_7 : decode m_TM_onPlease.2.1 7 = .ok (.if_icmp .gt 4, 3) := by decide +kernel
theorem e_TM_onPlease_10 : decode m_TM_onPlease.2.1 10 = .ok (.return_, 1) := by decide +kernel
theorem e_TM_onPlease_11 : decode m_TM_onPlease.2.1 11 = .ok (.aload_n 0, 1) := by decide +kernel
theorem e_TM_onPlease_12 : decode m_TM_onPlease.2.1 12 = .ok (.iload_n 1, 1) := by decide +kernel
theorem e_TM_onPlease_13 : decode m_TM_onPlease.2.1 13 = .ok (.iload_n 3, 1) := by decide +kernel
theorem e_TM_onPlease_14 : decode m_TM_onPlease.2.1 14 = .ok (.iconst 1, 1) := by decide +kernel
theorem e_TM_onPlease_15 : decode m_TM_onPlease.2.1 15 = .ok (.isub, 1) := by decide +kernel
theorem e_TM_onPlease_16 : decode m_TM_onPlease.2.1 16 = .ok (.invokevirtual 152, 3) := by decide +kernel
theorem e_TM_onPlease_19 : decode m_TM_onPlease.2.1 19 = .ok (.aload_n 0, 1) := by decide +kernel
theorem e_TM_onPlease_20 : decode m_TM_onPlease.2.1 20 = .ok (.getfield 49, 3) := by decide +kernel
theorem e_TM_onPlease_23 : decode m_TM_onPlease.2.1 23 = .ok (.iload_n 2, 1) := by decide +kernel
theorem e_TM_onPlease_24 : decode m_TM_onPlease.2.1 24 = .ok (.aaload, 1) := by decide +kernel
theorem e_TM_onPlease_25 : decode m_TM_onPlease.2.1 25 = .ok (.astore 5, 2) := by decide +kernel
theorem e_TM_onPlease_27 : decode m_TM_onPlease.2.1 27 = .ok (.aload 5, 2) := by decide +kernel
theorem e_TM_onPlease_29 : decode m_TM_onPlease.2.1 29 = .ok (.getfield 192, 3) := by decide +kernel
theorem e_TM_onPlease_32 : decode m_TM_onPlease.2.1 32 = .ok (.new 244, 3) := by decide +kernel
theorem e_TM_onPlease_35 : decode m_TM_onPlease.2.1 35 = .ok (.dup, 1) := by decide +kernel
theorem e_TM_onPlease_36 : decode m_TM_onPlease.2.1 36 = .ok (.iload_n 1, 1) := by decide +kernel
theorem e_TM_onPlease_37 : decode m_TM_onPlease.2.1 37 = .ok (.iload_n 3, 1) := by decide +kernel
theorem e_TM_onPlease_38 : decode m_TM_onPlease.2.1 38 = .ok (.iload 4, 2) := by decide +kernel
theorem e_TM_onPlease_40 : decode m_TM_onPlease.2.1 40 = .ok (.invokespecial 246, 3) := by decide +kernel
theorem e_TM_onPlease_43 : decode m_TM_onPlease.2.1 43 = .ok (.invokevirtual 249, 3) := by decide +kernel
theorem e_TM_onPlease_46 : decode m_TM_onPlease.2.1 46 = .ok (.pop, 1) := by decide +kernel
theorem e_TM_onPlease_47 : decode m_TM_onPlease.2.1 47 = .ok (.aload 5, 2) := by decide +kernel
theorem e_TM_onPlease_49 : decode m_TM_onPlease.2.1 49 = .ok (.getfield 253, 3) := by decide +kernel
theorem e_TM_onPlease_52 : decode m_TM_onPlease.2.1 52 = .ok (.ifnonnull 8, 3) := by decide +kernel
theorem e_TM_onPlease_55 : decode m_TM_onPlease.2.1 55 = .ok (.aload_n 0, 1) := by decide +kernel
theorem e_TM_onPlease_56 : decode m_TM_onPlease.2.1 56 = .ok (.iload_n 2, 1) := by decide +kernel
theorem e_TM_onPlease_57 : decode m_TM_onPlease.2.1 57 = .ok (.invokevirtual 257, 3) := by decide +kernel
theorem e_TM_onPlease_60 : decode m_TM_onPlease.2.1 60 = .ok (.return_, 1) := by decide +kernel
theorem e_TM_onKnow_0 : decode m_TM_onKnow.2.1 0 = .ok (.aload_n 0, 1) := by decide +kernel
theorem e_TM_onKnow_1 : decode m_TM_onKnow.2.1 1 = .ok (.aload_n 1, 1) := by decide +kernel
theorem e_TM_onKnow_2 : decode m_TM_onKnow.2.1 2 = .ok (.getfield 119, 3) := by decide +kernel
theorem e_TM_onKnow_5 : decode m_TM_onKnow.2.1 5 = .ok (.aload_n 1, 1) := by decide +kernel
theorem e_TM_onKnow_6 : decode m_TM_onKnow.2.1 6 = .ok (.getfield 122, 3) := by decide +kernel
theorem e_TM_onKnow_9 : decode m_TM_onKnow.2.1 9 = .ok (.invokevirtual 159, 3) := by decide +kernel
theorem e_TM_onKnow_12 : decode m_TM_onKnow.2.1 12 = .ok (.astore_n 2, 1) := by decide +kernel
theorem e_TM_onKnow_13 : decode m_TM_onKnow.2.1 13 = .ok (.aload_n 1, 1) := by decide +kernel
theorem e_TM_onKnow_14 : decode m_TM_onKnow.2.1 14 = .ok (.getfield 139, 3) := by decide +kernel
theorem e_TM_onKnow_17 : decode m_TM_onKnow.2.1 17 = .ok (.aload_n 2, 1) := by decide +kernel
theorem e_TM_onKnow_18 : decode m_TM_onKnow.2.1 18 = .ok (.getfield 260, 3) := by decide +kernel
theorem e_TM_onKnow_21 : decode m_TM_onKnow.2.1 21 = .ok (.if_icmp .le 7, 3) := by decide +kernel
theorem e_TM_onKnow_24 : decode m_TM_onKnow.2.1 24 = .ok (.iconst 1, 1) := by decide +kernel
theorem e_TM_onKnow_25 : decode m_TM_onKnow.2.1 25 = .ok (.goto 4, 3) := by decide +kernel
theorem e_TM_onKnow_28 : decode m_TM_onKnow.2.1 28 = .ok (.iconst 0, 1) := by decide +kernel
theorem e_TM_onKnow_29 : decode m_TM_onKnow.2.1 29 = .ok (.istore_n 3, 1) := by decide +kernel
theorem e_TM_onKnow_30 : decode m_TM_onKnow.2.1 30 = .ok (.aload_n 1, 1) := by decide +kernel
theorem e_TM_onKnow_31 : decode m_TM_onKnow.2.1 31 = .ok (.getfield 139, 3) := by decide +kernel
theorem e_TM_onKnow_34 : decode m_TM_onKnow.2.1 34 = .ok (.aload_n 2, 1) := by decide +kernel
theorem e_TM_onKnow_35 : decode m_TM_onKnow.2.1 35 = .ok (.getfield 260, 3) := by decide +kernel
theorem e_TM_onKnow_38 : decode m_TM_onKnow.2.1 38 = .ok (.if_icmp .ne 15, 3) := by decide +kernel
theorem e_TM_onKnow_41 : decode m_TM_onKnow.2.1 41 = .ok (.aload_n 1, 1) := by decide +kernel
theorem e_TM_onKnow_42 : decode m_TM_onKnow.2.1 42 = .ok (.getfield 263, 3) := by decide +kernel
theorem e_TM_onKnow_45 : decode m_TM_onKnow.2.1 45 = .ok (.iconst (-1), 1) := by decide +kernel
theorem e_TM_onKnow_46 : decode m_TM_onKnow.2.1 46 = .ok (.if_icmp .ne 7, 3) := by decide +kernel
theorem e_TM_onKnow_49 : decode m_TM_onKnow.2.1 49 = .ok (.iconst 1, 1) := by decide +kernel
theorem e_TM_onKnow_50 : decode m_TM_onKnow.2.1 50 = .ok (.goto 4, 3) := by decide +kernel
theorem e_TM_onKnow_53 : decode m_TM_onKnow.2.1 53 = .ok (.iconst 0, 1) := by decide +kernel
theorem e_TM_onKnow_54 : decode m_TM_onKnow.2.1 54 = .ok (.istore 4, 2) := by decide +kernel
theorem e_TM_onKnow_56 : decode m_TM_onKnow.2.1 56 = .ok (.iload_n 3, 1) := by decide +kernel
theorem e_TM_onKnow_57 : decode m_TM_onKnow.2.1 57 = .ok (.ifCond .ne 8, 3) := by decide +kernel
theorem e_TM_onKnow_60 : decode m_TM_onKnow.2.1 60 = .ok (.iload 4, 2) := by decide +kernel
theorem e_TM_onKnow_62 : decode m_TM_onKnow.2.1 62 = .ok (.ifCond .eq 31, 3) := by decide +kernel
theorem e_TM_onKnow_65 : decode m_TM_onKnow.2.1 65 = .ok (.aload_n 2, 1) := by decide +kernel
theorem e_TM_onKnow_66 : decode m_TM_onKnow.2.1 66 = .ok (.aload_n 1, 1) := by decide +kernel
theorem e_TM_onKnow_67 : decode m_TM_onKnow.2.1 67 = .ok (.getfield 263, 3) := by decide +kernel
theorem e_TM_onKnow_70 : decode m_TM_onKnow.2.1 70 = .ok (.aload_n 1, 1) := by decide +kernel
theorem e_TM_onKnow_71 : decode m_TM_onKnow.2.1 71 = .ok (.getfield 142, 3) := by decide +kernel
theorem e_TM_onKnow_74 : decode m_TM_onKnow.2.1 74 = .ok (.aload_n 1, 1) := by decide +kernel
theorem e_TM_onKnow_75 : decode m_TM_onKnow.2.1 75 = .ok (.getfield 139, 3) := by decide +kernel
theorem e_TM_onKnow_78 : decode m_TM_onKnow.2.1 78 = .ok (.invokevirtual 264, 3) := by decide +kernel
theorem e_TM_onKnow_81 : decode m_TM_onKnow.2.1 81 = .ok (.aload_n 0, 1) := by decide +kernel
theorem e_TM_onKnow_82 : decode m_TM_onKnow.2.1 82 = .ok (.aload_n 1, 1) := by decide +kernel
theorem e_TM_onKnow_83 : decode m_TM_onKnow.2.1 83 = .ok (.getfield 119, 3) := by decide +kernel
theorem e_TM_onKnow_86 : decode m_TM_onKnow.2.1 86 = .ok (.aload_n 1, 1) := by decide +kernel
theorem e_TM_onKnow_87 : decode m_TM_onKnow.2.1 87 = .ok (.getfield 122, 3) := by decide +kernel
theorem e_TM_onKnow_90 : decode m_TM_onKnow.2.1 90 = .ok (.invokevirtual 241, 3) := by decide +kernel
theorem e_TM_onKnow_93 : decode m_TM_onKnow.2.1 93 = .ok (.return_, 1) := by decide +kernel
theorem e_TM_lapse_0 : decode m_TM_lapse.2.1 0 = .ok (.iload_n 2, 1) := by decide +kernel
theorem e_TM_lapse_1 : decode m_TM_lapse.2.1 1 = .ok (.aload_n 0, 1) := by decide +kernel
theorem e_TM_lapse_2 : decode m_TM_lapse.2.1 2 = .ok (.getfield 43, 3) := by decide +kernel
theorem e_TM_lapse_5 : decode m_TM_lapse.2.1 5 = .ok (.iload_n 1, 1) := by decide +kernel
theorem e_TM_lapse_6 : decode m_TM_lapse.2.1 6 = .ok (.iaload, 1) := by decide +kernel
theorem e_TM_lapse_7 : decode m_TM_lapse.2.1 7 = .ok (.if_icmp .gt 4, 3) := by decide +kernel
theorem e_TM_lapse_10 : decode m_TM_lapse.2.1 10 = .ok (.return_, 1) := by decide +kernel
theorem e_TM_lapse_11 : decode m_TM_lapse.2.1 11 = .ok (.aload_n 0, 1) := by decide +kernel
theorem e_TM_lapse_12 : decode m_TM_lapse.2.1 12 = .ok (.getfield 43, 3) := by decide +kernel
theorem e_TM_lapse_15 : decode m_TM_lapse.2.1 15 = .ok (.iload_n 1, 1) := by decide +kernel
theorem e_TM_lapse_16 : decode m_TM_lapse.2.1 16 = .ok (.iload_n 2, 1) := by decide +kernel
theorem e_TM_lapse_17 : decode m_TM_lapse.2.1 17 = .ok (.iastore, 1) := by decide +kernel
theorem e_TM_lapse_18 : decode m_TM_lapse.2.1 18 = .ok (.iconst 0, 1) := by decide +kernel
theorem e_TM_lapse_19 : decode m_TM_lapse.2.1 19 = .ok (.istore_n 3, 1) := by decide +kernel
theorem e_TM_lapse_20 : decode m_TM_lapse.2.1 20 = .ok (.iload_n 3, 1) := by decide +kernel
theorem e_TM_lapse_21 : decode m_TM_lapse.2.1 21 = .ok (.iconst 2, 1) := by decide +kernel
theorem e_TM_lapse_22 : decode m_TM_lapse.2.1 22 = .ok (.if_icmp .ge 20, 3) := by decide +kernel
theorem e_TM_lapse_25 : decode m_TM_lapse.2.1 25 = .ok (.aload_n 0, 1) := by decide +kernel
theorem e_TM_lapse_26 : decode m_TM_lapse.2.1 26 = .ok (.getfield 49, 3) := by decide +kernel
theorem e_TM_lapse_29 : decode m_TM_lapse.2.1 29 = .ok (.iload_n 3, 1) := by decide +kernel
theorem e_TM_lapse_30 : decode m_TM_lapse.2.1 30 = .ok (.aaload, 1) := by decide +kernel
theorem e_TM_lapse_31 : decode m_TM_lapse.2.1 31 = .ok (.iload_n 1, 1) := by decide +kernel
theorem e_TM_lapse_32 : decode m_TM_lapse.2.1 32 = .ok (.iload_n 2, 1) := by decide +kernel
theorem e_TM_lapse_33 : decode m_TM_lapse.2.1 33 = .ok (.invokevirtual 268, 3) := by decide +kernel
theorem e_TM_lapse_36 : decode m_TM_lapse.2.1 36 = .ok (.iinc 3 1, 3) := by decide +kernel
theorem e_TM_lapse_39 : decode m_TM_lapse.2.1 39 = .ok (.goto (-19), 3) := by decide +kernel
theorem e_TM_lapse_42 : decode m_TM_lapse.2.1 42 = .ok (.iconst 0, 1) := by decide +kernel
theorem e_TM_lapse_43 : decode m_TM_lapse.2.1 43 = .ok (.istore_n 3, 1) := by decide +kernel
theorem e_TM_lapse_44 : decode m_TM_lapse.2.1 44 = .ok (.iload_n 3, 1) := by decide +kernel
theorem e_TM_lapse_45 : decode m_TM_lapse.2.1 45 = .ok (.iconst 2, 1) := by decide +kernel
theorem e_TM_lapse_46 : decode m_TM_lapse.2.1 46 = .ok (.if_icmp .ge 54, 3) := by decide +kernel
theorem e_TM_lapse_49 : decode m_TM_lapse.2.1 49 = .ok (.aload_n 0, 1) := by decide +kernel
theorem e_TM_lapse_50 : decode m_TM_lapse.2.1 50 = .ok (.getfield 49, 3) := by decide +kernel
theorem e_TM_lapse_53 : decode m_TM_lapse.2.1 53 = .ok (.iload_n 3, 1) := by decide +kernel
theorem e_TM_lapse_54 : decode m_TM_lapse.2.1 54 = .ok (.aaload, 1) := by decide +kernel
theorem e_TM_lapse_55 : decode m_TM_lapse.2.1 55 = .ok (.astore 4, 2) := by decide +kernel
theorem e_TM_lapse_57 : decode m_TM_lapse.2.1 57 = .ok (.aload 4, 2) := by decide +kernel
theorem e_TM_lapse_59 : decode m_TM_lapse.2.1 59 = .ok (.getfield 253, 3) := by decide +kernel
theorem e_TM_lapse_62 : decode m_TM_lapse.2.1 62 = .ok (.ifnull 32, 3) := by decide +kernel
theorem e_TM_lapse_65 : decode m_TM_lapse.2.1 65 = .ok (.aload 4, 2) := by decide +kernel
theorem e_TM_lapse_67 : decode m_TM_lapse.2.1 67 = .ok (.getfield 253, 3) := by decide +kernel
theorem e_TM_lapse_70 : decode m_TM_lapse.2.1 70 = .ok (.iload_n 1, 1) := by decide +kernel
theorem e_TM_lapse_71 : decode m_TM_lapse.2.1 71 = .ok (.iload_n 2, 1) := by decide +kernel
theorem e_TM_lapse_72 : decode m_TM_lapse.2.1 72 = .ok (.invokevirtual 271, 3) := by decide +kernel
theorem e_TM_lapse_75 : decode m_TM_lapse.2.1 75 = .ok (.ifCond .eq 19, 3) := by decide +kernel
theorem e_TM_lapse_78 : decode m_TM_lapse.2.1 78 = .ok (.aload 4, 2) := by decide +kernel
theorem e_TM_lapse_80 : decode m_TM_lapse.2.1 80 = .ok (.aconst_null, 1) := by decide +kernel
theorem e_TM_lapse_81 : decode m_TM_lapse.2.1 81 = .ok (.putfield 253, 3) := by decide +kernel
theorem e_TM_lapse_84 : decode m_TM_lapse.2.1 84 = .ok (.aload_n 0, 1) := by decide +kernel
theorem e_TM_lapse_85 : decode m_TM_lapse.2.1 85 = .ok (.iload_n 3, 1) := by decide +kernel
theorem e_TM_lapse_86 : decode m_TM_lapse.2.1 86 = .ok (.invokevirtual 275, 3) := by decide +kernel
theorem e_TM_lapse_89 : decode m_TM_lapse.2.1 89 = .ok (.aload_n 0, 1) := by decide +kernel
theorem e_TM_lapse_90 : decode m_TM_lapse.2.1 90 = .ok (.iload_n 3, 1) := by decide +kernel
theorem e_TM_lapse_91 : decode m_TM_lapse.2.1 91 = .ok (.invokevirtual 257, 3) := by decide +kernel
theorem e_TM_lapse_94 : decode m_TM_lapse.2.1 94 = .ok (.iinc 3 1, 3) := by decide +kernel
theorem e_TM_lapse_97 : decode m_TM_lapse.2.1 97 = .ok (.goto (-53), 3) := by decide +kernel
theorem e_TM_lapse_100 : decode m_TM_lapse.2.1 100 = .ok (.return_, 1) := by decide +kernel
theorem e_TM_activateFirst_0 : decode m_TM_activateFirst.2.1 0 = .ok (.aload_n 0, 1) := by decide +kernel
theorem e_TM_activateFirst_1 : decode m_TM_activateFirst.2.1 1 = .ok (.getfield 49, 3) := by decide +kernel
theorem e_TM_activateFirst_4 : decode m_TM_activateFirst.2.1 4 = .ok (.iload_n 1, 1) := by decide +kernel
theorem e_TM_activateFirst_5 : decode m_TM_activateFirst.2.1 5 = .ok (.aaload, 1) := by decide +kernel
theorem e_TM_activateFirst_6 : decode m_TM_activateFirst.2.1 6 = .ok (.astore_n 2, 1) := by decide +kernel
theorem e_TM_activateFirst_7 : decode m_TM_activateFirst.2.1 7 = .ok (.aload_n 2, 1) := by decide +kernel
theorem e_TM_activateFirst_8 : decode m_TM_activateFirst.2.1 8 = .ok (.getfield 192, 3) := by decide +kernel
theorem e_TM_activateFirst_11 : decode m_TM_activateFirst.2.1 11 = .ok (.invokevirtual 278, 3) := by decide +kernel
theorem e_TM_activateFirst_14 : decode m_TM_activateFirst.2.1 14 = .ok (.ifCond .eq 4, 3) := by decide +kernel
theorem e_TM_activateFirst_17 : decode m_TM_activateFirst.2.1 17 = .ok (.return_, 1) := by decide +kernel
theorem e_TM_activateFirst_18 : decode m_TM_activateFirst.2.1 18 = .ok (.aload_n 2, 1) := by decide +kernel
theorem e_TM_activateFirst_19 : decode m_TM_activateFirst.2.1 19 = .ok (.aload_n 2, 1) := by decide +kernel
theorem e_TM_activateFirst_20 : decode m_TM_activateFirst.2.1 20 = .ok (.getfield 192, 3) := by decide +kernel
theorem e_TM_activateFirst_23 : decode m_TM_activateFirst.2.1 23 = .ok (.iconst 0, 1) := by decide +kernel
theorem e_TM_activateFirst_24 : decode m_TM_activateFirst.2.1 24 = .ok (.invokevirtual 282, 3) := by decide +kernel
theorem e_TM_activateFirst_27 : decode m_TM_activateFirst.2.1 27 = .ok (.checkcast 244, 3) := by decide +kernel
theorem e_TM_activateFirst_30 : decode m_TM_activateFirst.2.1 30 = .ok (.putfield 253, 3) := by decide +kernel
theorem e_TM_activateFirst_33 : decode m_TM_activateFirst.2.1 33 = .ok (.aload_n 2, 1) := by decide +kernel
theorem e_TM_activateFirst_34 : decode m_TM_activateFirst.2.1 34 = .ok (.dup, 1) := by decide +kernel
theorem e_TM_activateFirst_35 : decode m_TM_activateFirst.2.1 35 = .ok (.getfield 286, 3) := by decide +kernel
theorem e_TM_activateFirst_38 : decode m_TM_activateFirst.2.1 38 = .ok (.iconst 1, 1) := by decide +kernel
theorem e_TM_activateFirst_39 : decode m_TM_activateFirst.2.1 39 = .ok (.iadd, 1) := by decide +kernel
theorem e_TM_activateFirst_40 : decode m_TM_activateFirst.2.1 40 = .ok (.putfield 286, 3) := by decide +kernel
theorem e_TM_activateFirst_43 : decode m_TM_activateFirst.2.1 43 = .ok (.aload_n 0, 1) := by decide +kernel
theorem e_TM_activateFirst_44 : decode m_TM_activateFirst.2.1 44 = .ok (.iload_n 1, 1) := by decide +kernel
theorem e_TM_activateFirst_45 : decode m_TM_activateFirst.2.1 45 = .ok (.invokevirtual 275, 3) := by decide +kernel
theorem e_TM_activateFirst_48 : decode m_TM_activateFirst.2.1 48 = .ok (.aload_n 0, 1) := by decide +kernel
theorem e_TM_activateFirst_49 : decode m_TM_activateFirst.2.1 49 = .ok (.aload_n 0, 1) := by decide +kernel
theorem e_TM_activateFirst_50 : decode m_TM_activateFirst.2.1 50 = .ok (.getfield 23, 3) := by decide +kernel
theorem e_TM_activateFirst_53 : decode m_TM_activateFirst.2.1 53 = .ok (.iload_n 1, 1) := by decide +kernel
theorem e_TM_activateFirst_54 : decode m_TM_activateFirst.2.1 54 = .ok (.invokevirtual 241, 3) := by decide +kernel
theorem e_TM_activateFirst_57 : decode m_TM_activateFirst.2.1 57 = .ok (.return_, 1) := by decide +kernel
theorem e_TM_tellActive_0 : decode m_TM_tellActive.2.1 0 = .ok (.aload_n 0, 1) := by decide +kernel
theorem e_TM_tellActive_1 : decode m_TM_tellActive.2.1 1 = .ok (.getfield 49, 3) := by decide +kernel
theorem e_TM_tellActive_4 : decode m_TM_tellActive.2.1 4 = .ok (.iload_n 1, 1) := by decide +kernel
theorem e_TM_tellActive_5 : decode m_TM_tellActive.2.1 5 = .ok (.aaload, 1) := by decide +kernel
theorem e_TM_tellActive_6 : decode m_TM_tellActive.2.1 6 = .ok (.astore_n 2, 1) := by decide +kernel
theorem e_TM_tellActive_7 : decode m_TM_tellActive.2.1 7 = .ok (.aload_n 2, 1) := by decide +kernel
theorem e_TM_tellActive_8 : decode m_TM_tellActive.2.1 8 = .ok (.getfield 253, 3) := by decide +kernel
theorem e_TM_tellActive_11 : decode m_TM_tellActive.2.1 11 = .ok (.ifnonnull 7, 3) := by decide +kernel
theorem e_TM_tellActive_14 : decode m_TM_tellActive.2.1 14 = .ok (.iconst (-1), 1) := by decide +kernel
theorem e_TM_tellActive_15 : decode m_TM_tellActive.2.1 15 = .ok (.goto 10, 3) := by decide +kernel
theorem e_TM_tellActive_18 : decode m_TM_tellActive.2.1 18 = .ok (.aload_n 2, 1) := by decide +kernel
theorem e_TM_tellActive_19 : decode m_TM_tellActive.2.1 19 = .ok (.getfield 253, 3) := by decide +kernel
theorem e_TM_tellActive_22 : decode m_TM_tellActive.2.1 22 = .ok (.getfield 287, 3) := by decide +kernel
theorem e_TM_tellActive_25 : decode m_TM_tellActive.2.1 25 = .ok (.istore_n 3, 1) := by decide +kernel
theorem e_TM_tellActive_26 : decode m_TM_tellActive.2.1 26 = .ok (.aload_n 2, 1) := by decide +kernel
theorem e_TM_tellActive_27 : decode m_TM_tellActive.2.1 27 = .ok (.getfield 253, 3) := by decide +kernel
theorem e_TM_tellActive_30 : decode m_TM_tellActive.2.1 30 = .ok (.ifnull 17, 3) := by decide +kernel
theorem e_TM_tellActive_33 : decode m_TM_tellActive.2.1 33 = .ok (.aload_n 2, 1) := by decide +kernel
theorem e_TM_tellActive_34 : decode m_TM_tellActive.2.1 34 = .ok (.getfield 253, 3) := by decide +kernel
theorem e_TM_tellActive_37 : decode m_TM_tellActive.2.1 37 = .ok (.getfield 290, 3) := by decide +kernel
theorem e_TM_tellActive_40 : decode m_TM_tellActive.2.1 40 = .ok (.ifCond .eq 7, 3) := by decide +kernel
theorem e_TM_tellActive_43 : decode m_TM_tellActive.2.1 43 = .ok (.iconst 1, 1) := by decide +kernel
theorem e_TM_tellActive_44 : decode m_TM_tellActive.2.1 44 = .ok (.goto 4, 3) := by decide +kernel
theorem e_TM_tellActive_47 : decode m_TM_tellActive.2.1 47 = .ok (.iconst 0, 1) := by decide +kernel
theorem e_TM_tellActive_48 : decode m_TM_tellActive.2.1 48 = .ok (.istore 4, 2) := by decide +kernel
theorem e_TM_tellActive_50 : decode m_TM_tellActive.2.1 50 = .ok (.iconst 0, 1) := by decide +kernel
theorem e_TM_tellActive_51 : decode m_TM_tellActive.2.1 51 = .ok (.istore 5, 2) := by decide +kernel
theorem e_TM_tellActive_53 : decode m_TM_tellActive.2.1 53 = .ok (.iload 5, 2) := by decide +kernel
theorem e_TM_tellActive_55 : decode m_TM_tellActive.2.1 55 = .ok (.aload_n 0, 1) := by decide +kernel
theorem e_TM_tellActive_56 : decode m_TM_tellActive.2.1 56 = .ok (.getfield 13, 3) := by decide +kernel
theorem e_TM_tellActive_59 : decode m_TM_tellActive.2.1 59 = .ok (.if_icmp .ge 48, 3) := by decide +kernel
theorem e_TM_tellActive_62 : decode m_TM_tellActive.2.1 62 = .ok (.aload_n 0, 1) := by decide +kernel
theorem e_TM_tellActive_63 : decode m_TM_tellActive.2.1 63 = .ok (.getfield 67, 3) := by decide +kernel
theorem e_TM_tellActive_66 : decode m_TM_tellActive.2.1 66 = .ok (.iconst 5, 1) := by decide +kernel
theorem e_TM_tellActive_67 : decode m_TM_tellActive.2.1 67 = .ok (.aload_n 0, 1) := by decide +kernel
theorem e_TM_tellActive_68 : decode m_TM_tellActive.2.1 68 = .ok (.getfield 23, 3) := by decide +kernel
theorem e_TM_tellActive_71 : decode m_TM_tellActive.2.1 71 = .ok (.iload 5, 2) := by decide +kernel
theorem e_TM_tellActive_73 : decode m_TM_tellActive.2.1 73 = .ok (.iload_n 1, 1) := by decide +kernel
theorem e_TM_tellActive_74 : decode m_TM_tellActive.2.1 74 = .ok (.invokevirtual 225, 3) := by decide +kernel
theorem e_TM_tellActive_77 : decode m_TM_tellActive.2.1 77 = .ok (.astore 6, 2) := by decide +kernel
theorem e_TM_tellActive_79 : decode m_TM_tellActive.2.1 79 = .ok (.aload 6, 2) := by decide +kernel
theorem e_TM_tellActive_81 : decode m_TM_tellActive.2.1 81 = .ok (.iload_n 3, 1) := by decide +kernel
theorem e_TM_tellActive_82 : decode m_TM_tellActive.2.1 82 = .ok (.putfield 263, 3) := by decide +kernel
theorem e_TM_tellActive_85 : decode m_TM_tellActive.2.1 85 = .ok (.aload 6, 2) := by decide +kernel
theorem e_TM_tellActive_87 : decode m_TM_tellActive.2.1 87 = .ok (.iload 4, 2) := by decide +kernel
theorem e_TM_tellActive_89 : decode m_TM_tellActive.2.1 89 = .ok (.putfield 142, 3) := by decide +kernel
theorem e_TM_tellActive_92 : decode m_TM_tellActive.2.1 92 = .ok (.aload 6, 2) := by decide +kernel
theorem e_TM_tellActive_94 : decode m_TM_tellActive.2.1 94 = .ok (.aload_n 2, 1) := by decide +kernel
theorem e_TM_tellActive_95 : decode m_TM_tellActive.2.1 95 = .ok (.getfield 286, 3) := by decide +kernel
theorem e_TM_tellActive_98 : decode m_TM_tellActive.2.1 98 = .ok (.putfield 139, 3) := by decide +kernel
theorem e_TM_tellActive_101 : decode m_TM_tellActive.2.1 101 = .ok (.iinc 5 1, 3) := by decide +kernel
theorem e_TM_tellActive_104 : decode m_TM_tellActive.2.1 104 = .ok (.goto (-51), 3) := by decide +kernel
theorem e_TM_tellActive_107 : decode m_TM_tellActive.2.1 107 = .ok (.aload_n 0, 1) := by decide +kernel
theorem e_TM_tellActive_108 : decode m_TM_tellActive.2.1 108 = .ok (.aload_n 0, 1) := by decide +kernel
theorem e_TM_tellActive_109 : decode m_TM_tellActive.2.1 109 = .ok (.getfield 23, 3) := by decide +kernel
theorem e_TM_tellActive_112 : decode m_TM_tellActive.2.1 112 = .ok (.iload_n 1, 1) := by decide +kernel
theorem e_TM_tellActive_113 : decode m_TM_tellActive.2.1 113 = .ok (.invokevirtual 159, 3) := by decide +kernel
theorem e_TM_tellActive_116 : decode m_TM_tellActive.2.1 116 = .ok (.iload_n 3, 1) := by decide +kernel
theorem e_TM_tellActive_117 : decode m_TM_tellActive.2.1 117 = .ok (.iload 4, 2) := by decide +kernel
theorem e_TM_tellActive_119 : decode m_TM_tellActive.2.1 119 = .ok (.aload_n 2, 1) := by decide +kernel
theorem e_TM_tellActive_120 : decode m_TM_tellActive.2.1 120 = .ok (.getfield 286, 3) := by decide +kernel
theorem e_TM_tellActive_123 : decode m_TM_tellActive.2.1 123 = .ok (.invokevirtual 264, 3) := by decide +kernel
theorem e_TM_tellActive_126 : decode m_TM_tellActive.2.1 126 = .ok (.return_, 1) := by decide +kernel
