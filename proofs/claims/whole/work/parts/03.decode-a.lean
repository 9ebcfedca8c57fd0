theorem dX0_init_0 : decode cX0_init 0 = .ok (.aload_n 0, 1) := by decide +kernel
theorem dX0_init_1 : decode cX0_init 1 = .ok (.invokespecial 5, 3) := by decide +kernel
theorem dX0_init_4 : decode cX0_init 4 = .ok (.aload_n 0, 1) := by decide +kernel
theorem dX0_init_5 : decode cX0_init 5 = .ok (.iconst 1, 1) := by decide +kernel
theorem dX0_init_6 : decode cX0_init 6 = .ok (.putfield 11, 3) := by decide +kernel
theorem dX0_init_9 : decode cX0_init 9 = .ok (.aload_n 0, 1) := by decide +kernel
theorem dX0_init_10 : decode cX0_init 10 = .ok (.iconst 0, 1) := by decide +kernel
theorem dX0_init_11 : decode cX0_init 11 = .ok (.putfield 15, 3) := by decide +kernel
theorem dX0_init_14 : decode cX0_init 14 = .ok (.aload_n 0, 1) := by decide +kernel
theorem dX0_init_15 : decode cX0_init 15 = .ok (.iconst 0, 1) := by decide +kernel
theorem dX0_init_16 : decode cX0_init 16 = .ok (.putfield 18, 3) := by decide +kernel
theorem dX0_init_19 : decode cX0_init 19 = .ok (.aload_n 0, 1) := by decide +kernel
theorem dX0_init_20 : decode cX0_init 20 = .ok (.iconst 4, 1) := by decide +kernel
theorem dX0_init_21 : decode cX0_init 21 = .ok (.newarray .int, 2) := by decide +kernel
theorem dX0_init_23 : decode cX0_init 23 = .ok (.putfield 21, 3) := by decide +kernel
theorem dX0_init_26 : decode cX0_init 26 = .ok (.aload_n 0, 1) := by decide +kernel
theorem dX0_init_27 : decode cX0_init 27 = .ok (.bipush 20, 2) := by decide +kernel
theorem dX0_init_29 : decode cX0_init 29 = .ok (.newarray .int, 2) := by decide +kernel
theorem dX0_init_31 : decode cX0_init 31 = .ok (.putfield 25, 3) := by decide +kernel
theorem dX0_init_34 : decode cX0_init 34 = .ok (.return_, 1) := by decide +kernel
theorem dX0_open_0 : decode cX0_open 0 = .ok (.aload_n 0, 1) := by decide +kernel
theorem dX0_open_1 : decode cX0_open 1 = .ok (.iload_n 1, 1) := by decide +kernel
theorem dX0_open_2 : decode cX0_open 2 = .ok (.putfield 11, 3) := by decide +kernel
theorem dX0_open_5 : decode cX0_open 5 = .ok (.aload_n 0, 1) := by decide +kernel
theorem dX0_open_6 : decode cX0_open 6 = .ok (.iconst 0, 1) := by decide +kernel
theorem dX0_open_7 : decode cX0_open 7 = .ok (.putfield 15, 3) := by decide +kernel
theorem dX0_open_10 : decode cX0_open 10 = .ok (.aload_n 0, 1) := by decide +kernel
theorem dX0_open_11 : decode cX0_open 11 = .ok (.iconst 0, 1) := by decide +kernel
theorem dX0_open_12 : decode cX0_open 12 = .ok (.putfield 18, 3) := by decide +kernel
theorem dX0_open_15 : decode cX0_open 15 = .ok (.iconst 0, 1) := by decide +kernel
theorem dX0_open_16 : decode cX0_open 16 = .ok (.istore_n 2, 1) := by decide +kernel
theorem dX0_open_17 : decode cX0_open 17 = .ok (.iload_n 2, 1) := by decide +kernel
theorem dX0_open_18 : decode cX0_open 18 = .ok (.iconst 4, 1) := by decide +kernel
theorem dX0_open_19 : decode cX0_open 19 = .ok (.if_icmp .ge 18, 3) := by decide +kernel
theorem dX0_open_22 : decode cX0_open 22 = .ok (.aload_n 0, 1) := by decide +kernel
theorem dX0_open_23 : decode cX0_open 23 = .ok (.getfield 21, 3) := by decide +kernel
theorem dX0_open_26 : decode cX0_open 26 = .ok (.iload_n 2, 1) := by decide +kernel
theorem dX0_open_27 : decode cX0_open 27 = .ok (.iconst 0, 1) := by decide +kernel
theorem dX0_open_28 : decode cX0_open 28 = .ok (.invokestatic 28, 3) := by decide +kernel
theorem dX0_open_31 : decode cX0_open 31 = .ok (.iinc 2 1, 3) := by decide +kernel
theorem dX0_open_34 : decode cX0_open 34 = .ok (.goto (-17), 3) := by decide +kernel
theorem dX0_open_37 : decode cX0_open 37 = .ok (.iconst 0, 1) := by decide +kernel
theorem dX0_open_38 : decode cX0_open 38 = .ok (.istore_n 2, 1) := by decide +kernel
theorem dX0_open_39 : decode cX0_open 39 = .ok (.iload_n 2, 1) := by decide +kernel
theorem dX0_open_40 : decode cX0_open 40 = .ok (.bipush 20, 2) := by decide +kernel
theorem dX0_open_42 : decode cX0_open 42 = .ok (.if_icmp .ge 18, 3) := by decide +kernel
theorem dX0_open_45 : decode cX0_open 45 = .ok (.aload_n 0, 1) := by decide +kernel
theorem dX0_open_46 : decode cX0_open 46 = .ok (.getfield 25, 3) := by decide +kernel
theorem dX0_open_49 : decode cX0_open 49 = .ok (.iload_n 2, 1) := by decide +kernel
theorem dX0_open_50 : decode cX0_open 50 = .ok (.iconst 0, 1) := by decide +kernel
theorem dX0_open_51 : decode cX0_open 51 = .ok (.invokestatic 28, 3) := by decide +kernel
theorem dX0_open_54 : decode cX0_open 54 = .ok (.iinc 2 1, 3) := by decide +kernel
theorem dX0_open_57 : decode cX0_open 57 = .ok (.goto (-18), 3) := by decide +kernel
theorem dX0_open_60 : decode cX0_open 60 = .ok (.return_, 1) := by decide +kernel
theorem dX0_isHouse_0 : decode cX0_isHouse 0 = .ok (.iload_n 1, 1) := by decide +kernel
theorem dX0_isHouse_1 : decode cX0_isHouse 1 = .ok (.ifCond .lt 15, 3) := by decide +kernel
theorem dX0_isHouse_4 : decode cX0_isHouse 4 = .ok (.iload_n 1, 1) := by decide +kernel
theorem dX0_isHouse_5 : decode cX0_isHouse 5 = .ok (.aload_n 0, 1) := by decide +kernel
theorem dX0_isHouse_6 : decode cX0_isHouse 6 = .ok (.getfield 11, 3) := by decide +kernel
theorem dX0_isHouse_9 : decode cX0_isHouse 9 = .ok (.if_icmp .ge 7, 3) := by decide +kernel
theorem dX0_isHouse_12 : decode cX0_isHouse 12 = .ok (.iconst 1, 1) := by decide +kernel
theorem dX0_isHouse_13 : decode cX0_isHouse 13 = .ok (.goto 4, 3) := by decide +kernel
theorem dX0_isHouse_16 : decode cX0_isHouse 16 = .ok (.iconst 0, 1) := by decide +kernel
theorem dX0_isHouse_17 : decode cX0_isHouse 17 = .ok (.ireturn, 1) := by decide +kernel
theorem dX0_isPayee_0 : decode cX0_isPayee 0 = .ok (.iload_n 1, 1) := by decide +kernel
theorem dX0_isPayee_1 : decode cX0_isPayee 1 = .ok (.ifCond .lt 15, 3) := by decide +kernel
theorem dX0_isPayee_4 : decode cX0_isPayee 4 = .ok (.iload_n 1, 1) := by decide +kernel
theorem dX0_isPayee_5 : decode cX0_isPayee 5 = .ok (.aload_n 0, 1) := by decide +kernel
theorem dX0_isPayee_6 : decode cX0_isPayee 6 = .ok (.getfield 11, 3) := by decide +kernel
theorem dX0_isPayee_9 : decode cX0_isPayee 9 = .ok (.if_icmp .gt 7, 3) := by decide +kernel
theorem dX0_isPayee_12 : decode cX0_isPayee 12 = .ok (.iconst 1, 1) := by decide +kernel
theorem dX0_isPayee_13 : decode cX0_isPayee 13 = .ok (.goto 4, 3) := by decide +kernel
theorem dX0_isPayee_16 : decode cX0_isPayee 16 = .ok (.iconst 0, 1) := by decide +kernel
theorem dX0_isPayee_17 : decode cX0_isPayee 17 = .ok (.ireturn, 1) := by decide +kernel
theorem dX0_columnOf_0 : decode cX0_columnOf 0 = .ok (.iload_n 1, 1) := by decide +kernel
theorem dX0_columnOf_1 : decode cX0_columnOf 1 = .ok (.aload_n 0, 1) := by decide +kernel
theorem dX0_columnOf_2 : decode cX0_columnOf 2 = .ok (.getfield 11, 3) := by decide +kernel
theorem dX0_columnOf_5 : decode cX0_columnOf 5 = .ok (.if_icmp .ne 7, 3) := by decide +kernel
theorem dX0_columnOf_8 : decode cX0_columnOf 8 = .ok (.iconst 4, 1) := by decide +kernel
theorem dX0_columnOf_9 : decode cX0_columnOf 9 = .ok (.goto 4, 3) := by decide +kernel
theorem dX0_columnOf_12 : decode cX0_columnOf 12 = .ok (.iload_n 1, 1) := by decide +kernel
theorem dX0_columnOf_13 : decode cX0_columnOf 13 = .ok (.ireturn, 1) := by decide +kernel
theorem dX0_coins_0 : decode cX0_coins 0 = .ok (.aload_n 0, 1) := by decide +kernel
theorem dX0_coins_1 : decode cX0_coins 1 = .ok (.getfield 21, 3) := by decide +kernel
theorem dX0_coins_4 : decode cX0_coins 4 = .ok (.iload_n 1, 1) := by decide +kernel
theorem dX0_coins_5 : decode cX0_coins 5 = .ok (.invokestatic 32, 3) := by decide +kernel
theorem dX0_coins_8 : decode cX0_coins 8 = .ok (.ireturn, 1) := by decide +kernel
theorem dX0_setCoins_0 : decode cX0_setCoins 0 = .ok (.aload_n 0, 1) := by decide +kernel
theorem dX0_setCoins_1 : decode cX0_setCoins 1 = .ok (.getfield 21, 3) := by decide +kernel
theorem dX0_setCoins_4 : decode cX0_setCoins 4 = .ok (.iload_n 1, 1) := by decide +kernel
theorem dX0_setCoins_5 : decode cX0_setCoins 5 = .ok (.iload_n 2, 1) := by decide +kernel
theorem dX0_setCoins_6 : decode cX0_setCoins 6 = .ok (.invokestatic 28, 3) := by decide +kernel
theorem dX0_setCoins_9 : decode cX0_setCoins 9 = .ok (.return_, 1) := by decide +kernel
theorem dX0_owed_0 : decode cX0_owed 0 = .ok (.aload_n 0, 1) := by decide +kernel
theorem dX0_owed_1 : decode cX0_owed 1 = .ok (.getfield 25, 3) := by decide +kernel
theorem dX0_owed_4 : decode cX0_owed 4 = .ok (.iload_n 1, 1) := by decide +kernel
theorem dX0_owed_5 : decode cX0_owed 5 = .ok (.iconst 5, 1) := by decide +kernel
theorem dX0_owed_6 : decode cX0_owed 6 = .ok (.imul, 1) := by decide +kernel
theorem dX0_owed_7 : decode cX0_owed 7 = .ok (.iload_n 2, 1) := by decide +kernel
theorem dX0_owed_8 : decode cX0_owed 8 = .ok (.iadd, 1) := by decide +kernel
theorem dX0_owed_9 : decode cX0_owed 9 = .ok (.invokestatic 32, 3) := by decide +kernel
theorem dX0_owed_12 : decode cX0_owed 12 = .ok (.ireturn, 1) := by decide +kernel
theorem dX0_setOwed_0 : decode cX0_setOwed 0 = .ok (.aload_n 0, 1) := by decide +kernel
theorem dX0_setOwed_1 : decode cX0_setOwed 1 = .ok (.getfield 25, 3) := by decide +kernel
theorem dX0_setOwed_4 : decode cX0_setOwed 4 = .ok (.iload_n 1, 1) := by decide +kernel
theorem dX0_setOwed_5 : decode cX0_setOwed 5 = .ok (.iconst 5, 1) := by decide +kernel
theorem dX0_setOwed_6 : decode cX0_setOwed 6 = .ok (.imul, 1) := by decide +kernel
theorem dX0_setOwed_7 : decode cX0_setOwed 7 = .ok (.iload_n 2, 1) := by decide +kernel
theorem dX0_setOwed_8 : decode cX0_setOwed 8 = .ok (.iadd, 1) := by decide +kernel
theorem dX0_setOwed_9 : decode cX0_setOwed 9 = .ok (.iload_n 3, 1) := by decide +kernel
theorem dX0_setOwed_10 : decode cX0_setOwed 10 = .ok (.invokestatic 28, 3) := by decide +kernel
theorem dX0_setOwed_13 : decode cX0_setOwed 13 = .ok (.return_, 1) := by decide +kernel
theorem dX0_allOwedBy_0 : decode cX0_allOwedBy 0 = .ok (.iconst 0, 1) := by decide +kernel
theorem dX0_allOwedBy_1 : decode cX0_allOwedBy 1 = .ok (.istore_n 2, 1) := by decide +kernel
theorem dX0_allOwedBy_2 : decode cX0_allOwedBy 2 = .ok (.iconst 0, 1) := by decide +kernel
theorem dX0_allOwedBy_3 : decode cX0_allOwedBy 3 = .ok (.istore_n 3, 1) := by decide +kernel
theorem dX0_allOwedBy_4 : decode cX0_allOwedBy 4 = .ok (.iload_n 3, 1) := by decide +kernel
theorem dX0_allOwedBy_5 : decode cX0_allOwedBy 5 = .ok (.iconst 5, 1) := by decide +kernel
theorem dX0_allOwedBy_6 : decode cX0_allOwedBy 6 = .ok (.if_icmp .ge 18, 3) := by decide +kernel
theorem dX0_allOwedBy_9 : decode cX0_allOwedBy 9 = .ok (.iload_n 2, 1) := by decide +kernel
theorem dX0_allOwedBy_10 : decode cX0_allOwedBy 10 = .ok (.aload_n 0, 1) := by decide +kernel
theorem dX0_allOwedBy_11 : decode cX0_allOwedBy 11 = .ok (.iload_n 1, 1) := by decide +kernel
theorem dX0_allOwedBy_12 : decode cX0_allOwedBy 12 = .ok (.iload_n 3, 1) := by decide +kernel
theorem dX0_allOwedBy_13 : decode cX0_allOwedBy 13 = .ok (.invokevirtual 36, 3) := by decide +kernel
theorem dX0_allOwedBy_16 : decode cX0_allOwedBy 16 = .ok (.iadd, 1) := by decide +kernel
theorem dX0_allOwedBy_17 : decode cX0_allOwedBy 17 = .ok (.istore_n 2, 1) := by decide +kernel
theorem dX0_allOwedBy_18 : decode cX0_allOwedBy 18 = .ok (.iinc 3 1, 3) := by decide +kernel
theorem dX0_allOwedBy_21 : decode cX0_allOwedBy 21 = .ok (.goto (-17), 3) := by decide +kernel
theorem dX0_allOwedBy_24 : decode cX0_allOwedBy 24 = .ok (.iload_n 2, 1) := by decide +kernel
theorem dX0_allOwedBy_25 : decode cX0_allOwedBy 25 = .ok (.ireturn, 1) := by decide +kernel
theorem dX0_allOwedTo_0 : decode cX0_allOwedTo 0 = .ok (.iconst 0, 1) := by decide +kernel
theorem dX0_allOwedTo_1 : decode cX0_allOwedTo 1 = .ok (.istore_n 2, 1) := by decide +kernel
theorem dX0_allOwedTo_2 : decode cX0_allOwedTo 2 = .ok (.iconst 0, 1) := by decide +kernel
theorem dX0_allOwedTo_3 : decode cX0_allOwedTo 3 = .ok (.istore_n 3, 1) := by decide +kernel
theorem dX0_allOwedTo_4 : decode cX0_allOwedTo 4 = .ok (.iload_n 3, 1) := by decide +kernel
theorem dX0_allOwedTo_5 : decode cX0_allOwedTo 5 = .ok (.iconst 4, 1) := by decide +kernel
theorem dX0_allOwedTo_6 : decode cX0_allOwedTo 6 = .ok (.if_icmp .ge 18, 3) := by decide +kernel
theorem dX0_allOwedTo_9 : decode cX0_allOwedTo 9 = .ok (.iload_n 2, 1) := by decide +kernel
theorem dX0_allOwedTo_10 : decode cX0_allOwedTo 10 = .ok (.aload_n 0, 1) := by decide +kernel
theorem dX0_allOwedTo_11 : decode cX0_allOwedTo 11 = .ok (.iload_n 3, 1) := by decide +kernel
theorem dX0_allOwedTo_12 : decode cX0_allOwedTo 12 = .ok (.iload_n 1, 1) := by decide +kernel
theorem dX0_allOwedTo_13 : decode cX0_allOwedTo 13 = .ok (.invokevirtual 36, 3) := by decide +kernel
theorem dX0_allOwedTo_16 : decode cX0_allOwedTo 16 = .ok (.iadd, 1) := by decide +kernel
theorem dX0_allOwedTo_17 : decode cX0_allOwedTo 17 = .ok (.istore_n 2, 1) := by decide +kernel
theorem dX0_allOwedTo_18 : decode cX0_allOwedTo 18 = .ok (.iinc 3 1, 3) := by decide +kernel
theorem dX0_allOwedTo_21 : decode cX0_allOwedTo 21 = .ok (.goto (-17), 3) := by decide +kernel
theorem dX0_allOwedTo_24 : decode cX0_allOwedTo 24 = .ok (.iload_n 2, 1) := by decide +kernel
theorem dX0_allOwedTo_25 : decode cX0_allOwedTo 25 = .ok (.ireturn, 1) := by decide +kernel
theorem dX0_allCoins_0 : decode cX0_allCoins 0 = .ok (.iconst 0, 1) := by decide +kernel
theorem dX0_allCoins_1 : decode cX0_allCoins 1 = .ok (.istore_n 1, 1) := by decide +kernel
theorem dX0_allCoins_2 : decode cX0_allCoins 2 = .ok (.iconst 0, 1) := by decide +kernel
theorem dX0_allCoins_3 : decode cX0_allCoins 3 = .ok (.istore_n 2, 1) := by decide +kernel
theorem dX0_allCoins_4 : decode cX0_allCoins 4 = .ok (.iload_n 2, 1) := by decide +kernel
theorem dX0_allCoins_5 : decode cX0_allCoins 5 = .ok (.iconst 4, 1) := by decide +kernel
theorem dX0_allCoins_6 : decode cX0_allCoins 6 = .ok (.if_icmp .ge 17, 3) := by decide +kernel
theorem dX0_allCoins_9 : decode cX0_allCoins 9 = .ok (.iload_n 1, 1) := by decide +kernel
theorem dX0_allCoins_10 : decode cX0_allCoins 10 = .ok (.aload_n 0, 1) := by decide +kernel
theorem dX0_allCoins_11 : decode cX0_allCoins 11 = .ok (.iload_n 2, 1) := by decide +kernel
theorem dX0_allCoins_12 : decode cX0_allCoins 12 = .ok (.invokevirtual 40, 3) := by decide +kernel
theorem dX0_allCoins_15 : decode cX0_allCoins 15 = .ok (.iadd, 1) := by decide +kernel
theorem dX0_allCoins_16 : decode cX0_allCoins 16 = .ok (.istore_n 1, 1) := by decide +kernel
theorem dX0_allCoins_17 : decode cX0_allCoins 17 = .ok (.iinc 2 1, 3) := by decide +kernel
theorem dX0_allCoins_20 : decode cX0_allCoins 20 = .ok (.goto (-16), 3) := by decide +kernel
theorem dX0_allCoins_23 : decode cX0_allCoins 23 = .ok (.iload_n 1, 1) := by decide +kernel
theorem dX0_allCoins_24 : decode cX0_allCoins 24 = .ok (.ireturn, 1) := by decide +kernel
theorem dX0_allDebts_0 : decode cX0_allDebts 0 = .ok (.iconst 0, 1) := by decide +kernel
theorem dX0_allDebts_1 : decode cX0_allDebts 1 = .ok (.istore_n 1, 1) := by decide +kernel
theorem dX0_allDebts_2 : decode cX0_allDebts 2 = .ok (.iconst 0, 1) := by decide +kernel
theorem dX0_allDebts_3 : decode cX0_allDebts 3 = .ok (.istore_n 2, 1) := by decide +kernel
theorem dX0_allDebts_4 : decode cX0_allDebts 4 = .ok (.iload_n 2, 1) := by decide +kernel
theorem dX0_allDebts_5 : decode cX0_allDebts 5 = .ok (.iconst 4, 1) := by decide +kernel
theorem dX0_allDebts_6 : decode cX0_allDebts 6 = .ok (.if_icmp .ge 17, 3) := by decide +kernel
theorem dX0_allDebts_9 : decode cX0_allDebts 9 = .ok (.iload_n 1, 1) := by decide +kernel
theorem dX0_allDebts_10 : decode cX0_allDebts 10 = .ok (.aload_n 0, 1) := by decide +kernel
theorem dX0_allDebts_11 : decode cX0_allDebts 11 = .ok (.iload_n 2, 1) := by decide +kernel
theorem dX0_allDebts_12 : decode cX0_allDebts 12 = .ok (.invokevirtual 44, 3) := by decide +kernel
theorem dX0_allDebts_15 : decode cX0_allDebts 15 = .ok (.iadd, 1) := by decide +kernel
theorem dX0_allDebts_16 : decode cX0_allDebts 16 = .ok (.istore_n 1, 1) := by decide +kernel
theorem dX0_allDebts_17 : decode cX0_allDebts 17 = .ok (.iinc 2 1, 3) := by decide +kernel
theorem dX0_allDebts_20 : decode cX0_allDebts 20 = .ok (.goto (-16), 3) := by decide +kernel
theorem dX0_allDebts_23 : decode cX0_allDebts 23 = .ok (.iload_n 1, 1) := by decide +kernel
theorem dX0_allDebts_24 : decode cX0_allDebts 24 = .ok (.ireturn, 1) := by decide +kernel
theorem dX0_debtorCount_0 : decode cX0_debtorCount 0 = .ok (.iconst 0, 1) := by decide +kernel
theorem dX0_debtorCount_1 : decode cX0_debtorCount 1 = .ok (.istore_n 1, 1) := by decide +kernel
theorem dX0_debtorCount_2 : decode cX0_debtorCount 2 = .ok (.iconst 0, 1) := by decide +kernel
theorem dX0_debtorCount_3 : decode cX0_debtorCount 3 = .ok (.istore_n 2, 1) := by decide +kernel
theorem dX0_debtorCount_4 : decode cX0_debtorCount 4 = .ok (.iload_n 2, 1) := by decide +kernel
theorem dX0_debtorCount_5 : decode cX0_debtorCount 5 = .ok (.iconst 4, 1) := by decide +kernel
theorem dX0_debtorCount_6 : decode cX0_debtorCount 6 = .ok (.if_icmp .ge 20, 3) := by decide +kernel
theorem dX0_debtorCount_9 : decode cX0_debtorCount 9 = .ok (.aload_n 0, 1) := by decide +kernel
theorem dX0_debtorCount_10 : decode cX0_debtorCount 10 = .ok (.iload_n 2, 1) := by decide +kernel
theorem dX0_debtorCount_11 : decode cX0_debtorCount 11 = .ok (.invokevirtual 44, 3) := by decide +kernel
theorem dX0_debtorCount_14 : decode cX0_debtorCount 14 = .ok (.ifCond .le 6, 3) := by decide +kernel
theorem dX0_debtorCount_17 : decode cX0_debtorCount 17 = .ok (.iinc 1 1, 3) := by decide +kernel
theorem dX0_debtorCount_20 : decode cX0_debtorCount 20 = .ok (.iinc 2 1, 3) := by decide +kernel
theorem dX0_debtorCount_23 : decode cX0_debtorCount 23 = .ok (.goto (-19), 3) := by decide +kernel
theorem dX0_debtorCount_26 : decode cX0_debtorCount 26 = .ok (.iload_n 1, 1) := by decide +kernel
theorem dX0_debtorCount_27 : decode cX0_debtorCount 27 = .ok (.ireturn, 1) := by decide +kernel
theorem dX0_shortfall_0 : decode cX0_shortfall 0 = .ok (.aload_n 0, 1) := by decide +kernel
theorem dX0_shortfall_1 : decode cX0_shortfall 1 = .ok (.iload_n 1, 1) := by decide +kernel
theorem dX0_shortfall_2 : decode cX0_shortfall 2 = .ok (.invokevirtual 44, 3) := by decide +kernel
theorem dX0_shortfall_5 : decode cX0_shortfall 5 = .ok (.aload_n 0, 1) := by decide +kernel
theorem dX0_shortfall_6 : decode cX0_shortfall 6 = .ok (.iload_n 1, 1) := by decide +kernel
theorem dX0_shortfall_7 : decode cX0_shortfall 7 = .ok (.invokevirtual 40, 3) := by decide +kernel
theorem dX0_shortfall_10 : decode cX0_shortfall 10 = .ok (.isub, 1) := by decide +kernel
theorem dX0_shortfall_11 : decode cX0_shortfall 11 = .ok (.aload_n 0, 1) := by decide +kernel
theorem dX0_shortfall_12 : decode cX0_shortfall 12 = .ok (.iload_n 1, 1) := by decide +kernel
theorem dX0_shortfall_13 : decode cX0_shortfall 13 = .ok (.invokevirtual 47, 3) := by decide +kernel
theorem dX0_shortfall_16 : decode cX0_shortfall 16 = .ok (.isub, 1) := by decide +kernel
theorem dX0_shortfall_17 : decode cX0_shortfall 17 = .ok (.ireturn, 1) := by decide +kernel
theorem dX0_helpNeeded_0 : decode cX0_helpNeeded 0 = .ok (.iconst 0, 1) := by decide +kernel
theorem dX0_helpNeeded_1 : decode cX0_helpNeeded 1 = .ok (.istore_n 2, 1) := by decide +kernel
theorem dX0_helpNeeded_2 : decode cX0_helpNeeded 2 = .ok (.iload_n 2, 1) := by decide +kernel
theorem dX0_helpNeeded_3 : decode cX0_helpNeeded 3 = .ok (.iconst 4, 1) := by decide +kernel
theorem dX0_helpNeeded_4 : decode cX0_helpNeeded 4 = .ok (.if_icmp .ge 24, 3) := by decide +kernel
theorem dX0_helpNeeded_7 : decode cX0_helpNeeded 7 = .ok (.iload_n 2, 1) := by decide +kernel
theorem dX0_helpNeeded_8 : decode cX0_helpNeeded 8 = .ok (.iload_n 1, 1) := by decide +kernel
theorem dX0_helpNeeded_9 : decode cX0_helpNeeded 9 = .ok (.if_icmp .eq 13, 3) := by decide +kernel
theorem dX0_helpNeeded_12 : decode cX0_helpNeeded 12 = .ok (.aload_n 0, 1) := by decide +kernel
theorem dX0_helpNeeded_13 : decode cX0_helpNeeded 13 = .ok (.iload_n 2, 1) := by decide +kernel
theorem dX0_helpNeeded_14 : decode cX0_helpNeeded 14 = .ok (.invokevirtual 50, 3) := by decide +kernel
theorem dX0_helpNeeded_17 : decode cX0_helpNeeded 17 = .ok (.ifCond .le 5, 3) := by decide +kernel
theorem dX0_helpNeeded_20 : decode cX0_helpNeeded 20 = .ok (.iconst (-1), 1) := by decide +kernel
theorem dX0_helpNeeded_21 : decode cX0_helpNeeded 21 = .ok (.ireturn, 1) := by decide +kernel
theorem dX0_helpNeeded_22 : decode cX0_helpNeeded 22 = .ok (.iinc 2 1, 3) := by decide +kernel
theorem dX0_helpNeeded_25 : decode cX0_helpNeeded 25 = .ok (.goto (-23), 3) := by decide +kernel
theorem dX0_helpNeeded_28 : decode cX0_helpNeeded 28 = .ok (.iconst 0, 1) := by decide +kernel
theorem dX0_helpNeeded_29 : decode cX0_helpNeeded 29 = .ok (.aload_n 0, 1) := by decide +kernel
theorem dX0_helpNeeded_30 : decode cX0_helpNeeded 30 = .ok (.iload_n 1, 1) := by decide +kernel
theorem dX0_helpNeeded_31 : decode cX0_helpNeeded 31 = .ok (.invokevirtual 50, 3) := by decide +kernel
theorem dX0_helpNeeded_34 : decode cX0_helpNeeded 34 = .ok (.invokestatic 53, 3) := by decide +kernel
theorem dX0_helpNeeded_37 : decode cX0_helpNeeded 37 = .ok (.ireturn, 1) := by decide +kernel
theorem dX0_passDay_0 : decode cX0_passDay 0 = .ok (.iconst 0, 1) := by decide +kernel
theorem dX0_passDay_1 : decode cX0_passDay 1 = .ok (.istore_n 1, 1) := by decide +kernel
theorem dX0_passDay_2 : decode cX0_passDay 2 = .ok (.iconst 0, 1) := by decide +kernel
theorem dX0_passDay_3 : decode cX0_passDay 3 = .ok (.istore_n 2, 1) := by decide +kernel
theorem dX0_passDay_4 : decode cX0_passDay 4 = .ok (.iload_n 2, 1) := by decide +kernel
theorem dX0_passDay_5 : decode cX0_passDay 5 = .ok (.iconst 4, 1) := by decide +kernel
theorem dX0_passDay_6 : decode cX0_passDay 6 = .ok (.if_icmp .ge 40, 3) := by decide +kernel
theorem dX0_passDay_9 : decode cX0_passDay 9 = .ok (.iload_n 1, 1) := by decide +kernel
theorem dX0_passDay_10 : decode cX0_passDay 10 = .ok (.aload_n 0, 1) := by decide +kernel
theorem dX0_passDay_11 : decode cX0_passDay 11 = .ok (.iload_n 2, 1) := by decide +kernel
theorem dX0_passDay_12 : decode cX0_passDay 12 = .ok (.iconst 4, 1) := by decide +kernel
theorem dX0_passDay_13 : decode cX0_passDay 13 = .ok (.invokevirtual 58, 3) := by decide +kernel
theorem dX0_passDay_16 : decode cX0_passDay 16 = .ok (.iadd, 1) := by decide +kernel
theorem dX0_passDay_17 : decode cX0_passDay 17 = .ok (.istore_n 1, 1) := by decide +kernel
theorem dX0_passDay_18 : decode cX0_passDay 18 = .ok (.iconst 0, 1) := by decide +kernel
theorem dX0_passDay_19 : decode cX0_passDay 19 = .ok (.istore_n 3, 1) := by decide +kernel
theorem dX0_passDay_20 : decode cX0_passDay 20 = .ok (.iload_n 3, 1) := by decide +kernel
theorem dX0_passDay_21 : decode cX0_passDay 21 = .ok (.iconst 4, 1) := by decide +kernel
theorem dX0_passDay_22 : decode cX0_passDay 22 = .ok (.if_icmp .ge 18, 3) := by decide +kernel
theorem dX0_passDay_25 : decode cX0_passDay 25 = .ok (.iload_n 1, 1) := by decide +kernel
theorem dX0_passDay_26 : decode cX0_passDay 26 = .ok (.aload_n 0, 1) := by decide +kernel
theorem dX0_passDay_27 : decode cX0_passDay 27 = .ok (.iload_n 2, 1) := by decide +kernel
theorem dX0_passDay_28 : decode cX0_passDay 28 = .ok (.iload_n 3, 1) := by decide +kernel
theorem dX0_passDay_29 : decode cX0_passDay 29 = .ok (.invokevirtual 58, 3) := by decide +kernel
theorem dX0_passDay_32 : decode cX0_passDay 32 = .ok (.iadd, 1) := by decide +kernel
theorem dX0_passDay_33 : decode cX0_passDay 33 = .ok (.istore_n 1, 1) := by decide +kernel
theorem dX0_passDay_34 : decode cX0_passDay 34 = .ok (.iinc 3 1, 3) := by decide +kernel
theorem dX0_passDay_37 : decode cX0_passDay 37 = .ok (.goto (-17), 3) := by decide +kernel
theorem dX0_passDay_40 : decode cX0_passDay 40 = .ok (.iinc 2 1, 3) := by decide +kernel
theorem dX0_passDay_43 : decode cX0_passDay 43 = .ok (.goto (-39), 3) := by decide +kernel
theorem dX0_passDay_46 : decode cX0_passDay 46 = .ok (.iload_n 1, 1) := by decide +kernel
theorem dX0_passDay_47 : decode cX0_passDay 47 = .ok (.ireturn, 1) := by decide +kernel
theorem dX0_payWhole_0 : decode cX0_payWhole 0 = .ok (.aload_n 0, 1) := by decide +kernel
theorem dX0_payWhole_1 : decode cX0_payWhole 1 = .ok (.iload_n 1, 1) := by decide +kernel
theorem dX0_payWhole_2 : decode cX0_payWhole 2 = .ok (.iload_n 2, 1) := by decide +kernel
theorem dX0_payWhole_3 : decode cX0_payWhole 3 = .ok (.invokevirtual 36, 3) := by decide +kernel
theorem dX0_payWhole_6 : decode cX0_payWhole 6 = .ok (.istore_n 3, 1) := by decide +kernel
theorem dX0_payWhole_7 : decode cX0_payWhole 7 = .ok (.iload_n 3, 1) := by decide +kernel
theorem dX0_payWhole_8 : decode cX0_payWhole 8 = .ok (.ifCond .eq 12, 3) := by decide +kernel
theorem dX0_payWhole_11 : decode cX0_payWhole 11 = .ok (.aload_n 0, 1) := by decide +kernel
theorem dX0_payWhole_12 : decode cX0_payWhole 12 = .ok (.iload_n 1, 1) := by decide +kernel
theorem dX0_payWhole_13 : decode cX0_payWhole 13 = .ok (.invokevirtual 40, 3) := by decide +kernel
theorem dX0_payWhole_16 : decode cX0_payWhole 16 = .ok (.iload_n 3, 1) := by decide +kernel
theorem dX0_payWhole_17 : decode cX0_payWhole 17 = .ok (.if_icmp .ge 5, 3) := by decide +kernel
theorem dX0_payWhole_20 : decode cX0_payWhole 20 = .ok (.iconst 0, 1) := by decide +kernel
theorem dX0_payWhole_21 : decode cX0_payWhole 21 = .ok (.ireturn, 1) := by decide +kernel
theorem dX0_payWhole_22 : decode cX0_payWhole 22 = .ok (.aload_n 0, 1) := by decide +kernel
theorem dX0_payWhole_23 : decode cX0_payWhole 23 = .ok (.iload_n 1, 1) := by decide +kernel
theorem dX0_payWhole_24 : decode cX0_payWhole 24 = .ok (.iload_n 2, 1) := by decide +kernel
theorem dX0_payWhole_25 : decode cX0_payWhole 25 = .ok (.iconst 0, 1) := by decide +kernel
theorem dX0_payWhole_26 : decode cX0_payWhole 26 = .ok (.invokevirtual 61, 3) := by decide +kernel
theorem dX0_payWhole_29 : decode cX0_payWhole 29 = .ok (.aload_n 0, 1) := by decide +kernel
theorem dX0_payWhole_30 : decode cX0_payWhole 30 = .ok (.iload_n 1, 1) := by decide +kernel
theorem dX0_payWhole_31 : decode cX0_payWhole 31 = .ok (.aload_n 0, 1) := by decide +kernel
theorem dX0_payWhole_32 : decode cX0_payWhole 32 = .ok (.iload_n 1, 1) := by decide +kernel
theorem dX0_payWhole_33 : decode cX0_payWhole 33 = .ok (.invokevirtual 40, 3) := by decide +kernel
theorem dX0_payWhole_36 : decode cX0_payWhole 36 = .ok (.iload_n 3, 1) := by decide +kernel
theorem dX0_payWhole_37 : decode cX0_payWhole 37 = .ok (.isub, 1) := by decide +kernel
theorem dX0_payWhole_38 : decode cX0_payWhole 38 = .ok (.invokevirtual 65, 3) := by decide +kernel
theorem dX0_payWhole_41 : decode cX0_payWhole 41 = .ok (.iload_n 2, 1) := by decide +kernel
theorem dX0_payWhole_42 : decode cX0_payWhole 42 = .ok (.iconst 4, 1) := by decide +kernel
theorem dX0_payWhole_43 : decode cX0_payWhole 43 = .ok (.if_icmp .ne 16, 3) := by decide +kernel
theorem dX0_payWhole_46 : decode cX0_payWhole 46 = .ok (.aload_n 0, 1) := by decide +kernel
theorem dX0_payWhole_47 : decode cX0_payWhole 47 = .ok (.dup, 1) := by decide +kernel
theorem dX0_payWhole_48 : decode cX0_payWhole 48 = .ok (.getfield 18, 3) := by decide +kernel
theorem dX0_payWhole_51 : decode cX0_payWhole 51 = .ok (.iload_n 3, 1) := by decide +kernel
theorem dX0_payWhole_52 : decode cX0_payWhole 52 = .ok (.iadd, 1) := by decide +kernel
theorem dX0_payWhole_53 : decode cX0_payWhole 53 = .ok (.putfield 18, 3) := by decide +kernel
theorem dX0_payWhole_56 : decode cX0_payWhole 56 = .ok (.goto 15, 3) := by decide +kernel
theorem dX0_payWhole_59 : decode cX0_payWhole 59 = .ok (.aload_n 0, 1) := by decide +kernel
theorem dX0_payWhole_60 : decode cX0_payWhole 60 = .ok (.iload_n 2, 1) := by decide +kernel
theorem dX0_payWhole_61 : decode cX0_payWhole 61 = .ok (.aload_n 0, 1) := by decide +kernel
theorem dX0_payWhole_62 : decode cX0_payWhole 62 = .ok (.iload_n 2, 1) := by decide +kernel
theorem dX0_payWhole_63 : decode cX0_payWhole 63 = .ok (.invokevirtual 40, 3) := by decide +kernel
theorem dX0_payWhole_66 : decode cX0_payWhole 66 = .ok (.iload_n 3, 1) := by decide +kernel
theorem dX0_payWhole_67 : decode cX0_payWhole 67 = .ok (.iadd, 1) := by decide +kernel
theorem dX0_payWhole_68 : decode cX0_payWhole 68 = .ok (.invokevirtual 65, 3) := by decide +kernel
theorem dX0_payWhole_71 : decode cX0_payWhole 71 = .ok (.iconst 1, 1) := by decide +kernel
theorem dX0_payWhole_72 : decode cX0_payWhole 72 = .ok (.ireturn, 1) := by decide +kernel
theorem dX1_init_0 : decode cX1_init 0 = .ok (.aload_n 0, 1) := by decide +kernel
theorem dX1_init_1 : decode cX1_init 1 = .ok (.invokespecial 3, 3) := by decide +kernel
theorem dX1_init_4 : decode cX1_init 4 = .ok (.aload_n 0, 1) := by decide +kernel
theorem dX1_init_5 : decode cX1_init 5 = .ok (.iconst 4, 1) := by decide +kernel
theorem dX1_init_6 : decode cX1_init 6 = .ok (.newarray .int, 2) := by decide +kernel
theorem dX1_init_8 : decode cX1_init 8 = .ok (.putfield 9, 3) := by decide +kernel
theorem dX1_init_11 : decode cX1_init 11 = .ok (.aload_n 0, 1) := by decide +kernel
theorem dX1_init_12 : decode cX1_init 12 = .ok (.iconst 4, 1) := by decide +kernel
theorem dX1_init_13 : decode cX1_init 13 = .ok (.newarray .long, 2) := by decide +kernel
theorem dX1_init_15 : decode cX1_init 15 = .ok (.putfield 15, 3) := by decide +kernel
theorem dX1_init_18 : decode cX1_init 18 = .ok (.aload_n 0, 1) := by decide +kernel
theorem dX1_init_19 : decode cX1_init 19 = .ok (.bipush 16, 2) := by decide +kernel
theorem dX1_init_21 : decode cX1_init 21 = .ok (.newarray .long, 2) := by decide +kernel
theorem dX1_init_23 : decode cX1_init 23 = .ok (.putfield 19, 3) := by decide +kernel
theorem dX1_init_26 : decode cX1_init 26 = .ok (.aload_n 0, 1) := by decide +kernel
theorem dX1_init_27 : decode cX1_init 27 = .ok (.iconst 4, 1) := by decide +kernel
theorem dX1_init_28 : decode cX1_init 28 = .ok (.newarray .long, 2) := by decide +kernel
theorem dX1_init_30 : decode cX1_init 30 = .ok (.putfield 22, 3) := by decide +kernel
theorem dX1_init_33 : decode cX1_init 33 = .ok (.aload_n 0, 1) := by decide +kernel
theorem dX1_init_34 : decode cX1_init 34 = .ok (.iconst (-1), 1) := by decide +kernel
theorem dX1_init_35 : decode cX1_init 35 = .ok (.putfield 25, 3) := by decide +kernel
theorem dX1_init_38 : decode cX1_init 38 = .ok (.aload_n 0, 1) := by decide +kernel
theorem dX1_init_39 : decode cX1_init 39 = .ok (.iconst 0, 1) := by decide +kernel
theorem dX1_init_40 : decode cX1_init 40 = .ok (.putfield 29, 3) := by decide +kernel
theorem dX1_init_43 : decode cX1_init 43 = .ok (.aload_n 0, 1) := by decide +kernel
theorem dX1_init_44 : decode cX1_init 44 = .ok (.lconst 1, 1) := by decide +kernel
theorem dX1_init_45 : decode cX1_init 45 = .ok (.putfield 32, 3) := by decide +kernel
theorem dX1_init_48 : decode cX1_init 48 = .ok (.aload_n 0, 1) := by decide +kernel
theorem dX1_init_49 : decode cX1_init 49 = .ok (.aload_n 1, 1) := by decide +kernel
theorem dX1_init_50 : decode cX1_init 50 = .ok (.putfield 36, 3) := by decide +kernel
theorem dX1_init_53 : decode cX1_init 53 = .ok (.return_, 1) := by decide +kernel
theorem dX1_settle_0 : decode cX1_settle 0 = .ok (.aload_n 0, 1) := by decide +kernel
theorem dX1_settle_1 : decode cX1_settle 1 = .ok (.iload_n 1, 1) := by decide +kernel
theorem dX1_settle_2 : decode cX1_settle 2 = .ok (.putfield 25, 3) := by decide +kernel
theorem dX1_settle_5 : decode cX1_settle 5 = .ok (.aload_n 0, 1) := by decide +kernel
theorem dX1_settle_6 : decode cX1_settle 6 = .ok (.iconst 0, 1) := by decide +kernel
theorem dX1_settle_7 : decode cX1_settle 7 = .ok (.putfield 29, 3) := by decide +kernel
theorem dX1_settle_10 : decode cX1_settle 10 = .ok (.aload_n 0, 1) := by decide +kernel
theorem dX1_settle_11 : decode cX1_settle 11 = .ok (.lconst 1, 1) := by decide +kernel
theorem dX1_settle_12 : decode cX1_settle 12 = .ok (.putfield 32, 3) := by decide +kernel
theorem dX1_settle_15 : decode cX1_settle 15 = .ok (.iconst 0, 1) := by decide +kernel
theorem dX1_settle_16 : decode cX1_settle 16 = .ok (.istore_n 2, 1) := by decide +kernel
theorem dX1_settle_17 : decode cX1_settle 17 = .ok (.iload_n 2, 1) := by decide +kernel
theorem dX1_settle_18 : decode cX1_settle 18 = .ok (.iconst 4, 1) := by decide +kernel
theorem dX1_settle_19 : decode cX1_settle 19 = .ok (.if_icmp .ge 27, 3) := by decide +kernel
theorem dX1_settle_22 : decode cX1_settle 22 = .ok (.aload_n 0, 1) := by decide +kernel
theorem dX1_settle_23 : decode cX1_settle 23 = .ok (.getfield 9, 3) := by decide +kernel
theorem dX1_settle_26 : decode cX1_settle 26 = .ok (.iload_n 2, 1) := by decide +kernel
theorem dX1_settle_27 : decode cX1_settle 27 = .ok (.iconst 0, 1) := by decide +kernel
theorem dX1_settle_28 : decode cX1_settle 28 = .ok (.invokestatic 40, 3) := by decide +kernel
theorem dX1_settle_31 : decode cX1_settle 31 = .ok (.aload_n 0, 1) := by decide +kernel
theorem dX1_settle_32 : decode cX1_settle 32 = .ok (.getfield 15, 3) := by decide +kernel
theorem dX1_settle_35 : decode cX1_settle 35 = .ok (.iload_n 2, 1) := by decide +kernel
theorem dX1_settle_36 : decode cX1_settle 36 = .ok (.lconst 1, 1) := by decide +kernel
theorem dX1_settle_37 : decode cX1_settle 37 = .ok (.invokestatic 44, 3) := by decide +kernel
theorem dX1_settle_40 : decode cX1_settle 40 = .ok (.iinc 2 1, 3) := by decide +kernel
theorem dX1_settle_43 : decode cX1_settle 43 = .ok (.goto (-26), 3) := by decide +kernel
theorem dX1_settle_46 : decode cX1_settle 46 = .ok (.iconst 1, 1) := by decide +kernel
theorem dX1_settle_47 : decode cX1_settle 47 = .ok (.istore_n 2, 1) := by decide +kernel
theorem dX1_settle_48 : decode cX1_settle 48 = .ok (.iload_n 2, 1) := by decide +kernel
theorem dX1_settle_49 : decode cX1_settle 49 = .ok (.iconst 4, 1) := by decide +kernel
theorem dX1_settle_50 : decode cX1_settle 50 = .ok (.if_icmp .gt 29, 3) := by decide +kernel
theorem dX1_settle_53 : decode cX1_settle 53 = .ok (.aload_n 0, 1) := by decide +kernel
theorem dX1_settle_54 : decode cX1_settle 54 = .ok (.iload_n 2, 1) := by decide +kernel
theorem dX1_settle_55 : decode cX1_settle 55 = .ok (.invokevirtual 48, 3) := by decide +kernel
theorem dX1_settle_58 : decode cX1_settle 58 = .ok (.ifCond .ne 6, 3) := by decide +kernel
theorem dX1_settle_61 : decode cX1_settle 61 = .ok (.goto 18, 3) := by decide +kernel
theorem dX1_settle_64 : decode cX1_settle 64 = .ok (.aload_n 0, 1) := by decide +kernel
theorem dX1_settle_65 : decode cX1_settle 65 = .ok (.iload_n 2, 1) := by decide +kernel
theorem dX1_settle_66 : decode cX1_settle 66 = .ok (.putfield 29, 3) := by decide +kernel
theorem dX1_settle_69 : decode cX1_settle 69 = .ok (.aload_n 0, 1) := by decide +kernel
theorem dX1_settle_70 : decode cX1_settle 70 = .ok (.invokevirtual 52, 3) := by decide +kernel
theorem dX1_settle_73 : decode cX1_settle 73 = .ok (.iinc 2 1, 3) := by decide +kernel
theorem dX1_settle_76 : decode cX1_settle 76 = .ok (.goto (-28), 3) := by decide +kernel
theorem dX1_settle_79 : decode cX1_settle 79 = .ok (.return_, 1) := by decide +kernel
theorem dX1_anyFallIn_0 : decode cX1_anyFallIn 0 = .ok (.iconst 0, 1) := by decide +kernel
theorem dX1_anyFallIn_1 : decode cX1_anyFallIn 1 = .ok (.istore_n 2, 1) := by decide +kernel
theorem dX1_anyFallIn_2 : decode cX1_anyFallIn 2 = .ok (.iconst 0, 1) := by decide +kernel
theorem dX1_anyFallIn_3 : decode cX1_anyFallIn 3 = .ok (.istore_n 3, 1) := by decide +kernel
theorem dX1_anyFallIn_4 : decode cX1_anyFallIn 4 = .ok (.iload_n 3, 1) := by decide +kernel
theorem dX1_anyFallIn_5 : decode cX1_anyFallIn 5 = .ok (.iconst 4, 1) := by decide +kernel
theorem dX1_anyFallIn_6 : decode cX1_anyFallIn 6 = .ok (.if_icmp .ge 51, 3) := by decide +kernel
theorem dX1_anyFallIn_9 : decode cX1_anyFallIn 9 = .ok (.aload_n 0, 1) := by decide +kernel
theorem dX1_anyFallIn_10 : decode cX1_anyFallIn 10 = .ok (.iload_n 3, 1) := by decide +kernel
theorem dX1_anyFallIn_11 : decode cX1_anyFallIn 11 = .ok (.invokevirtual 55, 3) := by decide +kernel
theorem dX1_anyFallIn_14 : decode cX1_anyFallIn 14 = .ok (.ifCond .ne 37, 3) := by decide +kernel
theorem dX1_anyFallIn_17 : decode cX1_anyFallIn 17 = .ok (.aload_n 0, 1) := by decide +kernel
theorem dX1_anyFallIn_18 : decode cX1_anyFallIn 18 = .ok (.iload_n 3, 1) := by decide +kernel
theorem dX1_anyFallIn_19 : decode cX1_anyFallIn 19 = .ok (.invokevirtual 58, 3) := by decide +kernel
theorem dX1_anyFallIn_22 : decode cX1_anyFallIn 22 = .ok (.aload_n 0, 1) := by decide +kernel
theorem dX1_anyFallIn_23 : decode cX1_anyFallIn 23 = .ok (.getfield 32, 3) := by decide +kernel
theorem dX1_anyFallIn_26 : decode cX1_anyFallIn 26 = .ok (.aload_n 0, 1) := by decide +kernel
theorem dX1_anyFallIn_27 : decode cX1_anyFallIn 27 = .ok (.getfield 36, 3) := by decide +kernel
theorem dX1_anyFallIn_30 : decode cX1_anyFallIn 30 = .ok (.iload_n 3, 1) := by decide +kernel
theorem dX1_anyFallIn_31 : decode cX1_anyFallIn 31 = .ok (.invokevirtual 62, 3) := by decide +kernel
theorem dX1_anyFallIn_34 : decode cX1_anyFallIn 34 = .ok (.i2l, 1) := by decide +kernel
theorem dX1_anyFallIn_35 : decode cX1_anyFallIn 35 = .ok (.lmul, 1) := by decide +kernel
theorem dX1_anyFallIn_36 : decode cX1_anyFallIn 36 = .ok (.lcmp, 1) := by decide +kernel
theorem dX1_anyFallIn_37 : decode cX1_anyFallIn 37 = .ok (.ifCond .ge 14, 3) := by decide +kernel
theorem dX1_anyFallIn_40 : decode cX1_anyFallIn 40 = .ok (.aload_n 0, 1) := by decide +kernel
theorem dX1_anyFallIn_41 : decode cX1_anyFallIn 41 = .ok (.getfield 9, 3) := by decide +kernel
theorem dX1_anyFallIn_44 : decode cX1_anyFallIn 44 = .ok (.iload_n 3, 1) := by decide +kernel
theorem dX1_anyFallIn_45 : decode cX1_anyFallIn 45 = .ok (.iload_n 1, 1) := by decide +kernel
theorem dX1_anyFallIn_46 : decode cX1_anyFallIn 46 = .ok (.invokestatic 40, 3) := by decide +kernel
theorem dX1_anyFallIn_49 : decode cX1_anyFallIn 49 = .ok (.iconst 1, 1) := by decide +kernel
theorem dX1_anyFallIn_50 : decode cX1_anyFallIn 50 = .ok (.istore_n 2, 1) := by decide +kernel
theorem dX1_anyFallIn_51 : decode cX1_anyFallIn 51 = .ok (.iinc 3 1, 3) := by decide +kernel
theorem dX1_anyFallIn_54 : decode cX1_anyFallIn 54 = .ok (.goto (-50), 3) := by decide +kernel
theorem dX1_anyFallIn_57 : decode cX1_anyFallIn 57 = .ok (.iload_n 2, 1) := by decide +kernel
theorem dX1_anyFallIn_58 : decode cX1_anyFallIn 58 = .ok (.ireturn, 1) := by decide +kernel
theorem dX1_isFallen_0 : decode cX1_isFallen 0 = .ok (.aload_n 0, 1) := by decide +kernel
theorem dX1_isFallen_1 : decode cX1_isFallen 1 = .ok (.iload_n 1, 1) := by decide +kernel
theorem dX1_isFallen_2 : decode cX1_isFallen 2 = .ok (.invokevirtual 68, 3) := by decide +kernel
theorem dX1_isFallen_5 : decode cX1_isFallen 5 = .ok (.ifCond .le 7, 3) := by decide +kernel
theorem dX1_isFallen_8 : decode cX1_isFallen 8 = .ok (.iconst 1, 1) := by decide +kernel
theorem dX1_isFallen_9 : decode cX1_isFallen 9 = .ok (.goto 4, 3) := by decide +kernel
theorem dX1_isFallen_12 : decode cX1_isFallen 12 = .ok (.iconst 0, 1) := by decide +kernel
theorem dX1_isFallen_13 : decode cX1_isFallen 13 = .ok (.ireturn, 1) := by decide +kernel
theorem dX1_usableCoins_0 : decode cX1_usableCoins 0 = .ok (.iload_n 1, 1) := by decide +kernel
theorem dX1_usableCoins_1 : decode cX1_usableCoins 1 = .ok (.aload_n 0, 1) := by decide +kernel
theorem dX1_usableCoins_2 : decode cX1_usableCoins 2 = .ok (.getfield 25, 3) := by decide +kernel
theorem dX1_usableCoins_5 : decode cX1_usableCoins 5 = .ok (.if_icmp .ne 7, 3) := by decide +kernel
theorem dX1_usableCoins_8 : decode cX1_usableCoins 8 = .ok (.iconst 0, 1) := by decide +kernel
theorem dX1_usableCoins_9 : decode cX1_usableCoins 9 = .ok (.goto 11, 3) := by decide +kernel
theorem dX1_usableCoins_12 : decode cX1_usableCoins 12 = .ok (.aload_n 0, 1) := by decide +kernel
theorem dX1_usableCoins_13 : decode cX1_usableCoins 13 = .ok (.getfield 36, 3) := by decide +kernel
theorem dX1_usableCoins_16 : decode cX1_usableCoins 16 = .ok (.iload_n 1, 1) := by decide +kernel
theorem dX1_usableCoins_17 : decode cX1_usableCoins 17 = .ok (.invokevirtual 71, 3) := by decide +kernel
theorem dX1_usableCoins_20 : decode cX1_usableCoins 20 = .ok (.ireturn, 1) := by decide +kernel
theorem dX1_solveShares_0 : decode cX1_solveShares 0 = .ok (.iconst 0, 1) := by decide +kernel
theorem dX1_solveShares_1 : decode cX1_solveShares 1 = .ok (.istore_n 1, 1) := by decide +kernel
theorem dX1_solveShares_2 : decode cX1_solveShares 2 = .ok (.iload_n 1, 1) := by decide +kernel
theorem dX1_solveShares_3 : decode cX1_solveShares 3 = .ok (.iconst 4, 1) := by decide +kernel
theorem dX1_solveShares_4 : decode cX1_solveShares 4 = .ok (.if_icmp .ge 14, 3) := by decide +kernel
theorem dX1_solveShares_7 : decode cX1_solveShares 7 = .ok (.aload_n 0, 1) := by decide +kernel
theorem dX1_solveShares_8 : decode cX1_solveShares 8 = .ok (.iload_n 1, 1) := by decide +kernel
theorem dX1_solveShares_9 : decode cX1_solveShares 9 = .ok (.invokevirtual 74, 3) := by decide +kernel
theorem dX1_solveShares_12 : decode cX1_solveShares 12 = .ok (.iinc 1 1, 3) := by decide +kernel
theorem dX1_solveShares_15 : decode cX1_solveShares 15 = .ok (.goto (-13), 3) := by decide +kernel
theorem dX1_solveShares_18 : decode cX1_solveShares 18 = .ok (.aload_n 0, 1) := by decide +kernel
theorem dX1_solveShares_19 : decode cX1_solveShares 19 = .ok (.aload_n 0, 1) := by decide +kernel
theorem dX1_solveShares_20 : decode cX1_solveShares 20 = .ok (.iconst (-1), 1) := by decide +kernel
theorem dX1_solveShares_21 : decode cX1_solveShares 21 = .ok (.invokevirtual 78, 3) := by decide +kernel
theorem dX1_solveShares_24 : decode cX1_solveShares 24 = .ok (.putfield 32, 3) := by decide +kernel
theorem dX1_solveShares_27 : decode cX1_solveShares 27 = .ok (.iconst 0, 1) := by decide +kernel
theorem dX1_solveShares_28 : decode cX1_solveShares 28 = .ok (.istore_n 1, 1) := by decide +kernel
theorem dX1_solveShares_29 : decode cX1_solveShares 29 = .ok (.iload_n 1, 1) := by decide +kernel
theorem dX1_solveShares_30 : decode cX1_solveShares 30 = .ok (.iconst 4, 1) := by decide +kernel
theorem dX1_solveShares_31 : decode cX1_solveShares 31 = .ok (.if_icmp .ge 22, 3) := by decide +kernel
theorem dX1_solveShares_34 : decode cX1_solveShares 34 = .ok (.aload_n 0, 1) := by decide +kernel
theorem dX1_solveShares_35 : decode cX1_solveShares 35 = .ok (.getfield 15, 3) := by decide +kernel
theorem dX1_solveShares_38 : decode cX1_solveShares 38 = .ok (.iload_n 1, 1) := by decide +kernel
theorem dX1_solveShares_39 : decode cX1_solveShares 39 = .ok (.aload_n 0, 1) := by decide +kernel
theorem dX1_solveShares_40 : decode cX1_solveShares 40 = .ok (.iload_n 1, 1) := by decide +kernel
theorem dX1_solveShares_41 : decode cX1_solveShares 41 = .ok (.invokevirtual 78, 3) := by decide +kernel
theorem dX1_solveShares_44 : decode cX1_solveShares 44 = .ok (.invokestatic 44, 3) := by decide +kernel
theorem dX1_solveShares_47 : decode cX1_solveShares 47 = .ok (.iinc 1 1, 3) := by decide +kernel
theorem dX1_solveShares_50 : decode cX1_solveShares 50 = .ok (.goto (-21), 3) := by decide +kernel
theorem dX1_solveShares_53 : decode cX1_solveShares 53 = .ok (.return_, 1) := by decide +kernel
theorem dX1_writeEquation_0 : decode cX1_writeEquation 0 = .ok (.aload_n 0, 1) := by decide +kernel
theorem dX1_writeEquation_1 : decode cX1_writeEquation 1 = .ok (.iload_n 1, 1) := by decide +kernel
theorem dX1_writeEquation_2 : decode cX1_writeEquation 2 = .ok (.invokevirtual 55, 3) := by decide +kernel
theorem dX1_writeEquation_5 : decode cX1_writeEquation 5 = .ok (.istore_n 2, 1) := by decide +kernel
theorem dX1_writeEquation_6 : decode cX1_writeEquation 6 = .ok (.bipush 10, 2) := by decide +kernel
theorem dX1_writeEquation_8 : decode cX1_writeEquation 8 = .ok (.aload_n 0, 1) := by decide +kernel
theorem dX1_writeEquation_9 : decode cX1_writeEquation 9 = .ok (.getfield 36, 3) := by decide +kernel
theorem dX1_writeEquation_12 : decode cX1_writeEquation 12 = .ok (.getfield 81, 3) := by decide +kernel
theorem dX1_writeEquation_15 : decode cX1_writeEquation 15 = .ok (.isub, 1) := by decide +kernel
theorem dX1_writeEquation_16 : decode cX1_writeEquation 16 = .ok (.istore_n 3, 1) := by decide +kernel
theorem dX1_writeEquation_17 : decode cX1_writeEquation 17 = .ok (.iconst 0, 1) := by decide +kernel
theorem dX1_writeEquation_18 : decode cX1_writeEquation 18 = .ok (.istore 4, 2) := by decide +kernel
theorem dX1_writeEquation_20 : decode cX1_writeEquation 20 = .ok (.iload 4, 2) := by decide +kernel
theorem dX1_writeEquation_22 : decode cX1_writeEquation 22 = .ok (.iconst 4, 1) := by decide +kernel
theorem dX1_writeEquation_23 : decode cX1_writeEquation 23 = .ok (.if_icmp .ge 44, 3) := by decide +kernel
theorem dX1_writeEquation_26 : decode cX1_writeEquation 26 = .ok (.aload_n 0, 1) := by decide +kernel
theorem dX1_writeEquation_27 : decode cX1_writeEquation 27 = .ok (.getfield 19, 3) := by decide +kernel
theorem dX1_writeEquation_30 : decode cX1_writeEquation 30 = .ok (.iload_n 1, 1) := by decide +kernel
theorem dX1_writeEquation_31 : decode cX1_writeEquation 31 = .ok (.iconst 4, 1) := by decide +kernel
theorem dX1_writeEquation_32 : decode cX1_writeEquation 32 = .ok (.imul, 1) := by decide +kernel
theorem dX1_writeEquation_33 : decode cX1_writeEquation 33 = .ok (.iload 4, 2) := by decide +kernel
theorem dX1_writeEquation_35 : decode cX1_writeEquation 35 = .ok (.iadd, 1) := by decide +kernel
theorem dX1_writeEquation_36 : decode cX1_writeEquation 36 = .ok (.iload_n 2, 1) := by decide +kernel
theorem dX1_writeEquation_37 : decode cX1_writeEquation 37 = .ok (.ifCond .eq 20, 3) := by decide +kernel
theorem dX1_writeEquation_40 : decode cX1_writeEquation 40 = .ok (.iload_n 3, 1) := by decide +kernel
theorem dX1_writeEquation_41 : decode cX1_writeEquation 41 = .ok (.ineg, 1) := by decide +kernel
theorem dX1_writeEquation_42 : decode cX1_writeEquation 42 = .ok (.aload_n 0, 1) := by decide +kernel
theorem dX1_writeEquation_43 : decode cX1_writeEquation 43 = .ok (.getfield 36, 3) := by decide +kernel
theorem dX1_writeEquation_46 : decode cX1_writeEquation 46 = .ok (.iload 4, 2) := by decide +kernel
theorem dX1_writeEquation_48 : decode cX1_writeEquation 48 = .ok (.iload_n 1, 1) := by decide +kernel
theorem dX1_writeEquation_49 : decode cX1_writeEquation 49 = .ok (.invokevirtual 84, 3) := by decide +kernel
theorem dX1_writeEquation_52 : decode cX1_writeEquation 52 = .ok (.imul, 1) := by decide +kernel
theorem dX1_writeEquation_53 : decode cX1_writeEquation 53 = .ok (.i2l, 1) := by decide +kernel
theorem dX1_writeEquation_54 : decode cX1_writeEquation 54 = .ok (.goto 4, 3) := by decide +kernel
theorem dX1_writeEquation_57 : decode cX1_writeEquation 57 = .ok (.lconst 0, 1) := by decide +kernel
theorem dX1_writeEquation_58 : decode cX1_writeEquation 58 = .ok (.invokestatic 44, 3) := by decide +kernel
theorem dX1_writeEquation_61 : decode cX1_writeEquation 61 = .ok (.iinc 4 1, 3) := by decide +kernel
theorem dX1_writeEquation_64 : decode cX1_writeEquation 64 = .ok (.goto (-44), 3) := by decide +kernel
theorem dX1_writeEquation_67 : decode cX1_writeEquation 67 = .ok (.iload_n 1, 1) := by decide +kernel
theorem dX1_writeEquation_68 : decode cX1_writeEquation 68 = .ok (.iconst 4, 1) := by decide +kernel
theorem dX1_writeEquation_69 : decode cX1_writeEquation 69 = .ok (.imul, 1) := by decide +kernel
theorem dX1_writeEquation_70 : decode cX1_writeEquation 70 = .ok (.iload_n 1, 1) := by decide +kernel
theorem dX1_writeEquation_71 : decode cX1_writeEquation 71 = .ok (.iadd, 1) := by decide +kernel
theorem dX1_writeEquation_72 : decode cX1_writeEquation 72 = .ok (.istore 4, 2) := by decide +kernel
theorem dX1_writeEquation_74 : decode cX1_writeEquation 74 = .ok (.aload_n 0, 1) := by decide +kernel
theorem dX1_writeEquation_75 : decode cX1_writeEquation 75 = .ok (.getfield 19, 3) := by decide +kernel
theorem dX1_writeEquation_78 : decode cX1_writeEquation 78 = .ok (.iload 4, 2) := by decide +kernel
theorem dX1_writeEquation_80 : decode cX1_writeEquation 80 = .ok (.iload_n 2, 1) := by decide +kernel
theorem dX1_writeEquation_81 : decode cX1_writeEquation 81 = .ok (.ifCond .eq 18, 3) := by decide +kernel
theorem dX1_writeEquation_84 : decode cX1_writeEquation 84 = .ok (.bipush 10, 2) := by decide +kernel
theorem dX1_writeEquation_86 : decode cX1_writeEquation 86 = .ok (.aload_n 0, 1) := by decide +kernel
theorem dX1_writeEquation_87 : decode cX1_writeEquation 87 = .ok (.getfield 36, 3) := by decide +kernel
theorem dX1_writeEquation_90 : decode cX1_writeEquation 90 = .ok (.iload_n 1, 1) := by decide +kernel
theorem dX1_writeEquation_91 : decode cX1_writeEquation 91 = .ok (.invokevirtual 62, 3) := by decide +kernel
theorem dX1_writeEquation_94 : decode cX1_writeEquation 94 = .ok (.imul, 1) := by decide +kernel
theorem dX1_writeEquation_95 : decode cX1_writeEquation 95 = .ok (.i2l, 1) := by decide +kernel
theorem dX1_writeEquation_96 : decode cX1_writeEquation 96 = .ok (.goto 4, 3) := by decide +kernel
theorem dX1_writeEquation_99 : decode cX1_writeEquation 99 = .ok (.lconst 1, 1) := by decide +kernel
theorem dX1_writeEquation_100 : decode cX1_writeEquation 100 = .ok (.invokestatic 44, 3) := by decide +kernel
theorem dX1_writeEquation_103 : decode cX1_writeEquation 103 = .ok (.aload_n 0, 1) := by decide +kernel
theorem dX1_writeEquation_104 : decode cX1_writeEquation 104 = .ok (.getfield 22, 3) := by decide +kernel
theorem dX1_writeEquation_107 : decode cX1_writeEquation 107 = .ok (.iload_n 1, 1) := by decide +kernel
theorem dX1_writeEquation_108 : decode cX1_writeEquation 108 = .ok (.iload_n 2, 1) := by decide +kernel
theorem dX1_writeEquation_109 : decode cX1_writeEquation 109 = .ok (.ifCond .eq 14, 3) := by decide +kernel
theorem dX1_writeEquation_112 : decode cX1_writeEquation 112 = .ok (.iload_n 3, 1) := by decide +kernel
theorem dX1_writeEquation_113 : decode cX1_writeEquation 113 = .ok (.aload_n 0, 1) := by decide +kernel
theorem dX1_writeEquation_114 : decode cX1_writeEquation 114 = .ok (.iload_n 1, 1) := by decide +kernel
theorem dX1_writeEquation_115 : decode cX1_writeEquation 115 = .ok (.invokevirtual 88, 3) := by decide +kernel
theorem dX1_writeEquation_118 : decode cX1_writeEquation 118 = .ok (.imul, 1) := by decide +kernel
theorem dX1_writeEquation_119 : decode cX1_writeEquation 119 = .ok (.i2l, 1) := by decide +kernel
theorem dX1_writeEquation_120 : decode cX1_writeEquation 120 = .ok (.goto 4, 3) := by decide +kernel
theorem dX1_writeEquation_123 : decode cX1_writeEquation 123 = .ok (.lconst 1, 1) := by decide +kernel
theorem dX1_writeEquation_124 : decode cX1_writeEquation 124 = .ok (.invokestatic 44, 3) := by decide +kernel
theorem dX1_writeEquation_127 : decode cX1_writeEquation 127 = .ok (.return_, 1) := by decide +kernel
theorem dX1_determinant_0 : decode cX1_determinant 0 = .ok (.aload_n 0, 1) := by decide +kernel
theorem dX1_determinant_1 : decode cX1_determinant 1 = .ok (.iconst 0, 1) := by decide +kernel
theorem dX1_determinant_2 : decode cX1_determinant 2 = .ok (.iconst 0, 1) := by decide +kernel
theorem dX1_determinant_3 : decode cX1_determinant 3 = .ok (.iconst 1, 1) := by decide +kernel
theorem dX1_determinant_4 : decode cX1_determinant 4 = .ok (.iload_n 1, 1) := by decide +kernel
theorem dX1_determinant_5 : decode cX1_determinant 5 = .ok (.invokevirtual 91, 3) := by decide +kernel
theorem dX1_determinant_8 : decode cX1_determinant 8 = .ok (.aload_n 0, 1) := by decide +kernel
theorem dX1_determinant_9 : decode cX1_determinant 9 = .ok (.iconst 2, 1) := by decide +kernel
theorem dX1_determinant_10 : decode cX1_determinant 10 = .ok (.iconst 2, 1) := by decide +kernel
theorem dX1_determinant_11 : decode cX1_determinant 11 = .ok (.iconst 3, 1) := by decide +kernel
theorem dX1_determinant_12 : decode cX1_determinant 12 = .ok (.iload_n 1, 1) := by decide +kernel
theorem dX1_determinant_13 : decode cX1_determinant 13 = .ok (.invokevirtual 91, 3) := by decide +kernel
theorem dX1_determinant_16 : decode cX1_determinant 16 = .ok (.lmul, 1) := by decide +kernel
theorem dX1_determinant_17 : decode cX1_determinant 17 = .ok (.aload_n 0, 1) := by decide +kernel
theorem dX1_determinant_18 : decode cX1_determinant 18 = .ok (.iconst 0, 1) := by decide +kernel
theorem dX1_determinant_19 : decode cX1_determinant 19 = .ok (.iconst 0, 1) := by decide +kernel
theorem dX1_determinant_20 : decode cX1_determinant 20 = .ok (.iconst 2, 1) := by decide +kernel
theorem dX1_determinant_21 : decode cX1_determinant 21 = .ok (.iload_n 1, 1) := by decide +kernel
theorem dX1_determinant_22 : decode cX1_determinant 22 = .ok (.invokevirtual 91, 3) := by decide +kernel
theorem dX1_determinant_25 : decode cX1_determinant 25 = .ok (.aload_n 0, 1) := by decide +kernel
theorem dX1_determinant_26 : decode cX1_determinant 26 = .ok (.iconst 2, 1) := by decide +kernel
theorem dX1_determinant_27 : decode cX1_determinant 27 = .ok (.iconst 1, 1) := by decide +kernel
theorem dX1_determinant_28 : decode cX1_determinant 28 = .ok (.iconst 3, 1) := by decide +kernel
theorem dX1_determinant_29 : decode cX1_determinant 29 = .ok (.iload_n 1, 1) := by decide +kernel
theorem dX1_determinant_30 : decode cX1_determinant 30 = .ok (.invokevirtual 91, 3) := by decide +kernel
theorem dX1_determinant_33 : decode cX1_determinant 33 = .ok (.lmul, 1) := by decide +kernel
theorem dX1_determinant_34 : decode cX1_determinant 34 = .ok (.lsub, 1) := by decide +kernel
theorem dX1_determinant_35 : decode cX1_determinant 35 = .ok (.aload_n 0, 1) := by decide +kernel
theorem dX1_determinant_36 : decode cX1_determinant 36 = .ok (.iconst 0, 1) := by decide +kernel
theorem dX1_determinant_37 : decode cX1_determinant 37 = .ok (.iconst 0, 1) := by decide +kernel
theorem dX1_determinant_38 : decode cX1_determinant 38 = .ok (.iconst 3, 1) := by decide +kernel
theorem dX1_determinant_39 : decode cX1_determinant 39 = .ok (.iload_n 1, 1) := by decide +kernel
theorem dX1_determinant_40 : decode cX1_determinant 40 = .ok (.invokevirtual 91, 3) := by decide +kernel
theorem dX1_determinant_43 : decode cX1_determinant 43 = .ok (.aload_n 0, 1) := by decide +kernel
theorem dX1_determinant_44 : decode cX1_determinant 44 = .ok (.iconst 2, 1) := by decide +kernel
theorem dX1_determinant_45 : decode cX1_determinant 45 = .ok (.iconst 1, 1) := by decide +kernel
theorem dX1_determinant_46 : decode cX1_determinant 46 = .ok (.iconst 2, 1) := by decide +kernel
theorem dX1_determinant_47 : decode cX1_determinant 47 = .ok (.iload_n 1, 1) := by decide +kernel
theorem dX1_determinant_48 : decode cX1_determinant 48 = .ok (.invokevirtual 91, 3) := by decide +kernel
theorem dX1_determinant_51 : decode cX1_determinant 51 = .ok (.lmul, 1) := by decide +kernel
theorem dX1_determinant_52 : decode cX1_determinant 52 = .ok (.ladd, 1) := by decide +kernel
theorem dX1_determinant_53 : decode cX1_determinant 53 = .ok (.aload_n 0, 1) := by decide +kernel
theorem dX1_determinant_54 : decode cX1_determinant 54 = .ok (.iconst 0, 1) := by decide +kernel
theorem dX1_determinant_55 : decode cX1_determinant 55 = .ok (.iconst 1, 1) := by decide +kernel
theorem dX1_determinant_56 : decode cX1_determinant 56 = .ok (.iconst 2, 1) := by decide +kernel
theorem dX1_determinant_57 : decode cX1_determinant 57 = .ok (.iload_n 1, 1) := by decide +kernel
theorem dX1_determinant_58 : decode cX1_determinant 58 = .ok (.invokevirtual 91, 3) := by decide +kernel
theorem dX1_determinant_61 : decode cX1_determinant 61 = .ok (.aload_n 0, 1) := by decide +kernel
theorem dX1_determinant_62 : decode cX1_determinant 62 = .ok (.iconst 2, 1) := by decide +kernel
theorem dX1_determinant_63 : decode cX1_determinant 63 = .ok (.iconst 0, 1) := by decide +kernel
theorem dX1_determinant_64 : decode cX1_determinant 64 = .ok (.iconst 3, 1) := by decide +kernel
theorem dX1_determinant_65 : decode cX1_determinant 65 = .ok (.iload_n 1, 1) := by decide +kernel
theorem dX1_determinant_66 : decode cX1_determinant 66 = .ok (.invokevirtual 91, 3) := by decide +kernel
theorem dX1_determinant_69 : decode cX1_determinant 69 = .ok (.lmul, 1) := by decide +kernel
theorem dX1_determinant_70 : decode cX1_determinant 70 = .ok (.ladd, 1) := by decide +kernel
theorem dX1_determinant_71 : decode cX1_determinant 71 = .ok (.aload_n 0, 1) := by decide +kernel
theorem dX1_determinant_72 : decode cX1_determinant 72 = .ok (.iconst 0, 1) := by decide +kernel
theorem dX1_determinant_73 : decode cX1_determinant 73 = .ok (.iconst 1, 1) := by decide +kernel
theorem dX1_determinant_74 : decode cX1_determinant 74 = .ok (.iconst 3, 1) := by decide +kernel
theorem dX1_determinant_75 : decode cX1_determinant 75 = .ok (.iload_n 1, 1) := by decide +kernel
theorem dX1_determinant_76 : decode cX1_determinant 76 = .ok (.invokevirtual 91, 3) := by decide +kernel
theorem dX1_determinant_79 : decode cX1_determinant 79 = .ok (.aload_n 0, 1) := by decide +kernel
theorem dX1_determinant_80 : decode cX1_determinant 80 = .ok (.iconst 2, 1) := by decide +kernel
theorem dX1_determinant_81 : decode cX1_determinant 81 = .ok (.iconst 0, 1) := by decide +kernel
theorem dX1_determinant_82 : decode cX1_determinant 82 = .ok (.iconst 2, 1) := by decide +kernel
theorem dX1_determinant_83 : decode cX1_determinant 83 = .ok (.iload_n 1, 1) := by decide +kernel
theorem dX1_determinant_84 : decode cX1_determinant 84 = .ok (.invokevirtual 91, 3) := by decide +kernel
theorem dX1_determinant_87 : decode cX1_determinant 87 = .ok (.lmul, 1) := by decide +kernel
theorem dX1_determinant_88 : decode cX1_determinant 88 = .ok (.lsub, 1) := by decide +kernel
theorem dX1_determinant_89 : decode cX1_determinant 89 = .ok (.aload_n 0, 1) := by decide +kernel
theorem dX1_determinant_90 : decode cX1_determinant 90 = .ok (.iconst 0, 1) := by decide +kernel
theorem dX1_determinant_91 : decode cX1_determinant 91 = .ok (.iconst 2, 1) := by decide +kernel
theorem dX1_determinant_92 : decode cX1_determinant 92 = .ok (.iconst 3, 1) := by decide +kernel
theorem dX1_determinant_93 : decode cX1_determinant 93 = .ok (.iload_n 1, 1) := by decide +kernel
theorem dX1_determinant_94 : decode cX1_determinant 94 = .ok (.invokevirtual 91, 3) := by decide +kernel
theorem dX1_determinant_97 : decode cX1_determinant 97 = .ok (.aload_n 0, 1) := by decide +kernel
theorem dX1_determinant_98 : decode cX1_determinant 98 = .ok (.iconst 2, 1) := by decide +kernel
theorem dX1_determinant_99 : decode cX1_determinant 99 = .ok (.iconst 0, 1) := by decide +kernel
theorem dX1_determinant_100 : decode cX1_determinant 100 = .ok (.iconst 1, 1) := by decide +kernel
theorem dX1_determinant_101 : decode cX1_determinant 101 = .ok (.iload_n 1, 1) := by decide +kernel
theorem dX1_determinant_102 : decode cX1_determinant 102 = .ok (.invokevirtual 91, 3) := by decide +kernel
theorem dX1_determinant_105 : decode cX1_determinant 105 = .ok (.lmul, 1) := by decide +kernel
theorem dX1_determinant_106 : decode cX1_determinant 106 = .ok (.ladd, 1) := by decide +kernel
theorem dX1_determinant_107 : decode cX1_determinant 107 = .ok (.lreturn, 1) := by decide +kernel
theorem dX1_minor_0 : decode cX1_minor 0 = .ok (.aload_n 0, 1) := by decide +kernel
theorem dX1_minor_1 : decode cX1_minor 1 = .ok (.iload_n 1, 1) := by decide +kernel
theorem dX1_minor_2 : decode cX1_minor 2 = .ok (.iload_n 2, 1) := by decide +kernel
theorem dX1_minor_3 : decode cX1_minor 3 = .ok (.iload 4, 2) := by decide +kernel
theorem dX1_minor_5 : decode cX1_minor 5 = .ok (.invokevirtual 95, 3) := by decide +kernel
theorem dX1_minor_8 : decode cX1_minor 8 = .ok (.aload_n 0, 1) := by decide +kernel
theorem dX1_minor_9 : decode cX1_minor 9 = .ok (.iload_n 1, 1) := by decide +kernel
theorem dX1_minor_10 : decode cX1_minor 10 = .ok (.iconst 1, 1) := by decide +kernel
theorem dX1_minor_11 : decode cX1_minor 11 = .ok (.iadd, 1) := by decide +kernel
theorem dX1_minor_12 : decode cX1_minor 12 = .ok (.iload_n 3, 1) := by decide +kernel
theorem dX1_minor_13 : decode cX1_minor 13 = .ok (.iload 4, 2) := by decide +kernel
theorem dX1_minor_15 : decode cX1_minor 15 = .ok (.invokevirtual 95, 3) := by decide +kernel
theorem dX1_minor_18 : decode cX1_minor 18 = .ok (.lmul, 1) := by decide +kernel
theorem dX1_minor_19 : decode cX1_minor 19 = .ok (.aload_n 0, 1) := by decide +kernel
theorem dX1_minor_20 : decode cX1_minor 20 = .ok (.iload_n 1, 1) := by decide +kernel
theorem dX1_minor_21 : decode cX1_minor 21 = .ok (.iload_n 3, 1) := by decide +kernel
theorem dX1_minor_22 : decode cX1_minor 22 = .ok (.iload 4, 2) := by decide +kernel
theorem dX1_minor_24 : decode cX1_minor 24 = .ok (.invokevirtual 95, 3) := by decide +kernel
theorem dX1_minor_27 : decode cX1_minor 27 = .ok (.aload_n 0, 1) := by decide +kernel
theorem dX1_minor_28 : decode cX1_minor 28 = .ok (.iload_n 1, 1) := by decide +kernel
theorem dX1_minor_29 : decode cX1_minor 29 = .ok (.iconst 1, 1) := by decide +kernel
theorem dX1_minor_30 : decode cX1_minor 30 = .ok (.iadd, 1) := by decide +kernel
theorem dX1_minor_31 : decode cX1_minor 31 = .ok (.iload_n 2, 1) := by decide +kernel
theorem dX1_minor_32 : decode cX1_minor 32 = .ok (.iload 4, 2) := by decide +kernel
theorem dX1_minor_34 : decode cX1_minor 34 = .ok (.invokevirtual 95, 3) := by decide +kernel
theorem dX1_minor_37 : decode cX1_minor 37 = .ok (.lmul, 1) := by decide +kernel
theorem dX1_minor_38 : decode cX1_minor 38 = .ok (.lsub, 1) := by decide +kernel
theorem dX1_minor_39 : decode cX1_minor 39 = .ok (.lreturn, 1) := by decide +kernel
theorem dX1_entry_0 : decode cX1_entry 0 = .ok (.iload_n 2, 1) := by decide +kernel
theorem dX1_entry_1 : decode cX1_entry 1 = .ok (.iload_n 3, 1) := by decide +kernel
theorem dX1_entry_2 : decode cX1_entry 2 = .ok (.if_icmp .ne 14, 3) := by decide +kernel
theorem dX1_entry_5 : decode cX1_entry 5 = .ok (.aload_n 0, 1) := by decide +kernel
theorem dX1_entry_6 : decode cX1_entry 6 = .ok (.getfield 22, 3) := by decide +kernel
theorem dX1_entry_9 : decode cX1_entry 9 = .ok (.iload_n 1, 1) := by decide +kernel
theorem dX1_entry_10 : decode cX1_entry 10 = .ok (.invokestatic 99, 3) := by decide +kernel
theorem dX1_entry_13 : decode cX1_entry 13 = .ok (.goto 15, 3) := by decide +kernel
theorem dX1_entry_16 : decode cX1_entry 16 = .ok (.aload_n 0, 1) := by decide +kernel
theorem dX1_entry_17 : decode cX1_entry 17 = .ok (.getfield 19, 3) := by decide +kernel
theorem dX1_entry_20 : decode cX1_entry 20 = .ok (.iload_n 1, 1) := by decide +kernel
theorem dX1_entry_21 : decode cX1_entry 21 = .ok (.iconst 4, 1) := by decide +kernel
theorem dX1_entry_22 : decode cX1_entry 22 = .ok (.imul, 1) := by decide +kernel
theorem dX1_entry_23 : decode cX1_entry 23 = .ok (.iload_n 2, 1) := by decide +kernel
theorem dX1_entry_24 : decode cX1_entry 24 = .ok (.iadd, 1) := by decide +kernel
theorem dX1_entry_25 : decode cX1_entry 25 = .ok (.invokestatic 99, 3) := by decide +kernel
theorem dX1_entry_28 : decode cX1_entry 28 = .ok (.lreturn, 1) := by decide +kernel
theorem dX1_roundOfFall_0 : decode cX1_roundOfFall 0 = .ok (.aload_n 0, 1) := by decide +kernel
theorem dX1_roundOfFall_1 : decode cX1_roundOfFall 1 = .ok (.getfield 9, 3) := by decide +kernel
theorem dX1_roundOfFall_4 : decode cX1_roundOfFall 4 = .ok (.iload_n 1, 1) := by decide +kernel
theorem dX1_roundOfFall_5 : decode cX1_roundOfFall 5 = .ok (.invokestatic 103, 3) := by decide +kernel
theorem dX1_roundOfFall_8 : decode cX1_roundOfFall 8 = .ok (.ireturn, 1) := by decide +kernel
theorem dX1_fallenCount_0 : decode cX1_fallenCount 0 = .ok (.iconst 0, 1) := by decide +kernel
theorem dX1_fallenCount_1 : decode cX1_fallenCount 1 = .ok (.istore_n 1, 1) := by decide +kernel
theorem dX1_fallenCount_2 : decode cX1_fallenCount 2 = .ok (.iconst 0, 1) := by decide +kernel
theorem dX1_fallenCount_3 : decode cX1_fallenCount 3 = .ok (.istore_n 2, 1) := by decide +kernel
theorem dX1_fallenCount_4 : decode cX1_fallenCount 4 = .ok (.iload_n 2, 1) := by decide +kernel
theorem dX1_fallenCount_5 : decode cX1_fallenCount 5 = .ok (.iconst 4, 1) := by decide +kernel
theorem dX1_fallenCount_6 : decode cX1_fallenCount 6 = .ok (.if_icmp .ge 20, 3) := by decide +kernel
theorem dX1_fallenCount_9 : decode cX1_fallenCount 9 = .ok (.aload_n 0, 1) := by decide +kernel
theorem dX1_fallenCount_10 : decode cX1_fallenCount 10 = .ok (.iload_n 2, 1) := by decide +kernel
theorem dX1_fallenCount_11 : decode cX1_fallenCount 11 = .ok (.invokevirtual 55, 3) := by decide +kernel
theorem dX1_fallenCount_14 : decode cX1_fallenCount 14 = .ok (.ifCond .eq 6, 3) := by decide +kernel
theorem dX1_fallenCount_17 : decode cX1_fallenCount 17 = .ok (.iinc 1 1, 3) := by decide +kernel
theorem dX1_fallenCount_20 : decode cX1_fallenCount 20 = .ok (.iinc 2 1, 3) := by decide +kernel
theorem dX1_fallenCount_23 : decode cX1_fallenCount 23 = .ok (.goto (-19), 3) := by decide +kernel
theorem dX1_fallenCount_26 : decode cX1_fallenCount 26 = .ok (.iload_n 1, 1) := by decide +kernel
theorem dX1_fallenCount_27 : decode cX1_fallenCount 27 = .ok (.ireturn, 1) := by decide +kernel
theorem dX1_shareAbove_0 : decode cX1_shareAbove 0 = .ok (.aload_n 0, 1) := by decide +kernel
theorem dX1_shareAbove_1 : decode cX1_shareAbove 1 = .ok (.getfield 15, 3) := by decide +kernel
theorem dX1_shareAbove_4 : decode cX1_shareAbove 4 = .ok (.iload_n 1, 1) := by decide +kernel
theorem dX1_shareAbove_5 : decode cX1_shareAbove 5 = .ok (.invokestatic 99, 3) := by decide +kernel
theorem dX1_shareAbove_8 : decode cX1_shareAbove 8 = .ok (.lreturn, 1) := by decide +kernel
theorem dX1_grossAbove_0 : decode cX1_grossAbove 0 = .ok (.aload_n 0, 1) := by decide +kernel
theorem dX1_grossAbove_1 : decode cX1_grossAbove 1 = .ok (.getfield 32, 3) := by decide +kernel
theorem dX1_grossAbove_4 : decode cX1_grossAbove 4 = .ok (.aload_n 0, 1) := by decide +kernel
theorem dX1_grossAbove_5 : decode cX1_grossAbove 5 = .ok (.iload_n 1, 1) := by decide +kernel
theorem dX1_grossAbove_6 : decode cX1_grossAbove 6 = .ok (.invokevirtual 88, 3) := by decide +kernel
theorem dX1_grossAbove_9 : decode cX1_grossAbove 9 = .ok (.i2l, 1) := by decide +kernel
theorem dX1_grossAbove_10 : decode cX1_grossAbove 10 = .ok (.lmul, 1) := by decide +kernel
theorem dX1_grossAbove_11 : decode cX1_grossAbove 11 = .ok (.lstore_n 2, 1) := by decide +kernel
theorem dX1_grossAbove_12 : decode cX1_grossAbove 12 = .ok (.iconst 0, 1) := by decide +kernel
theorem dX1_grossAbove_13 : decode cX1_grossAbove 13 = .ok (.istore 4, 2) := by decide +kernel
theorem dX1_grossAbove_15 : decode cX1_grossAbove 15 = .ok (.iload 4, 2) := by decide +kernel
theorem dX1_grossAbove_17 : decode cX1_grossAbove 17 = .ok (.iconst 4, 1) := by decide +kernel
theorem dX1_grossAbove_18 : decode cX1_grossAbove 18 = .ok (.if_icmp .ge 30, 3) := by decide +kernel
theorem dX1_grossAbove_21 : decode cX1_grossAbove 21 = .ok (.lload_n 2, 1) := by decide +kernel
theorem dX1_grossAbove_22 : decode cX1_grossAbove 22 = .ok (.aload_n 0, 1) := by decide +kernel
theorem dX1_grossAbove_23 : decode cX1_grossAbove 23 = .ok (.iload 4, 2) := by decide +kernel
theorem dX1_grossAbove_25 : decode cX1_grossAbove 25 = .ok (.invokevirtual 107, 3) := by decide +kernel
theorem dX1_grossAbove_28 : decode cX1_grossAbove 28 = .ok (.aload_n 0, 1) := by decide +kernel
theorem dX1_grossAbove_29 : decode cX1_grossAbove 29 = .ok (.getfield 36, 3) := by decide +kernel
theorem dX1_grossAbove_32 : decode cX1_grossAbove 32 = .ok (.iload 4, 2) := by decide +kernel
theorem dX1_grossAbove_34 : decode cX1_grossAbove 34 = .ok (.iload_n 1, 1) := by decide +kernel
theorem dX1_grossAbove_35 : decode cX1_grossAbove 35 = .ok (.invokevirtual 84, 3) := by decide +kernel
theorem dX1_grossAbove_38 : decode cX1_grossAbove 38 = .ok (.i2l, 1) := by decide +kernel
theorem dX1_grossAbove_39 : decode cX1_grossAbove 39 = .ok (.lmul, 1) := by decide +kernel
theorem dX1_grossAbove_40 : decode cX1_grossAbove 40 = .ok (.ladd, 1) := by decide +kernel
theorem dX1_grossAbove_41 : decode cX1_grossAbove 41 = .ok (.lstore_n 2, 1) := by decide +kernel
theorem dX1_grossAbove_42 : decode cX1_grossAbove 42 = .ok (.iinc 4 1, 3) := by decide +kernel
theorem dX1_grossAbove_45 : decode cX1_grossAbove 45 = .ok (.goto (-30), 3) := by decide +kernel
theorem dX1_grossAbove_48 : decode cX1_grossAbove 48 = .ok (.lload_n 2, 1) := by decide +kernel
theorem dX1_grossAbove_49 : decode cX1_grossAbove 49 = .ok (.lreturn, 1) := by decide +kernel
theorem dX1_leftAbove_0 : decode cX1_leftAbove 0 = .ok (.aload_n 0, 1) := by decide +kernel
theorem dX1_leftAbove_1 : decode cX1_leftAbove 1 = .ok (.iload_n 1, 1) := by decide +kernel
theorem dX1_leftAbove_2 : decode cX1_leftAbove 2 = .ok (.invokevirtual 55, 3) := by decide +kernel
theorem dX1_leftAbove_5 : decode cX1_leftAbove 5 = .ok (.ifCond .eq 7, 3) := by decide +kernel
theorem dX1_leftAbove_8 : decode cX1_leftAbove 8 = .ok (.lconst 0, 1) := by decide +kernel
theorem dX1_leftAbove_9 : decode cX1_leftAbove 9 = .ok (.goto 23, 3) := by decide +kernel
theorem dX1_leftAbove_12 : decode cX1_leftAbove 12 = .ok (.aload_n 0, 1) := by decide +kernel
theorem dX1_leftAbove_13 : decode cX1_leftAbove 13 = .ok (.iload_n 1, 1) := by decide +kernel
theorem dX1_leftAbove_14 : decode cX1_leftAbove 14 = .ok (.invokevirtual 58, 3) := by decide +kernel
theorem dX1_leftAbove_17 : decode cX1_leftAbove 17 = .ok (.aload_n 0, 1) := by decide +kernel
theorem dX1_leftAbove_18 : decode cX1_leftAbove 18 = .ok (.getfield 32, 3) := by decide +kernel
theorem dX1_leftAbove_21 : decode cX1_leftAbove 21 = .ok (.aload_n 0, 1) := by decide +kernel
theorem dX1_leftAbove_22 : decode cX1_leftAbove 22 = .ok (.getfield 36, 3) := by decide +kernel
theorem dX1_leftAbove_25 : decode cX1_leftAbove 25 = .ok (.iload_n 1, 1) := by decide +kernel
theorem dX1_leftAbove_26 : decode cX1_leftAbove 26 = .ok (.invokevirtual 62, 3) := by decide +kernel
theorem dX1_leftAbove_29 : decode cX1_leftAbove 29 = .ok (.i2l, 1) := by decide +kernel
theorem dX1_leftAbove_30 : decode cX1_leftAbove 30 = .ok (.lmul, 1) := by decide +kernel
theorem dX1_leftAbove_31 : decode cX1_leftAbove 31 = .ok (.lsub, 1) := by decide +kernel
theorem dX1_leftAbove_32 : decode cX1_leftAbove 32 = .ok (.lreturn, 1) := by decide +kernel
theorem dX1_lostAbove_0 : decode cX1_lostAbove 0 = .ok (.lconst 0, 1) := by decide +kernel
theorem dX1_lostAbove_1 : decode cX1_lostAbove 1 = .ok (.lstore_n 1, 1) := by decide +kernel
theorem dX1_lostAbove_2 : decode cX1_lostAbove 2 = .ok (.iconst 0, 1) := by decide +kernel
theorem dX1_lostAbove_3 : decode cX1_lostAbove 3 = .ok (.istore_n 3, 1) := by decide +kernel
theorem dX1_lostAbove_4 : decode cX1_lostAbove 4 = .ok (.iload_n 3, 1) := by decide +kernel
theorem dX1_lostAbove_5 : decode cX1_lostAbove 5 = .ok (.iconst 4, 1) := by decide +kernel
theorem dX1_lostAbove_6 : decode cX1_lostAbove 6 = .ok (.if_icmp .ge 34, 3) := by decide +kernel
theorem dX1_lostAbove_9 : decode cX1_lostAbove 9 = .ok (.aload_n 0, 1) := by decide +kernel
theorem dX1_lostAbove_10 : decode cX1_lostAbove 10 = .ok (.iload_n 3, 1) := by decide +kernel
theorem dX1_lostAbove_11 : decode cX1_lostAbove 11 = .ok (.invokevirtual 55, 3) := by decide +kernel
theorem dX1_lostAbove_14 : decode cX1_lostAbove 14 = .ok (.ifCond .eq 20, 3) := by decide +kernel
theorem dX1_lostAbove_17 : decode cX1_lostAbove 17 = .ok (.lload_n 1, 1) := by decide +kernel
theorem dX1_lostAbove_18 : decode cX1_lostAbove 18 = .ok (.aload_n 0, 1) := by decide +kernel
theorem dX1_lostAbove_19 : decode cX1_lostAbove 19 = .ok (.iload_n 3, 1) := by decide +kernel
theorem dX1_lostAbove_20 : decode cX1_lostAbove 20 = .ok (.invokevirtual 58, 3) := by decide +kernel
theorem dX1_lostAbove_23 : decode cX1_lostAbove 23 = .ok (.aload_n 0, 1) := by decide +kernel
theorem dX1_lostAbove_24 : decode cX1_lostAbove 24 = .ok (.getfield 36, 3) := by decide +kernel
theorem dX1_lostAbove_27 : decode cX1_lostAbove 27 = .ok (.getfield 81, 3) := by decide +kernel
theorem dX1_lostAbove_30 : decode cX1_lostAbove 30 = .ok (.i2l, 1) := by decide +kernel
theorem dX1_lostAbove_31 : decode cX1_lostAbove 31 = .ok (.lmul, 1) := by decide +kernel
theorem dX1_lostAbove_32 : decode cX1_lostAbove 32 = .ok (.ladd, 1) := by decide +kernel
theorem dX1_lostAbove_33 : decode cX1_lostAbove 33 = .ok (.lstore_n 1, 1) := by decide +kernel
theorem dX1_lostAbove_34 : decode cX1_lostAbove 34 = .ok (.iinc 3 1, 3) := by decide +kernel
theorem dX1_lostAbove_37 : decode cX1_lostAbove 37 = .ok (.goto (-33), 3) := by decide +kernel
theorem dX1_lostAbove_40 : decode cX1_lostAbove 40 = .ok (.lload_n 1, 1) := by decide +kernel
theorem dX1_lostAbove_41 : decode cX1_lostAbove 41 = .ok (.lreturn, 1) := by decide +kernel
theorem dX2_init_0 : decode cX2_init 0 = .ok (.aload_n 0, 1) := by decide +kernel
theorem dX2_init_1 : decode cX2_init 1 = .ok (.invokespecial 3, 3) := by decide +kernel
theorem dX2_init_4 : decode cX2_init 4 = .ok (.aload_n 0, 1) := by decide +kernel
theorem dX2_init_5 : decode cX2_init 5 = .ok (.aload_n 1, 1) := by decide +kernel
theorem dX2_init_6 : decode cX2_init 6 = .ok (.putfield 9, 3) := by decide +kernel
theorem dX2_init_9 : decode cX2_init 9 = .ok (.return_, 1) := by decide +kernel
theorem dX2_howMany_0 : decode cX2_howMany 0 = .ok (.iconst 0, 1) := by decide +kernel
theorem dX2_howMany_1 : decode cX2_howMany 1 = .ok (.istore_n 1, 1) := by decide +kernel
theorem dX2_howMany_2 : decode cX2_howMany 2 = .ok (.iconst 0, 1) := by decide +kernel
theorem dX2_howMany_3 : decode cX2_howMany 3 = .ok (.istore_n 2, 1) := by decide +kernel
theorem dX2_howMany_4 : decode cX2_howMany 4 = .ok (.iload_n 2, 1) := by decide +kernel
theorem dX2_howMany_5 : decode cX2_howMany 5 = .ok (.getstatic 15, 3) := by decide +kernel
theorem dX2_howMany_8 : decode cX2_howMany 8 = .ok (.arraylength, 1) := by decide +kernel
theorem dX2_howMany_9 : decode cX2_howMany 9 = .ok (.if_icmp .ge 26, 3) := by decide +kernel
theorem dX2_howMany_12 : decode cX2_howMany 12 = .ok (.aload_n 0, 1) := by decide +kernel
theorem dX2_howMany_13 : decode cX2_howMany 13 = .ok (.getstatic 15, 3) := by decide +kernel
theorem dX2_howMany_16 : decode cX2_howMany 16 = .ok (.iload_n 2, 1) := by decide +kernel
theorem dX2_howMany_17 : decode cX2_howMany 17 = .ok (.invokestatic 19, 3) := by decide +kernel
theorem dX2_howMany_20 : decode cX2_howMany 20 = .ok (.invokevirtual 23, 3) := by decide +kernel
theorem dX2_howMany_23 : decode cX2_howMany 23 = .ok (.ifCond .le 6, 3) := by decide +kernel
theorem dX2_howMany_26 : decode cX2_howMany 26 = .ok (.iinc 1 1, 3) := by decide +kernel
theorem dX2_howMany_29 : decode cX2_howMany 29 = .ok (.iinc 2 1, 3) := by decide +kernel
theorem dX2_howMany_32 : decode cX2_howMany 32 = .ok (.goto (-28), 3) := by decide +kernel
theorem dX2_howMany_35 : decode cX2_howMany 35 = .ok (.iload_n 1, 1) := by decide +kernel
theorem dX2_howMany_36 : decode cX2_howMany 36 = .ok (.ireturn, 1) := by decide +kernel
theorem dX2_figuresOf_0 : decode cX2_figuresOf 0 = .ok (.iconst 0, 1) := by decide +kernel
theorem dX2_figuresOf_1 : decode cX2_figuresOf 1 = .ok (.istore_n 2, 1) := by decide +kernel
theorem dX2_figuresOf_2 : decode cX2_figuresOf 2 = .ok (.iconst 0, 1) := by decide +kernel
theorem dX2_figuresOf_3 : decode cX2_figuresOf 3 = .ok (.istore_n 3, 1) := by decide +kernel
theorem dX2_figuresOf_4 : decode cX2_figuresOf 4 = .ok (.iload_n 3, 1) := by decide +kernel
theorem dX2_figuresOf_5 : decode cX2_figuresOf 5 = .ok (.getstatic 15, 3) := by decide +kernel
theorem dX2_figuresOf_8 : decode cX2_figuresOf 8 = .ok (.arraylength, 1) := by decide +kernel
theorem dX2_figuresOf_9 : decode cX2_figuresOf 9 = .ok (.if_icmp .ge 38, 3) := by decide +kernel
theorem dX2_figuresOf_12 : decode cX2_figuresOf 12 = .ok (.getstatic 15, 3) := by decide +kernel
theorem dX2_figuresOf_15 : decode cX2_figuresOf 15 = .ok (.iload_n 3, 1) := by decide +kernel
theorem dX2_figuresOf_16 : decode cX2_figuresOf 16 = .ok (.invokestatic 19, 3) := by decide +kernel
theorem dX2_figuresOf_19 : decode cX2_figuresOf 19 = .ok (.istore 4, 2) := by decide +kernel
theorem dX2_figuresOf_21 : decode cX2_figuresOf 21 = .ok (.aload_n 0, 1) := by decide +kernel
theorem dX2_figuresOf_22 : decode cX2_figuresOf 22 = .ok (.iload 4, 2) := by decide +kernel
theorem dX2_figuresOf_24 : decode cX2_figuresOf 24 = .ok (.invokevirtual 23, 3) := by decide +kernel
theorem dX2_figuresOf_27 : decode cX2_figuresOf 27 = .ok (.ifCond .le 14, 3) := by decide +kernel
theorem dX2_figuresOf_30 : decode cX2_figuresOf 30 = .ok (.iload_n 2, 1) := by decide +kernel
theorem dX2_figuresOf_31 : decode cX2_figuresOf 31 = .ok (.iload_n 1, 1) := by decide +kernel
theorem dX2_figuresOf_32 : decode cX2_figuresOf 32 = .ok (.if_icmp .ne 6, 3) := by decide +kernel
theorem dX2_figuresOf_35 : decode cX2_figuresOf 35 = .ok (.iload 4, 2) := by decide +kernel
theorem dX2_figuresOf_37 : decode cX2_figuresOf 37 = .ok (.ireturn, 1) := by decide +kernel
theorem dX2_figuresOf_38 : decode cX2_figuresOf 38 = .ok (.iinc 2 1, 3) := by decide +kernel
theorem dX2_figuresOf_41 : decode cX2_figuresOf 41 = .ok (.iinc 3 1, 3) := by decide +kernel
theorem dX2_figuresOf_44 : decode cX2_figuresOf 44 = .ok (.goto (-40), 3) := by decide +kernel
theorem dX2_figuresOf_47 : decode cX2_figuresOf 47 = .ok (.iconst (-1), 1) := by decide +kernel
theorem dX2_figuresOf_48 : decode cX2_figuresOf 48 = .ok (.ireturn, 1) := by decide +kernel
theorem dX2_sizeOf_0 : decode cX2_sizeOf 0 = .ok (.iload_n 1, 1) := by decide +kernel
theorem dX2_sizeOf_1 : decode cX2_sizeOf 1 = .ok (.bipush 100, 2) := by decide +kernel
theorem dX2_sizeOf_3 : decode cX2_sizeOf 3 = .ok (.if_icmp .ge 7, 3) := by decide +kernel
theorem dX2_sizeOf_6 : decode cX2_sizeOf 6 = .ok (.iconst 2, 1) := by decide +kernel
theorem dX2_sizeOf_7 : decode cX2_sizeOf 7 = .ok (.goto 15, 3) := by decide +kernel
theorem dX2_sizeOf_10 : decode cX2_sizeOf 10 = .ok (.iload_n 1, 1) := by decide +kernel
theorem dX2_sizeOf_11 : decode cX2_sizeOf 11 = .ok (.sipush 1000, 3) := by decide +kernel
theorem dX2_sizeOf_14 : decode cX2_sizeOf 14 = .ok (.if_icmp .ge 7, 3) := by decide +kernel
theorem dX2_sizeOf_17 : decode cX2_sizeOf 17 = .ok (.iconst 3, 1) := by decide +kernel
theorem dX2_sizeOf_18 : decode cX2_sizeOf 18 = .ok (.goto 4, 3) := by decide +kernel
theorem dX2_sizeOf_21 : decode cX2_sizeOf 21 = .ok (.iconst 4, 1) := by decide +kernel
theorem dX2_sizeOf_22 : decode cX2_sizeOf 22 = .ok (.ireturn, 1) := by decide +kernel
theorem dX2_firstOf_0 : decode cX2_firstOf 0 = .ok (.iload_n 1, 1) := by decide +kernel
theorem dX2_firstOf_1 : decode cX2_firstOf 1 = .ok (.bipush 100, 2) := by decide +kernel
theorem dX2_firstOf_3 : decode cX2_firstOf 3 = .ok (.if_icmp .ge 10, 3) := by decide +kernel
theorem dX2_firstOf_6 : decode cX2_firstOf 6 = .ok (.iload_n 1, 1) := by decide +kernel
theorem dX2_firstOf_7 : decode cX2_firstOf 7 = .ok (.bipush 10, 2) := by decide +kernel
theorem dX2_firstOf_9 : decode cX2_firstOf 9 = .ok (.idiv, 1) := by decide +kernel
theorem dX2_firstOf_10 : decode cX2_firstOf 10 = .ok (.goto 22, 3) := by decide +kernel
theorem dX2_firstOf_13 : decode cX2_firstOf 13 = .ok (.iload_n 1, 1) := by decide +kernel
theorem dX2_firstOf_14 : decode cX2_firstOf 14 = .ok (.sipush 1000, 3) := by decide +kernel
theorem dX2_firstOf_17 : decode cX2_firstOf 17 = .ok (.if_icmp .ge 10, 3) := by decide +kernel
theorem dX2_firstOf_20 : decode cX2_firstOf 20 = .ok (.iload_n 1, 1) := by decide +kernel
theorem dX2_firstOf_21 : decode cX2_firstOf 21 = .ok (.bipush 100, 2) := by decide +kernel
theorem dX2_firstOf_23 : decode cX2_firstOf 23 = .ok (.idiv, 1) := by decide +kernel
theorem dX2_firstOf_24 : decode cX2_firstOf 24 = .ok (.goto 8, 3) := by decide +kernel
theorem dX2_firstOf_27 : decode cX2_firstOf 27 = .ok (.iload_n 1, 1) := by decide +kernel
theorem dX2_firstOf_28 : decode cX2_firstOf 28 = .ok (.sipush 1000, 3) := by decide +kernel
theorem dX2_firstOf_31 : decode cX2_firstOf 31 = .ok (.idiv, 1) := by decide +kernel
theorem dX2_firstOf_32 : decode cX2_firstOf 32 = .ok (.iconst 1, 1) := by decide +kernel
theorem dX2_firstOf_33 : decode cX2_firstOf 33 = .ok (.isub, 1) := by decide +kernel
theorem dX2_firstOf_34 : decode cX2_firstOf 34 = .ok (.ireturn, 1) := by decide +kernel
theorem dX2_leastDebt_0 : decode cX2_leastDebt 0 = .ok (.bipush 50, 2) := by decide +kernel
theorem dX2_leastDebt_2 : decode cX2_leastDebt 2 = .ok (.istore_n 2, 1) := by decide +kernel
theorem dX2_leastDebt_3 : decode cX2_leastDebt 3 = .ok (.aload_n 0, 1) := by decide +kernel
theorem dX2_leastDebt_4 : decode cX2_leastDebt 4 = .ok (.iload_n 1, 1) := by decide +kernel
theorem dX2_leastDebt_5 : decode cX2_leastDebt 5 = .ok (.invokevirtual 27, 3) := by decide +kernel
theorem dX2_leastDebt_8 : decode cX2_leastDebt 8 = .ok (.istore_n 3, 1) := by decide +kernel
theorem dX2_leastDebt_9 : decode cX2_leastDebt 9 = .ok (.iload_n 1, 1) := by decide +kernel
theorem dX2_leastDebt_10 : decode cX2_leastDebt 10 = .ok (.istore 4, 2) := by decide +kernel
theorem dX2_leastDebt_12 : decode cX2_leastDebt 12 = .ok (.iconst 0, 1) := by decide +kernel
theorem dX2_leastDebt_13 : decode cX2_leastDebt 13 = .ok (.istore 5, 2) := by decide +kernel
theorem dX2_leastDebt_15 : decode cX2_leastDebt 15 = .ok (.iload 5, 2) := by decide +kernel
theorem dX2_leastDebt_17 : decode cX2_leastDebt 17 = .ok (.aload_n 0, 1) := by decide +kernel
theorem dX2_leastDebt_18 : decode cX2_leastDebt 18 = .ok (.iload_n 1, 1) := by decide +kernel
theorem dX2_leastDebt_19 : decode cX2_leastDebt 19 = .ok (.invokevirtual 30, 3) := by decide +kernel
theorem dX2_leastDebt_22 : decode cX2_leastDebt 22 = .ok (.if_icmp .ge 43, 3) := by decide +kernel
theorem dX2_leastDebt_25 : decode cX2_leastDebt 25 = .ok (.iload 4, 2) := by decide +kernel
theorem dX2_leastDebt_27 : decode cX2_leastDebt 27 = .ok (.bipush 10, 2) := by decide +kernel
theorem dX2_leastDebt_29 : decode cX2_leastDebt 29 = .ok (.irem, 1) := by decide +kernel
theorem dX2_leastDebt_30 : decode cX2_leastDebt 30 = .ok (.iconst 1, 1) := by decide +kernel
theorem dX2_leastDebt_31 : decode cX2_leastDebt 31 = .ok (.isub, 1) := by decide +kernel
theorem dX2_leastDebt_32 : decode cX2_leastDebt 32 = .ok (.istore 6, 2) := by decide +kernel
theorem dX2_leastDebt_34 : decode cX2_leastDebt 34 = .ok (.iload_n 2, 1) := by decide +kernel
theorem dX2_leastDebt_35 : decode cX2_leastDebt 35 = .ok (.aload_n 0, 1) := by decide +kernel
theorem dX2_leastDebt_36 : decode cX2_leastDebt 36 = .ok (.getfield 9, 3) := by decide +kernel
theorem dX2_leastDebt_39 : decode cX2_leastDebt 39 = .ok (.iload 6, 2) := by decide +kernel
theorem dX2_leastDebt_41 : decode cX2_leastDebt 41 = .ok (.iload_n 3, 1) := by decide +kernel
theorem dX2_leastDebt_42 : decode cX2_leastDebt 42 = .ok (.invokevirtual 33, 3) := by decide +kernel
theorem dX2_leastDebt_45 : decode cX2_leastDebt 45 = .ok (.invokestatic 39, 3) := by decide +kernel
theorem dX2_leastDebt_48 : decode cX2_leastDebt 48 = .ok (.istore_n 2, 1) := by decide +kernel
theorem dX2_leastDebt_49 : decode cX2_leastDebt 49 = .ok (.iload 6, 2) := by decide +kernel
theorem dX2_leastDebt_51 : decode cX2_leastDebt 51 = .ok (.istore_n 3, 1) := by decide +kernel
theorem dX2_leastDebt_52 : decode cX2_leastDebt 52 = .ok (.iload 4, 2) := by decide +kernel
theorem dX2_leastDebt_54 : decode cX2_leastDebt 54 = .ok (.bipush 10, 2) := by decide +kernel
theorem dX2_leastDebt_56 : decode cX2_leastDebt 56 = .ok (.idiv, 1) := by decide +kernel
theorem dX2_leastDebt_57 : decode cX2_leastDebt 57 = .ok (.istore 4, 2) := by decide +kernel
theorem dX2_leastDebt_59 : decode cX2_leastDebt 59 = .ok (.iinc 5 1, 3) := by decide +kernel
theorem dX2_leastDebt_62 : decode cX2_leastDebt 62 = .ok (.goto (-47), 3) := by decide +kernel
theorem dX2_leastDebt_65 : decode cX2_leastDebt 65 = .ok (.iload_n 2, 1) := by decide +kernel
theorem dX2_leastDebt_66 : decode cX2_leastDebt 66 = .ok (.ireturn, 1) := by decide +kernel
theorem dX2_lessen_0 : decode cX2_lessen 0 = .ok (.aload_n 0, 1) := by decide +kernel
theorem dX2_lessen_1 : decode cX2_lessen 1 = .ok (.iload_n 1, 1) := by decide +kernel
theorem dX2_lessen_2 : decode cX2_lessen 2 = .ok (.invokevirtual 23, 3) := by decide +kernel
theorem dX2_lessen_5 : decode cX2_lessen 5 = .ok (.istore_n 2, 1) := by decide +kernel
theorem dX2_lessen_6 : decode cX2_lessen 6 = .ok (.aload_n 0, 1) := by decide +kernel
theorem dX2_lessen_7 : decode cX2_lessen 7 = .ok (.iload_n 1, 1) := by decide +kernel
theorem dX2_lessen_8 : decode cX2_lessen 8 = .ok (.invokevirtual 27, 3) := by decide +kernel
theorem dX2_lessen_11 : decode cX2_lessen 11 = .ok (.istore_n 3, 1) := by decide +kernel
theorem dX2_lessen_12 : decode cX2_lessen 12 = .ok (.iload_n 1, 1) := by decide +kernel
theorem dX2_lessen_13 : decode cX2_lessen 13 = .ok (.istore 4, 2) := by decide +kernel
theorem dX2_lessen_15 : decode cX2_lessen 15 = .ok (.iconst 0, 1) := by decide +kernel
theorem dX2_lessen_16 : decode cX2_lessen 16 = .ok (.istore 5, 2) := by decide +kernel
theorem dX2_lessen_18 : decode cX2_lessen 18 = .ok (.iload 5, 2) := by decide +kernel
theorem dX2_lessen_20 : decode cX2_lessen 20 = .ok (.aload_n 0, 1) := by decide +kernel
theorem dX2_lessen_21 : decode cX2_lessen 21 = .ok (.iload_n 1, 1) := by decide +kernel
theorem dX2_lessen_22 : decode cX2_lessen 22 = .ok (.invokevirtual 30, 3) := by decide +kernel
theorem dX2_lessen_25 : decode cX2_lessen 25 = .ok (.if_icmp .ge 50, 3) := by decide +kernel
theorem dX2_lessen_28 : decode cX2_lessen 28 = .ok (.iload 4, 2) := by decide +kernel
theorem dX2_lessen_30 : decode cX2_lessen 30 = .ok (.bipush 10, 2) := by decide +kernel
theorem dX2_lessen_32 : decode cX2_lessen 32 = .ok (.irem, 1) := by decide +kernel
theorem dX2_lessen_33 : decode cX2_lessen 33 = .ok (.iconst 1, 1) := by decide +kernel
theorem dX2_lessen_34 : decode cX2_lessen 34 = .ok (.isub, 1) := by decide +kernel
theorem dX2_lessen_35 : decode cX2_lessen 35 = .ok (.istore 6, 2) := by decide +kernel
theorem dX2_lessen_37 : decode cX2_lessen 37 = .ok (.aload_n 0, 1) := by decide +kernel
theorem dX2_lessen_38 : decode cX2_lessen 38 = .ok (.getfield 9, 3) := by decide +kernel
theorem dX2_lessen_41 : decode cX2_lessen 41 = .ok (.iload 6, 2) := by decide +kernel
theorem dX2_lessen_43 : decode cX2_lessen 43 = .ok (.iload_n 3, 1) := by decide +kernel
theorem dX2_lessen_44 : decode cX2_lessen 44 = .ok (.aload_n 0, 1) := by decide +kernel
theorem dX2_lessen_45 : decode cX2_lessen 45 = .ok (.getfield 9, 3) := by decide +kernel
theorem dX2_lessen_48 : decode cX2_lessen 48 = .ok (.iload 6, 2) := by decide +kernel
theorem dX2_lessen_50 : decode cX2_lessen 50 = .ok (.iload_n 3, 1) := by decide +kernel
theorem dX2_lessen_51 : decode cX2_lessen 51 = .ok (.invokevirtual 33, 3) := by decide +kernel
theorem dX2_lessen_54 : decode cX2_lessen 54 = .ok (.iload_n 2, 1) := by decide +kernel
theorem dX2_lessen_55 : decode cX2_lessen 55 = .ok (.isub, 1) := by decide +kernel
theorem dX2_lessen_56 : decode cX2_lessen 56 = .ok (.invokevirtual 44, 3) := by decide +kernel
theorem dX2_lessen_59 : decode cX2_lessen 59 = .ok (.iload 6, 2) := by decide +kernel
theorem dX2_lessen_61 : decode cX2_lessen 61 = .ok (.istore_n 3, 1) := by decide +kernel
theorem dX2_lessen_62 : decode cX2_lessen 62 = .ok (.iload 4, 2) := by decide +kernel
theorem dX2_lessen_64 : decode cX2_lessen 64 = .ok (.bipush 10, 2) := by decide +kernel
theorem dX2_lessen_66 : decode cX2_lessen 66 = .ok (.idiv, 1) := by decide +kernel
theorem dX2_lessen_67 : decode cX2_lessen 67 = .ok (.istore 4, 2) := by decide +kernel
theorem dX2_lessen_69 : decode cX2_lessen 69 = .ok (.iinc 5 1, 3) := by decide +kernel
theorem dX2_lessen_72 : decode cX2_lessen 72 = .ok (.goto (-54), 3) := by decide +kernel
theorem dX2_lessen_75 : decode cX2_lessen 75 = .ok (.iload_n 2, 1) := by decide +kernel
theorem dX2_lessen_76 : decode cX2_lessen 76 = .ok (.ireturn, 1) := by decide +kernel
