theorem dX3_init_0 : decode cX3_init 0 = .ok (.aload_n 0, 1) := by decide +kernel
theorem dX3_init_1 : decode cX3_init 1 = .ok (.invokespecial 1, 3) := by decide +kernel
theorem dX3_init_4 : decode cX3_init 4 = .ok (.aload_n 0, 1) := by decide +kernel
theorem dX3_init_5 : decode cX3_init 5 = .ok (.new 7, 3) := by decide +kernel
theorem dX3_init_8 : decode cX3_init 8 = .ok (.dup, 1) := by decide +kernel
theorem dX3_init_9 : decode cX3_init 9 = .ok (.invokespecial 9, 3) := by decide +kernel
theorem dX3_init_12 : decode cX3_init 12 = .ok (.putfield 10, 3) := by decide +kernel
theorem dX3_init_15 : decode cX3_init 15 = .ok (.aload_n 0, 1) := by decide +kernel
theorem dX3_init_16 : decode cX3_init 16 = .ok (.new 16, 3) := by decide +kernel
theorem dX3_init_19 : decode cX3_init 19 = .ok (.dup, 1) := by decide +kernel
theorem dX3_init_20 : decode cX3_init 20 = .ok (.aload_n 0, 1) := by decide +kernel
theorem dX3_init_21 : decode cX3_init 21 = .ok (.getfield 10, 3) := by decide +kernel
theorem dX3_init_24 : decode cX3_init 24 = .ok (.invokespecial 18, 3) := by decide +kernel
theorem dX3_init_27 : decode cX3_init 27 = .ok (.putfield 21, 3) := by decide +kernel
theorem dX3_init_30 : decode cX3_init 30 = .ok (.aload_n 0, 1) := by decide +kernel
theorem dX3_init_31 : decode cX3_init 31 = .ok (.new 25, 3) := by decide +kernel
theorem dX3_init_34 : decode cX3_init 34 = .ok (.dup, 1) := by decide +kernel
theorem dX3_init_35 : decode cX3_init 35 = .ok (.aload_n 0, 1) := by decide +kernel
theorem dX3_init_36 : decode cX3_init 36 = .ok (.getfield 10, 3) := by decide +kernel
theorem dX3_init_39 : decode cX3_init 39 = .ok (.invokespecial 27, 3) := by decide +kernel
theorem dX3_init_42 : decode cX3_init 42 = .ok (.putfield 28, 3) := by decide +kernel
theorem dX3_init_45 : decode cX3_init 45 = .ok (.return_, 1) := by decide +kernel
theorem dX3_houses_0 : decode cX3_houses 0 = .ok (.iload_n 1, 1) := by decide +kernel
theorem dX3_houses_1 : decode cX3_houses 1 = .ok (.iconst 1, 1) := by decide +kernel
theorem dX3_houses_2 : decode cX3_houses 2 = .ok (.if_icmp .lt 8, 3) := by decide +kernel
theorem dX3_houses_5 : decode cX3_houses 5 = .ok (.iload_n 1, 1) := by decide +kernel
theorem dX3_houses_6 : decode cX3_houses 6 = .ok (.iconst 4, 1) := by decide +kernel
theorem dX3_houses_7 : decode cX3_houses 7 = .ok (.if_icmp .le 6, 3) := by decide +kernel
theorem dX3_houses_10 : decode cX3_houses 10 = .ok (.bipush (-102), 2) := by decide +kernel
theorem dX3_houses_12 : decode cX3_houses 12 = .ok (.ireturn, 1) := by decide +kernel
theorem dX3_houses_13 : decode cX3_houses 13 = .ok (.aload_n 0, 1) := by decide +kernel
theorem dX3_houses_14 : decode cX3_houses 14 = .ok (.getfield 10, 3) := by decide +kernel
theorem dX3_houses_17 : decode cX3_houses 17 = .ok (.iload_n 1, 1) := by decide +kernel
theorem dX3_houses_18 : decode cX3_houses 18 = .ok (.invokevirtual 32, 3) := by decide +kernel
theorem dX3_houses_21 : decode cX3_houses 21 = .ok (.iload_n 1, 1) := by decide +kernel
theorem dX3_houses_22 : decode cX3_houses 22 = .ok (.ireturn, 1) := by decide +kernel
theorem dX3_cash_0 : decode cX3_cash 0 = .ok (.aload_n 0, 1) := by decide +kernel
theorem dX3_cash_1 : decode cX3_cash 1 = .ok (.getfield 10, 3) := by decide +kernel
theorem dX3_cash_4 : decode cX3_cash 4 = .ok (.iload_n 1, 1) := by decide +kernel
theorem dX3_cash_5 : decode cX3_cash 5 = .ok (.invokevirtual 36, 3) := by decide +kernel
theorem dX3_cash_8 : decode cX3_cash 8 = .ok (.ifCond .ne 6, 3) := by decide +kernel
theorem dX3_cash_11 : decode cX3_cash 11 = .ok (.bipush (-101), 2) := by decide +kernel
theorem dX3_cash_13 : decode cX3_cash 13 = .ok (.ireturn, 1) := by decide +kernel
theorem dX3_cash_14 : decode cX3_cash 14 = .ok (.iload_n 2, 1) := by decide +kernel
theorem dX3_cash_15 : decode cX3_cash 15 = .ok (.ifCond .lt 10, 3) := by decide +kernel
theorem dX3_cash_18 : decode cX3_cash 18 = .ok (.iload_n 2, 1) := by decide +kernel
theorem dX3_cash_19 : decode cX3_cash 19 = .ok (.sipush 1000, 3) := by decide +kernel
theorem dX3_cash_22 : decode cX3_cash 22 = .ok (.if_icmp .le 6, 3) := by decide +kernel
theorem dX3_cash_25 : decode cX3_cash 25 = .ok (.bipush (-102), 2) := by decide +kernel
theorem dX3_cash_27 : decode cX3_cash 27 = .ok (.ireturn, 1) := by decide +kernel
theorem dX3_cash_28 : decode cX3_cash 28 = .ok (.aload_n 0, 1) := by decide +kernel
theorem dX3_cash_29 : decode cX3_cash 29 = .ok (.getfield 10, 3) := by decide +kernel
theorem dX3_cash_32 : decode cX3_cash 32 = .ok (.iload_n 1, 1) := by decide +kernel
theorem dX3_cash_33 : decode cX3_cash 33 = .ok (.invokevirtual 40, 3) := by decide +kernel
theorem dX3_cash_36 : decode cX3_cash 36 = .ok (.istore_n 3, 1) := by decide +kernel
theorem dX3_cash_37 : decode cX3_cash 37 = .ok (.aload_n 0, 1) := by decide +kernel
theorem dX3_cash_38 : decode cX3_cash 38 = .ok (.getfield 10, 3) := by decide +kernel
theorem dX3_cash_41 : decode cX3_cash 41 = .ok (.iload_n 1, 1) := by decide +kernel
theorem dX3_cash_42 : decode cX3_cash 42 = .ok (.iload_n 2, 1) := by decide +kernel
theorem dX3_cash_43 : decode cX3_cash 43 = .ok (.invokevirtual 44, 3) := by decide +kernel
theorem dX3_cash_46 : decode cX3_cash 46 = .ok (.iload_n 3, 1) := by decide +kernel
theorem dX3_cash_47 : decode cX3_cash 47 = .ok (.ireturn, 1) := by decide +kernel
theorem dX3_owe_0 : decode cX3_owe 0 = .ok (.aload_n 0, 1) := by decide +kernel
theorem dX3_owe_1 : decode cX3_owe 1 = .ok (.getfield 10, 3) := by decide +kernel
theorem dX3_owe_4 : decode cX3_owe 4 = .ok (.iload_n 1, 1) := by decide +kernel
theorem dX3_owe_5 : decode cX3_owe 5 = .ok (.invokevirtual 36, 3) := by decide +kernel
theorem dX3_owe_8 : decode cX3_owe 8 = .ok (.ifCond .eq 14, 3) := by decide +kernel
theorem dX3_owe_11 : decode cX3_owe 11 = .ok (.aload_n 0, 1) := by decide +kernel
theorem dX3_owe_12 : decode cX3_owe 12 = .ok (.getfield 10, 3) := by decide +kernel
theorem dX3_owe_15 : decode cX3_owe 15 = .ok (.iload_n 2, 1) := by decide +kernel
theorem dX3_owe_16 : decode cX3_owe 16 = .ok (.invokevirtual 48, 3) := by decide +kernel
theorem dX3_owe_19 : decode cX3_owe 19 = .ok (.ifCond .ne 6, 3) := by decide +kernel
theorem dX3_owe_22 : decode cX3_owe 22 = .ok (.bipush (-101), 2) := by decide +kernel
theorem dX3_owe_24 : decode cX3_owe 24 = .ok (.ireturn, 1) := by decide +kernel
theorem dX3_owe_25 : decode cX3_owe 25 = .ok (.iload_n 3, 1) := by decide +kernel
theorem dX3_owe_26 : decode cX3_owe 26 = .ok (.ifCond .lt 14, 3) := by decide +kernel
theorem dX3_owe_29 : decode cX3_owe 29 = .ok (.iload_n 3, 1) := by decide +kernel
theorem dX3_owe_30 : decode cX3_owe 30 = .ok (.bipush 50, 2) := by decide +kernel
theorem dX3_owe_32 : decode cX3_owe 32 = .ok (.if_icmp .gt 8, 3) := by decide +kernel
theorem dX3_owe_35 : decode cX3_owe 35 = .ok (.iload_n 1, 1) := by decide +kernel
theorem dX3_owe_36 : decode cX3_owe 36 = .ok (.iload_n 2, 1) := by decide +kernel
theorem dX3_owe_37 : decode cX3_owe 37 = .ok (.if_icmp .ne 6, 3) := by decide +kernel
theorem dX3_owe_40 : decode cX3_owe 40 = .ok (.bipush (-102), 2) := by decide +kernel
theorem dX3_owe_42 : decode cX3_owe 42 = .ok (.ireturn, 1) := by decide +kernel
theorem dX3_owe_43 : decode cX3_owe 43 = .ok (.aload_n 0, 1) := by decide +kernel
theorem dX3_owe_44 : decode cX3_owe 44 = .ok (.getfield 10, 3) := by decide +kernel
theorem dX3_owe_47 : decode cX3_owe 47 = .ok (.iload_n 2, 1) := by decide +kernel
theorem dX3_owe_48 : decode cX3_owe 48 = .ok (.invokevirtual 51, 3) := by decide +kernel
theorem dX3_owe_51 : decode cX3_owe 51 = .ok (.istore 4, 2) := by decide +kernel
theorem dX3_owe_53 : decode cX3_owe 53 = .ok (.aload_n 0, 1) := by decide +kernel
theorem dX3_owe_54 : decode cX3_owe 54 = .ok (.getfield 10, 3) := by decide +kernel
theorem dX3_owe_57 : decode cX3_owe 57 = .ok (.iload_n 1, 1) := by decide +kernel
theorem dX3_owe_58 : decode cX3_owe 58 = .ok (.iload 4, 2) := by decide +kernel
theorem dX3_owe_60 : decode cX3_owe 60 = .ok (.invokevirtual 54, 3) := by decide +kernel
theorem dX3_owe_63 : decode cX3_owe 63 = .ok (.istore 5, 2) := by decide +kernel
theorem dX3_owe_65 : decode cX3_owe 65 = .ok (.aload_n 0, 1) := by decide +kernel
theorem dX3_owe_66 : decode cX3_owe 66 = .ok (.getfield 10, 3) := by decide +kernel
theorem dX3_owe_69 : decode cX3_owe 69 = .ok (.iload_n 1, 1) := by decide +kernel
theorem dX3_owe_70 : decode cX3_owe 70 = .ok (.iload 4, 2) := by decide +kernel
theorem dX3_owe_72 : decode cX3_owe 72 = .ok (.iload_n 3, 1) := by decide +kernel
theorem dX3_owe_73 : decode cX3_owe 73 = .ok (.invokevirtual 58, 3) := by decide +kernel
theorem dX3_owe_76 : decode cX3_owe 76 = .ok (.iload 5, 2) := by decide +kernel
theorem dX3_owe_78 : decode cX3_owe 78 = .ok (.ireturn, 1) := by decide +kernel
theorem dX3_toll_0 : decode cX3_toll 0 = .ok (.iload_n 1, 1) := by decide +kernel
theorem dX3_toll_1 : decode cX3_toll 1 = .ok (.ifCond .lt 8, 3) := by decide +kernel
theorem dX3_toll_4 : decode cX3_toll 4 = .ok (.iload_n 1, 1) := by decide +kernel
theorem dX3_toll_5 : decode cX3_toll 5 = .ok (.iconst 5, 1) := by decide +kernel
theorem dX3_toll_6 : decode cX3_toll 6 = .ok (.if_icmp .le 6, 3) := by decide +kernel
theorem dX3_toll_9 : decode cX3_toll 9 = .ok (.bipush (-102), 2) := by decide +kernel
theorem dX3_toll_11 : decode cX3_toll 11 = .ok (.ireturn, 1) := by decide +kernel
theorem dX3_toll_12 : decode cX3_toll 12 = .ok (.aload_n 0, 1) := by decide +kernel
theorem dX3_toll_13 : decode cX3_toll 13 = .ok (.getfield 10, 3) := by decide +kernel
theorem dX3_toll_16 : decode cX3_toll 16 = .ok (.getfield 62, 3) := by decide +kernel
theorem dX3_toll_19 : decode cX3_toll 19 = .ok (.istore_n 2, 1) := by decide +kernel
theorem dX3_toll_20 : decode cX3_toll 20 = .ok (.aload_n 0, 1) := by decide +kernel
theorem dX3_toll_21 : decode cX3_toll 21 = .ok (.getfield 10, 3) := by decide +kernel
theorem dX3_toll_24 : decode cX3_toll 24 = .ok (.iload_n 1, 1) := by decide +kernel
theorem dX3_toll_25 : decode cX3_toll 25 = .ok (.putfield 62, 3) := by decide +kernel
theorem dX3_toll_28 : decode cX3_toll 28 = .ok (.iload_n 2, 1) := by decide +kernel
theorem dX3_toll_29 : decode cX3_toll 29 = .ok (.ireturn, 1) := by decide +kernel
theorem dX3_cashOf_0 : decode cX3_cashOf 0 = .ok (.aload_n 0, 1) := by decide +kernel
theorem dX3_cashOf_1 : decode cX3_cashOf 1 = .ok (.getfield 10, 3) := by decide +kernel
theorem dX3_cashOf_4 : decode cX3_cashOf 4 = .ok (.iload_n 1, 1) := by decide +kernel
theorem dX3_cashOf_5 : decode cX3_cashOf 5 = .ok (.invokevirtual 36, 3) := by decide +kernel
theorem dX3_cashOf_8 : decode cX3_cashOf 8 = .ok (.ifCond .eq 14, 3) := by decide +kernel
theorem dX3_cashOf_11 : decode cX3_cashOf 11 = .ok (.aload_n 0, 1) := by decide +kernel
theorem dX3_cashOf_12 : decode cX3_cashOf 12 = .ok (.getfield 10, 3) := by decide +kernel
theorem dX3_cashOf_15 : decode cX3_cashOf 15 = .ok (.iload_n 1, 1) := by decide +kernel
theorem dX3_cashOf_16 : decode cX3_cashOf 16 = .ok (.invokevirtual 40, 3) := by decide +kernel
theorem dX3_cashOf_19 : decode cX3_cashOf 19 = .ok (.goto 5, 3) := by decide +kernel
theorem dX3_cashOf_22 : decode cX3_cashOf 22 = .ok (.bipush (-101), 2) := by decide +kernel
theorem dX3_cashOf_24 : decode cX3_cashOf 24 = .ok (.ireturn, 1) := by decide +kernel
theorem dX3_debt_0 : decode cX3_debt 0 = .ok (.aload_n 0, 1) := by decide +kernel
theorem dX3_debt_1 : decode cX3_debt 1 = .ok (.getfield 10, 3) := by decide +kernel
theorem dX3_debt_4 : decode cX3_debt 4 = .ok (.iload_n 1, 1) := by decide +kernel
theorem dX3_debt_5 : decode cX3_debt 5 = .ok (.invokevirtual 36, 3) := by decide +kernel
theorem dX3_debt_8 : decode cX3_debt 8 = .ok (.ifCond .eq 14, 3) := by decide +kernel
theorem dX3_debt_11 : decode cX3_debt 11 = .ok (.aload_n 0, 1) := by decide +kernel
theorem dX3_debt_12 : decode cX3_debt 12 = .ok (.getfield 10, 3) := by decide +kernel
theorem dX3_debt_15 : decode cX3_debt 15 = .ok (.iload_n 2, 1) := by decide +kernel
theorem dX3_debt_16 : decode cX3_debt 16 = .ok (.invokevirtual 48, 3) := by decide +kernel
theorem dX3_debt_19 : decode cX3_debt 19 = .ok (.ifCond .ne 6, 3) := by decide +kernel
theorem dX3_debt_22 : decode cX3_debt 22 = .ok (.bipush (-101), 2) := by decide +kernel
theorem dX3_debt_24 : decode cX3_debt 24 = .ok (.ireturn, 1) := by decide +kernel
theorem dX3_debt_25 : decode cX3_debt 25 = .ok (.aload_n 0, 1) := by decide +kernel
theorem dX3_debt_26 : decode cX3_debt 26 = .ok (.getfield 10, 3) := by decide +kernel
theorem dX3_debt_29 : decode cX3_debt 29 = .ok (.iload_n 1, 1) := by decide +kernel
theorem dX3_debt_30 : decode cX3_debt 30 = .ok (.aload_n 0, 1) := by decide +kernel
theorem dX3_debt_31 : decode cX3_debt 31 = .ok (.getfield 10, 3) := by decide +kernel
theorem dX3_debt_34 : decode cX3_debt 34 = .ok (.iload_n 2, 1) := by decide +kernel
theorem dX3_debt_35 : decode cX3_debt 35 = .ok (.invokevirtual 51, 3) := by decide +kernel
theorem dX3_debt_38 : decode cX3_debt 38 = .ok (.invokevirtual 54, 3) := by decide +kernel
theorem dX3_debt_41 : decode cX3_debt 41 = .ok (.ireturn, 1) := by decide +kernel
theorem dX3_owes_0 : decode cX3_owes 0 = .ok (.aload_n 0, 1) := by decide +kernel
theorem dX3_owes_1 : decode cX3_owes 1 = .ok (.getfield 10, 3) := by decide +kernel
theorem dX3_owes_4 : decode cX3_owes 4 = .ok (.iload_n 1, 1) := by decide +kernel
theorem dX3_owes_5 : decode cX3_owes 5 = .ok (.invokevirtual 36, 3) := by decide +kernel
theorem dX3_owes_8 : decode cX3_owes 8 = .ok (.ifCond .eq 14, 3) := by decide +kernel
theorem dX3_owes_11 : decode cX3_owes 11 = .ok (.aload_n 0, 1) := by decide +kernel
theorem dX3_owes_12 : decode cX3_owes 12 = .ok (.getfield 10, 3) := by decide +kernel
theorem dX3_owes_15 : decode cX3_owes 15 = .ok (.iload_n 1, 1) := by decide +kernel
theorem dX3_owes_16 : decode cX3_owes 16 = .ok (.invokevirtual 66, 3) := by decide +kernel
theorem dX3_owes_19 : decode cX3_owes 19 = .ok (.goto 5, 3) := by decide +kernel
theorem dX3_owes_22 : decode cX3_owes 22 = .ok (.bipush (-101), 2) := by decide +kernel
theorem dX3_owes_24 : decode cX3_owes 24 = .ok (.ireturn, 1) := by decide +kernel
theorem dX3_falls_0 : decode cX3_falls 0 = .ok (.aload_n 0, 1) := by decide +kernel
theorem dX3_falls_1 : decode cX3_falls 1 = .ok (.getfield 10, 3) := by decide +kernel
theorem dX3_falls_4 : decode cX3_falls 4 = .ok (.iload_n 1, 1) := by decide +kernel
theorem dX3_falls_5 : decode cX3_falls 5 = .ok (.invokevirtual 36, 3) := by decide +kernel
theorem dX3_falls_8 : decode cX3_falls 8 = .ok (.ifCond .ne 6, 3) := by decide +kernel
theorem dX3_falls_11 : decode cX3_falls 11 = .ok (.bipush (-101), 2) := by decide +kernel
theorem dX3_falls_13 : decode cX3_falls 13 = .ok (.ireturn, 1) := by decide +kernel
theorem dX3_falls_14 : decode cX3_falls 14 = .ok (.aload_n 0, 1) := by decide +kernel
theorem dX3_falls_15 : decode cX3_falls 15 = .ok (.getfield 21, 3) := by decide +kernel
theorem dX3_falls_18 : decode cX3_falls 18 = .ok (.iconst (-1), 1) := by decide +kernel
theorem dX3_falls_19 : decode cX3_falls 19 = .ok (.invokevirtual 69, 3) := by decide +kernel
theorem dX3_falls_22 : decode cX3_falls 22 = .ok (.aload_n 0, 1) := by decide +kernel
theorem dX3_falls_23 : decode cX3_falls 23 = .ok (.getfield 21, 3) := by decide +kernel
theorem dX3_falls_26 : decode cX3_falls 26 = .ok (.iload_n 1, 1) := by decide +kernel
theorem dX3_falls_27 : decode cX3_falls 27 = .ok (.invokevirtual 72, 3) := by decide +kernel
theorem dX3_falls_30 : decode cX3_falls 30 = .ok (.ireturn, 1) := by decide +kernel
theorem dX3_rounds_0 : decode cX3_rounds 0 = .ok (.aload_n 0, 1) := by decide +kernel
theorem dX3_rounds_1 : decode cX3_rounds 1 = .ok (.getfield 21, 3) := by decide +kernel
theorem dX3_rounds_4 : decode cX3_rounds 4 = .ok (.iconst (-1), 1) := by decide +kernel
theorem dX3_rounds_5 : decode cX3_rounds 5 = .ok (.invokevirtual 69, 3) := by decide +kernel
theorem dX3_rounds_8 : decode cX3_rounds 8 = .ok (.aload_n 0, 1) := by decide +kernel
theorem dX3_rounds_9 : decode cX3_rounds 9 = .ok (.getfield 21, 3) := by decide +kernel
theorem dX3_rounds_12 : decode cX3_rounds 12 = .ok (.getfield 75, 3) := by decide +kernel
theorem dX3_rounds_15 : decode cX3_rounds 15 = .ok (.ireturn, 1) := by decide +kernel
theorem dX3_share_0 : decode cX3_share 0 = .ok (.aload_n 0, 1) := by decide +kernel
theorem dX3_share_1 : decode cX3_share 1 = .ok (.getfield 10, 3) := by decide +kernel
theorem dX3_share_4 : decode cX3_share 4 = .ok (.iload_n 1, 1) := by decide +kernel
theorem dX3_share_5 : decode cX3_share 5 = .ok (.invokevirtual 36, 3) := by decide +kernel
theorem dX3_share_8 : decode cX3_share 8 = .ok (.ifCond .ne 7, 3) := by decide +kernel
theorem dX3_share_11 : decode cX3_share 11 = .ok (.ldc2_w 78, 3) := by decide +kernel
theorem dX3_share_14 : decode cX3_share 14 = .ok (.lreturn, 1) := by decide +kernel
theorem dX3_share_15 : decode cX3_share 15 = .ok (.iload_n 2, 1) := by decide +kernel
theorem dX3_share_16 : decode cX3_share 16 = .ok (.invokestatic 80, 3) := by decide +kernel
theorem dX3_share_19 : decode cX3_share 19 = .ok (.ifCond .ne 7, 3) := by decide +kernel
theorem dX3_share_22 : decode cX3_share 22 = .ok (.ldc2_w 83, 3) := by decide +kernel
theorem dX3_share_25 : decode cX3_share 25 = .ok (.lreturn, 1) := by decide +kernel
theorem dX3_share_26 : decode cX3_share 26 = .ok (.aload_n 0, 1) := by decide +kernel
theorem dX3_share_27 : decode cX3_share 27 = .ok (.getfield 21, 3) := by decide +kernel
theorem dX3_share_30 : decode cX3_share 30 = .ok (.iconst (-1), 1) := by decide +kernel
theorem dX3_share_31 : decode cX3_share 31 = .ok (.invokevirtual 69, 3) := by decide +kernel
theorem dX3_share_34 : decode cX3_share 34 = .ok (.aload_n 0, 1) := by decide +kernel
theorem dX3_share_35 : decode cX3_share 35 = .ok (.getfield 21, 3) := by decide +kernel
theorem dX3_share_38 : decode cX3_share 38 = .ok (.iload_n 1, 1) := by decide +kernel
theorem dX3_share_39 : decode cX3_share 39 = .ok (.invokevirtual 85, 3) := by decide +kernel
theorem dX3_share_42 : decode cX3_share 42 = .ok (.aload_n 0, 1) := by decide +kernel
theorem dX3_share_43 : decode cX3_share 43 = .ok (.getfield 21, 3) := by decide +kernel
theorem dX3_share_46 : decode cX3_share 46 = .ok (.getfield 89, 3) := by decide +kernel
theorem dX3_share_49 : decode cX3_share 49 = .ok (.iload_n 2, 1) := by decide +kernel
theorem dX3_share_50 : decode cX3_share 50 = .ok (.invokestatic 93, 3) := by decide +kernel
theorem dX3_share_53 : decode cX3_share 53 = .ok (.lreturn, 1) := by decide +kernel
theorem dX3_gross_0 : decode cX3_gross 0 = .ok (.aload_n 0, 1) := by decide +kernel
theorem dX3_gross_1 : decode cX3_gross 1 = .ok (.getfield 10, 3) := by decide +kernel
theorem dX3_gross_4 : decode cX3_gross 4 = .ok (.iload_n 1, 1) := by decide +kernel
theorem dX3_gross_5 : decode cX3_gross 5 = .ok (.invokevirtual 36, 3) := by decide +kernel
theorem dX3_gross_8 : decode cX3_gross 8 = .ok (.ifCond .ne 7, 3) := by decide +kernel
theorem dX3_gross_11 : decode cX3_gross 11 = .ok (.ldc2_w 78, 3) := by decide +kernel
theorem dX3_gross_14 : decode cX3_gross 14 = .ok (.lreturn, 1) := by decide +kernel
theorem dX3_gross_15 : decode cX3_gross 15 = .ok (.iload_n 2, 1) := by decide +kernel
theorem dX3_gross_16 : decode cX3_gross 16 = .ok (.invokestatic 80, 3) := by decide +kernel
theorem dX3_gross_19 : decode cX3_gross 19 = .ok (.ifCond .ne 7, 3) := by decide +kernel
theorem dX3_gross_22 : decode cX3_gross 22 = .ok (.ldc2_w 83, 3) := by decide +kernel
theorem dX3_gross_25 : decode cX3_gross 25 = .ok (.lreturn, 1) := by decide +kernel
theorem dX3_gross_26 : decode cX3_gross 26 = .ok (.aload_n 0, 1) := by decide +kernel
theorem dX3_gross_27 : decode cX3_gross 27 = .ok (.getfield 21, 3) := by decide +kernel
theorem dX3_gross_30 : decode cX3_gross 30 = .ok (.iconst (-1), 1) := by decide +kernel
theorem dX3_gross_31 : decode cX3_gross 31 = .ok (.invokevirtual 69, 3) := by decide +kernel
theorem dX3_gross_34 : decode cX3_gross 34 = .ok (.aload_n 0, 1) := by decide +kernel
theorem dX3_gross_35 : decode cX3_gross 35 = .ok (.getfield 21, 3) := by decide +kernel
theorem dX3_gross_38 : decode cX3_gross 38 = .ok (.iload_n 1, 1) := by decide +kernel
theorem dX3_gross_39 : decode cX3_gross 39 = .ok (.invokevirtual 97, 3) := by decide +kernel
theorem dX3_gross_42 : decode cX3_gross 42 = .ok (.aload_n 0, 1) := by decide +kernel
theorem dX3_gross_43 : decode cX3_gross 43 = .ok (.getfield 21, 3) := by decide +kernel
theorem dX3_gross_46 : decode cX3_gross 46 = .ok (.getfield 89, 3) := by decide +kernel
theorem dX3_gross_49 : decode cX3_gross 49 = .ok (.iload_n 2, 1) := by decide +kernel
theorem dX3_gross_50 : decode cX3_gross 50 = .ok (.invokestatic 93, 3) := by decide +kernel
theorem dX3_gross_53 : decode cX3_gross 53 = .ok (.lreturn, 1) := by decide +kernel
theorem dX3_pays_0 : decode cX3_pays 0 = .ok (.aload_n 0, 1) := by decide +kernel
theorem dX3_pays_1 : decode cX3_pays 1 = .ok (.getfield 10, 3) := by decide +kernel
theorem dX3_pays_4 : decode cX3_pays 4 = .ok (.iload_n 1, 1) := by decide +kernel
theorem dX3_pays_5 : decode cX3_pays 5 = .ok (.invokevirtual 36, 3) := by decide +kernel
theorem dX3_pays_8 : decode cX3_pays 8 = .ok (.ifCond .eq 14, 3) := by decide +kernel
theorem dX3_pays_11 : decode cX3_pays 11 = .ok (.aload_n 0, 1) := by decide +kernel
theorem dX3_pays_12 : decode cX3_pays 12 = .ok (.getfield 10, 3) := by decide +kernel
theorem dX3_pays_15 : decode cX3_pays 15 = .ok (.iload_n 2, 1) := by decide +kernel
theorem dX3_pays_16 : decode cX3_pays 16 = .ok (.invokevirtual 48, 3) := by decide +kernel
theorem dX3_pays_19 : decode cX3_pays 19 = .ok (.ifCond .ne 7, 3) := by decide +kernel
theorem dX3_pays_22 : decode cX3_pays 22 = .ok (.ldc2_w 78, 3) := by decide +kernel
theorem dX3_pays_25 : decode cX3_pays 25 = .ok (.lreturn, 1) := by decide +kernel
theorem dX3_pays_26 : decode cX3_pays 26 = .ok (.iload_n 3, 1) := by decide +kernel
theorem dX3_pays_27 : decode cX3_pays 27 = .ok (.invokestatic 80, 3) := by decide +kernel
theorem dX3_pays_30 : decode cX3_pays 30 = .ok (.ifCond .ne 7, 3) := by decide +kernel
theorem dX3_pays_33 : decode cX3_pays 33 = .ok (.ldc2_w 83, 3) := by decide +kernel
theorem dX3_pays_36 : decode cX3_pays 36 = .ok (.lreturn, 1) := by decide +kernel
theorem dX3_pays_37 : decode cX3_pays 37 = .ok (.aload_n 0, 1) := by decide +kernel
theorem dX3_pays_38 : decode cX3_pays 38 = .ok (.getfield 21, 3) := by decide +kernel
theorem dX3_pays_41 : decode cX3_pays 41 = .ok (.iconst (-1), 1) := by decide +kernel
theorem dX3_pays_42 : decode cX3_pays 42 = .ok (.invokevirtual 69, 3) := by decide +kernel
theorem dX3_pays_45 : decode cX3_pays 45 = .ok (.aload_n 0, 1) := by decide +kernel
theorem dX3_pays_46 : decode cX3_pays 46 = .ok (.getfield 21, 3) := by decide +kernel
theorem dX3_pays_49 : decode cX3_pays 49 = .ok (.iload_n 1, 1) := by decide +kernel
theorem dX3_pays_50 : decode cX3_pays 50 = .ok (.invokevirtual 85, 3) := by decide +kernel
theorem dX3_pays_53 : decode cX3_pays 53 = .ok (.aload_n 0, 1) := by decide +kernel
theorem dX3_pays_54 : decode cX3_pays 54 = .ok (.getfield 10, 3) := by decide +kernel
theorem dX3_pays_57 : decode cX3_pays 57 = .ok (.iload_n 1, 1) := by decide +kernel
theorem dX3_pays_58 : decode cX3_pays 58 = .ok (.aload_n 0, 1) := by decide +kernel
theorem dX3_pays_59 : decode cX3_pays 59 = .ok (.getfield 10, 3) := by decide +kernel
theorem dX3_pays_62 : decode cX3_pays 62 = .ok (.iload_n 2, 1) := by decide +kernel
theorem dX3_pays_63 : decode cX3_pays 63 = .ok (.invokevirtual 51, 3) := by decide +kernel
theorem dX3_pays_66 : decode cX3_pays 66 = .ok (.invokevirtual 54, 3) := by decide +kernel
theorem dX3_pays_69 : decode cX3_pays 69 = .ok (.i2l, 1) := by decide +kernel
theorem dX3_pays_70 : decode cX3_pays 70 = .ok (.lmul, 1) := by decide +kernel
theorem dX3_pays_71 : decode cX3_pays 71 = .ok (.lstore 4, 2) := by decide +kernel
theorem dX3_pays_73 : decode cX3_pays 73 = .ok (.lload 4, 2) := by decide +kernel
theorem dX3_pays_75 : decode cX3_pays 75 = .ok (.aload_n 0, 1) := by decide +kernel
theorem dX3_pays_76 : decode cX3_pays 76 = .ok (.getfield 21, 3) := by decide +kernel
theorem dX3_pays_79 : decode cX3_pays 79 = .ok (.getfield 89, 3) := by decide +kernel
theorem dX3_pays_82 : decode cX3_pays 82 = .ok (.iload_n 3, 1) := by decide +kernel
theorem dX3_pays_83 : decode cX3_pays 83 = .ok (.invokestatic 93, 3) := by decide +kernel
theorem dX3_pays_86 : decode cX3_pays 86 = .ok (.lreturn, 1) := by decide +kernel
theorem dX3_left_0 : decode cX3_left 0 = .ok (.aload_n 0, 1) := by decide +kernel
theorem dX3_left_1 : decode cX3_left 1 = .ok (.getfield 10, 3) := by decide +kernel
theorem dX3_left_4 : decode cX3_left 4 = .ok (.iload_n 1, 1) := by decide +kernel
theorem dX3_left_5 : decode cX3_left 5 = .ok (.invokevirtual 36, 3) := by decide +kernel
theorem dX3_left_8 : decode cX3_left 8 = .ok (.ifCond .ne 7, 3) := by decide +kernel
theorem dX3_left_11 : decode cX3_left 11 = .ok (.ldc2_w 78, 3) := by decide +kernel
theorem dX3_left_14 : decode cX3_left 14 = .ok (.lreturn, 1) := by decide +kernel
theorem dX3_left_15 : decode cX3_left 15 = .ok (.iload_n 2, 1) := by decide +kernel
theorem dX3_left_16 : decode cX3_left 16 = .ok (.invokestatic 80, 3) := by decide +kernel
theorem dX3_left_19 : decode cX3_left 19 = .ok (.ifCond .ne 7, 3) := by decide +kernel
theorem dX3_left_22 : decode cX3_left 22 = .ok (.ldc2_w 83, 3) := by decide +kernel
theorem dX3_left_25 : decode cX3_left 25 = .ok (.lreturn, 1) := by decide +kernel
theorem dX3_left_26 : decode cX3_left 26 = .ok (.aload_n 0, 1) := by decide +kernel
theorem dX3_left_27 : decode cX3_left 27 = .ok (.getfield 21, 3) := by decide +kernel
theorem dX3_left_30 : decode cX3_left 30 = .ok (.iconst (-1), 1) := by decide +kernel
theorem dX3_left_31 : decode cX3_left 31 = .ok (.invokevirtual 69, 3) := by decide +kernel
theorem dX3_left_34 : decode cX3_left 34 = .ok (.aload_n 0, 1) := by decide +kernel
theorem dX3_left_35 : decode cX3_left 35 = .ok (.getfield 21, 3) := by decide +kernel
theorem dX3_left_38 : decode cX3_left 38 = .ok (.iload_n 1, 1) := by decide +kernel
theorem dX3_left_39 : decode cX3_left 39 = .ok (.invokevirtual 100, 3) := by decide +kernel
theorem dX3_left_42 : decode cX3_left 42 = .ok (.aload_n 0, 1) := by decide +kernel
theorem dX3_left_43 : decode cX3_left 43 = .ok (.getfield 21, 3) := by decide +kernel
theorem dX3_left_46 : decode cX3_left 46 = .ok (.getfield 89, 3) := by decide +kernel
theorem dX3_left_49 : decode cX3_left 49 = .ok (.iload_n 2, 1) := by decide +kernel
theorem dX3_left_50 : decode cX3_left 50 = .ok (.invokestatic 93, 3) := by decide +kernel
theorem dX3_left_53 : decode cX3_left 53 = .ok (.lreturn, 1) := by decide +kernel
theorem dX3_lost_0 : decode cX3_lost 0 = .ok (.iload_n 1, 1) := by decide +kernel
theorem dX3_lost_1 : decode cX3_lost 1 = .ok (.invokestatic 80, 3) := by decide +kernel
theorem dX3_lost_4 : decode cX3_lost 4 = .ok (.ifCond .ne 7, 3) := by decide +kernel
theorem dX3_lost_7 : decode cX3_lost 7 = .ok (.ldc2_w 83, 3) := by decide +kernel
theorem dX3_lost_10 : decode cX3_lost 10 = .ok (.lreturn, 1) := by decide +kernel
theorem dX3_lost_11 : decode cX3_lost 11 = .ok (.aload_n 0, 1) := by decide +kernel
theorem dX3_lost_12 : decode cX3_lost 12 = .ok (.getfield 21, 3) := by decide +kernel
theorem dX3_lost_15 : decode cX3_lost 15 = .ok (.iconst (-1), 1) := by decide +kernel
theorem dX3_lost_16 : decode cX3_lost 16 = .ok (.invokevirtual 69, 3) := by decide +kernel
theorem dX3_lost_19 : decode cX3_lost 19 = .ok (.aload_n 0, 1) := by decide +kernel
theorem dX3_lost_20 : decode cX3_lost 20 = .ok (.getfield 21, 3) := by decide +kernel
theorem dX3_lost_23 : decode cX3_lost 23 = .ok (.invokevirtual 103, 3) := by decide +kernel
theorem dX3_lost_26 : decode cX3_lost 26 = .ok (.aload_n 0, 1) := by decide +kernel
theorem dX3_lost_27 : decode cX3_lost 27 = .ok (.getfield 21, 3) := by decide +kernel
theorem dX3_lost_30 : decode cX3_lost 30 = .ok (.getfield 89, 3) := by decide +kernel
theorem dX3_lost_33 : decode cX3_lost 33 = .ok (.ldc2_w 107, 3) := by decide +kernel
theorem dX3_lost_36 : decode cX3_lost 36 = .ok (.lmul, 1) := by decide +kernel
theorem dX3_lost_37 : decode cX3_lost 37 = .ok (.iload_n 1, 1) := by decide +kernel
theorem dX3_lost_38 : decode cX3_lost 38 = .ok (.invokestatic 93, 3) := by decide +kernel
theorem dX3_lost_41 : decode cX3_lost 41 = .ok (.lreturn, 1) := by decide +kernel
theorem dX3_drag_0 : decode cX3_drag 0 = .ok (.aload_n 0, 1) := by decide +kernel
theorem dX3_drag_1 : decode cX3_drag 1 = .ok (.getfield 10, 3) := by decide +kernel
theorem dX3_drag_4 : decode cX3_drag 4 = .ok (.iload_n 1, 1) := by decide +kernel
theorem dX3_drag_5 : decode cX3_drag 5 = .ok (.invokevirtual 36, 3) := by decide +kernel
theorem dX3_drag_8 : decode cX3_drag 8 = .ok (.ifCond .ne 6, 3) := by decide +kernel
theorem dX3_drag_11 : decode cX3_drag 11 = .ok (.bipush (-101), 2) := by decide +kernel
theorem dX3_drag_13 : decode cX3_drag 13 = .ok (.ireturn, 1) := by decide +kernel
theorem dX3_drag_14 : decode cX3_drag 14 = .ok (.aload_n 0, 1) := by decide +kernel
theorem dX3_drag_15 : decode cX3_drag 15 = .ok (.getfield 21, 3) := by decide +kernel
theorem dX3_drag_18 : decode cX3_drag 18 = .ok (.iload_n 1, 1) := by decide +kernel
theorem dX3_drag_19 : decode cX3_drag 19 = .ok (.invokevirtual 69, 3) := by decide +kernel
theorem dX3_drag_22 : decode cX3_drag 22 = .ok (.aload_n 0, 1) := by decide +kernel
theorem dX3_drag_23 : decode cX3_drag 23 = .ok (.getfield 21, 3) := by decide +kernel
theorem dX3_drag_26 : decode cX3_drag 26 = .ok (.invokevirtual 109, 3) := by decide +kernel
theorem dX3_drag_29 : decode cX3_drag 29 = .ok (.ireturn, 1) := by decide +kernel
theorem dX3_help_0 : decode cX3_help 0 = .ok (.aload_n 0, 1) := by decide +kernel
theorem dX3_help_1 : decode cX3_help 1 = .ok (.getfield 10, 3) := by decide +kernel
theorem dX3_help_4 : decode cX3_help 4 = .ok (.iload_n 1, 1) := by decide +kernel
theorem dX3_help_5 : decode cX3_help 5 = .ok (.invokevirtual 36, 3) := by decide +kernel
theorem dX3_help_8 : decode cX3_help 8 = .ok (.ifCond .eq 14, 3) := by decide +kernel
theorem dX3_help_11 : decode cX3_help 11 = .ok (.aload_n 0, 1) := by decide +kernel
theorem dX3_help_12 : decode cX3_help 12 = .ok (.getfield 10, 3) := by decide +kernel
theorem dX3_help_15 : decode cX3_help 15 = .ok (.iload_n 1, 1) := by decide +kernel
theorem dX3_help_16 : decode cX3_help 16 = .ok (.invokevirtual 113, 3) := by decide +kernel
theorem dX3_help_19 : decode cX3_help 19 = .ok (.goto 5, 3) := by decide +kernel
theorem dX3_help_22 : decode cX3_help 22 = .ok (.bipush (-101), 2) := by decide +kernel
theorem dX3_help_24 : decode cX3_help 24 = .ok (.ireturn, 1) := by decide +kernel
theorem dX3_best_0 : decode cX3_best 0 = .ok (.iconst (-1), 1) := by decide +kernel
theorem dX3_best_1 : decode cX3_best 1 = .ok (.istore_n 1, 1) := by decide +kernel
theorem dX3_best_2 : decode cX3_best 2 = .ok (.iconst (-1), 1) := by decide +kernel
theorem dX3_best_3 : decode cX3_best 3 = .ok (.istore_n 2, 1) := by decide +kernel
theorem dX3_best_4 : decode cX3_best 4 = .ok (.iconst 0, 1) := by decide +kernel
theorem dX3_best_5 : decode cX3_best 5 = .ok (.istore_n 3, 1) := by decide +kernel
theorem dX3_best_6 : decode cX3_best 6 = .ok (.iload_n 3, 1) := by decide +kernel
theorem dX3_best_7 : decode cX3_best 7 = .ok (.aload_n 0, 1) := by decide +kernel
theorem dX3_best_8 : decode cX3_best 8 = .ok (.getfield 10, 3) := by decide +kernel
theorem dX3_best_11 : decode cX3_best 11 = .ok (.getfield 116, 3) := by decide +kernel
theorem dX3_best_14 : decode cX3_best 14 = .ok (.if_icmp .ge 41, 3) := by decide +kernel
theorem dX3_best_17 : decode cX3_best 17 = .ok (.aload_n 0, 1) := by decide +kernel
theorem dX3_best_18 : decode cX3_best 18 = .ok (.getfield 10, 3) := by decide +kernel
theorem dX3_best_21 : decode cX3_best 21 = .ok (.iload_n 3, 1) := by decide +kernel
theorem dX3_best_22 : decode cX3_best 22 = .ok (.invokevirtual 113, 3) := by decide +kernel
theorem dX3_best_25 : decode cX3_best 25 = .ok (.istore 4, 2) := by decide +kernel
theorem dX3_best_27 : decode cX3_best 27 = .ok (.iload 4, 2) := by decide +kernel
theorem dX3_best_29 : decode cX3_best 29 = .ok (.iconst (-1), 1) := by decide +kernel
theorem dX3_best_30 : decode cX3_best 30 = .ok (.if_icmp .eq 19, 3) := by decide +kernel
theorem dX3_best_33 : decode cX3_best 33 = .ok (.iload_n 1, 1) := by decide +kernel
theorem dX3_best_34 : decode cX3_best 34 = .ok (.iconst (-1), 1) := by decide +kernel
theorem dX3_best_35 : decode cX3_best 35 = .ok (.if_icmp .eq 9, 3) := by decide +kernel
theorem dX3_best_38 : decode cX3_best 38 = .ok (.iload 4, 2) := by decide +kernel
theorem dX3_best_40 : decode cX3_best 40 = .ok (.iload_n 2, 1) := by decide +kernel
theorem dX3_best_41 : decode cX3_best 41 = .ok (.if_icmp .ge 8, 3) := by decide +kernel
theorem dX3_best_44 : decode cX3_best 44 = .ok (.iload_n 3, 1) := by decide +kernel
theorem dX3_best_45 : decode cX3_best 45 = .ok (.istore_n 1, 1) := by decide +kernel
theorem dX3_best_46 : decode cX3_best 46 = .ok (.iload 4, 2) := by decide +kernel
theorem dX3_best_48 : decode cX3_best 48 = .ok (.istore_n 2, 1) := by decide +kernel
theorem dX3_best_49 : decode cX3_best 49 = .ok (.iinc 3 1, 3) := by decide +kernel
theorem dX3_best_52 : decode cX3_best 52 = .ok (.goto (-46), 3) := by decide +kernel
theorem dX3_best_55 : decode cX3_best 55 = .ok (.iload_n 1, 1) := by decide +kernel
theorem dX3_best_56 : decode cX3_best 56 = .ok (.ireturn, 1) := by decide +kernel
theorem dX3_net_0 : decode cX3_net 0 = .ok (.aload_n 0, 1) := by decide +kernel
theorem dX3_net_1 : decode cX3_net 1 = .ok (.getfield 10, 3) := by decide +kernel
theorem dX3_net_4 : decode cX3_net 4 = .ok (.iload_n 1, 1) := by decide +kernel
theorem dX3_net_5 : decode cX3_net 5 = .ok (.invokevirtual 36, 3) := by decide +kernel
theorem dX3_net_8 : decode cX3_net 8 = .ok (.ifCond .eq 23, 3) := by decide +kernel
theorem dX3_net_11 : decode cX3_net 11 = .ok (.aload_n 0, 1) := by decide +kernel
theorem dX3_net_12 : decode cX3_net 12 = .ok (.getfield 10, 3) := by decide +kernel
theorem dX3_net_15 : decode cX3_net 15 = .ok (.iload_n 1, 1) := by decide +kernel
theorem dX3_net_16 : decode cX3_net 16 = .ok (.invokevirtual 119, 3) := by decide +kernel
theorem dX3_net_19 : decode cX3_net 19 = .ok (.aload_n 0, 1) := by decide +kernel
theorem dX3_net_20 : decode cX3_net 20 = .ok (.getfield 10, 3) := by decide +kernel
theorem dX3_net_23 : decode cX3_net 23 = .ok (.iload_n 1, 1) := by decide +kernel
theorem dX3_net_24 : decode cX3_net 24 = .ok (.invokevirtual 66, 3) := by decide +kernel
theorem dX3_net_27 : decode cX3_net 27 = .ok (.isub, 1) := by decide +kernel
theorem dX3_net_28 : decode cX3_net 28 = .ok (.goto 5, 3) := by decide +kernel
theorem dX3_net_31 : decode cX3_net 31 = .ok (.ldc 122, 2) := by decide +kernel
theorem dX3_net_33 : decode cX3_net 33 = .ok (.ireturn, 1) := by decide +kernel
theorem dX3_rings_0 : decode cX3_rings 0 = .ok (.aload_n 0, 1) := by decide +kernel
theorem dX3_rings_1 : decode cX3_rings 1 = .ok (.getfield 28, 3) := by decide +kernel
theorem dX3_rings_4 : decode cX3_rings 4 = .ok (.invokevirtual 123, 3) := by decide +kernel
theorem dX3_rings_7 : decode cX3_rings 7 = .ok (.ireturn, 1) := by decide +kernel
theorem dX3_ring_0 : decode cX3_ring 0 = .ok (.aload_n 0, 1) := by decide +kernel
theorem dX3_ring_1 : decode cX3_ring 1 = .ok (.getfield 28, 3) := by decide +kernel
theorem dX3_ring_4 : decode cX3_ring 4 = .ok (.iload_n 1, 1) := by decide +kernel
theorem dX3_ring_5 : decode cX3_ring 5 = .ok (.invokevirtual 126, 3) := by decide +kernel
theorem dX3_ring_8 : decode cX3_ring 8 = .ok (.ireturn, 1) := by decide +kernel
theorem dX3_cancel_0 : decode cX3_cancel 0 = .ok (.aload_n 0, 1) := by decide +kernel
theorem dX3_cancel_1 : decode cX3_cancel 1 = .ok (.getfield 28, 3) := by decide +kernel
theorem dX3_cancel_4 : decode cX3_cancel 4 = .ok (.iconst 0, 1) := by decide +kernel
theorem dX3_cancel_5 : decode cX3_cancel 5 = .ok (.invokevirtual 126, 3) := by decide +kernel
theorem dX3_cancel_8 : decode cX3_cancel 8 = .ok (.istore_n 1, 1) := by decide +kernel
theorem dX3_cancel_9 : decode cX3_cancel 9 = .ok (.iload_n 1, 1) := by decide +kernel
theorem dX3_cancel_10 : decode cX3_cancel 10 = .ok (.iconst (-1), 1) := by decide +kernel
theorem dX3_cancel_11 : decode cX3_cancel 11 = .ok (.if_icmp .ne 7, 3) := by decide +kernel
theorem dX3_cancel_14 : decode cX3_cancel 14 = .ok (.iconst 0, 1) := by decide +kernel
theorem dX3_cancel_15 : decode cX3_cancel 15 = .ok (.goto 11, 3) := by decide +kernel
theorem dX3_cancel_18 : decode cX3_cancel 18 = .ok (.aload_n 0, 1) := by decide +kernel
theorem dX3_cancel_19 : decode cX3_cancel 19 = .ok (.getfield 28, 3) := by decide +kernel
theorem dX3_cancel_22 : decode cX3_cancel 22 = .ok (.iload_n 1, 1) := by decide +kernel
theorem dX3_cancel_23 : decode cX3_cancel 23 = .ok (.invokevirtual 129, 3) := by decide +kernel
theorem dX3_cancel_26 : decode cX3_cancel 26 = .ok (.ireturn, 1) := by decide +kernel
theorem dX3_cancelAll_0 : decode cX3_cancelAll 0 = .ok (.iconst 0, 1) := by decide +kernel
theorem dX3_cancelAll_1 : decode cX3_cancelAll 1 = .ok (.istore_n 1, 1) := by decide +kernel
theorem dX3_cancelAll_2 : decode cX3_cancelAll 2 = .ok (.iconst 0, 1) := by decide +kernel
theorem dX3_cancelAll_3 : decode cX3_cancelAll 3 = .ok (.istore_n 2, 1) := by decide +kernel
theorem dX3_cancelAll_4 : decode cX3_cancelAll 4 = .ok (.iload_n 2, 1) := by decide +kernel
theorem dX3_cancelAll_5 : decode cX3_cancelAll 5 = .ok (.bipush 20, 2) := by decide +kernel
theorem dX3_cancelAll_7 : decode cX3_cancelAll 7 = .ok (.if_icmp .ge 50, 3) := by decide +kernel
theorem dX3_cancelAll_10 : decode cX3_cancelAll 10 = .ok (.aload_n 0, 1) := by decide +kernel
theorem dX3_cancelAll_11 : decode cX3_cancelAll 11 = .ok (.getfield 28, 3) := by decide +kernel
theorem dX3_cancelAll_14 : decode cX3_cancelAll 14 = .ok (.iconst 0, 1) := by decide +kernel
theorem dX3_cancelAll_15 : decode cX3_cancelAll 15 = .ok (.invokevirtual 126, 3) := by decide +kernel
theorem dX3_cancelAll_18 : decode cX3_cancelAll 18 = .ok (.istore_n 3, 1) := by decide +kernel
theorem dX3_cancelAll_19 : decode cX3_cancelAll 19 = .ok (.iload_n 3, 1) := by decide +kernel
theorem dX3_cancelAll_20 : decode cX3_cancelAll 20 = .ok (.iconst (-1), 1) := by decide +kernel
theorem dX3_cancelAll_21 : decode cX3_cancelAll 21 = .ok (.if_icmp .ne 6, 3) := by decide +kernel
theorem dX3_cancelAll_24 : decode cX3_cancelAll 24 = .ok (.goto 33, 3) := by decide +kernel
theorem dX3_cancelAll_27 : decode cX3_cancelAll 27 = .ok (.aload_n 0, 1) := by decide +kernel
theorem dX3_cancelAll_28 : decode cX3_cancelAll 28 = .ok (.getfield 28, 3) := by decide +kernel
theorem dX3_cancelAll_31 : decode cX3_cancelAll 31 = .ok (.iload_n 3, 1) := by decide +kernel
theorem dX3_cancelAll_32 : decode cX3_cancelAll 32 = .ok (.invokevirtual 132, 3) := by decide +kernel
theorem dX3_cancelAll_35 : decode cX3_cancelAll 35 = .ok (.istore 4, 2) := by decide +kernel
theorem dX3_cancelAll_37 : decode cX3_cancelAll 37 = .ok (.iload_n 1, 1) := by decide +kernel
theorem dX3_cancelAll_38 : decode cX3_cancelAll 38 = .ok (.iload 4, 2) := by decide +kernel
theorem dX3_cancelAll_40 : decode cX3_cancelAll 40 = .ok (.aload_n 0, 1) := by decide +kernel
theorem dX3_cancelAll_41 : decode cX3_cancelAll 41 = .ok (.getfield 28, 3) := by decide +kernel
theorem dX3_cancelAll_44 : decode cX3_cancelAll 44 = .ok (.iload_n 3, 1) := by decide +kernel
theorem dX3_cancelAll_45 : decode cX3_cancelAll 45 = .ok (.invokevirtual 129, 3) := by decide +kernel
theorem dX3_cancelAll_48 : decode cX3_cancelAll 48 = .ok (.imul, 1) := by decide +kernel
theorem dX3_cancelAll_49 : decode cX3_cancelAll 49 = .ok (.iadd, 1) := by decide +kernel
theorem dX3_cancelAll_50 : decode cX3_cancelAll 50 = .ok (.istore_n 1, 1) := by decide +kernel
theorem dX3_cancelAll_51 : decode cX3_cancelAll 51 = .ok (.iinc 2 1, 3) := by decide +kernel
theorem dX3_cancelAll_54 : decode cX3_cancelAll 54 = .ok (.goto (-50), 3) := by decide +kernel
theorem dX3_cancelAll_57 : decode cX3_cancelAll 57 = .ok (.iload_n 1, 1) := by decide +kernel
theorem dX3_cancelAll_58 : decode cX3_cancelAll 58 = .ok (.ireturn, 1) := by decide +kernel
theorem dX3_day_0 : decode cX3_day 0 = .ok (.aload_n 0, 1) := by decide +kernel
theorem dX3_day_1 : decode cX3_day 1 = .ok (.getfield 10, 3) := by decide +kernel
theorem dX3_day_4 : decode cX3_day 4 = .ok (.invokevirtual 135, 3) := by decide +kernel
theorem dX3_day_7 : decode cX3_day 7 = .ok (.ireturn, 1) := by decide +kernel
theorem dX3_days_0 : decode cX3_days 0 = .ok (.iconst 0, 1) := by decide +kernel
theorem dX3_days_1 : decode cX3_days 1 = .ok (.istore_n 1, 1) := by decide +kernel
theorem dX3_days_2 : decode cX3_days 2 = .ok (.iload_n 1, 1) := by decide +kernel
theorem dX3_days_3 : decode cX3_days 3 = .ok (.bipush 20, 2) := by decide +kernel
theorem dX3_days_5 : decode cX3_days 5 = .ok (.if_icmp .ge 19, 3) := by decide +kernel
theorem dX3_days_8 : decode cX3_days 8 = .ok (.aload_n 0, 1) := by decide +kernel
theorem dX3_days_9 : decode cX3_days 9 = .ok (.getfield 10, 3) := by decide +kernel
theorem dX3_days_12 : decode cX3_days 12 = .ok (.invokevirtual 135, 3) := by decide +kernel
theorem dX3_days_15 : decode cX3_days 15 = .ok (.ifCond .le 9, 3) := by decide +kernel
theorem dX3_days_18 : decode cX3_days 18 = .ok (.iinc 1 1, 3) := by decide +kernel
theorem dX3_days_21 : decode cX3_days 21 = .ok (.goto (-19), 3) := by decide +kernel
theorem dX3_days_24 : decode cX3_days 24 = .ok (.iload_n 1, 1) := by decide +kernel
theorem dX3_days_25 : decode cX3_days 25 = .ok (.ireturn, 1) := by decide +kernel
theorem dX3_count_0 : decode cX3_count 0 = .ok (.iload_n 1, 1) := by decide +kernel
theorem dX3_count_1 : decode cX3_count 1 = .ok (.tableswitch 100 0 6 #[43, 51, 59, 67, 75, 84, 92], 43) := by decide +kernel
theorem dX3_count_44 : decode cX3_count 44 = .ok (.aload_n 0, 1) := by decide +kernel
theorem dX3_count_45 : decode cX3_count 45 = .ok (.getfield 10, 3) := by decide +kernel
theorem dX3_count_48 : decode cX3_count 48 = .ok (.getfield 116, 3) := by decide +kernel
theorem dX3_count_51 : decode cX3_count 51 = .ok (.ireturn, 1) := by decide +kernel
theorem dX3_count_52 : decode cX3_count 52 = .ok (.aload_n 0, 1) := by decide +kernel
theorem dX3_count_53 : decode cX3_count 53 = .ok (.getfield 10, 3) := by decide +kernel
theorem dX3_count_56 : decode cX3_count 56 = .ok (.getfield 62, 3) := by decide +kernel
theorem dX3_count_59 : decode cX3_count 59 = .ok (.ireturn, 1) := by decide +kernel
theorem dX3_count_60 : decode cX3_count 60 = .ok (.aload_n 0, 1) := by decide +kernel
theorem dX3_count_61 : decode cX3_count 61 = .ok (.getfield 10, 3) := by decide +kernel
theorem dX3_count_64 : decode cX3_count 64 = .ok (.invokevirtual 138, 3) := by decide +kernel
theorem dX3_count_67 : decode cX3_count 67 = .ok (.ireturn, 1) := by decide +kernel
theorem dX3_count_68 : decode cX3_count 68 = .ok (.aload_n 0, 1) := by decide +kernel
theorem dX3_count_69 : decode cX3_count 69 = .ok (.getfield 10, 3) := by decide +kernel
theorem dX3_count_72 : decode cX3_count 72 = .ok (.invokevirtual 141, 3) := by decide +kernel
theorem dX3_count_75 : decode cX3_count 75 = .ok (.ireturn, 1) := by decide +kernel
theorem dX3_count_76 : decode cX3_count 76 = .ok (.aload_n 0, 1) := by decide +kernel
theorem dX3_count_77 : decode cX3_count 77 = .ok (.getfield 10, 3) := by decide +kernel
theorem dX3_count_80 : decode cX3_count 80 = .ok (.iconst 4, 1) := by decide +kernel
theorem dX3_count_81 : decode cX3_count 81 = .ok (.invokevirtual 119, 3) := by decide +kernel
theorem dX3_count_84 : decode cX3_count 84 = .ok (.ireturn, 1) := by decide +kernel
theorem dX3_count_85 : decode cX3_count 85 = .ok (.aload_n 0, 1) := by decide +kernel
theorem dX3_count_86 : decode cX3_count 86 = .ok (.getfield 10, 3) := by decide +kernel
theorem dX3_count_89 : decode cX3_count 89 = .ok (.invokevirtual 144, 3) := by decide +kernel
theorem dX3_count_92 : decode cX3_count 92 = .ok (.ireturn, 1) := by decide +kernel
theorem dX3_count_93 : decode cX3_count 93 = .ok (.aload_n 0, 1) := by decide +kernel
theorem dX3_count_94 : decode cX3_count 94 = .ok (.getfield 10, 3) := by decide +kernel
theorem dX3_count_97 : decode cX3_count 97 = .ok (.getfield 147, 3) := by decide +kernel
theorem dX3_count_100 : decode cX3_count 100 = .ok (.ireturn, 1) := by decide +kernel
theorem dX3_count_101 : decode cX3_count 101 = .ok (.bipush (-102), 2) := by decide +kernel
theorem dX3_count_103 : decode cX3_count 103 = .ok (.ireturn, 1) := by decide +kernel
theorem dX3_digest_0 : decode cX3_digest 0 = .ok (.ldc2_w 150, 3) := by decide +kernel
theorem dX3_digest_3 : decode cX3_digest 3 = .ok (.lstore_n 1, 1) := by decide +kernel
theorem dX3_digest_4 : decode cX3_digest 4 = .ok (.ldc2_w 152, 3) := by decide +kernel
theorem dX3_digest_7 : decode cX3_digest 7 = .ok (.lload_n 1, 1) := by decide +kernel
theorem dX3_digest_8 : decode cX3_digest 8 = .ok (.lmul, 1) := by decide +kernel
theorem dX3_digest_9 : decode cX3_digest 9 = .ok (.aload_n 0, 1) := by decide +kernel
theorem dX3_digest_10 : decode cX3_digest 10 = .ok (.getfield 10, 3) := by decide +kernel
theorem dX3_digest_13 : decode cX3_digest 13 = .ok (.getfield 116, 3) := by decide +kernel
theorem dX3_digest_16 : decode cX3_digest 16 = .ok (.i2l, 1) := by decide +kernel
theorem dX3_digest_17 : decode cX3_digest 17 = .ok (.ladd, 1) := by decide +kernel
theorem dX3_digest_18 : decode cX3_digest 18 = .ok (.lstore_n 1, 1) := by decide +kernel
theorem dX3_digest_19 : decode cX3_digest 19 = .ok (.ldc2_w 152, 3) := by decide +kernel
theorem dX3_digest_22 : decode cX3_digest 22 = .ok (.lload_n 1, 1) := by decide +kernel
theorem dX3_digest_23 : decode cX3_digest 23 = .ok (.lmul, 1) := by decide +kernel
theorem dX3_digest_24 : decode cX3_digest 24 = .ok (.aload_n 0, 1) := by decide +kernel
theorem dX3_digest_25 : decode cX3_digest 25 = .ok (.getfield 10, 3) := by decide +kernel
theorem dX3_digest_28 : decode cX3_digest 28 = .ok (.getfield 62, 3) := by decide +kernel
theorem dX3_digest_31 : decode cX3_digest 31 = .ok (.i2l, 1) := by decide +kernel
theorem dX3_digest_32 : decode cX3_digest 32 = .ok (.ladd, 1) := by decide +kernel
theorem dX3_digest_33 : decode cX3_digest 33 = .ok (.lstore_n 1, 1) := by decide +kernel
theorem dX3_digest_34 : decode cX3_digest 34 = .ok (.iconst 0, 1) := by decide +kernel
theorem dX3_digest_35 : decode cX3_digest 35 = .ok (.istore_n 3, 1) := by decide +kernel
theorem dX3_digest_36 : decode cX3_digest 36 = .ok (.iload_n 3, 1) := by decide +kernel
theorem dX3_digest_37 : decode cX3_digest 37 = .ok (.aload_n 0, 1) := by decide +kernel
theorem dX3_digest_38 : decode cX3_digest 38 = .ok (.getfield 10, 3) := by decide +kernel
theorem dX3_digest_41 : decode cX3_digest 41 = .ok (.getfield 116, 3) := by decide +kernel
theorem dX3_digest_44 : decode cX3_digest 44 = .ok (.if_icmp .ge 81, 3) := by decide +kernel
theorem dX3_digest_47 : decode cX3_digest 47 = .ok (.ldc2_w 152, 3) := by decide +kernel
theorem dX3_digest_50 : decode cX3_digest 50 = .ok (.lload_n 1, 1) := by decide +kernel
theorem dX3_digest_51 : decode cX3_digest 51 = .ok (.lmul, 1) := by decide +kernel
theorem dX3_digest_52 : decode cX3_digest 52 = .ok (.aload_n 0, 1) := by decide +kernel
theorem dX3_digest_53 : decode cX3_digest 53 = .ok (.getfield 10, 3) := by decide +kernel
theorem dX3_digest_56 : decode cX3_digest 56 = .ok (.iload_n 3, 1) := by decide +kernel
theorem dX3_digest_57 : decode cX3_digest 57 = .ok (.invokevirtual 40, 3) := by decide +kernel
theorem dX3_digest_60 : decode cX3_digest 60 = .ok (.i2l, 1) := by decide +kernel
theorem dX3_digest_61 : decode cX3_digest 61 = .ok (.ladd, 1) := by decide +kernel
theorem dX3_digest_62 : decode cX3_digest 62 = .ok (.lstore_n 1, 1) := by decide +kernel
theorem dX3_digest_63 : decode cX3_digest 63 = .ok (.iconst 0, 1) := by decide +kernel
theorem dX3_digest_64 : decode cX3_digest 64 = .ok (.istore 4, 2) := by decide +kernel
theorem dX3_digest_66 : decode cX3_digest 66 = .ok (.iload 4, 2) := by decide +kernel
theorem dX3_digest_68 : decode cX3_digest 68 = .ok (.aload_n 0, 1) := by decide +kernel
theorem dX3_digest_69 : decode cX3_digest 69 = .ok (.getfield 10, 3) := by decide +kernel
theorem dX3_digest_72 : decode cX3_digest 72 = .ok (.getfield 116, 3) := by decide +kernel
theorem dX3_digest_75 : decode cX3_digest 75 = .ok (.if_icmp .ge 27, 3) := by decide +kernel
theorem dX3_digest_78 : decode cX3_digest 78 = .ok (.ldc2_w 152, 3) := by decide +kernel
theorem dX3_digest_81 : decode cX3_digest 81 = .ok (.lload_n 1, 1) := by decide +kernel
theorem dX3_digest_82 : decode cX3_digest 82 = .ok (.lmul, 1) := by decide +kernel
theorem dX3_digest_83 : decode cX3_digest 83 = .ok (.aload_n 0, 1) := by decide +kernel
theorem dX3_digest_84 : decode cX3_digest 84 = .ok (.getfield 10, 3) := by decide +kernel
theorem dX3_digest_87 : decode cX3_digest 87 = .ok (.iload_n 3, 1) := by decide +kernel
theorem dX3_digest_88 : decode cX3_digest 88 = .ok (.iload 4, 2) := by decide +kernel
theorem dX3_digest_90 : decode cX3_digest 90 = .ok (.invokevirtual 54, 3) := by decide +kernel
theorem dX3_digest_93 : decode cX3_digest 93 = .ok (.i2l, 1) := by decide +kernel
theorem dX3_digest_94 : decode cX3_digest 94 = .ok (.ladd, 1) := by decide +kernel
theorem dX3_digest_95 : decode cX3_digest 95 = .ok (.lstore_n 1, 1) := by decide +kernel
theorem dX3_digest_96 : decode cX3_digest 96 = .ok (.iinc 4 1, 3) := by decide +kernel
theorem dX3_digest_99 : decode cX3_digest 99 = .ok (.goto (-33), 3) := by decide +kernel
theorem dX3_digest_102 : decode cX3_digest 102 = .ok (.ldc2_w 152, 3) := by decide +kernel
theorem dX3_digest_105 : decode cX3_digest 105 = .ok (.lload_n 1, 1) := by decide +kernel
theorem dX3_digest_106 : decode cX3_digest 106 = .ok (.lmul, 1) := by decide +kernel
theorem dX3_digest_107 : decode cX3_digest 107 = .ok (.aload_n 0, 1) := by decide +kernel
theorem dX3_digest_108 : decode cX3_digest 108 = .ok (.getfield 10, 3) := by decide +kernel
theorem dX3_digest_111 : decode cX3_digest 111 = .ok (.iload_n 3, 1) := by decide +kernel
theorem dX3_digest_112 : decode cX3_digest 112 = .ok (.iconst 4, 1) := by decide +kernel
theorem dX3_digest_113 : decode cX3_digest 113 = .ok (.invokevirtual 54, 3) := by decide +kernel
theorem dX3_digest_116 : decode cX3_digest 116 = .ok (.i2l, 1) := by decide +kernel
theorem dX3_digest_117 : decode cX3_digest 117 = .ok (.ladd, 1) := by decide +kernel
theorem dX3_digest_118 : decode cX3_digest 118 = .ok (.lstore_n 1, 1) := by decide +kernel
theorem dX3_digest_119 : decode cX3_digest 119 = .ok (.iinc 3 1, 3) := by decide +kernel
theorem dX3_digest_122 : decode cX3_digest 122 = .ok (.goto (-86), 3) := by decide +kernel
theorem dX3_digest_125 : decode cX3_digest 125 = .ok (.aload_n 0, 1) := by decide +kernel
theorem dX3_digest_126 : decode cX3_digest 126 = .ok (.getfield 21, 3) := by decide +kernel
theorem dX3_digest_129 : decode cX3_digest 129 = .ok (.iconst (-1), 1) := by decide +kernel
theorem dX3_digest_130 : decode cX3_digest 130 = .ok (.invokevirtual 69, 3) := by decide +kernel
theorem dX3_digest_133 : decode cX3_digest 133 = .ok (.iconst 0, 1) := by decide +kernel
theorem dX3_digest_134 : decode cX3_digest 134 = .ok (.istore_n 3, 1) := by decide +kernel
theorem dX3_digest_135 : decode cX3_digest 135 = .ok (.iload_n 3, 1) := by decide +kernel
theorem dX3_digest_136 : decode cX3_digest 136 = .ok (.aload_n 0, 1) := by decide +kernel
theorem dX3_digest_137 : decode cX3_digest 137 = .ok (.getfield 10, 3) := by decide +kernel
theorem dX3_digest_140 : decode cX3_digest 140 = .ok (.getfield 116, 3) := by decide +kernel
theorem dX3_digest_143 : decode cX3_digest 143 = .ok (.if_icmp .ge 77, 3) := by decide +kernel
theorem dX3_digest_146 : decode cX3_digest 146 = .ok (.ldc2_w 152, 3) := by decide +kernel
theorem dX3_digest_149 : decode cX3_digest 149 = .ok (.lload_n 1, 1) := by decide +kernel
theorem dX3_digest_150 : decode cX3_digest 150 = .ok (.lmul, 1) := by decide +kernel
theorem dX3_digest_151 : decode cX3_digest 151 = .ok (.aload_n 0, 1) := by decide +kernel
theorem dX3_digest_152 : decode cX3_digest 152 = .ok (.getfield 21, 3) := by decide +kernel
theorem dX3_digest_155 : decode cX3_digest 155 = .ok (.iload_n 3, 1) := by decide +kernel
theorem dX3_digest_156 : decode cX3_digest 156 = .ok (.invokevirtual 72, 3) := by decide +kernel
theorem dX3_digest_159 : decode cX3_digest 159 = .ok (.i2l, 1) := by decide +kernel
theorem dX3_digest_160 : decode cX3_digest 160 = .ok (.ladd, 1) := by decide +kernel
theorem dX3_digest_161 : decode cX3_digest 161 = .ok (.lstore_n 1, 1) := by decide +kernel
theorem dX3_digest_162 : decode cX3_digest 162 = .ok (.ldc2_w 152, 3) := by decide +kernel
theorem dX3_digest_165 : decode cX3_digest 165 = .ok (.lload_n 1, 1) := by decide +kernel
theorem dX3_digest_166 : decode cX3_digest 166 = .ok (.lmul, 1) := by decide +kernel
theorem dX3_digest_167 : decode cX3_digest 167 = .ok (.aload_n 0, 1) := by decide +kernel
theorem dX3_digest_168 : decode cX3_digest 168 = .ok (.getfield 21, 3) := by decide +kernel
theorem dX3_digest_171 : decode cX3_digest 171 = .ok (.iload_n 3, 1) := by decide +kernel
theorem dX3_digest_172 : decode cX3_digest 172 = .ok (.invokevirtual 85, 3) := by decide +kernel
theorem dX3_digest_175 : decode cX3_digest 175 = .ok (.aload_n 0, 1) := by decide +kernel
theorem dX3_digest_176 : decode cX3_digest 176 = .ok (.getfield 21, 3) := by decide +kernel
theorem dX3_digest_179 : decode cX3_digest 179 = .ok (.getfield 89, 3) := by decide +kernel
theorem dX3_digest_182 : decode cX3_digest 182 = .ok (.iconst 0, 1) := by decide +kernel
theorem dX3_digest_183 : decode cX3_digest 183 = .ok (.invokestatic 93, 3) := by decide +kernel
theorem dX3_digest_186 : decode cX3_digest 186 = .ok (.ladd, 1) := by decide +kernel
theorem dX3_digest_187 : decode cX3_digest 187 = .ok (.lstore_n 1, 1) := by decide +kernel
theorem dX3_digest_188 : decode cX3_digest 188 = .ok (.ldc2_w 152, 3) := by decide +kernel
theorem dX3_digest_191 : decode cX3_digest 191 = .ok (.lload_n 1, 1) := by decide +kernel
theorem dX3_digest_192 : decode cX3_digest 192 = .ok (.lmul, 1) := by decide +kernel
theorem dX3_digest_193 : decode cX3_digest 193 = .ok (.aload_n 0, 1) := by decide +kernel
theorem dX3_digest_194 : decode cX3_digest 194 = .ok (.getfield 21, 3) := by decide +kernel
theorem dX3_digest_197 : decode cX3_digest 197 = .ok (.iload_n 3, 1) := by decide +kernel
theorem dX3_digest_198 : decode cX3_digest 198 = .ok (.invokevirtual 85, 3) := by decide +kernel
theorem dX3_digest_201 : decode cX3_digest 201 = .ok (.aload_n 0, 1) := by decide +kernel
theorem dX3_digest_202 : decode cX3_digest 202 = .ok (.getfield 21, 3) := by decide +kernel
theorem dX3_digest_205 : decode cX3_digest 205 = .ok (.getfield 89, 3) := by decide +kernel
theorem dX3_digest_208 : decode cX3_digest 208 = .ok (.iconst 1, 1) := by decide +kernel
theorem dX3_digest_209 : decode cX3_digest 209 = .ok (.invokestatic 93, 3) := by decide +kernel
theorem dX3_digest_212 : decode cX3_digest 212 = .ok (.ladd, 1) := by decide +kernel
theorem dX3_digest_213 : decode cX3_digest 213 = .ok (.lstore_n 1, 1) := by decide +kernel
theorem dX3_digest_214 : decode cX3_digest 214 = .ok (.iinc 3 1, 3) := by decide +kernel
theorem dX3_digest_217 : decode cX3_digest 217 = .ok (.goto (-82), 3) := by decide +kernel
theorem dX3_digest_220 : decode cX3_digest 220 = .ok (.ldc2_w 152, 3) := by decide +kernel
theorem dX3_digest_223 : decode cX3_digest 223 = .ok (.lload_n 1, 1) := by decide +kernel
theorem dX3_digest_224 : decode cX3_digest 224 = .ok (.lmul, 1) := by decide +kernel
theorem dX3_digest_225 : decode cX3_digest 225 = .ok (.aload_n 0, 1) := by decide +kernel
theorem dX3_digest_226 : decode cX3_digest 226 = .ok (.getfield 10, 3) := by decide +kernel
theorem dX3_digest_229 : decode cX3_digest 229 = .ok (.getfield 147, 3) := by decide +kernel
theorem dX3_digest_232 : decode cX3_digest 232 = .ok (.i2l, 1) := by decide +kernel
theorem dX3_digest_233 : decode cX3_digest 233 = .ok (.ladd, 1) := by decide +kernel
theorem dX3_digest_234 : decode cX3_digest 234 = .ok (.lreturn, 1) := by decide +kernel
theorem dX3_isPart_0 : decode cX3_isPart 0 = .ok (.iload_n 0, 1) := by decide +kernel
theorem dX3_isPart_1 : decode cX3_isPart 1 = .ok (.ifCond .eq 8, 3) := by decide +kernel
theorem dX3_isPart_4 : decode cX3_isPart 4 = .ok (.iload_n 0, 1) := by decide +kernel
theorem dX3_isPart_5 : decode cX3_isPart 5 = .ok (.iconst 1, 1) := by decide +kernel
theorem dX3_isPart_6 : decode cX3_isPart 6 = .ok (.if_icmp .ne 7, 3) := by decide +kernel
theorem dX3_isPart_9 : decode cX3_isPart 9 = .ok (.iconst 1, 1) := by decide +kernel
theorem dX3_isPart_10 : decode cX3_isPart 10 = .ok (.goto 4, 3) := by decide +kernel
theorem dX3_isPart_13 : decode cX3_isPart 13 = .ok (.iconst 0, 1) := by decide +kernel
theorem dX3_isPart_14 : decode cX3_isPart 14 = .ok (.ireturn, 1) := by decide +kernel
theorem dX3_lowestTerms_0 : decode cX3_lowestTerms 0 = .ok (.lload_n 0, 1) := by decide +kernel
theorem dX3_lowestTerms_1 : decode cX3_lowestTerms 1 = .ok (.lload_n 2, 1) := by decide +kernel
theorem dX3_lowestTerms_2 : decode cX3_lowestTerms 2 = .ok (.invokestatic 154, 3) := by decide +kernel
theorem dX3_lowestTerms_5 : decode cX3_lowestTerms 5 = .ok (.lstore 5, 2) := by decide +kernel
theorem dX3_lowestTerms_7 : decode cX3_lowestTerms 7 = .ok (.lload 5, 2) := by decide +kernel
theorem dX3_lowestTerms_9 : decode cX3_lowestTerms 9 = .ok (.lconst 0, 1) := by decide +kernel
theorem dX3_lowestTerms_10 : decode cX3_lowestTerms 10 = .ok (.lcmp, 1) := by decide +kernel
theorem dX3_lowestTerms_11 : decode cX3_lowestTerms 11 = .ok (.ifCond .ne 5, 3) := by decide +kernel
theorem dX3_lowestTerms_14 : decode cX3_lowestTerms 14 = .ok (.lconst 0, 1) := by decide +kernel
theorem dX3_lowestTerms_15 : decode cX3_lowestTerms 15 = .ok (.lreturn, 1) := by decide +kernel
theorem dX3_lowestTerms_16 : decode cX3_lowestTerms 16 = .ok (.iload 4, 2) := by decide +kernel
theorem dX3_lowestTerms_18 : decode cX3_lowestTerms 18 = .ok (.ifCond .ne 7, 3) := by decide +kernel
theorem dX3_lowestTerms_21 : decode cX3_lowestTerms 21 = .ok (.lload_n 0, 1) := by decide +kernel
theorem dX3_lowestTerms_22 : decode cX3_lowestTerms 22 = .ok (.goto 4, 3) := by decide +kernel
theorem dX3_lowestTerms_25 : decode cX3_lowestTerms 25 = .ok (.lload_n 2, 1) := by decide +kernel
theorem dX3_lowestTerms_26 : decode cX3_lowestTerms 26 = .ok (.lload 5, 2) := by decide +kernel
theorem dX3_lowestTerms_28 : decode cX3_lowestTerms 28 = .ok (.ldiv, 1) := by decide +kernel
theorem dX3_lowestTerms_29 : decode cX3_lowestTerms 29 = .ok (.lreturn, 1) := by decide +kernel
theorem dX3_commonDivisor_0 : decode cX3_commonDivisor 0 = .ok (.lload_n 0, 1) := by decide +kernel
theorem dX3_commonDivisor_1 : decode cX3_commonDivisor 1 = .ok (.invokestatic 158, 3) := by decide +kernel
theorem dX3_commonDivisor_4 : decode cX3_commonDivisor 4 = .ok (.lstore 4, 2) := by decide +kernel
theorem dX3_commonDivisor_6 : decode cX3_commonDivisor 6 = .ok (.lload_n 2, 1) := by decide +kernel
theorem dX3_commonDivisor_7 : decode cX3_commonDivisor 7 = .ok (.invokestatic 158, 3) := by decide +kernel
theorem dX3_commonDivisor_10 : decode cX3_commonDivisor 10 = .ok (.lstore 6, 2) := by decide +kernel
theorem dX3_commonDivisor_12 : decode cX3_commonDivisor 12 = .ok (.iconst 0, 1) := by decide +kernel
theorem dX3_commonDivisor_13 : decode cX3_commonDivisor 13 = .ok (.istore 8, 2) := by decide +kernel
theorem dX3_commonDivisor_15 : decode cX3_commonDivisor 15 = .ok (.iload 8, 2) := by decide +kernel
theorem dX3_commonDivisor_17 : decode cX3_commonDivisor 17 = .ok (.sipush 200, 3) := by decide +kernel
theorem dX3_commonDivisor_20 : decode cX3_commonDivisor 20 = .ok (.if_icmp .ge 31, 3) := by decide +kernel
theorem dX3_commonDivisor_23 : decode cX3_commonDivisor 23 = .ok (.lload 6, 2) := by decide +kernel
theorem dX3_commonDivisor_25 : decode cX3_commonDivisor 25 = .ok (.lconst 0, 1) := by decide +kernel
theorem dX3_commonDivisor_26 : decode cX3_commonDivisor 26 = .ok (.lcmp, 1) := by decide +kernel
theorem dX3_commonDivisor_27 : decode cX3_commonDivisor 27 = .ok (.ifCond .eq 24, 3) := by decide +kernel
theorem dX3_commonDivisor_30 : decode cX3_commonDivisor 30 = .ok (.lload 4, 2) := by decide +kernel
theorem dX3_commonDivisor_32 : decode cX3_commonDivisor 32 = .ok (.lload 6, 2) := by decide +kernel
theorem dX3_commonDivisor_34 : decode cX3_commonDivisor 34 = .ok (.lrem, 1) := by decide +kernel
theorem dX3_commonDivisor_35 : decode cX3_commonDivisor 35 = .ok (.lstore 9, 2) := by decide +kernel
theorem dX3_commonDivisor_37 : decode cX3_commonDivisor 37 = .ok (.lload 6, 2) := by decide +kernel
theorem dX3_commonDivisor_39 : decode cX3_commonDivisor 39 = .ok (.lstore 4, 2) := by decide +kernel
theorem dX3_commonDivisor_41 : decode cX3_commonDivisor 41 = .ok (.lload 9, 2) := by decide +kernel
theorem dX3_commonDivisor_43 : decode cX3_commonDivisor 43 = .ok (.lstore 6, 2) := by decide +kernel
theorem dX3_commonDivisor_45 : decode cX3_commonDivisor 45 = .ok (.iinc 8 1, 3) := by decide +kernel
theorem dX3_commonDivisor_48 : decode cX3_commonDivisor 48 = .ok (.goto (-33), 3) := by decide +kernel
theorem dX3_commonDivisor_51 : decode cX3_commonDivisor 51 = .ok (.lload 4, 2) := by decide +kernel
theorem dX3_commonDivisor_53 : decode cX3_commonDivisor 53 = .ok (.lreturn, 1) := by decide +kernel
theorem dX3_at_0 : decode cX3_at 0 = .ok (.aload_n 0, 1) := by decide +kernel
theorem dX3_at_1 : decode cX3_at 1 = .ok (.ifnull 19, 3) := by decide +kernel
theorem dX3_at_4 : decode cX3_at 4 = .ok (.iload_n 1, 1) := by decide +kernel
theorem dX3_at_5 : decode cX3_at 5 = .ok (.ifCond .lt 15, 3) := by decide +kernel
theorem dX3_at_8 : decode cX3_at 8 = .ok (.iload_n 1, 1) := by decide +kernel
theorem dX3_at_9 : decode cX3_at 9 = .ok (.aload_n 0, 1) := by decide +kernel
theorem dX3_at_10 : decode cX3_at 10 = .ok (.arraylength, 1) := by decide +kernel
theorem dX3_at_11 : decode cX3_at 11 = .ok (.if_icmp .ge 9, 3) := by decide +kernel
theorem dX3_at_14 : decode cX3_at 14 = .ok (.aload_n 0, 1) := by decide +kernel
theorem dX3_at_15 : decode cX3_at 15 = .ok (.iload_n 1, 1) := by decide +kernel
theorem dX3_at_16 : decode cX3_at 16 = .ok (.iaload, 1) := by decide +kernel
theorem dX3_at_17 : decode cX3_at 17 = .ok (.goto 4, 3) := by decide +kernel
theorem dX3_at_20 : decode cX3_at 20 = .ok (.iconst 0, 1) := by decide +kernel
theorem dX3_at_21 : decode cX3_at 21 = .ok (.ireturn, 1) := by decide +kernel
theorem dX3_put_0 : decode cX3_put 0 = .ok (.aload_n 0, 1) := by decide +kernel
theorem dX3_put_1 : decode cX3_put 1 = .ok (.ifnull 17, 3) := by decide +kernel
theorem dX3_put_4 : decode cX3_put 4 = .ok (.iload_n 1, 1) := by decide +kernel
theorem dX3_put_5 : decode cX3_put 5 = .ok (.ifCond .lt 13, 3) := by decide +kernel
theorem dX3_put_8 : decode cX3_put 8 = .ok (.iload_n 1, 1) := by decide +kernel
theorem dX3_put_9 : decode cX3_put 9 = .ok (.aload_n 0, 1) := by decide +kernel
theorem dX3_put_10 : decode cX3_put 10 = .ok (.arraylength, 1) := by decide +kernel
theorem dX3_put_11 : decode cX3_put 11 = .ok (.if_icmp .ge 7, 3) := by decide +kernel
theorem dX3_put_14 : decode cX3_put 14 = .ok (.aload_n 0, 1) := by decide +kernel
theorem dX3_put_15 : decode cX3_put 15 = .ok (.iload_n 1, 1) := by decide +kernel
theorem dX3_put_16 : decode cX3_put 16 = .ok (.iload_n 2, 1) := by decide +kernel
theorem dX3_put_17 : decode cX3_put 17 = .ok (.iastore, 1) := by decide +kernel
theorem dX3_put_18 : decode cX3_put 18 = .ok (.return_, 1) := by decide +kernel
theorem dX3_longAt_0 : decode cX3_longAt 0 = .ok (.aload_n 0, 1) := by decide +kernel
theorem dX3_longAt_1 : decode cX3_longAt 1 = .ok (.ifnull 19, 3) := by decide +kernel
theorem dX3_longAt_4 : decode cX3_longAt 4 = .ok (.iload_n 1, 1) := by decide +kernel
theorem dX3_longAt_5 : decode cX3_longAt 5 = .ok (.ifCond .lt 15, 3) := by decide +kernel
theorem dX3_longAt_8 : decode cX3_longAt 8 = .ok (.iload_n 1, 1) := by decide +kernel
theorem dX3_longAt_9 : decode cX3_longAt 9 = .ok (.aload_n 0, 1) := by decide +kernel
theorem dX3_longAt_10 : decode cX3_longAt 10 = .ok (.arraylength, 1) := by decide +kernel
theorem dX3_longAt_11 : decode cX3_longAt 11 = .ok (.if_icmp .ge 9, 3) := by decide +kernel
theorem dX3_longAt_14 : decode cX3_longAt 14 = .ok (.aload_n 0, 1) := by decide +kernel
theorem dX3_longAt_15 : decode cX3_longAt 15 = .ok (.iload_n 1, 1) := by decide +kernel
theorem dX3_longAt_16 : decode cX3_longAt 16 = .ok (.laload, 1) := by decide +kernel
theorem dX3_longAt_17 : decode cX3_longAt 17 = .ok (.goto 4, 3) := by decide +kernel
theorem dX3_longAt_20 : decode cX3_longAt 20 = .ok (.lconst 0, 1) := by decide +kernel
theorem dX3_longAt_21 : decode cX3_longAt 21 = .ok (.lreturn, 1) := by decide +kernel
theorem dX3_putLong_0 : decode cX3_putLong 0 = .ok (.aload_n 0, 1) := by decide +kernel
theorem dX3_putLong_1 : decode cX3_putLong 1 = .ok (.ifnull 17, 3) := by decide +kernel
theorem dX3_putLong_4 : decode cX3_putLong 4 = .ok (.iload_n 1, 1) := by decide +kernel
theorem dX3_putLong_5 : decode cX3_putLong 5 = .ok (.ifCond .lt 13, 3) := by decide +kernel
theorem dX3_putLong_8 : decode cX3_putLong 8 = .ok (.iload_n 1, 1) := by decide +kernel
theorem dX3_putLong_9 : decode cX3_putLong 9 = .ok (.aload_n 0, 1) := by decide +kernel
theorem dX3_putLong_10 : decode cX3_putLong 10 = .ok (.arraylength, 1) := by decide +kernel
theorem dX3_putLong_11 : decode cX3_putLong 11 = .ok (.if_icmp .ge 7, 3) := by decide +kernel
theorem dX3_putLong_14 : decode cX3_putLong 14 = .ok (.aload_n 0, 1) := by decide +kernel
theorem dX3_putLong_15 : decode cX3_putLong 15 = .ok (.iload_n 1, 1) := by decide +kernel
theorem dX3_putLong_16 : decode cX3_putLong 16 = .ok (.lload_n 2, 1) := by decide +kernel
theorem dX3_putLong_17 : decode cX3_putLong 17 = .ok (.lastore, 1) := by decide +kernel
theorem dX3_putLong_18 : decode cX3_putLong 18 = .ok (.return_, 1) := by decide +kernel
