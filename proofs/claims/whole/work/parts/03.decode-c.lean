theorem dX4_init_0 : decode cX4_init 0 = .ok (.aload_n 0, 1) := by decide +kernel
theorem dX4_init_1 : decode cX4_init 1 = .ok (.invokespecial 1, 3) := by decide +kernel
theorem dX4_init_4 : decode cX4_init 4 = .ok (.aload_n 0, 1) := by decide +kernel
theorem dX4_init_5 : decode cX4_init 5 = .ok (.iconst 1, 1) := by decide +kernel
theorem dX4_init_6 : decode cX4_init 6 = .ok (.putfield 7, 3) := by decide +kernel
theorem dX4_init_9 : decode cX4_init 9 = .ok (.aload_n 0, 1) := by decide +kernel
theorem dX4_init_10 : decode cX4_init 10 = .ok (.iconst 4, 1) := by decide +kernel
theorem dX4_init_11 : decode cX4_init 11 = .ok (.newarray .long, 2) := by decide +kernel
theorem dX4_init_13 : decode cX4_init 13 = .ok (.putfield 13, 3) := by decide +kernel
theorem dX4_init_16 : decode cX4_init 16 = .ok (.aload_n 0, 1) := by decide +kernel
theorem dX4_init_17 : decode cX4_init 17 = .ok (.bipush 20, 2) := by decide +kernel
theorem dX4_init_19 : decode cX4_init 19 = .ok (.newarray .int, 2) := by decide +kernel
theorem dX4_init_21 : decode cX4_init 21 = .ok (.putfield 17, 3) := by decide +kernel
theorem dX4_init_24 : decode cX4_init 24 = .ok (.aload_n 0, 1) := by decide +kernel
theorem dX4_init_25 : decode cX4_init 25 = .ok (.iconst 4, 1) := by decide +kernel
theorem dX4_init_26 : decode cX4_init 26 = .ok (.newarray .int, 2) := by decide +kernel
theorem dX4_init_28 : decode cX4_init 28 = .ok (.putfield 21, 3) := by decide +kernel
theorem dX4_init_31 : decode cX4_init 31 = .ok (.aload_n 0, 1) := by decide +kernel
theorem dX4_init_32 : decode cX4_init 32 = .ok (.iconst 4, 1) := by decide +kernel
theorem dX4_init_33 : decode cX4_init 33 = .ok (.newarray .long, 2) := by decide +kernel
theorem dX4_init_35 : decode cX4_init 35 = .ok (.putfield 24, 3) := by decide +kernel
theorem dX4_init_38 : decode cX4_init 38 = .ok (.aload_n 0, 1) := by decide +kernel
theorem dX4_init_39 : decode cX4_init 39 = .ok (.bipush 16, 2) := by decide +kernel
theorem dX4_init_41 : decode cX4_init 41 = .ok (.newarray .long, 2) := by decide +kernel
theorem dX4_init_43 : decode cX4_init 43 = .ok (.putfield 27, 3) := by decide +kernel
theorem dX4_init_46 : decode cX4_init 46 = .ok (.aload_n 0, 1) := by decide +kernel
theorem dX4_init_47 : decode cX4_init 47 = .ok (.iconst 4, 1) := by decide +kernel
theorem dX4_init_48 : decode cX4_init 48 = .ok (.newarray .long, 2) := by decide +kernel
theorem dX4_init_50 : decode cX4_init 50 = .ok (.putfield 30, 3) := by decide +kernel
theorem dX4_init_53 : decode cX4_init 53 = .ok (.aload_n 0, 1) := by decide +kernel
theorem dX4_init_54 : decode cX4_init 54 = .ok (.bipush 16, 2) := by decide +kernel
theorem dX4_init_56 : decode cX4_init 56 = .ok (.newarray .long, 2) := by decide +kernel
theorem dX4_init_58 : decode cX4_init 58 = .ok (.putfield 33, 3) := by decide +kernel
theorem dX4_init_61 : decode cX4_init 61 = .ok (.aload_n 0, 1) := by decide +kernel
theorem dX4_init_62 : decode cX4_init 62 = .ok (.iconst 4, 1) := by decide +kernel
theorem dX4_init_63 : decode cX4_init 63 = .ok (.newarray .boolean, 2) := by decide +kernel
theorem dX4_init_65 : decode cX4_init 65 = .ok (.putfield 36, 3) := by decide +kernel
theorem dX4_init_68 : decode cX4_init 68 = .ok (.aload_n 0, 1) := by decide +kernel
theorem dX4_init_69 : decode cX4_init 69 = .ok (.iconst 4, 1) := by decide +kernel
theorem dX4_init_70 : decode cX4_init 70 = .ok (.newarray .int, 2) := by decide +kernel
theorem dX4_init_72 : decode cX4_init 72 = .ok (.putfield 40, 3) := by decide +kernel
theorem dX4_init_75 : decode cX4_init 75 = .ok (.aload_n 0, 1) := by decide +kernel
theorem dX4_init_76 : decode cX4_init 76 = .ok (.iconst 4, 1) := by decide +kernel
theorem dX4_init_77 : decode cX4_init 77 = .ok (.newarray .int, 2) := by decide +kernel
theorem dX4_init_79 : decode cX4_init 79 = .ok (.putfield 43, 3) := by decide +kernel
theorem dX4_init_82 : decode cX4_init 82 = .ok (.return_, 1) := by decide +kernel
theorem dX4_in_0 : decode cX4_in 0 = .ok (.iload_n 0, 1) := by decide +kernel
theorem dX4_in_1 : decode cX4_in 1 = .ok (.iload_n 1, 1) := by decide +kernel
theorem dX4_in_2 : decode cX4_in 2 = .ok (.if_icmp .lt 12, 3) := by decide +kernel
theorem dX4_in_5 : decode cX4_in 5 = .ok (.iload_n 0, 1) := by decide +kernel
theorem dX4_in_6 : decode cX4_in 6 = .ok (.iload_n 2, 1) := by decide +kernel
theorem dX4_in_7 : decode cX4_in 7 = .ok (.if_icmp .gt 7, 3) := by decide +kernel
theorem dX4_in_10 : decode cX4_in 10 = .ok (.iconst 1, 1) := by decide +kernel
theorem dX4_in_11 : decode cX4_in 11 = .ok (.goto 4, 3) := by decide +kernel
theorem dX4_in_14 : decode cX4_in 14 = .ok (.iconst 0, 1) := by decide +kernel
theorem dX4_in_15 : decode cX4_in 15 = .ok (.ireturn, 1) := by decide +kernel
theorem dX4_isHouse_0 : decode cX4_isHouse 0 = .ok (.iload_n 1, 1) := by decide +kernel
theorem dX4_isHouse_1 : decode cX4_isHouse 1 = .ok (.iconst 0, 1) := by decide +kernel
theorem dX4_isHouse_2 : decode cX4_isHouse 2 = .ok (.aload_n 0, 1) := by decide +kernel
theorem dX4_isHouse_3 : decode cX4_isHouse 3 = .ok (.getfield 7, 3) := by decide +kernel
theorem dX4_isHouse_6 : decode cX4_isHouse 6 = .ok (.iconst 1, 1) := by decide +kernel
theorem dX4_isHouse_7 : decode cX4_isHouse 7 = .ok (.isub, 1) := by decide +kernel
theorem dX4_isHouse_8 : decode cX4_isHouse 8 = .ok (.invokestatic 46, 3) := by decide +kernel
theorem dX4_isHouse_11 : decode cX4_isHouse 11 = .ok (.ireturn, 1) := by decide +kernel
theorem dX4_houses_0 : decode cX4_houses 0 = .ok (.iload_n 1, 1) := by decide +kernel
theorem dX4_houses_1 : decode cX4_houses 1 = .ok (.iconst 1, 1) := by decide +kernel
theorem dX4_houses_2 : decode cX4_houses 2 = .ok (.iconst 4, 1) := by decide +kernel
theorem dX4_houses_3 : decode cX4_houses 3 = .ok (.invokestatic 46, 3) := by decide +kernel
theorem dX4_houses_6 : decode cX4_houses 6 = .ok (.ifCond .ne 6, 3) := by decide +kernel
theorem dX4_houses_9 : decode cX4_houses 9 = .ok (.bipush (-102), 2) := by decide +kernel
theorem dX4_houses_11 : decode cX4_houses 11 = .ok (.ireturn, 1) := by decide +kernel
theorem dX4_houses_12 : decode cX4_houses 12 = .ok (.aload_n 0, 1) := by decide +kernel
theorem dX4_houses_13 : decode cX4_houses 13 = .ok (.iload_n 1, 1) := by decide +kernel
theorem dX4_houses_14 : decode cX4_houses 14 = .ok (.putfield 7, 3) := by decide +kernel
theorem dX4_houses_17 : decode cX4_houses 17 = .ok (.aload_n 0, 1) := by decide +kernel
theorem dX4_houses_18 : decode cX4_houses 18 = .ok (.iconst 0, 1) := by decide +kernel
theorem dX4_houses_19 : decode cX4_houses 19 = .ok (.putfield 50, 3) := by decide +kernel
theorem dX4_houses_22 : decode cX4_houses 22 = .ok (.aload_n 0, 1) := by decide +kernel
theorem dX4_houses_23 : decode cX4_houses 23 = .ok (.lconst 0, 1) := by decide +kernel
theorem dX4_houses_24 : decode cX4_houses 24 = .ok (.putfield 53, 3) := by decide +kernel
theorem dX4_houses_27 : decode cX4_houses 27 = .ok (.iconst 0, 1) := by decide +kernel
theorem dX4_houses_28 : decode cX4_houses 28 = .ok (.istore_n 2, 1) := by decide +kernel
theorem dX4_houses_29 : decode cX4_houses 29 = .ok (.iload_n 2, 1) := by decide +kernel
theorem dX4_houses_30 : decode cX4_houses 30 = .ok (.bipush 20, 2) := by decide +kernel
theorem dX4_houses_32 : decode cX4_houses 32 = .ok (.if_icmp .ge 25, 3) := by decide +kernel
theorem dX4_houses_35 : decode cX4_houses 35 = .ok (.aload_n 0, 1) := by decide +kernel
theorem dX4_houses_36 : decode cX4_houses 36 = .ok (.getfield 17, 3) := by decide +kernel
theorem dX4_houses_39 : decode cX4_houses 39 = .ok (.iload_n 2, 1) := by decide +kernel
theorem dX4_houses_40 : decode cX4_houses 40 = .ok (.iconst 0, 1) := by decide +kernel
theorem dX4_houses_41 : decode cX4_houses 41 = .ok (.iastore, 1) := by decide +kernel
theorem dX4_houses_42 : decode cX4_houses 42 = .ok (.aload_n 0, 1) := by decide +kernel
theorem dX4_houses_43 : decode cX4_houses 43 = .ok (.getfield 13, 3) := by decide +kernel
theorem dX4_houses_46 : decode cX4_houses 46 = .ok (.iload_n 2, 1) := by decide +kernel
theorem dX4_houses_47 : decode cX4_houses 47 = .ok (.iconst 5, 1) := by decide +kernel
theorem dX4_houses_48 : decode cX4_houses 48 = .ok (.idiv, 1) := by decide +kernel
theorem dX4_houses_49 : decode cX4_houses 49 = .ok (.lconst 0, 1) := by decide +kernel
theorem dX4_houses_50 : decode cX4_houses 50 = .ok (.lastore, 1) := by decide +kernel
theorem dX4_houses_51 : decode cX4_houses 51 = .ok (.iinc 2 1, 3) := by decide +kernel
theorem dX4_houses_54 : decode cX4_houses 54 = .ok (.goto (-25), 3) := by decide +kernel
theorem dX4_houses_57 : decode cX4_houses 57 = .ok (.iload_n 1, 1) := by decide +kernel
theorem dX4_houses_58 : decode cX4_houses 58 = .ok (.ireturn, 1) := by decide +kernel
theorem dX4_cash_0 : decode cX4_cash 0 = .ok (.aload_n 0, 1) := by decide +kernel
theorem dX4_cash_1 : decode cX4_cash 1 = .ok (.iload_n 1, 1) := by decide +kernel
theorem dX4_cash_2 : decode cX4_cash 2 = .ok (.invokevirtual 57, 3) := by decide +kernel
theorem dX4_cash_5 : decode cX4_cash 5 = .ok (.ifCond .ne 6, 3) := by decide +kernel
theorem dX4_cash_8 : decode cX4_cash 8 = .ok (.bipush (-101), 2) := by decide +kernel
theorem dX4_cash_10 : decode cX4_cash 10 = .ok (.ireturn, 1) := by decide +kernel
theorem dX4_cash_11 : decode cX4_cash 11 = .ok (.iload_n 2, 1) := by decide +kernel
theorem dX4_cash_12 : decode cX4_cash 12 = .ok (.iconst 0, 1) := by decide +kernel
theorem dX4_cash_13 : decode cX4_cash 13 = .ok (.sipush 1000, 3) := by decide +kernel
theorem dX4_cash_16 : decode cX4_cash 16 = .ok (.invokestatic 46, 3) := by decide +kernel
theorem dX4_cash_19 : decode cX4_cash 19 = .ok (.ifCond .ne 6, 3) := by decide +kernel
theorem dX4_cash_22 : decode cX4_cash 22 = .ok (.bipush (-102), 2) := by decide +kernel
theorem dX4_cash_24 : decode cX4_cash 24 = .ok (.ireturn, 1) := by decide +kernel
theorem dX4_cash_25 : decode cX4_cash 25 = .ok (.aload_n 0, 1) := by decide +kernel
theorem dX4_cash_26 : decode cX4_cash 26 = .ok (.getfield 13, 3) := by decide +kernel
theorem dX4_cash_29 : decode cX4_cash 29 = .ok (.iload_n 1, 1) := by decide +kernel
theorem dX4_cash_30 : decode cX4_cash 30 = .ok (.laload, 1) := by decide +kernel
theorem dX4_cash_31 : decode cX4_cash 31 = .ok (.l2i, 1) := by decide +kernel
theorem dX4_cash_32 : decode cX4_cash 32 = .ok (.istore_n 3, 1) := by decide +kernel
theorem dX4_cash_33 : decode cX4_cash 33 = .ok (.aload_n 0, 1) := by decide +kernel
theorem dX4_cash_34 : decode cX4_cash 34 = .ok (.getfield 13, 3) := by decide +kernel
theorem dX4_cash_37 : decode cX4_cash 37 = .ok (.iload_n 1, 1) := by decide +kernel
theorem dX4_cash_38 : decode cX4_cash 38 = .ok (.iload_n 2, 1) := by decide +kernel
theorem dX4_cash_39 : decode cX4_cash 39 = .ok (.i2l, 1) := by decide +kernel
theorem dX4_cash_40 : decode cX4_cash 40 = .ok (.lastore, 1) := by decide +kernel
theorem dX4_cash_41 : decode cX4_cash 41 = .ok (.iload_n 3, 1) := by decide +kernel
theorem dX4_cash_42 : decode cX4_cash 42 = .ok (.ireturn, 1) := by decide +kernel
theorem dX4_owe_0 : decode cX4_owe 0 = .ok (.aload_n 0, 1) := by decide +kernel
theorem dX4_owe_1 : decode cX4_owe 1 = .ok (.iload_n 1, 1) := by decide +kernel
theorem dX4_owe_2 : decode cX4_owe 2 = .ok (.invokevirtual 57, 3) := by decide +kernel
theorem dX4_owe_5 : decode cX4_owe 5 = .ok (.ifCond .eq 15, 3) := by decide +kernel
theorem dX4_owe_8 : decode cX4_owe 8 = .ok (.iload_n 2, 1) := by decide +kernel
theorem dX4_owe_9 : decode cX4_owe 9 = .ok (.iconst 0, 1) := by decide +kernel
theorem dX4_owe_10 : decode cX4_owe 10 = .ok (.aload_n 0, 1) := by decide +kernel
theorem dX4_owe_11 : decode cX4_owe 11 = .ok (.getfield 7, 3) := by decide +kernel
theorem dX4_owe_14 : decode cX4_owe 14 = .ok (.invokestatic 46, 3) := by decide +kernel
theorem dX4_owe_17 : decode cX4_owe 17 = .ok (.ifCond .ne 6, 3) := by decide +kernel
theorem dX4_owe_20 : decode cX4_owe 20 = .ok (.bipush (-101), 2) := by decide +kernel
theorem dX4_owe_22 : decode cX4_owe 22 = .ok (.ireturn, 1) := by decide +kernel
theorem dX4_owe_23 : decode cX4_owe 23 = .ok (.iload_n 3, 1) := by decide +kernel
theorem dX4_owe_24 : decode cX4_owe 24 = .ok (.iconst 0, 1) := by decide +kernel
theorem dX4_owe_25 : decode cX4_owe 25 = .ok (.bipush 50, 2) := by decide +kernel
theorem dX4_owe_27 : decode cX4_owe 27 = .ok (.invokestatic 46, 3) := by decide +kernel
theorem dX4_owe_30 : decode cX4_owe 30 = .ok (.ifCond .eq 8, 3) := by decide +kernel
theorem dX4_owe_33 : decode cX4_owe 33 = .ok (.iload_n 1, 1) := by decide +kernel
theorem dX4_owe_34 : decode cX4_owe 34 = .ok (.iload_n 2, 1) := by decide +kernel
theorem dX4_owe_35 : decode cX4_owe 35 = .ok (.if_icmp .ne 6, 3) := by decide +kernel
theorem dX4_owe_38 : decode cX4_owe 38 = .ok (.bipush (-102), 2) := by decide +kernel
theorem dX4_owe_40 : decode cX4_owe 40 = .ok (.ireturn, 1) := by decide +kernel
theorem dX4_owe_41 : decode cX4_owe 41 = .ok (.aload_n 0, 1) := by decide +kernel
theorem dX4_owe_42 : decode cX4_owe 42 = .ok (.getfield 17, 3) := by decide +kernel
theorem dX4_owe_45 : decode cX4_owe 45 = .ok (.iconst 5, 1) := by decide +kernel
theorem dX4_owe_46 : decode cX4_owe 46 = .ok (.iload_n 1, 1) := by decide +kernel
theorem dX4_owe_47 : decode cX4_owe 47 = .ok (.imul, 1) := by decide +kernel
theorem dX4_owe_48 : decode cX4_owe 48 = .ok (.iload_n 2, 1) := by decide +kernel
theorem dX4_owe_49 : decode cX4_owe 49 = .ok (.iadd, 1) := by decide +kernel
theorem dX4_owe_50 : decode cX4_owe 50 = .ok (.iaload, 1) := by decide +kernel
theorem dX4_owe_51 : decode cX4_owe 51 = .ok (.istore 4, 2) := by decide +kernel
theorem dX4_owe_53 : decode cX4_owe 53 = .ok (.aload_n 0, 1) := by decide +kernel
theorem dX4_owe_54 : decode cX4_owe 54 = .ok (.getfield 17, 3) := by decide +kernel
theorem dX4_owe_57 : decode cX4_owe 57 = .ok (.iconst 5, 1) := by decide +kernel
theorem dX4_owe_58 : decode cX4_owe 58 = .ok (.iload_n 1, 1) := by decide +kernel
theorem dX4_owe_59 : decode cX4_owe 59 = .ok (.imul, 1) := by decide +kernel
theorem dX4_owe_60 : decode cX4_owe 60 = .ok (.iload_n 2, 1) := by decide +kernel
theorem dX4_owe_61 : decode cX4_owe 61 = .ok (.iadd, 1) := by decide +kernel
theorem dX4_owe_62 : decode cX4_owe 62 = .ok (.iload_n 3, 1) := by decide +kernel
theorem dX4_owe_63 : decode cX4_owe 63 = .ok (.iastore, 1) := by decide +kernel
theorem dX4_owe_64 : decode cX4_owe 64 = .ok (.iload 4, 2) := by decide +kernel
theorem dX4_owe_66 : decode cX4_owe 66 = .ok (.ireturn, 1) := by decide +kernel
theorem dX4_toll_0 : decode cX4_toll 0 = .ok (.iload_n 1, 1) := by decide +kernel
theorem dX4_toll_1 : decode cX4_toll 1 = .ok (.iconst 0, 1) := by decide +kernel
theorem dX4_toll_2 : decode cX4_toll 2 = .ok (.iconst 5, 1) := by decide +kernel
theorem dX4_toll_3 : decode cX4_toll 3 = .ok (.invokestatic 46, 3) := by decide +kernel
theorem dX4_toll_6 : decode cX4_toll 6 = .ok (.ifCond .ne 6, 3) := by decide +kernel
theorem dX4_toll_9 : decode cX4_toll 9 = .ok (.bipush (-102), 2) := by decide +kernel
theorem dX4_toll_11 : decode cX4_toll 11 = .ok (.ireturn, 1) := by decide +kernel
theorem dX4_toll_12 : decode cX4_toll 12 = .ok (.aload_n 0, 1) := by decide +kernel
theorem dX4_toll_13 : decode cX4_toll 13 = .ok (.getfield 50, 3) := by decide +kernel
theorem dX4_toll_16 : decode cX4_toll 16 = .ok (.istore_n 2, 1) := by decide +kernel
theorem dX4_toll_17 : decode cX4_toll 17 = .ok (.aload_n 0, 1) := by decide +kernel
theorem dX4_toll_18 : decode cX4_toll 18 = .ok (.iload_n 1, 1) := by decide +kernel
theorem dX4_toll_19 : decode cX4_toll 19 = .ok (.putfield 50, 3) := by decide +kernel
theorem dX4_toll_22 : decode cX4_toll 22 = .ok (.iload_n 2, 1) := by decide +kernel
theorem dX4_toll_23 : decode cX4_toll 23 = .ok (.ireturn, 1) := by decide +kernel
theorem dX4_cashOf_0 : decode cX4_cashOf 0 = .ok (.aload_n 0, 1) := by decide +kernel
theorem dX4_cashOf_1 : decode cX4_cashOf 1 = .ok (.iload_n 1, 1) := by decide +kernel
theorem dX4_cashOf_2 : decode cX4_cashOf 2 = .ok (.invokevirtual 57, 3) := by decide +kernel
theorem dX4_cashOf_5 : decode cX4_cashOf 5 = .ok (.ifCond .eq 13, 3) := by decide +kernel
theorem dX4_cashOf_8 : decode cX4_cashOf 8 = .ok (.aload_n 0, 1) := by decide +kernel
theorem dX4_cashOf_9 : decode cX4_cashOf 9 = .ok (.getfield 13, 3) := by decide +kernel
theorem dX4_cashOf_12 : decode cX4_cashOf 12 = .ok (.iload_n 1, 1) := by decide +kernel
theorem dX4_cashOf_13 : decode cX4_cashOf 13 = .ok (.laload, 1) := by decide +kernel
theorem dX4_cashOf_14 : decode cX4_cashOf 14 = .ok (.l2i, 1) := by decide +kernel
theorem dX4_cashOf_15 : decode cX4_cashOf 15 = .ok (.goto 5, 3) := by decide +kernel
theorem dX4_cashOf_18 : decode cX4_cashOf 18 = .ok (.bipush (-101), 2) := by decide +kernel
theorem dX4_cashOf_20 : decode cX4_cashOf 20 = .ok (.ireturn, 1) := by decide +kernel
theorem dX4_debt_0 : decode cX4_debt 0 = .ok (.aload_n 0, 1) := by decide +kernel
theorem dX4_debt_1 : decode cX4_debt 1 = .ok (.iload_n 1, 1) := by decide +kernel
theorem dX4_debt_2 : decode cX4_debt 2 = .ok (.invokevirtual 57, 3) := by decide +kernel
theorem dX4_debt_5 : decode cX4_debt 5 = .ok (.ifCond .eq 28, 3) := by decide +kernel
theorem dX4_debt_8 : decode cX4_debt 8 = .ok (.iload_n 2, 1) := by decide +kernel
theorem dX4_debt_9 : decode cX4_debt 9 = .ok (.iconst 0, 1) := by decide +kernel
theorem dX4_debt_10 : decode cX4_debt 10 = .ok (.aload_n 0, 1) := by decide +kernel
theorem dX4_debt_11 : decode cX4_debt 11 = .ok (.getfield 7, 3) := by decide +kernel
theorem dX4_debt_14 : decode cX4_debt 14 = .ok (.invokestatic 46, 3) := by decide +kernel
theorem dX4_debt_17 : decode cX4_debt 17 = .ok (.ifCond .eq 16, 3) := by decide +kernel
theorem dX4_debt_20 : decode cX4_debt 20 = .ok (.aload_n 0, 1) := by decide +kernel
theorem dX4_debt_21 : decode cX4_debt 21 = .ok (.getfield 17, 3) := by decide +kernel
theorem dX4_debt_24 : decode cX4_debt 24 = .ok (.iconst 5, 1) := by decide +kernel
theorem dX4_debt_25 : decode cX4_debt 25 = .ok (.iload_n 1, 1) := by decide +kernel
theorem dX4_debt_26 : decode cX4_debt 26 = .ok (.imul, 1) := by decide +kernel
theorem dX4_debt_27 : decode cX4_debt 27 = .ok (.iload_n 2, 1) := by decide +kernel
theorem dX4_debt_28 : decode cX4_debt 28 = .ok (.iadd, 1) := by decide +kernel
theorem dX4_debt_29 : decode cX4_debt 29 = .ok (.iaload, 1) := by decide +kernel
theorem dX4_debt_30 : decode cX4_debt 30 = .ok (.goto 5, 3) := by decide +kernel
theorem dX4_debt_33 : decode cX4_debt 33 = .ok (.bipush (-101), 2) := by decide +kernel
theorem dX4_debt_35 : decode cX4_debt 35 = .ok (.ireturn, 1) := by decide +kernel
theorem dX4_owesOf_0 : decode cX4_owesOf 0 = .ok (.iconst 0, 1) := by decide +kernel
theorem dX4_owesOf_1 : decode cX4_owesOf 1 = .ok (.istore_n 2, 1) := by decide +kernel
theorem dX4_owesOf_2 : decode cX4_owesOf 2 = .ok (.iconst 0, 1) := by decide +kernel
theorem dX4_owesOf_3 : decode cX4_owesOf 3 = .ok (.istore_n 3, 1) := by decide +kernel
theorem dX4_owesOf_4 : decode cX4_owesOf 4 = .ok (.iload_n 3, 1) := by decide +kernel
theorem dX4_owesOf_5 : decode cX4_owesOf 5 = .ok (.aload_n 0, 1) := by decide +kernel
theorem dX4_owesOf_6 : decode cX4_owesOf 6 = .ok (.getfield 7, 3) := by decide +kernel
theorem dX4_owesOf_9 : decode cX4_owesOf 9 = .ok (.if_icmp .gt 22, 3) := by decide +kernel
theorem dX4_owesOf_12 : decode cX4_owesOf 12 = .ok (.iload_n 2, 1) := by decide +kernel
theorem dX4_owesOf_13 : decode cX4_owesOf 13 = .ok (.aload_n 0, 1) := by decide +kernel
theorem dX4_owesOf_14 : decode cX4_owesOf 14 = .ok (.getfield 17, 3) := by decide +kernel
theorem dX4_owesOf_17 : decode cX4_owesOf 17 = .ok (.iconst 5, 1) := by decide +kernel
theorem dX4_owesOf_18 : decode cX4_owesOf 18 = .ok (.iload_n 1, 1) := by decide +kernel
theorem dX4_owesOf_19 : decode cX4_owesOf 19 = .ok (.imul, 1) := by decide +kernel
theorem dX4_owesOf_20 : decode cX4_owesOf 20 = .ok (.iload_n 3, 1) := by decide +kernel
theorem dX4_owesOf_21 : decode cX4_owesOf 21 = .ok (.iadd, 1) := by decide +kernel
theorem dX4_owesOf_22 : decode cX4_owesOf 22 = .ok (.iaload, 1) := by decide +kernel
theorem dX4_owesOf_23 : decode cX4_owesOf 23 = .ok (.iadd, 1) := by decide +kernel
theorem dX4_owesOf_24 : decode cX4_owesOf 24 = .ok (.istore_n 2, 1) := by decide +kernel
theorem dX4_owesOf_25 : decode cX4_owesOf 25 = .ok (.iinc 3 1, 3) := by decide +kernel
theorem dX4_owesOf_28 : decode cX4_owesOf 28 = .ok (.goto (-24), 3) := by decide +kernel
theorem dX4_owesOf_31 : decode cX4_owesOf 31 = .ok (.iload_n 2, 1) := by decide +kernel
theorem dX4_owesOf_32 : decode cX4_owesOf 32 = .ok (.ireturn, 1) := by decide +kernel
theorem dX4_owes_0 : decode cX4_owes 0 = .ok (.aload_n 0, 1) := by decide +kernel
theorem dX4_owes_1 : decode cX4_owes 1 = .ok (.iload_n 1, 1) := by decide +kernel
theorem dX4_owes_2 : decode cX4_owes 2 = .ok (.invokevirtual 57, 3) := by decide +kernel
theorem dX4_owes_5 : decode cX4_owes 5 = .ok (.ifCond .eq 11, 3) := by decide +kernel
theorem dX4_owes_8 : decode cX4_owes 8 = .ok (.aload_n 0, 1) := by decide +kernel
theorem dX4_owes_9 : decode cX4_owes 9 = .ok (.iload_n 1, 1) := by decide +kernel
theorem dX4_owes_10 : decode cX4_owes 10 = .ok (.invokevirtual 61, 3) := by decide +kernel
theorem dX4_owes_13 : decode cX4_owes 13 = .ok (.goto 5, 3) := by decide +kernel
theorem dX4_owes_16 : decode cX4_owes 16 = .ok (.bipush (-101), 2) := by decide +kernel
theorem dX4_owes_18 : decode cX4_owes 18 = .ok (.ireturn, 1) := by decide +kernel
theorem dX4_pair_0 : decode cX4_pair 0 = .ok (.aload_n 0, 1) := by decide +kernel
theorem dX4_pair_1 : decode cX4_pair 1 = .ok (.getfield 33, 3) := by decide +kernel
theorem dX4_pair_4 : decode cX4_pair 4 = .ok (.iconst 4, 1) := by decide +kernel
theorem dX4_pair_5 : decode cX4_pair 5 = .ok (.iload_n 1, 1) := by decide +kernel
theorem dX4_pair_6 : decode cX4_pair 6 = .ok (.imul, 1) := by decide +kernel
theorem dX4_pair_7 : decode cX4_pair 7 = .ok (.iload_n 2, 1) := by decide +kernel
theorem dX4_pair_8 : decode cX4_pair 8 = .ok (.iadd, 1) := by decide +kernel
theorem dX4_pair_9 : decode cX4_pair 9 = .ok (.laload, 1) := by decide +kernel
theorem dX4_pair_10 : decode cX4_pair 10 = .ok (.aload_n 0, 1) := by decide +kernel
theorem dX4_pair_11 : decode cX4_pair 11 = .ok (.getfield 33, 3) := by decide +kernel
theorem dX4_pair_14 : decode cX4_pair 14 = .ok (.iconst 4, 1) := by decide +kernel
theorem dX4_pair_15 : decode cX4_pair 15 = .ok (.iload_n 1, 1) := by decide +kernel
theorem dX4_pair_16 : decode cX4_pair 16 = .ok (.imul, 1) := by decide +kernel
theorem dX4_pair_17 : decode cX4_pair 17 = .ok (.iconst 4, 1) := by decide +kernel
theorem dX4_pair_18 : decode cX4_pair 18 = .ok (.iadd, 1) := by decide +kernel
theorem dX4_pair_19 : decode cX4_pair 19 = .ok (.iload_n 3, 1) := by decide +kernel
theorem dX4_pair_20 : decode cX4_pair 20 = .ok (.iadd, 1) := by decide +kernel
theorem dX4_pair_21 : decode cX4_pair 21 = .ok (.laload, 1) := by decide +kernel
theorem dX4_pair_22 : decode cX4_pair 22 = .ok (.lmul, 1) := by decide +kernel
theorem dX4_pair_23 : decode cX4_pair 23 = .ok (.aload_n 0, 1) := by decide +kernel
theorem dX4_pair_24 : decode cX4_pair 24 = .ok (.getfield 33, 3) := by decide +kernel
theorem dX4_pair_27 : decode cX4_pair 27 = .ok (.iconst 4, 1) := by decide +kernel
theorem dX4_pair_28 : decode cX4_pair 28 = .ok (.iload_n 1, 1) := by decide +kernel
theorem dX4_pair_29 : decode cX4_pair 29 = .ok (.imul, 1) := by decide +kernel
theorem dX4_pair_30 : decode cX4_pair 30 = .ok (.iload_n 3, 1) := by decide +kernel
theorem dX4_pair_31 : decode cX4_pair 31 = .ok (.iadd, 1) := by decide +kernel
theorem dX4_pair_32 : decode cX4_pair 32 = .ok (.laload, 1) := by decide +kernel
theorem dX4_pair_33 : decode cX4_pair 33 = .ok (.aload_n 0, 1) := by decide +kernel
theorem dX4_pair_34 : decode cX4_pair 34 = .ok (.getfield 33, 3) := by decide +kernel
theorem dX4_pair_37 : decode cX4_pair 37 = .ok (.iconst 4, 1) := by decide +kernel
theorem dX4_pair_38 : decode cX4_pair 38 = .ok (.iload_n 1, 1) := by decide +kernel
theorem dX4_pair_39 : decode cX4_pair 39 = .ok (.imul, 1) := by decide +kernel
theorem dX4_pair_40 : decode cX4_pair 40 = .ok (.iconst 4, 1) := by decide +kernel
theorem dX4_pair_41 : decode cX4_pair 41 = .ok (.iadd, 1) := by decide +kernel
theorem dX4_pair_42 : decode cX4_pair 42 = .ok (.iload_n 2, 1) := by decide +kernel
theorem dX4_pair_43 : decode cX4_pair 43 = .ok (.iadd, 1) := by decide +kernel
theorem dX4_pair_44 : decode cX4_pair 44 = .ok (.laload, 1) := by decide +kernel
theorem dX4_pair_45 : decode cX4_pair 45 = .ok (.lmul, 1) := by decide +kernel
theorem dX4_pair_46 : decode cX4_pair 46 = .ok (.lsub, 1) := by decide +kernel
theorem dX4_pair_47 : decode cX4_pair 47 = .ok (.lreturn, 1) := by decide +kernel
theorem dX4_worth_0 : decode cX4_worth 0 = .ok (.iconst 0, 1) := by decide +kernel
theorem dX4_worth_1 : decode cX4_worth 1 = .ok (.istore_n 2, 1) := by decide +kernel
theorem dX4_worth_2 : decode cX4_worth 2 = .ok (.iload_n 2, 1) := by decide +kernel
theorem dX4_worth_3 : decode cX4_worth 3 = .ok (.bipush 16, 2) := by decide +kernel
theorem dX4_worth_5 : decode cX4_worth 5 = .ok (.if_icmp .ge 39, 3) := by decide +kernel
theorem dX4_worth_8 : decode cX4_worth 8 = .ok (.aload_n 0, 1) := by decide +kernel
theorem dX4_worth_9 : decode cX4_worth 9 = .ok (.getfield 33, 3) := by decide +kernel
theorem dX4_worth_12 : decode cX4_worth 12 = .ok (.iload_n 2, 1) := by decide +kernel
theorem dX4_worth_13 : decode cX4_worth 13 = .ok (.iload_n 2, 1) := by decide +kernel
theorem dX4_worth_14 : decode cX4_worth 14 = .ok (.iconst 4, 1) := by decide +kernel
theorem dX4_worth_15 : decode cX4_worth 15 = .ok (.irem, 1) := by decide +kernel
theorem dX4_worth_16 : decode cX4_worth 16 = .ok (.iload_n 1, 1) := by decide +kernel
theorem dX4_worth_17 : decode cX4_worth 17 = .ok (.if_icmp .ne 14, 3) := by decide +kernel
theorem dX4_worth_20 : decode cX4_worth 20 = .ok (.aload_n 0, 1) := by decide +kernel
theorem dX4_worth_21 : decode cX4_worth 21 = .ok (.getfield 30, 3) := by decide +kernel
theorem dX4_worth_24 : decode cX4_worth 24 = .ok (.iload_n 2, 1) := by decide +kernel
theorem dX4_worth_25 : decode cX4_worth 25 = .ok (.iconst 4, 1) := by decide +kernel
theorem dX4_worth_26 : decode cX4_worth 26 = .ok (.idiv, 1) := by decide +kernel
theorem dX4_worth_27 : decode cX4_worth 27 = .ok (.laload, 1) := by decide +kernel
theorem dX4_worth_28 : decode cX4_worth 28 = .ok (.goto 9, 3) := by decide +kernel
theorem dX4_worth_31 : decode cX4_worth 31 = .ok (.aload_n 0, 1) := by decide +kernel
theorem dX4_worth_32 : decode cX4_worth 32 = .ok (.getfield 27, 3) := by decide +kernel
theorem dX4_worth_35 : decode cX4_worth 35 = .ok (.iload_n 2, 1) := by decide +kernel
theorem dX4_worth_36 : decode cX4_worth 36 = .ok (.laload, 1) := by decide +kernel
theorem dX4_worth_37 : decode cX4_worth 37 = .ok (.lastore, 1) := by decide +kernel
theorem dX4_worth_38 : decode cX4_worth 38 = .ok (.iinc 2 1, 3) := by decide +kernel
theorem dX4_worth_41 : decode cX4_worth 41 = .ok (.goto (-39), 3) := by decide +kernel
theorem dX4_worth_44 : decode cX4_worth 44 = .ok (.aload_n 0, 1) := by decide +kernel
theorem dX4_worth_45 : decode cX4_worth 45 = .ok (.iconst 0, 1) := by decide +kernel
theorem dX4_worth_46 : decode cX4_worth 46 = .ok (.iconst 0, 1) := by decide +kernel
theorem dX4_worth_47 : decode cX4_worth 47 = .ok (.iconst 1, 1) := by decide +kernel
theorem dX4_worth_48 : decode cX4_worth 48 = .ok (.invokevirtual 65, 3) := by decide +kernel
theorem dX4_worth_51 : decode cX4_worth 51 = .ok (.aload_n 0, 1) := by decide +kernel
theorem dX4_worth_52 : decode cX4_worth 52 = .ok (.iconst 2, 1) := by decide +kernel
theorem dX4_worth_53 : decode cX4_worth 53 = .ok (.iconst 2, 1) := by decide +kernel
theorem dX4_worth_54 : decode cX4_worth 54 = .ok (.iconst 3, 1) := by decide +kernel
theorem dX4_worth_55 : decode cX4_worth 55 = .ok (.invokevirtual 65, 3) := by decide +kernel
theorem dX4_worth_58 : decode cX4_worth 58 = .ok (.lmul, 1) := by decide +kernel
theorem dX4_worth_59 : decode cX4_worth 59 = .ok (.aload_n 0, 1) := by decide +kernel
theorem dX4_worth_60 : decode cX4_worth 60 = .ok (.iconst 0, 1) := by decide +kernel
theorem dX4_worth_61 : decode cX4_worth 61 = .ok (.iconst 0, 1) := by decide +kernel
theorem dX4_worth_62 : decode cX4_worth 62 = .ok (.iconst 2, 1) := by decide +kernel
theorem dX4_worth_63 : decode cX4_worth 63 = .ok (.invokevirtual 65, 3) := by decide +kernel
theorem dX4_worth_66 : decode cX4_worth 66 = .ok (.aload_n 0, 1) := by decide +kernel
theorem dX4_worth_67 : decode cX4_worth 67 = .ok (.iconst 2, 1) := by decide +kernel
theorem dX4_worth_68 : decode cX4_worth 68 = .ok (.iconst 1, 1) := by decide +kernel
theorem dX4_worth_69 : decode cX4_worth 69 = .ok (.iconst 3, 1) := by decide +kernel
theorem dX4_worth_70 : decode cX4_worth 70 = .ok (.invokevirtual 65, 3) := by decide +kernel
theorem dX4_worth_73 : decode cX4_worth 73 = .ok (.lmul, 1) := by decide +kernel
theorem dX4_worth_74 : decode cX4_worth 74 = .ok (.lsub, 1) := by decide +kernel
theorem dX4_worth_75 : decode cX4_worth 75 = .ok (.aload_n 0, 1) := by decide +kernel
theorem dX4_worth_76 : decode cX4_worth 76 = .ok (.iconst 0, 1) := by decide +kernel
theorem dX4_worth_77 : decode cX4_worth 77 = .ok (.iconst 0, 1) := by decide +kernel
theorem dX4_worth_78 : decode cX4_worth 78 = .ok (.iconst 3, 1) := by decide +kernel
theorem dX4_worth_79 : decode cX4_worth 79 = .ok (.invokevirtual 65, 3) := by decide +kernel
theorem dX4_worth_82 : decode cX4_worth 82 = .ok (.aload_n 0, 1) := by decide +kernel
theorem dX4_worth_83 : decode cX4_worth 83 = .ok (.iconst 2, 1) := by decide +kernel
theorem dX4_worth_84 : decode cX4_worth 84 = .ok (.iconst 1, 1) := by decide +kernel
theorem dX4_worth_85 : decode cX4_worth 85 = .ok (.iconst 2, 1) := by decide +kernel
theorem dX4_worth_86 : decode cX4_worth 86 = .ok (.invokevirtual 65, 3) := by decide +kernel
theorem dX4_worth_89 : decode cX4_worth 89 = .ok (.lmul, 1) := by decide +kernel
theorem dX4_worth_90 : decode cX4_worth 90 = .ok (.ladd, 1) := by decide +kernel
theorem dX4_worth_91 : decode cX4_worth 91 = .ok (.lstore_n 2, 1) := by decide +kernel
theorem dX4_worth_92 : decode cX4_worth 92 = .ok (.lload_n 2, 1) := by decide +kernel
theorem dX4_worth_93 : decode cX4_worth 93 = .ok (.aload_n 0, 1) := by decide +kernel
theorem dX4_worth_94 : decode cX4_worth 94 = .ok (.iconst 0, 1) := by decide +kernel
theorem dX4_worth_95 : decode cX4_worth 95 = .ok (.iconst 1, 1) := by decide +kernel
theorem dX4_worth_96 : decode cX4_worth 96 = .ok (.iconst 2, 1) := by decide +kernel
theorem dX4_worth_97 : decode cX4_worth 97 = .ok (.invokevirtual 65, 3) := by decide +kernel
theorem dX4_worth_100 : decode cX4_worth 100 = .ok (.aload_n 0, 1) := by decide +kernel
theorem dX4_worth_101 : decode cX4_worth 101 = .ok (.iconst 2, 1) := by decide +kernel
theorem dX4_worth_102 : decode cX4_worth 102 = .ok (.iconst 0, 1) := by decide +kernel
theorem dX4_worth_103 : decode cX4_worth 103 = .ok (.iconst 3, 1) := by decide +kernel
theorem dX4_worth_104 : decode cX4_worth 104 = .ok (.invokevirtual 65, 3) := by decide +kernel
theorem dX4_worth_107 : decode cX4_worth 107 = .ok (.lmul, 1) := by decide +kernel
theorem dX4_worth_108 : decode cX4_worth 108 = .ok (.ladd, 1) := by decide +kernel
theorem dX4_worth_109 : decode cX4_worth 109 = .ok (.aload_n 0, 1) := by decide +kernel
theorem dX4_worth_110 : decode cX4_worth 110 = .ok (.iconst 0, 1) := by decide +kernel
theorem dX4_worth_111 : decode cX4_worth 111 = .ok (.iconst 1, 1) := by decide +kernel
theorem dX4_worth_112 : decode cX4_worth 112 = .ok (.iconst 3, 1) := by decide +kernel
theorem dX4_worth_113 : decode cX4_worth 113 = .ok (.invokevirtual 65, 3) := by decide +kernel
theorem dX4_worth_116 : decode cX4_worth 116 = .ok (.aload_n 0, 1) := by decide +kernel
theorem dX4_worth_117 : decode cX4_worth 117 = .ok (.iconst 2, 1) := by decide +kernel
theorem dX4_worth_118 : decode cX4_worth 118 = .ok (.iconst 0, 1) := by decide +kernel
theorem dX4_worth_119 : decode cX4_worth 119 = .ok (.iconst 2, 1) := by decide +kernel
theorem dX4_worth_120 : decode cX4_worth 120 = .ok (.invokevirtual 65, 3) := by decide +kernel
theorem dX4_worth_123 : decode cX4_worth 123 = .ok (.lmul, 1) := by decide +kernel
theorem dX4_worth_124 : decode cX4_worth 124 = .ok (.lsub, 1) := by decide +kernel
theorem dX4_worth_125 : decode cX4_worth 125 = .ok (.aload_n 0, 1) := by decide +kernel
theorem dX4_worth_126 : decode cX4_worth 126 = .ok (.iconst 0, 1) := by decide +kernel
theorem dX4_worth_127 : decode cX4_worth 127 = .ok (.iconst 2, 1) := by decide +kernel
theorem dX4_worth_128 : decode cX4_worth 128 = .ok (.iconst 3, 1) := by decide +kernel
theorem dX4_worth_129 : decode cX4_worth 129 = .ok (.invokevirtual 65, 3) := by decide +kernel
theorem dX4_worth_132 : decode cX4_worth 132 = .ok (.aload_n 0, 1) := by decide +kernel
theorem dX4_worth_133 : decode cX4_worth 133 = .ok (.iconst 2, 1) := by decide +kernel
theorem dX4_worth_134 : decode cX4_worth 134 = .ok (.iconst 0, 1) := by decide +kernel
theorem dX4_worth_135 : decode cX4_worth 135 = .ok (.iconst 1, 1) := by decide +kernel
theorem dX4_worth_136 : decode cX4_worth 136 = .ok (.invokevirtual 65, 3) := by decide +kernel
theorem dX4_worth_139 : decode cX4_worth 139 = .ok (.lmul, 1) := by decide +kernel
theorem dX4_worth_140 : decode cX4_worth 140 = .ok (.ladd, 1) := by decide +kernel
theorem dX4_worth_141 : decode cX4_worth 141 = .ok (.lreturn, 1) := by decide +kernel
theorem dX4_solve_0 : decode cX4_solve 0 = .ok (.iconst 0, 1) := by decide +kernel
theorem dX4_solve_1 : decode cX4_solve 1 = .ok (.istore_n 1, 1) := by decide +kernel
theorem dX4_solve_2 : decode cX4_solve 2 = .ok (.iload_n 1, 1) := by decide +kernel
theorem dX4_solve_3 : decode cX4_solve 3 = .ok (.iconst 4, 1) := by decide +kernel
theorem dX4_solve_4 : decode cX4_solve 4 = .ok (.if_icmp .ge 160, 3) := by decide +kernel
theorem dX4_solve_7 : decode cX4_solve 7 = .ok (.iload_n 1, 1) := by decide +kernel
theorem dX4_solve_8 : decode cX4_solve 8 = .ok (.aload_n 0, 1) := by decide +kernel
theorem dX4_solve_9 : decode cX4_solve 9 = .ok (.getfield 7, 3) := by decide +kernel
theorem dX4_solve_12 : decode cX4_solve 12 = .ok (.if_icmp .ge 16, 3) := by decide +kernel
theorem dX4_solve_15 : decode cX4_solve 15 = .ok (.aload_n 0, 1) := by decide +kernel
theorem dX4_solve_16 : decode cX4_solve 16 = .ok (.getfield 21, 3) := by decide +kernel
theorem dX4_solve_19 : decode cX4_solve 19 = .ok (.iload_n 1, 1) := by decide +kernel
theorem dX4_solve_20 : decode cX4_solve 20 = .ok (.iaload, 1) := by decide +kernel
theorem dX4_solve_21 : decode cX4_solve 21 = .ok (.ifCond .le 7, 3) := by decide +kernel
theorem dX4_solve_24 : decode cX4_solve 24 = .ok (.iconst 1, 1) := by decide +kernel
theorem dX4_solve_25 : decode cX4_solve 25 = .ok (.goto 4, 3) := by decide +kernel
theorem dX4_solve_28 : decode cX4_solve 28 = .ok (.iconst 0, 1) := by decide +kernel
theorem dX4_solve_29 : decode cX4_solve 29 = .ok (.istore_n 2, 1) := by decide +kernel
theorem dX4_solve_30 : decode cX4_solve 30 = .ok (.aload_n 0, 1) := by decide +kernel
theorem dX4_solve_31 : decode cX4_solve 31 = .ok (.getfield 30, 3) := by decide +kernel
theorem dX4_solve_34 : decode cX4_solve 34 = .ok (.iload_n 1, 1) := by decide +kernel
theorem dX4_solve_35 : decode cX4_solve 35 = .ok (.iload_n 2, 1) := by decide +kernel
theorem dX4_solve_36 : decode cX4_solve 36 = .ok (.ifCond .eq 21, 3) := by decide +kernel
theorem dX4_solve_39 : decode cX4_solve 39 = .ok (.bipush 10, 2) := by decide +kernel
theorem dX4_solve_41 : decode cX4_solve 41 = .ok (.aload_n 0, 1) := by decide +kernel
theorem dX4_solve_42 : decode cX4_solve 42 = .ok (.getfield 50, 3) := by decide +kernel
theorem dX4_solve_45 : decode cX4_solve 45 = .ok (.isub, 1) := by decide +kernel
theorem dX4_solve_46 : decode cX4_solve 46 = .ok (.i2l, 1) := by decide +kernel
theorem dX4_solve_47 : decode cX4_solve 47 = .ok (.aload_n 0, 1) := by decide +kernel
theorem dX4_solve_48 : decode cX4_solve 48 = .ok (.getfield 13, 3) := by decide +kernel
theorem dX4_solve_51 : decode cX4_solve 51 = .ok (.iload_n 1, 1) := by decide +kernel
theorem dX4_solve_52 : decode cX4_solve 52 = .ok (.laload, 1) := by decide +kernel
theorem dX4_solve_53 : decode cX4_solve 53 = .ok (.lmul, 1) := by decide +kernel
theorem dX4_solve_54 : decode cX4_solve 54 = .ok (.goto 4, 3) := by decide +kernel
theorem dX4_solve_57 : decode cX4_solve 57 = .ok (.lconst 1, 1) := by decide +kernel
theorem dX4_solve_58 : decode cX4_solve 58 = .ok (.lastore, 1) := by decide +kernel
theorem dX4_solve_59 : decode cX4_solve 59 = .ok (.iconst 0, 1) := by decide +kernel
theorem dX4_solve_60 : decode cX4_solve 60 = .ok (.istore_n 3, 1) := by decide +kernel
theorem dX4_solve_61 : decode cX4_solve 61 = .ok (.iload_n 3, 1) := by decide +kernel
theorem dX4_solve_62 : decode cX4_solve 62 = .ok (.iconst 4, 1) := by decide +kernel
theorem dX4_solve_63 : decode cX4_solve 63 = .ok (.if_icmp .ge 95, 3) := by decide +kernel
theorem dX4_solve_66 : decode cX4_solve 66 = .ok (.iload_n 2, 1) := by decide +kernel
theorem dX4_solve_67 : decode cX4_solve 67 = .ok (.ifCond .eq 25, 3) := by decide +kernel
theorem dX4_solve_70 : decode cX4_solve 70 = .ok (.iload_n 3, 1) := by decide +kernel
theorem dX4_solve_71 : decode cX4_solve 71 = .ok (.aload_n 0, 1) := by decide +kernel
theorem dX4_solve_72 : decode cX4_solve 72 = .ok (.getfield 7, 3) := by decide +kernel
theorem dX4_solve_75 : decode cX4_solve 75 = .ok (.if_icmp .ge 17, 3) := by decide +kernel
theorem dX4_solve_78 : decode cX4_solve 78 = .ok (.aload_n 0, 1) := by decide +kernel
theorem dX4_solve_79 : decode cX4_solve 79 = .ok (.getfield 17, 3) := by decide +kernel
theorem dX4_solve_82 : decode cX4_solve 82 = .ok (.iconst 5, 1) := by decide +kernel
theorem dX4_solve_83 : decode cX4_solve 83 = .ok (.iload_n 3, 1) := by decide +kernel
theorem dX4_solve_84 : decode cX4_solve 84 = .ok (.imul, 1) := by decide +kernel
theorem dX4_solve_85 : decode cX4_solve 85 = .ok (.iload_n 1, 1) := by decide +kernel
theorem dX4_solve_86 : decode cX4_solve 86 = .ok (.iadd, 1) := by decide +kernel
theorem dX4_solve_87 : decode cX4_solve 87 = .ok (.iaload, 1) := by decide +kernel
theorem dX4_solve_88 : decode cX4_solve 88 = .ok (.i2l, 1) := by decide +kernel
theorem dX4_solve_89 : decode cX4_solve 89 = .ok (.goto 4, 3) := by decide +kernel
theorem dX4_solve_92 : decode cX4_solve 92 = .ok (.lconst 0, 1) := by decide +kernel
theorem dX4_solve_93 : decode cX4_solve 93 = .ok (.lstore 4, 2) := by decide +kernel
theorem dX4_solve_95 : decode cX4_solve 95 = .ok (.aload_n 0, 1) := by decide +kernel
theorem dX4_solve_96 : decode cX4_solve 96 = .ok (.getfield 27, 3) := by decide +kernel
theorem dX4_solve_99 : decode cX4_solve 99 = .ok (.iconst 4, 1) := by decide +kernel
theorem dX4_solve_100 : decode cX4_solve 100 = .ok (.iload_n 1, 1) := by decide +kernel
theorem dX4_solve_101 : decode cX4_solve 101 = .ok (.imul, 1) := by decide +kernel
theorem dX4_solve_102 : decode cX4_solve 102 = .ok (.iload_n 3, 1) := by decide +kernel
theorem dX4_solve_103 : decode cX4_solve 103 = .ok (.iadd, 1) := by decide +kernel
theorem dX4_solve_104 : decode cX4_solve 104 = .ok (.iload_n 3, 1) := by decide +kernel
theorem dX4_solve_105 : decode cX4_solve 105 = .ok (.iload_n 1, 1) := by decide +kernel
theorem dX4_solve_106 : decode cX4_solve 106 = .ok (.if_icmp .ne 24, 3) := by decide +kernel
theorem dX4_solve_109 : decode cX4_solve 109 = .ok (.iload_n 2, 1) := by decide +kernel
theorem dX4_solve_110 : decode cX4_solve 110 = .ok (.ifCond .eq 16, 3) := by decide +kernel
theorem dX4_solve_113 : decode cX4_solve 113 = .ok (.ldc2_w 69, 3) := by decide +kernel
theorem dX4_solve_116 : decode cX4_solve 116 = .ok (.aload_n 0, 1) := by decide +kernel
theorem dX4_solve_117 : decode cX4_solve 117 = .ok (.iload_n 1, 1) := by decide +kernel
theorem dX4_solve_118 : decode cX4_solve 118 = .ok (.invokevirtual 61, 3) := by decide +kernel
theorem dX4_solve_121 : decode cX4_solve 121 = .ok (.i2l, 1) := by decide +kernel
theorem dX4_solve_122 : decode cX4_solve 122 = .ok (.lmul, 1) := by decide +kernel
theorem dX4_solve_123 : decode cX4_solve 123 = .ok (.goto 8, 3) := by decide +kernel
theorem dX4_solve_126 : decode cX4_solve 126 = .ok (.lconst 1, 1) := by decide +kernel
theorem dX4_solve_127 : decode cX4_solve 127 = .ok (.goto 4, 3) := by decide +kernel
theorem dX4_solve_130 : decode cX4_solve 130 = .ok (.lconst 0, 1) := by decide +kernel
theorem dX4_solve_131 : decode cX4_solve 131 = .ok (.iload_n 2, 1) := by decide +kernel
theorem dX4_solve_132 : decode cX4_solve 132 = .ok (.ifCond .eq 17, 3) := by decide +kernel
theorem dX4_solve_135 : decode cX4_solve 135 = .ok (.bipush 10, 2) := by decide +kernel
theorem dX4_solve_137 : decode cX4_solve 137 = .ok (.aload_n 0, 1) := by decide +kernel
theorem dX4_solve_138 : decode cX4_solve 138 = .ok (.getfield 50, 3) := by decide +kernel
theorem dX4_solve_141 : decode cX4_solve 141 = .ok (.isub, 1) := by decide +kernel
theorem dX4_solve_142 : decode cX4_solve 142 = .ok (.i2l, 1) := by decide +kernel
theorem dX4_solve_143 : decode cX4_solve 143 = .ok (.lload 4, 2) := by decide +kernel
theorem dX4_solve_145 : decode cX4_solve 145 = .ok (.lmul, 1) := by decide +kernel
theorem dX4_solve_146 : decode cX4_solve 146 = .ok (.goto 4, 3) := by decide +kernel
theorem dX4_solve_149 : decode cX4_solve 149 = .ok (.lconst 0, 1) := by decide +kernel
theorem dX4_solve_150 : decode cX4_solve 150 = .ok (.lsub, 1) := by decide +kernel
theorem dX4_solve_151 : decode cX4_solve 151 = .ok (.lastore, 1) := by decide +kernel
theorem dX4_solve_152 : decode cX4_solve 152 = .ok (.iinc 3 1, 3) := by decide +kernel
theorem dX4_solve_155 : decode cX4_solve 155 = .ok (.goto (-94), 3) := by decide +kernel
theorem dX4_solve_158 : decode cX4_solve 158 = .ok (.iinc 1 1, 3) := by decide +kernel
theorem dX4_solve_161 : decode cX4_solve 161 = .ok (.goto (-159), 3) := by decide +kernel
theorem dX4_solve_164 : decode cX4_solve 164 = .ok (.aload_n 0, 1) := by decide +kernel
theorem dX4_solve_165 : decode cX4_solve 165 = .ok (.aload_n 0, 1) := by decide +kernel
theorem dX4_solve_166 : decode cX4_solve 166 = .ok (.iconst (-1), 1) := by decide +kernel
theorem dX4_solve_167 : decode cX4_solve 167 = .ok (.invokevirtual 71, 3) := by decide +kernel
theorem dX4_solve_170 : decode cX4_solve 170 = .ok (.putfield 75, 3) := by decide +kernel
theorem dX4_solve_173 : decode cX4_solve 173 = .ok (.iconst 0, 1) := by decide +kernel
theorem dX4_solve_174 : decode cX4_solve 174 = .ok (.istore_n 1, 1) := by decide +kernel
theorem dX4_solve_175 : decode cX4_solve 175 = .ok (.iload_n 1, 1) := by decide +kernel
theorem dX4_solve_176 : decode cX4_solve 176 = .ok (.iconst 4, 1) := by decide +kernel
theorem dX4_solve_177 : decode cX4_solve 177 = .ok (.if_icmp .ge 20, 3) := by decide +kernel
theorem dX4_solve_180 : decode cX4_solve 180 = .ok (.aload_n 0, 1) := by decide +kernel
theorem dX4_solve_181 : decode cX4_solve 181 = .ok (.getfield 24, 3) := by decide +kernel
theorem dX4_solve_184 : decode cX4_solve 184 = .ok (.iload_n 1, 1) := by decide +kernel
theorem dX4_solve_185 : decode cX4_solve 185 = .ok (.aload_n 0, 1) := by decide +kernel
theorem dX4_solve_186 : decode cX4_solve 186 = .ok (.iload_n 1, 1) := by decide +kernel
theorem dX4_solve_187 : decode cX4_solve 187 = .ok (.invokevirtual 71, 3) := by decide +kernel
theorem dX4_solve_190 : decode cX4_solve 190 = .ok (.lastore, 1) := by decide +kernel
theorem dX4_solve_191 : decode cX4_solve 191 = .ok (.iinc 1 1, 3) := by decide +kernel
theorem dX4_solve_194 : decode cX4_solve 194 = .ok (.goto (-19), 3) := by decide +kernel
theorem dX4_solve_197 : decode cX4_solve 197 = .ok (.return_, 1) := by decide +kernel
theorem dX4_grossOf_0 : decode cX4_grossOf 0 = .ok (.aload_n 0, 1) := by decide +kernel
theorem dX4_grossOf_1 : decode cX4_grossOf 1 = .ok (.getfield 13, 3) := by decide +kernel
theorem dX4_grossOf_4 : decode cX4_grossOf 4 = .ok (.iload_n 1, 1) := by decide +kernel
theorem dX4_grossOf_5 : decode cX4_grossOf 5 = .ok (.laload, 1) := by decide +kernel
theorem dX4_grossOf_6 : decode cX4_grossOf 6 = .ok (.aload_n 0, 1) := by decide +kernel
theorem dX4_grossOf_7 : decode cX4_grossOf 7 = .ok (.getfield 75, 3) := by decide +kernel
theorem dX4_grossOf_10 : decode cX4_grossOf 10 = .ok (.lmul, 1) := by decide +kernel
theorem dX4_grossOf_11 : decode cX4_grossOf 11 = .ok (.lstore_n 2, 1) := by decide +kernel
theorem dX4_grossOf_12 : decode cX4_grossOf 12 = .ok (.iconst 0, 1) := by decide +kernel
theorem dX4_grossOf_13 : decode cX4_grossOf 13 = .ok (.istore 4, 2) := by decide +kernel
theorem dX4_grossOf_15 : decode cX4_grossOf 15 = .ok (.iload 4, 2) := by decide +kernel
theorem dX4_grossOf_17 : decode cX4_grossOf 17 = .ok (.aload_n 0, 1) := by decide +kernel
theorem dX4_grossOf_18 : decode cX4_grossOf 18 = .ok (.getfield 7, 3) := by decide +kernel
theorem dX4_grossOf_21 : decode cX4_grossOf 21 = .ok (.if_icmp .ge 32, 3) := by decide +kernel
theorem dX4_grossOf_24 : decode cX4_grossOf 24 = .ok (.lload_n 2, 1) := by decide +kernel
theorem dX4_grossOf_25 : decode cX4_grossOf 25 = .ok (.aload_n 0, 1) := by decide +kernel
theorem dX4_grossOf_26 : decode cX4_grossOf 26 = .ok (.getfield 24, 3) := by decide +kernel
theorem dX4_grossOf_29 : decode cX4_grossOf 29 = .ok (.iload 4, 2) := by decide +kernel
theorem dX4_grossOf_31 : decode cX4_grossOf 31 = .ok (.laload, 1) := by decide +kernel
theorem dX4_grossOf_32 : decode cX4_grossOf 32 = .ok (.aload_n 0, 1) := by decide +kernel
theorem dX4_grossOf_33 : decode cX4_grossOf 33 = .ok (.getfield 17, 3) := by decide +kernel
theorem dX4_grossOf_36 : decode cX4_grossOf 36 = .ok (.iconst 5, 1) := by decide +kernel
theorem dX4_grossOf_37 : decode cX4_grossOf 37 = .ok (.iload 4, 2) := by decide +kernel
theorem dX4_grossOf_39 : decode cX4_grossOf 39 = .ok (.imul, 1) := by decide +kernel
theorem dX4_grossOf_40 : decode cX4_grossOf 40 = .ok (.iload_n 1, 1) := by decide +kernel
theorem dX4_grossOf_41 : decode cX4_grossOf 41 = .ok (.iadd, 1) := by decide +kernel
theorem dX4_grossOf_42 : decode cX4_grossOf 42 = .ok (.iaload, 1) := by decide +kernel
theorem dX4_grossOf_43 : decode cX4_grossOf 43 = .ok (.i2l, 1) := by decide +kernel
theorem dX4_grossOf_44 : decode cX4_grossOf 44 = .ok (.lmul, 1) := by decide +kernel
theorem dX4_grossOf_45 : decode cX4_grossOf 45 = .ok (.ladd, 1) := by decide +kernel
theorem dX4_grossOf_46 : decode cX4_grossOf 46 = .ok (.lstore_n 2, 1) := by decide +kernel
theorem dX4_grossOf_47 : decode cX4_grossOf 47 = .ok (.iinc 4 1, 3) := by decide +kernel
theorem dX4_grossOf_50 : decode cX4_grossOf 50 = .ok (.goto (-35), 3) := by decide +kernel
theorem dX4_grossOf_53 : decode cX4_grossOf 53 = .ok (.lload_n 2, 1) := by decide +kernel
theorem dX4_grossOf_54 : decode cX4_grossOf 54 = .ok (.lreturn, 1) := by decide +kernel
theorem dX4_clear_0 : decode cX4_clear 0 = .ok (.aload_n 0, 1) := by decide +kernel
theorem dX4_clear_1 : decode cX4_clear 1 = .ok (.iconst 0, 1) := by decide +kernel
theorem dX4_clear_2 : decode cX4_clear 2 = .ok (.putfield 78, 3) := by decide +kernel
theorem dX4_clear_5 : decode cX4_clear 5 = .ok (.iconst 0, 1) := by decide +kernel
theorem dX4_clear_6 : decode cX4_clear 6 = .ok (.istore_n 1, 1) := by decide +kernel
theorem dX4_clear_7 : decode cX4_clear 7 = .ok (.iload_n 1, 1) := by decide +kernel
theorem dX4_clear_8 : decode cX4_clear 8 = .ok (.iconst 4, 1) := by decide +kernel
theorem dX4_clear_9 : decode cX4_clear 9 = .ok (.if_icmp .ge 16, 3) := by decide +kernel
theorem dX4_clear_12 : decode cX4_clear 12 = .ok (.aload_n 0, 1) := by decide +kernel
theorem dX4_clear_13 : decode cX4_clear 13 = .ok (.getfield 21, 3) := by decide +kernel
theorem dX4_clear_16 : decode cX4_clear 16 = .ok (.iload_n 1, 1) := by decide +kernel
theorem dX4_clear_17 : decode cX4_clear 17 = .ok (.iconst 0, 1) := by decide +kernel
theorem dX4_clear_18 : decode cX4_clear 18 = .ok (.iastore, 1) := by decide +kernel
theorem dX4_clear_19 : decode cX4_clear 19 = .ok (.iinc 1 1, 3) := by decide +kernel
theorem dX4_clear_22 : decode cX4_clear 22 = .ok (.goto (-15), 3) := by decide +kernel
theorem dX4_clear_25 : decode cX4_clear 25 = .ok (.aload_n 0, 1) := by decide +kernel
theorem dX4_clear_26 : decode cX4_clear 26 = .ok (.invokevirtual 81, 3) := by decide +kernel
theorem dX4_clear_29 : decode cX4_clear 29 = .ok (.iconst 1, 1) := by decide +kernel
theorem dX4_clear_30 : decode cX4_clear 30 = .ok (.istore_n 1, 1) := by decide +kernel
theorem dX4_clear_31 : decode cX4_clear 31 = .ok (.iload_n 1, 1) := by decide +kernel
theorem dX4_clear_32 : decode cX4_clear 32 = .ok (.ifCond .eq 145, 3) := by decide +kernel
theorem dX4_clear_35 : decode cX4_clear 35 = .ok (.iconst 0, 1) := by decide +kernel
theorem dX4_clear_36 : decode cX4_clear 36 = .ok (.istore_n 1, 1) := by decide +kernel
theorem dX4_clear_37 : decode cX4_clear 37 = .ok (.iconst 0, 1) := by decide +kernel
theorem dX4_clear_38 : decode cX4_clear 38 = .ok (.istore_n 2, 1) := by decide +kernel
theorem dX4_clear_39 : decode cX4_clear 39 = .ok (.iload_n 2, 1) := by decide +kernel
theorem dX4_clear_40 : decode cX4_clear 40 = .ok (.aload_n 0, 1) := by decide +kernel
theorem dX4_clear_41 : decode cX4_clear 41 = .ok (.getfield 7, 3) := by decide +kernel
theorem dX4_clear_44 : decode cX4_clear 44 = .ok (.if_icmp .ge 68, 3) := by decide +kernel
theorem dX4_clear_47 : decode cX4_clear 47 = .ok (.aload_n 0, 1) := by decide +kernel
theorem dX4_clear_48 : decode cX4_clear 48 = .ok (.getfield 36, 3) := by decide +kernel
theorem dX4_clear_51 : decode cX4_clear 51 = .ok (.iload_n 2, 1) := by decide +kernel
theorem dX4_clear_52 : decode cX4_clear 52 = .ok (.aload_n 0, 1) := by decide +kernel
theorem dX4_clear_53 : decode cX4_clear 53 = .ok (.getfield 21, 3) := by decide +kernel
theorem dX4_clear_56 : decode cX4_clear 56 = .ok (.iload_n 2, 1) := by decide +kernel
theorem dX4_clear_57 : decode cX4_clear 57 = .ok (.iaload, 1) := by decide +kernel
theorem dX4_clear_58 : decode cX4_clear 58 = .ok (.ifCond .ne 27, 3) := by decide +kernel
theorem dX4_clear_61 : decode cX4_clear 61 = .ok (.aload_n 0, 1) := by decide +kernel
theorem dX4_clear_62 : decode cX4_clear 62 = .ok (.iload_n 2, 1) := by decide +kernel
theorem dX4_clear_63 : decode cX4_clear 63 = .ok (.invokevirtual 84, 3) := by decide +kernel
theorem dX4_clear_66 : decode cX4_clear 66 = .ok (.aload_n 0, 1) := by decide +kernel
theorem dX4_clear_67 : decode cX4_clear 67 = .ok (.iload_n 2, 1) := by decide +kernel
theorem dX4_clear_68 : decode cX4_clear 68 = .ok (.invokevirtual 61, 3) := by decide +kernel
theorem dX4_clear_71 : decode cX4_clear 71 = .ok (.i2l, 1) := by decide +kernel
theorem dX4_clear_72 : decode cX4_clear 72 = .ok (.aload_n 0, 1) := by decide +kernel
theorem dX4_clear_73 : decode cX4_clear 73 = .ok (.getfield 75, 3) := by decide +kernel
theorem dX4_clear_76 : decode cX4_clear 76 = .ok (.lmul, 1) := by decide +kernel
theorem dX4_clear_77 : decode cX4_clear 77 = .ok (.lcmp, 1) := by decide +kernel
theorem dX4_clear_78 : decode cX4_clear 78 = .ok (.ifCond .ge 7, 3) := by decide +kernel
theorem dX4_clear_81 : decode cX4_clear 81 = .ok (.iconst 1, 1) := by decide +kernel
theorem dX4_clear_82 : decode cX4_clear 82 = .ok (.goto 4, 3) := by decide +kernel
theorem dX4_clear_85 : decode cX4_clear 85 = .ok (.iconst 0, 1) := by decide +kernel
theorem dX4_clear_86 : decode cX4_clear 86 = .ok (.bastore, 1) := by decide +kernel
theorem dX4_clear_87 : decode cX4_clear 87 = .ok (.iload_n 1, 1) := by decide +kernel
theorem dX4_clear_88 : decode cX4_clear 88 = .ok (.ifCond .ne 12, 3) := by decide +kernel
theorem dX4_clear_91 : decode cX4_clear 91 = .ok (.aload_n 0, 1) := by decide +kernel
theorem dX4_clear_92 : decode cX4_clear 92 = .ok (.getfield 36, 3) := by decide +kernel
theorem dX4_clear_95 : decode cX4_clear 95 = .ok (.iload_n 2, 1) := by decide +kernel
theorem dX4_clear_96 : decode cX4_clear 96 = .ok (.baload, 1) := by decide +kernel
theorem dX4_clear_97 : decode cX4_clear 97 = .ok (.ifCond .eq 7, 3) := by decide +kernel
theorem dX4_clear_100 : decode cX4_clear 100 = .ok (.iconst 1, 1) := by decide +kernel
theorem dX4_clear_101 : decode cX4_clear 101 = .ok (.goto 4, 3) := by decide +kernel
theorem dX4_clear_104 : decode cX4_clear 104 = .ok (.iconst 0, 1) := by decide +kernel
theorem dX4_clear_105 : decode cX4_clear 105 = .ok (.istore_n 1, 1) := by decide +kernel
theorem dX4_clear_106 : decode cX4_clear 106 = .ok (.iinc 2 1, 3) := by decide +kernel
theorem dX4_clear_109 : decode cX4_clear 109 = .ok (.goto (-70), 3) := by decide +kernel
theorem dX4_clear_112 : decode cX4_clear 112 = .ok (.iload_n 1, 1) := by decide +kernel
theorem dX4_clear_113 : decode cX4_clear 113 = .ok (.ifCond .eq (-82), 3) := by decide +kernel
theorem dX4_clear_116 : decode cX4_clear 116 = .ok (.aload_n 0, 1) := by decide +kernel
theorem dX4_clear_117 : decode cX4_clear 117 = .ok (.dup, 1) := by decide +kernel
theorem dX4_clear_118 : decode cX4_clear 118 = .ok (.getfield 78, 3) := by decide +kernel
theorem dX4_clear_121 : decode cX4_clear 121 = .ok (.iconst 1, 1) := by decide +kernel
theorem dX4_clear_122 : decode cX4_clear 122 = .ok (.iadd, 1) := by decide +kernel
theorem dX4_clear_123 : decode cX4_clear 123 = .ok (.putfield 78, 3) := by decide +kernel
theorem dX4_clear_126 : decode cX4_clear 126 = .ok (.iconst 0, 1) := by decide +kernel
theorem dX4_clear_127 : decode cX4_clear 127 = .ok (.istore_n 2, 1) := by decide +kernel
theorem dX4_clear_128 : decode cX4_clear 128 = .ok (.iload_n 2, 1) := by decide +kernel
theorem dX4_clear_129 : decode cX4_clear 129 = .ok (.aload_n 0, 1) := by decide +kernel
theorem dX4_clear_130 : decode cX4_clear 130 = .ok (.getfield 7, 3) := by decide +kernel
theorem dX4_clear_133 : decode cX4_clear 133 = .ok (.if_icmp .ge 37, 3) := by decide +kernel
theorem dX4_clear_136 : decode cX4_clear 136 = .ok (.aload_n 0, 1) := by decide +kernel
theorem dX4_clear_137 : decode cX4_clear 137 = .ok (.getfield 21, 3) := by decide +kernel
theorem dX4_clear_140 : decode cX4_clear 140 = .ok (.iload_n 2, 1) := by decide +kernel
theorem dX4_clear_141 : decode cX4_clear 141 = .ok (.aload_n 0, 1) := by decide +kernel
theorem dX4_clear_142 : decode cX4_clear 142 = .ok (.getfield 36, 3) := by decide +kernel
theorem dX4_clear_145 : decode cX4_clear 145 = .ok (.iload_n 2, 1) := by decide +kernel
theorem dX4_clear_146 : decode cX4_clear 146 = .ok (.baload, 1) := by decide +kernel
theorem dX4_clear_147 : decode cX4_clear 147 = .ok (.ifCond .eq 10, 3) := by decide +kernel
theorem dX4_clear_150 : decode cX4_clear 150 = .ok (.aload_n 0, 1) := by decide +kernel
theorem dX4_clear_151 : decode cX4_clear 151 = .ok (.getfield 78, 3) := by decide +kernel
theorem dX4_clear_154 : decode cX4_clear 154 = .ok (.goto 9, 3) := by decide +kernel
theorem dX4_clear_157 : decode cX4_clear 157 = .ok (.aload_n 0, 1) := by decide +kernel
theorem dX4_clear_158 : decode cX4_clear 158 = .ok (.getfield 21, 3) := by decide +kernel
theorem dX4_clear_161 : decode cX4_clear 161 = .ok (.iload_n 2, 1) := by decide +kernel
theorem dX4_clear_162 : decode cX4_clear 162 = .ok (.iaload, 1) := by decide +kernel
theorem dX4_clear_163 : decode cX4_clear 163 = .ok (.iastore, 1) := by decide +kernel
theorem dX4_clear_164 : decode cX4_clear 164 = .ok (.iinc 2 1, 3) := by decide +kernel
theorem dX4_clear_167 : decode cX4_clear 167 = .ok (.goto (-39), 3) := by decide +kernel
theorem dX4_clear_170 : decode cX4_clear 170 = .ok (.aload_n 0, 1) := by decide +kernel
theorem dX4_clear_171 : decode cX4_clear 171 = .ok (.invokevirtual 81, 3) := by decide +kernel
theorem dX4_clear_174 : decode cX4_clear 174 = .ok (.goto (-143), 3) := by decide +kernel
theorem dX4_clear_177 : decode cX4_clear 177 = .ok (.return_, 1) := by decide +kernel
theorem dX4_common_0 : decode cX4_common 0 = .ok (.lload_n 0, 1) := by decide +kernel
theorem dX4_common_1 : decode cX4_common 1 = .ok (.lstore 4, 2) := by decide +kernel
theorem dX4_common_3 : decode cX4_common 3 = .ok (.lload_n 2, 1) := by decide +kernel
theorem dX4_common_4 : decode cX4_common 4 = .ok (.lstore 6, 2) := by decide +kernel
theorem dX4_common_6 : decode cX4_common 6 = .ok (.lload 6, 2) := by decide +kernel
theorem dX4_common_8 : decode cX4_common 8 = .ok (.lconst 0, 1) := by decide +kernel
theorem dX4_common_9 : decode cX4_common 9 = .ok (.lcmp, 1) := by decide +kernel
theorem dX4_common_10 : decode cX4_common 10 = .ok (.ifCond .eq 21, 3) := by decide +kernel
theorem dX4_common_13 : decode cX4_common 13 = .ok (.lload 4, 2) := by decide +kernel
theorem dX4_common_15 : decode cX4_common 15 = .ok (.lload 6, 2) := by decide +kernel
theorem dX4_common_17 : decode cX4_common 17 = .ok (.lrem, 1) := by decide +kernel
theorem dX4_common_18 : decode cX4_common 18 = .ok (.lstore 8, 2) := by decide +kernel
theorem dX4_common_20 : decode cX4_common 20 = .ok (.lload 6, 2) := by decide +kernel
theorem dX4_common_22 : decode cX4_common 22 = .ok (.lstore 4, 2) := by decide +kernel
theorem dX4_common_24 : decode cX4_common 24 = .ok (.lload 8, 2) := by decide +kernel
theorem dX4_common_26 : decode cX4_common 26 = .ok (.lstore 6, 2) := by decide +kernel
theorem dX4_common_28 : decode cX4_common 28 = .ok (.goto (-22), 3) := by decide +kernel
theorem dX4_common_31 : decode cX4_common 31 = .ok (.lload 4, 2) := by decide +kernel
theorem dX4_common_33 : decode cX4_common 33 = .ok (.lreturn, 1) := by decide +kernel
theorem dX4_part_0 : decode cX4_part 0 = .ok (.lload_n 0, 1) := by decide +kernel
theorem dX4_part_1 : decode cX4_part 1 = .ok (.lload_n 2, 1) := by decide +kernel
theorem dX4_part_2 : decode cX4_part 2 = .ok (.invokestatic 87, 3) := by decide +kernel
theorem dX4_part_5 : decode cX4_part 5 = .ok (.lstore 5, 2) := by decide +kernel
theorem dX4_part_7 : decode cX4_part 7 = .ok (.iload 4, 2) := by decide +kernel
theorem dX4_part_9 : decode cX4_part 9 = .ok (.ifCond .ne 10, 3) := by decide +kernel
theorem dX4_part_12 : decode cX4_part 12 = .ok (.lload_n 0, 1) := by decide +kernel
theorem dX4_part_13 : decode cX4_part 13 = .ok (.lload 5, 2) := by decide +kernel
theorem dX4_part_15 : decode cX4_part 15 = .ok (.ldiv, 1) := by decide +kernel
theorem dX4_part_16 : decode cX4_part 16 = .ok (.goto 7, 3) := by decide +kernel
theorem dX4_part_19 : decode cX4_part 19 = .ok (.lload_n 2, 1) := by decide +kernel
theorem dX4_part_20 : decode cX4_part 20 = .ok (.lload 5, 2) := by decide +kernel
theorem dX4_part_22 : decode cX4_part 22 = .ok (.ldiv, 1) := by decide +kernel
theorem dX4_part_23 : decode cX4_part 23 = .ok (.lreturn, 1) := by decide +kernel
theorem dX4_falls_0 : decode cX4_falls 0 = .ok (.aload_n 0, 1) := by decide +kernel
theorem dX4_falls_1 : decode cX4_falls 1 = .ok (.iload_n 1, 1) := by decide +kernel
theorem dX4_falls_2 : decode cX4_falls 2 = .ok (.invokevirtual 57, 3) := by decide +kernel
theorem dX4_falls_5 : decode cX4_falls 5 = .ok (.ifCond .ne 6, 3) := by decide +kernel
theorem dX4_falls_8 : decode cX4_falls 8 = .ok (.bipush (-101), 2) := by decide +kernel
theorem dX4_falls_10 : decode cX4_falls 10 = .ok (.ireturn, 1) := by decide +kernel
theorem dX4_falls_11 : decode cX4_falls 11 = .ok (.aload_n 0, 1) := by decide +kernel
theorem dX4_falls_12 : decode cX4_falls 12 = .ok (.invokevirtual 91, 3) := by decide +kernel
theorem dX4_falls_15 : decode cX4_falls 15 = .ok (.aload_n 0, 1) := by decide +kernel
theorem dX4_falls_16 : decode cX4_falls 16 = .ok (.getfield 21, 3) := by decide +kernel
theorem dX4_falls_19 : decode cX4_falls 19 = .ok (.iload_n 1, 1) := by decide +kernel
theorem dX4_falls_20 : decode cX4_falls 20 = .ok (.iaload, 1) := by decide +kernel
theorem dX4_falls_21 : decode cX4_falls 21 = .ok (.ireturn, 1) := by decide +kernel
theorem dX4_rounds_0 : decode cX4_rounds 0 = .ok (.aload_n 0, 1) := by decide +kernel
theorem dX4_rounds_1 : decode cX4_rounds 1 = .ok (.invokevirtual 91, 3) := by decide +kernel
theorem dX4_rounds_4 : decode cX4_rounds 4 = .ok (.aload_n 0, 1) := by decide +kernel
theorem dX4_rounds_5 : decode cX4_rounds 5 = .ok (.getfield 78, 3) := by decide +kernel
theorem dX4_rounds_8 : decode cX4_rounds 8 = .ok (.ireturn, 1) := by decide +kernel
theorem dX4_share_0 : decode cX4_share 0 = .ok (.aload_n 0, 1) := by decide +kernel
theorem dX4_share_1 : decode cX4_share 1 = .ok (.iload_n 1, 1) := by decide +kernel
theorem dX4_share_2 : decode cX4_share 2 = .ok (.invokevirtual 57, 3) := by decide +kernel
theorem dX4_share_5 : decode cX4_share 5 = .ok (.ifCond .ne 7, 3) := by decide +kernel
theorem dX4_share_8 : decode cX4_share 8 = .ok (.ldc2_w 94, 3) := by decide +kernel
theorem dX4_share_11 : decode cX4_share 11 = .ok (.lreturn, 1) := by decide +kernel
theorem dX4_share_12 : decode cX4_share 12 = .ok (.iload_n 2, 1) := by decide +kernel
theorem dX4_share_13 : decode cX4_share 13 = .ok (.iconst 0, 1) := by decide +kernel
theorem dX4_share_14 : decode cX4_share 14 = .ok (.iconst 1, 1) := by decide +kernel
theorem dX4_share_15 : decode cX4_share 15 = .ok (.invokestatic 46, 3) := by decide +kernel
theorem dX4_share_18 : decode cX4_share 18 = .ok (.ifCond .ne 7, 3) := by decide +kernel
theorem dX4_share_21 : decode cX4_share 21 = .ok (.ldc2_w 96, 3) := by decide +kernel
theorem dX4_share_24 : decode cX4_share 24 = .ok (.lreturn, 1) := by decide +kernel
theorem dX4_share_25 : decode cX4_share 25 = .ok (.aload_n 0, 1) := by decide +kernel
theorem dX4_share_26 : decode cX4_share 26 = .ok (.invokevirtual 91, 3) := by decide +kernel
theorem dX4_share_29 : decode cX4_share 29 = .ok (.aload_n 0, 1) := by decide +kernel
theorem dX4_share_30 : decode cX4_share 30 = .ok (.getfield 24, 3) := by decide +kernel
theorem dX4_share_33 : decode cX4_share 33 = .ok (.iload_n 1, 1) := by decide +kernel
theorem dX4_share_34 : decode cX4_share 34 = .ok (.laload, 1) := by decide +kernel
theorem dX4_share_35 : decode cX4_share 35 = .ok (.aload_n 0, 1) := by decide +kernel
theorem dX4_share_36 : decode cX4_share 36 = .ok (.getfield 75, 3) := by decide +kernel
theorem dX4_share_39 : decode cX4_share 39 = .ok (.iload_n 2, 1) := by decide +kernel
theorem dX4_share_40 : decode cX4_share 40 = .ok (.invokestatic 98, 3) := by decide +kernel
theorem dX4_share_43 : decode cX4_share 43 = .ok (.lreturn, 1) := by decide +kernel
theorem dX4_gross_0 : decode cX4_gross 0 = .ok (.aload_n 0, 1) := by decide +kernel
theorem dX4_gross_1 : decode cX4_gross 1 = .ok (.iload_n 1, 1) := by decide +kernel
theorem dX4_gross_2 : decode cX4_gross 2 = .ok (.invokevirtual 57, 3) := by decide +kernel
theorem dX4_gross_5 : decode cX4_gross 5 = .ok (.ifCond .ne 7, 3) := by decide +kernel
theorem dX4_gross_8 : decode cX4_gross 8 = .ok (.ldc2_w 94, 3) := by decide +kernel
theorem dX4_gross_11 : decode cX4_gross 11 = .ok (.lreturn, 1) := by decide +kernel
theorem dX4_gross_12 : decode cX4_gross 12 = .ok (.iload_n 2, 1) := by decide +kernel
theorem dX4_gross_13 : decode cX4_gross 13 = .ok (.iconst 0, 1) := by decide +kernel
theorem dX4_gross_14 : decode cX4_gross 14 = .ok (.iconst 1, 1) := by decide +kernel
theorem dX4_gross_15 : decode cX4_gross 15 = .ok (.invokestatic 46, 3) := by decide +kernel
theorem dX4_gross_18 : decode cX4_gross 18 = .ok (.ifCond .ne 7, 3) := by decide +kernel
theorem dX4_gross_21 : decode cX4_gross 21 = .ok (.ldc2_w 96, 3) := by decide +kernel
theorem dX4_gross_24 : decode cX4_gross 24 = .ok (.lreturn, 1) := by decide +kernel
theorem dX4_gross_25 : decode cX4_gross 25 = .ok (.aload_n 0, 1) := by decide +kernel
theorem dX4_gross_26 : decode cX4_gross 26 = .ok (.invokevirtual 91, 3) := by decide +kernel
theorem dX4_gross_29 : decode cX4_gross 29 = .ok (.aload_n 0, 1) := by decide +kernel
theorem dX4_gross_30 : decode cX4_gross 30 = .ok (.iload_n 1, 1) := by decide +kernel
theorem dX4_gross_31 : decode cX4_gross 31 = .ok (.invokevirtual 84, 3) := by decide +kernel
theorem dX4_gross_34 : decode cX4_gross 34 = .ok (.aload_n 0, 1) := by decide +kernel
theorem dX4_gross_35 : decode cX4_gross 35 = .ok (.getfield 75, 3) := by decide +kernel
theorem dX4_gross_38 : decode cX4_gross 38 = .ok (.iload_n 2, 1) := by decide +kernel
theorem dX4_gross_39 : decode cX4_gross 39 = .ok (.invokestatic 98, 3) := by decide +kernel
theorem dX4_gross_42 : decode cX4_gross 42 = .ok (.lreturn, 1) := by decide +kernel
theorem dX4_pays_0 : decode cX4_pays 0 = .ok (.aload_n 0, 1) := by decide +kernel
theorem dX4_pays_1 : decode cX4_pays 1 = .ok (.iload_n 1, 1) := by decide +kernel
theorem dX4_pays_2 : decode cX4_pays 2 = .ok (.invokevirtual 57, 3) := by decide +kernel
theorem dX4_pays_5 : decode cX4_pays 5 = .ok (.ifCond .eq 15, 3) := by decide +kernel
theorem dX4_pays_8 : decode cX4_pays 8 = .ok (.iload_n 2, 1) := by decide +kernel
theorem dX4_pays_9 : decode cX4_pays 9 = .ok (.iconst 0, 1) := by decide +kernel
theorem dX4_pays_10 : decode cX4_pays 10 = .ok (.aload_n 0, 1) := by decide +kernel
theorem dX4_pays_11 : decode cX4_pays 11 = .ok (.getfield 7, 3) := by decide +kernel
theorem dX4_pays_14 : decode cX4_pays 14 = .ok (.invokestatic 46, 3) := by decide +kernel
theorem dX4_pays_17 : decode cX4_pays 17 = .ok (.ifCond .ne 7, 3) := by decide +kernel
theorem dX4_pays_20 : decode cX4_pays 20 = .ok (.ldc2_w 94, 3) := by decide +kernel
theorem dX4_pays_23 : decode cX4_pays 23 = .ok (.lreturn, 1) := by decide +kernel
theorem dX4_pays_24 : decode cX4_pays 24 = .ok (.iload_n 3, 1) := by decide +kernel
theorem dX4_pays_25 : decode cX4_pays 25 = .ok (.iconst 0, 1) := by decide +kernel
theorem dX4_pays_26 : decode cX4_pays 26 = .ok (.iconst 1, 1) := by decide +kernel
theorem dX4_pays_27 : decode cX4_pays 27 = .ok (.invokestatic 46, 3) := by decide +kernel
theorem dX4_pays_30 : decode cX4_pays 30 = .ok (.ifCond .ne 7, 3) := by decide +kernel
theorem dX4_pays_33 : decode cX4_pays 33 = .ok (.ldc2_w 96, 3) := by decide +kernel
theorem dX4_pays_36 : decode cX4_pays 36 = .ok (.lreturn, 1) := by decide +kernel
theorem dX4_pays_37 : decode cX4_pays 37 = .ok (.aload_n 0, 1) := by decide +kernel
theorem dX4_pays_38 : decode cX4_pays 38 = .ok (.invokevirtual 91, 3) := by decide +kernel
theorem dX4_pays_41 : decode cX4_pays 41 = .ok (.aload_n 0, 1) := by decide +kernel
theorem dX4_pays_42 : decode cX4_pays 42 = .ok (.getfield 24, 3) := by decide +kernel
theorem dX4_pays_45 : decode cX4_pays 45 = .ok (.iload_n 1, 1) := by decide +kernel
theorem dX4_pays_46 : decode cX4_pays 46 = .ok (.laload, 1) := by decide +kernel
theorem dX4_pays_47 : decode cX4_pays 47 = .ok (.aload_n 0, 1) := by decide +kernel
theorem dX4_pays_48 : decode cX4_pays 48 = .ok (.getfield 17, 3) := by decide +kernel
theorem dX4_pays_51 : decode cX4_pays 51 = .ok (.iconst 5, 1) := by decide +kernel
theorem dX4_pays_52 : decode cX4_pays 52 = .ok (.iload_n 1, 1) := by decide +kernel
theorem dX4_pays_53 : decode cX4_pays 53 = .ok (.imul, 1) := by decide +kernel
theorem dX4_pays_54 : decode cX4_pays 54 = .ok (.iload_n 2, 1) := by decide +kernel
theorem dX4_pays_55 : decode cX4_pays 55 = .ok (.iadd, 1) := by decide +kernel
theorem dX4_pays_56 : decode cX4_pays 56 = .ok (.iaload, 1) := by decide +kernel
theorem dX4_pays_57 : decode cX4_pays 57 = .ok (.i2l, 1) := by decide +kernel
theorem dX4_pays_58 : decode cX4_pays 58 = .ok (.lmul, 1) := by decide +kernel
theorem dX4_pays_59 : decode cX4_pays 59 = .ok (.aload_n 0, 1) := by decide +kernel
theorem dX4_pays_60 : decode cX4_pays 60 = .ok (.getfield 75, 3) := by decide +kernel
theorem dX4_pays_63 : decode cX4_pays 63 = .ok (.iload_n 3, 1) := by decide +kernel
theorem dX4_pays_64 : decode cX4_pays 64 = .ok (.invokestatic 98, 3) := by decide +kernel
theorem dX4_pays_67 : decode cX4_pays 67 = .ok (.lreturn, 1) := by decide +kernel
theorem dX4_left_0 : decode cX4_left 0 = .ok (.aload_n 0, 1) := by decide +kernel
theorem dX4_left_1 : decode cX4_left 1 = .ok (.iload_n 1, 1) := by decide +kernel
theorem dX4_left_2 : decode cX4_left 2 = .ok (.invokevirtual 57, 3) := by decide +kernel
theorem dX4_left_5 : decode cX4_left 5 = .ok (.ifCond .ne 7, 3) := by decide +kernel
theorem dX4_left_8 : decode cX4_left 8 = .ok (.ldc2_w 94, 3) := by decide +kernel
theorem dX4_left_11 : decode cX4_left 11 = .ok (.lreturn, 1) := by decide +kernel
theorem dX4_left_12 : decode cX4_left 12 = .ok (.iload_n 2, 1) := by decide +kernel
theorem dX4_left_13 : decode cX4_left 13 = .ok (.iconst 0, 1) := by decide +kernel
theorem dX4_left_14 : decode cX4_left 14 = .ok (.iconst 1, 1) := by decide +kernel
theorem dX4_left_15 : decode cX4_left 15 = .ok (.invokestatic 46, 3) := by decide +kernel
theorem dX4_left_18 : decode cX4_left 18 = .ok (.ifCond .ne 7, 3) := by decide +kernel
theorem dX4_left_21 : decode cX4_left 21 = .ok (.ldc2_w 96, 3) := by decide +kernel
theorem dX4_left_24 : decode cX4_left 24 = .ok (.lreturn, 1) := by decide +kernel
theorem dX4_left_25 : decode cX4_left 25 = .ok (.aload_n 0, 1) := by decide +kernel
theorem dX4_left_26 : decode cX4_left 26 = .ok (.invokevirtual 91, 3) := by decide +kernel
theorem dX4_left_29 : decode cX4_left 29 = .ok (.aload_n 0, 1) := by decide +kernel
theorem dX4_left_30 : decode cX4_left 30 = .ok (.getfield 21, 3) := by decide +kernel
theorem dX4_left_33 : decode cX4_left 33 = .ok (.iload_n 1, 1) := by decide +kernel
theorem dX4_left_34 : decode cX4_left 34 = .ok (.iaload, 1) := by decide +kernel
theorem dX4_left_35 : decode cX4_left 35 = .ok (.ifCond .le 7, 3) := by decide +kernel
theorem dX4_left_38 : decode cX4_left 38 = .ok (.lconst 0, 1) := by decide +kernel
theorem dX4_left_39 : decode cX4_left 39 = .ok (.goto 20, 3) := by decide +kernel
theorem dX4_left_42 : decode cX4_left 42 = .ok (.aload_n 0, 1) := by decide +kernel
theorem dX4_left_43 : decode cX4_left 43 = .ok (.iload_n 1, 1) := by decide +kernel
theorem dX4_left_44 : decode cX4_left 44 = .ok (.invokevirtual 84, 3) := by decide +kernel
theorem dX4_left_47 : decode cX4_left 47 = .ok (.aload_n 0, 1) := by decide +kernel
theorem dX4_left_48 : decode cX4_left 48 = .ok (.iload_n 1, 1) := by decide +kernel
theorem dX4_left_49 : decode cX4_left 49 = .ok (.invokevirtual 61, 3) := by decide +kernel
theorem dX4_left_52 : decode cX4_left 52 = .ok (.i2l, 1) := by decide +kernel
theorem dX4_left_53 : decode cX4_left 53 = .ok (.aload_n 0, 1) := by decide +kernel
theorem dX4_left_54 : decode cX4_left 54 = .ok (.getfield 75, 3) := by decide +kernel
theorem dX4_left_57 : decode cX4_left 57 = .ok (.lmul, 1) := by decide +kernel
theorem dX4_left_58 : decode cX4_left 58 = .ok (.lsub, 1) := by decide +kernel
theorem dX4_left_59 : decode cX4_left 59 = .ok (.aload_n 0, 1) := by decide +kernel
theorem dX4_left_60 : decode cX4_left 60 = .ok (.getfield 75, 3) := by decide +kernel
theorem dX4_left_63 : decode cX4_left 63 = .ok (.iload_n 2, 1) := by decide +kernel
theorem dX4_left_64 : decode cX4_left 64 = .ok (.invokestatic 98, 3) := by decide +kernel
theorem dX4_left_67 : decode cX4_left 67 = .ok (.lreturn, 1) := by decide +kernel
theorem dX4_lost_0 : decode cX4_lost 0 = .ok (.iload_n 1, 1) := by decide +kernel
theorem dX4_lost_1 : decode cX4_lost 1 = .ok (.iconst 0, 1) := by decide +kernel
theorem dX4_lost_2 : decode cX4_lost 2 = .ok (.iconst 1, 1) := by decide +kernel
theorem dX4_lost_3 : decode cX4_lost 3 = .ok (.invokestatic 46, 3) := by decide +kernel
theorem dX4_lost_6 : decode cX4_lost 6 = .ok (.ifCond .ne 7, 3) := by decide +kernel
theorem dX4_lost_9 : decode cX4_lost 9 = .ok (.ldc2_w 96, 3) := by decide +kernel
theorem dX4_lost_12 : decode cX4_lost 12 = .ok (.lreturn, 1) := by decide +kernel
theorem dX4_lost_13 : decode cX4_lost 13 = .ok (.aload_n 0, 1) := by decide +kernel
theorem dX4_lost_14 : decode cX4_lost 14 = .ok (.invokevirtual 91, 3) := by decide +kernel
theorem dX4_lost_17 : decode cX4_lost 17 = .ok (.lconst 0, 1) := by decide +kernel
theorem dX4_lost_18 : decode cX4_lost 18 = .ok (.lstore_n 2, 1) := by decide +kernel
theorem dX4_lost_19 : decode cX4_lost 19 = .ok (.iconst 0, 1) := by decide +kernel
theorem dX4_lost_20 : decode cX4_lost 20 = .ok (.istore 4, 2) := by decide +kernel
theorem dX4_lost_22 : decode cX4_lost 22 = .ok (.iload 4, 2) := by decide +kernel
theorem dX4_lost_24 : decode cX4_lost 24 = .ok (.aload_n 0, 1) := by decide +kernel
theorem dX4_lost_25 : decode cX4_lost 25 = .ok (.getfield 7, 3) := by decide +kernel
theorem dX4_lost_28 : decode cX4_lost 28 = .ok (.if_icmp .ge 32, 3) := by decide +kernel
theorem dX4_lost_31 : decode cX4_lost 31 = .ok (.lload_n 2, 1) := by decide +kernel
theorem dX4_lost_32 : decode cX4_lost 32 = .ok (.aload_n 0, 1) := by decide +kernel
theorem dX4_lost_33 : decode cX4_lost 33 = .ok (.getfield 21, 3) := by decide +kernel
theorem dX4_lost_36 : decode cX4_lost 36 = .ok (.iload 4, 2) := by decide +kernel
theorem dX4_lost_38 : decode cX4_lost 38 = .ok (.iaload, 1) := by decide +kernel
theorem dX4_lost_39 : decode cX4_lost 39 = .ok (.ifCond .le 12, 3) := by decide +kernel
theorem dX4_lost_42 : decode cX4_lost 42 = .ok (.aload_n 0, 1) := by decide +kernel
theorem dX4_lost_43 : decode cX4_lost 43 = .ok (.iload 4, 2) := by decide +kernel
theorem dX4_lost_45 : decode cX4_lost 45 = .ok (.invokevirtual 84, 3) := by decide +kernel
theorem dX4_lost_48 : decode cX4_lost 48 = .ok (.goto 4, 3) := by decide +kernel
theorem dX4_lost_51 : decode cX4_lost 51 = .ok (.lconst 0, 1) := by decide +kernel
theorem dX4_lost_52 : decode cX4_lost 52 = .ok (.ladd, 1) := by decide +kernel
theorem dX4_lost_53 : decode cX4_lost 53 = .ok (.lstore_n 2, 1) := by decide +kernel
theorem dX4_lost_54 : decode cX4_lost 54 = .ok (.iinc 4 1, 3) := by decide +kernel
theorem dX4_lost_57 : decode cX4_lost 57 = .ok (.goto (-35), 3) := by decide +kernel
theorem dX4_lost_60 : decode cX4_lost 60 = .ok (.lload_n 2, 1) := by decide +kernel
theorem dX4_lost_61 : decode cX4_lost 61 = .ok (.aload_n 0, 1) := by decide +kernel
theorem dX4_lost_62 : decode cX4_lost 62 = .ok (.getfield 50, 3) := by decide +kernel
theorem dX4_lost_65 : decode cX4_lost 65 = .ok (.i2l, 1) := by decide +kernel
theorem dX4_lost_66 : decode cX4_lost 66 = .ok (.lmul, 1) := by decide +kernel
theorem dX4_lost_67 : decode cX4_lost 67 = .ok (.aload_n 0, 1) := by decide +kernel
theorem dX4_lost_68 : decode cX4_lost 68 = .ok (.getfield 75, 3) := by decide +kernel
theorem dX4_lost_71 : decode cX4_lost 71 = .ok (.ldc2_w 69, 3) := by decide +kernel
theorem dX4_lost_74 : decode cX4_lost 74 = .ok (.lmul, 1) := by decide +kernel
theorem dX4_lost_75 : decode cX4_lost 75 = .ok (.iload_n 1, 1) := by decide +kernel
theorem dX4_lost_76 : decode cX4_lost 76 = .ok (.invokestatic 98, 3) := by decide +kernel
theorem dX4_lost_79 : decode cX4_lost 79 = .ok (.lreturn, 1) := by decide +kernel
theorem dX4_drag_0 : decode cX4_drag 0 = .ok (.aload_n 0, 1) := by decide +kernel
theorem dX4_drag_1 : decode cX4_drag 1 = .ok (.iload_n 1, 1) := by decide +kernel
theorem dX4_drag_2 : decode cX4_drag 2 = .ok (.invokevirtual 57, 3) := by decide +kernel
theorem dX4_drag_5 : decode cX4_drag 5 = .ok (.ifCond .ne 6, 3) := by decide +kernel
theorem dX4_drag_8 : decode cX4_drag 8 = .ok (.bipush (-101), 2) := by decide +kernel
theorem dX4_drag_10 : decode cX4_drag 10 = .ok (.ireturn, 1) := by decide +kernel
theorem dX4_drag_11 : decode cX4_drag 11 = .ok (.aload_n 0, 1) := by decide +kernel
theorem dX4_drag_12 : decode cX4_drag 12 = .ok (.getfield 13, 3) := by decide +kernel
theorem dX4_drag_15 : decode cX4_drag 15 = .ok (.iload_n 1, 1) := by decide +kernel
theorem dX4_drag_16 : decode cX4_drag 16 = .ok (.laload, 1) := by decide +kernel
theorem dX4_drag_17 : decode cX4_drag 17 = .ok (.lstore_n 2, 1) := by decide +kernel
theorem dX4_drag_18 : decode cX4_drag 18 = .ok (.aload_n 0, 1) := by decide +kernel
theorem dX4_drag_19 : decode cX4_drag 19 = .ok (.getfield 13, 3) := by decide +kernel
theorem dX4_drag_22 : decode cX4_drag 22 = .ok (.iload_n 1, 1) := by decide +kernel
theorem dX4_drag_23 : decode cX4_drag 23 = .ok (.lconst 0, 1) := by decide +kernel
theorem dX4_drag_24 : decode cX4_drag 24 = .ok (.lastore, 1) := by decide +kernel
theorem dX4_drag_25 : decode cX4_drag 25 = .ok (.aload_n 0, 1) := by decide +kernel
theorem dX4_drag_26 : decode cX4_drag 26 = .ok (.invokevirtual 91, 3) := by decide +kernel
theorem dX4_drag_29 : decode cX4_drag 29 = .ok (.aload_n 0, 1) := by decide +kernel
theorem dX4_drag_30 : decode cX4_drag 30 = .ok (.getfield 13, 3) := by decide +kernel
theorem dX4_drag_33 : decode cX4_drag 33 = .ok (.iload_n 1, 1) := by decide +kernel
theorem dX4_drag_34 : decode cX4_drag 34 = .ok (.lload_n 2, 1) := by decide +kernel
theorem dX4_drag_35 : decode cX4_drag 35 = .ok (.lastore, 1) := by decide +kernel
theorem dX4_drag_36 : decode cX4_drag 36 = .ok (.iconst 0, 1) := by decide +kernel
theorem dX4_drag_37 : decode cX4_drag 37 = .ok (.istore 4, 2) := by decide +kernel
theorem dX4_drag_39 : decode cX4_drag 39 = .ok (.iconst 0, 1) := by decide +kernel
theorem dX4_drag_40 : decode cX4_drag 40 = .ok (.istore 5, 2) := by decide +kernel
theorem dX4_drag_42 : decode cX4_drag 42 = .ok (.iload 5, 2) := by decide +kernel
theorem dX4_drag_44 : decode cX4_drag 44 = .ok (.aload_n 0, 1) := by decide +kernel
theorem dX4_drag_45 : decode cX4_drag 45 = .ok (.getfield 7, 3) := by decide +kernel
theorem dX4_drag_48 : decode cX4_drag 48 = .ok (.if_icmp .ge 29, 3) := by decide +kernel
theorem dX4_drag_51 : decode cX4_drag 51 = .ok (.iload 4, 2) := by decide +kernel
theorem dX4_drag_53 : decode cX4_drag 53 = .ok (.aload_n 0, 1) := by decide +kernel
theorem dX4_drag_54 : decode cX4_drag 54 = .ok (.getfield 21, 3) := by decide +kernel
theorem dX4_drag_57 : decode cX4_drag 57 = .ok (.iload 5, 2) := by decide +kernel
theorem dX4_drag_59 : decode cX4_drag 59 = .ok (.iaload, 1) := by decide +kernel
theorem dX4_drag_60 : decode cX4_drag 60 = .ok (.ifCond .le 7, 3) := by decide +kernel
theorem dX4_drag_63 : decode cX4_drag 63 = .ok (.iconst 1, 1) := by decide +kernel
theorem dX4_drag_64 : decode cX4_drag 64 = .ok (.goto 4, 3) := by decide +kernel
theorem dX4_drag_67 : decode cX4_drag 67 = .ok (.iconst 0, 1) := by decide +kernel
theorem dX4_drag_68 : decode cX4_drag 68 = .ok (.iadd, 1) := by decide +kernel
theorem dX4_drag_69 : decode cX4_drag 69 = .ok (.istore 4, 2) := by decide +kernel
theorem dX4_drag_71 : decode cX4_drag 71 = .ok (.iinc 5 1, 3) := by decide +kernel
theorem dX4_drag_74 : decode cX4_drag 74 = .ok (.goto (-32), 3) := by decide +kernel
theorem dX4_drag_77 : decode cX4_drag 77 = .ok (.iload 4, 2) := by decide +kernel
theorem dX4_drag_79 : decode cX4_drag 79 = .ok (.ireturn, 1) := by decide +kernel
theorem dX4_helpOf_0 : decode cX4_helpOf 0 = .ok (.lconst 0, 1) := by decide +kernel
theorem dX4_helpOf_1 : decode cX4_helpOf 1 = .ok (.lstore_n 2, 1) := by decide +kernel
theorem dX4_helpOf_2 : decode cX4_helpOf 2 = .ok (.iconst 0, 1) := by decide +kernel
theorem dX4_helpOf_3 : decode cX4_helpOf 3 = .ok (.istore 4, 2) := by decide +kernel
theorem dX4_helpOf_5 : decode cX4_helpOf 5 = .ok (.iload 4, 2) := by decide +kernel
theorem dX4_helpOf_7 : decode cX4_helpOf 7 = .ok (.aload_n 0, 1) := by decide +kernel
theorem dX4_helpOf_8 : decode cX4_helpOf 8 = .ok (.getfield 7, 3) := by decide +kernel
theorem dX4_helpOf_11 : decode cX4_helpOf 11 = .ok (.if_icmp .ge 104, 3) := by decide +kernel
theorem dX4_helpOf_14 : decode cX4_helpOf 14 = .ok (.aload_n 0, 1) := by decide +kernel
theorem dX4_helpOf_15 : decode cX4_helpOf 15 = .ok (.getfield 13, 3) := by decide +kernel
theorem dX4_helpOf_18 : decode cX4_helpOf 18 = .ok (.iload 4, 2) := by decide +kernel
theorem dX4_helpOf_20 : decode cX4_helpOf 20 = .ok (.laload, 1) := by decide +kernel
theorem dX4_helpOf_21 : decode cX4_helpOf 21 = .ok (.lstore 5, 2) := by decide +kernel
theorem dX4_helpOf_23 : decode cX4_helpOf 23 = .ok (.iconst 0, 1) := by decide +kernel
theorem dX4_helpOf_24 : decode cX4_helpOf 24 = .ok (.istore 7, 2) := by decide +kernel
theorem dX4_helpOf_26 : decode cX4_helpOf 26 = .ok (.iload 7, 2) := by decide +kernel
theorem dX4_helpOf_28 : decode cX4_helpOf 28 = .ok (.aload_n 0, 1) := by decide +kernel
theorem dX4_helpOf_29 : decode cX4_helpOf 29 = .ok (.getfield 7, 3) := by decide +kernel
theorem dX4_helpOf_32 : decode cX4_helpOf 32 = .ok (.if_icmp .ge 27, 3) := by decide +kernel
theorem dX4_helpOf_35 : decode cX4_helpOf 35 = .ok (.lload 5, 2) := by decide +kernel
theorem dX4_helpOf_37 : decode cX4_helpOf 37 = .ok (.aload_n 0, 1) := by decide +kernel
theorem dX4_helpOf_38 : decode cX4_helpOf 38 = .ok (.getfield 17, 3) := by decide +kernel
theorem dX4_helpOf_41 : decode cX4_helpOf 41 = .ok (.iconst 5, 1) := by decide +kernel
theorem dX4_helpOf_42 : decode cX4_helpOf 42 = .ok (.iload 7, 2) := by decide +kernel
theorem dX4_helpOf_44 : decode cX4_helpOf 44 = .ok (.imul, 1) := by decide +kernel
theorem dX4_helpOf_45 : decode cX4_helpOf 45 = .ok (.iload 4, 2) := by decide +kernel
theorem dX4_helpOf_47 : decode cX4_helpOf 47 = .ok (.iadd, 1) := by decide +kernel
theorem dX4_helpOf_48 : decode cX4_helpOf 48 = .ok (.iaload, 1) := by decide +kernel
theorem dX4_helpOf_49 : decode cX4_helpOf 49 = .ok (.i2l, 1) := by decide +kernel
theorem dX4_helpOf_50 : decode cX4_helpOf 50 = .ok (.ladd, 1) := by decide +kernel
theorem dX4_helpOf_51 : decode cX4_helpOf 51 = .ok (.lstore 5, 2) := by decide +kernel
theorem dX4_helpOf_53 : decode cX4_helpOf 53 = .ok (.iinc 7 1, 3) := by decide +kernel
theorem dX4_helpOf_56 : decode cX4_helpOf 56 = .ok (.goto (-30), 3) := by decide +kernel
theorem dX4_helpOf_59 : decode cX4_helpOf 59 = .ok (.aload_n 0, 1) := by decide +kernel
theorem dX4_helpOf_60 : decode cX4_helpOf 60 = .ok (.iload 4, 2) := by decide +kernel
theorem dX4_helpOf_62 : decode cX4_helpOf 62 = .ok (.invokevirtual 61, 3) := by decide +kernel
theorem dX4_helpOf_65 : decode cX4_helpOf 65 = .ok (.i2l, 1) := by decide +kernel
theorem dX4_helpOf_66 : decode cX4_helpOf 66 = .ok (.lload 5, 2) := by decide +kernel
theorem dX4_helpOf_68 : decode cX4_helpOf 68 = .ok (.lsub, 1) := by decide +kernel
theorem dX4_helpOf_69 : decode cX4_helpOf 69 = .ok (.lstore 7, 2) := by decide +kernel
theorem dX4_helpOf_71 : decode cX4_helpOf 71 = .ok (.lload 7, 2) := by decide +kernel
theorem dX4_helpOf_73 : decode cX4_helpOf 73 = .ok (.lconst 0, 1) := by decide +kernel
theorem dX4_helpOf_74 : decode cX4_helpOf 74 = .ok (.lcmp, 1) := by decide +kernel
theorem dX4_helpOf_75 : decode cX4_helpOf 75 = .ok (.ifCond .le 20, 3) := by decide +kernel
theorem dX4_helpOf_78 : decode cX4_helpOf 78 = .ok (.iload 4, 2) := by decide +kernel
theorem dX4_helpOf_80 : decode cX4_helpOf 80 = .ok (.iload_n 1, 1) := by decide +kernel
theorem dX4_helpOf_81 : decode cX4_helpOf 81 = .ok (.if_icmp .ne 12, 3) := by decide +kernel
theorem dX4_helpOf_84 : decode cX4_helpOf 84 = .ok (.lload 7, 2) := by decide +kernel
theorem dX4_helpOf_86 : decode cX4_helpOf 86 = .ok (.ldc2_w 102, 3) := by decide +kernel
theorem dX4_helpOf_89 : decode cX4_helpOf 89 = .ok (.lcmp, 1) := by decide +kernel
theorem dX4_helpOf_90 : decode cX4_helpOf 90 = .ok (.ifCond .le 5, 3) := by decide +kernel
theorem dX4_helpOf_93 : decode cX4_helpOf 93 = .ok (.iconst (-1), 1) := by decide +kernel
theorem dX4_helpOf_94 : decode cX4_helpOf 94 = .ok (.ireturn, 1) := by decide +kernel
theorem dX4_helpOf_95 : decode cX4_helpOf 95 = .ok (.lload 7, 2) := by decide +kernel
theorem dX4_helpOf_97 : decode cX4_helpOf 97 = .ok (.lconst 0, 1) := by decide +kernel
theorem dX4_helpOf_98 : decode cX4_helpOf 98 = .ok (.lcmp, 1) := by decide +kernel
theorem dX4_helpOf_99 : decode cX4_helpOf 99 = .ok (.ifCond .le 8, 3) := by decide +kernel
theorem dX4_helpOf_102 : decode cX4_helpOf 102 = .ok (.lload 7, 2) := by decide +kernel
theorem dX4_helpOf_104 : decode cX4_helpOf 104 = .ok (.goto 4, 3) := by decide +kernel
theorem dX4_helpOf_107 : decode cX4_helpOf 107 = .ok (.lload_n 2, 1) := by decide +kernel
theorem dX4_helpOf_108 : decode cX4_helpOf 108 = .ok (.lstore_n 2, 1) := by decide +kernel
theorem dX4_helpOf_109 : decode cX4_helpOf 109 = .ok (.iinc 4 1, 3) := by decide +kernel
theorem dX4_helpOf_112 : decode cX4_helpOf 112 = .ok (.goto (-107), 3) := by decide +kernel
theorem dX4_helpOf_115 : decode cX4_helpOf 115 = .ok (.lload_n 2, 1) := by decide +kernel
theorem dX4_helpOf_116 : decode cX4_helpOf 116 = .ok (.l2i, 1) := by decide +kernel
theorem dX4_helpOf_117 : decode cX4_helpOf 117 = .ok (.ireturn, 1) := by decide +kernel
theorem dX4_help_0 : decode cX4_help 0 = .ok (.aload_n 0, 1) := by decide +kernel
theorem dX4_help_1 : decode cX4_help 1 = .ok (.iload_n 1, 1) := by decide +kernel
theorem dX4_help_2 : decode cX4_help 2 = .ok (.invokevirtual 57, 3) := by decide +kernel
theorem dX4_help_5 : decode cX4_help 5 = .ok (.ifCond .eq 11, 3) := by decide +kernel
theorem dX4_help_8 : decode cX4_help 8 = .ok (.aload_n 0, 1) := by decide +kernel
theorem dX4_help_9 : decode cX4_help 9 = .ok (.iload_n 1, 1) := by decide +kernel
theorem dX4_help_10 : decode cX4_help 10 = .ok (.invokevirtual 104, 3) := by decide +kernel
theorem dX4_help_13 : decode cX4_help 13 = .ok (.goto 5, 3) := by decide +kernel
theorem dX4_help_16 : decode cX4_help 16 = .ok (.bipush (-101), 2) := by decide +kernel
theorem dX4_help_18 : decode cX4_help 18 = .ok (.ireturn, 1) := by decide +kernel
theorem dX4_best_0 : decode cX4_best 0 = .ok (.iconst (-1), 1) := by decide +kernel
theorem dX4_best_1 : decode cX4_best 1 = .ok (.istore_n 1, 1) := by decide +kernel
theorem dX4_best_2 : decode cX4_best 2 = .ok (.iconst 0, 1) := by decide +kernel
theorem dX4_best_3 : decode cX4_best 3 = .ok (.istore_n 2, 1) := by decide +kernel
theorem dX4_best_4 : decode cX4_best 4 = .ok (.iload_n 2, 1) := by decide +kernel
theorem dX4_best_5 : decode cX4_best 5 = .ok (.aload_n 0, 1) := by decide +kernel
theorem dX4_best_6 : decode cX4_best 6 = .ok (.getfield 7, 3) := by decide +kernel
theorem dX4_best_9 : decode cX4_best 9 = .ok (.if_icmp .ge 40, 3) := by decide +kernel
theorem dX4_best_12 : decode cX4_best 12 = .ok (.aload_n 0, 1) := by decide +kernel
theorem dX4_best_13 : decode cX4_best 13 = .ok (.iload_n 2, 1) := by decide +kernel
theorem dX4_best_14 : decode cX4_best 14 = .ok (.invokevirtual 104, 3) := by decide +kernel
theorem dX4_best_17 : decode cX4_best 17 = .ok (.istore_n 3, 1) := by decide +kernel
theorem dX4_best_18 : decode cX4_best 18 = .ok (.iload_n 3, 1) := by decide +kernel
theorem dX4_best_19 : decode cX4_best 19 = .ok (.iconst (-1), 1) := by decide +kernel
theorem dX4_best_20 : decode cX4_best 20 = .ok (.if_icmp .eq 21, 3) := by decide +kernel
theorem dX4_best_23 : decode cX4_best 23 = .ok (.iload_n 1, 1) := by decide +kernel
theorem dX4_best_24 : decode cX4_best 24 = .ok (.iconst (-1), 1) := by decide +kernel
theorem dX4_best_25 : decode cX4_best 25 = .ok (.if_icmp .eq 12, 3) := by decide +kernel
theorem dX4_best_28 : decode cX4_best 28 = .ok (.iload_n 3, 1) := by decide +kernel
theorem dX4_best_29 : decode cX4_best 29 = .ok (.aload_n 0, 1) := by decide +kernel
theorem dX4_best_30 : decode cX4_best 30 = .ok (.iload_n 1, 1) := by decide +kernel
theorem dX4_best_31 : decode cX4_best 31 = .ok (.invokevirtual 104, 3) := by decide +kernel
theorem dX4_best_34 : decode cX4_best 34 = .ok (.if_icmp .ge 7, 3) := by decide +kernel
theorem dX4_best_37 : decode cX4_best 37 = .ok (.iload_n 2, 1) := by decide +kernel
theorem dX4_best_38 : decode cX4_best 38 = .ok (.goto 4, 3) := by decide +kernel
theorem dX4_best_41 : decode cX4_best 41 = .ok (.iload_n 1, 1) := by decide +kernel
theorem dX4_best_42 : decode cX4_best 42 = .ok (.istore_n 1, 1) := by decide +kernel
theorem dX4_best_43 : decode cX4_best 43 = .ok (.iinc 2 1, 3) := by decide +kernel
theorem dX4_best_46 : decode cX4_best 46 = .ok (.goto (-42), 3) := by decide +kernel
theorem dX4_best_49 : decode cX4_best 49 = .ok (.iload_n 1, 1) := by decide +kernel
theorem dX4_best_50 : decode cX4_best 50 = .ok (.ireturn, 1) := by decide +kernel
theorem dX4_net_0 : decode cX4_net 0 = .ok (.aload_n 0, 1) := by decide +kernel
theorem dX4_net_1 : decode cX4_net 1 = .ok (.iload_n 1, 1) := by decide +kernel
theorem dX4_net_2 : decode cX4_net 2 = .ok (.invokevirtual 57, 3) := by decide +kernel
theorem dX4_net_5 : decode cX4_net 5 = .ok (.ifCond .ne 6, 3) := by decide +kernel
theorem dX4_net_8 : decode cX4_net 8 = .ok (.ldc 107, 2) := by decide +kernel
theorem dX4_net_10 : decode cX4_net 10 = .ok (.ireturn, 1) := by decide +kernel
theorem dX4_net_11 : decode cX4_net 11 = .ok (.aload_n 0, 1) := by decide +kernel
theorem dX4_net_12 : decode cX4_net 12 = .ok (.iload_n 1, 1) := by decide +kernel
theorem dX4_net_13 : decode cX4_net 13 = .ok (.invokevirtual 61, 3) := by decide +kernel
theorem dX4_net_16 : decode cX4_net 16 = .ok (.ineg, 1) := by decide +kernel
theorem dX4_net_17 : decode cX4_net 17 = .ok (.istore_n 2, 1) := by decide +kernel
theorem dX4_net_18 : decode cX4_net 18 = .ok (.iconst 0, 1) := by decide +kernel
theorem dX4_net_19 : decode cX4_net 19 = .ok (.istore_n 3, 1) := by decide +kernel
theorem dX4_net_20 : decode cX4_net 20 = .ok (.iload_n 3, 1) := by decide +kernel
theorem dX4_net_21 : decode cX4_net 21 = .ok (.aload_n 0, 1) := by decide +kernel
theorem dX4_net_22 : decode cX4_net 22 = .ok (.getfield 7, 3) := by decide +kernel
theorem dX4_net_25 : decode cX4_net 25 = .ok (.if_icmp .ge 22, 3) := by decide +kernel
theorem dX4_net_28 : decode cX4_net 28 = .ok (.iload_n 2, 1) := by decide +kernel
theorem dX4_net_29 : decode cX4_net 29 = .ok (.aload_n 0, 1) := by decide +kernel
theorem dX4_net_30 : decode cX4_net 30 = .ok (.getfield 17, 3) := by decide +kernel
theorem dX4_net_33 : decode cX4_net 33 = .ok (.iconst 5, 1) := by decide +kernel
theorem dX4_net_34 : decode cX4_net 34 = .ok (.iload_n 3, 1) := by decide +kernel
theorem dX4_net_35 : decode cX4_net 35 = .ok (.imul, 1) := by decide +kernel
theorem dX4_net_36 : decode cX4_net 36 = .ok (.iload_n 1, 1) := by decide +kernel
theorem dX4_net_37 : decode cX4_net 37 = .ok (.iadd, 1) := by decide +kernel
theorem dX4_net_38 : decode cX4_net 38 = .ok (.iaload, 1) := by decide +kernel
theorem dX4_net_39 : decode cX4_net 39 = .ok (.iadd, 1) := by decide +kernel
theorem dX4_net_40 : decode cX4_net 40 = .ok (.istore_n 2, 1) := by decide +kernel
theorem dX4_net_41 : decode cX4_net 41 = .ok (.iinc 3 1, 3) := by decide +kernel
theorem dX4_net_44 : decode cX4_net 44 = .ok (.goto (-24), 3) := by decide +kernel
theorem dX4_net_47 : decode cX4_net 47 = .ok (.iload_n 2, 1) := by decide +kernel
theorem dX4_net_48 : decode cX4_net 48 = .ok (.ireturn, 1) := by decide +kernel
theorem dX4_isRing_0 : decode cX4_isRing 0 = .ok (.iconst 1, 1) := by decide +kernel
theorem dX4_isRing_1 : decode cX4_isRing 1 = .ok (.istore_n 2, 1) := by decide +kernel
theorem dX4_isRing_2 : decode cX4_isRing 2 = .ok (.iconst 0, 1) := by decide +kernel
theorem dX4_isRing_3 : decode cX4_isRing 3 = .ok (.istore_n 3, 1) := by decide +kernel
theorem dX4_isRing_4 : decode cX4_isRing 4 = .ok (.iload_n 3, 1) := by decide +kernel
theorem dX4_isRing_5 : decode cX4_isRing 5 = .ok (.iload_n 1, 1) := by decide +kernel
theorem dX4_isRing_6 : decode cX4_isRing 6 = .ok (.if_icmp .ge 128, 3) := by decide +kernel
theorem dX4_isRing_9 : decode cX4_isRing 9 = .ok (.iload_n 2, 1) := by decide +kernel
theorem dX4_isRing_10 : decode cX4_isRing 10 = .ok (.ifCond .eq 124, 3) := by decide +kernel
theorem dX4_isRing_13 : decode cX4_isRing 13 = .ok (.aload_n 0, 1) := by decide +kernel
theorem dX4_isRing_14 : decode cX4_isRing 14 = .ok (.getfield 43, 3) := by decide +kernel
theorem dX4_isRing_17 : decode cX4_isRing 17 = .ok (.iload_n 3, 1) := by decide +kernel
theorem dX4_isRing_18 : decode cX4_isRing 18 = .ok (.iaload, 1) := by decide +kernel
theorem dX4_isRing_19 : decode cX4_isRing 19 = .ok (.aload_n 0, 1) := by decide +kernel
theorem dX4_isRing_20 : decode cX4_isRing 20 = .ok (.getfield 7, 3) := by decide +kernel
theorem dX4_isRing_23 : decode cX4_isRing 23 = .ok (.if_icmp .ge 62, 3) := by decide +kernel
theorem dX4_isRing_26 : decode cX4_isRing 26 = .ok (.iload_n 3, 1) := by decide +kernel
theorem dX4_isRing_27 : decode cX4_isRing 27 = .ok (.ifCond .eq 18, 3) := by decide +kernel
theorem dX4_isRing_30 : decode cX4_isRing 30 = .ok (.aload_n 0, 1) := by decide +kernel
theorem dX4_isRing_31 : decode cX4_isRing 31 = .ok (.getfield 43, 3) := by decide +kernel
theorem dX4_isRing_34 : decode cX4_isRing 34 = .ok (.iload_n 3, 1) := by decide +kernel
theorem dX4_isRing_35 : decode cX4_isRing 35 = .ok (.iaload, 1) := by decide +kernel
theorem dX4_isRing_36 : decode cX4_isRing 36 = .ok (.aload_n 0, 1) := by decide +kernel
theorem dX4_isRing_37 : decode cX4_isRing 37 = .ok (.getfield 43, 3) := by decide +kernel
theorem dX4_isRing_40 : decode cX4_isRing 40 = .ok (.iconst 0, 1) := by decide +kernel
theorem dX4_isRing_41 : decode cX4_isRing 41 = .ok (.iaload, 1) := by decide +kernel
theorem dX4_isRing_42 : decode cX4_isRing 42 = .ok (.if_icmp .le 43, 3) := by decide +kernel
theorem dX4_isRing_45 : decode cX4_isRing 45 = .ok (.aload_n 0, 1) := by decide +kernel
theorem dX4_isRing_46 : decode cX4_isRing 46 = .ok (.getfield 17, 3) := by decide +kernel
theorem dX4_isRing_49 : decode cX4_isRing 49 = .ok (.iconst 5, 1) := by decide +kernel
theorem dX4_isRing_50 : decode cX4_isRing 50 = .ok (.aload_n 0, 1) := by decide +kernel
theorem dX4_isRing_51 : decode cX4_isRing 51 = .ok (.getfield 43, 3) := by decide +kernel
theorem dX4_isRing_54 : decode cX4_isRing 54 = .ok (.iload_n 3, 1) := by decide +kernel
theorem dX4_isRing_55 : decode cX4_isRing 55 = .ok (.iaload, 1) := by decide +kernel
theorem dX4_isRing_56 : decode cX4_isRing 56 = .ok (.imul, 1) := by decide +kernel
theorem dX4_isRing_57 : decode cX4_isRing 57 = .ok (.aload_n 0, 1) := by decide +kernel
theorem dX4_isRing_58 : decode cX4_isRing 58 = .ok (.getfield 43, 3) := by decide +kernel
theorem dX4_isRing_61 : decode cX4_isRing 61 = .ok (.iload_n 3, 1) := by decide +kernel
theorem dX4_isRing_62 : decode cX4_isRing 62 = .ok (.iconst 1, 1) := by decide +kernel
theorem dX4_isRing_63 : decode cX4_isRing 63 = .ok (.iadd, 1) := by decide +kernel
theorem dX4_isRing_64 : decode cX4_isRing 64 = .ok (.iload_n 1, 1) := by decide +kernel
theorem dX4_isRing_65 : decode cX4_isRing 65 = .ok (.if_icmp .ne 7, 3) := by decide +kernel
theorem dX4_isRing_68 : decode cX4_isRing 68 = .ok (.iconst 0, 1) := by decide +kernel
theorem dX4_isRing_69 : decode cX4_isRing 69 = .ok (.goto 6, 3) := by decide +kernel
theorem dX4_isRing_72 : decode cX4_isRing 72 = .ok (.iload_n 3, 1) := by decide +kernel
theorem dX4_isRing_73 : decode cX4_isRing 73 = .ok (.iconst 1, 1) := by decide +kernel
theorem dX4_isRing_74 : decode cX4_isRing 74 = .ok (.iadd, 1) := by decide +kernel
theorem dX4_isRing_75 : decode cX4_isRing 75 = .ok (.iaload, 1) := by decide +kernel
theorem dX4_isRing_76 : decode cX4_isRing 76 = .ok (.iadd, 1) := by decide +kernel
theorem dX4_isRing_77 : decode cX4_isRing 77 = .ok (.iaload, 1) := by decide +kernel
theorem dX4_isRing_78 : decode cX4_isRing 78 = .ok (.ifCond .le 7, 3) := by decide +kernel
theorem dX4_isRing_81 : decode cX4_isRing 81 = .ok (.iconst 1, 1) := by decide +kernel
theorem dX4_isRing_82 : decode cX4_isRing 82 = .ok (.goto 4, 3) := by decide +kernel
theorem dX4_isRing_85 : decode cX4_isRing 85 = .ok (.iconst 0, 1) := by decide +kernel
theorem dX4_isRing_86 : decode cX4_isRing 86 = .ok (.istore_n 2, 1) := by decide +kernel
theorem dX4_isRing_87 : decode cX4_isRing 87 = .ok (.iconst 1, 1) := by decide +kernel
theorem dX4_isRing_88 : decode cX4_isRing 88 = .ok (.istore 4, 2) := by decide +kernel
theorem dX4_isRing_90 : decode cX4_isRing 90 = .ok (.iload 4, 2) := by decide +kernel
theorem dX4_isRing_92 : decode cX4_isRing 92 = .ok (.iload_n 3, 1) := by decide +kernel
theorem dX4_isRing_93 : decode cX4_isRing 93 = .ok (.if_icmp .ge 35, 3) := by decide +kernel
theorem dX4_isRing_96 : decode cX4_isRing 96 = .ok (.iload_n 2, 1) := by decide +kernel
theorem dX4_isRing_97 : decode cX4_isRing 97 = .ok (.ifCond .eq 23, 3) := by decide +kernel
theorem dX4_isRing_100 : decode cX4_isRing 100 = .ok (.aload_n 0, 1) := by decide +kernel
theorem dX4_isRing_101 : decode cX4_isRing 101 = .ok (.getfield 43, 3) := by decide +kernel
theorem dX4_isRing_104 : decode cX4_isRing 104 = .ok (.iload 4, 2) := by decide +kernel
theorem dX4_isRing_106 : decode cX4_isRing 106 = .ok (.iaload, 1) := by decide +kernel
theorem dX4_isRing_107 : decode cX4_isRing 107 = .ok (.aload_n 0, 1) := by decide +kernel
theorem dX4_isRing_108 : decode cX4_isRing 108 = .ok (.getfield 43, 3) := by decide +kernel
theorem dX4_isRing_111 : decode cX4_isRing 111 = .ok (.iload_n 3, 1) := by decide +kernel
theorem dX4_isRing_112 : decode cX4_isRing 112 = .ok (.iaload, 1) := by decide +kernel
theorem dX4_isRing_113 : decode cX4_isRing 113 = .ok (.if_icmp .eq 7, 3) := by decide +kernel
theorem dX4_isRing_116 : decode cX4_isRing 116 = .ok (.iconst 1, 1) := by decide +kernel
theorem dX4_isRing_117 : decode cX4_isRing 117 = .ok (.goto 4, 3) := by decide +kernel
theorem dX4_isRing_120 : decode cX4_isRing 120 = .ok (.iconst 0, 1) := by decide +kernel
theorem dX4_isRing_121 : decode cX4_isRing 121 = .ok (.istore_n 2, 1) := by decide +kernel
theorem dX4_isRing_122 : decode cX4_isRing 122 = .ok (.iinc 4 1, 3) := by decide +kernel
theorem dX4_isRing_125 : decode cX4_isRing 125 = .ok (.goto (-35), 3) := by decide +kernel
theorem dX4_isRing_128 : decode cX4_isRing 128 = .ok (.iinc 3 1, 3) := by decide +kernel
theorem dX4_isRing_131 : decode cX4_isRing 131 = .ok (.goto (-127), 3) := by decide +kernel
theorem dX4_isRing_134 : decode cX4_isRing 134 = .ok (.iload_n 2, 1) := by decide +kernel
theorem dX4_isRing_135 : decode cX4_isRing 135 = .ok (.ireturn, 1) := by decide +kernel
theorem dX4_seek_0 : decode cX4_seek 0 = .ok (.aload_n 0, 1) := by decide +kernel
theorem dX4_seek_1 : decode cX4_seek 1 = .ok (.iconst 0, 1) := by decide +kernel
theorem dX4_seek_2 : decode cX4_seek 2 = .ok (.putfield 108, 3) := by decide +kernel
theorem dX4_seek_5 : decode cX4_seek 5 = .ok (.aload_n 0, 1) := by decide +kernel
theorem dX4_seek_6 : decode cX4_seek 6 = .ok (.iconst 0, 1) := by decide +kernel
theorem dX4_seek_7 : decode cX4_seek 7 = .ok (.putfield 111, 3) := by decide +kernel
theorem dX4_seek_10 : decode cX4_seek 10 = .ok (.iconst 2, 1) := by decide +kernel
theorem dX4_seek_11 : decode cX4_seek 11 = .ok (.istore_n 2, 1) := by decide +kernel
theorem dX4_seek_12 : decode cX4_seek 12 = .ok (.iload_n 2, 1) := by decide +kernel
theorem dX4_seek_13 : decode cX4_seek 13 = .ok (.aload_n 0, 1) := by decide +kernel
theorem dX4_seek_14 : decode cX4_seek 14 = .ok (.getfield 7, 3) := by decide +kernel
theorem dX4_seek_17 : decode cX4_seek 17 = .ok (.if_icmp .gt 145, 3) := by decide +kernel
theorem dX4_seek_20 : decode cX4_seek 20 = .ok (.iload_n 2, 1) := by decide +kernel
theorem dX4_seek_21 : decode cX4_seek 21 = .ok (.iconst 2, 1) := by decide +kernel
theorem dX4_seek_22 : decode cX4_seek 22 = .ok (.if_icmp .ne 8, 3) := by decide +kernel
theorem dX4_seek_25 : decode cX4_seek 25 = .ok (.bipush 16, 2) := by decide +kernel
theorem dX4_seek_27 : decode cX4_seek 27 = .ok (.goto 16, 3) := by decide +kernel
theorem dX4_seek_30 : decode cX4_seek 30 = .ok (.iload_n 2, 1) := by decide +kernel
theorem dX4_seek_31 : decode cX4_seek 31 = .ok (.iconst 3, 1) := by decide +kernel
theorem dX4_seek_32 : decode cX4_seek 32 = .ok (.if_icmp .ne 8, 3) := by decide +kernel
theorem dX4_seek_35 : decode cX4_seek 35 = .ok (.bipush 64, 2) := by decide +kernel
theorem dX4_seek_37 : decode cX4_seek 37 = .ok (.goto 6, 3) := by decide +kernel
theorem dX4_seek_40 : decode cX4_seek 40 = .ok (.sipush 256, 3) := by decide +kernel
theorem dX4_seek_43 : decode cX4_seek 43 = .ok (.istore_n 3, 1) := by decide +kernel
theorem dX4_seek_44 : decode cX4_seek 44 = .ok (.iconst 0, 1) := by decide +kernel
theorem dX4_seek_45 : decode cX4_seek 45 = .ok (.istore 4, 2) := by decide +kernel
theorem dX4_seek_47 : decode cX4_seek 47 = .ok (.iload 4, 2) := by decide +kernel
theorem dX4_seek_49 : decode cX4_seek 49 = .ok (.iload_n 3, 1) := by decide +kernel
theorem dX4_seek_50 : decode cX4_seek 50 = .ok (.if_icmp .ge 106, 3) := by decide +kernel
theorem dX4_seek_53 : decode cX4_seek 53 = .ok (.iload 4, 2) := by decide +kernel
theorem dX4_seek_55 : decode cX4_seek 55 = .ok (.istore 5, 2) := by decide +kernel
theorem dX4_seek_57 : decode cX4_seek 57 = .ok (.iload_n 2, 1) := by decide +kernel
theorem dX4_seek_58 : decode cX4_seek 58 = .ok (.iconst 1, 1) := by decide +kernel
theorem dX4_seek_59 : decode cX4_seek 59 = .ok (.isub, 1) := by decide +kernel
theorem dX4_seek_60 : decode cX4_seek 60 = .ok (.istore 6, 2) := by decide +kernel
theorem dX4_seek_62 : decode cX4_seek 62 = .ok (.iload 6, 2) := by decide +kernel
theorem dX4_seek_64 : decode cX4_seek 64 = .ok (.ifCond .lt 26, 3) := by decide +kernel
theorem dX4_seek_67 : decode cX4_seek 67 = .ok (.aload_n 0, 1) := by decide +kernel
theorem dX4_seek_68 : decode cX4_seek 68 = .ok (.getfield 43, 3) := by decide +kernel
theorem dX4_seek_71 : decode cX4_seek 71 = .ok (.iload 6, 2) := by decide +kernel
theorem dX4_seek_73 : decode cX4_seek 73 = .ok (.iload 5, 2) := by decide +kernel
theorem dX4_seek_75 : decode cX4_seek 75 = .ok (.iconst 4, 1) := by decide +kernel
theorem dX4_seek_76 : decode cX4_seek 76 = .ok (.irem, 1) := by decide +kernel
theorem dX4_seek_77 : decode cX4_seek 77 = .ok (.iastore, 1) := by decide +kernel
theorem dX4_seek_78 : decode cX4_seek 78 = .ok (.iload 5, 2) := by decide +kernel
theorem dX4_seek_80 : decode cX4_seek 80 = .ok (.iconst 4, 1) := by decide +kernel
theorem dX4_seek_81 : decode cX4_seek 81 = .ok (.idiv, 1) := by decide +kernel
theorem dX4_seek_82 : decode cX4_seek 82 = .ok (.istore 5, 2) := by decide +kernel
theorem dX4_seek_84 : decode cX4_seek 84 = .ok (.iinc 6 (-1), 3) := by decide +kernel
theorem dX4_seek_87 : decode cX4_seek 87 = .ok (.goto (-25), 3) := by decide +kernel
theorem dX4_seek_90 : decode cX4_seek 90 = .ok (.aload_n 0, 1) := by decide +kernel
theorem dX4_seek_91 : decode cX4_seek 91 = .ok (.iload_n 2, 1) := by decide +kernel
theorem dX4_seek_92 : decode cX4_seek 92 = .ok (.invokevirtual 114, 3) := by decide +kernel
theorem dX4_seek_95 : decode cX4_seek 95 = .ok (.ifCond .eq 55, 3) := by decide +kernel
theorem dX4_seek_98 : decode cX4_seek 98 = .ok (.aload_n 0, 1) := by decide +kernel
theorem dX4_seek_99 : decode cX4_seek 99 = .ok (.getfield 108, 3) := by decide +kernel
theorem dX4_seek_102 : decode cX4_seek 102 = .ok (.iload_n 1, 1) := by decide +kernel
theorem dX4_seek_103 : decode cX4_seek 103 = .ok (.if_icmp .ne 37, 3) := by decide +kernel
theorem dX4_seek_106 : decode cX4_seek 106 = .ok (.aload_n 0, 1) := by decide +kernel
theorem dX4_seek_107 : decode cX4_seek 107 = .ok (.iload_n 2, 1) := by decide +kernel
theorem dX4_seek_108 : decode cX4_seek 108 = .ok (.putfield 111, 3) := by decide +kernel
theorem dX4_seek_111 : decode cX4_seek 111 = .ok (.iconst 0, 1) := by decide +kernel
theorem dX4_seek_112 : decode cX4_seek 112 = .ok (.istore 6, 2) := by decide +kernel
theorem dX4_seek_114 : decode cX4_seek 114 = .ok (.iload 6, 2) := by decide +kernel
theorem dX4_seek_116 : decode cX4_seek 116 = .ok (.iload_n 2, 1) := by decide +kernel
theorem dX4_seek_117 : decode cX4_seek 117 = .ok (.if_icmp .ge 23, 3) := by decide +kernel
theorem dX4_seek_120 : decode cX4_seek 120 = .ok (.aload_n 0, 1) := by decide +kernel
theorem dX4_seek_121 : decode cX4_seek 121 = .ok (.getfield 40, 3) := by decide +kernel
theorem dX4_seek_124 : decode cX4_seek 124 = .ok (.iload 6, 2) := by decide +kernel
theorem dX4_seek_126 : decode cX4_seek 126 = .ok (.aload_n 0, 1) := by decide +kernel
theorem dX4_seek_127 : decode cX4_seek 127 = .ok (.getfield 43, 3) := by decide +kernel
theorem dX4_seek_130 : decode cX4_seek 130 = .ok (.iload 6, 2) := by decide +kernel
theorem dX4_seek_132 : decode cX4_seek 132 = .ok (.iaload, 1) := by decide +kernel
theorem dX4_seek_133 : decode cX4_seek 133 = .ok (.iastore, 1) := by decide +kernel
theorem dX4_seek_134 : decode cX4_seek 134 = .ok (.iinc 6 1, 3) := by decide +kernel
theorem dX4_seek_137 : decode cX4_seek 137 = .ok (.goto (-23), 3) := by decide +kernel
theorem dX4_seek_140 : decode cX4_seek 140 = .ok (.aload_n 0, 1) := by decide +kernel
theorem dX4_seek_141 : decode cX4_seek 141 = .ok (.dup, 1) := by decide +kernel
theorem dX4_seek_142 : decode cX4_seek 142 = .ok (.getfield 108, 3) := by decide +kernel
theorem dX4_seek_145 : decode cX4_seek 145 = .ok (.iconst 1, 1) := by decide +kernel
theorem dX4_seek_146 : decode cX4_seek 146 = .ok (.iadd, 1) := by decide +kernel
theorem dX4_seek_147 : decode cX4_seek 147 = .ok (.putfield 108, 3) := by decide +kernel
theorem dX4_seek_150 : decode cX4_seek 150 = .ok (.iinc 4 1, 3) := by decide +kernel
theorem dX4_seek_153 : decode cX4_seek 153 = .ok (.goto (-106), 3) := by decide +kernel
theorem dX4_seek_156 : decode cX4_seek 156 = .ok (.iinc 2 1, 3) := by decide +kernel
theorem dX4_seek_159 : decode cX4_seek 159 = .ok (.goto (-147), 3) := by decide +kernel
theorem dX4_seek_162 : decode cX4_seek 162 = .ok (.return_, 1) := by decide +kernel
theorem dX4_rings_0 : decode cX4_rings 0 = .ok (.aload_n 0, 1) := by decide +kernel
theorem dX4_rings_1 : decode cX4_rings 1 = .ok (.iconst (-1), 1) := by decide +kernel
theorem dX4_rings_2 : decode cX4_rings 2 = .ok (.invokevirtual 117, 3) := by decide +kernel
theorem dX4_rings_5 : decode cX4_rings 5 = .ok (.aload_n 0, 1) := by decide +kernel
theorem dX4_rings_6 : decode cX4_rings 6 = .ok (.getfield 108, 3) := by decide +kernel
theorem dX4_rings_9 : decode cX4_rings 9 = .ok (.ireturn, 1) := by decide +kernel
theorem dX4_ring_0 : decode cX4_ring 0 = .ok (.iload_n 1, 1) := by decide +kernel
theorem dX4_ring_1 : decode cX4_ring 1 = .ok (.ifCond .ge 5, 3) := by decide +kernel
theorem dX4_ring_4 : decode cX4_ring 4 = .ok (.iconst (-1), 1) := by decide +kernel
theorem dX4_ring_5 : decode cX4_ring 5 = .ok (.ireturn, 1) := by decide +kernel
theorem dX4_ring_6 : decode cX4_ring 6 = .ok (.aload_n 0, 1) := by decide +kernel
theorem dX4_ring_7 : decode cX4_ring 7 = .ok (.iload_n 1, 1) := by decide +kernel
theorem dX4_ring_8 : decode cX4_ring 8 = .ok (.invokevirtual 117, 3) := by decide +kernel
theorem dX4_ring_11 : decode cX4_ring 11 = .ok (.iconst 0, 1) := by decide +kernel
theorem dX4_ring_12 : decode cX4_ring 12 = .ok (.istore_n 2, 1) := by decide +kernel
theorem dX4_ring_13 : decode cX4_ring 13 = .ok (.iconst 0, 1) := by decide +kernel
theorem dX4_ring_14 : decode cX4_ring 14 = .ok (.istore_n 3, 1) := by decide +kernel
theorem dX4_ring_15 : decode cX4_ring 15 = .ok (.iload_n 3, 1) := by decide +kernel
theorem dX4_ring_16 : decode cX4_ring 16 = .ok (.aload_n 0, 1) := by decide +kernel
theorem dX4_ring_17 : decode cX4_ring 17 = .ok (.getfield 111, 3) := by decide +kernel
theorem dX4_ring_20 : decode cX4_ring 20 = .ok (.if_icmp .ge 23, 3) := by decide +kernel
theorem dX4_ring_23 : decode cX4_ring 23 = .ok (.bipush 10, 2) := by decide +kernel
theorem dX4_ring_25 : decode cX4_ring 25 = .ok (.iload_n 2, 1) := by decide +kernel
theorem dX4_ring_26 : decode cX4_ring 26 = .ok (.imul, 1) := by decide +kernel
theorem dX4_ring_27 : decode cX4_ring 27 = .ok (.aload_n 0, 1) := by decide +kernel
theorem dX4_ring_28 : decode cX4_ring 28 = .ok (.getfield 40, 3) := by decide +kernel
theorem dX4_ring_31 : decode cX4_ring 31 = .ok (.iload_n 3, 1) := by decide +kernel
theorem dX4_ring_32 : decode cX4_ring 32 = .ok (.iaload, 1) := by decide +kernel
theorem dX4_ring_33 : decode cX4_ring 33 = .ok (.iadd, 1) := by decide +kernel
theorem dX4_ring_34 : decode cX4_ring 34 = .ok (.iconst 1, 1) := by decide +kernel
theorem dX4_ring_35 : decode cX4_ring 35 = .ok (.iadd, 1) := by decide +kernel
theorem dX4_ring_36 : decode cX4_ring 36 = .ok (.istore_n 2, 1) := by decide +kernel
theorem dX4_ring_37 : decode cX4_ring 37 = .ok (.iinc 3 1, 3) := by decide +kernel
theorem dX4_ring_40 : decode cX4_ring 40 = .ok (.goto (-25), 3) := by decide +kernel
theorem dX4_ring_43 : decode cX4_ring 43 = .ok (.aload_n 0, 1) := by decide +kernel
theorem dX4_ring_44 : decode cX4_ring 44 = .ok (.getfield 111, 3) := by decide +kernel
theorem dX4_ring_47 : decode cX4_ring 47 = .ok (.ifCond .ne 7, 3) := by decide +kernel
theorem dX4_ring_50 : decode cX4_ring 50 = .ok (.iconst (-1), 1) := by decide +kernel
theorem dX4_ring_51 : decode cX4_ring 51 = .ok (.goto 4, 3) := by decide +kernel
theorem dX4_ring_54 : decode cX4_ring 54 = .ok (.iload_n 2, 1) := by decide +kernel
theorem dX4_ring_55 : decode cX4_ring 55 = .ok (.ireturn, 1) := by decide +kernel
theorem dX4_debtOf_0 : decode cX4_debtOf 0 = .ok (.iconst 5, 1) := by decide +kernel
theorem dX4_debtOf_1 : decode cX4_debtOf 1 = .ok (.aload_n 0, 1) := by decide +kernel
theorem dX4_debtOf_2 : decode cX4_debtOf 2 = .ok (.getfield 40, 3) := by decide +kernel
theorem dX4_debtOf_5 : decode cX4_debtOf 5 = .ok (.iload_n 1, 1) := by decide +kernel
theorem dX4_debtOf_6 : decode cX4_debtOf 6 = .ok (.iaload, 1) := by decide +kernel
theorem dX4_debtOf_7 : decode cX4_debtOf 7 = .ok (.imul, 1) := by decide +kernel
theorem dX4_debtOf_8 : decode cX4_debtOf 8 = .ok (.aload_n 0, 1) := by decide +kernel
theorem dX4_debtOf_9 : decode cX4_debtOf 9 = .ok (.getfield 40, 3) := by decide +kernel
theorem dX4_debtOf_12 : decode cX4_debtOf 12 = .ok (.iload_n 1, 1) := by decide +kernel
theorem dX4_debtOf_13 : decode cX4_debtOf 13 = .ok (.iconst 1, 1) := by decide +kernel
theorem dX4_debtOf_14 : decode cX4_debtOf 14 = .ok (.iadd, 1) := by decide +kernel
theorem dX4_debtOf_15 : decode cX4_debtOf 15 = .ok (.aload_n 0, 1) := by decide +kernel
theorem dX4_debtOf_16 : decode cX4_debtOf 16 = .ok (.getfield 111, 3) := by decide +kernel
theorem dX4_debtOf_19 : decode cX4_debtOf 19 = .ok (.if_icmp .ne 7, 3) := by decide +kernel
theorem dX4_debtOf_22 : decode cX4_debtOf 22 = .ok (.iconst 0, 1) := by decide +kernel
theorem dX4_debtOf_23 : decode cX4_debtOf 23 = .ok (.goto 6, 3) := by decide +kernel
theorem dX4_debtOf_26 : decode cX4_debtOf 26 = .ok (.iload_n 1, 1) := by decide +kernel
theorem dX4_debtOf_27 : decode cX4_debtOf 27 = .ok (.iconst 1, 1) := by decide +kernel
theorem dX4_debtOf_28 : decode cX4_debtOf 28 = .ok (.iadd, 1) := by decide +kernel
theorem dX4_debtOf_29 : decode cX4_debtOf 29 = .ok (.iaload, 1) := by decide +kernel
theorem dX4_debtOf_30 : decode cX4_debtOf 30 = .ok (.iadd, 1) := by decide +kernel
theorem dX4_debtOf_31 : decode cX4_debtOf 31 = .ok (.ireturn, 1) := by decide +kernel
theorem dX4_cancelOne_0 : decode cX4_cancelOne 0 = .ok (.aload_n 0, 1) := by decide +kernel
theorem dX4_cancelOne_1 : decode cX4_cancelOne 1 = .ok (.iconst 0, 1) := by decide +kernel
theorem dX4_cancelOne_2 : decode cX4_cancelOne 2 = .ok (.invokevirtual 117, 3) := by decide +kernel
theorem dX4_cancelOne_5 : decode cX4_cancelOne 5 = .ok (.iconst 0, 1) := by decide +kernel
theorem dX4_cancelOne_6 : decode cX4_cancelOne 6 = .ok (.istore_n 1, 1) := by decide +kernel
theorem dX4_cancelOne_7 : decode cX4_cancelOne 7 = .ok (.iconst 0, 1) := by decide +kernel
theorem dX4_cancelOne_8 : decode cX4_cancelOne 8 = .ok (.istore_n 2, 1) := by decide +kernel
theorem dX4_cancelOne_9 : decode cX4_cancelOne 9 = .ok (.iload_n 2, 1) := by decide +kernel
theorem dX4_cancelOne_10 : decode cX4_cancelOne 10 = .ok (.aload_n 0, 1) := by decide +kernel
theorem dX4_cancelOne_11 : decode cX4_cancelOne 11 = .ok (.getfield 111, 3) := by decide +kernel
theorem dX4_cancelOne_14 : decode cX4_cancelOne 14 = .ok (.if_icmp .ge 35, 3) := by decide +kernel
theorem dX4_cancelOne_17 : decode cX4_cancelOne 17 = .ok (.aload_n 0, 1) := by decide +kernel
theorem dX4_cancelOne_18 : decode cX4_cancelOne 18 = .ok (.getfield 17, 3) := by decide +kernel
theorem dX4_cancelOne_21 : decode cX4_cancelOne 21 = .ok (.aload_n 0, 1) := by decide +kernel
theorem dX4_cancelOne_22 : decode cX4_cancelOne 22 = .ok (.iload_n 2, 1) := by decide +kernel
theorem dX4_cancelOne_23 : decode cX4_cancelOne 23 = .ok (.invokevirtual 121, 3) := by decide +kernel
theorem dX4_cancelOne_26 : decode cX4_cancelOne 26 = .ok (.iaload, 1) := by decide +kernel
theorem dX4_cancelOne_27 : decode cX4_cancelOne 27 = .ok (.istore_n 3, 1) := by decide +kernel
theorem dX4_cancelOne_28 : decode cX4_cancelOne 28 = .ok (.iload_n 2, 1) := by decide +kernel
theorem dX4_cancelOne_29 : decode cX4_cancelOne 29 = .ok (.ifCond .eq 8, 3) := by decide +kernel
theorem dX4_cancelOne_32 : decode cX4_cancelOne 32 = .ok (.iload_n 3, 1) := by decide +kernel
theorem dX4_cancelOne_33 : decode cX4_cancelOne 33 = .ok (.iload_n 1, 1) := by decide +kernel
theorem dX4_cancelOne_34 : decode cX4_cancelOne 34 = .ok (.if_icmp .ge 7, 3) := by decide +kernel
theorem dX4_cancelOne_37 : decode cX4_cancelOne 37 = .ok (.iload_n 3, 1) := by decide +kernel
theorem dX4_cancelOne_38 : decode cX4_cancelOne 38 = .ok (.goto 4, 3) := by decide +kernel
theorem dX4_cancelOne_41 : decode cX4_cancelOne 41 = .ok (.iload_n 1, 1) := by decide +kernel
theorem dX4_cancelOne_42 : decode cX4_cancelOne 42 = .ok (.istore_n 1, 1) := by decide +kernel
theorem dX4_cancelOne_43 : decode cX4_cancelOne 43 = .ok (.iinc 2 1, 3) := by decide +kernel
theorem dX4_cancelOne_46 : decode cX4_cancelOne 46 = .ok (.goto (-37), 3) := by decide +kernel
theorem dX4_cancelOne_49 : decode cX4_cancelOne 49 = .ok (.iconst 0, 1) := by decide +kernel
theorem dX4_cancelOne_50 : decode cX4_cancelOne 50 = .ok (.istore_n 2, 1) := by decide +kernel
theorem dX4_cancelOne_51 : decode cX4_cancelOne 51 = .ok (.iload_n 2, 1) := by decide +kernel
theorem dX4_cancelOne_52 : decode cX4_cancelOne 52 = .ok (.aload_n 0, 1) := by decide +kernel
theorem dX4_cancelOne_53 : decode cX4_cancelOne 53 = .ok (.getfield 111, 3) := by decide +kernel
theorem dX4_cancelOne_56 : decode cX4_cancelOne 56 = .ok (.if_icmp .ge 23, 3) := by decide +kernel
theorem dX4_cancelOne_59 : decode cX4_cancelOne 59 = .ok (.aload_n 0, 1) := by decide +kernel
theorem dX4_cancelOne_60 : decode cX4_cancelOne 60 = .ok (.getfield 17, 3) := by decide +kernel
theorem dX4_cancelOne_63 : decode cX4_cancelOne 63 = .ok (.aload_n 0, 1) := by decide +kernel
theorem dX4_cancelOne_64 : decode cX4_cancelOne 64 = .ok (.iload_n 2, 1) := by decide +kernel
theorem dX4_cancelOne_65 : decode cX4_cancelOne 65 = .ok (.invokevirtual 121, 3) := by decide +kernel
theorem dX4_cancelOne_68 : decode cX4_cancelOne 68 = .ok (.dup2, 1) := by decide +kernel
theorem dX4_cancelOne_69 : decode cX4_cancelOne 69 = .ok (.iaload, 1) := by decide +kernel
theorem dX4_cancelOne_70 : decode cX4_cancelOne 70 = .ok (.iload_n 1, 1) := by decide +kernel
theorem dX4_cancelOne_71 : decode cX4_cancelOne 71 = .ok (.isub, 1) := by decide +kernel
theorem dX4_cancelOne_72 : decode cX4_cancelOne 72 = .ok (.iastore, 1) := by decide +kernel
theorem dX4_cancelOne_73 : decode cX4_cancelOne 73 = .ok (.iinc 2 1, 3) := by decide +kernel
theorem dX4_cancelOne_76 : decode cX4_cancelOne 76 = .ok (.goto (-25), 3) := by decide +kernel
theorem dX4_cancelOne_79 : decode cX4_cancelOne 79 = .ok (.iload_n 1, 1) := by decide +kernel
theorem dX4_cancelOne_80 : decode cX4_cancelOne 80 = .ok (.ireturn, 1) := by decide +kernel
theorem dX4_cancel_0 : decode cX4_cancel 0 = .ok (.aload_n 0, 1) := by decide +kernel
theorem dX4_cancel_1 : decode cX4_cancel 1 = .ok (.invokevirtual 124, 3) := by decide +kernel
theorem dX4_cancel_4 : decode cX4_cancel 4 = .ok (.ireturn, 1) := by decide +kernel
theorem dX4_cancelAll_0 : decode cX4_cancelAll 0 = .ok (.iconst 0, 1) := by decide +kernel
theorem dX4_cancelAll_1 : decode cX4_cancelAll 1 = .ok (.istore_n 1, 1) := by decide +kernel
theorem dX4_cancelAll_2 : decode cX4_cancelAll 2 = .ok (.aload_n 0, 1) := by decide +kernel
theorem dX4_cancelAll_3 : decode cX4_cancelAll 3 = .ok (.invokevirtual 124, 3) := by decide +kernel
theorem dX4_cancelAll_6 : decode cX4_cancelAll 6 = .ok (.istore_n 2, 1) := by decide +kernel
theorem dX4_cancelAll_7 : decode cX4_cancelAll 7 = .ok (.iload_n 2, 1) := by decide +kernel
theorem dX4_cancelAll_8 : decode cX4_cancelAll 8 = .ok (.ifCond .le 20, 3) := by decide +kernel
theorem dX4_cancelAll_11 : decode cX4_cancelAll 11 = .ok (.iload_n 1, 1) := by decide +kernel
theorem dX4_cancelAll_12 : decode cX4_cancelAll 12 = .ok (.iload_n 2, 1) := by decide +kernel
theorem dX4_cancelAll_13 : decode cX4_cancelAll 13 = .ok (.aload_n 0, 1) := by decide +kernel
theorem dX4_cancelAll_14 : decode cX4_cancelAll 14 = .ok (.getfield 111, 3) := by decide +kernel
theorem dX4_cancelAll_17 : decode cX4_cancelAll 17 = .ok (.imul, 1) := by decide +kernel
theorem dX4_cancelAll_18 : decode cX4_cancelAll 18 = .ok (.iadd, 1) := by decide +kernel
theorem dX4_cancelAll_19 : decode cX4_cancelAll 19 = .ok (.istore_n 1, 1) := by decide +kernel
theorem dX4_cancelAll_20 : decode cX4_cancelAll 20 = .ok (.aload_n 0, 1) := by decide +kernel
theorem dX4_cancelAll_21 : decode cX4_cancelAll 21 = .ok (.invokevirtual 124, 3) := by decide +kernel
theorem dX4_cancelAll_24 : decode cX4_cancelAll 24 = .ok (.istore_n 2, 1) := by decide +kernel
theorem dX4_cancelAll_25 : decode cX4_cancelAll 25 = .ok (.goto (-18), 3) := by decide +kernel
theorem dX4_cancelAll_28 : decode cX4_cancelAll 28 = .ok (.iload_n 1, 1) := by decide +kernel
theorem dX4_cancelAll_29 : decode cX4_cancelAll 29 = .ok (.ireturn, 1) := by decide +kernel
theorem dX4_payOne_0 : decode cX4_payOne 0 = .ok (.aload_n 0, 1) := by decide +kernel
theorem dX4_payOne_1 : decode cX4_payOne 1 = .ok (.getfield 17, 3) := by decide +kernel
theorem dX4_payOne_4 : decode cX4_payOne 4 = .ok (.iconst 5, 1) := by decide +kernel
theorem dX4_payOne_5 : decode cX4_payOne 5 = .ok (.iload_n 1, 1) := by decide +kernel
theorem dX4_payOne_6 : decode cX4_payOne 6 = .ok (.imul, 1) := by decide +kernel
theorem dX4_payOne_7 : decode cX4_payOne 7 = .ok (.iload_n 2, 1) := by decide +kernel
theorem dX4_payOne_8 : decode cX4_payOne 8 = .ok (.iadd, 1) := by decide +kernel
theorem dX4_payOne_9 : decode cX4_payOne 9 = .ok (.iaload, 1) := by decide +kernel
theorem dX4_payOne_10 : decode cX4_payOne 10 = .ok (.istore_n 3, 1) := by decide +kernel
theorem dX4_payOne_11 : decode cX4_payOne 11 = .ok (.iload_n 3, 1) := by decide +kernel
theorem dX4_payOne_12 : decode cX4_payOne 12 = .ok (.ifCond .eq 15, 3) := by decide +kernel
theorem dX4_payOne_15 : decode cX4_payOne 15 = .ok (.aload_n 0, 1) := by decide +kernel
theorem dX4_payOne_16 : decode cX4_payOne 16 = .ok (.getfield 13, 3) := by decide +kernel
theorem dX4_payOne_19 : decode cX4_payOne 19 = .ok (.iload_n 1, 1) := by decide +kernel
theorem dX4_payOne_20 : decode cX4_payOne 20 = .ok (.laload, 1) := by decide +kernel
theorem dX4_payOne_21 : decode cX4_payOne 21 = .ok (.iload_n 3, 1) := by decide +kernel
theorem dX4_payOne_22 : decode cX4_payOne 22 = .ok (.i2l, 1) := by decide +kernel
theorem dX4_payOne_23 : decode cX4_payOne 23 = .ok (.lcmp, 1) := by decide +kernel
theorem dX4_payOne_24 : decode cX4_payOne 24 = .ok (.ifCond .ge 5, 3) := by decide +kernel
theorem dX4_payOne_27 : decode cX4_payOne 27 = .ok (.iconst 0, 1) := by decide +kernel
theorem dX4_payOne_28 : decode cX4_payOne 28 = .ok (.ireturn, 1) := by decide +kernel
theorem dX4_payOne_29 : decode cX4_payOne 29 = .ok (.aload_n 0, 1) := by decide +kernel
theorem dX4_payOne_30 : decode cX4_payOne 30 = .ok (.getfield 17, 3) := by decide +kernel
theorem dX4_payOne_33 : decode cX4_payOne 33 = .ok (.iconst 5, 1) := by decide +kernel
theorem dX4_payOne_34 : decode cX4_payOne 34 = .ok (.iload_n 1, 1) := by decide +kernel
theorem dX4_payOne_35 : decode cX4_payOne 35 = .ok (.imul, 1) := by decide +kernel
theorem dX4_payOne_36 : decode cX4_payOne 36 = .ok (.iload_n 2, 1) := by decide +kernel
theorem dX4_payOne_37 : decode cX4_payOne 37 = .ok (.iadd, 1) := by decide +kernel
theorem dX4_payOne_38 : decode cX4_payOne 38 = .ok (.iconst 0, 1) := by decide +kernel
theorem dX4_payOne_39 : decode cX4_payOne 39 = .ok (.iastore, 1) := by decide +kernel
theorem dX4_payOne_40 : decode cX4_payOne 40 = .ok (.aload_n 0, 1) := by decide +kernel
theorem dX4_payOne_41 : decode cX4_payOne 41 = .ok (.getfield 13, 3) := by decide +kernel
theorem dX4_payOne_44 : decode cX4_payOne 44 = .ok (.iload_n 1, 1) := by decide +kernel
theorem dX4_payOne_45 : decode cX4_payOne 45 = .ok (.dup2, 1) := by decide +kernel
theorem dX4_payOne_46 : decode cX4_payOne 46 = .ok (.laload, 1) := by decide +kernel
theorem dX4_payOne_47 : decode cX4_payOne 47 = .ok (.iload_n 3, 1) := by decide +kernel
theorem dX4_payOne_48 : decode cX4_payOne 48 = .ok (.i2l, 1) := by decide +kernel
theorem dX4_payOne_49 : decode cX4_payOne 49 = .ok (.lsub, 1) := by decide +kernel
theorem dX4_payOne_50 : decode cX4_payOne 50 = .ok (.lastore, 1) := by decide +kernel
theorem dX4_payOne_51 : decode cX4_payOne 51 = .ok (.iload_n 2, 1) := by decide +kernel
theorem dX4_payOne_52 : decode cX4_payOne 52 = .ok (.aload_n 0, 1) := by decide +kernel
theorem dX4_payOne_53 : decode cX4_payOne 53 = .ok (.getfield 7, 3) := by decide +kernel
theorem dX4_payOne_56 : decode cX4_payOne 56 = .ok (.if_icmp .ne 17, 3) := by decide +kernel
theorem dX4_payOne_59 : decode cX4_payOne 59 = .ok (.aload_n 0, 1) := by decide +kernel
theorem dX4_payOne_60 : decode cX4_payOne 60 = .ok (.dup, 1) := by decide +kernel
theorem dX4_payOne_61 : decode cX4_payOne 61 = .ok (.getfield 53, 3) := by decide +kernel
theorem dX4_payOne_64 : decode cX4_payOne 64 = .ok (.iload_n 3, 1) := by decide +kernel
theorem dX4_payOne_65 : decode cX4_payOne 65 = .ok (.i2l, 1) := by decide +kernel
theorem dX4_payOne_66 : decode cX4_payOne 66 = .ok (.ladd, 1) := by decide +kernel
theorem dX4_payOne_67 : decode cX4_payOne 67 = .ok (.putfield 53, 3) := by decide +kernel
theorem dX4_payOne_70 : decode cX4_payOne 70 = .ok (.goto 14, 3) := by decide +kernel
theorem dX4_payOne_73 : decode cX4_payOne 73 = .ok (.aload_n 0, 1) := by decide +kernel
theorem dX4_payOne_74 : decode cX4_payOne 74 = .ok (.getfield 13, 3) := by decide +kernel
theorem dX4_payOne_77 : decode cX4_payOne 77 = .ok (.iload_n 2, 1) := by decide +kernel
theorem dX4_payOne_78 : decode cX4_payOne 78 = .ok (.dup2, 1) := by decide +kernel
theorem dX4_payOne_79 : decode cX4_payOne 79 = .ok (.laload, 1) := by decide +kernel
theorem dX4_payOne_80 : decode cX4_payOne 80 = .ok (.iload_n 3, 1) := by decide +kernel
theorem dX4_payOne_81 : decode cX4_payOne 81 = .ok (.i2l, 1) := by decide +kernel
theorem dX4_payOne_82 : decode cX4_payOne 82 = .ok (.ladd, 1) := by decide +kernel
theorem dX4_payOne_83 : decode cX4_payOne 83 = .ok (.lastore, 1) := by decide +kernel
theorem dX4_payOne_84 : decode cX4_payOne 84 = .ok (.iconst 1, 1) := by decide +kernel
theorem dX4_payOne_85 : decode cX4_payOne 85 = .ok (.ireturn, 1) := by decide +kernel
theorem dX4_passDay_0 : decode cX4_passDay 0 = .ok (.iconst 0, 1) := by decide +kernel
theorem dX4_passDay_1 : decode cX4_passDay 1 = .ok (.istore_n 1, 1) := by decide +kernel
theorem dX4_passDay_2 : decode cX4_passDay 2 = .ok (.iconst 0, 1) := by decide +kernel
theorem dX4_passDay_3 : decode cX4_passDay 3 = .ok (.istore_n 2, 1) := by decide +kernel
theorem dX4_passDay_4 : decode cX4_passDay 4 = .ok (.iload_n 2, 1) := by decide +kernel
theorem dX4_passDay_5 : decode cX4_passDay 5 = .ok (.aload_n 0, 1) := by decide +kernel
theorem dX4_passDay_6 : decode cX4_passDay 6 = .ok (.getfield 7, 3) := by decide +kernel
theorem dX4_passDay_9 : decode cX4_passDay 9 = .ok (.if_icmp .ge 46, 3) := by decide +kernel
theorem dX4_passDay_12 : decode cX4_passDay 12 = .ok (.iload_n 1, 1) := by decide +kernel
theorem dX4_passDay_13 : decode cX4_passDay 13 = .ok (.aload_n 0, 1) := by decide +kernel
theorem dX4_passDay_14 : decode cX4_passDay 14 = .ok (.iload_n 2, 1) := by decide +kernel
theorem dX4_passDay_15 : decode cX4_passDay 15 = .ok (.aload_n 0, 1) := by decide +kernel
theorem dX4_passDay_16 : decode cX4_passDay 16 = .ok (.getfield 7, 3) := by decide +kernel
theorem dX4_passDay_19 : decode cX4_passDay 19 = .ok (.invokevirtual 128, 3) := by decide +kernel
theorem dX4_passDay_22 : decode cX4_passDay 22 = .ok (.iadd, 1) := by decide +kernel
theorem dX4_passDay_23 : decode cX4_passDay 23 = .ok (.istore_n 1, 1) := by decide +kernel
theorem dX4_passDay_24 : decode cX4_passDay 24 = .ok (.iconst 0, 1) := by decide +kernel
theorem dX4_passDay_25 : decode cX4_passDay 25 = .ok (.istore_n 3, 1) := by decide +kernel
theorem dX4_passDay_26 : decode cX4_passDay 26 = .ok (.iload_n 3, 1) := by decide +kernel
theorem dX4_passDay_27 : decode cX4_passDay 27 = .ok (.aload_n 0, 1) := by decide +kernel
theorem dX4_passDay_28 : decode cX4_passDay 28 = .ok (.getfield 7, 3) := by decide +kernel
theorem dX4_passDay_31 : decode cX4_passDay 31 = .ok (.if_icmp .ge 18, 3) := by decide +kernel
theorem dX4_passDay_34 : decode cX4_passDay 34 = .ok (.iload_n 1, 1) := by decide +kernel
theorem dX4_passDay_35 : decode cX4_passDay 35 = .ok (.aload_n 0, 1) := by decide +kernel
theorem dX4_passDay_36 : decode cX4_passDay 36 = .ok (.iload_n 2, 1) := by decide +kernel
theorem dX4_passDay_37 : decode cX4_passDay 37 = .ok (.iload_n 3, 1) := by decide +kernel
theorem dX4_passDay_38 : decode cX4_passDay 38 = .ok (.invokevirtual 128, 3) := by decide +kernel
theorem dX4_passDay_41 : decode cX4_passDay 41 = .ok (.iadd, 1) := by decide +kernel
theorem dX4_passDay_42 : decode cX4_passDay 42 = .ok (.istore_n 1, 1) := by decide +kernel
theorem dX4_passDay_43 : decode cX4_passDay 43 = .ok (.iinc 3 1, 3) := by decide +kernel
theorem dX4_passDay_46 : decode cX4_passDay 46 = .ok (.goto (-20), 3) := by decide +kernel
theorem dX4_passDay_49 : decode cX4_passDay 49 = .ok (.iinc 2 1, 3) := by decide +kernel
theorem dX4_passDay_52 : decode cX4_passDay 52 = .ok (.goto (-48), 3) := by decide +kernel
theorem dX4_passDay_55 : decode cX4_passDay 55 = .ok (.iload_n 1, 1) := by decide +kernel
theorem dX4_passDay_56 : decode cX4_passDay 56 = .ok (.ireturn, 1) := by decide +kernel
theorem dX4_day_0 : decode cX4_day 0 = .ok (.aload_n 0, 1) := by decide +kernel
theorem dX4_day_1 : decode cX4_day 1 = .ok (.invokevirtual 132, 3) := by decide +kernel
theorem dX4_day_4 : decode cX4_day 4 = .ok (.ireturn, 1) := by decide +kernel
theorem dX4_days_0 : decode cX4_days 0 = .ok (.iconst 0, 1) := by decide +kernel
theorem dX4_days_1 : decode cX4_days 1 = .ok (.istore_n 1, 1) := by decide +kernel
theorem dX4_days_2 : decode cX4_days 2 = .ok (.aload_n 0, 1) := by decide +kernel
theorem dX4_days_3 : decode cX4_days 3 = .ok (.invokevirtual 132, 3) := by decide +kernel
theorem dX4_days_6 : decode cX4_days 6 = .ok (.ifCond .le 9, 3) := by decide +kernel
theorem dX4_days_9 : decode cX4_days 9 = .ok (.iinc 1 1, 3) := by decide +kernel
theorem dX4_days_12 : decode cX4_days 12 = .ok (.goto (-10), 3) := by decide +kernel
theorem dX4_days_15 : decode cX4_days 15 = .ok (.iload_n 1, 1) := by decide +kernel
theorem dX4_days_16 : decode cX4_days 16 = .ok (.ireturn, 1) := by decide +kernel
theorem dX4_count_0 : decode cX4_count 0 = .ok (.lconst 0, 1) := by decide +kernel
theorem dX4_count_1 : decode cX4_count 1 = .ok (.lstore_n 2, 1) := by decide +kernel
theorem dX4_count_2 : decode cX4_count 2 = .ok (.iconst 0, 1) := by decide +kernel
theorem dX4_count_3 : decode cX4_count 3 = .ok (.istore 4, 2) := by decide +kernel
theorem dX4_count_5 : decode cX4_count 5 = .ok (.iload 4, 2) := by decide +kernel
theorem dX4_count_7 : decode cX4_count 7 = .ok (.aload_n 0, 1) := by decide +kernel
theorem dX4_count_8 : decode cX4_count 8 = .ok (.getfield 7, 3) := by decide +kernel
theorem dX4_count_11 : decode cX4_count 11 = .ok (.if_icmp .ge 84, 3) := by decide +kernel
theorem dX4_count_14 : decode cX4_count 14 = .ok (.lload_n 2, 1) := by decide +kernel
theorem dX4_count_15 : decode cX4_count 15 = .ok (.iload_n 1, 1) := by decide +kernel
theorem dX4_count_16 : decode cX4_count 16 = .ok (.iconst 2, 1) := by decide +kernel
theorem dX4_count_17 : decode cX4_count 17 = .ok (.if_icmp .ne 13, 3) := by decide +kernel
theorem dX4_count_20 : decode cX4_count 20 = .ok (.aload_n 0, 1) := by decide +kernel
theorem dX4_count_21 : decode cX4_count 21 = .ok (.getfield 13, 3) := by decide +kernel
theorem dX4_count_24 : decode cX4_count 24 = .ok (.iload 4, 2) := by decide +kernel
theorem dX4_count_26 : decode cX4_count 26 = .ok (.laload, 1) := by decide +kernel
theorem dX4_count_27 : decode cX4_count 27 = .ok (.goto 60, 3) := by decide +kernel
theorem dX4_count_30 : decode cX4_count 30 = .ok (.iload_n 1, 1) := by decide +kernel
theorem dX4_count_31 : decode cX4_count 31 = .ok (.iconst 3, 1) := by decide +kernel
theorem dX4_count_32 : decode cX4_count 32 = .ok (.if_icmp .ne 13, 3) := by decide +kernel
theorem dX4_count_35 : decode cX4_count 35 = .ok (.aload_n 0, 1) := by decide +kernel
theorem dX4_count_36 : decode cX4_count 36 = .ok (.iload 4, 2) := by decide +kernel
theorem dX4_count_38 : decode cX4_count 38 = .ok (.invokevirtual 61, 3) := by decide +kernel
theorem dX4_count_41 : decode cX4_count 41 = .ok (.i2l, 1) := by decide +kernel
theorem dX4_count_42 : decode cX4_count 42 = .ok (.goto 45, 3) := by decide +kernel
theorem dX4_count_45 : decode cX4_count 45 = .ok (.iload_n 1, 1) := by decide +kernel
theorem dX4_count_46 : decode cX4_count 46 = .ok (.iconst 4, 1) := by decide +kernel
theorem dX4_count_47 : decode cX4_count 47 = .ok (.if_icmp .ne 21, 3) := by decide +kernel
theorem dX4_count_50 : decode cX4_count 50 = .ok (.aload_n 0, 1) := by decide +kernel
theorem dX4_count_51 : decode cX4_count 51 = .ok (.getfield 17, 3) := by decide +kernel
theorem dX4_count_54 : decode cX4_count 54 = .ok (.iconst 5, 1) := by decide +kernel
theorem dX4_count_55 : decode cX4_count 55 = .ok (.iload 4, 2) := by decide +kernel
theorem dX4_count_57 : decode cX4_count 57 = .ok (.imul, 1) := by decide +kernel
theorem dX4_count_58 : decode cX4_count 58 = .ok (.aload_n 0, 1) := by decide +kernel
theorem dX4_count_59 : decode cX4_count 59 = .ok (.getfield 7, 3) := by decide +kernel
theorem dX4_count_62 : decode cX4_count 62 = .ok (.iadd, 1) := by decide +kernel
theorem dX4_count_63 : decode cX4_count 63 = .ok (.iaload, 1) := by decide +kernel
theorem dX4_count_64 : decode cX4_count 64 = .ok (.i2l, 1) := by decide +kernel
theorem dX4_count_65 : decode cX4_count 65 = .ok (.goto 22, 3) := by decide +kernel
theorem dX4_count_68 : decode cX4_count 68 = .ok (.iload_n 1, 1) := by decide +kernel
theorem dX4_count_69 : decode cX4_count 69 = .ok (.iconst 5, 1) := by decide +kernel
theorem dX4_count_70 : decode cX4_count 70 = .ok (.if_icmp .ne 16, 3) := by decide +kernel
theorem dX4_count_73 : decode cX4_count 73 = .ok (.aload_n 0, 1) := by decide +kernel
theorem dX4_count_74 : decode cX4_count 74 = .ok (.iload 4, 2) := by decide +kernel
theorem dX4_count_76 : decode cX4_count 76 = .ok (.invokevirtual 61, 3) := by decide +kernel
theorem dX4_count_79 : decode cX4_count 79 = .ok (.ifCond .le 7, 3) := by decide +kernel
theorem dX4_count_82 : decode cX4_count 82 = .ok (.lconst 1, 1) := by decide +kernel
theorem dX4_count_83 : decode cX4_count 83 = .ok (.goto 4, 3) := by decide +kernel
theorem dX4_count_86 : decode cX4_count 86 = .ok (.lconst 0, 1) := by decide +kernel
theorem dX4_count_87 : decode cX4_count 87 = .ok (.ladd, 1) := by decide +kernel
theorem dX4_count_88 : decode cX4_count 88 = .ok (.lstore_n 2, 1) := by decide +kernel
theorem dX4_count_89 : decode cX4_count 89 = .ok (.iinc 4 1, 3) := by decide +kernel
theorem dX4_count_92 : decode cX4_count 92 = .ok (.goto (-87), 3) := by decide +kernel
theorem dX4_count_95 : decode cX4_count 95 = .ok (.iload_n 1, 1) := by decide +kernel
theorem dX4_count_96 : decode cX4_count 96 = .ok (.lookupswitch 52 #[(0, 36), (1, 41), (6, 46)], 36) := by decide +kernel
theorem dX4_count_132 : decode cX4_count 132 = .ok (.aload_n 0, 1) := by decide +kernel
theorem dX4_count_133 : decode cX4_count 133 = .ok (.getfield 7, 3) := by decide +kernel
theorem dX4_count_136 : decode cX4_count 136 = .ok (.ireturn, 1) := by decide +kernel
theorem dX4_count_137 : decode cX4_count 137 = .ok (.aload_n 0, 1) := by decide +kernel
theorem dX4_count_138 : decode cX4_count 138 = .ok (.getfield 50, 3) := by decide +kernel
theorem dX4_count_141 : decode cX4_count 141 = .ok (.ireturn, 1) := by decide +kernel
theorem dX4_count_142 : decode cX4_count 142 = .ok (.aload_n 0, 1) := by decide +kernel
theorem dX4_count_143 : decode cX4_count 143 = .ok (.getfield 53, 3) := by decide +kernel
theorem dX4_count_146 : decode cX4_count 146 = .ok (.l2i, 1) := by decide +kernel
theorem dX4_count_147 : decode cX4_count 147 = .ok (.ireturn, 1) := by decide +kernel
theorem dX4_count_148 : decode cX4_count 148 = .ok (.iload_n 1, 1) := by decide +kernel
theorem dX4_count_149 : decode cX4_count 149 = .ok (.iconst 2, 1) := by decide +kernel
theorem dX4_count_150 : decode cX4_count 150 = .ok (.iconst 5, 1) := by decide +kernel
theorem dX4_count_151 : decode cX4_count 151 = .ok (.invokestatic 46, 3) := by decide +kernel
theorem dX4_count_154 : decode cX4_count 154 = .ok (.ifCond .eq 8, 3) := by decide +kernel
theorem dX4_count_157 : decode cX4_count 157 = .ok (.lload_n 2, 1) := by decide +kernel
theorem dX4_count_158 : decode cX4_count 158 = .ok (.l2i, 1) := by decide +kernel
theorem dX4_count_159 : decode cX4_count 159 = .ok (.goto 5, 3) := by decide +kernel
theorem dX4_count_162 : decode cX4_count 162 = .ok (.bipush (-102), 2) := by decide +kernel
theorem dX4_count_164 : decode cX4_count 164 = .ok (.ireturn, 1) := by decide +kernel
theorem dX4_mix_0 : decode cX4_mix 0 = .ok (.aload_n 0, 1) := by decide +kernel
theorem dX4_mix_1 : decode cX4_mix 1 = .ok (.ldc2_w 135, 3) := by decide +kernel
theorem dX4_mix_4 : decode cX4_mix 4 = .ok (.aload_n 0, 1) := by decide +kernel
theorem dX4_mix_5 : decode cX4_mix 5 = .ok (.getfield 137, 3) := by decide +kernel
theorem dX4_mix_8 : decode cX4_mix 8 = .ok (.lmul, 1) := by decide +kernel
theorem dX4_mix_9 : decode cX4_mix 9 = .ok (.lload_n 1, 1) := by decide +kernel
theorem dX4_mix_10 : decode cX4_mix 10 = .ok (.ladd, 1) := by decide +kernel
theorem dX4_mix_11 : decode cX4_mix 11 = .ok (.putfield 137, 3) := by decide +kernel
theorem dX4_mix_14 : decode cX4_mix 14 = .ok (.return_, 1) := by decide +kernel
theorem dX4_digest_0 : decode cX4_digest 0 = .ok (.aload_n 0, 1) := by decide +kernel
theorem dX4_digest_1 : decode cX4_digest 1 = .ok (.ldc2_w 140, 3) := by decide +kernel
theorem dX4_digest_4 : decode cX4_digest 4 = .ok (.putfield 137, 3) := by decide +kernel
theorem dX4_digest_7 : decode cX4_digest 7 = .ok (.aload_n 0, 1) := by decide +kernel
theorem dX4_digest_8 : decode cX4_digest 8 = .ok (.aload_n 0, 1) := by decide +kernel
theorem dX4_digest_9 : decode cX4_digest 9 = .ok (.getfield 7, 3) := by decide +kernel
theorem dX4_digest_12 : decode cX4_digest 12 = .ok (.i2l, 1) := by decide +kernel
theorem dX4_digest_13 : decode cX4_digest 13 = .ok (.invokevirtual 142, 3) := by decide +kernel
theorem dX4_digest_16 : decode cX4_digest 16 = .ok (.aload_n 0, 1) := by decide +kernel
theorem dX4_digest_17 : decode cX4_digest 17 = .ok (.aload_n 0, 1) := by decide +kernel
theorem dX4_digest_18 : decode cX4_digest 18 = .ok (.getfield 50, 3) := by decide +kernel
theorem dX4_digest_21 : decode cX4_digest 21 = .ok (.i2l, 1) := by decide +kernel
theorem dX4_digest_22 : decode cX4_digest 22 = .ok (.invokevirtual 142, 3) := by decide +kernel
theorem dX4_digest_25 : decode cX4_digest 25 = .ok (.iconst 0, 1) := by decide +kernel
theorem dX4_digest_26 : decode cX4_digest 26 = .ok (.istore_n 1, 1) := by decide +kernel
theorem dX4_digest_27 : decode cX4_digest 27 = .ok (.iload_n 1, 1) := by decide +kernel
theorem dX4_digest_28 : decode cX4_digest 28 = .ok (.aload_n 0, 1) := by decide +kernel
theorem dX4_digest_29 : decode cX4_digest 29 = .ok (.getfield 7, 3) := by decide +kernel
theorem dX4_digest_32 : decode cX4_digest 32 = .ok (.if_icmp .ge 50, 3) := by decide +kernel
theorem dX4_digest_35 : decode cX4_digest 35 = .ok (.aload_n 0, 1) := by decide +kernel
theorem dX4_digest_36 : decode cX4_digest 36 = .ok (.aload_n 0, 1) := by decide +kernel
theorem dX4_digest_37 : decode cX4_digest 37 = .ok (.getfield 13, 3) := by decide +kernel
theorem dX4_digest_40 : decode cX4_digest 40 = .ok (.iload_n 1, 1) := by decide +kernel
theorem dX4_digest_41 : decode cX4_digest 41 = .ok (.laload, 1) := by decide +kernel
theorem dX4_digest_42 : decode cX4_digest 42 = .ok (.invokevirtual 142, 3) := by decide +kernel
theorem dX4_digest_45 : decode cX4_digest 45 = .ok (.iconst 0, 1) := by decide +kernel
theorem dX4_digest_46 : decode cX4_digest 46 = .ok (.istore_n 2, 1) := by decide +kernel
theorem dX4_digest_47 : decode cX4_digest 47 = .ok (.iload_n 2, 1) := by decide +kernel
theorem dX4_digest_48 : decode cX4_digest 48 = .ok (.aload_n 0, 1) := by decide +kernel
theorem dX4_digest_49 : decode cX4_digest 49 = .ok (.getfield 7, 3) := by decide +kernel
theorem dX4_digest_52 : decode cX4_digest 52 = .ok (.if_icmp .gt 24, 3) := by decide +kernel
theorem dX4_digest_55 : decode cX4_digest 55 = .ok (.aload_n 0, 1) := by decide +kernel
theorem dX4_digest_56 : decode cX4_digest 56 = .ok (.aload_n 0, 1) := by decide +kernel
theorem dX4_digest_57 : decode cX4_digest 57 = .ok (.getfield 17, 3) := by decide +kernel
theorem dX4_digest_60 : decode cX4_digest 60 = .ok (.iconst 5, 1) := by decide +kernel
theorem dX4_digest_61 : decode cX4_digest 61 = .ok (.iload_n 1, 1) := by decide +kernel
theorem dX4_digest_62 : decode cX4_digest 62 = .ok (.imul, 1) := by decide +kernel
theorem dX4_digest_63 : decode cX4_digest 63 = .ok (.iload_n 2, 1) := by decide +kernel
theorem dX4_digest_64 : decode cX4_digest 64 = .ok (.iadd, 1) := by decide +kernel
theorem dX4_digest_65 : decode cX4_digest 65 = .ok (.iaload, 1) := by decide +kernel
theorem dX4_digest_66 : decode cX4_digest 66 = .ok (.i2l, 1) := by decide +kernel
theorem dX4_digest_67 : decode cX4_digest 67 = .ok (.invokevirtual 142, 3) := by decide +kernel
theorem dX4_digest_70 : decode cX4_digest 70 = .ok (.iinc 2 1, 3) := by decide +kernel
theorem dX4_digest_73 : decode cX4_digest 73 = .ok (.goto (-26), 3) := by decide +kernel
theorem dX4_digest_76 : decode cX4_digest 76 = .ok (.iinc 1 1, 3) := by decide +kernel
theorem dX4_digest_79 : decode cX4_digest 79 = .ok (.goto (-52), 3) := by decide +kernel
theorem dX4_digest_82 : decode cX4_digest 82 = .ok (.aload_n 0, 1) := by decide +kernel
theorem dX4_digest_83 : decode cX4_digest 83 = .ok (.invokevirtual 91, 3) := by decide +kernel
theorem dX4_digest_86 : decode cX4_digest 86 = .ok (.iconst 0, 1) := by decide +kernel
theorem dX4_digest_87 : decode cX4_digest 87 = .ok (.istore_n 1, 1) := by decide +kernel
theorem dX4_digest_88 : decode cX4_digest 88 = .ok (.iload_n 1, 1) := by decide +kernel
theorem dX4_digest_89 : decode cX4_digest 89 = .ok (.aload_n 0, 1) := by decide +kernel
theorem dX4_digest_90 : decode cX4_digest 90 = .ok (.getfield 7, 3) := by decide +kernel
theorem dX4_digest_93 : decode cX4_digest 93 = .ok (.if_icmp .ge 56, 3) := by decide +kernel
theorem dX4_digest_96 : decode cX4_digest 96 = .ok (.aload_n 0, 1) := by decide +kernel
theorem dX4_digest_97 : decode cX4_digest 97 = .ok (.aload_n 0, 1) := by decide +kernel
theorem dX4_digest_98 : decode cX4_digest 98 = .ok (.getfield 21, 3) := by decide +kernel
theorem dX4_digest_101 : decode cX4_digest 101 = .ok (.iload_n 1, 1) := by decide +kernel
theorem dX4_digest_102 : decode cX4_digest 102 = .ok (.iaload, 1) := by decide +kernel
theorem dX4_digest_103 : decode cX4_digest 103 = .ok (.i2l, 1) := by decide +kernel
theorem dX4_digest_104 : decode cX4_digest 104 = .ok (.invokevirtual 142, 3) := by decide +kernel
theorem dX4_digest_107 : decode cX4_digest 107 = .ok (.aload_n 0, 1) := by decide +kernel
theorem dX4_digest_108 : decode cX4_digest 108 = .ok (.aload_n 0, 1) := by decide +kernel
theorem dX4_digest_109 : decode cX4_digest 109 = .ok (.getfield 24, 3) := by decide +kernel
theorem dX4_digest_112 : decode cX4_digest 112 = .ok (.iload_n 1, 1) := by decide +kernel
theorem dX4_digest_113 : decode cX4_digest 113 = .ok (.laload, 1) := by decide +kernel
theorem dX4_digest_114 : decode cX4_digest 114 = .ok (.aload_n 0, 1) := by decide +kernel
theorem dX4_digest_115 : decode cX4_digest 115 = .ok (.getfield 75, 3) := by decide +kernel
theorem dX4_digest_118 : decode cX4_digest 118 = .ok (.iconst 0, 1) := by decide +kernel
theorem dX4_digest_119 : decode cX4_digest 119 = .ok (.invokestatic 98, 3) := by decide +kernel
theorem dX4_digest_122 : decode cX4_digest 122 = .ok (.invokevirtual 142, 3) := by decide +kernel
theorem dX4_digest_125 : decode cX4_digest 125 = .ok (.aload_n 0, 1) := by decide +kernel
theorem dX4_digest_126 : decode cX4_digest 126 = .ok (.aload_n 0, 1) := by decide +kernel
theorem dX4_digest_127 : decode cX4_digest 127 = .ok (.getfield 24, 3) := by decide +kernel
theorem dX4_digest_130 : decode cX4_digest 130 = .ok (.iload_n 1, 1) := by decide +kernel
theorem dX4_digest_131 : decode cX4_digest 131 = .ok (.laload, 1) := by decide +kernel
theorem dX4_digest_132 : decode cX4_digest 132 = .ok (.aload_n 0, 1) := by decide +kernel
theorem dX4_digest_133 : decode cX4_digest 133 = .ok (.getfield 75, 3) := by decide +kernel
theorem dX4_digest_136 : decode cX4_digest 136 = .ok (.iconst 1, 1) := by decide +kernel
theorem dX4_digest_137 : decode cX4_digest 137 = .ok (.invokestatic 98, 3) := by decide +kernel
theorem dX4_digest_140 : decode cX4_digest 140 = .ok (.invokevirtual 142, 3) := by decide +kernel
theorem dX4_digest_143 : decode cX4_digest 143 = .ok (.iinc 1 1, 3) := by decide +kernel
theorem dX4_digest_146 : decode cX4_digest 146 = .ok (.goto (-58), 3) := by decide +kernel
theorem dX4_digest_149 : decode cX4_digest 149 = .ok (.aload_n 0, 1) := by decide +kernel
theorem dX4_digest_150 : decode cX4_digest 150 = .ok (.aload_n 0, 1) := by decide +kernel
theorem dX4_digest_151 : decode cX4_digest 151 = .ok (.getfield 53, 3) := by decide +kernel
theorem dX4_digest_154 : decode cX4_digest 154 = .ok (.invokevirtual 142, 3) := by decide +kernel
theorem dX4_digest_157 : decode cX4_digest 157 = .ok (.aload_n 0, 1) := by decide +kernel
theorem dX4_digest_158 : decode cX4_digest 158 = .ok (.getfield 137, 3) := by decide +kernel
theorem dX4_digest_161 : decode cX4_digest 161 = .ok (.lreturn, 1) := by decide +kernel
