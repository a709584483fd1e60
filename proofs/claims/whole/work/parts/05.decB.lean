theorem dX6_init_0 : decode cX6_init 0 = .ok (.aload_n 0, 1) := by decide +kernel
theorem dX6_init_1 : decode cX6_init 1 = .ok (.invokespecial 1, 3) := by decide +kernel
theorem dX6_init_4 : decode cX6_init 4 = .ok (.aload_n 0, 1) := by decide +kernel
theorem dX6_init_5 : decode cX6_init 5 = .ok (.new 7, 3) := by decide +kernel
theorem dX6_init_8 : decode cX6_init 8 = .ok (.dup, 1) := by decide +kernel
theorem dX6_init_9 : decode cX6_init 9 = .ok (.invokespecial 9, 3) := by decide +kernel
theorem dX6_init_12 : decode cX6_init 12 = .ok (.putfield 10, 3) := by decide +kernel
theorem dX6_init_15 : decode cX6_init 15 = .ok (.aload_n 0, 1) := by decide +kernel
theorem dX6_init_16 : decode cX6_init 16 = .ok (.iconst 3, 1) := by decide +kernel
theorem dX6_init_17 : decode cX6_init 17 = .ok (.anewarray 7, 3) := by decide +kernel
theorem dX6_init_20 : decode cX6_init 20 = .ok (.putfield 16, 3) := by decide +kernel
theorem dX6_init_23 : decode cX6_init 23 = .ok (.aload_n 0, 1) := by decide +kernel
theorem dX6_init_24 : decode cX6_init 24 = .ok (.iconst 3, 1) := by decide +kernel
theorem dX6_init_25 : decode cX6_init 25 = .ok (.newarray .boolean, 2) := by decide +kernel
theorem dX6_init_27 : decode cX6_init 27 = .ok (.putfield 20, 3) := by decide +kernel
theorem dX6_init_30 : decode cX6_init 30 = .ok (.aload_n 0, 1) := by decide +kernel
theorem dX6_init_31 : decode cX6_init 31 = .ok (.new 24, 3) := by decide +kernel
theorem dX6_init_34 : decode cX6_init 34 = .ok (.dup, 1) := by decide +kernel
theorem dX6_init_35 : decode cX6_init 35 = .ok (.invokespecial 26, 3) := by decide +kernel
theorem dX6_init_38 : decode cX6_init 38 = .ok (.putfield 27, 3) := by decide +kernel
theorem dX6_init_41 : decode cX6_init 41 = .ok (.aload_n 0, 1) := by decide +kernel
theorem dX6_init_42 : decode cX6_init 42 = .ok (.bipush 8, 2) := by decide +kernel
theorem dX6_init_44 : decode cX6_init 44 = .ok (.newarray .int, 2) := by decide +kernel
theorem dX6_init_46 : decode cX6_init 46 = .ok (.putfield 31, 3) := by decide +kernel
theorem dX6_init_49 : decode cX6_init 49 = .ok (.aload_n 0, 1) := by decide +kernel
theorem dX6_init_50 : decode cX6_init 50 = .ok (.bipush 14, 2) := by decide +kernel
theorem dX6_init_52 : decode cX6_init 52 = .ok (.newarray .long, 2) := by decide +kernel
theorem dX6_init_54 : decode cX6_init 54 = .ok (.putfield 35, 3) := by decide +kernel
theorem dX6_init_57 : decode cX6_init 57 = .ok (.iconst 0, 1) := by decide +kernel
theorem dX6_init_58 : decode cX6_init 58 = .ok (.istore_n 1, 1) := by decide +kernel
theorem dX6_init_59 : decode cX6_init 59 = .ok (.iload_n 1, 1) := by decide +kernel
theorem dX6_init_60 : decode cX6_init 60 = .ok (.iconst 3, 1) := by decide +kernel
theorem dX6_init_61 : decode cX6_init 61 = .ok (.if_icmp .ge 22, 3) := by decide +kernel
theorem dX6_init_64 : decode cX6_init 64 = .ok (.aload_n 0, 1) := by decide +kernel
theorem dX6_init_65 : decode cX6_init 65 = .ok (.getfield 16, 3) := by decide +kernel
theorem dX6_init_68 : decode cX6_init 68 = .ok (.iload_n 1, 1) := by decide +kernel
theorem dX6_init_69 : decode cX6_init 69 = .ok (.new 7, 3) := by decide +kernel
theorem dX6_init_72 : decode cX6_init 72 = .ok (.dup, 1) := by decide +kernel
theorem dX6_init_73 : decode cX6_init 73 = .ok (.invokespecial 9, 3) := by decide +kernel
theorem dX6_init_76 : decode cX6_init 76 = .ok (.aastore, 1) := by decide +kernel
theorem dX6_init_77 : decode cX6_init 77 = .ok (.iinc 1 1, 3) := by decide +kernel
theorem dX6_init_80 : decode cX6_init 80 = .ok (.goto (-21), 3) := by decide +kernel
theorem dX6_init_83 : decode cX6_init 83 = .ok (.return_, 1) := by decide +kernel
theorem dX6_coin_0 : decode cX6_coin 0 = .ok (.aload_n 0, 1) := by decide +kernel
theorem dX6_coin_1 : decode cX6_coin 1 = .ok (.getfield 10, 3) := by decide +kernel
theorem dX6_coin_4 : decode cX6_coin 4 = .ok (.iload_n 1, 1) := by decide +kernel
theorem dX6_coin_5 : decode cX6_coin 5 = .ok (.invokevirtual 39, 3) := by decide +kernel
theorem dX6_coin_8 : decode cX6_coin 8 = .ok (.astore_n 3, 1) := by decide +kernel
theorem dX6_coin_9 : decode cX6_coin 9 = .ok (.aload_n 3, 1) := by decide +kernel
theorem dX6_coin_10 : decode cX6_coin 10 = .ok (.ifnonnull 7, 3) := by decide +kernel
theorem dX6_coin_13 : decode cX6_coin 13 = .ok (.iconst (-1), 1) := by decide +kernel
theorem dX6_coin_14 : decode cX6_coin 14 = .ok (.goto 8, 3) := by decide +kernel
theorem dX6_coin_17 : decode cX6_coin 17 = .ok (.aload_n 3, 1) := by decide +kernel
theorem dX6_coin_18 : decode cX6_coin 18 = .ok (.iload_n 2, 1) := by decide +kernel
theorem dX6_coin_19 : decode cX6_coin 19 = .ok (.invokevirtual 43, 3) := by decide +kernel
theorem dX6_coin_22 : decode cX6_coin 22 = .ok (.ireturn, 1) := by decide +kernel
theorem dX6_rate_0 : decode cX6_rate 0 = .ok (.iconst 1, 1) := by decide +kernel
theorem dX6_rate_1 : decode cX6_rate 1 = .ok (.iload_n 1, 1) := by decide +kernel
theorem dX6_rate_2 : decode cX6_rate 2 = .ok (.bipush 100, 2) := by decide +kernel
theorem dX6_rate_4 : decode cX6_rate 4 = .ok (.invokestatic 49, 3) := by decide +kernel
theorem dX6_rate_7 : decode cX6_rate 7 = .ok (.ifCond .eq 23, 3) := by decide +kernel
theorem dX6_rate_10 : decode cX6_rate 10 = .ok (.iconst 1, 1) := by decide +kernel
theorem dX6_rate_11 : decode cX6_rate 11 = .ok (.iload_n 2, 1) := by decide +kernel
theorem dX6_rate_12 : decode cX6_rate 12 = .ok (.bipush 100, 2) := by decide +kernel
theorem dX6_rate_14 : decode cX6_rate 14 = .ok (.invokestatic 49, 3) := by decide +kernel
theorem dX6_rate_17 : decode cX6_rate 17 = .ok (.ifCond .eq 13, 3) := by decide +kernel
theorem dX6_rate_20 : decode cX6_rate 20 = .ok (.aload_n 0, 1) := by decide +kernel
theorem dX6_rate_21 : decode cX6_rate 21 = .ok (.getfield 10, 3) := by decide +kernel
theorem dX6_rate_24 : decode cX6_rate 24 = .ok (.invokevirtual 53, 3) := by decide +kernel
theorem dX6_rate_27 : decode cX6_rate 27 = .ok (.ifCond .eq 5, 3) := by decide +kernel
theorem dX6_rate_30 : decode cX6_rate 30 = .ok (.iconst 0, 1) := by decide +kernel
theorem dX6_rate_31 : decode cX6_rate 31 = .ok (.ireturn, 1) := by decide +kernel
theorem dX6_rate_32 : decode cX6_rate 32 = .ok (.aload_n 0, 1) := by decide +kernel
theorem dX6_rate_33 : decode cX6_rate 33 = .ok (.getfield 10, 3) := by decide +kernel
theorem dX6_rate_36 : decode cX6_rate 36 = .ok (.iload_n 1, 1) := by decide +kernel
theorem dX6_rate_37 : decode cX6_rate 37 = .ok (.putfield 57, 3) := by decide +kernel
theorem dX6_rate_40 : decode cX6_rate 40 = .ok (.aload_n 0, 1) := by decide +kernel
theorem dX6_rate_41 : decode cX6_rate 41 = .ok (.getfield 10, 3) := by decide +kernel
theorem dX6_rate_44 : decode cX6_rate 44 = .ok (.iload_n 2, 1) := by decide +kernel
theorem dX6_rate_45 : decode cX6_rate 45 = .ok (.putfield 61, 3) := by decide +kernel
theorem dX6_rate_48 : decode cX6_rate 48 = .ok (.iconst 1, 1) := by decide +kernel
theorem dX6_rate_49 : decode cX6_rate 49 = .ok (.ireturn, 1) := by decide +kernel
theorem dX6_good_0 : decode cX6_good 0 = .ok (.aload_n 0, 1) := by decide +kernel
theorem dX6_good_1 : decode cX6_good 1 = .ok (.getfield 10, 3) := by decide +kernel
theorem dX6_good_4 : decode cX6_good 4 = .ok (.getfield 64, 3) := by decide +kernel
theorem dX6_good_7 : decode cX6_good 7 = .ok (.iload_n 1, 1) := by decide +kernel
theorem dX6_good_8 : decode cX6_good 8 = .ok (.iload_n 2, 1) := by decide +kernel
theorem dX6_good_9 : decode cX6_good 9 = .ok (.invokevirtual 68, 3) := by decide +kernel
theorem dX6_good_12 : decode cX6_good 12 = .ok (.ireturn, 1) := by decide +kernel
theorem dX6_sold_0 : decode cX6_sold 0 = .ok (.aload_n 0, 1) := by decide +kernel
theorem dX6_sold_1 : decode cX6_sold 1 = .ok (.getfield 10, 3) := by decide +kernel
theorem dX6_sold_4 : decode cX6_sold 4 = .ok (.getfield 64, 3) := by decide +kernel
theorem dX6_sold_7 : decode cX6_sold 7 = .ok (.iload_n 1, 1) := by decide +kernel
theorem dX6_sold_8 : decode cX6_sold 8 = .ok (.invokevirtual 73, 3) := by decide +kernel
theorem dX6_sold_11 : decode cX6_sold 11 = .ok (.ifCond .eq 13, 3) := by decide +kernel
theorem dX6_sold_14 : decode cX6_sold 14 = .ok (.iconst 0, 1) := by decide +kernel
theorem dX6_sold_15 : decode cX6_sold 15 = .ok (.iload_n 2, 1) := by decide +kernel
theorem dX6_sold_16 : decode cX6_sold 16 = .ok (.bipush 100, 2) := by decide +kernel
theorem dX6_sold_18 : decode cX6_sold 18 = .ok (.invokestatic 49, 3) := by decide +kernel
theorem dX6_sold_21 : decode cX6_sold 21 = .ok (.ifCond .ne 5, 3) := by decide +kernel
theorem dX6_sold_24 : decode cX6_sold 24 = .ok (.iconst 0, 1) := by decide +kernel
theorem dX6_sold_25 : decode cX6_sold 25 = .ok (.ireturn, 1) := by decide +kernel
theorem dX6_sold_26 : decode cX6_sold 26 = .ok (.aload_n 0, 1) := by decide +kernel
theorem dX6_sold_27 : decode cX6_sold 27 = .ok (.getfield 10, 3) := by decide +kernel
theorem dX6_sold_30 : decode cX6_sold 30 = .ok (.getfield 64, 3) := by decide +kernel
theorem dX6_sold_33 : decode cX6_sold 33 = .ok (.getfield 77, 3) := by decide +kernel
theorem dX6_sold_36 : decode cX6_sold 36 = .ok (.iload_n 1, 1) := by decide +kernel
theorem dX6_sold_37 : decode cX6_sold 37 = .ok (.iload_n 2, 1) := by decide +kernel
theorem dX6_sold_38 : decode cX6_sold 38 = .ok (.iastore, 1) := by decide +kernel
theorem dX6_sold_39 : decode cX6_sold 39 = .ok (.iconst 1, 1) := by decide +kernel
theorem dX6_sold_40 : decode cX6_sold 40 = .ok (.ireturn, 1) := by decide +kernel
theorem dX6_step_0 : decode cX6_step 0 = .ok (.iconst 1, 1) := by decide +kernel
theorem dX6_step_1 : decode cX6_step 1 = .ok (.iload_n 1, 1) := by decide +kernel
theorem dX6_step_2 : decode cX6_step 2 = .ok (.bipush 100, 2) := by decide +kernel
theorem dX6_step_4 : decode cX6_step 4 = .ok (.invokestatic 49, 3) := by decide +kernel
theorem dX6_step_7 : decode cX6_step 7 = .ok (.ifCond .ne 5, 3) := by decide +kernel
theorem dX6_step_10 : decode cX6_step 10 = .ok (.iconst 0, 1) := by decide +kernel
theorem dX6_step_11 : decode cX6_step 11 = .ok (.ireturn, 1) := by decide +kernel
theorem dX6_step_12 : decode cX6_step 12 = .ok (.aload_n 0, 1) := by decide +kernel
theorem dX6_step_13 : decode cX6_step 13 = .ok (.getfield 10, 3) := by decide +kernel
theorem dX6_step_16 : decode cX6_step 16 = .ok (.iload_n 1, 1) := by decide +kernel
theorem dX6_step_17 : decode cX6_step 17 = .ok (.putfield 80, 3) := by decide +kernel
theorem dX6_step_20 : decode cX6_step 20 = .ok (.iconst 1, 1) := by decide +kernel
theorem dX6_step_21 : decode cX6_step 21 = .ok (.ireturn, 1) := by decide +kernel
theorem dX6_price_0 : decode cX6_price 0 = .ok (.aload_n 0, 1) := by decide +kernel
theorem dX6_price_1 : decode cX6_price 1 = .ok (.getfield 10, 3) := by decide +kernel
theorem dX6_price_4 : decode cX6_price 4 = .ok (.getfield 64, 3) := by decide +kernel
theorem dX6_price_7 : decode cX6_price 7 = .ok (.iload_n 1, 1) := by decide +kernel
theorem dX6_price_8 : decode cX6_price 8 = .ok (.invokevirtual 73, 3) := by decide +kernel
theorem dX6_price_11 : decode cX6_price 11 = .ok (.ifCond .eq 22, 3) := by decide +kernel
theorem dX6_price_14 : decode cX6_price 14 = .ok (.iload_n 2, 1) := by decide +kernel
theorem dX6_price_15 : decode cX6_price 15 = .ok (.invokestatic 83, 3) := by decide +kernel
theorem dX6_price_18 : decode cX6_price 18 = .ok (.ifCond .eq 15, 3) := by decide +kernel
theorem dX6_price_21 : decode cX6_price 21 = .ok (.aload_n 0, 1) := by decide +kernel
theorem dX6_price_22 : decode cX6_price 22 = .ok (.getfield 10, 3) := by decide +kernel
theorem dX6_price_25 : decode cX6_price 25 = .ok (.iload_n 1, 1) := by decide +kernel
theorem dX6_price_26 : decode cX6_price 26 = .ok (.iload_n 2, 1) := by decide +kernel
theorem dX6_price_27 : decode cX6_price 27 = .ok (.invokevirtual 86, 3) := by decide +kernel
theorem dX6_price_30 : decode cX6_price 30 = .ok (.goto 4, 3) := by decide +kernel
theorem dX6_price_33 : decode cX6_price 33 = .ok (.iconst (-1), 1) := by decide +kernel
theorem dX6_price_34 : decode cX6_price 34 = .ok (.ireturn, 1) := by decide +kernel
theorem dX6_gain_0 : decode cX6_gain 0 = .ok (.lconst 0, 1) := by decide +kernel
theorem dX6_gain_1 : decode cX6_gain 1 = .ok (.lstore_n 2, 1) := by decide +kernel
theorem dX6_gain_2 : decode cX6_gain 2 = .ok (.iload_n 1, 1) := by decide +kernel
theorem dX6_gain_3 : decode cX6_gain 3 = .ok (.invokestatic 83, 3) := by decide +kernel
theorem dX6_gain_6 : decode cX6_gain 6 = .ok (.ifCond .eq 40, 3) := by decide +kernel
theorem dX6_gain_9 : decode cX6_gain 9 = .ok (.iconst 0, 1) := by decide +kernel
theorem dX6_gain_10 : decode cX6_gain 10 = .ok (.istore 4, 2) := by decide +kernel
theorem dX6_gain_12 : decode cX6_gain 12 = .ok (.iload 4, 2) := by decide +kernel
theorem dX6_gain_14 : decode cX6_gain 14 = .ok (.aload_n 0, 1) := by decide +kernel
theorem dX6_gain_15 : decode cX6_gain 15 = .ok (.getfield 10, 3) := by decide +kernel
theorem dX6_gain_18 : decode cX6_gain 18 = .ok (.getfield 64, 3) := by decide +kernel
theorem dX6_gain_21 : decode cX6_gain 21 = .ok (.getfield 89, 3) := by decide +kernel
theorem dX6_gain_24 : decode cX6_gain 24 = .ok (.if_icmp .ge 22, 3) := by decide +kernel
theorem dX6_gain_27 : decode cX6_gain 27 = .ok (.lload_n 2, 1) := by decide +kernel
theorem dX6_gain_28 : decode cX6_gain 28 = .ok (.aload_n 0, 1) := by decide +kernel
theorem dX6_gain_29 : decode cX6_gain 29 = .ok (.getfield 10, 3) := by decide +kernel
theorem dX6_gain_32 : decode cX6_gain 32 = .ok (.iload 4, 2) := by decide +kernel
theorem dX6_gain_34 : decode cX6_gain 34 = .ok (.iload_n 1, 1) := by decide +kernel
theorem dX6_gain_35 : decode cX6_gain 35 = .ok (.invokevirtual 92, 3) := by decide +kernel
theorem dX6_gain_38 : decode cX6_gain 38 = .ok (.ladd, 1) := by decide +kernel
theorem dX6_gain_39 : decode cX6_gain 39 = .ok (.lstore_n 2, 1) := by decide +kernel
theorem dX6_gain_40 : decode cX6_gain 40 = .ok (.iinc 4 1, 3) := by decide +kernel
theorem dX6_gain_43 : decode cX6_gain 43 = .ok (.goto (-31), 3) := by decide +kernel
theorem dX6_gain_46 : decode cX6_gain 46 = .ok (.lload_n 2, 1) := by decide +kernel
theorem dX6_gain_47 : decode cX6_gain 47 = .ok (.lreturn, 1) := by decide +kernel
theorem dX6_fairest_0 : decode cX6_fairest 0 = .ok (.aload_n 0, 1) := by decide +kernel
theorem dX6_fairest_1 : decode cX6_fairest 1 = .ok (.invokevirtual 96, 3) := by decide +kernel
theorem dX6_fairest_4 : decode cX6_fairest 4 = .ok (.lstore_n 1, 1) := by decide +kernel
theorem dX6_fairest_5 : decode cX6_fairest 5 = .ok (.lload_n 1, 1) := by decide +kernel
theorem dX6_fairest_6 : decode cX6_fairest 6 = .ok (.invokestatic 100, 3) := by decide +kernel
theorem dX6_fairest_9 : decode cX6_fairest 9 = .ok (.lstore_n 3, 1) := by decide +kernel
theorem dX6_fairest_10 : decode cX6_fairest 10 = .ok (.iconst 0, 1) := by decide +kernel
theorem dX6_fairest_11 : decode cX6_fairest 11 = .ok (.istore 5, 2) := by decide +kernel
theorem dX6_fairest_13 : decode cX6_fairest 13 = .ok (.iconst 1, 1) := by decide +kernel
theorem dX6_fairest_14 : decode cX6_fairest 14 = .ok (.aload_n 0, 1) := by decide +kernel
theorem dX6_fairest_15 : decode cX6_fairest 15 = .ok (.getfield 10, 3) := by decide +kernel
theorem dX6_fairest_18 : decode cX6_fairest 18 = .ok (.getfield 64, 3) := by decide +kernel
theorem dX6_fairest_21 : decode cX6_fairest 21 = .ok (.getfield 89, 3) := by decide +kernel
theorem dX6_fairest_24 : decode cX6_fairest 24 = .ok (.ishl, 1) := by decide +kernel
theorem dX6_fairest_25 : decode cX6_fairest 25 = .ok (.istore 6, 2) := by decide +kernel
theorem dX6_fairest_27 : decode cX6_fairest 27 = .ok (.iconst 1, 1) := by decide +kernel
theorem dX6_fairest_28 : decode cX6_fairest 28 = .ok (.istore 7, 2) := by decide +kernel
theorem dX6_fairest_30 : decode cX6_fairest 30 = .ok (.iload 7, 2) := by decide +kernel
theorem dX6_fairest_32 : decode cX6_fairest 32 = .ok (.iload 6, 2) := by decide +kernel
theorem dX6_fairest_34 : decode cX6_fairest 34 = .ok (.if_icmp .ge 56, 3) := by decide +kernel
theorem dX6_fairest_37 : decode cX6_fairest 37 = .ok (.lload_n 3, 1) := by decide +kernel
theorem dX6_fairest_38 : decode cX6_fairest 38 = .ok (.lconst 0, 1) := by decide +kernel
theorem dX6_fairest_39 : decode cX6_fairest 39 = .ok (.lcmp, 1) := by decide +kernel
theorem dX6_fairest_40 : decode cX6_fairest 40 = .ok (.ifCond .le 50, 3) := by decide +kernel
theorem dX6_fairest_43 : decode cX6_fairest 43 = .ok (.iload 7, 2) := by decide +kernel
theorem dX6_fairest_45 : decode cX6_fairest 45 = .ok (.iload 7, 2) := by decide +kernel
theorem dX6_fairest_47 : decode cX6_fairest 47 = .ok (.ineg, 1) := by decide +kernel
theorem dX6_fairest_48 : decode cX6_fairest 48 = .ok (.iand, 1) := by decide +kernel
theorem dX6_fairest_49 : decode cX6_fairest 49 = .ok (.iconst 1, 1) := by decide +kernel
theorem dX6_fairest_50 : decode cX6_fairest 50 = .ok (.isub, 1) := by decide +kernel
theorem dX6_fairest_51 : decode cX6_fairest 51 = .ok (.invokestatic 106, 3) := by decide +kernel
theorem dX6_fairest_54 : decode cX6_fairest 54 = .ok (.istore 8, 2) := by decide +kernel
theorem dX6_fairest_56 : decode cX6_fairest 56 = .ok (.lload_n 1, 1) := by decide +kernel
theorem dX6_fairest_57 : decode cX6_fairest 57 = .ok (.aload_n 0, 1) := by decide +kernel
theorem dX6_fairest_58 : decode cX6_fairest 58 = .ok (.getfield 35, 3) := by decide +kernel
theorem dX6_fairest_61 : decode cX6_fairest 61 = .ok (.iload 8, 2) := by decide +kernel
theorem dX6_fairest_63 : decode cX6_fairest 63 = .ok (.laload, 1) := by decide +kernel
theorem dX6_fairest_64 : decode cX6_fairest 64 = .ok (.ladd, 1) := by decide +kernel
theorem dX6_fairest_65 : decode cX6_fairest 65 = .ok (.lstore_n 1, 1) := by decide +kernel
theorem dX6_fairest_66 : decode cX6_fairest 66 = .ok (.lload_n 1, 1) := by decide +kernel
theorem dX6_fairest_67 : decode cX6_fairest 67 = .ok (.invokestatic 100, 3) := by decide +kernel
theorem dX6_fairest_70 : decode cX6_fairest 70 = .ok (.lload_n 3, 1) := by decide +kernel
theorem dX6_fairest_71 : decode cX6_fairest 71 = .ok (.lcmp, 1) := by decide +kernel
theorem dX6_fairest_72 : decode cX6_fairest 72 = .ok (.ifCond .ge 12, 3) := by decide +kernel
theorem dX6_fairest_75 : decode cX6_fairest 75 = .ok (.lload_n 1, 1) := by decide +kernel
theorem dX6_fairest_76 : decode cX6_fairest 76 = .ok (.invokestatic 100, 3) := by decide +kernel
theorem dX6_fairest_79 : decode cX6_fairest 79 = .ok (.lstore_n 3, 1) := by decide +kernel
theorem dX6_fairest_80 : decode cX6_fairest 80 = .ok (.iload 7, 2) := by decide +kernel
theorem dX6_fairest_82 : decode cX6_fairest 82 = .ok (.istore 5, 2) := by decide +kernel
theorem dX6_fairest_84 : decode cX6_fairest 84 = .ok (.iinc 7 1, 3) := by decide +kernel
theorem dX6_fairest_87 : decode cX6_fairest 87 = .ok (.goto (-57), 3) := by decide +kernel
theorem dX6_fairest_90 : decode cX6_fairest 90 = .ok (.iload 5, 2) := by decide +kernel
theorem dX6_fairest_92 : decode cX6_fairest 92 = .ok (.ireturn, 1) := by decide +kernel
theorem dX6_gains_0 : decode cX6_gains 0 = .ok (.lconst 0, 1) := by decide +kernel
theorem dX6_gains_1 : decode cX6_gains 1 = .ok (.lstore_n 2, 1) := by decide +kernel
theorem dX6_gains_2 : decode cX6_gains 2 = .ok (.iconst 0, 1) := by decide +kernel
theorem dX6_gains_3 : decode cX6_gains 3 = .ok (.istore 4, 2) := by decide +kernel
theorem dX6_gains_5 : decode cX6_gains 5 = .ok (.iload 4, 2) := by decide +kernel
theorem dX6_gains_7 : decode cX6_gains 7 = .ok (.aload_n 0, 1) := by decide +kernel
theorem dX6_gains_8 : decode cX6_gains 8 = .ok (.getfield 10, 3) := by decide +kernel
theorem dX6_gains_11 : decode cX6_gains 11 = .ok (.getfield 64, 3) := by decide +kernel
theorem dX6_gains_14 : decode cX6_gains 14 = .ok (.getfield 89, 3) := by decide +kernel
theorem dX6_gains_17 : decode cX6_gains 17 = .ok (.if_icmp .ge 48, 3) := by decide +kernel
theorem dX6_gains_20 : decode cX6_gains 20 = .ok (.iload_n 1, 1) := by decide +kernel
theorem dX6_gains_21 : decode cX6_gains 21 = .ok (.iload 4, 2) := by decide +kernel
theorem dX6_gains_23 : decode cX6_gains 23 = .ok (.ishr, 1) := by decide +kernel
theorem dX6_gains_24 : decode cX6_gains 24 = .ok (.iconst 1, 1) := by decide +kernel
theorem dX6_gains_25 : decode cX6_gains 25 = .ok (.iand, 1) := by decide +kernel
theorem dX6_gains_26 : decode cX6_gains 26 = .ok (.iconst 1, 1) := by decide +kernel
theorem dX6_gains_27 : decode cX6_gains 27 = .ok (.if_icmp .ne 7, 3) := by decide +kernel
theorem dX6_gains_30 : decode cX6_gains 30 = .ok (.iconst 1, 1) := by decide +kernel
theorem dX6_gains_31 : decode cX6_gains 31 = .ok (.goto 4, 3) := by decide +kernel
theorem dX6_gains_34 : decode cX6_gains 34 = .ok (.iconst 0, 1) := by decide +kernel
theorem dX6_gains_35 : decode cX6_gains 35 = .ok (.istore 5, 2) := by decide +kernel
theorem dX6_gains_37 : decode cX6_gains 37 = .ok (.lload_n 2, 1) := by decide +kernel
theorem dX6_gains_38 : decode cX6_gains 38 = .ok (.aload_n 0, 1) := by decide +kernel
theorem dX6_gains_39 : decode cX6_gains 39 = .ok (.getfield 10, 3) := by decide +kernel
theorem dX6_gains_42 : decode cX6_gains 42 = .ok (.iload 4, 2) := by decide +kernel
theorem dX6_gains_44 : decode cX6_gains 44 = .ok (.iload 5, 2) := by decide +kernel
theorem dX6_gains_46 : decode cX6_gains 46 = .ok (.ifCond .eq 7, 3) := by decide +kernel
theorem dX6_gains_49 : decode cX6_gains 49 = .ok (.iconst 1, 1) := by decide +kernel
theorem dX6_gains_50 : decode cX6_gains 50 = .ok (.goto 4, 3) := by decide +kernel
theorem dX6_gains_53 : decode cX6_gains 53 = .ok (.iconst 0, 1) := by decide +kernel
theorem dX6_gains_54 : decode cX6_gains 54 = .ok (.invokevirtual 92, 3) := by decide +kernel
theorem dX6_gains_57 : decode cX6_gains 57 = .ok (.ladd, 1) := by decide +kernel
theorem dX6_gains_58 : decode cX6_gains 58 = .ok (.lstore_n 2, 1) := by decide +kernel
theorem dX6_gains_59 : decode cX6_gains 59 = .ok (.iinc 4 1, 3) := by decide +kernel
theorem dX6_gains_62 : decode cX6_gains 62 = .ok (.goto (-57), 3) := by decide +kernel
theorem dX6_gains_65 : decode cX6_gains 65 = .ok (.lload_n 2, 1) := by decide +kernel
theorem dX6_gains_66 : decode cX6_gains 66 = .ok (.lreturn, 1) := by decide +kernel
theorem dX6_fewest_0 : decode cX6_fewest 0 = .ok (.aload_n 0, 1) := by decide +kernel
theorem dX6_fewest_1 : decode cX6_fewest 1 = .ok (.getfield 10, 3) := by decide +kernel
theorem dX6_fewest_4 : decode cX6_fewest 4 = .ok (.iload_n 1, 1) := by decide +kernel
theorem dX6_fewest_5 : decode cX6_fewest 5 = .ok (.invokevirtual 39, 3) := by decide +kernel
theorem dX6_fewest_8 : decode cX6_fewest 8 = .ok (.astore 4, 2) := by decide +kernel
theorem dX6_fewest_10 : decode cX6_fewest 10 = .ok (.aload 4, 2) := by decide +kernel
theorem dX6_fewest_12 : decode cX6_fewest 12 = .ok (.ifnull 12, 3) := by decide +kernel
theorem dX6_fewest_15 : decode cX6_fewest 15 = .ok (.aload 4, 2) := by decide +kernel
theorem dX6_fewest_17 : decode cX6_fewest 17 = .ok (.iload_n 2, 1) := by decide +kernel
theorem dX6_fewest_18 : decode cX6_fewest 18 = .ok (.invokevirtual 111, 3) := by decide +kernel
theorem dX6_fewest_21 : decode cX6_fewest 21 = .ok (.ifCond .ne 5, 3) := by decide +kernel
theorem dX6_fewest_24 : decode cX6_fewest 24 = .ok (.iconst (-1), 1) := by decide +kernel
theorem dX6_fewest_25 : decode cX6_fewest 25 = .ok (.ireturn, 1) := by decide +kernel
theorem dX6_fewest_26 : decode cX6_fewest 26 = .ok (.iload_n 3, 1) := by decide +kernel
theorem dX6_fewest_27 : decode cX6_fewest 27 = .ok (.iconst (-1), 1) := by decide +kernel
theorem dX6_fewest_28 : decode cX6_fewest 28 = .ok (.if_icmp .ne 11, 3) := by decide +kernel
theorem dX6_fewest_31 : decode cX6_fewest 31 = .ok (.aload 4, 2) := by decide +kernel
theorem dX6_fewest_33 : decode cX6_fewest 33 = .ok (.getfield 114, 3) := by decide +kernel
theorem dX6_fewest_36 : decode cX6_fewest 36 = .ok (.iload_n 2, 1) := by decide +kernel
theorem dX6_fewest_37 : decode cX6_fewest 37 = .ok (.iaload, 1) := by decide +kernel
theorem dX6_fewest_38 : decode cX6_fewest 38 = .ok (.ireturn, 1) := by decide +kernel
theorem dX6_fewest_39 : decode cX6_fewest 39 = .ok (.aload 4, 2) := by decide +kernel
theorem dX6_fewest_41 : decode cX6_fewest 41 = .ok (.iload_n 3, 1) := by decide +kernel
theorem dX6_fewest_42 : decode cX6_fewest 42 = .ok (.invokevirtual 117, 3) := by decide +kernel
theorem dX6_fewest_45 : decode cX6_fewest 45 = .ok (.ifCond .ne 5, 3) := by decide +kernel
theorem dX6_fewest_48 : decode cX6_fewest 48 = .ok (.iconst (-1), 1) := by decide +kernel
theorem dX6_fewest_49 : decode cX6_fewest 49 = .ok (.ireturn, 1) := by decide +kernel
theorem dX6_fewest_50 : decode cX6_fewest 50 = .ok (.aload 4, 2) := by decide +kernel
theorem dX6_fewest_52 : decode cX6_fewest 52 = .ok (.iload_n 2, 1) := by decide +kernel
theorem dX6_fewest_53 : decode cX6_fewest 53 = .ok (.aload_n 0, 1) := by decide +kernel
theorem dX6_fewest_54 : decode cX6_fewest 54 = .ok (.getfield 31, 3) := by decide +kernel
theorem dX6_fewest_57 : decode cX6_fewest 57 = .ok (.invokevirtual 120, 3) := by decide +kernel
theorem dX6_fewest_60 : decode cX6_fewest 60 = .ok (.aload_n 0, 1) := by decide +kernel
theorem dX6_fewest_61 : decode cX6_fewest 61 = .ok (.getfield 31, 3) := by decide +kernel
theorem dX6_fewest_64 : decode cX6_fewest 64 = .ok (.iload_n 3, 1) := by decide +kernel
theorem dX6_fewest_65 : decode cX6_fewest 65 = .ok (.iaload, 1) := by decide +kernel
theorem dX6_fewest_66 : decode cX6_fewest 66 = .ok (.ireturn, 1) := by decide +kernel
theorem dX6_greedy_0 : decode cX6_greedy 0 = .ok (.aload_n 0, 1) := by decide +kernel
theorem dX6_greedy_1 : decode cX6_greedy 1 = .ok (.getfield 10, 3) := by decide +kernel
theorem dX6_greedy_4 : decode cX6_greedy 4 = .ok (.iload_n 1, 1) := by decide +kernel
theorem dX6_greedy_5 : decode cX6_greedy 5 = .ok (.invokevirtual 39, 3) := by decide +kernel
theorem dX6_greedy_8 : decode cX6_greedy 8 = .ok (.astore_n 3, 1) := by decide +kernel
theorem dX6_greedy_9 : decode cX6_greedy 9 = .ok (.aload_n 3, 1) := by decide +kernel
theorem dX6_greedy_10 : decode cX6_greedy 10 = .ok (.ifnull 10, 3) := by decide +kernel
theorem dX6_greedy_13 : decode cX6_greedy 13 = .ok (.iload_n 2, 1) := by decide +kernel
theorem dX6_greedy_14 : decode cX6_greedy 14 = .ok (.invokestatic 124, 3) := by decide +kernel
theorem dX6_greedy_17 : decode cX6_greedy 17 = .ok (.ifCond .ne 7, 3) := by decide +kernel
theorem dX6_greedy_20 : decode cX6_greedy 20 = .ok (.iconst (-1), 1) := by decide +kernel
theorem dX6_greedy_21 : decode cX6_greedy 21 = .ok (.goto 8, 3) := by decide +kernel
theorem dX6_greedy_24 : decode cX6_greedy 24 = .ok (.aload_n 3, 1) := by decide +kernel
theorem dX6_greedy_25 : decode cX6_greedy 25 = .ok (.iload_n 2, 1) := by decide +kernel
theorem dX6_greedy_26 : decode cX6_greedy 26 = .ok (.invokevirtual 127, 3) := by decide +kernel
theorem dX6_greedy_29 : decode cX6_greedy 29 = .ok (.ireturn, 1) := by decide +kernel
theorem dX6_odd_0 : decode cX6_odd 0 = .ok (.aload_n 0, 1) := by decide +kernel
theorem dX6_odd_1 : decode cX6_odd 1 = .ok (.getfield 10, 3) := by decide +kernel
theorem dX6_odd_4 : decode cX6_odd 4 = .ok (.iload_n 1, 1) := by decide +kernel
theorem dX6_odd_5 : decode cX6_odd 5 = .ok (.invokevirtual 39, 3) := by decide +kernel
theorem dX6_odd_8 : decode cX6_odd 8 = .ok (.astore_n 2, 1) := by decide +kernel
theorem dX6_odd_9 : decode cX6_odd 9 = .ok (.aload_n 2, 1) := by decide +kernel
theorem dX6_odd_10 : decode cX6_odd 10 = .ok (.ifnonnull 7, 3) := by decide +kernel
theorem dX6_odd_13 : decode cX6_odd 13 = .ok (.iconst (-1), 1) := by decide +kernel
theorem dX6_odd_14 : decode cX6_odd 14 = .ok (.goto 7, 3) := by decide +kernel
theorem dX6_odd_17 : decode cX6_odd 17 = .ok (.aload_n 2, 1) := by decide +kernel
theorem dX6_odd_18 : decode cX6_odd 18 = .ok (.invokevirtual 130, 3) := by decide +kernel
theorem dX6_odd_21 : decode cX6_odd 21 = .ok (.ireturn, 1) := by decide +kernel
theorem dX6_till_0 : decode cX6_till 0 = .ok (.aload_n 0, 1) := by decide +kernel
theorem dX6_till_1 : decode cX6_till 1 = .ok (.getfield 10, 3) := by decide +kernel
theorem dX6_till_4 : decode cX6_till 4 = .ok (.getfield 134, 3) := by decide +kernel
theorem dX6_till_7 : decode cX6_till 7 = .ok (.iconst 4, 1) := by decide +kernel
theorem dX6_till_8 : decode cX6_till 8 = .ok (.if_icmp .lt 5, 3) := by decide +kernel
theorem dX6_till_11 : decode cX6_till 11 = .ok (.iconst (-1), 1) := by decide +kernel
theorem dX6_till_12 : decode cX6_till 12 = .ok (.ireturn, 1) := by decide +kernel
theorem dX6_till_13 : decode cX6_till 13 = .ok (.aload_n 0, 1) := by decide +kernel
theorem dX6_till_14 : decode cX6_till 14 = .ok (.getfield 10, 3) := by decide +kernel
theorem dX6_till_17 : decode cX6_till 17 = .ok (.dup, 1) := by decide +kernel
theorem dX6_till_18 : decode cX6_till 18 = .ok (.getfield 134, 3) := by decide +kernel
theorem dX6_till_21 : decode cX6_till 21 = .ok (.iconst 1, 1) := by decide +kernel
theorem dX6_till_22 : decode cX6_till 22 = .ok (.iadd, 1) := by decide +kernel
theorem dX6_till_23 : decode cX6_till 23 = .ok (.putfield 134, 3) := by decide +kernel
theorem dX6_till_26 : decode cX6_till 26 = .ok (.aload_n 0, 1) := by decide +kernel
theorem dX6_till_27 : decode cX6_till 27 = .ok (.getfield 10, 3) := by decide +kernel
theorem dX6_till_30 : decode cX6_till 30 = .ok (.getfield 134, 3) := by decide +kernel
theorem dX6_till_33 : decode cX6_till 33 = .ok (.iconst 1, 1) := by decide +kernel
theorem dX6_till_34 : decode cX6_till 34 = .ok (.isub, 1) := by decide +kernel
theorem dX6_till_35 : decode cX6_till 35 = .ok (.ireturn, 1) := by decide +kernel
theorem dX6_put_0 : decode cX6_put 0 = .ok (.aload_n 0, 1) := by decide +kernel
theorem dX6_put_1 : decode cX6_put 1 = .ok (.getfield 10, 3) := by decide +kernel
theorem dX6_put_4 : decode cX6_put 4 = .ok (.iload_n 1, 1) := by decide +kernel
theorem dX6_put_5 : decode cX6_put 5 = .ok (.invokevirtual 137, 3) := by decide +kernel
theorem dX6_put_8 : decode cX6_put 8 = .ok (.astore 5, 2) := by decide +kernel
theorem dX6_put_10 : decode cX6_put 10 = .ok (.aload 5, 2) := by decide +kernel
theorem dX6_put_12 : decode cX6_put 12 = .ok (.ifnull 15, 3) := by decide +kernel
theorem dX6_put_15 : decode cX6_put 15 = .ok (.aload_n 0, 1) := by decide +kernel
theorem dX6_put_16 : decode cX6_put 16 = .ok (.getfield 10, 3) := by decide +kernel
theorem dX6_put_19 : decode cX6_put 19 = .ok (.iload_n 2, 1) := by decide +kernel
theorem dX6_put_20 : decode cX6_put 20 = .ok (.iload_n 3, 1) := by decide +kernel
theorem dX6_put_21 : decode cX6_put 21 = .ok (.invokevirtual 141, 3) := by decide +kernel
theorem dX6_put_24 : decode cX6_put 24 = .ok (.ifCond .ne 5, 3) := by decide +kernel
theorem dX6_put_27 : decode cX6_put 27 = .ok (.iconst (-1), 1) := by decide +kernel
theorem dX6_put_28 : decode cX6_put 28 = .ok (.ireturn, 1) := by decide +kernel
theorem dX6_put_29 : decode cX6_put 29 = .ok (.aload 5, 2) := by decide +kernel
theorem dX6_put_31 : decode cX6_put 31 = .ok (.iload_n 2, 1) := by decide +kernel
theorem dX6_put_32 : decode cX6_put 32 = .ok (.invokevirtual 144, 3) := by decide +kernel
theorem dX6_put_35 : decode cX6_put 35 = .ok (.astore 6, 2) := by decide +kernel
theorem dX6_put_37 : decode cX6_put 37 = .ok (.aload 6, 2) := by decide +kernel
theorem dX6_put_39 : decode cX6_put 39 = .ok (.iload_n 3, 1) := by decide +kernel
theorem dX6_put_40 : decode cX6_put 40 = .ok (.iaload, 1) := by decide +kernel
theorem dX6_put_41 : decode cX6_put 41 = .ok (.i2l, 1) := by decide +kernel
theorem dX6_put_42 : decode cX6_put 42 = .ok (.iload 4, 2) := by decide +kernel
theorem dX6_put_44 : decode cX6_put 44 = .ok (.i2l, 1) := by decide +kernel
theorem dX6_put_45 : decode cX6_put 45 = .ok (.ladd, 1) := by decide +kernel
theorem dX6_put_46 : decode cX6_put 46 = .ok (.lstore 7, 2) := by decide +kernel
theorem dX6_put_48 : decode cX6_put 48 = .ok (.lload 7, 2) := by decide +kernel
theorem dX6_put_50 : decode cX6_put 50 = .ok (.lconst 0, 1) := by decide +kernel
theorem dX6_put_51 : decode cX6_put 51 = .ok (.lcmp, 1) := by decide +kernel
theorem dX6_put_52 : decode cX6_put 52 = .ok (.ifCond .lt 12, 3) := by decide +kernel
theorem dX6_put_55 : decode cX6_put 55 = .ok (.lload 7, 2) := by decide +kernel
theorem dX6_put_57 : decode cX6_put 57 = .ok (.ldc2_w 150, 3) := by decide +kernel
theorem dX6_put_60 : decode cX6_put 60 = .ok (.lcmp, 1) := by decide +kernel
theorem dX6_put_61 : decode cX6_put 61 = .ok (.ifCond .le 5, 3) := by decide +kernel
theorem dX6_put_64 : decode cX6_put 64 = .ok (.iconst (-1), 1) := by decide +kernel
theorem dX6_put_65 : decode cX6_put 65 = .ok (.ireturn, 1) := by decide +kernel
theorem dX6_put_66 : decode cX6_put 66 = .ok (.aload 6, 2) := by decide +kernel
theorem dX6_put_68 : decode cX6_put 68 = .ok (.iload_n 3, 1) := by decide +kernel
theorem dX6_put_69 : decode cX6_put 69 = .ok (.lload 7, 2) := by decide +kernel
theorem dX6_put_71 : decode cX6_put 71 = .ok (.l2i, 1) := by decide +kernel
theorem dX6_put_72 : decode cX6_put 72 = .ok (.iastore, 1) := by decide +kernel
theorem dX6_put_73 : decode cX6_put 73 = .ok (.aload 6, 2) := by decide +kernel
theorem dX6_put_75 : decode cX6_put 75 = .ok (.iload_n 3, 1) := by decide +kernel
theorem dX6_put_76 : decode cX6_put 76 = .ok (.iaload, 1) := by decide +kernel
theorem dX6_put_77 : decode cX6_put 77 = .ok (.ireturn, 1) := by decide +kernel
theorem dX6_sale_0 : decode cX6_sale 0 = .ok (.aload_n 0, 1) := by decide +kernel
theorem dX6_sale_1 : decode cX6_sale 1 = .ok (.getfield 10, 3) := by decide +kernel
theorem dX6_sale_4 : decode cX6_sale 4 = .ok (.iload_n 1, 1) := by decide +kernel
theorem dX6_sale_5 : decode cX6_sale 5 = .ok (.invokevirtual 137, 3) := by decide +kernel
theorem dX6_sale_8 : decode cX6_sale 8 = .ok (.astore 6, 2) := by decide +kernel
theorem dX6_sale_10 : decode cX6_sale 10 = .ok (.aload 6, 2) := by decide +kernel
theorem dX6_sale_12 : decode cX6_sale 12 = .ok (.ifnull 19, 3) := by decide +kernel
theorem dX6_sale_15 : decode cX6_sale 15 = .ok (.aload_n 0, 1) := by decide +kernel
theorem dX6_sale_16 : decode cX6_sale 16 = .ok (.getfield 10, 3) := by decide +kernel
theorem dX6_sale_19 : decode cX6_sale 19 = .ok (.iload_n 2, 1) := by decide +kernel
theorem dX6_sale_20 : decode cX6_sale 20 = .ok (.iload_n 3, 1) := by decide +kernel
theorem dX6_sale_21 : decode cX6_sale 21 = .ok (.iload 4, 2) := by decide +kernel
theorem dX6_sale_23 : decode cX6_sale 23 = .ok (.iload 5, 2) := by decide +kernel
theorem dX6_sale_25 : decode cX6_sale 25 = .ok (.invokevirtual 152, 3) := by decide +kernel
theorem dX6_sale_28 : decode cX6_sale 28 = .ok (.ifCond .ne 5, 3) := by decide +kernel
theorem dX6_sale_31 : decode cX6_sale 31 = .ok (.iconst (-1), 1) := by decide +kernel
theorem dX6_sale_32 : decode cX6_sale 32 = .ok (.ireturn, 1) := by decide +kernel
theorem dX6_sale_33 : decode cX6_sale 33 = .ok (.aload_n 0, 1) := by decide +kernel
theorem dX6_sale_34 : decode cX6_sale 34 = .ok (.getfield 10, 3) := by decide +kernel
theorem dX6_sale_37 : decode cX6_sale 37 = .ok (.iload_n 2, 1) := by decide +kernel
theorem dX6_sale_38 : decode cX6_sale 38 = .ok (.iload_n 3, 1) := by decide +kernel
theorem dX6_sale_39 : decode cX6_sale 39 = .ok (.iload 4, 2) := by decide +kernel
theorem dX6_sale_41 : decode cX6_sale 41 = .ok (.iload 5, 2) := by decide +kernel
theorem dX6_sale_43 : decode cX6_sale 43 = .ok (.invokevirtual 156, 3) := by decide +kernel
theorem dX6_sale_46 : decode cX6_sale 46 = .ok (.istore 7, 2) := by decide +kernel
theorem dX6_sale_48 : decode cX6_sale 48 = .ok (.aload 6, 2) := by decide +kernel
theorem dX6_sale_50 : decode cX6_sale 50 = .ok (.iload_n 3, 1) := by decide +kernel
theorem dX6_sale_51 : decode cX6_sale 51 = .ok (.invokevirtual 144, 3) := by decide +kernel
theorem dX6_sale_54 : decode cX6_sale 54 = .ok (.astore 8, 2) := by decide +kernel
theorem dX6_sale_56 : decode cX6_sale 56 = .ok (.iload 7, 2) := by decide +kernel
theorem dX6_sale_58 : decode cX6_sale 58 = .ok (.ifCond .lt 17, 3) := by decide +kernel
theorem dX6_sale_61 : decode cX6_sale 61 = .ok (.aload 8, 2) := by decide +kernel
theorem dX6_sale_63 : decode cX6_sale 63 = .ok (.iload 4, 2) := by decide +kernel
theorem dX6_sale_65 : decode cX6_sale 65 = .ok (.iaload, 1) := by decide +kernel
theorem dX6_sale_66 : decode cX6_sale 66 = .ok (.iload 5, 2) := by decide +kernel
theorem dX6_sale_68 : decode cX6_sale 68 = .ok (.iadd, 1) := by decide +kernel
theorem dX6_sale_69 : decode cX6_sale 69 = .ok (.sipush 1000, 3) := by decide +kernel
theorem dX6_sale_72 : decode cX6_sale 72 = .ok (.if_icmp .le 5, 3) := by decide +kernel
theorem dX6_sale_75 : decode cX6_sale 75 = .ok (.iconst (-1), 1) := by decide +kernel
theorem dX6_sale_76 : decode cX6_sale 76 = .ok (.ireturn, 1) := by decide +kernel
theorem dX6_sale_77 : decode cX6_sale 77 = .ok (.iload 7, 2) := by decide +kernel
theorem dX6_sale_79 : decode cX6_sale 79 = .ok (.aload_n 0, 1) := by decide +kernel
theorem dX6_sale_80 : decode cX6_sale 80 = .ok (.getfield 10, 3) := by decide +kernel
theorem dX6_sale_83 : decode cX6_sale 83 = .ok (.getfield 61, 3) := by decide +kernel
theorem dX6_sale_86 : decode cX6_sale 86 = .ok (.invokestatic 160, 3) := by decide +kernel
theorem dX6_sale_89 : decode cX6_sale 89 = .ok (.istore 9, 2) := by decide +kernel
theorem dX6_sale_91 : decode cX6_sale 91 = .ok (.aload 8, 2) := by decide +kernel
theorem dX6_sale_93 : decode cX6_sale 93 = .ok (.iload 4, 2) := by decide +kernel
theorem dX6_sale_95 : decode cX6_sale 95 = .ok (.dup2, 1) := by decide +kernel
theorem dX6_sale_96 : decode cX6_sale 96 = .ok (.iaload, 1) := by decide +kernel
theorem dX6_sale_97 : decode cX6_sale 97 = .ok (.iload 5, 2) := by decide +kernel
theorem dX6_sale_99 : decode cX6_sale 99 = .ok (.iadd, 1) := by decide +kernel
theorem dX6_sale_100 : decode cX6_sale 100 = .ok (.iastore, 1) := by decide +kernel
theorem dX6_sale_101 : decode cX6_sale 101 = .ok (.aload_n 0, 1) := by decide +kernel
theorem dX6_sale_102 : decode cX6_sale 102 = .ok (.getfield 27, 3) := by decide +kernel
theorem dX6_sale_105 : decode cX6_sale 105 = .ok (.aload_n 0, 1) := by decide +kernel
theorem dX6_sale_106 : decode cX6_sale 106 = .ok (.getfield 10, 3) := by decide +kernel
theorem dX6_sale_109 : decode cX6_sale 109 = .ok (.getfield 163, 3) := by decide +kernel
theorem dX6_sale_112 : decode cX6_sale 112 = .ok (.aload 6, 2) := by decide +kernel
theorem dX6_sale_114 : decode cX6_sale 114 = .ok (.getfield 167, 3) := by decide +kernel
theorem dX6_sale_117 : decode cX6_sale 117 = .ok (.iload 9, 2) := by decide +kernel
theorem dX6_sale_119 : decode cX6_sale 119 = .ok (.invokevirtual 169, 3) := by decide +kernel
theorem dX6_sale_122 : decode cX6_sale 122 = .ok (.ifCond .ne 15, 3) := by decide +kernel
theorem dX6_sale_125 : decode cX6_sale 125 = .ok (.aload 8, 2) := by decide +kernel
theorem dX6_sale_127 : decode cX6_sale 127 = .ok (.iload 4, 2) := by decide +kernel
theorem dX6_sale_129 : decode cX6_sale 129 = .ok (.dup2, 1) := by decide +kernel
theorem dX6_sale_130 : decode cX6_sale 130 = .ok (.iaload, 1) := by decide +kernel
theorem dX6_sale_131 : decode cX6_sale 131 = .ok (.iload 5, 2) := by decide +kernel
theorem dX6_sale_133 : decode cX6_sale 133 = .ok (.isub, 1) := by decide +kernel
theorem dX6_sale_134 : decode cX6_sale 134 = .ok (.iastore, 1) := by decide +kernel
theorem dX6_sale_135 : decode cX6_sale 135 = .ok (.iconst (-1), 1) := by decide +kernel
theorem dX6_sale_136 : decode cX6_sale 136 = .ok (.ireturn, 1) := by decide +kernel
theorem dX6_sale_137 : decode cX6_sale 137 = .ok (.aload 6, 2) := by decide +kernel
theorem dX6_sale_139 : decode cX6_sale 139 = .ok (.iload_n 2, 1) := by decide +kernel
theorem dX6_sale_140 : decode cX6_sale 140 = .ok (.iload 7, 2) := by decide +kernel
theorem dX6_sale_142 : decode cX6_sale 142 = .ok (.iload 9, 2) := by decide +kernel
theorem dX6_sale_144 : decode cX6_sale 144 = .ok (.aload_n 0, 1) := by decide +kernel
theorem dX6_sale_145 : decode cX6_sale 145 = .ok (.getfield 10, 3) := by decide +kernel
theorem dX6_sale_148 : decode cX6_sale 148 = .ok (.getfield 61, 3) := by decide +kernel
theorem dX6_sale_151 : decode cX6_sale 151 = .ok (.imul, 1) := by decide +kernel
theorem dX6_sale_152 : decode cX6_sale 152 = .ok (.isub, 1) := by decide +kernel
theorem dX6_sale_153 : decode cX6_sale 153 = .ok (.aload_n 0, 1) := by decide +kernel
theorem dX6_sale_154 : decode cX6_sale 154 = .ok (.getfield 27, 3) := by decide +kernel
theorem dX6_sale_157 : decode cX6_sale 157 = .ok (.getfield 173, 3) := by decide +kernel
theorem dX6_sale_160 : decode cX6_sale 160 = .ok (.invokevirtual 176, 3) := by decide +kernel
theorem dX6_sale_163 : decode cX6_sale 163 = .ok (.iload 9, 2) := by decide +kernel
theorem dX6_sale_165 : decode cX6_sale 165 = .ok (.ireturn, 1) := by decide +kernel
theorem dX6_given_0 : decode cX6_given 0 = .ok (.aload_n 0, 1) := by decide +kernel
theorem dX6_given_1 : decode cX6_given 1 = .ok (.getfield 10, 3) := by decide +kernel
theorem dX6_given_4 : decode cX6_given 4 = .ok (.iload_n 1, 1) := by decide +kernel
theorem dX6_given_5 : decode cX6_given 5 = .ok (.invokevirtual 137, 3) := by decide +kernel
theorem dX6_given_8 : decode cX6_given 8 = .ok (.astore_n 3, 1) := by decide +kernel
theorem dX6_given_9 : decode cX6_given 9 = .ok (.aload_n 3, 1) := by decide +kernel
theorem dX6_given_10 : decode cX6_given 10 = .ok (.ifnull 22, 3) := by decide +kernel
theorem dX6_given_13 : decode cX6_given 13 = .ok (.aload_n 3, 1) := by decide +kernel
theorem dX6_given_14 : decode cX6_given 14 = .ok (.getfield 180, 3) := by decide +kernel
theorem dX6_given_17 : decode cX6_given 17 = .ok (.ifCond .eq 15, 3) := by decide +kernel
theorem dX6_given_20 : decode cX6_given 20 = .ok (.aload_n 0, 1) := by decide +kernel
theorem dX6_given_21 : decode cX6_given 21 = .ok (.getfield 10, 3) := by decide +kernel
theorem dX6_given_24 : decode cX6_given 24 = .ok (.iconst 1, 1) := by decide +kernel
theorem dX6_given_25 : decode cX6_given 25 = .ok (.iload_n 2, 1) := by decide +kernel
theorem dX6_given_26 : decode cX6_given 26 = .ok (.invokevirtual 141, 3) := by decide +kernel
theorem dX6_given_29 : decode cX6_given 29 = .ok (.ifCond .ne 7, 3) := by decide +kernel
theorem dX6_given_32 : decode cX6_given 32 = .ok (.iconst (-1), 1) := by decide +kernel
theorem dX6_given_33 : decode cX6_given 33 = .ok (.goto 9, 3) := by decide +kernel
theorem dX6_given_36 : decode cX6_given 36 = .ok (.aload_n 3, 1) := by decide +kernel
theorem dX6_given_37 : decode cX6_given 37 = .ok (.getfield 183, 3) := by decide +kernel
theorem dX6_given_40 : decode cX6_given 40 = .ok (.iload_n 2, 1) := by decide +kernel
theorem dX6_given_41 : decode cX6_given 41 = .ok (.iaload, 1) := by decide +kernel
theorem dX6_given_42 : decode cX6_given 42 = .ok (.ireturn, 1) := by decide +kernel
theorem dX6_tell_0 : decode cX6_tell 0 = .ok (.aload_n 0, 1) := by decide +kernel
theorem dX6_tell_1 : decode cX6_tell 1 = .ok (.getfield 10, 3) := by decide +kernel
theorem dX6_tell_4 : decode cX6_tell 4 = .ok (.iload_n 1, 1) := by decide +kernel
theorem dX6_tell_5 : decode cX6_tell 5 = .ok (.invokevirtual 137, 3) := by decide +kernel
theorem dX6_tell_8 : decode cX6_tell 8 = .ok (.astore_n 3, 1) := by decide +kernel
theorem dX6_tell_9 : decode cX6_tell 9 = .ok (.aload_n 3, 1) := by decide +kernel
theorem dX6_tell_10 : decode cX6_tell 10 = .ok (.ifnonnull 7, 3) := by decide +kernel
theorem dX6_tell_13 : decode cX6_tell 13 = .ok (.ldc2_w 186, 3) := by decide +kernel
theorem dX6_tell_16 : decode cX6_tell 16 = .ok (.lreturn, 1) := by decide +kernel
theorem dX6_tell_17 : decode cX6_tell 17 = .ok (.iload_n 2, 1) := by decide +kernel
theorem dX6_tell_18 : decode cX6_tell 18 = .ok (.tableswitch 111 0 5 #[38, 44, 49, 75, 88, 102], 38) := by decide +kernel
theorem dX6_tell_56 : decode cX6_tell 56 = .ok (.aload_n 3, 1) := by decide +kernel
theorem dX6_tell_57 : decode cX6_tell 57 = .ok (.getfield 180, 3) := by decide +kernel
theorem dX6_tell_60 : decode cX6_tell 60 = .ok (.i2l, 1) := by decide +kernel
theorem dX6_tell_61 : decode cX6_tell 61 = .ok (.lreturn, 1) := by decide +kernel
theorem dX6_tell_62 : decode cX6_tell 62 = .ok (.aload_n 3, 1) := by decide +kernel
theorem dX6_tell_63 : decode cX6_tell 63 = .ok (.getfield 188, 3) := by decide +kernel
theorem dX6_tell_66 : decode cX6_tell 66 = .ok (.lreturn, 1) := by decide +kernel
theorem dX6_tell_67 : decode cX6_tell 67 = .ok (.aload_n 0, 1) := by decide +kernel
theorem dX6_tell_68 : decode cX6_tell 68 = .ok (.getfield 10, 3) := by decide +kernel
theorem dX6_tell_71 : decode cX6_tell 71 = .ok (.iconst 0, 1) := by decide +kernel
theorem dX6_tell_72 : decode cX6_tell 72 = .ok (.aload_n 3, 1) := by decide +kernel
theorem dX6_tell_73 : decode cX6_tell 73 = .ok (.getfield 192, 3) := by decide +kernel
theorem dX6_tell_76 : decode cX6_tell 76 = .ok (.invokevirtual 195, 3) := by decide +kernel
theorem dX6_tell_79 : decode cX6_tell 79 = .ok (.aload_n 0, 1) := by decide +kernel
theorem dX6_tell_80 : decode cX6_tell 80 = .ok (.getfield 10, 3) := by decide +kernel
theorem dX6_tell_83 : decode cX6_tell 83 = .ok (.iconst 1, 1) := by decide +kernel
theorem dX6_tell_84 : decode cX6_tell 84 = .ok (.aload_n 3, 1) := by decide +kernel
theorem dX6_tell_85 : decode cX6_tell 85 = .ok (.getfield 167, 3) := by decide +kernel
theorem dX6_tell_88 : decode cX6_tell 88 = .ok (.invokevirtual 195, 3) := by decide +kernel
theorem dX6_tell_91 : decode cX6_tell 91 = .ok (.ladd, 1) := by decide +kernel
theorem dX6_tell_92 : decode cX6_tell 92 = .ok (.lreturn, 1) := by decide +kernel
theorem dX6_tell_93 : decode cX6_tell 93 = .ok (.aload_n 0, 1) := by decide +kernel
theorem dX6_tell_94 : decode cX6_tell 94 = .ok (.getfield 10, 3) := by decide +kernel
theorem dX6_tell_97 : decode cX6_tell 97 = .ok (.iconst 0, 1) := by decide +kernel
theorem dX6_tell_98 : decode cX6_tell 98 = .ok (.aload_n 3, 1) := by decide +kernel
theorem dX6_tell_99 : decode cX6_tell 99 = .ok (.getfield 192, 3) := by decide +kernel
theorem dX6_tell_102 : decode cX6_tell 102 = .ok (.invokevirtual 195, 3) := by decide +kernel
theorem dX6_tell_105 : decode cX6_tell 105 = .ok (.lreturn, 1) := by decide +kernel
theorem dX6_tell_106 : decode cX6_tell 106 = .ok (.aload_n 3, 1) := by decide +kernel
theorem dX6_tell_107 : decode cX6_tell 107 = .ok (.getfield 199, 3) := by decide +kernel
theorem dX6_tell_110 : decode cX6_tell 110 = .ok (.aload_n 0, 1) := by decide +kernel
theorem dX6_tell_111 : decode cX6_tell 111 = .ok (.getfield 10, 3) := by decide +kernel
theorem dX6_tell_114 : decode cX6_tell 114 = .ok (.getfield 61, 3) := by decide +kernel
theorem dX6_tell_117 : decode cX6_tell 117 = .ok (.i2l, 1) := by decide +kernel
theorem dX6_tell_118 : decode cX6_tell 118 = .ok (.lmul, 1) := by decide +kernel
theorem dX6_tell_119 : decode cX6_tell 119 = .ok (.lreturn, 1) := by decide +kernel
theorem dX6_tell_120 : decode cX6_tell 120 = .ok (.aload_n 3, 1) := by decide +kernel
theorem dX6_tell_121 : decode cX6_tell 121 = .ok (.getfield 202, 3) := by decide +kernel
theorem dX6_tell_124 : decode cX6_tell 124 = .ok (.getfield 206, 3) := by decide +kernel
theorem dX6_tell_127 : decode cX6_tell 127 = .ok (.i2l, 1) := by decide +kernel
theorem dX6_tell_128 : decode cX6_tell 128 = .ok (.lreturn, 1) := by decide +kernel
theorem dX6_tell_129 : decode cX6_tell 129 = .ok (.ldc2_w 186, 3) := by decide +kernel
theorem dX6_tell_132 : decode cX6_tell 132 = .ok (.lreturn, 1) := by decide +kernel
theorem dX6_has_0 : decode cX6_has 0 = .ok (.aload_n 0, 1) := by decide +kernel
theorem dX6_has_1 : decode cX6_has 1 = .ok (.getfield 10, 3) := by decide +kernel
theorem dX6_has_4 : decode cX6_has 4 = .ok (.iload_n 1, 1) := by decide +kernel
theorem dX6_has_5 : decode cX6_has 5 = .ok (.invokevirtual 137, 3) := by decide +kernel
theorem dX6_has_8 : decode cX6_has 8 = .ok (.astore 4, 2) := by decide +kernel
theorem dX6_has_10 : decode cX6_has 10 = .ok (.aload 4, 2) := by decide +kernel
theorem dX6_has_12 : decode cX6_has 12 = .ok (.ifnull 15, 3) := by decide +kernel
theorem dX6_has_15 : decode cX6_has 15 = .ok (.aload_n 0, 1) := by decide +kernel
theorem dX6_has_16 : decode cX6_has 16 = .ok (.getfield 10, 3) := by decide +kernel
theorem dX6_has_19 : decode cX6_has 19 = .ok (.iload_n 2, 1) := by decide +kernel
theorem dX6_has_20 : decode cX6_has 20 = .ok (.iload_n 3, 1) := by decide +kernel
theorem dX6_has_21 : decode cX6_has 21 = .ok (.invokevirtual 141, 3) := by decide +kernel
theorem dX6_has_24 : decode cX6_has 24 = .ok (.ifCond .ne 7, 3) := by decide +kernel
theorem dX6_has_27 : decode cX6_has 27 = .ok (.iconst (-1), 1) := by decide +kernel
theorem dX6_has_28 : decode cX6_has 28 = .ok (.goto 11, 3) := by decide +kernel
theorem dX6_has_31 : decode cX6_has 31 = .ok (.aload 4, 2) := by decide +kernel
theorem dX6_has_33 : decode cX6_has 33 = .ok (.iload_n 2, 1) := by decide +kernel
theorem dX6_has_34 : decode cX6_has 34 = .ok (.invokevirtual 144, 3) := by decide +kernel
theorem dX6_has_37 : decode cX6_has 37 = .ok (.iload_n 3, 1) := by decide +kernel
theorem dX6_has_38 : decode cX6_has 38 = .ok (.iaload, 1) := by decide +kernel
theorem dX6_has_39 : decode cX6_has 39 = .ok (.ireturn, 1) := by decide +kernel
theorem dX6_draw_0 : decode cX6_draw 0 = .ok (.aload_n 0, 1) := by decide +kernel
theorem dX6_draw_1 : decode cX6_draw 1 = .ok (.getfield 10, 3) := by decide +kernel
theorem dX6_draw_4 : decode cX6_draw 4 = .ok (.iload_n 1, 1) := by decide +kernel
theorem dX6_draw_5 : decode cX6_draw 5 = .ok (.invokevirtual 137, 3) := by decide +kernel
theorem dX6_draw_8 : decode cX6_draw 8 = .ok (.astore_n 2, 1) := by decide +kernel
theorem dX6_draw_9 : decode cX6_draw 9 = .ok (.aload_n 2, 1) := by decide +kernel
theorem dX6_draw_10 : decode cX6_draw 10 = .ok (.ifnonnull 7, 3) := by decide +kernel
theorem dX6_draw_13 : decode cX6_draw 13 = .ok (.ldc2_w 186, 3) := by decide +kernel
theorem dX6_draw_16 : decode cX6_draw 16 = .ok (.lreturn, 1) := by decide +kernel
theorem dX6_draw_17 : decode cX6_draw 17 = .ok (.aload_n 0, 1) := by decide +kernel
theorem dX6_draw_18 : decode cX6_draw 18 = .ok (.getfield 10, 3) := by decide +kernel
theorem dX6_draw_21 : decode cX6_draw 21 = .ok (.iconst 0, 1) := by decide +kernel
theorem dX6_draw_22 : decode cX6_draw 22 = .ok (.aload_n 2, 1) := by decide +kernel
theorem dX6_draw_23 : decode cX6_draw 23 = .ok (.getfield 192, 3) := by decide +kernel
theorem dX6_draw_26 : decode cX6_draw 26 = .ok (.invokevirtual 195, 3) := by decide +kernel
theorem dX6_draw_29 : decode cX6_draw 29 = .ok (.lstore_n 3, 1) := by decide +kernel
theorem dX6_draw_30 : decode cX6_draw 30 = .ok (.iconst 0, 1) := by decide +kernel
theorem dX6_draw_31 : decode cX6_draw 31 = .ok (.istore 5, 2) := by decide +kernel
theorem dX6_draw_33 : decode cX6_draw 33 = .ok (.iload 5, 2) := by decide +kernel
theorem dX6_draw_35 : decode cX6_draw 35 = .ok (.bipush 8, 2) := by decide +kernel
theorem dX6_draw_37 : decode cX6_draw 37 = .ok (.if_icmp .ge 37, 3) := by decide +kernel
theorem dX6_draw_40 : decode cX6_draw 40 = .ok (.aload_n 0, 1) := by decide +kernel
theorem dX6_draw_41 : decode cX6_draw 41 = .ok (.getfield 10, 3) := by decide +kernel
theorem dX6_draw_44 : decode cX6_draw 44 = .ok (.getfield 209, 3) := by decide +kernel
theorem dX6_draw_47 : decode cX6_draw 47 = .ok (.iload 5, 2) := by decide +kernel
theorem dX6_draw_49 : decode cX6_draw 49 = .ok (.dup2, 1) := by decide +kernel
theorem dX6_draw_50 : decode cX6_draw 50 = .ok (.iaload, 1) := by decide +kernel
theorem dX6_draw_51 : decode cX6_draw 51 = .ok (.aload_n 2, 1) := by decide +kernel
theorem dX6_draw_52 : decode cX6_draw 52 = .ok (.getfield 192, 3) := by decide +kernel
theorem dX6_draw_55 : decode cX6_draw 55 = .ok (.iload 5, 2) := by decide +kernel
theorem dX6_draw_57 : decode cX6_draw 57 = .ok (.iaload, 1) := by decide +kernel
theorem dX6_draw_58 : decode cX6_draw 58 = .ok (.iadd, 1) := by decide +kernel
theorem dX6_draw_59 : decode cX6_draw 59 = .ok (.iastore, 1) := by decide +kernel
theorem dX6_draw_60 : decode cX6_draw 60 = .ok (.aload_n 2, 1) := by decide +kernel
theorem dX6_draw_61 : decode cX6_draw 61 = .ok (.getfield 192, 3) := by decide +kernel
theorem dX6_draw_64 : decode cX6_draw 64 = .ok (.iload 5, 2) := by decide +kernel
theorem dX6_draw_66 : decode cX6_draw 66 = .ok (.iconst 0, 1) := by decide +kernel
theorem dX6_draw_67 : decode cX6_draw 67 = .ok (.iastore, 1) := by decide +kernel
theorem dX6_draw_68 : decode cX6_draw 68 = .ok (.iinc 5 1, 3) := by decide +kernel
theorem dX6_draw_71 : decode cX6_draw 71 = .ok (.goto (-38), 3) := by decide +kernel
theorem dX6_draw_74 : decode cX6_draw 74 = .ok (.lload_n 3, 1) := by decide +kernel
theorem dX6_draw_75 : decode cX6_draw 75 = .ok (.lreturn, 1) := by decide +kernel
theorem dX6_drawn_0 : decode cX6_drawn 0 = .ok (.aload_n 0, 1) := by decide +kernel
theorem dX6_drawn_1 : decode cX6_drawn 1 = .ok (.getfield 10, 3) := by decide +kernel
theorem dX6_drawn_4 : decode cX6_drawn 4 = .ok (.iconst 0, 1) := by decide +kernel
theorem dX6_drawn_5 : decode cX6_drawn 5 = .ok (.iload_n 1, 1) := by decide +kernel
theorem dX6_drawn_6 : decode cX6_drawn 6 = .ok (.invokevirtual 141, 3) := by decide +kernel
theorem dX6_drawn_9 : decode cX6_drawn 9 = .ok (.ifCond .eq 15, 3) := by decide +kernel
theorem dX6_drawn_12 : decode cX6_drawn 12 = .ok (.aload_n 0, 1) := by decide +kernel
theorem dX6_drawn_13 : decode cX6_drawn 13 = .ok (.getfield 10, 3) := by decide +kernel
theorem dX6_drawn_16 : decode cX6_drawn 16 = .ok (.getfield 209, 3) := by decide +kernel
theorem dX6_drawn_19 : decode cX6_drawn 19 = .ok (.iload_n 1, 1) := by decide +kernel
theorem dX6_drawn_20 : decode cX6_drawn 20 = .ok (.iaload, 1) := by decide +kernel
theorem dX6_drawn_21 : decode cX6_drawn 21 = .ok (.goto 4, 3) := by decide +kernel
theorem dX6_drawn_24 : decode cX6_drawn 24 = .ok (.iconst (-1), 1) := by decide +kernel
theorem dX6_drawn_25 : decode cX6_drawn 25 = .ok (.ireturn, 1) := by decide +kernel
theorem dX6_expect_0 : decode cX6_expect 0 = .ok (.aload_n 0, 1) := by decide +kernel
theorem dX6_expect_1 : decode cX6_expect 1 = .ok (.getfield 10, 3) := by decide +kernel
theorem dX6_expect_4 : decode cX6_expect 4 = .ok (.iload_n 1, 1) := by decide +kernel
theorem dX6_expect_5 : decode cX6_expect 5 = .ok (.invokevirtual 137, 3) := by decide +kernel
theorem dX6_expect_8 : decode cX6_expect 8 = .ok (.astore 6, 2) := by decide +kernel
theorem dX6_expect_10 : decode cX6_expect 10 = .ok (.aload 6, 2) := by decide +kernel
theorem dX6_expect_12 : decode cX6_expect 12 = .ok (.ifnull 19, 3) := by decide +kernel
theorem dX6_expect_15 : decode cX6_expect 15 = .ok (.aload_n 0, 1) := by decide +kernel
theorem dX6_expect_16 : decode cX6_expect 16 = .ok (.getfield 10, 3) := by decide +kernel
theorem dX6_expect_19 : decode cX6_expect 19 = .ok (.iload_n 2, 1) := by decide +kernel
theorem dX6_expect_20 : decode cX6_expect 20 = .ok (.iload_n 3, 1) := by decide +kernel
theorem dX6_expect_21 : decode cX6_expect 21 = .ok (.iload 4, 2) := by decide +kernel
theorem dX6_expect_23 : decode cX6_expect 23 = .ok (.iload 5, 2) := by decide +kernel
theorem dX6_expect_25 : decode cX6_expect 25 = .ok (.invokevirtual 152, 3) := by decide +kernel
theorem dX6_expect_28 : decode cX6_expect 28 = .ok (.ifCond .ne 7, 3) := by decide +kernel
theorem dX6_expect_31 : decode cX6_expect 31 = .ok (.iconst (-1), 1) := by decide +kernel
theorem dX6_expect_32 : decode cX6_expect 32 = .ok (.goto 17, 3) := by decide +kernel
theorem dX6_expect_35 : decode cX6_expect 35 = .ok (.aload 6, 2) := by decide +kernel
theorem dX6_expect_37 : decode cX6_expect 37 = .ok (.getfield 202, 3) := by decide +kernel
theorem dX6_expect_40 : decode cX6_expect 40 = .ok (.iload_n 2, 1) := by decide +kernel
theorem dX6_expect_41 : decode cX6_expect 41 = .ok (.iload_n 3, 1) := by decide +kernel
theorem dX6_expect_42 : decode cX6_expect 42 = .ok (.iload 4, 2) := by decide +kernel
theorem dX6_expect_44 : decode cX6_expect 44 = .ok (.iload 5, 2) := by decide +kernel
theorem dX6_expect_46 : decode cX6_expect 46 = .ok (.invokevirtual 212, 3) := by decide +kernel
theorem dX6_expect_49 : decode cX6_expect 49 = .ok (.ireturn, 1) := by decide +kernel
theorem dX6_forget_0 : decode cX6_forget 0 = .ok (.aload_n 0, 1) := by decide +kernel
theorem dX6_forget_1 : decode cX6_forget 1 = .ok (.getfield 10, 3) := by decide +kernel
theorem dX6_forget_4 : decode cX6_forget 4 = .ok (.iload_n 1, 1) := by decide +kernel
theorem dX6_forget_5 : decode cX6_forget 5 = .ok (.invokevirtual 137, 3) := by decide +kernel
theorem dX6_forget_8 : decode cX6_forget 8 = .ok (.astore_n 2, 1) := by decide +kernel
theorem dX6_forget_9 : decode cX6_forget 9 = .ok (.aload_n 2, 1) := by decide +kernel
theorem dX6_forget_10 : decode cX6_forget 10 = .ok (.ifnonnull 5, 3) := by decide +kernel
theorem dX6_forget_13 : decode cX6_forget 13 = .ok (.iconst 0, 1) := by decide +kernel
theorem dX6_forget_14 : decode cX6_forget 14 = .ok (.ireturn, 1) := by decide +kernel
theorem dX6_forget_15 : decode cX6_forget 15 = .ok (.aload_n 2, 1) := by decide +kernel
theorem dX6_forget_16 : decode cX6_forget 16 = .ok (.getfield 202, 3) := by decide +kernel
theorem dX6_forget_19 : decode cX6_forget 19 = .ok (.iconst 0, 1) := by decide +kernel
theorem dX6_forget_20 : decode cX6_forget 20 = .ok (.putfield 206, 3) := by decide +kernel
theorem dX6_forget_23 : decode cX6_forget 23 = .ok (.iconst 1, 1) := by decide +kernel
theorem dX6_forget_24 : decode cX6_forget 24 = .ok (.ireturn, 1) := by decide +kernel
theorem dX6_wanted_0 : decode cX6_wanted 0 = .ok (.aload_n 0, 1) := by decide +kernel
theorem dX6_wanted_1 : decode cX6_wanted 1 = .ok (.getfield 10, 3) := by decide +kernel
theorem dX6_wanted_4 : decode cX6_wanted 4 = .ok (.iload_n 1, 1) := by decide +kernel
theorem dX6_wanted_5 : decode cX6_wanted 5 = .ok (.invokevirtual 137, 3) := by decide +kernel
theorem dX6_wanted_8 : decode cX6_wanted 8 = .ok (.astore_n 3, 1) := by decide +kernel
theorem dX6_wanted_9 : decode cX6_wanted 9 = .ok (.aload_n 3, 1) := by decide +kernel
theorem dX6_wanted_10 : decode cX6_wanted 10 = .ok (.ifnull 15, 3) := by decide +kernel
theorem dX6_wanted_13 : decode cX6_wanted 13 = .ok (.aload_n 0, 1) := by decide +kernel
theorem dX6_wanted_14 : decode cX6_wanted 14 = .ok (.getfield 10, 3) := by decide +kernel
theorem dX6_wanted_17 : decode cX6_wanted 17 = .ok (.iconst 1, 1) := by decide +kernel
theorem dX6_wanted_18 : decode cX6_wanted 18 = .ok (.iload_n 2, 1) := by decide +kernel
theorem dX6_wanted_19 : decode cX6_wanted 19 = .ok (.invokevirtual 141, 3) := by decide +kernel
theorem dX6_wanted_22 : decode cX6_wanted 22 = .ok (.ifCond .ne 7, 3) := by decide +kernel
theorem dX6_wanted_25 : decode cX6_wanted 25 = .ok (.iconst (-1), 1) := by decide +kernel
theorem dX6_wanted_26 : decode cX6_wanted 26 = .ok (.goto 12, 3) := by decide +kernel
theorem dX6_wanted_29 : decode cX6_wanted 29 = .ok (.aload_n 0, 1) := by decide +kernel
theorem dX6_wanted_30 : decode cX6_wanted 30 = .ok (.aload_n 3, 1) := by decide +kernel
theorem dX6_wanted_31 : decode cX6_wanted 31 = .ok (.getfield 202, 3) := by decide +kernel
theorem dX6_wanted_34 : decode cX6_wanted 34 = .ok (.iload_n 2, 1) := by decide +kernel
theorem dX6_wanted_35 : decode cX6_wanted 35 = .ok (.invokevirtual 214, 3) := by decide +kernel
theorem dX6_wanted_38 : decode cX6_wanted 38 = .ok (.ireturn, 1) := by decide +kernel
theorem dX6_about_0 : decode cX6_about 0 = .ok (.iload_n 1, 1) := by decide +kernel
theorem dX6_about_1 : decode cX6_about 1 = .ok (.iconst 2, 1) := by decide +kernel
theorem dX6_about_2 : decode cX6_about 2 = .ok (.if_icmp .ne 12, 3) := by decide +kernel
theorem dX6_about_5 : decode cX6_about 5 = .ok (.aload_n 0, 1) := by decide +kernel
theorem dX6_about_6 : decode cX6_about 6 = .ok (.getfield 10, 3) := by decide +kernel
theorem dX6_about_9 : decode cX6_about 9 = .ok (.iload_n 2, 1) := by decide +kernel
theorem dX6_about_10 : decode cX6_about 10 = .ok (.invokevirtual 218, 3) := by decide +kernel
theorem dX6_about_13 : decode cX6_about 13 = .ok (.ireturn, 1) := by decide +kernel
theorem dX6_about_14 : decode cX6_about 14 = .ok (.aload_n 0, 1) := by decide +kernel
theorem dX6_about_15 : decode cX6_about 15 = .ok (.getfield 10, 3) := by decide +kernel
theorem dX6_about_18 : decode cX6_about 18 = .ok (.iload_n 1, 1) := by decide +kernel
theorem dX6_about_19 : decode cX6_about 19 = .ok (.invokevirtual 39, 3) := by decide +kernel
theorem dX6_about_22 : decode cX6_about 22 = .ok (.astore_n 3, 1) := by decide +kernel
theorem dX6_about_23 : decode cX6_about 23 = .ok (.aload_n 3, 1) := by decide +kernel
theorem dX6_about_24 : decode cX6_about 24 = .ok (.ifnonnull 7, 3) := by decide +kernel
theorem dX6_about_27 : decode cX6_about 27 = .ok (.iconst (-1), 1) := by decide +kernel
theorem dX6_about_28 : decode cX6_about 28 = .ok (.goto 8, 3) := by decide +kernel
theorem dX6_about_31 : decode cX6_about 31 = .ok (.aload_n 3, 1) := by decide +kernel
theorem dX6_about_32 : decode cX6_about 32 = .ok (.iload_n 2, 1) := by decide +kernel
theorem dX6_about_33 : decode cX6_about 33 = .ok (.invokevirtual 221, 3) := by decide +kernel
theorem dX6_about_36 : decode cX6_about 36 = .ok (.ireturn, 1) := by decide +kernel
theorem dX6_image_0 : decode cX6_image 0 = .ok (.iconst 0, 1) := by decide +kernel
theorem dX6_image_1 : decode cX6_image 1 = .ok (.iload_n 1, 1) := by decide +kernel
theorem dX6_image_2 : decode cX6_image 2 = .ok (.iconst 2, 1) := by decide +kernel
theorem dX6_image_3 : decode cX6_image 3 = .ok (.invokestatic 49, 3) := by decide +kernel
theorem dX6_image_6 : decode cX6_image 6 = .ok (.ifCond .ne 5, 3) := by decide +kernel
theorem dX6_image_9 : decode cX6_image 9 = .ok (.iconst 0, 1) := by decide +kernel
theorem dX6_image_10 : decode cX6_image 10 = .ok (.ireturn, 1) := by decide +kernel
theorem dX6_image_11 : decode cX6_image 11 = .ok (.aload_n 0, 1) := by decide +kernel
theorem dX6_image_12 : decode cX6_image 12 = .ok (.getfield 16, 3) := by decide +kernel
theorem dX6_image_15 : decode cX6_image 15 = .ok (.iload_n 1, 1) := by decide +kernel
theorem dX6_image_16 : decode cX6_image 16 = .ok (.aaload, 1) := by decide +kernel
theorem dX6_image_17 : decode cX6_image 17 = .ok (.aload_n 0, 1) := by decide +kernel
theorem dX6_image_18 : decode cX6_image 18 = .ok (.getfield 10, 3) := by decide +kernel
theorem dX6_image_21 : decode cX6_image 21 = .ok (.invokevirtual 222, 3) := by decide +kernel
theorem dX6_image_24 : decode cX6_image 24 = .ok (.aload_n 0, 1) := by decide +kernel
theorem dX6_image_25 : decode cX6_image 25 = .ok (.getfield 20, 3) := by decide +kernel
theorem dX6_image_28 : decode cX6_image 28 = .ok (.iload_n 1, 1) := by decide +kernel
theorem dX6_image_29 : decode cX6_image 29 = .ok (.iconst 1, 1) := by decide +kernel
theorem dX6_image_30 : decode cX6_image 30 = .ok (.bastore, 1) := by decide +kernel
theorem dX6_image_31 : decode cX6_image 31 = .ok (.iconst 1, 1) := by decide +kernel
theorem dX6_image_32 : decode cX6_image 32 = .ok (.ireturn, 1) := by decide +kernel
theorem dX6_again_0 : decode cX6_again 0 = .ok (.iconst 0, 1) := by decide +kernel
theorem dX6_again_1 : decode cX6_again 1 = .ok (.iload_n 1, 1) := by decide +kernel
theorem dX6_again_2 : decode cX6_again 2 = .ok (.iconst 2, 1) := by decide +kernel
theorem dX6_again_3 : decode cX6_again 3 = .ok (.invokestatic 49, 3) := by decide +kernel
theorem dX6_again_6 : decode cX6_again 6 = .ok (.ifCond .eq 12, 3) := by decide +kernel
theorem dX6_again_9 : decode cX6_again 9 = .ok (.aload_n 0, 1) := by decide +kernel
theorem dX6_again_10 : decode cX6_again 10 = .ok (.getfield 20, 3) := by decide +kernel
theorem dX6_again_13 : decode cX6_again 13 = .ok (.iload_n 1, 1) := by decide +kernel
theorem dX6_again_14 : decode cX6_again 14 = .ok (.baload, 1) := by decide +kernel
theorem dX6_again_15 : decode cX6_again 15 = .ok (.ifCond .ne 5, 3) := by decide +kernel
theorem dX6_again_18 : decode cX6_again 18 = .ok (.iconst 0, 1) := by decide +kernel
theorem dX6_again_19 : decode cX6_again 19 = .ok (.ireturn, 1) := by decide +kernel
theorem dX6_again_20 : decode cX6_again 20 = .ok (.aload_n 0, 1) := by decide +kernel
theorem dX6_again_21 : decode cX6_again 21 = .ok (.getfield 10, 3) := by decide +kernel
theorem dX6_again_24 : decode cX6_again 24 = .ok (.aload_n 0, 1) := by decide +kernel
theorem dX6_again_25 : decode cX6_again 25 = .ok (.getfield 16, 3) := by decide +kernel
theorem dX6_again_28 : decode cX6_again 28 = .ok (.iload_n 1, 1) := by decide +kernel
theorem dX6_again_29 : decode cX6_again 29 = .ok (.aaload, 1) := by decide +kernel
theorem dX6_again_30 : decode cX6_again 30 = .ok (.invokevirtual 222, 3) := by decide +kernel
theorem dX6_again_33 : decode cX6_again 33 = .ok (.iconst 1, 1) := by decide +kernel
theorem dX6_again_34 : decode cX6_again 34 = .ok (.ireturn, 1) := by decide +kernel
theorem dX6_within_0 : decode cX6_within 0 = .ok (.iload_n 0, 1) := by decide +kernel
theorem dX6_within_1 : decode cX6_within 1 = .ok (.iload_n 1, 1) := by decide +kernel
theorem dX6_within_2 : decode cX6_within 2 = .ok (.if_icmp .gt 12, 3) := by decide +kernel
theorem dX6_within_5 : decode cX6_within 5 = .ok (.iload_n 1, 1) := by decide +kernel
theorem dX6_within_6 : decode cX6_within 6 = .ok (.iload_n 2, 1) := by decide +kernel
theorem dX6_within_7 : decode cX6_within 7 = .ok (.if_icmp .gt 7, 3) := by decide +kernel
theorem dX6_within_10 : decode cX6_within 10 = .ok (.iconst 1, 1) := by decide +kernel
theorem dX6_within_11 : decode cX6_within 11 = .ok (.goto 4, 3) := by decide +kernel
theorem dX6_within_14 : decode cX6_within 14 = .ok (.iconst 0, 1) := by decide +kernel
theorem dX6_within_15 : decode cX6_within 15 = .ok (.ireturn, 1) := by decide +kernel
theorem dX6_isRule_0 : decode cX6_isRule 0 = .ok (.iconst 0, 1) := by decide +kernel
theorem dX6_isRule_1 : decode cX6_isRule 1 = .ok (.iload_n 0, 1) := by decide +kernel
theorem dX6_isRule_2 : decode cX6_isRule 2 = .ok (.iconst 3, 1) := by decide +kernel
theorem dX6_isRule_3 : decode cX6_isRule 3 = .ok (.invokestatic 49, 3) := by decide +kernel
theorem dX6_isRule_6 : decode cX6_isRule 6 = .ok (.ireturn, 1) := by decide +kernel
theorem dX6_isSum_0 : decode cX6_isSum 0 = .ok (.iconst 0, 1) := by decide +kernel
theorem dX6_isSum_1 : decode cX6_isSum 1 = .ok (.iload_n 0, 1) := by decide +kernel
theorem dX6_isSum_2 : decode cX6_isSum 2 = .ok (.sipush 2000, 3) := by decide +kernel
theorem dX6_isSum_5 : decode cX6_isSum 5 = .ok (.invokestatic 49, 3) := by decide +kernel
theorem dX6_isSum_8 : decode cX6_isSum 8 = .ok (.ireturn, 1) := by decide +kernel
theorem dX6_wholeTimes_0 : decode cX6_wholeTimes 0 = .ok (.iload_n 1, 1) := by decide +kernel
theorem dX6_wholeTimes_1 : decode cX6_wholeTimes 1 = .ok (.iconst 1, 1) := by decide +kernel
theorem dX6_wholeTimes_2 : decode cX6_wholeTimes 2 = .ok (.if_icmp .ge 7, 3) := by decide +kernel
theorem dX6_wholeTimes_5 : decode cX6_wholeTimes 5 = .ok (.iconst 0, 1) := by decide +kernel
theorem dX6_wholeTimes_6 : decode cX6_wholeTimes 6 = .ok (.goto 6, 3) := by decide +kernel
theorem dX6_wholeTimes_9 : decode cX6_wholeTimes 9 = .ok (.iload_n 0, 1) := by decide +kernel
theorem dX6_wholeTimes_10 : decode cX6_wholeTimes 10 = .ok (.iload_n 1, 1) := by decide +kernel
theorem dX6_wholeTimes_11 : decode cX6_wholeTimes 11 = .ok (.idiv, 1) := by decide +kernel
theorem dX6_wholeTimes_12 : decode cX6_wholeTimes 12 = .ok (.ireturn, 1) := by decide +kernel
theorem dX6_startOfWays_0 : decode cX6_startOfWays 0 = .ok (.lconst 0, 1) := by decide +kernel
theorem dX6_startOfWays_1 : decode cX6_startOfWays 1 = .ok (.lstore_n 1, 1) := by decide +kernel
theorem dX6_startOfWays_2 : decode cX6_startOfWays 2 = .ok (.lconst 0, 1) := by decide +kernel
theorem dX6_startOfWays_3 : decode cX6_startOfWays 3 = .ok (.lstore_n 3, 1) := by decide +kernel
theorem dX6_startOfWays_4 : decode cX6_startOfWays 4 = .ok (.iconst 0, 1) := by decide +kernel
theorem dX6_startOfWays_5 : decode cX6_startOfWays 5 = .ok (.istore 5, 2) := by decide +kernel
theorem dX6_startOfWays_7 : decode cX6_startOfWays 7 = .ok (.iload 5, 2) := by decide +kernel
theorem dX6_startOfWays_9 : decode cX6_startOfWays 9 = .ok (.aload_n 0, 1) := by decide +kernel
theorem dX6_startOfWays_10 : decode cX6_startOfWays 10 = .ok (.getfield 10, 3) := by decide +kernel
theorem dX6_startOfWays_13 : decode cX6_startOfWays 13 = .ok (.getfield 64, 3) := by decide +kernel
theorem dX6_startOfWays_16 : decode cX6_startOfWays 16 = .ok (.getfield 89, 3) := by decide +kernel
theorem dX6_startOfWays_19 : decode cX6_startOfWays 19 = .ok (.if_icmp .ge 57, 3) := by decide +kernel
theorem dX6_startOfWays_22 : decode cX6_startOfWays 22 = .ok (.aload_n 0, 1) := by decide +kernel
theorem dX6_startOfWays_23 : decode cX6_startOfWays 23 = .ok (.getfield 10, 3) := by decide +kernel
theorem dX6_startOfWays_26 : decode cX6_startOfWays 26 = .ok (.iload 5, 2) := by decide +kernel
theorem dX6_startOfWays_28 : decode cX6_startOfWays 28 = .ok (.iconst 0, 1) := by decide +kernel
theorem dX6_startOfWays_29 : decode cX6_startOfWays 29 = .ok (.invokevirtual 92, 3) := by decide +kernel
theorem dX6_startOfWays_32 : decode cX6_startOfWays 32 = .ok (.lstore 6, 2) := by decide +kernel
theorem dX6_startOfWays_34 : decode cX6_startOfWays 34 = .ok (.aload_n 0, 1) := by decide +kernel
theorem dX6_startOfWays_35 : decode cX6_startOfWays 35 = .ok (.getfield 10, 3) := by decide +kernel
theorem dX6_startOfWays_38 : decode cX6_startOfWays 38 = .ok (.iload 5, 2) := by decide +kernel
theorem dX6_startOfWays_40 : decode cX6_startOfWays 40 = .ok (.iconst 1, 1) := by decide +kernel
theorem dX6_startOfWays_41 : decode cX6_startOfWays 41 = .ok (.invokevirtual 92, 3) := by decide +kernel
theorem dX6_startOfWays_44 : decode cX6_startOfWays 44 = .ok (.lload 6, 2) := by decide +kernel
theorem dX6_startOfWays_46 : decode cX6_startOfWays 46 = .ok (.lsub, 1) := by decide +kernel
theorem dX6_startOfWays_47 : decode cX6_startOfWays 47 = .ok (.lstore 8, 2) := by decide +kernel
theorem dX6_startOfWays_49 : decode cX6_startOfWays 49 = .ok (.aload_n 0, 1) := by decide +kernel
theorem dX6_startOfWays_50 : decode cX6_startOfWays 50 = .ok (.getfield 35, 3) := by decide +kernel
theorem dX6_startOfWays_53 : decode cX6_startOfWays 53 = .ok (.iload 5, 2) := by decide +kernel
theorem dX6_startOfWays_55 : decode cX6_startOfWays 55 = .ok (.lload 8, 2) := by decide +kernel
theorem dX6_startOfWays_57 : decode cX6_startOfWays 57 = .ok (.lload_n 3, 1) := by decide +kernel
theorem dX6_startOfWays_58 : decode cX6_startOfWays 58 = .ok (.lsub, 1) := by decide +kernel
theorem dX6_startOfWays_59 : decode cX6_startOfWays 59 = .ok (.lastore, 1) := by decide +kernel
theorem dX6_startOfWays_60 : decode cX6_startOfWays 60 = .ok (.lload_n 3, 1) := by decide +kernel
theorem dX6_startOfWays_61 : decode cX6_startOfWays 61 = .ok (.lload 8, 2) := by decide +kernel
theorem dX6_startOfWays_63 : decode cX6_startOfWays 63 = .ok (.ladd, 1) := by decide +kernel
theorem dX6_startOfWays_64 : decode cX6_startOfWays 64 = .ok (.lstore_n 3, 1) := by decide +kernel
theorem dX6_startOfWays_65 : decode cX6_startOfWays 65 = .ok (.lload_n 1, 1) := by decide +kernel
theorem dX6_startOfWays_66 : decode cX6_startOfWays 66 = .ok (.lload 6, 2) := by decide +kernel
theorem dX6_startOfWays_68 : decode cX6_startOfWays 68 = .ok (.ladd, 1) := by decide +kernel
theorem dX6_startOfWays_69 : decode cX6_startOfWays 69 = .ok (.lstore_n 1, 1) := by decide +kernel
theorem dX6_startOfWays_70 : decode cX6_startOfWays 70 = .ok (.iinc 5 1, 3) := by decide +kernel
theorem dX6_startOfWays_73 : decode cX6_startOfWays 73 = .ok (.goto (-66), 3) := by decide +kernel
theorem dX6_startOfWays_76 : decode cX6_startOfWays 76 = .ok (.lload_n 1, 1) := by decide +kernel
theorem dX6_startOfWays_77 : decode cX6_startOfWays 77 = .ok (.lreturn, 1) := by decide +kernel
theorem dX6_mostLacking_0 : decode cX6_mostLacking 0 = .ok (.iconst 0, 1) := by decide +kernel
theorem dX6_mostLacking_1 : decode cX6_mostLacking 1 = .ok (.istore_n 3, 1) := by decide +kernel
theorem dX6_mostLacking_2 : decode cX6_mostLacking 2 = .ok (.iconst 0, 1) := by decide +kernel
theorem dX6_mostLacking_3 : decode cX6_mostLacking 3 = .ok (.istore 4, 2) := by decide +kernel
theorem dX6_mostLacking_5 : decode cX6_mostLacking 5 = .ok (.iconst 0, 1) := by decide +kernel
theorem dX6_mostLacking_6 : decode cX6_mostLacking 6 = .ok (.istore 5, 2) := by decide +kernel
theorem dX6_mostLacking_8 : decode cX6_mostLacking 8 = .ok (.iload 5, 2) := by decide +kernel
theorem dX6_mostLacking_10 : decode cX6_mostLacking 10 = .ok (.aload_n 1, 1) := by decide +kernel
theorem dX6_mostLacking_11 : decode cX6_mostLacking 11 = .ok (.getfield 206, 3) := by decide +kernel
theorem dX6_mostLacking_14 : decode cX6_mostLacking 14 = .ok (.if_icmp .ge 151, 3) := by decide +kernel
theorem dX6_mostLacking_17 : decode cX6_mostLacking 17 = .ok (.aload_n 1, 1) := by decide +kernel
theorem dX6_mostLacking_18 : decode cX6_mostLacking 18 = .ok (.getfield 226, 3) := by decide +kernel
theorem dX6_mostLacking_21 : decode cX6_mostLacking 21 = .ok (.iload 5, 2) := by decide +kernel
theorem dX6_mostLacking_23 : decode cX6_mostLacking 23 = .ok (.iaload, 1) := by decide +kernel
theorem dX6_mostLacking_24 : decode cX6_mostLacking 24 = .ok (.istore 6, 2) := by decide +kernel
theorem dX6_mostLacking_26 : decode cX6_mostLacking 26 = .ok (.aload_n 0, 1) := by decide +kernel
theorem dX6_mostLacking_27 : decode cX6_mostLacking 27 = .ok (.getfield 10, 3) := by decide +kernel
theorem dX6_mostLacking_30 : decode cX6_mostLacking 30 = .ok (.aload_n 1, 1) := by decide +kernel
theorem dX6_mostLacking_31 : decode cX6_mostLacking 31 = .ok (.getfield 229, 3) := by decide +kernel
theorem dX6_mostLacking_34 : decode cX6_mostLacking 34 = .ok (.iload 5, 2) := by decide +kernel
theorem dX6_mostLacking_36 : decode cX6_mostLacking 36 = .ok (.iaload, 1) := by decide +kernel
theorem dX6_mostLacking_37 : decode cX6_mostLacking 37 = .ok (.aload_n 1, 1) := by decide +kernel
theorem dX6_mostLacking_38 : decode cX6_mostLacking 38 = .ok (.getfield 232, 3) := by decide +kernel
theorem dX6_mostLacking_41 : decode cX6_mostLacking 41 = .ok (.iload 5, 2) := by decide +kernel
theorem dX6_mostLacking_43 : decode cX6_mostLacking 43 = .ok (.iaload, 1) := by decide +kernel
theorem dX6_mostLacking_44 : decode cX6_mostLacking 44 = .ok (.aload_n 1, 1) := by decide +kernel
theorem dX6_mostLacking_45 : decode cX6_mostLacking 45 = .ok (.getfield 235, 3) := by decide +kernel
theorem dX6_mostLacking_48 : decode cX6_mostLacking 48 = .ok (.iload 5, 2) := by decide +kernel
theorem dX6_mostLacking_50 : decode cX6_mostLacking 50 = .ok (.iaload, 1) := by decide +kernel
theorem dX6_mostLacking_51 : decode cX6_mostLacking 51 = .ok (.iload 6, 2) := by decide +kernel
theorem dX6_mostLacking_53 : decode cX6_mostLacking 53 = .ok (.invokevirtual 156, 3) := by decide +kernel
theorem dX6_mostLacking_56 : decode cX6_mostLacking 56 = .ok (.istore 7, 2) := by decide +kernel
theorem dX6_mostLacking_58 : decode cX6_mostLacking 58 = .ok (.iload 7, 2) := by decide +kernel
theorem dX6_mostLacking_60 : decode cX6_mostLacking 60 = .ok (.ifCond .ge 7, 3) := by decide +kernel
theorem dX6_mostLacking_63 : decode cX6_mostLacking 63 = .ok (.iconst (-1), 1) := by decide +kernel
theorem dX6_mostLacking_64 : decode cX6_mostLacking 64 = .ok (.goto 15, 3) := by decide +kernel
theorem dX6_mostLacking_67 : decode cX6_mostLacking 67 = .ok (.iload 7, 2) := by decide +kernel
theorem dX6_mostLacking_69 : decode cX6_mostLacking 69 = .ok (.aload_n 0, 1) := by decide +kernel
theorem dX6_mostLacking_70 : decode cX6_mostLacking 70 = .ok (.getfield 10, 3) := by decide +kernel
theorem dX6_mostLacking_73 : decode cX6_mostLacking 73 = .ok (.getfield 61, 3) := by decide +kernel
theorem dX6_mostLacking_76 : decode cX6_mostLacking 76 = .ok (.invokestatic 160, 3) := by decide +kernel
theorem dX6_mostLacking_79 : decode cX6_mostLacking 79 = .ok (.istore 8, 2) := by decide +kernel
theorem dX6_mostLacking_81 : decode cX6_mostLacking 81 = .ok (.aload_n 0, 1) := by decide +kernel
theorem dX6_mostLacking_82 : decode cX6_mostLacking 82 = .ok (.getfield 10, 3) := by decide +kernel
theorem dX6_mostLacking_85 : decode cX6_mostLacking 85 = .ok (.getfield 163, 3) := by decide +kernel
theorem dX6_mostLacking_88 : decode cX6_mostLacking 88 = .ok (.iload 8, 2) := by decide +kernel
theorem dX6_mostLacking_90 : decode cX6_mostLacking 90 = .ok (.invokevirtual 111, 3) := by decide +kernel
theorem dX6_mostLacking_93 : decode cX6_mostLacking 93 = .ok (.ifCond .ne 5, 3) := by decide +kernel
theorem dX6_mostLacking_96 : decode cX6_mostLacking 96 = .ok (.iconst (-1), 1) := by decide +kernel
theorem dX6_mostLacking_97 : decode cX6_mostLacking 97 = .ok (.ireturn, 1) := by decide +kernel
theorem dX6_mostLacking_98 : decode cX6_mostLacking 98 = .ok (.aload_n 1, 1) := by decide +kernel
theorem dX6_mostLacking_99 : decode cX6_mostLacking 99 = .ok (.getfield 232, 3) := by decide +kernel
theorem dX6_mostLacking_102 : decode cX6_mostLacking 102 = .ok (.iload 5, 2) := by decide +kernel
theorem dX6_mostLacking_104 : decode cX6_mostLacking 104 = .ok (.iaload, 1) := by decide +kernel
theorem dX6_mostLacking_105 : decode cX6_mostLacking 105 = .ok (.iconst 1, 1) := by decide +kernel
theorem dX6_mostLacking_106 : decode cX6_mostLacking 106 = .ok (.if_icmp .ne 19, 3) := by decide +kernel
theorem dX6_mostLacking_109 : decode cX6_mostLacking 109 = .ok (.aload_n 1, 1) := by decide +kernel
theorem dX6_mostLacking_110 : decode cX6_mostLacking 110 = .ok (.getfield 235, 3) := by decide +kernel
theorem dX6_mostLacking_113 : decode cX6_mostLacking 113 = .ok (.iload 5, 2) := by decide +kernel
theorem dX6_mostLacking_115 : decode cX6_mostLacking 115 = .ok (.iaload, 1) := by decide +kernel
theorem dX6_mostLacking_116 : decode cX6_mostLacking 116 = .ok (.iload_n 2, 1) := by decide +kernel
theorem dX6_mostLacking_117 : decode cX6_mostLacking 117 = .ok (.if_icmp .ne 8, 3) := by decide +kernel
theorem dX6_mostLacking_120 : decode cX6_mostLacking 120 = .ok (.iload_n 3, 1) := by decide +kernel
theorem dX6_mostLacking_121 : decode cX6_mostLacking 121 = .ok (.iload 6, 2) := by decide +kernel
theorem dX6_mostLacking_123 : decode cX6_mostLacking 123 = .ok (.iadd, 1) := by decide +kernel
theorem dX6_mostLacking_124 : decode cX6_mostLacking 124 = .ok (.istore_n 3, 1) := by decide +kernel
theorem dX6_mostLacking_125 : decode cX6_mostLacking 125 = .ok (.aload_n 0, 1) := by decide +kernel
theorem dX6_mostLacking_126 : decode cX6_mostLacking 126 = .ok (.getfield 10, 3) := by decide +kernel
theorem dX6_mostLacking_129 : decode cX6_mostLacking 129 = .ok (.getfield 163, 3) := by decide +kernel
theorem dX6_mostLacking_132 : decode cX6_mostLacking 132 = .ok (.iload 8, 2) := by decide +kernel
theorem dX6_mostLacking_134 : decode cX6_mostLacking 134 = .ok (.aload_n 0, 1) := by decide +kernel
theorem dX6_mostLacking_135 : decode cX6_mostLacking 135 = .ok (.getfield 31, 3) := by decide +kernel
theorem dX6_mostLacking_138 : decode cX6_mostLacking 138 = .ok (.invokevirtual 120, 3) := by decide +kernel
theorem dX6_mostLacking_141 : decode cX6_mostLacking 141 = .ok (.iload_n 3, 1) := by decide +kernel
theorem dX6_mostLacking_142 : decode cX6_mostLacking 142 = .ok (.aload_n 0, 1) := by decide +kernel
theorem dX6_mostLacking_143 : decode cX6_mostLacking 143 = .ok (.getfield 31, 3) := by decide +kernel
theorem dX6_mostLacking_146 : decode cX6_mostLacking 146 = .ok (.iload_n 2, 1) := by decide +kernel
theorem dX6_mostLacking_147 : decode cX6_mostLacking 147 = .ok (.iaload, 1) := by decide +kernel
theorem dX6_mostLacking_148 : decode cX6_mostLacking 148 = .ok (.isub, 1) := by decide +kernel
theorem dX6_mostLacking_149 : decode cX6_mostLacking 149 = .ok (.istore_n 3, 1) := by decide +kernel
theorem dX6_mostLacking_150 : decode cX6_mostLacking 150 = .ok (.iload 4, 2) := by decide +kernel
theorem dX6_mostLacking_152 : decode cX6_mostLacking 152 = .ok (.iload_n 3, 1) := by decide +kernel
theorem dX6_mostLacking_153 : decode cX6_mostLacking 153 = .ok (.ineg, 1) := by decide +kernel
theorem dX6_mostLacking_154 : decode cX6_mostLacking 154 = .ok (.invokestatic 238, 3) := by decide +kernel
theorem dX6_mostLacking_157 : decode cX6_mostLacking 157 = .ok (.istore 4, 2) := by decide +kernel
theorem dX6_mostLacking_159 : decode cX6_mostLacking 159 = .ok (.iinc 5 1, 3) := by decide +kernel
theorem dX6_mostLacking_162 : decode cX6_mostLacking 162 = .ok (.goto (-154), 3) := by decide +kernel
theorem dX6_mostLacking_165 : decode cX6_mostLacking 165 = .ok (.iload 4, 2) := by decide +kernel
theorem dX6_mostLacking_167 : decode cX6_mostLacking 167 = .ok (.ireturn, 1) := by decide +kernel
