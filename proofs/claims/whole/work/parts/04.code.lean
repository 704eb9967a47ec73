theorem dX0_init_0 : decode cX0_init 0 = .ok (.aload_n 0, 1) := by decide +kernel
theorem dX0_init_1 : decode cX0_init 1 = .ok (.invokespecial 1, 3) := by decide +kernel
theorem dX0_init_4 : decode cX0_init 4 = .ok (.aload_n 0, 1) := by decide +kernel
theorem dX0_init_5 : decode cX0_init 5 = .ok (.bipush 14, 2) := by decide +kernel
theorem dX0_init_7 : decode cX0_init 7 = .ok (.anewarray 9, 3) := by decide +kernel
theorem dX0_init_10 : decode cX0_init 10 = .ok (.putfield 11, 3) := by decide +kernel
theorem dX0_init_13 : decode cX0_init 13 = .ok (.iconst 0, 1) := by decide +kernel
theorem dX0_init_14 : decode cX0_init 14 = .ok (.istore_n 2, 1) := by decide +kernel
theorem dX0_init_15 : decode cX0_init 15 = .ok (.iload_n 2, 1) := by decide +kernel
theorem dX0_init_16 : decode cX0_init 16 = .ok (.bipush 14, 2) := by decide +kernel
theorem dX0_init_18 : decode cX0_init 18 = .ok (.if_icmp .ge 23, 3) := by decide +kernel
theorem dX0_init_21 : decode cX0_init 21 = .ok (.aload_n 0, 1) := by decide +kernel
theorem dX0_init_22 : decode cX0_init 22 = .ok (.getfield 11, 3) := by decide +kernel
theorem dX0_init_25 : decode cX0_init 25 = .ok (.iload_n 2, 1) := by decide +kernel
theorem dX0_init_26 : decode cX0_init 26 = .ok (.new 9, 3) := by decide +kernel
theorem dX0_init_29 : decode cX0_init 29 = .ok (.dup, 1) := by decide +kernel
theorem dX0_init_30 : decode cX0_init 30 = .ok (.aload_n 1, 1) := by decide +kernel
theorem dX0_init_31 : decode cX0_init 31 = .ok (.invokespecial 15, 3) := by decide +kernel
theorem dX0_init_34 : decode cX0_init 34 = .ok (.aastore, 1) := by decide +kernel
theorem dX0_init_35 : decode cX0_init 35 = .ok (.iinc 2 1, 3) := by decide +kernel
theorem dX0_init_38 : decode cX0_init 38 = .ok (.goto (-23), 3) := by decide +kernel
theorem dX0_init_41 : decode cX0_init 41 = .ok (.return_, 1) := by decide +kernel
theorem dX0_remember_0 : decode cX0_remember 0 = .ok (.aload_n 0, 1) := by decide +kernel
theorem dX0_remember_1 : decode cX0_remember 1 = .ok (.getfield 18, 3) := by decide +kernel
theorem dX0_remember_4 : decode cX0_remember 4 = .ok (.bipush 14, 2) := by decide +kernel
theorem dX0_remember_6 : decode cX0_remember 6 = .ok (.if_icmp .ne 7, 3) := by decide +kernel
theorem dX0_remember_9 : decode cX0_remember 9 = .ok (.aload_n 0, 1) := by decide +kernel
theorem dX0_remember_10 : decode cX0_remember 10 = .ok (.invokevirtual 22, 3) := by decide +kernel
theorem dX0_remember_13 : decode cX0_remember 13 = .ok (.aload_n 0, 1) := by decide +kernel
theorem dX0_remember_14 : decode cX0_remember 14 = .ok (.getfield 11, 3) := by decide +kernel
theorem dX0_remember_17 : decode cX0_remember 17 = .ok (.aload_n 0, 1) := by decide +kernel
theorem dX0_remember_18 : decode cX0_remember 18 = .ok (.getfield 18, 3) := by decide +kernel
theorem dX0_remember_21 : decode cX0_remember 21 = .ok (.aaload, 1) := by decide +kernel
theorem dX0_remember_22 : decode cX0_remember 22 = .ok (.aload_n 1, 1) := by decide +kernel
theorem dX0_remember_23 : decode cX0_remember 23 = .ok (.invokevirtual 25, 3) := by decide +kernel
theorem dX0_remember_26 : decode cX0_remember 26 = .ok (.aload_n 0, 1) := by decide +kernel
theorem dX0_remember_27 : decode cX0_remember 27 = .ok (.dup, 1) := by decide +kernel
theorem dX0_remember_28 : decode cX0_remember 28 = .ok (.getfield 18, 3) := by decide +kernel
theorem dX0_remember_31 : decode cX0_remember 31 = .ok (.iconst 1, 1) := by decide +kernel
theorem dX0_remember_32 : decode cX0_remember 32 = .ok (.iadd, 1) := by decide +kernel
theorem dX0_remember_33 : decode cX0_remember 33 = .ok (.putfield 18, 3) := by decide +kernel
theorem dX0_remember_36 : decode cX0_remember 36 = .ok (.return_, 1) := by decide +kernel
theorem dX0_forgetFirst_0 : decode cX0_forgetFirst 0 = .ok (.aload_n 0, 1) := by decide +kernel
theorem dX0_forgetFirst_1 : decode cX0_forgetFirst 1 = .ok (.getfield 11, 3) := by decide +kernel
theorem dX0_forgetFirst_4 : decode cX0_forgetFirst 4 = .ok (.iconst 0, 1) := by decide +kernel
theorem dX0_forgetFirst_5 : decode cX0_forgetFirst 5 = .ok (.aaload, 1) := by decide +kernel
theorem dX0_forgetFirst_6 : decode cX0_forgetFirst 6 = .ok (.astore_n 1, 1) := by decide +kernel
theorem dX0_forgetFirst_7 : decode cX0_forgetFirst 7 = .ok (.iconst 1, 1) := by decide +kernel
theorem dX0_forgetFirst_8 : decode cX0_forgetFirst 8 = .ok (.istore_n 2, 1) := by decide +kernel
theorem dX0_forgetFirst_9 : decode cX0_forgetFirst 9 = .ok (.iload_n 2, 1) := by decide +kernel
theorem dX0_forgetFirst_10 : decode cX0_forgetFirst 10 = .ok (.bipush 14, 2) := by decide +kernel
theorem dX0_forgetFirst_12 : decode cX0_forgetFirst 12 = .ok (.if_icmp .ge 23, 3) := by decide +kernel
theorem dX0_forgetFirst_15 : decode cX0_forgetFirst 15 = .ok (.aload_n 0, 1) := by decide +kernel
theorem dX0_forgetFirst_16 : decode cX0_forgetFirst 16 = .ok (.getfield 11, 3) := by decide +kernel
theorem dX0_forgetFirst_19 : decode cX0_forgetFirst 19 = .ok (.iload_n 2, 1) := by decide +kernel
theorem dX0_forgetFirst_20 : decode cX0_forgetFirst 20 = .ok (.iconst 1, 1) := by decide +kernel
theorem dX0_forgetFirst_21 : decode cX0_forgetFirst 21 = .ok (.isub, 1) := by decide +kernel
theorem dX0_forgetFirst_22 : decode cX0_forgetFirst 22 = .ok (.aload_n 0, 1) := by decide +kernel
theorem dX0_forgetFirst_23 : decode cX0_forgetFirst 23 = .ok (.getfield 11, 3) := by decide +kernel
theorem dX0_forgetFirst_26 : decode cX0_forgetFirst 26 = .ok (.iload_n 2, 1) := by decide +kernel
theorem dX0_forgetFirst_27 : decode cX0_forgetFirst 27 = .ok (.aaload, 1) := by decide +kernel
theorem dX0_forgetFirst_28 : decode cX0_forgetFirst 28 = .ok (.aastore, 1) := by decide +kernel
theorem dX0_forgetFirst_29 : decode cX0_forgetFirst 29 = .ok (.iinc 2 1, 3) := by decide +kernel
theorem dX0_forgetFirst_32 : decode cX0_forgetFirst 32 = .ok (.goto (-23), 3) := by decide +kernel
theorem dX0_forgetFirst_35 : decode cX0_forgetFirst 35 = .ok (.aload_n 0, 1) := by decide +kernel
theorem dX0_forgetFirst_36 : decode cX0_forgetFirst 36 = .ok (.getfield 11, 3) := by decide +kernel
theorem dX0_forgetFirst_39 : decode cX0_forgetFirst 39 = .ok (.bipush 13, 2) := by decide +kernel
theorem dX0_forgetFirst_41 : decode cX0_forgetFirst 41 = .ok (.aload_n 1, 1) := by decide +kernel
theorem dX0_forgetFirst_42 : decode cX0_forgetFirst 42 = .ok (.aastore, 1) := by decide +kernel
theorem dX0_forgetFirst_43 : decode cX0_forgetFirst 43 = .ok (.aload_n 0, 1) := by decide +kernel
theorem dX0_forgetFirst_44 : decode cX0_forgetFirst 44 = .ok (.dup, 1) := by decide +kernel
theorem dX0_forgetFirst_45 : decode cX0_forgetFirst 45 = .ok (.getfield 18, 3) := by decide +kernel
theorem dX0_forgetFirst_48 : decode cX0_forgetFirst 48 = .ok (.iconst 1, 1) := by decide +kernel
theorem dX0_forgetFirst_49 : decode cX0_forgetFirst 49 = .ok (.isub, 1) := by decide +kernel
theorem dX0_forgetFirst_50 : decode cX0_forgetFirst 50 = .ok (.putfield 18, 3) := by decide +kernel
theorem dX0_forgetFirst_53 : decode cX0_forgetFirst 53 = .ok (.return_, 1) := by decide +kernel
theorem dX0_takeBack_0 : decode cX0_takeBack 0 = .ok (.aload_n 0, 1) := by decide +kernel
theorem dX0_takeBack_1 : decode cX0_takeBack 1 = .ok (.getfield 18, 3) := by decide +kernel
theorem dX0_takeBack_4 : decode cX0_takeBack 4 = .ok (.ifCond .le 26, 3) := by decide +kernel
theorem dX0_takeBack_7 : decode cX0_takeBack 7 = .ok (.aload_n 0, 1) := by decide +kernel
theorem dX0_takeBack_8 : decode cX0_takeBack 8 = .ok (.dup, 1) := by decide +kernel
theorem dX0_takeBack_9 : decode cX0_takeBack 9 = .ok (.getfield 18, 3) := by decide +kernel
theorem dX0_takeBack_12 : decode cX0_takeBack 12 = .ok (.iconst 1, 1) := by decide +kernel
theorem dX0_takeBack_13 : decode cX0_takeBack 13 = .ok (.isub, 1) := by decide +kernel
theorem dX0_takeBack_14 : decode cX0_takeBack 14 = .ok (.putfield 18, 3) := by decide +kernel
theorem dX0_takeBack_17 : decode cX0_takeBack 17 = .ok (.aload_n 1, 1) := by decide +kernel
theorem dX0_takeBack_18 : decode cX0_takeBack 18 = .ok (.aload_n 0, 1) := by decide +kernel
theorem dX0_takeBack_19 : decode cX0_takeBack 19 = .ok (.getfield 11, 3) := by decide +kernel
theorem dX0_takeBack_22 : decode cX0_takeBack 22 = .ok (.aload_n 0, 1) := by decide +kernel
theorem dX0_takeBack_23 : decode cX0_takeBack 23 = .ok (.getfield 18, 3) := by decide +kernel
theorem dX0_takeBack_26 : decode cX0_takeBack 26 = .ok (.aaload, 1) := by decide +kernel
theorem dX0_takeBack_27 : decode cX0_takeBack 27 = .ok (.invokevirtual 25, 3) := by decide +kernel
theorem dX0_takeBack_30 : decode cX0_takeBack 30 = .ok (.return_, 1) := by decide +kernel
theorem dX1_suits_0 : decode cX1_suits 0 = .ok (.iload_n 1, 1) := by decide +kernel
theorem dX1_suits_1 : decode cX1_suits 1 = .ok (.iload_n 0, 1) := by decide +kernel
theorem dX1_suits_2 : decode cX1_suits 2 = .ok (.imul, 1) := by decide +kernel
theorem dX1_suits_3 : decode cX1_suits 3 = .ok (.bipush 9, 2) := by decide +kernel
theorem dX1_suits_5 : decode cX1_suits 5 = .ok (.iadd, 1) := by decide +kernel
theorem dX1_suits_6 : decode cX1_suits 6 = .ok (.bipush 10, 2) := by decide +kernel
theorem dX1_suits_8 : decode cX1_suits 8 = .ok (.idiv, 1) := by decide +kernel
theorem dX1_suits_9 : decode cX1_suits 9 = .ok (.istore 4, 2) := by decide +kernel
theorem dX1_suits_11 : decode cX1_suits 11 = .ok (.iload 4, 2) := by decide +kernel
theorem dX1_suits_13 : decode cX1_suits 13 = .ok (.iload_n 2, 1) := by decide +kernel
theorem dX1_suits_14 : decode cX1_suits 14 = .ok (.if_icmp .gt 15, 3) := by decide +kernel
theorem dX1_suits_17 : decode cX1_suits 17 = .ok (.iload_n 1, 1) := by decide +kernel
theorem dX1_suits_18 : decode cX1_suits 18 = .ok (.iload 4, 2) := by decide +kernel
theorem dX1_suits_20 : decode cX1_suits 20 = .ok (.isub, 1) := by decide +kernel
theorem dX1_suits_21 : decode cX1_suits 21 = .ok (.iload_n 3, 1) := by decide +kernel
theorem dX1_suits_22 : decode cX1_suits 22 = .ok (.if_icmp .gt 7, 3) := by decide +kernel
theorem dX1_suits_25 : decode cX1_suits 25 = .ok (.iconst 1, 1) := by decide +kernel
theorem dX1_suits_26 : decode cX1_suits 26 = .ok (.goto 4, 3) := by decide +kernel
theorem dX1_suits_29 : decode cX1_suits 29 = .ok (.iconst 0, 1) := by decide +kernel
theorem dX1_suits_30 : decode cX1_suits 30 = .ok (.ireturn, 1) := by decide +kernel
theorem dX1_sharesThatSuit_0 : decode cX1_sharesThatSuit 0 = .ok (.iconst 0, 1) := by decide +kernel
theorem dX1_sharesThatSuit_1 : decode cX1_sharesThatSuit 1 = .ok (.istore_n 3, 1) := by decide +kernel
theorem dX1_sharesThatSuit_2 : decode cX1_sharesThatSuit 2 = .ok (.iconst 0, 1) := by decide +kernel
theorem dX1_sharesThatSuit_3 : decode cX1_sharesThatSuit 3 = .ok (.istore 4, 2) := by decide +kernel
theorem dX1_sharesThatSuit_5 : decode cX1_sharesThatSuit 5 = .ok (.iload 4, 2) := by decide +kernel
theorem dX1_sharesThatSuit_7 : decode cX1_sharesThatSuit 7 = .ok (.bipush 10, 2) := by decide +kernel
theorem dX1_sharesThatSuit_9 : decode cX1_sharesThatSuit 9 = .ok (.if_icmp .gt 23, 3) := by decide +kernel
theorem dX1_sharesThatSuit_12 : decode cX1_sharesThatSuit 12 = .ok (.iload 4, 2) := by decide +kernel
theorem dX1_sharesThatSuit_14 : decode cX1_sharesThatSuit 14 = .ok (.iload_n 0, 1) := by decide +kernel
theorem dX1_sharesThatSuit_15 : decode cX1_sharesThatSuit 15 = .ok (.iload_n 1, 1) := by decide +kernel
theorem dX1_sharesThatSuit_16 : decode cX1_sharesThatSuit 16 = .ok (.iload_n 2, 1) := by decide +kernel
theorem dX1_sharesThatSuit_17 : decode cX1_sharesThatSuit 17 = .ok (.invokestatic 9, 3) := by decide +kernel
theorem dX1_sharesThatSuit_20 : decode cX1_sharesThatSuit 20 = .ok (.ifCond .eq 6, 3) := by decide +kernel
theorem dX1_sharesThatSuit_23 : decode cX1_sharesThatSuit 23 = .ok (.iinc 3 1, 3) := by decide +kernel
theorem dX1_sharesThatSuit_26 : decode cX1_sharesThatSuit 26 = .ok (.iinc 4 1, 3) := by decide +kernel
theorem dX1_sharesThatSuit_29 : decode cX1_sharesThatSuit 29 = .ok (.goto (-24), 3) := by decide +kernel
theorem dX1_sharesThatSuit_32 : decode cX1_sharesThatSuit 32 = .ok (.iload_n 3, 1) := by decide +kernel
theorem dX1_sharesThatSuit_33 : decode cX1_sharesThatSuit 33 = .ok (.ireturn, 1) := by decide +kernel
theorem dX1_leastShare_0 : decode cX1_leastShare 0 = .ok (.iconst 0, 1) := by decide +kernel
theorem dX1_leastShare_1 : decode cX1_leastShare 1 = .ok (.istore_n 3, 1) := by decide +kernel
theorem dX1_leastShare_2 : decode cX1_leastShare 2 = .ok (.iload_n 3, 1) := by decide +kernel
theorem dX1_leastShare_3 : decode cX1_leastShare 3 = .ok (.bipush 10, 2) := by decide +kernel
theorem dX1_leastShare_5 : decode cX1_leastShare 5 = .ok (.if_icmp .gt 21, 3) := by decide +kernel
theorem dX1_leastShare_8 : decode cX1_leastShare 8 = .ok (.iload_n 3, 1) := by decide +kernel
theorem dX1_leastShare_9 : decode cX1_leastShare 9 = .ok (.iload_n 0, 1) := by decide +kernel
theorem dX1_leastShare_10 : decode cX1_leastShare 10 = .ok (.iload_n 1, 1) := by decide +kernel
theorem dX1_leastShare_11 : decode cX1_leastShare 11 = .ok (.iload_n 2, 1) := by decide +kernel
theorem dX1_leastShare_12 : decode cX1_leastShare 12 = .ok (.invokestatic 9, 3) := by decide +kernel
theorem dX1_leastShare_15 : decode cX1_leastShare 15 = .ok (.ifCond .eq 5, 3) := by decide +kernel
theorem dX1_leastShare_18 : decode cX1_leastShare 18 = .ok (.iload_n 3, 1) := by decide +kernel
theorem dX1_leastShare_19 : decode cX1_leastShare 19 = .ok (.ireturn, 1) := by decide +kernel
theorem dX1_leastShare_20 : decode cX1_leastShare 20 = .ok (.iinc 3 1, 3) := by decide +kernel
theorem dX1_leastShare_23 : decode cX1_leastShare 23 = .ok (.goto (-21), 3) := by decide +kernel
theorem dX1_leastShare_26 : decode cX1_leastShare 26 = .ok (.bipush (-9), 2) := by decide +kernel
theorem dX1_leastShare_28 : decode cX1_leastShare 28 = .ok (.ireturn, 1) := by decide +kernel
theorem dX1_brings_0 : decode cX1_brings 0 = .ok (.iconst 0, 1) := by decide +kernel
theorem dX1_brings_1 : decode cX1_brings 1 = .ok (.istore_n 3, 1) := by decide +kernel
theorem dX1_brings_2 : decode cX1_brings 2 = .ok (.iload_n 2, 1) := by decide +kernel
theorem dX1_brings_3 : decode cX1_brings 3 = .ok (.istore 4, 2) := by decide +kernel
theorem dX1_brings_5 : decode cX1_brings 5 = .ok (.iconst 0, 1) := by decide +kernel
theorem dX1_brings_6 : decode cX1_brings 6 = .ok (.istore 5, 2) := by decide +kernel
theorem dX1_brings_8 : decode cX1_brings 8 = .ok (.iload 5, 2) := by decide +kernel
theorem dX1_brings_10 : decode cX1_brings 10 = .ok (.iload_n 1, 1) := by decide +kernel
theorem dX1_brings_11 : decode cX1_brings 11 = .ok (.if_icmp .ge 29, 3) := by decide +kernel
theorem dX1_brings_14 : decode cX1_brings 14 = .ok (.iload 4, 2) := by decide +kernel
theorem dX1_brings_16 : decode cX1_brings 16 = .ok (.bipush 10, 2) := by decide +kernel
theorem dX1_brings_18 : decode cX1_brings 18 = .ok (.irem, 1) := by decide +kernel
theorem dX1_brings_19 : decode cX1_brings 19 = .ok (.iload_n 0, 1) := by decide +kernel
theorem dX1_brings_20 : decode cX1_brings 20 = .ok (.if_icmp .lt 7, 3) := by decide +kernel
theorem dX1_brings_23 : decode cX1_brings 23 = .ok (.iload_n 3, 1) := by decide +kernel
theorem dX1_brings_24 : decode cX1_brings 24 = .ok (.iload_n 0, 1) := by decide +kernel
theorem dX1_brings_25 : decode cX1_brings 25 = .ok (.iadd, 1) := by decide +kernel
theorem dX1_brings_26 : decode cX1_brings 26 = .ok (.istore_n 3, 1) := by decide +kernel
theorem dX1_brings_27 : decode cX1_brings 27 = .ok (.iload 4, 2) := by decide +kernel
theorem dX1_brings_29 : decode cX1_brings 29 = .ok (.bipush 10, 2) := by decide +kernel
theorem dX1_brings_31 : decode cX1_brings 31 = .ok (.idiv, 1) := by decide +kernel
theorem dX1_brings_32 : decode cX1_brings 32 = .ok (.istore 4, 2) := by decide +kernel
theorem dX1_brings_34 : decode cX1_brings 34 = .ok (.iinc 5 1, 3) := by decide +kernel
theorem dX1_brings_37 : decode cX1_brings 37 = .ok (.goto (-29), 3) := by decide +kernel
theorem dX1_brings_40 : decode cX1_brings 40 = .ok (.iload_n 3, 1) := by decide +kernel
theorem dX1_brings_41 : decode cX1_brings 41 = .ok (.ireturn, 1) := by decide +kernel
theorem dX1_bestToAsk_0 : decode cX1_bestToAsk 0 = .ok (.iconst 1, 1) := by decide +kernel
theorem dX1_bestToAsk_1 : decode cX1_bestToAsk 1 = .ok (.istore_n 2, 1) := by decide +kernel
theorem dX1_bestToAsk_2 : decode cX1_bestToAsk 2 = .ok (.iconst 2, 1) := by decide +kernel
theorem dX1_bestToAsk_3 : decode cX1_bestToAsk 3 = .ok (.istore_n 3, 1) := by decide +kernel
theorem dX1_bestToAsk_4 : decode cX1_bestToAsk 4 = .ok (.iload_n 3, 1) := by decide +kernel
theorem dX1_bestToAsk_5 : decode cX1_bestToAsk 5 = .ok (.bipush 9, 2) := by decide +kernel
theorem dX1_bestToAsk_7 : decode cX1_bestToAsk 7 = .ok (.if_icmp .gt 26, 3) := by decide +kernel
theorem dX1_bestToAsk_10 : decode cX1_bestToAsk 10 = .ok (.iload_n 3, 1) := by decide +kernel
theorem dX1_bestToAsk_11 : decode cX1_bestToAsk 11 = .ok (.iload_n 0, 1) := by decide +kernel
theorem dX1_bestToAsk_12 : decode cX1_bestToAsk 12 = .ok (.iload_n 1, 1) := by decide +kernel
theorem dX1_bestToAsk_13 : decode cX1_bestToAsk 13 = .ok (.invokestatic 15, 3) := by decide +kernel
theorem dX1_bestToAsk_16 : decode cX1_bestToAsk 16 = .ok (.iload_n 2, 1) := by decide +kernel
theorem dX1_bestToAsk_17 : decode cX1_bestToAsk 17 = .ok (.iload_n 0, 1) := by decide +kernel
theorem dX1_bestToAsk_18 : decode cX1_bestToAsk 18 = .ok (.iload_n 1, 1) := by decide +kernel
theorem dX1_bestToAsk_19 : decode cX1_bestToAsk 19 = .ok (.invokestatic 15, 3) := by decide +kernel
theorem dX1_bestToAsk_22 : decode cX1_bestToAsk 22 = .ok (.if_icmp .le 5, 3) := by decide +kernel
theorem dX1_bestToAsk_25 : decode cX1_bestToAsk 25 = .ok (.iload_n 3, 1) := by decide +kernel
theorem dX1_bestToAsk_26 : decode cX1_bestToAsk 26 = .ok (.istore_n 2, 1) := by decide +kernel
theorem dX1_bestToAsk_27 : decode cX1_bestToAsk 27 = .ok (.iinc 3 1, 3) := by decide +kernel
theorem dX1_bestToAsk_30 : decode cX1_bestToAsk 30 = .ok (.goto (-26), 3) := by decide +kernel
theorem dX1_bestToAsk_33 : decode cX1_bestToAsk 33 = .ok (.iload_n 2, 1) := by decide +kernel
theorem dX1_bestToAsk_34 : decode cX1_bestToAsk 34 = .ok (.ireturn, 1) := by decide +kernel
theorem dX1_agreedByTurns_0 : decode cX1_agreedByTurns 0 = .ok (.iconst 0, 1) := by decide +kernel
theorem dX1_agreedByTurns_1 : decode cX1_agreedByTurns 1 = .ok (.istore_n 2, 1) := by decide +kernel
theorem dX1_agreedByTurns_2 : decode cX1_agreedByTurns 2 = .ok (.iconst 0, 1) := by decide +kernel
theorem dX1_agreedByTurns_3 : decode cX1_agreedByTurns 3 = .ok (.istore_n 3, 1) := by decide +kernel
theorem dX1_agreedByTurns_4 : decode cX1_agreedByTurns 4 = .ok (.iload_n 1, 1) := by decide +kernel
theorem dX1_agreedByTurns_5 : decode cX1_agreedByTurns 5 = .ok (.iconst 1, 1) := by decide +kernel
theorem dX1_agreedByTurns_6 : decode cX1_agreedByTurns 6 = .ok (.isub, 1) := by decide +kernel
theorem dX1_agreedByTurns_7 : decode cX1_agreedByTurns 7 = .ok (.istore 4, 2) := by decide +kernel
theorem dX1_agreedByTurns_9 : decode cX1_agreedByTurns 9 = .ok (.iload 4, 2) := by decide +kernel
theorem dX1_agreedByTurns_11 : decode cX1_agreedByTurns 11 = .ok (.ifCond .lt 61, 3) := by decide +kernel
theorem dX1_agreedByTurns_14 : decode cX1_agreedByTurns 14 = .ok (.iconst 0, 1) := by decide +kernel
theorem dX1_agreedByTurns_15 : decode cX1_agreedByTurns 15 = .ok (.iload_n 0, 1) := by decide +kernel
theorem dX1_agreedByTurns_16 : decode cX1_agreedByTurns 16 = .ok (.iload 4, 2) := by decide +kernel
theorem dX1_agreedByTurns_18 : decode cX1_agreedByTurns 18 = .ok (.isub, 1) := by decide +kernel
theorem dX1_agreedByTurns_19 : decode cX1_agreedByTurns 19 = .ok (.invokestatic 19, 3) := by decide +kernel
theorem dX1_agreedByTurns_22 : decode cX1_agreedByTurns 22 = .ok (.istore 5, 2) := by decide +kernel
theorem dX1_agreedByTurns_24 : decode cX1_agreedByTurns 24 = .ok (.iload 4, 2) := by decide +kernel
theorem dX1_agreedByTurns_26 : decode cX1_agreedByTurns 26 = .ok (.iconst 2, 1) := by decide +kernel
theorem dX1_agreedByTurns_27 : decode cX1_agreedByTurns 27 = .ok (.irem, 1) := by decide +kernel
theorem dX1_agreedByTurns_28 : decode cX1_agreedByTurns 28 = .ok (.ifCond .ne 13, 3) := by decide +kernel
theorem dX1_agreedByTurns_31 : decode cX1_agreedByTurns 31 = .ok (.iload 5, 2) := by decide +kernel
theorem dX1_agreedByTurns_33 : decode cX1_agreedByTurns 33 = .ok (.iload_n 2, 1) := by decide +kernel
theorem dX1_agreedByTurns_34 : decode cX1_agreedByTurns 34 = .ok (.iload_n 3, 1) := by decide +kernel
theorem dX1_agreedByTurns_35 : decode cX1_agreedByTurns 35 = .ok (.invokestatic 25, 3) := by decide +kernel
theorem dX1_agreedByTurns_38 : decode cX1_agreedByTurns 38 = .ok (.goto 10, 3) := by decide +kernel
theorem dX1_agreedByTurns_41 : decode cX1_agreedByTurns 41 = .ok (.iload 5, 2) := by decide +kernel
theorem dX1_agreedByTurns_43 : decode cX1_agreedByTurns 43 = .ok (.iload_n 2, 1) := by decide +kernel
theorem dX1_agreedByTurns_44 : decode cX1_agreedByTurns 44 = .ok (.iload_n 3, 1) := by decide +kernel
theorem dX1_agreedByTurns_45 : decode cX1_agreedByTurns 45 = .ok (.invokestatic 28, 3) := by decide +kernel
theorem dX1_agreedByTurns_48 : decode cX1_agreedByTurns 48 = .ok (.istore 6, 2) := by decide +kernel
theorem dX1_agreedByTurns_50 : decode cX1_agreedByTurns 50 = .ok (.iload 6, 2) := by decide +kernel
theorem dX1_agreedByTurns_52 : decode cX1_agreedByTurns 52 = .ok (.bipush (-9), 2) := by decide +kernel
theorem dX1_agreedByTurns_54 : decode cX1_agreedByTurns 54 = .ok (.if_icmp .eq 12, 3) := by decide +kernel
theorem dX1_agreedByTurns_57 : decode cX1_agreedByTurns 57 = .ok (.iload 6, 2) := by decide +kernel
theorem dX1_agreedByTurns_59 : decode cX1_agreedByTurns 59 = .ok (.istore_n 2, 1) := by decide +kernel
theorem dX1_agreedByTurns_60 : decode cX1_agreedByTurns 60 = .ok (.iload 5, 2) := by decide +kernel
theorem dX1_agreedByTurns_62 : decode cX1_agreedByTurns 62 = .ok (.iload 6, 2) := by decide +kernel
theorem dX1_agreedByTurns_64 : decode cX1_agreedByTurns 64 = .ok (.isub, 1) := by decide +kernel
theorem dX1_agreedByTurns_65 : decode cX1_agreedByTurns 65 = .ok (.istore_n 3, 1) := by decide +kernel
theorem dX1_agreedByTurns_66 : decode cX1_agreedByTurns 66 = .ok (.iinc 4 (-1), 3) := by decide +kernel
theorem dX1_agreedByTurns_69 : decode cX1_agreedByTurns 69 = .ok (.goto (-60), 3) := by decide +kernel
theorem dX1_agreedByTurns_72 : decode cX1_agreedByTurns 72 = .ok (.iload_n 2, 1) := by decide +kernel
theorem dX1_agreedByTurns_73 : decode cX1_agreedByTurns 73 = .ok (.ireturn, 1) := by decide +kernel
theorem dX1_keeperNames_0 : decode cX1_keeperNames 0 = .ok (.bipush 9, 2) := by decide +kernel
theorem dX1_keeperNames_2 : decode cX1_keeperNames 2 = .ok (.istore_n 3, 1) := by decide +kernel
theorem dX1_keeperNames_3 : decode cX1_keeperNames 3 = .ok (.iload_n 3, 1) := by decide +kernel
theorem dX1_keeperNames_4 : decode cX1_keeperNames 4 = .ok (.iload_n 1, 1) := by decide +kernel
theorem dX1_keeperNames_5 : decode cX1_keeperNames 5 = .ok (.if_icmp .lt 18, 3) := by decide +kernel
theorem dX1_keeperNames_8 : decode cX1_keeperNames 8 = .ok (.iload_n 0, 1) := by decide +kernel
theorem dX1_keeperNames_9 : decode cX1_keeperNames 9 = .ok (.iload_n 3, 1) := by decide +kernel
theorem dX1_keeperNames_10 : decode cX1_keeperNames 10 = .ok (.isub, 1) := by decide +kernel
theorem dX1_keeperNames_11 : decode cX1_keeperNames 11 = .ok (.iload_n 2, 1) := by decide +kernel
theorem dX1_keeperNames_12 : decode cX1_keeperNames 12 = .ok (.if_icmp .lt 5, 3) := by decide +kernel
theorem dX1_keeperNames_15 : decode cX1_keeperNames 15 = .ok (.iload_n 3, 1) := by decide +kernel
theorem dX1_keeperNames_16 : decode cX1_keeperNames 16 = .ok (.ireturn, 1) := by decide +kernel
theorem dX1_keeperNames_17 : decode cX1_keeperNames 17 = .ok (.iinc 3 (-1), 3) := by decide +kernel
theorem dX1_keeperNames_20 : decode cX1_keeperNames 20 = .ok (.goto (-17), 3) := by decide +kernel
theorem dX1_keeperNames_23 : decode cX1_keeperNames 23 = .ok (.bipush (-9), 2) := by decide +kernel
theorem dX1_keeperNames_25 : decode cX1_keeperNames 25 = .ok (.ireturn, 1) := by decide +kernel
theorem dX1_drinkerNames_0 : decode cX1_drinkerNames 0 = .ok (.iconst 0, 1) := by decide +kernel
theorem dX1_drinkerNames_1 : decode cX1_drinkerNames 1 = .ok (.istore_n 3, 1) := by decide +kernel
theorem dX1_drinkerNames_2 : decode cX1_drinkerNames 2 = .ok (.iload_n 3, 1) := by decide +kernel
theorem dX1_drinkerNames_3 : decode cX1_drinkerNames 3 = .ok (.bipush 9, 2) := by decide +kernel
theorem dX1_drinkerNames_5 : decode cX1_drinkerNames 5 = .ok (.if_icmp .gt 28, 3) := by decide +kernel
theorem dX1_drinkerNames_8 : decode cX1_drinkerNames 8 = .ok (.iload_n 3, 1) := by decide +kernel
theorem dX1_drinkerNames_9 : decode cX1_drinkerNames 9 = .ok (.iload_n 1, 1) := by decide +kernel
theorem dX1_drinkerNames_10 : decode cX1_drinkerNames 10 = .ok (.if_icmp .lt 17, 3) := by decide +kernel
theorem dX1_drinkerNames_13 : decode cX1_drinkerNames 13 = .ok (.iload_n 0, 1) := by decide +kernel
theorem dX1_drinkerNames_14 : decode cX1_drinkerNames 14 = .ok (.iload_n 3, 1) := by decide +kernel
theorem dX1_drinkerNames_15 : decode cX1_drinkerNames 15 = .ok (.isub, 1) := by decide +kernel
theorem dX1_drinkerNames_16 : decode cX1_drinkerNames 16 = .ok (.iload_n 2, 1) := by decide +kernel
theorem dX1_drinkerNames_17 : decode cX1_drinkerNames 17 = .ok (.if_icmp .lt 7, 3) := by decide +kernel
theorem dX1_drinkerNames_20 : decode cX1_drinkerNames 20 = .ok (.iload_n 3, 1) := by decide +kernel
theorem dX1_drinkerNames_21 : decode cX1_drinkerNames 21 = .ok (.goto 5, 3) := by decide +kernel
theorem dX1_drinkerNames_24 : decode cX1_drinkerNames 24 = .ok (.bipush (-9), 2) := by decide +kernel
theorem dX1_drinkerNames_26 : decode cX1_drinkerNames 26 = .ok (.ireturn, 1) := by decide +kernel
theorem dX1_drinkerNames_27 : decode cX1_drinkerNames 27 = .ok (.iinc 3 1, 3) := by decide +kernel
theorem dX1_drinkerNames_30 : decode cX1_drinkerNames 30 = .ok (.goto (-28), 3) := by decide +kernel
theorem dX1_drinkerNames_33 : decode cX1_drinkerNames 33 = .ok (.bipush (-9), 2) := by decide +kernel
theorem dX1_drinkerNames_35 : decode cX1_drinkerNames 35 = .ok (.ireturn, 1) := by decide +kernel
theorem dX2_init_0 : decode cX2_init 0 = .ok (.aload_n 0, 1) := by decide +kernel
theorem dX2_init_1 : decode cX2_init 1 = .ok (.invokespecial 3, 3) := by decide +kernel
theorem dX2_init_4 : decode cX2_init 4 = .ok (.aload_n 0, 1) := by decide +kernel
theorem dX2_init_5 : decode cX2_init 5 = .ok (.bipush 6, 2) := by decide +kernel
theorem dX2_init_7 : decode cX2_init 7 = .ok (.newarray .int, 2) := by decide +kernel
theorem dX2_init_9 : decode cX2_init 9 = .ok (.putfield 11, 3) := by decide +kernel
theorem dX2_init_12 : decode cX2_init 12 = .ok (.aload_n 0, 1) := by decide +kernel
theorem dX2_init_13 : decode cX2_init 13 = .ok (.bipush 6, 2) := by decide +kernel
theorem dX2_init_15 : decode cX2_init 15 = .ok (.newarray .boolean, 2) := by decide +kernel
theorem dX2_init_17 : decode cX2_init 17 = .ok (.putfield 15, 3) := by decide +kernel
theorem dX2_init_20 : decode cX2_init 20 = .ok (.aload_n 0, 1) := by decide +kernel
theorem dX2_init_21 : decode cX2_init 21 = .ok (.aload_n 1, 1) := by decide +kernel
theorem dX2_init_22 : decode cX2_init 22 = .ok (.putfield 19, 3) := by decide +kernel
theorem dX2_init_25 : decode cX2_init 25 = .ok (.return_, 1) := by decide +kernel
theorem dX2_add_0 : decode cX2_add 0 = .ok (.aload_n 0, 1) := by decide +kernel
theorem dX2_add_1 : decode cX2_add 1 = .ok (.getfield 23, 3) := by decide +kernel
theorem dX2_add_4 : decode cX2_add 4 = .ok (.bipush 6, 2) := by decide +kernel
theorem dX2_add_6 : decode cX2_add 6 = .ok (.if_icmp .lt 5, 3) := by decide +kernel
theorem dX2_add_9 : decode cX2_add 9 = .ok (.iconst 0, 1) := by decide +kernel
theorem dX2_add_10 : decode cX2_add 10 = .ok (.ireturn, 1) := by decide +kernel
theorem dX2_add_11 : decode cX2_add 11 = .ok (.aload_n 0, 1) := by decide +kernel
theorem dX2_add_12 : decode cX2_add 12 = .ok (.getfield 11, 3) := by decide +kernel
theorem dX2_add_15 : decode cX2_add 15 = .ok (.aload_n 0, 1) := by decide +kernel
theorem dX2_add_16 : decode cX2_add 16 = .ok (.getfield 23, 3) := by decide +kernel
theorem dX2_add_19 : decode cX2_add 19 = .ok (.iload_n 1, 1) := by decide +kernel
theorem dX2_add_20 : decode cX2_add 20 = .ok (.iastore, 1) := by decide +kernel
theorem dX2_add_21 : decode cX2_add 21 = .ok (.aload_n 0, 1) := by decide +kernel
theorem dX2_add_22 : decode cX2_add 22 = .ok (.getfield 15, 3) := by decide +kernel
theorem dX2_add_25 : decode cX2_add 25 = .ok (.aload_n 0, 1) := by decide +kernel
theorem dX2_add_26 : decode cX2_add 26 = .ok (.getfield 23, 3) := by decide +kernel
theorem dX2_add_29 : decode cX2_add 29 = .ok (.iload_n 2, 1) := by decide +kernel
theorem dX2_add_30 : decode cX2_add 30 = .ok (.bastore, 1) := by decide +kernel
theorem dX2_add_31 : decode cX2_add 31 = .ok (.aload_n 0, 1) := by decide +kernel
theorem dX2_add_32 : decode cX2_add 32 = .ok (.dup, 1) := by decide +kernel
theorem dX2_add_33 : decode cX2_add 33 = .ok (.getfield 23, 3) := by decide +kernel
theorem dX2_add_36 : decode cX2_add 36 = .ok (.iconst 1, 1) := by decide +kernel
theorem dX2_add_37 : decode cX2_add 37 = .ok (.iadd, 1) := by decide +kernel
theorem dX2_add_38 : decode cX2_add 38 = .ok (.putfield 23, 3) := by decide +kernel
theorem dX2_add_41 : decode cX2_add 41 = .ok (.iconst 1, 1) := by decide +kernel
theorem dX2_add_42 : decode cX2_add 42 = .ok (.ireturn, 1) := by decide +kernel
theorem dX2_agree_0 : decode cX2_agree 0 = .ok (.iconst 0, 1) := by decide +kernel
theorem dX2_agree_1 : decode cX2_agree 1 = .ok (.istore_n 2, 1) := by decide +kernel
theorem dX2_agree_2 : decode cX2_agree 2 = .ok (.iload_n 2, 1) := by decide +kernel
theorem dX2_agree_3 : decode cX2_agree 3 = .ok (.aload_n 0, 1) := by decide +kernel
theorem dX2_agree_4 : decode cX2_agree 4 = .ok (.getfield 23, 3) := by decide +kernel
theorem dX2_agree_7 : decode cX2_agree 7 = .ok (.if_icmp .ge 72, 3) := by decide +kernel
theorem dX2_agree_10 : decode cX2_agree 10 = .ok (.aload_n 0, 1) := by decide +kernel
theorem dX2_agree_11 : decode cX2_agree 11 = .ok (.getfield 11, 3) := by decide +kernel
theorem dX2_agree_14 : decode cX2_agree 14 = .ok (.iload_n 2, 1) := by decide +kernel
theorem dX2_agree_15 : decode cX2_agree 15 = .ok (.iaload, 1) := by decide +kernel
theorem dX2_agree_16 : decode cX2_agree 16 = .ok (.istore_n 3, 1) := by decide +kernel
theorem dX2_agree_17 : decode cX2_agree 17 = .ok (.iload_n 3, 1) := by decide +kernel
theorem dX2_agree_18 : decode cX2_agree 18 = .ok (.aload_n 0, 1) := by decide +kernel
theorem dX2_agree_19 : decode cX2_agree 19 = .ok (.getfield 19, 3) := by decide +kernel
theorem dX2_agree_22 : decode cX2_agree 22 = .ok (.getfield 27, 3) := by decide +kernel
theorem dX2_agree_25 : decode cX2_agree 25 = .ok (.if_icmp .ge 48, 3) := by decide +kernel
theorem dX2_agree_28 : decode cX2_agree 28 = .ok (.iload_n 1, 1) := by decide +kernel
theorem dX2_agree_29 : decode cX2_agree 29 = .ok (.aload_n 0, 1) := by decide +kernel
theorem dX2_agree_30 : decode cX2_agree 30 = .ok (.getfield 19, 3) := by decide +kernel
theorem dX2_agree_33 : decode cX2_agree 33 = .ok (.getfield 32, 3) := by decide +kernel
theorem dX2_agree_36 : decode cX2_agree 36 = .ok (.iload_n 3, 1) := by decide +kernel
theorem dX2_agree_37 : decode cX2_agree 37 = .ok (.iaload, 1) := by decide +kernel
theorem dX2_agree_38 : decode cX2_agree 38 = .ok (.ishr, 1) := by decide +kernel
theorem dX2_agree_39 : decode cX2_agree 39 = .ok (.iconst 1, 1) := by decide +kernel
theorem dX2_agree_40 : decode cX2_agree 40 = .ok (.iand, 1) := by decide +kernel
theorem dX2_agree_41 : decode cX2_agree 41 = .ok (.aload_n 0, 1) := by decide +kernel
theorem dX2_agree_42 : decode cX2_agree 42 = .ok (.getfield 19, 3) := by decide +kernel
theorem dX2_agree_45 : decode cX2_agree 45 = .ok (.getfield 35, 3) := by decide +kernel
theorem dX2_agree_48 : decode cX2_agree 48 = .ok (.iload_n 3, 1) := by decide +kernel
theorem dX2_agree_49 : decode cX2_agree 49 = .ok (.iaload, 1) := by decide +kernel
theorem dX2_agree_50 : decode cX2_agree 50 = .ok (.if_icmp .ne 7, 3) := by decide +kernel
theorem dX2_agree_53 : decode cX2_agree 53 = .ok (.iconst 1, 1) := by decide +kernel
theorem dX2_agree_54 : decode cX2_agree 54 = .ok (.goto 4, 3) := by decide +kernel
theorem dX2_agree_57 : decode cX2_agree 57 = .ok (.iconst 0, 1) := by decide +kernel
theorem dX2_agree_58 : decode cX2_agree 58 = .ok (.istore 4, 2) := by decide +kernel
theorem dX2_agree_60 : decode cX2_agree 60 = .ok (.iload 4, 2) := by decide +kernel
theorem dX2_agree_62 : decode cX2_agree 62 = .ok (.aload_n 0, 1) := by decide +kernel
theorem dX2_agree_63 : decode cX2_agree 63 = .ok (.getfield 15, 3) := by decide +kernel
theorem dX2_agree_66 : decode cX2_agree 66 = .ok (.iload_n 2, 1) := by decide +kernel
theorem dX2_agree_67 : decode cX2_agree 67 = .ok (.baload, 1) := by decide +kernel
theorem dX2_agree_68 : decode cX2_agree 68 = .ok (.if_icmp .eq 5, 3) := by decide +kernel
theorem dX2_agree_71 : decode cX2_agree 71 = .ok (.iconst 0, 1) := by decide +kernel
theorem dX2_agree_72 : decode cX2_agree 72 = .ok (.ireturn, 1) := by decide +kernel
theorem dX2_agree_73 : decode cX2_agree 73 = .ok (.iinc 2 1, 3) := by decide +kernel
theorem dX2_agree_76 : decode cX2_agree 76 = .ok (.goto (-74), 3) := by decide +kernel
theorem dX2_agree_79 : decode cX2_agree 79 = .ok (.iconst 1, 1) := by decide +kernel
theorem dX2_agree_80 : decode cX2_agree 80 = .ok (.ireturn, 1) := by decide +kernel
theorem dX2_ways_0 : decode cX2_ways 0 = .ok (.iconst 0, 1) := by decide +kernel
theorem dX2_ways_1 : decode cX2_ways 1 = .ok (.istore_n 1, 1) := by decide +kernel
theorem dX2_ways_2 : decode cX2_ways 2 = .ok (.iconst 0, 1) := by decide +kernel
theorem dX2_ways_3 : decode cX2_ways 3 = .ok (.istore_n 2, 1) := by decide +kernel
theorem dX2_ways_4 : decode cX2_ways 4 = .ok (.iload_n 2, 1) := by decide +kernel
theorem dX2_ways_5 : decode cX2_ways 5 = .ok (.iconst 1, 1) := by decide +kernel
theorem dX2_ways_6 : decode cX2_ways 6 = .ok (.aload_n 0, 1) := by decide +kernel
theorem dX2_ways_7 : decode cX2_ways 7 = .ok (.getfield 19, 3) := by decide +kernel
theorem dX2_ways_10 : decode cX2_ways 10 = .ok (.getfield 38, 3) := by decide +kernel
theorem dX2_ways_13 : decode cX2_ways 13 = .ok (.ishl, 1) := by decide +kernel
theorem dX2_ways_14 : decode cX2_ways 14 = .ok (.if_icmp .ge 20, 3) := by decide +kernel
theorem dX2_ways_17 : decode cX2_ways 17 = .ok (.aload_n 0, 1) := by decide +kernel
theorem dX2_ways_18 : decode cX2_ways 18 = .ok (.iload_n 2, 1) := by decide +kernel
theorem dX2_ways_19 : decode cX2_ways 19 = .ok (.invokevirtual 41, 3) := by decide +kernel
theorem dX2_ways_22 : decode cX2_ways 22 = .ok (.ifCond .eq 6, 3) := by decide +kernel
theorem dX2_ways_25 : decode cX2_ways 25 = .ok (.iinc 1 1, 3) := by decide +kernel
theorem dX2_ways_28 : decode cX2_ways 28 = .ok (.iinc 2 1, 3) := by decide +kernel
theorem dX2_ways_31 : decode cX2_ways 31 = .ok (.goto (-27), 3) := by decide +kernel
theorem dX2_ways_34 : decode cX2_ways 34 = .ok (.iload_n 1, 1) := by decide +kernel
theorem dX2_ways_35 : decode cX2_ways 35 = .ok (.ireturn, 1) := by decide +kernel
theorem dX2_leastWay_0 : decode cX2_leastWay 0 = .ok (.iconst 0, 1) := by decide +kernel
theorem dX2_leastWay_1 : decode cX2_leastWay 1 = .ok (.istore_n 1, 1) := by decide +kernel
theorem dX2_leastWay_2 : decode cX2_leastWay 2 = .ok (.iload_n 1, 1) := by decide +kernel
theorem dX2_leastWay_3 : decode cX2_leastWay 3 = .ok (.iconst 1, 1) := by decide +kernel
theorem dX2_leastWay_4 : decode cX2_leastWay 4 = .ok (.aload_n 0, 1) := by decide +kernel
theorem dX2_leastWay_5 : decode cX2_leastWay 5 = .ok (.getfield 19, 3) := by decide +kernel
theorem dX2_leastWay_8 : decode cX2_leastWay 8 = .ok (.getfield 38, 3) := by decide +kernel
theorem dX2_leastWay_11 : decode cX2_leastWay 11 = .ok (.ishl, 1) := by decide +kernel
theorem dX2_leastWay_12 : decode cX2_leastWay 12 = .ok (.if_icmp .ge 19, 3) := by decide +kernel
theorem dX2_leastWay_15 : decode cX2_leastWay 15 = .ok (.aload_n 0, 1) := by decide +kernel
theorem dX2_leastWay_16 : decode cX2_leastWay 16 = .ok (.iload_n 1, 1) := by decide +kernel
theorem dX2_leastWay_17 : decode cX2_leastWay 17 = .ok (.invokevirtual 41, 3) := by decide +kernel
theorem dX2_leastWay_20 : decode cX2_leastWay 20 = .ok (.ifCond .eq 5, 3) := by decide +kernel
theorem dX2_leastWay_23 : decode cX2_leastWay 23 = .ok (.iload_n 1, 1) := by decide +kernel
theorem dX2_leastWay_24 : decode cX2_leastWay 24 = .ok (.ireturn, 1) := by decide +kernel
theorem dX2_leastWay_25 : decode cX2_leastWay 25 = .ok (.iinc 1 1, 3) := by decide +kernel
theorem dX2_leastWay_28 : decode cX2_leastWay 28 = .ok (.goto (-26), 3) := by decide +kernel
theorem dX2_leastWay_31 : decode cX2_leastWay 31 = .ok (.bipush (-9), 2) := by decide +kernel
theorem dX2_leastWay_33 : decode cX2_leastWay 33 = .ok (.ireturn, 1) := by decide +kernel
theorem dX2_onesInAllWays_0 : decode cX2_onesInAllWays 0 = .ok (.aload_n 0, 1) := by decide +kernel
theorem dX2_onesInAllWays_1 : decode cX2_onesInAllWays 1 = .ok (.invokevirtual 45, 3) := by decide +kernel
theorem dX2_onesInAllWays_4 : decode cX2_onesInAllWays 4 = .ok (.istore_n 1, 1) := by decide +kernel
theorem dX2_onesInAllWays_5 : decode cX2_onesInAllWays 5 = .ok (.iload_n 1, 1) := by decide +kernel
theorem dX2_onesInAllWays_6 : decode cX2_onesInAllWays 6 = .ok (.bipush (-9), 2) := by decide +kernel
theorem dX2_onesInAllWays_8 : decode cX2_onesInAllWays 8 = .ok (.if_icmp .ne 6, 3) := by decide +kernel
theorem dX2_onesInAllWays_11 : decode cX2_onesInAllWays 11 = .ok (.bipush (-9), 2) := by decide +kernel
theorem dX2_onesInAllWays_13 : decode cX2_onesInAllWays 13 = .ok (.ireturn, 1) := by decide +kernel
theorem dX2_onesInAllWays_14 : decode cX2_onesInAllWays 14 = .ok (.iload_n 1, 1) := by decide +kernel
theorem dX2_onesInAllWays_15 : decode cX2_onesInAllWays 15 = .ok (.istore_n 2, 1) := by decide +kernel
theorem dX2_onesInAllWays_16 : decode cX2_onesInAllWays 16 = .ok (.iload_n 1, 1) := by decide +kernel
theorem dX2_onesInAllWays_17 : decode cX2_onesInAllWays 17 = .ok (.istore_n 3, 1) := by decide +kernel
theorem dX2_onesInAllWays_18 : decode cX2_onesInAllWays 18 = .ok (.iload_n 3, 1) := by decide +kernel
theorem dX2_onesInAllWays_19 : decode cX2_onesInAllWays 19 = .ok (.iconst 1, 1) := by decide +kernel
theorem dX2_onesInAllWays_20 : decode cX2_onesInAllWays 20 = .ok (.aload_n 0, 1) := by decide +kernel
theorem dX2_onesInAllWays_21 : decode cX2_onesInAllWays 21 = .ok (.getfield 19, 3) := by decide +kernel
theorem dX2_onesInAllWays_24 : decode cX2_onesInAllWays 24 = .ok (.getfield 38, 3) := by decide +kernel
theorem dX2_onesInAllWays_27 : decode cX2_onesInAllWays 27 = .ok (.ishl, 1) := by decide +kernel
theorem dX2_onesInAllWays_28 : decode cX2_onesInAllWays 28 = .ok (.if_icmp .ge 21, 3) := by decide +kernel
theorem dX2_onesInAllWays_31 : decode cX2_onesInAllWays 31 = .ok (.aload_n 0, 1) := by decide +kernel
theorem dX2_onesInAllWays_32 : decode cX2_onesInAllWays 32 = .ok (.iload_n 3, 1) := by decide +kernel
theorem dX2_onesInAllWays_33 : decode cX2_onesInAllWays 33 = .ok (.invokevirtual 41, 3) := by decide +kernel
theorem dX2_onesInAllWays_36 : decode cX2_onesInAllWays 36 = .ok (.ifCond .eq 7, 3) := by decide +kernel
theorem dX2_onesInAllWays_39 : decode cX2_onesInAllWays 39 = .ok (.iload_n 2, 1) := by decide +kernel
theorem dX2_onesInAllWays_40 : decode cX2_onesInAllWays 40 = .ok (.iload_n 3, 1) := by decide +kernel
theorem dX2_onesInAllWays_41 : decode cX2_onesInAllWays 41 = .ok (.iand, 1) := by decide +kernel
theorem dX2_onesInAllWays_42 : decode cX2_onesInAllWays 42 = .ok (.istore_n 2, 1) := by decide +kernel
theorem dX2_onesInAllWays_43 : decode cX2_onesInAllWays 43 = .ok (.iinc 3 1, 3) := by decide +kernel
theorem dX2_onesInAllWays_46 : decode cX2_onesInAllWays 46 = .ok (.goto (-28), 3) := by decide +kernel
theorem dX2_onesInAllWays_49 : decode cX2_onesInAllWays 49 = .ok (.iload_n 2, 1) := by decide +kernel
theorem dX2_onesInAllWays_50 : decode cX2_onesInAllWays 50 = .ok (.ireturn, 1) := by decide +kernel
theorem dX3_init_0 : decode cX3_init 0 = .ok (.aload_n 0, 1) := by decide +kernel
theorem dX3_init_1 : decode cX3_init 1 = .ok (.invokespecial 3, 3) := by decide +kernel
theorem dX3_init_4 : decode cX3_init 4 = .ok (.aload_n 0, 1) := by decide +kernel
theorem dX3_init_5 : decode cX3_init 5 = .ok (.iconst 4, 1) := by decide +kernel
theorem dX3_init_6 : decode cX3_init 6 = .ok (.newarray .int, 2) := by decide +kernel
theorem dX3_init_8 : decode cX3_init 8 = .ok (.putfield 9, 3) := by decide +kernel
theorem dX3_init_11 : decode cX3_init 11 = .ok (.aload_n 0, 1) := by decide +kernel
theorem dX3_init_12 : decode cX3_init 12 = .ok (.iconst 4, 1) := by decide +kernel
theorem dX3_init_13 : decode cX3_init 13 = .ok (.newarray .int, 2) := by decide +kernel
theorem dX3_init_15 : decode cX3_init 15 = .ok (.putfield 15, 3) := by decide +kernel
theorem dX3_init_18 : decode cX3_init 18 = .ok (.aload_n 0, 1) := by decide +kernel
theorem dX3_init_19 : decode cX3_init 19 = .ok (.iconst 4, 1) := by decide +kernel
theorem dX3_init_20 : decode cX3_init 20 = .ok (.newarray .int, 2) := by decide +kernel
theorem dX3_init_22 : decode cX3_init 22 = .ok (.putfield 18, 3) := by decide +kernel
theorem dX3_init_25 : decode cX3_init 25 = .ok (.aload_n 0, 1) := by decide +kernel
theorem dX3_init_26 : decode cX3_init 26 = .ok (.aload_n 1, 1) := by decide +kernel
theorem dX3_init_27 : decode cX3_init 27 = .ok (.putfield 21, 3) := by decide +kernel
theorem dX3_init_30 : decode cX3_init 30 = .ok (.return_, 1) := by decide +kernel
theorem dX3_begin_0 : decode cX3_begin 0 = .ok (.aload_n 0, 1) := by decide +kernel
theorem dX3_begin_1 : decode cX3_begin 1 = .ok (.getfield 21, 3) := by decide +kernel
theorem dX3_begin_4 : decode cX3_begin 4 = .ok (.getfield 25, 3) := by decide +kernel
theorem dX3_begin_7 : decode cX3_begin 7 = .ok (.iconst 0, 1) := by decide +kernel
theorem dX3_begin_8 : decode cX3_begin 8 = .ok (.aload_n 0, 1) := by decide +kernel
theorem dX3_begin_9 : decode cX3_begin 9 = .ok (.getfield 9, 3) := by decide +kernel
theorem dX3_begin_12 : decode cX3_begin 12 = .ok (.iconst 0, 1) := by decide +kernel
theorem dX3_begin_13 : decode cX3_begin 13 = .ok (.iconst 4, 1) := by decide +kernel
theorem dX3_begin_14 : decode cX3_begin 14 = .ok (.invokestatic 30, 3) := by decide +kernel
theorem dX3_begin_17 : decode cX3_begin 17 = .ok (.aload_n 0, 1) := by decide +kernel
theorem dX3_begin_18 : decode cX3_begin 18 = .ok (.getfield 15, 3) := by decide +kernel
theorem dX3_begin_21 : decode cX3_begin 21 = .ok (.iconst 0, 1) := by decide +kernel
theorem dX3_begin_22 : decode cX3_begin 22 = .ok (.invokestatic 36, 3) := by decide +kernel
theorem dX3_begin_25 : decode cX3_begin 25 = .ok (.aload_n 0, 1) := by decide +kernel
theorem dX3_begin_26 : decode cX3_begin 26 = .ok (.getfield 18, 3) := by decide +kernel
theorem dX3_begin_29 : decode cX3_begin 29 = .ok (.iconst 0, 1) := by decide +kernel
theorem dX3_begin_30 : decode cX3_begin 30 = .ok (.invokestatic 36, 3) := by decide +kernel
theorem dX3_begin_33 : decode cX3_begin 33 = .ok (.aload_n 0, 1) := by decide +kernel
theorem dX3_begin_34 : decode cX3_begin 34 = .ok (.iconst 0, 1) := by decide +kernel
theorem dX3_begin_35 : decode cX3_begin 35 = .ok (.putfield 42, 3) := by decide +kernel
theorem dX3_begin_38 : decode cX3_begin 38 = .ok (.aload_n 0, 1) := by decide +kernel
theorem dX3_begin_39 : decode cX3_begin 39 = .ok (.iconst 0, 1) := by decide +kernel
theorem dX3_begin_40 : decode cX3_begin 40 = .ok (.putfield 46, 3) := by decide +kernel
theorem dX3_begin_43 : decode cX3_begin 43 = .ok (.aload_n 0, 1) := by decide +kernel
theorem dX3_begin_44 : decode cX3_begin 44 = .ok (.iconst 0, 1) := by decide +kernel
theorem dX3_begin_45 : decode cX3_begin 45 = .ok (.putfield 49, 3) := by decide +kernel
theorem dX3_begin_48 : decode cX3_begin 48 = .ok (.aload_n 0, 1) := by decide +kernel
theorem dX3_begin_49 : decode cX3_begin 49 = .ok (.iconst 0, 1) := by decide +kernel
theorem dX3_begin_50 : decode cX3_begin 50 = .ok (.putfield 52, 3) := by decide +kernel
theorem dX3_begin_53 : decode cX3_begin 53 = .ok (.return_, 1) := by decide +kernel
theorem dX3_copyFrom_0 : decode cX3_copyFrom 0 = .ok (.aload_n 1, 1) := by decide +kernel
theorem dX3_copyFrom_1 : decode cX3_copyFrom 1 = .ok (.getfield 9, 3) := by decide +kernel
theorem dX3_copyFrom_4 : decode cX3_copyFrom 4 = .ok (.iconst 0, 1) := by decide +kernel
theorem dX3_copyFrom_5 : decode cX3_copyFrom 5 = .ok (.aload_n 0, 1) := by decide +kernel
theorem dX3_copyFrom_6 : decode cX3_copyFrom 6 = .ok (.getfield 9, 3) := by decide +kernel
theorem dX3_copyFrom_9 : decode cX3_copyFrom 9 = .ok (.iconst 0, 1) := by decide +kernel
theorem dX3_copyFrom_10 : decode cX3_copyFrom 10 = .ok (.iconst 4, 1) := by decide +kernel
theorem dX3_copyFrom_11 : decode cX3_copyFrom 11 = .ok (.invokestatic 30, 3) := by decide +kernel
theorem dX3_copyFrom_14 : decode cX3_copyFrom 14 = .ok (.aload_n 1, 1) := by decide +kernel
theorem dX3_copyFrom_15 : decode cX3_copyFrom 15 = .ok (.getfield 15, 3) := by decide +kernel
theorem dX3_copyFrom_18 : decode cX3_copyFrom 18 = .ok (.iconst 0, 1) := by decide +kernel
theorem dX3_copyFrom_19 : decode cX3_copyFrom 19 = .ok (.aload_n 0, 1) := by decide +kernel
theorem dX3_copyFrom_20 : decode cX3_copyFrom 20 = .ok (.getfield 15, 3) := by decide +kernel
theorem dX3_copyFrom_23 : decode cX3_copyFrom 23 = .ok (.iconst 0, 1) := by decide +kernel
theorem dX3_copyFrom_24 : decode cX3_copyFrom 24 = .ok (.iconst 4, 1) := by decide +kernel
theorem dX3_copyFrom_25 : decode cX3_copyFrom 25 = .ok (.invokestatic 30, 3) := by decide +kernel
theorem dX3_copyFrom_28 : decode cX3_copyFrom 28 = .ok (.aload_n 1, 1) := by decide +kernel
theorem dX3_copyFrom_29 : decode cX3_copyFrom 29 = .ok (.getfield 18, 3) := by decide +kernel
theorem dX3_copyFrom_32 : decode cX3_copyFrom 32 = .ok (.iconst 0, 1) := by decide +kernel
theorem dX3_copyFrom_33 : decode cX3_copyFrom 33 = .ok (.aload_n 0, 1) := by decide +kernel
theorem dX3_copyFrom_34 : decode cX3_copyFrom 34 = .ok (.getfield 18, 3) := by decide +kernel
theorem dX3_copyFrom_37 : decode cX3_copyFrom 37 = .ok (.iconst 0, 1) := by decide +kernel
theorem dX3_copyFrom_38 : decode cX3_copyFrom 38 = .ok (.iconst 4, 1) := by decide +kernel
theorem dX3_copyFrom_39 : decode cX3_copyFrom 39 = .ok (.invokestatic 30, 3) := by decide +kernel
theorem dX3_copyFrom_42 : decode cX3_copyFrom 42 = .ok (.aload_n 0, 1) := by decide +kernel
theorem dX3_copyFrom_43 : decode cX3_copyFrom 43 = .ok (.aload_n 1, 1) := by decide +kernel
theorem dX3_copyFrom_44 : decode cX3_copyFrom 44 = .ok (.getfield 42, 3) := by decide +kernel
theorem dX3_copyFrom_47 : decode cX3_copyFrom 47 = .ok (.putfield 42, 3) := by decide +kernel
theorem dX3_copyFrom_50 : decode cX3_copyFrom 50 = .ok (.aload_n 0, 1) := by decide +kernel
theorem dX3_copyFrom_51 : decode cX3_copyFrom 51 = .ok (.aload_n 1, 1) := by decide +kernel
theorem dX3_copyFrom_52 : decode cX3_copyFrom 52 = .ok (.getfield 46, 3) := by decide +kernel
theorem dX3_copyFrom_55 : decode cX3_copyFrom 55 = .ok (.putfield 46, 3) := by decide +kernel
theorem dX3_copyFrom_58 : decode cX3_copyFrom 58 = .ok (.aload_n 0, 1) := by decide +kernel
theorem dX3_copyFrom_59 : decode cX3_copyFrom 59 = .ok (.aload_n 1, 1) := by decide +kernel
theorem dX3_copyFrom_60 : decode cX3_copyFrom 60 = .ok (.getfield 49, 3) := by decide +kernel
theorem dX3_copyFrom_63 : decode cX3_copyFrom 63 = .ok (.putfield 49, 3) := by decide +kernel
theorem dX3_copyFrom_66 : decode cX3_copyFrom 66 = .ok (.aload_n 0, 1) := by decide +kernel
theorem dX3_copyFrom_67 : decode cX3_copyFrom 67 = .ok (.aload_n 1, 1) := by decide +kernel
theorem dX3_copyFrom_68 : decode cX3_copyFrom 68 = .ok (.getfield 52, 3) := by decide +kernel
theorem dX3_copyFrom_71 : decode cX3_copyFrom 71 = .ok (.putfield 52, 3) := by decide +kernel
theorem dX3_copyFrom_74 : decode cX3_copyFrom 74 = .ok (.return_, 1) := by decide +kernel
theorem dX3_knows_0 : decode cX3_knows 0 = .ok (.aload_n 0, 1) := by decide +kernel
theorem dX3_knows_1 : decode cX3_knows 1 = .ok (.getfield 42, 3) := by decide +kernel
theorem dX3_knows_4 : decode cX3_knows 4 = .ok (.iload_n 1, 1) := by decide +kernel
theorem dX3_knows_5 : decode cX3_knows 5 = .ok (.ishr, 1) := by decide +kernel
theorem dX3_knows_6 : decode cX3_knows 6 = .ok (.iconst 1, 1) := by decide +kernel
theorem dX3_knows_7 : decode cX3_knows 7 = .ok (.iand, 1) := by decide +kernel
theorem dX3_knows_8 : decode cX3_knows 8 = .ok (.iconst 1, 1) := by decide +kernel
theorem dX3_knows_9 : decode cX3_knows 9 = .ok (.if_icmp .ne 7, 3) := by decide +kernel
theorem dX3_knows_12 : decode cX3_knows 12 = .ok (.iconst 1, 1) := by decide +kernel
theorem dX3_knows_13 : decode cX3_knows 13 = .ok (.goto 4, 3) := by decide +kernel
theorem dX3_knows_16 : decode cX3_knows 16 = .ok (.iconst 0, 1) := by decide +kernel
theorem dX3_knows_17 : decode cX3_knows 17 = .ok (.ireturn, 1) := by decide +kernel
theorem dX3_hasDone_0 : decode cX3_hasDone 0 = .ok (.aload_n 0, 1) := by decide +kernel
theorem dX3_hasDone_1 : decode cX3_hasDone 1 = .ok (.getfield 46, 3) := by decide +kernel
theorem dX3_hasDone_4 : decode cX3_hasDone 4 = .ok (.iload_n 1, 1) := by decide +kernel
theorem dX3_hasDone_5 : decode cX3_hasDone 5 = .ok (.ishr, 1) := by decide +kernel
theorem dX3_hasDone_6 : decode cX3_hasDone 6 = .ok (.iconst 1, 1) := by decide +kernel
theorem dX3_hasDone_7 : decode cX3_hasDone 7 = .ok (.iand, 1) := by decide +kernel
theorem dX3_hasDone_8 : decode cX3_hasDone 8 = .ok (.iconst 1, 1) := by decide +kernel
theorem dX3_hasDone_9 : decode cX3_hasDone 9 = .ok (.if_icmp .ne 7, 3) := by decide +kernel
theorem dX3_hasDone_12 : decode cX3_hasDone 12 = .ok (.iconst 1, 1) := by decide +kernel
theorem dX3_hasDone_13 : decode cX3_hasDone 13 = .ok (.goto 4, 3) := by decide +kernel
theorem dX3_hasDone_16 : decode cX3_hasDone 16 = .ok (.iconst 0, 1) := by decide +kernel
theorem dX3_hasDone_17 : decode cX3_hasDone 17 = .ok (.ireturn, 1) := by decide +kernel
theorem dX3_away_0 : decode cX3_away 0 = .ok (.aload_n 0, 1) := by decide +kernel
theorem dX3_away_1 : decode cX3_away 1 = .ok (.getfield 15, 3) := by decide +kernel
theorem dX3_away_4 : decode cX3_away 4 = .ok (.iload_n 1, 1) := by decide +kernel
theorem dX3_away_5 : decode cX3_away 5 = .ok (.iaload, 1) := by decide +kernel
theorem dX3_away_6 : decode cX3_away 6 = .ok (.aload_n 0, 1) := by decide +kernel
theorem dX3_away_7 : decode cX3_away 7 = .ok (.getfield 18, 3) := by decide +kernel
theorem dX3_away_10 : decode cX3_away 10 = .ok (.iload_n 1, 1) := by decide +kernel
theorem dX3_away_11 : decode cX3_away 11 = .ok (.iaload, 1) := by decide +kernel
theorem dX3_away_12 : decode cX3_away 12 = .ok (.iadd, 1) := by decide +kernel
theorem dX3_away_13 : decode cX3_away 13 = .ok (.ireturn, 1) := by decide +kernel
theorem dX3_estate_0 : decode cX3_estate 0 = .ok (.aload_n 0, 1) := by decide +kernel
theorem dX3_estate_1 : decode cX3_estate 1 = .ok (.invokevirtual 55, 3) := by decide +kernel
theorem dX3_estate_4 : decode cX3_estate 4 = .ok (.aload_n 0, 1) := by decide +kernel
theorem dX3_estate_5 : decode cX3_estate 5 = .ok (.getfield 21, 3) := by decide +kernel
theorem dX3_estate_8 : decode cX3_estate 8 = .ok (.aload_n 0, 1) := by decide +kernel
theorem dX3_estate_9 : decode cX3_estate 9 = .ok (.getfield 9, 3) := by decide +kernel
theorem dX3_estate_12 : decode cX3_estate 12 = .ok (.invokevirtual 59, 3) := by decide +kernel
theorem dX3_estate_15 : decode cX3_estate 15 = .ok (.iadd, 1) := by decide +kernel
theorem dX3_estate_16 : decode cX3_estate 16 = .ok (.ireturn, 1) := by decide +kernel
theorem dX3_base_0 : decode cX3_base 0 = .ok (.sipush 1000, 3) := by decide +kernel
theorem dX3_base_3 : decode cX3_base 3 = .ok (.aload_n 0, 1) := by decide +kernel
theorem dX3_base_4 : decode cX3_base 4 = .ok (.getfield 52, 3) := by decide +kernel
theorem dX3_base_7 : decode cX3_base 7 = .ok (.iadd, 1) := by decide +kernel
theorem dX3_base_8 : decode cX3_base 8 = .ok (.ireturn, 1) := by decide +kernel
theorem dX3_refusalToDrink_0 : decode cX3_refusalToDrink 0 = .ok (.iload_n 1, 1) := by decide +kernel
theorem dX3_refusalToDrink_1 : decode cX3_refusalToDrink 1 = .ok (.ifCond .lt 14, 3) := by decide +kernel
theorem dX3_refusalToDrink_4 : decode cX3_refusalToDrink 4 = .ok (.iload_n 1, 1) := by decide +kernel
theorem dX3_refusalToDrink_5 : decode cX3_refusalToDrink 5 = .ok (.aload_n 0, 1) := by decide +kernel
theorem dX3_refusalToDrink_6 : decode cX3_refusalToDrink 6 = .ok (.getfield 21, 3) := by decide +kernel
theorem dX3_refusalToDrink_9 : decode cX3_refusalToDrink 9 = .ok (.getfield 63, 3) := by decide +kernel
theorem dX3_refusalToDrink_12 : decode cX3_refusalToDrink 12 = .ok (.if_icmp .lt 5, 3) := by decide +kernel
theorem dX3_refusalToDrink_15 : decode cX3_refusalToDrink 15 = .ok (.iconst (-1), 1) := by decide +kernel
theorem dX3_refusalToDrink_16 : decode cX3_refusalToDrink 16 = .ok (.ireturn, 1) := by decide +kernel
theorem dX3_refusalToDrink_17 : decode cX3_refusalToDrink 17 = .ok (.aload_n 0, 1) := by decide +kernel
theorem dX3_refusalToDrink_18 : decode cX3_refusalToDrink 18 = .ok (.iload_n 1, 1) := by decide +kernel
theorem dX3_refusalToDrink_19 : decode cX3_refusalToDrink 19 = .ok (.invokevirtual 66, 3) := by decide +kernel
theorem dX3_refusalToDrink_22 : decode cX3_refusalToDrink 22 = .ok (.ifCond .eq 6, 3) := by decide +kernel
theorem dX3_refusalToDrink_25 : decode cX3_refusalToDrink 25 = .ok (.bipush (-3), 2) := by decide +kernel
theorem dX3_refusalToDrink_27 : decode cX3_refusalToDrink 27 = .ok (.ireturn, 1) := by decide +kernel
theorem dX3_refusalToDrink_28 : decode cX3_refusalToDrink 28 = .ok (.aload_n 0, 1) := by decide +kernel
theorem dX3_refusalToDrink_29 : decode cX3_refusalToDrink 29 = .ok (.getfield 9, 3) := by decide +kernel
theorem dX3_refusalToDrink_32 : decode cX3_refusalToDrink 32 = .ok (.aload_n 0, 1) := by decide +kernel
theorem dX3_refusalToDrink_33 : decode cX3_refusalToDrink 33 = .ok (.getfield 21, 3) := by decide +kernel
theorem dX3_refusalToDrink_36 : decode cX3_refusalToDrink 36 = .ok (.getfield 70, 3) := by decide +kernel
theorem dX3_refusalToDrink_39 : decode cX3_refusalToDrink 39 = .ok (.iload_n 1, 1) := by decide +kernel
theorem dX3_refusalToDrink_40 : decode cX3_refusalToDrink 40 = .ok (.iaload, 1) := by decide +kernel
theorem dX3_refusalToDrink_41 : decode cX3_refusalToDrink 41 = .ok (.iaload, 1) := by decide +kernel
theorem dX3_refusalToDrink_42 : decode cX3_refusalToDrink 42 = .ok (.aload_n 0, 1) := by decide +kernel
theorem dX3_refusalToDrink_43 : decode cX3_refusalToDrink 43 = .ok (.getfield 21, 3) := by decide +kernel
theorem dX3_refusalToDrink_46 : decode cX3_refusalToDrink 46 = .ok (.getfield 73, 3) := by decide +kernel
theorem dX3_refusalToDrink_49 : decode cX3_refusalToDrink 49 = .ok (.iload_n 1, 1) := by decide +kernel
theorem dX3_refusalToDrink_50 : decode cX3_refusalToDrink 50 = .ok (.iaload, 1) := by decide +kernel
theorem dX3_refusalToDrink_51 : decode cX3_refusalToDrink 51 = .ok (.if_icmp .ge 8, 3) := by decide +kernel
theorem dX3_refusalToDrink_54 : decode cX3_refusalToDrink 54 = .ok (.bipush (-4), 2) := by decide +kernel
theorem dX3_refusalToDrink_56 : decode cX3_refusalToDrink 56 = .ok (.goto 4, 3) := by decide +kernel
theorem dX3_refusalToDrink_59 : decode cX3_refusalToDrink 59 = .ok (.iconst 0, 1) := by decide +kernel
theorem dX3_refusalToDrink_60 : decode cX3_refusalToDrink 60 = .ok (.ireturn, 1) := by decide +kernel
theorem dX3_refusalToDo_0 : decode cX3_refusalToDo 0 = .ok (.iload_n 1, 1) := by decide +kernel
theorem dX3_refusalToDo_1 : decode cX3_refusalToDo 1 = .ok (.ifCond .lt 14, 3) := by decide +kernel
theorem dX3_refusalToDo_4 : decode cX3_refusalToDo 4 = .ok (.iload_n 1, 1) := by decide +kernel
theorem dX3_refusalToDo_5 : decode cX3_refusalToDo 5 = .ok (.aload_n 0, 1) := by decide +kernel
theorem dX3_refusalToDo_6 : decode cX3_refusalToDo 6 = .ok (.getfield 21, 3) := by decide +kernel
theorem dX3_refusalToDo_9 : decode cX3_refusalToDo 9 = .ok (.getfield 76, 3) := by decide +kernel
theorem dX3_refusalToDo_12 : decode cX3_refusalToDo 12 = .ok (.if_icmp .lt 5, 3) := by decide +kernel
theorem dX3_refusalToDo_15 : decode cX3_refusalToDo 15 = .ok (.iconst (-1), 1) := by decide +kernel
theorem dX3_refusalToDo_16 : decode cX3_refusalToDo 16 = .ok (.ireturn, 1) := by decide +kernel
theorem dX3_refusalToDo_17 : decode cX3_refusalToDo 17 = .ok (.aload_n 0, 1) := by decide +kernel
theorem dX3_refusalToDo_18 : decode cX3_refusalToDo 18 = .ok (.iload_n 1, 1) := by decide +kernel
theorem dX3_refusalToDo_19 : decode cX3_refusalToDo 19 = .ok (.invokevirtual 79, 3) := by decide +kernel
theorem dX3_refusalToDo_22 : decode cX3_refusalToDo 22 = .ok (.ifCond .eq 6, 3) := by decide +kernel
theorem dX3_refusalToDo_25 : decode cX3_refusalToDo 25 = .ok (.bipush (-3), 2) := by decide +kernel
theorem dX3_refusalToDo_27 : decode cX3_refusalToDo 27 = .ok (.ireturn, 1) := by decide +kernel
theorem dX3_refusalToDo_28 : decode cX3_refusalToDo 28 = .ok (.aload_n 0, 1) := by decide +kernel
theorem dX3_refusalToDo_29 : decode cX3_refusalToDo 29 = .ok (.getfield 9, 3) := by decide +kernel
theorem dX3_refusalToDo_32 : decode cX3_refusalToDo 32 = .ok (.aload_n 0, 1) := by decide +kernel
theorem dX3_refusalToDo_33 : decode cX3_refusalToDo 33 = .ok (.getfield 21, 3) := by decide +kernel
theorem dX3_refusalToDo_36 : decode cX3_refusalToDo 36 = .ok (.getfield 82, 3) := by decide +kernel
theorem dX3_refusalToDo_39 : decode cX3_refusalToDo 39 = .ok (.iload_n 1, 1) := by decide +kernel
theorem dX3_refusalToDo_40 : decode cX3_refusalToDo 40 = .ok (.iaload, 1) := by decide +kernel
theorem dX3_refusalToDo_41 : decode cX3_refusalToDo 41 = .ok (.iaload, 1) := by decide +kernel
theorem dX3_refusalToDo_42 : decode cX3_refusalToDo 42 = .ok (.aload_n 0, 1) := by decide +kernel
theorem dX3_refusalToDo_43 : decode cX3_refusalToDo 43 = .ok (.getfield 21, 3) := by decide +kernel
theorem dX3_refusalToDo_46 : decode cX3_refusalToDo 46 = .ok (.getfield 85, 3) := by decide +kernel
theorem dX3_refusalToDo_49 : decode cX3_refusalToDo 49 = .ok (.iload_n 1, 1) := by decide +kernel
theorem dX3_refusalToDo_50 : decode cX3_refusalToDo 50 = .ok (.iaload, 1) := by decide +kernel
theorem dX3_refusalToDo_51 : decode cX3_refusalToDo 51 = .ok (.if_icmp .ge 8, 3) := by decide +kernel
theorem dX3_refusalToDo_54 : decode cX3_refusalToDo 54 = .ok (.bipush (-4), 2) := by decide +kernel
theorem dX3_refusalToDo_56 : decode cX3_refusalToDo 56 = .ok (.goto 4, 3) := by decide +kernel
theorem dX3_refusalToDo_59 : decode cX3_refusalToDo 59 = .ok (.iconst 0, 1) := by decide +kernel
theorem dX3_refusalToDo_60 : decode cX3_refusalToDo 60 = .ok (.ireturn, 1) := by decide +kernel
theorem dX3_drinkable_0 : decode cX3_drinkable 0 = .ok (.iconst 0, 1) := by decide +kernel
theorem dX3_drinkable_1 : decode cX3_drinkable 1 = .ok (.istore_n 1, 1) := by decide +kernel
theorem dX3_drinkable_2 : decode cX3_drinkable 2 = .ok (.iconst 0, 1) := by decide +kernel
theorem dX3_drinkable_3 : decode cX3_drinkable 3 = .ok (.istore_n 2, 1) := by decide +kernel
theorem dX3_drinkable_4 : decode cX3_drinkable 4 = .ok (.iload_n 2, 1) := by decide +kernel
theorem dX3_drinkable_5 : decode cX3_drinkable 5 = .ok (.aload_n 0, 1) := by decide +kernel
theorem dX3_drinkable_6 : decode cX3_drinkable 6 = .ok (.getfield 21, 3) := by decide +kernel
theorem dX3_drinkable_9 : decode cX3_drinkable 9 = .ok (.getfield 63, 3) := by decide +kernel
theorem dX3_drinkable_12 : decode cX3_drinkable 12 = .ok (.if_icmp .ge 23, 3) := by decide +kernel
theorem dX3_drinkable_15 : decode cX3_drinkable 15 = .ok (.aload_n 0, 1) := by decide +kernel
theorem dX3_drinkable_16 : decode cX3_drinkable 16 = .ok (.iload_n 2, 1) := by decide +kernel
theorem dX3_drinkable_17 : decode cX3_drinkable 17 = .ok (.invokevirtual 88, 3) := by decide +kernel
theorem dX3_drinkable_20 : decode cX3_drinkable 20 = .ok (.ifCond .ne 9, 3) := by decide +kernel
theorem dX3_drinkable_23 : decode cX3_drinkable 23 = .ok (.iload_n 1, 1) := by decide +kernel
theorem dX3_drinkable_24 : decode cX3_drinkable 24 = .ok (.iconst 1, 1) := by decide +kernel
theorem dX3_drinkable_25 : decode cX3_drinkable 25 = .ok (.iload_n 2, 1) := by decide +kernel
theorem dX3_drinkable_26 : decode cX3_drinkable 26 = .ok (.ishl, 1) := by decide +kernel
theorem dX3_drinkable_27 : decode cX3_drinkable 27 = .ok (.ior, 1) := by decide +kernel
theorem dX3_drinkable_28 : decode cX3_drinkable 28 = .ok (.istore_n 1, 1) := by decide +kernel
theorem dX3_drinkable_29 : decode cX3_drinkable 29 = .ok (.iinc 2 1, 3) := by decide +kernel
theorem dX3_drinkable_32 : decode cX3_drinkable 32 = .ok (.goto (-28), 3) := by decide +kernel
theorem dX3_drinkable_35 : decode cX3_drinkable 35 = .ok (.iload_n 1, 1) := by decide +kernel
theorem dX3_drinkable_36 : decode cX3_drinkable 36 = .ok (.ireturn, 1) := by decide +kernel
theorem dX3_doable_0 : decode cX3_doable 0 = .ok (.iconst 0, 1) := by decide +kernel
theorem dX3_doable_1 : decode cX3_doable 1 = .ok (.istore_n 1, 1) := by decide +kernel
theorem dX3_doable_2 : decode cX3_doable 2 = .ok (.iconst 0, 1) := by decide +kernel
theorem dX3_doable_3 : decode cX3_doable 3 = .ok (.istore_n 2, 1) := by decide +kernel
theorem dX3_doable_4 : decode cX3_doable 4 = .ok (.iload_n 2, 1) := by decide +kernel
theorem dX3_doable_5 : decode cX3_doable 5 = .ok (.aload_n 0, 1) := by decide +kernel
theorem dX3_doable_6 : decode cX3_doable 6 = .ok (.getfield 21, 3) := by decide +kernel
theorem dX3_doable_9 : decode cX3_doable 9 = .ok (.getfield 76, 3) := by decide +kernel
theorem dX3_doable_12 : decode cX3_doable 12 = .ok (.if_icmp .ge 23, 3) := by decide +kernel
theorem dX3_doable_15 : decode cX3_doable 15 = .ok (.aload_n 0, 1) := by decide +kernel
theorem dX3_doable_16 : decode cX3_doable 16 = .ok (.iload_n 2, 1) := by decide +kernel
theorem dX3_doable_17 : decode cX3_doable 17 = .ok (.invokevirtual 92, 3) := by decide +kernel
theorem dX3_doable_20 : decode cX3_doable 20 = .ok (.ifCond .ne 9, 3) := by decide +kernel
theorem dX3_doable_23 : decode cX3_doable 23 = .ok (.iload_n 1, 1) := by decide +kernel
theorem dX3_doable_24 : decode cX3_doable 24 = .ok (.iconst 1, 1) := by decide +kernel
theorem dX3_doable_25 : decode cX3_doable 25 = .ok (.iload_n 2, 1) := by decide +kernel
theorem dX3_doable_26 : decode cX3_doable 26 = .ok (.ishl, 1) := by decide +kernel
theorem dX3_doable_27 : decode cX3_doable 27 = .ok (.ior, 1) := by decide +kernel
theorem dX3_doable_28 : decode cX3_doable 28 = .ok (.istore_n 1, 1) := by decide +kernel
theorem dX3_doable_29 : decode cX3_doable 29 = .ok (.iinc 2 1, 3) := by decide +kernel
theorem dX3_doable_32 : decode cX3_doable 32 = .ok (.goto (-28), 3) := by decide +kernel
theorem dX3_doable_35 : decode cX3_doable 35 = .ok (.iload_n 1, 1) := by decide +kernel
theorem dX3_doable_36 : decode cX3_doable 36 = .ok (.ireturn, 1) := by decide +kernel
theorem dX3_drinkUp_0 : decode cX3_drinkUp 0 = .ok (.aload_n 0, 1) := by decide +kernel
theorem dX3_drinkUp_1 : decode cX3_drinkUp 1 = .ok (.aload_n 0, 1) := by decide +kernel
theorem dX3_drinkUp_2 : decode cX3_drinkUp 2 = .ok (.getfield 21, 3) := by decide +kernel
theorem dX3_drinkUp_5 : decode cX3_drinkUp 5 = .ok (.getfield 70, 3) := by decide +kernel
theorem dX3_drinkUp_8 : decode cX3_drinkUp 8 = .ok (.iload_n 1, 1) := by decide +kernel
theorem dX3_drinkUp_9 : decode cX3_drinkUp 9 = .ok (.iaload, 1) := by decide +kernel
theorem dX3_drinkUp_10 : decode cX3_drinkUp 10 = .ok (.aload_n 0, 1) := by decide +kernel
theorem dX3_drinkUp_11 : decode cX3_drinkUp 11 = .ok (.getfield 21, 3) := by decide +kernel
theorem dX3_drinkUp_14 : decode cX3_drinkUp 14 = .ok (.getfield 73, 3) := by decide +kernel
theorem dX3_drinkUp_17 : decode cX3_drinkUp 17 = .ok (.iload_n 1, 1) := by decide +kernel
theorem dX3_drinkUp_18 : decode cX3_drinkUp 18 = .ok (.iaload, 1) := by decide +kernel
theorem dX3_drinkUp_19 : decode cX3_drinkUp 19 = .ok (.invokevirtual 95, 3) := by decide +kernel
theorem dX3_drinkUp_22 : decode cX3_drinkUp 22 = .ok (.aload_n 0, 1) := by decide +kernel
theorem dX3_drinkUp_23 : decode cX3_drinkUp 23 = .ok (.dup, 1) := by decide +kernel
theorem dX3_drinkUp_24 : decode cX3_drinkUp 24 = .ok (.getfield 42, 3) := by decide +kernel
theorem dX3_drinkUp_27 : decode cX3_drinkUp 27 = .ok (.iconst 1, 1) := by decide +kernel
theorem dX3_drinkUp_28 : decode cX3_drinkUp 28 = .ok (.iload_n 1, 1) := by decide +kernel
theorem dX3_drinkUp_29 : decode cX3_drinkUp 29 = .ok (.ishl, 1) := by decide +kernel
theorem dX3_drinkUp_30 : decode cX3_drinkUp 30 = .ok (.ior, 1) := by decide +kernel
theorem dX3_drinkUp_31 : decode cX3_drinkUp 31 = .ok (.putfield 42, 3) := by decide +kernel
theorem dX3_drinkUp_34 : decode cX3_drinkUp 34 = .ok (.return_, 1) := by decide +kernel
theorem dX3_carryOut_0 : decode cX3_carryOut 0 = .ok (.aload_n 0, 1) := by decide +kernel
theorem dX3_carryOut_1 : decode cX3_carryOut 1 = .ok (.aload_n 0, 1) := by decide +kernel
theorem dX3_carryOut_2 : decode cX3_carryOut 2 = .ok (.getfield 21, 3) := by decide +kernel
theorem dX3_carryOut_5 : decode cX3_carryOut 5 = .ok (.getfield 82, 3) := by decide +kernel
theorem dX3_carryOut_8 : decode cX3_carryOut 8 = .ok (.iload_n 1, 1) := by decide +kernel
theorem dX3_carryOut_9 : decode cX3_carryOut 9 = .ok (.iaload, 1) := by decide +kernel
theorem dX3_carryOut_10 : decode cX3_carryOut 10 = .ok (.aload_n 0, 1) := by decide +kernel
theorem dX3_carryOut_11 : decode cX3_carryOut 11 = .ok (.getfield 21, 3) := by decide +kernel
theorem dX3_carryOut_14 : decode cX3_carryOut 14 = .ok (.getfield 85, 3) := by decide +kernel
theorem dX3_carryOut_17 : decode cX3_carryOut 17 = .ok (.iload_n 1, 1) := by decide +kernel
theorem dX3_carryOut_18 : decode cX3_carryOut 18 = .ok (.iaload, 1) := by decide +kernel
theorem dX3_carryOut_19 : decode cX3_carryOut 19 = .ok (.invokevirtual 95, 3) := by decide +kernel
theorem dX3_carryOut_22 : decode cX3_carryOut 22 = .ok (.aload_n 0, 1) := by decide +kernel
theorem dX3_carryOut_23 : decode cX3_carryOut 23 = .ok (.dup, 1) := by decide +kernel
theorem dX3_carryOut_24 : decode cX3_carryOut 24 = .ok (.getfield 46, 3) := by decide +kernel
theorem dX3_carryOut_27 : decode cX3_carryOut 27 = .ok (.iconst 1, 1) := by decide +kernel
theorem dX3_carryOut_28 : decode cX3_carryOut 28 = .ok (.iload_n 1, 1) := by decide +kernel
theorem dX3_carryOut_29 : decode cX3_carryOut 29 = .ok (.ishl, 1) := by decide +kernel
theorem dX3_carryOut_30 : decode cX3_carryOut 30 = .ok (.ior, 1) := by decide +kernel
theorem dX3_carryOut_31 : decode cX3_carryOut 31 = .ok (.putfield 46, 3) := by decide +kernel
theorem dX3_carryOut_34 : decode cX3_carryOut 34 = .ok (.aload_n 0, 1) := by decide +kernel
theorem dX3_carryOut_35 : decode cX3_carryOut 35 = .ok (.getfield 21, 3) := by decide +kernel
theorem dX3_carryOut_38 : decode cX3_carryOut 38 = .ok (.iload_n 1, 1) := by decide +kernel
theorem dX3_carryOut_39 : decode cX3_carryOut 39 = .ok (.invokevirtual 99, 3) := by decide +kernel
theorem dX3_carryOut_42 : decode cX3_carryOut 42 = .ok (.istore_n 2, 1) := by decide +kernel
theorem dX3_carryOut_43 : decode cX3_carryOut 43 = .ok (.aload_n 0, 1) := by decide +kernel
theorem dX3_carryOut_44 : decode cX3_carryOut 44 = .ok (.dup, 1) := by decide +kernel
theorem dX3_carryOut_45 : decode cX3_carryOut 45 = .ok (.getfield 52, 3) := by decide +kernel
theorem dX3_carryOut_48 : decode cX3_carryOut 48 = .ok (.aload_n 0, 1) := by decide +kernel
theorem dX3_carryOut_49 : decode cX3_carryOut 49 = .ok (.getfield 21, 3) := by decide +kernel
theorem dX3_carryOut_52 : decode cX3_carryOut 52 = .ok (.aload_n 0, 1) := by decide +kernel
theorem dX3_carryOut_53 : decode cX3_carryOut 53 = .ok (.getfield 21, 3) := by decide +kernel
theorem dX3_carryOut_56 : decode cX3_carryOut 56 = .ok (.getfield 102, 3) := by decide +kernel
theorem dX3_carryOut_59 : decode cX3_carryOut 59 = .ok (.iload_n 1, 1) := by decide +kernel
theorem dX3_carryOut_60 : decode cX3_carryOut 60 = .ok (.iaload, 1) := by decide +kernel
theorem dX3_carryOut_61 : decode cX3_carryOut 61 = .ok (.invokevirtual 105, 3) := by decide +kernel
theorem dX3_carryOut_64 : decode cX3_carryOut 64 = .ok (.iconst 1, 1) := by decide +kernel
theorem dX3_carryOut_65 : decode cX3_carryOut 65 = .ok (.if_icmp .ne 7, 3) := by decide +kernel
theorem dX3_carryOut_68 : decode cX3_carryOut 68 = .ok (.iload_n 2, 1) := by decide +kernel
theorem dX3_carryOut_69 : decode cX3_carryOut 69 = .ok (.goto 5, 3) := by decide +kernel
theorem dX3_carryOut_72 : decode cX3_carryOut 72 = .ok (.iload_n 2, 1) := by decide +kernel
theorem dX3_carryOut_73 : decode cX3_carryOut 73 = .ok (.ineg, 1) := by decide +kernel
theorem dX3_carryOut_74 : decode cX3_carryOut 74 = .ok (.iadd, 1) := by decide +kernel
theorem dX3_carryOut_75 : decode cX3_carryOut 75 = .ok (.putfield 52, 3) := by decide +kernel
theorem dX3_carryOut_78 : decode cX3_carryOut 78 = .ok (.return_, 1) := by decide +kernel
theorem dX3_give_0 : decode cX3_give 0 = .ok (.aload_n 0, 1) := by decide +kernel
theorem dX3_give_1 : decode cX3_give 1 = .ok (.getfield 9, 3) := by decide +kernel
theorem dX3_give_4 : decode cX3_give 4 = .ok (.iload_n 1, 1) := by decide +kernel
theorem dX3_give_5 : decode cX3_give 5 = .ok (.dup2, 1) := by decide +kernel
theorem dX3_give_6 : decode cX3_give 6 = .ok (.iaload, 1) := by decide +kernel
theorem dX3_give_7 : decode cX3_give 7 = .ok (.iload_n 2, 1) := by decide +kernel
theorem dX3_give_8 : decode cX3_give 8 = .ok (.isub, 1) := by decide +kernel
theorem dX3_give_9 : decode cX3_give 9 = .ok (.iastore, 1) := by decide +kernel
theorem dX3_give_10 : decode cX3_give 10 = .ok (.aload_n 0, 1) := by decide +kernel
theorem dX3_give_11 : decode cX3_give 11 = .ok (.getfield 21, 3) := by decide +kernel
theorem dX3_give_14 : decode cX3_give 14 = .ok (.getfield 108, 3) := by decide +kernel
theorem dX3_give_17 : decode cX3_give 17 = .ok (.iload_n 1, 1) := by decide +kernel
theorem dX3_give_18 : decode cX3_give 18 = .ok (.iaload, 1) := by decide +kernel
theorem dX3_give_19 : decode cX3_give 19 = .ok (.iconst 1, 1) := by decide +kernel
theorem dX3_give_20 : decode cX3_give 20 = .ok (.if_icmp .ne 13, 3) := by decide +kernel
theorem dX3_give_23 : decode cX3_give 23 = .ok (.aload_n 0, 1) := by decide +kernel
theorem dX3_give_24 : decode cX3_give 24 = .ok (.getfield 15, 3) := by decide +kernel
theorem dX3_give_27 : decode cX3_give 27 = .ok (.iload_n 1, 1) := by decide +kernel
theorem dX3_give_28 : decode cX3_give 28 = .ok (.dup2, 1) := by decide +kernel
theorem dX3_give_29 : decode cX3_give 29 = .ok (.iaload, 1) := by decide +kernel
theorem dX3_give_30 : decode cX3_give 30 = .ok (.iload_n 2, 1) := by decide +kernel
theorem dX3_give_31 : decode cX3_give 31 = .ok (.iadd, 1) := by decide +kernel
theorem dX3_give_32 : decode cX3_give 32 = .ok (.iastore, 1) := by decide +kernel
theorem dX3_give_33 : decode cX3_give 33 = .ok (.return_, 1) := by decide +kernel
theorem dX3_tryChoice_0 : decode cX3_tryChoice 0 = .ok (.iload_n 1, 1) := by decide +kernel
theorem dX3_tryChoice_1 : decode cX3_tryChoice 1 = .ok (.iconst 4, 1) := by decide +kernel
theorem dX3_tryChoice_2 : decode cX3_tryChoice 2 = .ok (.if_icmp .ge 19, 3) := by decide +kernel
theorem dX3_tryChoice_5 : decode cX3_tryChoice 5 = .ok (.aload_n 0, 1) := by decide +kernel
theorem dX3_tryChoice_6 : decode cX3_tryChoice 6 = .ok (.iload_n 1, 1) := by decide +kernel
theorem dX3_tryChoice_7 : decode cX3_tryChoice 7 = .ok (.invokevirtual 88, 3) := by decide +kernel
theorem dX3_tryChoice_10 : decode cX3_tryChoice 10 = .ok (.ifCond .ne 28, 3) := by decide +kernel
theorem dX3_tryChoice_13 : decode cX3_tryChoice 13 = .ok (.aload_n 0, 1) := by decide +kernel
theorem dX3_tryChoice_14 : decode cX3_tryChoice 14 = .ok (.iload_n 1, 1) := by decide +kernel
theorem dX3_tryChoice_15 : decode cX3_tryChoice 15 = .ok (.invokevirtual 111, 3) := by decide +kernel
theorem dX3_tryChoice_18 : decode cX3_tryChoice 18 = .ok (.goto 20, 3) := by decide +kernel
theorem dX3_tryChoice_21 : decode cX3_tryChoice 21 = .ok (.aload_n 0, 1) := by decide +kernel
theorem dX3_tryChoice_22 : decode cX3_tryChoice 22 = .ok (.iload_n 1, 1) := by decide +kernel
theorem dX3_tryChoice_23 : decode cX3_tryChoice 23 = .ok (.iconst 4, 1) := by decide +kernel
theorem dX3_tryChoice_24 : decode cX3_tryChoice 24 = .ok (.isub, 1) := by decide +kernel
theorem dX3_tryChoice_25 : decode cX3_tryChoice 25 = .ok (.invokevirtual 92, 3) := by decide +kernel
theorem dX3_tryChoice_28 : decode cX3_tryChoice 28 = .ok (.ifCond .ne 10, 3) := by decide +kernel
theorem dX3_tryChoice_31 : decode cX3_tryChoice 31 = .ok (.aload_n 0, 1) := by decide +kernel
theorem dX3_tryChoice_32 : decode cX3_tryChoice 32 = .ok (.iload_n 1, 1) := by decide +kernel
theorem dX3_tryChoice_33 : decode cX3_tryChoice 33 = .ok (.iconst 4, 1) := by decide +kernel
theorem dX3_tryChoice_34 : decode cX3_tryChoice 34 = .ok (.isub, 1) := by decide +kernel
theorem dX3_tryChoice_35 : decode cX3_tryChoice 35 = .ok (.invokevirtual 115, 3) := by decide +kernel
theorem dX3_tryChoice_38 : decode cX3_tryChoice 38 = .ok (.return_, 1) := by decide +kernel
theorem dX3_passDay_0 : decode cX3_passDay 0 = .ok (.iconst 0, 1) := by decide +kernel
theorem dX3_passDay_1 : decode cX3_passDay 1 = .ok (.istore_n 1, 1) := by decide +kernel
theorem dX3_passDay_2 : decode cX3_passDay 2 = .ok (.iconst 0, 1) := by decide +kernel
theorem dX3_passDay_3 : decode cX3_passDay 3 = .ok (.istore_n 2, 1) := by decide +kernel
theorem dX3_passDay_4 : decode cX3_passDay 4 = .ok (.iload_n 2, 1) := by decide +kernel
theorem dX3_passDay_5 : decode cX3_passDay 5 = .ok (.aload_n 0, 1) := by decide +kernel
theorem dX3_passDay_6 : decode cX3_passDay 6 = .ok (.getfield 21, 3) := by decide +kernel
theorem dX3_passDay_9 : decode cX3_passDay 9 = .ok (.getfield 118, 3) := by decide +kernel
theorem dX3_passDay_12 : decode cX3_passDay 12 = .ok (.if_icmp .ge 80, 3) := by decide +kernel
theorem dX3_passDay_15 : decode cX3_passDay 15 = .ok (.aload_n 0, 1) := by decide +kernel
theorem dX3_passDay_16 : decode cX3_passDay 16 = .ok (.getfield 21, 3) := by decide +kernel
theorem dX3_passDay_19 : decode cX3_passDay 19 = .ok (.getfield 108, 3) := by decide +kernel
theorem dX3_passDay_22 : decode cX3_passDay 22 = .ok (.iload_n 2, 1) := by decide +kernel
theorem dX3_passDay_23 : decode cX3_passDay 23 = .ok (.iaload, 1) := by decide +kernel
theorem dX3_passDay_24 : decode cX3_passDay 24 = .ok (.iconst 2, 1) := by decide +kernel
theorem dX3_passDay_25 : decode cX3_passDay 25 = .ok (.if_icmp .ne 7, 3) := by decide +kernel
theorem dX3_passDay_28 : decode cX3_passDay 28 = .ok (.iconst 1, 1) := by decide +kernel
theorem dX3_passDay_29 : decode cX3_passDay 29 = .ok (.goto 9, 3) := by decide +kernel
theorem dX3_passDay_32 : decode cX3_passDay 32 = .ok (.aload_n 0, 1) := by decide +kernel
theorem dX3_passDay_33 : decode cX3_passDay 33 = .ok (.getfield 18, 3) := by decide +kernel
theorem dX3_passDay_36 : decode cX3_passDay 36 = .ok (.iload_n 2, 1) := by decide +kernel
theorem dX3_passDay_37 : decode cX3_passDay 37 = .ok (.iaload, 1) := by decide +kernel
theorem dX3_passDay_38 : decode cX3_passDay 38 = .ok (.istore_n 3, 1) := by decide +kernel
theorem dX3_passDay_39 : decode cX3_passDay 39 = .ok (.iload_n 3, 1) := by decide +kernel
theorem dX3_passDay_40 : decode cX3_passDay 40 = .ok (.bipush 9, 2) := by decide +kernel
theorem dX3_passDay_42 : decode cX3_passDay 42 = .ok (.aload_n 0, 1) := by decide +kernel
theorem dX3_passDay_43 : decode cX3_passDay 43 = .ok (.getfield 9, 3) := by decide +kernel
theorem dX3_passDay_46 : decode cX3_passDay 46 = .ok (.iload_n 2, 1) := by decide +kernel
theorem dX3_passDay_47 : decode cX3_passDay 47 = .ok (.iaload, 1) := by decide +kernel
theorem dX3_passDay_48 : decode cX3_passDay 48 = .ok (.isub, 1) := by decide +kernel
theorem dX3_passDay_49 : decode cX3_passDay 49 = .ok (.invokestatic 121, 3) := by decide +kernel
theorem dX3_passDay_52 : decode cX3_passDay 52 = .ok (.istore_n 3, 1) := by decide +kernel
theorem dX3_passDay_53 : decode cX3_passDay 53 = .ok (.aload_n 0, 1) := by decide +kernel
theorem dX3_passDay_54 : decode cX3_passDay 54 = .ok (.getfield 9, 3) := by decide +kernel
theorem dX3_passDay_57 : decode cX3_passDay 57 = .ok (.iload_n 2, 1) := by decide +kernel
theorem dX3_passDay_58 : decode cX3_passDay 58 = .ok (.dup2, 1) := by decide +kernel
theorem dX3_passDay_59 : decode cX3_passDay 59 = .ok (.iaload, 1) := by decide +kernel
theorem dX3_passDay_60 : decode cX3_passDay 60 = .ok (.iload_n 3, 1) := by decide +kernel
theorem dX3_passDay_61 : decode cX3_passDay 61 = .ok (.iadd, 1) := by decide +kernel
theorem dX3_passDay_62 : decode cX3_passDay 62 = .ok (.iastore, 1) := by decide +kernel
theorem dX3_passDay_63 : decode cX3_passDay 63 = .ok (.iload_n 1, 1) := by decide +kernel
theorem dX3_passDay_64 : decode cX3_passDay 64 = .ok (.iload_n 3, 1) := by decide +kernel
theorem dX3_passDay_65 : decode cX3_passDay 65 = .ok (.iadd, 1) := by decide +kernel
theorem dX3_passDay_66 : decode cX3_passDay 66 = .ok (.istore_n 1, 1) := by decide +kernel
theorem dX3_passDay_67 : decode cX3_passDay 67 = .ok (.aload_n 0, 1) := by decide +kernel
theorem dX3_passDay_68 : decode cX3_passDay 68 = .ok (.getfield 18, 3) := by decide +kernel
theorem dX3_passDay_71 : decode cX3_passDay 71 = .ok (.iload_n 2, 1) := by decide +kernel
theorem dX3_passDay_72 : decode cX3_passDay 72 = .ok (.aload_n 0, 1) := by decide +kernel
theorem dX3_passDay_73 : decode cX3_passDay 73 = .ok (.getfield 15, 3) := by decide +kernel
theorem dX3_passDay_76 : decode cX3_passDay 76 = .ok (.iload_n 2, 1) := by decide +kernel
theorem dX3_passDay_77 : decode cX3_passDay 77 = .ok (.iaload, 1) := by decide +kernel
theorem dX3_passDay_78 : decode cX3_passDay 78 = .ok (.iastore, 1) := by decide +kernel
theorem dX3_passDay_79 : decode cX3_passDay 79 = .ok (.aload_n 0, 1) := by decide +kernel
theorem dX3_passDay_80 : decode cX3_passDay 80 = .ok (.getfield 15, 3) := by decide +kernel
theorem dX3_passDay_83 : decode cX3_passDay 83 = .ok (.iload_n 2, 1) := by decide +kernel
theorem dX3_passDay_84 : decode cX3_passDay 84 = .ok (.iconst 0, 1) := by decide +kernel
theorem dX3_passDay_85 : decode cX3_passDay 85 = .ok (.iastore, 1) := by decide +kernel
theorem dX3_passDay_86 : decode cX3_passDay 86 = .ok (.iinc 2 1, 3) := by decide +kernel
theorem dX3_passDay_89 : decode cX3_passDay 89 = .ok (.goto (-85), 3) := by decide +kernel
theorem dX3_passDay_92 : decode cX3_passDay 92 = .ok (.aload_n 0, 1) := by decide +kernel
theorem dX3_passDay_93 : decode cX3_passDay 93 = .ok (.dup, 1) := by decide +kernel
theorem dX3_passDay_94 : decode cX3_passDay 94 = .ok (.getfield 49, 3) := by decide +kernel
theorem dX3_passDay_97 : decode cX3_passDay 97 = .ok (.iconst 1, 1) := by decide +kernel
theorem dX3_passDay_98 : decode cX3_passDay 98 = .ok (.iadd, 1) := by decide +kernel
theorem dX3_passDay_99 : decode cX3_passDay 99 = .ok (.putfield 49, 3) := by decide +kernel
theorem dX3_passDay_102 : decode cX3_passDay 102 = .ok (.iload_n 1, 1) := by decide +kernel
theorem dX3_passDay_103 : decode cX3_passDay 103 = .ok (.ireturn, 1) := by decide +kernel
theorem dX3_lacking_0 : decode cX3_lacking 0 = .ok (.iconst 0, 1) := by decide +kernel
theorem dX3_lacking_1 : decode cX3_lacking 1 = .ok (.istore_n 2, 1) := by decide +kernel
theorem dX3_lacking_2 : decode cX3_lacking 2 = .ok (.iconst 0, 1) := by decide +kernel
theorem dX3_lacking_3 : decode cX3_lacking 3 = .ok (.istore_n 3, 1) := by decide +kernel
theorem dX3_lacking_4 : decode cX3_lacking 4 = .ok (.iload_n 3, 1) := by decide +kernel
theorem dX3_lacking_5 : decode cX3_lacking 5 = .ok (.aload_n 0, 1) := by decide +kernel
theorem dX3_lacking_6 : decode cX3_lacking 6 = .ok (.getfield 21, 3) := by decide +kernel
theorem dX3_lacking_9 : decode cX3_lacking 9 = .ok (.getfield 118, 3) := by decide +kernel
theorem dX3_lacking_12 : decode cX3_lacking 12 = .ok (.if_icmp .ge 98, 3) := by decide +kernel
theorem dX3_lacking_15 : decode cX3_lacking 15 = .ok (.iconst 0, 1) := by decide +kernel
theorem dX3_lacking_16 : decode cX3_lacking 16 = .ok (.istore 4, 2) := by decide +kernel
theorem dX3_lacking_18 : decode cX3_lacking 18 = .ok (.iconst 0, 1) := by decide +kernel
theorem dX3_lacking_19 : decode cX3_lacking 19 = .ok (.istore 5, 2) := by decide +kernel
theorem dX3_lacking_21 : decode cX3_lacking 21 = .ok (.iload 5, 2) := by decide +kernel
theorem dX3_lacking_23 : decode cX3_lacking 23 = .ok (.aload_n 0, 1) := by decide +kernel
theorem dX3_lacking_24 : decode cX3_lacking 24 = .ok (.getfield 21, 3) := by decide +kernel
theorem dX3_lacking_27 : decode cX3_lacking 27 = .ok (.getfield 76, 3) := by decide +kernel
theorem dX3_lacking_30 : decode cX3_lacking 30 = .ok (.if_icmp .ge 57, 3) := by decide +kernel
theorem dX3_lacking_33 : decode cX3_lacking 33 = .ok (.iload_n 1, 1) := by decide +kernel
theorem dX3_lacking_34 : decode cX3_lacking 34 = .ok (.iload 5, 2) := by decide +kernel
theorem dX3_lacking_36 : decode cX3_lacking 36 = .ok (.ishr, 1) := by decide +kernel
theorem dX3_lacking_37 : decode cX3_lacking 37 = .ok (.iconst 1, 1) := by decide +kernel
theorem dX3_lacking_38 : decode cX3_lacking 38 = .ok (.iand, 1) := by decide +kernel
theorem dX3_lacking_39 : decode cX3_lacking 39 = .ok (.iconst 1, 1) := by decide +kernel
theorem dX3_lacking_40 : decode cX3_lacking 40 = .ok (.if_icmp .ne 41, 3) := by decide +kernel
theorem dX3_lacking_43 : decode cX3_lacking 43 = .ok (.aload_n 0, 1) := by decide +kernel
theorem dX3_lacking_44 : decode cX3_lacking 44 = .ok (.iload 5, 2) := by decide +kernel
theorem dX3_lacking_46 : decode cX3_lacking 46 = .ok (.invokevirtual 79, 3) := by decide +kernel
theorem dX3_lacking_49 : decode cX3_lacking 49 = .ok (.ifCond .ne 32, 3) := by decide +kernel
theorem dX3_lacking_52 : decode cX3_lacking 52 = .ok (.aload_n 0, 1) := by decide +kernel
theorem dX3_lacking_53 : decode cX3_lacking 53 = .ok (.getfield 21, 3) := by decide +kernel
theorem dX3_lacking_56 : decode cX3_lacking 56 = .ok (.getfield 82, 3) := by decide +kernel
theorem dX3_lacking_59 : decode cX3_lacking 59 = .ok (.iload 5, 2) := by decide +kernel
theorem dX3_lacking_61 : decode cX3_lacking 61 = .ok (.iaload, 1) := by decide +kernel
theorem dX3_lacking_62 : decode cX3_lacking 62 = .ok (.iload_n 3, 1) := by decide +kernel
theorem dX3_lacking_63 : decode cX3_lacking 63 = .ok (.if_icmp .ne 18, 3) := by decide +kernel
theorem dX3_lacking_66 : decode cX3_lacking 66 = .ok (.iload 4, 2) := by decide +kernel
theorem dX3_lacking_68 : decode cX3_lacking 68 = .ok (.aload_n 0, 1) := by decide +kernel
theorem dX3_lacking_69 : decode cX3_lacking 69 = .ok (.getfield 21, 3) := by decide +kernel
theorem dX3_lacking_72 : decode cX3_lacking 72 = .ok (.getfield 85, 3) := by decide +kernel
theorem dX3_lacking_75 : decode cX3_lacking 75 = .ok (.iload 5, 2) := by decide +kernel
theorem dX3_lacking_77 : decode cX3_lacking 77 = .ok (.iaload, 1) := by decide +kernel
theorem dX3_lacking_78 : decode cX3_lacking 78 = .ok (.iadd, 1) := by decide +kernel
theorem dX3_lacking_79 : decode cX3_lacking 79 = .ok (.istore 4, 2) := by decide +kernel
theorem dX3_lacking_81 : decode cX3_lacking 81 = .ok (.iinc 5 1, 3) := by decide +kernel
theorem dX3_lacking_84 : decode cX3_lacking 84 = .ok (.goto (-63), 3) := by decide +kernel
theorem dX3_lacking_87 : decode cX3_lacking 87 = .ok (.iload 4, 2) := by decide +kernel
theorem dX3_lacking_89 : decode cX3_lacking 89 = .ok (.aload_n 0, 1) := by decide +kernel
theorem dX3_lacking_90 : decode cX3_lacking 90 = .ok (.getfield 9, 3) := by decide +kernel
theorem dX3_lacking_93 : decode cX3_lacking 93 = .ok (.iload_n 3, 1) := by decide +kernel
theorem dX3_lacking_94 : decode cX3_lacking 94 = .ok (.iaload, 1) := by decide +kernel
theorem dX3_lacking_95 : decode cX3_lacking 95 = .ok (.if_icmp .le 9, 3) := by decide +kernel
theorem dX3_lacking_98 : decode cX3_lacking 98 = .ok (.iload_n 2, 1) := by decide +kernel
theorem dX3_lacking_99 : decode cX3_lacking 99 = .ok (.iconst 1, 1) := by decide +kernel
theorem dX3_lacking_100 : decode cX3_lacking 100 = .ok (.iload_n 3, 1) := by decide +kernel
theorem dX3_lacking_101 : decode cX3_lacking 101 = .ok (.ishl, 1) := by decide +kernel
theorem dX3_lacking_102 : decode cX3_lacking 102 = .ok (.ior, 1) := by decide +kernel
theorem dX3_lacking_103 : decode cX3_lacking 103 = .ok (.istore_n 2, 1) := by decide +kernel
theorem dX3_lacking_104 : decode cX3_lacking 104 = .ok (.iinc 3 1, 3) := by decide +kernel
theorem dX3_lacking_107 : decode cX3_lacking 107 = .ok (.goto (-103), 3) := by decide +kernel
theorem dX3_lacking_110 : decode cX3_lacking 110 = .ok (.iload_n 2, 1) := by decide +kernel
theorem dX3_lacking_111 : decode cX3_lacking 111 = .ok (.ireturn, 1) := by decide +kernel
theorem dX4_init_0 : decode cX4_init 0 = .ok (.aload_n 0, 1) := by decide +kernel
theorem dX4_init_1 : decode cX4_init 1 = .ok (.invokespecial 3, 3) := by decide +kernel
theorem dX4_init_4 : decode cX4_init 4 = .ok (.aload_n 0, 1) := by decide +kernel
theorem dX4_init_5 : decode cX4_init 5 = .ok (.bipush 64, 2) := by decide +kernel
theorem dX4_init_7 : decode cX4_init 7 = .ok (.newarray .int, 2) := by decide +kernel
theorem dX4_init_9 : decode cX4_init 9 = .ok (.putfield 11, 3) := by decide +kernel
theorem dX4_init_12 : decode cX4_init 12 = .ok (.aload_n 0, 1) := by decide +kernel
theorem dX4_init_13 : decode cX4_init 13 = .ok (.iconst 5, 1) := by decide +kernel
theorem dX4_init_14 : decode cX4_init 14 = .ok (.newarray .int, 2) := by decide +kernel
theorem dX4_init_16 : decode cX4_init 16 = .ok (.putfield 15, 3) := by decide +kernel
theorem dX4_init_19 : decode cX4_init 19 = .ok (.return_, 1) := by decide +kernel
theorem dX4_append_0 : decode cX4_append 0 = .ok (.aload_n 0, 1) := by decide +kernel
theorem dX4_append_1 : decode cX4_append 1 = .ok (.getfield 18, 3) := by decide +kernel
theorem dX4_append_4 : decode cX4_append 4 = .ok (.bipush 64, 2) := by decide +kernel
theorem dX4_append_6 : decode cX4_append 6 = .ok (.if_icmp .lt 5, 3) := by decide +kernel
theorem dX4_append_9 : decode cX4_append 9 = .ok (.iconst 0, 1) := by decide +kernel
theorem dX4_append_10 : decode cX4_append 10 = .ok (.ireturn, 1) := by decide +kernel
theorem dX4_append_11 : decode cX4_append 11 = .ok (.aload_n 0, 1) := by decide +kernel
theorem dX4_append_12 : decode cX4_append 12 = .ok (.getfield 11, 3) := by decide +kernel
theorem dX4_append_15 : decode cX4_append 15 = .ok (.aload_n 0, 1) := by decide +kernel
theorem dX4_append_16 : decode cX4_append 16 = .ok (.getfield 18, 3) := by decide +kernel
theorem dX4_append_19 : decode cX4_append 19 = .ok (.iload_n 1, 1) := by decide +kernel
theorem dX4_append_20 : decode cX4_append 20 = .ok (.iastore, 1) := by decide +kernel
theorem dX4_append_21 : decode cX4_append 21 = .ok (.aload_n 0, 1) := by decide +kernel
theorem dX4_append_22 : decode cX4_append 22 = .ok (.dup, 1) := by decide +kernel
theorem dX4_append_23 : decode cX4_append 23 = .ok (.getfield 18, 3) := by decide +kernel
theorem dX4_append_26 : decode cX4_append 26 = .ok (.iconst 1, 1) := by decide +kernel
theorem dX4_append_27 : decode cX4_append 27 = .ok (.iadd, 1) := by decide +kernel
theorem dX4_append_28 : decode cX4_append 28 = .ok (.putfield 18, 3) := by decide +kernel
theorem dX4_append_31 : decode cX4_append 31 = .ok (.iconst 1, 1) := by decide +kernel
theorem dX4_append_32 : decode cX4_append 32 = .ok (.ireturn, 1) := by decide +kernel
theorem dX4_readInto_0 : decode cX4_readInto 0 = .ok (.aload_n 1, 1) := by decide +kernel
theorem dX4_readInto_1 : decode cX4_readInto 1 = .ok (.invokevirtual 22, 3) := by decide +kernel
theorem dX4_readInto_4 : decode cX4_readInto 4 = .ok (.iconst 0, 1) := by decide +kernel
theorem dX4_readInto_5 : decode cX4_readInto 5 = .ok (.istore_n 2, 1) := by decide +kernel
theorem dX4_readInto_6 : decode cX4_readInto 6 = .ok (.iconst 0, 1) := by decide +kernel
theorem dX4_readInto_7 : decode cX4_readInto 7 = .ok (.istore_n 3, 1) := by decide +kernel
theorem dX4_readInto_8 : decode cX4_readInto 8 = .ok (.iconst 0, 1) := by decide +kernel
theorem dX4_readInto_9 : decode cX4_readInto 9 = .ok (.istore 4, 2) := by decide +kernel
theorem dX4_readInto_11 : decode cX4_readInto 11 = .ok (.iload 4, 2) := by decide +kernel
theorem dX4_readInto_13 : decode cX4_readInto 13 = .ok (.aload_n 0, 1) := by decide +kernel
theorem dX4_readInto_14 : decode cX4_readInto 14 = .ok (.getfield 18, 3) := by decide +kernel
theorem dX4_readInto_17 : decode cX4_readInto 17 = .ok (.if_icmp .ge 134, 3) := by decide +kernel
theorem dX4_readInto_20 : decode cX4_readInto 20 = .ok (.iload 4, 2) := by decide +kernel
theorem dX4_readInto_22 : decode cX4_readInto 22 = .ok (.ifCond .ne 18, 3) := by decide +kernel
theorem dX4_readInto_25 : decode cX4_readInto 25 = .ok (.aload_n 0, 1) := by decide +kernel
theorem dX4_readInto_26 : decode cX4_readInto 26 = .ok (.getfield 11, 3) := by decide +kernel
theorem dX4_readInto_29 : decode cX4_readInto 29 = .ok (.iload 4, 2) := by decide +kernel
theorem dX4_readInto_31 : decode cX4_readInto 31 = .ok (.iaload, 1) := by decide +kernel
theorem dX4_readInto_32 : decode cX4_readInto 32 = .ok (.bipush 69, 2) := by decide +kernel
theorem dX4_readInto_34 : decode cX4_readInto 34 = .ok (.if_icmp .eq 111, 3) := by decide +kernel
theorem dX4_readInto_37 : decode cX4_readInto 37 = .ok (.iload 4, 2) := by decide +kernel
theorem dX4_readInto_39 : decode cX4_readInto 39 = .ok (.ireturn, 1) := by decide +kernel
theorem dX4_readInto_40 : decode cX4_readInto 40 = .ok (.iload_n 2, 1) := by decide +kernel
theorem dX4_readInto_41 : decode cX4_readInto 41 = .ok (.ifCond .ne 33, 3) := by decide +kernel
theorem dX4_readInto_44 : decode cX4_readInto 44 = .ok (.aload_n 1, 1) := by decide +kernel
theorem dX4_readInto_45 : decode cX4_readInto 45 = .ok (.aload_n 0, 1) := by decide +kernel
theorem dX4_readInto_46 : decode cX4_readInto 46 = .ok (.getfield 11, 3) := by decide +kernel
theorem dX4_readInto_49 : decode cX4_readInto 49 = .ok (.iload 4, 2) := by decide +kernel
theorem dX4_readInto_51 : decode cX4_readInto 51 = .ok (.iaload, 1) := by decide +kernel
theorem dX4_readInto_52 : decode cX4_readInto 52 = .ok (.invokevirtual 27, 3) := by decide +kernel
theorem dX4_readInto_55 : decode cX4_readInto 55 = .ok (.ifCond .ne 6, 3) := by decide +kernel
theorem dX4_readInto_58 : decode cX4_readInto 58 = .ok (.iload 4, 2) := by decide +kernel
theorem dX4_readInto_60 : decode cX4_readInto 60 = .ok (.ireturn, 1) := by decide +kernel
theorem dX4_readInto_61 : decode cX4_readInto 61 = .ok (.aload_n 0, 1) := by decide +kernel
theorem dX4_readInto_62 : decode cX4_readInto 62 = .ok (.getfield 11, 3) := by decide +kernel
theorem dX4_readInto_65 : decode cX4_readInto 65 = .ok (.iload 4, 2) := by decide +kernel
theorem dX4_readInto_67 : decode cX4_readInto 67 = .ok (.iaload, 1) := by decide +kernel
theorem dX4_readInto_68 : decode cX4_readInto 68 = .ok (.istore_n 2, 1) := by decide +kernel
theorem dX4_readInto_69 : decode cX4_readInto 69 = .ok (.iconst 0, 1) := by decide +kernel
theorem dX4_readInto_70 : decode cX4_readInto 70 = .ok (.istore_n 3, 1) := by decide +kernel
theorem dX4_readInto_71 : decode cX4_readInto 71 = .ok (.goto 74, 3) := by decide +kernel
theorem dX4_readInto_74 : decode cX4_readInto 74 = .ok (.aload_n 0, 1) := by decide +kernel
theorem dX4_readInto_75 : decode cX4_readInto 75 = .ok (.getfield 11, 3) := by decide +kernel
theorem dX4_readInto_78 : decode cX4_readInto 78 = .ok (.iload 4, 2) := by decide +kernel
theorem dX4_readInto_80 : decode cX4_readInto 80 = .ok (.iaload, 1) := by decide +kernel
theorem dX4_readInto_81 : decode cX4_readInto 81 = .ok (.bipush 48, 2) := by decide +kernel
theorem dX4_readInto_83 : decode cX4_readInto 83 = .ok (.isub, 1) := by decide +kernel
theorem dX4_readInto_84 : decode cX4_readInto 84 = .ok (.istore 5, 2) := by decide +kernel
theorem dX4_readInto_86 : decode cX4_readInto 86 = .ok (.iload_n 3, 1) := by decide +kernel
theorem dX4_readInto_87 : decode cX4_readInto 87 = .ok (.iconst 5, 1) := by decide +kernel
theorem dX4_readInto_88 : decode cX4_readInto 88 = .ok (.if_icmp .ge 24, 3) := by decide +kernel
theorem dX4_readInto_91 : decode cX4_readInto 91 = .ok (.iload 5, 2) := by decide +kernel
theorem dX4_readInto_93 : decode cX4_readInto 93 = .ok (.iload_n 2, 1) := by decide +kernel
theorem dX4_readInto_94 : decode cX4_readInto 94 = .ok (.iload_n 3, 1) := by decide +kernel
theorem dX4_readInto_95 : decode cX4_readInto 95 = .ok (.invokestatic 31, 3) := by decide +kernel
theorem dX4_readInto_98 : decode cX4_readInto 98 = .ok (.if_icmp .lt 14, 3) := by decide +kernel
theorem dX4_readInto_101 : decode cX4_readInto 101 = .ok (.iload 5, 2) := by decide +kernel
theorem dX4_readInto_103 : decode cX4_readInto 103 = .ok (.aload_n 1, 1) := by decide +kernel
theorem dX4_readInto_104 : decode cX4_readInto 104 = .ok (.iload_n 2, 1) := by decide +kernel
theorem dX4_readInto_105 : decode cX4_readInto 105 = .ok (.iload_n 3, 1) := by decide +kernel
theorem dX4_readInto_106 : decode cX4_readInto 106 = .ok (.invokevirtual 35, 3) := by decide +kernel
theorem dX4_readInto_109 : decode cX4_readInto 109 = .ok (.if_icmp .le 6, 3) := by decide +kernel
theorem dX4_readInto_112 : decode cX4_readInto 112 = .ok (.iload 4, 2) := by decide +kernel
theorem dX4_readInto_114 : decode cX4_readInto 114 = .ok (.ireturn, 1) := by decide +kernel
theorem dX4_readInto_115 : decode cX4_readInto 115 = .ok (.aload_n 0, 1) := by decide +kernel
theorem dX4_readInto_116 : decode cX4_readInto 116 = .ok (.getfield 15, 3) := by decide +kernel
theorem dX4_readInto_119 : decode cX4_readInto 119 = .ok (.iload_n 3, 1) := by decide +kernel
theorem dX4_readInto_120 : decode cX4_readInto 120 = .ok (.iload 5, 2) := by decide +kernel
theorem dX4_readInto_122 : decode cX4_readInto 122 = .ok (.iastore, 1) := by decide +kernel
theorem dX4_readInto_123 : decode cX4_readInto 123 = .ok (.iinc 3 1, 3) := by decide +kernel
theorem dX4_readInto_126 : decode cX4_readInto 126 = .ok (.iload_n 3, 1) := by decide +kernel
theorem dX4_readInto_127 : decode cX4_readInto 127 = .ok (.iload_n 2, 1) := by decide +kernel
theorem dX4_readInto_128 : decode cX4_readInto 128 = .ok (.invokestatic 38, 3) := by decide +kernel
theorem dX4_readInto_131 : decode cX4_readInto 131 = .ok (.if_icmp .ne 14, 3) := by decide +kernel
theorem dX4_readInto_134 : decode cX4_readInto 134 = .ok (.aload_n 1, 1) := by decide +kernel
theorem dX4_readInto_135 : decode cX4_readInto 135 = .ok (.iload_n 2, 1) := by decide +kernel
theorem dX4_readInto_136 : decode cX4_readInto 136 = .ok (.aload_n 0, 1) := by decide +kernel
theorem dX4_readInto_137 : decode cX4_readInto 137 = .ok (.getfield 15, 3) := by decide +kernel
theorem dX4_readInto_140 : decode cX4_readInto 140 = .ok (.invokevirtual 42, 3) := by decide +kernel
theorem dX4_readInto_143 : decode cX4_readInto 143 = .ok (.iconst 0, 1) := by decide +kernel
theorem dX4_readInto_144 : decode cX4_readInto 144 = .ok (.istore_n 2, 1) := by decide +kernel
theorem dX4_readInto_145 : decode cX4_readInto 145 = .ok (.iinc 4 1, 3) := by decide +kernel
theorem dX4_readInto_148 : decode cX4_readInto 148 = .ok (.goto (-137), 3) := by decide +kernel
theorem dX4_readInto_151 : decode cX4_readInto 151 = .ok (.aload_n 0, 1) := by decide +kernel
theorem dX4_readInto_152 : decode cX4_readInto 152 = .ok (.getfield 18, 3) := by decide +kernel
theorem dX4_readInto_155 : decode cX4_readInto 155 = .ok (.ifCond .eq 7, 3) := by decide +kernel
theorem dX4_readInto_158 : decode cX4_readInto 158 = .ok (.iload_n 2, 1) := by decide +kernel
theorem dX4_readInto_159 : decode cX4_readInto 159 = .ok (.ifCond .eq 10, 3) := by decide +kernel
theorem dX4_readInto_162 : decode cX4_readInto 162 = .ok (.aload_n 0, 1) := by decide +kernel
theorem dX4_readInto_163 : decode cX4_readInto 163 = .ok (.getfield 18, 3) := by decide +kernel
theorem dX4_readInto_166 : decode cX4_readInto 166 = .ok (.goto 5, 3) := by decide +kernel
theorem dX4_readInto_169 : decode cX4_readInto 169 = .ok (.bipush (-9), 2) := by decide +kernel
theorem dX4_readInto_171 : decode cX4_readInto 171 = .ok (.ireturn, 1) := by decide +kernel
theorem dX5_init_0 : decode cX5_init 0 = .ok (.aload_n 0, 1) := by decide +kernel
theorem dX5_init_1 : decode cX5_init 1 = .ok (.invokespecial 3, 3) := by decide +kernel
theorem dX5_init_4 : decode cX5_init 4 = .ok (.aload_n 0, 1) := by decide +kernel
theorem dX5_init_5 : decode cX5_init 5 = .ok (.sipush 1296, 3) := by decide +kernel
theorem dX5_init_8 : decode cX5_init 8 = .ok (.newarray .int, 2) := by decide +kernel
theorem dX5_init_10 : decode cX5_init 10 = .ok (.putfield 11, 3) := by decide +kernel
theorem dX5_init_13 : decode cX5_init 13 = .ok (.aload_n 0, 1) := by decide +kernel
theorem dX5_init_14 : decode cX5_init 14 = .ok (.iconst 4, 1) := by decide +kernel
theorem dX5_init_15 : decode cX5_init 15 = .ok (.newarray .int, 2) := by decide +kernel
theorem dX5_init_17 : decode cX5_init 17 = .ok (.putfield 15, 3) := by decide +kernel
theorem dX5_init_20 : decode cX5_init 20 = .ok (.aload_n 0, 1) := by decide +kernel
theorem dX5_init_21 : decode cX5_init 21 = .ok (.iconst 4, 1) := by decide +kernel
theorem dX5_init_22 : decode cX5_init 22 = .ok (.newarray .int, 2) := by decide +kernel
theorem dX5_init_24 : decode cX5_init 24 = .ok (.putfield 18, 3) := by decide +kernel
theorem dX5_init_27 : decode cX5_init 27 = .ok (.aload_n 0, 1) := by decide +kernel
theorem dX5_init_28 : decode cX5_init 28 = .ok (.iconst 4, 1) := by decide +kernel
theorem dX5_init_29 : decode cX5_init 29 = .ok (.newarray .int, 2) := by decide +kernel
theorem dX5_init_31 : decode cX5_init 31 = .ok (.putfield 21, 3) := by decide +kernel
theorem dX5_init_34 : decode cX5_init 34 = .ok (.aload_n 0, 1) := by decide +kernel
theorem dX5_init_35 : decode cX5_init 35 = .ok (.aload_n 1, 1) := by decide +kernel
theorem dX5_init_36 : decode cX5_init 36 = .ok (.putfield 24, 3) := by decide +kernel
theorem dX5_init_39 : decode cX5_init 39 = .ok (.aload_n 0, 1) := by decide +kernel
theorem dX5_init_40 : decode cX5_init 40 = .ok (.aload_n 2, 1) := by decide +kernel
theorem dX5_init_41 : decode cX5_init 41 = .ok (.putfield 28, 3) := by decide +kernel
theorem dX5_init_44 : decode cX5_init 44 = .ok (.return_, 1) := by decide +kernel
theorem dX5_grow_0 : decode cX5_grow 0 = .ok (.aload_n 0, 1) := by decide +kernel
theorem dX5_grow_1 : decode cX5_grow 1 = .ok (.iload_n 1, 1) := by decide +kernel
theorem dX5_grow_2 : decode cX5_grow 2 = .ok (.putfield 32, 3) := by decide +kernel
theorem dX5_grow_5 : decode cX5_grow 5 = .ok (.aload_n 0, 1) := by decide +kernel
theorem dX5_grow_6 : decode cX5_grow 6 = .ok (.iload_n 2, 1) := by decide +kernel
theorem dX5_grow_7 : decode cX5_grow 7 = .ok (.putfield 36, 3) := by decide +kernel
theorem dX5_grow_10 : decode cX5_grow 10 = .ok (.iconst 1, 1) := by decide +kernel
theorem dX5_grow_11 : decode cX5_grow 11 = .ok (.aload_n 0, 1) := by decide +kernel
theorem dX5_grow_12 : decode cX5_grow 12 = .ok (.getfield 24, 3) := by decide +kernel
theorem dX5_grow_15 : decode cX5_grow 15 = .ok (.getfield 40, 3) := by decide +kernel
theorem dX5_grow_18 : decode cX5_grow 18 = .ok (.ishl, 1) := by decide +kernel
theorem dX5_grow_19 : decode cX5_grow 19 = .ok (.iconst 1, 1) := by decide +kernel
theorem dX5_grow_20 : decode cX5_grow 20 = .ok (.isub, 1) := by decide +kernel
theorem dX5_grow_21 : decode cX5_grow 21 = .ok (.istore_n 3, 1) := by decide +kernel
theorem dX5_grow_22 : decode cX5_grow 22 = .ok (.iload_n 3, 1) := by decide +kernel
theorem dX5_grow_23 : decode cX5_grow 23 = .ok (.aload_n 0, 1) := by decide +kernel
theorem dX5_grow_24 : decode cX5_grow 24 = .ok (.getfield 28, 3) := by decide +kernel
theorem dX5_grow_27 : decode cX5_grow 27 = .ok (.getfield 45, 3) := by decide +kernel
theorem dX5_grow_30 : decode cX5_grow 30 = .ok (.if_icmp .lt 39, 3) := by decide +kernel
theorem dX5_grow_33 : decode cX5_grow 33 = .ok (.iload_n 3, 1) := by decide +kernel
theorem dX5_grow_34 : decode cX5_grow 34 = .ok (.aload_n 0, 1) := by decide +kernel
theorem dX5_grow_35 : decode cX5_grow 35 = .ok (.getfield 28, 3) := by decide +kernel
theorem dX5_grow_38 : decode cX5_grow 38 = .ok (.getfield 45, 3) := by decide +kernel
theorem dX5_grow_41 : decode cX5_grow 41 = .ok (.iand, 1) := by decide +kernel
theorem dX5_grow_42 : decode cX5_grow 42 = .ok (.aload_n 0, 1) := by decide +kernel
theorem dX5_grow_43 : decode cX5_grow 43 = .ok (.getfield 28, 3) := by decide +kernel
theorem dX5_grow_46 : decode cX5_grow 46 = .ok (.getfield 45, 3) := by decide +kernel
