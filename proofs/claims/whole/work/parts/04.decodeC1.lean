theorem dX0_init_0 : decode cX0_init 0 = .ok (.aload_n 0, 1) := by decide +kernel
theorem dX0_init_1 : decode cX0_init 1 = .ok (.invokespecial 3, 3) := by decide +kernel
theorem dX0_init_4 : decode cX0_init 4 = .ok (.aload_n 0, 1) := by decide +kernel
theorem dX0_init_5 : decode cX0_init 5 = .ok (.new 9, 3) := by decide +kernel
theorem dX0_init_8 : decode cX0_init 8 = .ok (.dup, 1) := by decide +kernel
theorem dX0_init_9 : decode cX0_init 9 = .ok (.invokespecial 11, 3) := by decide +kernel
theorem dX0_init_12 : decode cX0_init 12 = .ok (.putfield 12, 3) := by decide +kernel
theorem dX0_init_15 : decode cX0_init 15 = .ok (.aload_n 0, 1) := by decide +kernel
theorem dX0_init_16 : decode cX0_init 16 = .ok (.new 18, 3) := by decide +kernel
theorem dX0_init_19 : decode cX0_init 19 = .ok (.dup, 1) := by decide +kernel
theorem dX0_init_20 : decode cX0_init 20 = .ok (.invokespecial 20, 3) := by decide +kernel
theorem dX0_init_23 : decode cX0_init 23 = .ok (.putfield 21, 3) := by decide +kernel
theorem dX0_init_26 : decode cX0_init 26 = .ok (.aload_n 0, 1) := by decide +kernel
theorem dX0_init_27 : decode cX0_init 27 = .ok (.bipush 8, 2) := by decide +kernel
theorem dX0_init_29 : decode cX0_init 29 = .ok (.newarray .int, 2) := by decide +kernel
theorem dX0_init_31 : decode cX0_init 31 = .ok (.putfield 25, 3) := by decide +kernel
theorem dX0_init_34 : decode cX0_init 34 = .ok (.aload_n 0, 1) := by decide +kernel
theorem dX0_init_35 : decode cX0_init 35 = .ok (.iconst 0, 1) := by decide +kernel
theorem dX0_init_36 : decode cX0_init 36 = .ok (.putfield 29, 3) := by decide +kernel
theorem dX0_init_39 : decode cX0_init 39 = .ok (.aload_n 0, 1) := by decide +kernel
theorem dX0_init_40 : decode cX0_init 40 = .ok (.iconst 3, 1) := by decide +kernel
theorem dX0_init_41 : decode cX0_init 41 = .ok (.newarray .int, 2) := by decide +kernel
theorem dX0_init_43 : decode cX0_init 43 = .ok (.putfield 33, 3) := by decide +kernel
theorem dX0_init_46 : decode cX0_init 46 = .ok (.return_, 1) := by decide +kernel
theorem dX0_copyFrom_0 : decode cX0_copyFrom 0 = .ok (.aload_n 0, 1) := by decide +kernel
theorem dX0_copyFrom_1 : decode cX0_copyFrom 1 = .ok (.getfield 12, 3) := by decide +kernel
theorem dX0_copyFrom_4 : decode cX0_copyFrom 4 = .ok (.aload_n 1, 1) := by decide +kernel
theorem dX0_copyFrom_5 : decode cX0_copyFrom 5 = .ok (.getfield 12, 3) := by decide +kernel
theorem dX0_copyFrom_8 : decode cX0_copyFrom 8 = .ok (.invokevirtual 36, 3) := by decide +kernel
theorem dX0_copyFrom_11 : decode cX0_copyFrom 11 = .ok (.aload_n 0, 1) := by decide +kernel
theorem dX0_copyFrom_12 : decode cX0_copyFrom 12 = .ok (.getfield 21, 3) := by decide +kernel
theorem dX0_copyFrom_15 : decode cX0_copyFrom 15 = .ok (.aload_n 1, 1) := by decide +kernel
theorem dX0_copyFrom_16 : decode cX0_copyFrom 16 = .ok (.getfield 21, 3) := by decide +kernel
theorem dX0_copyFrom_19 : decode cX0_copyFrom 19 = .ok (.invokevirtual 40, 3) := by decide +kernel
theorem dX0_copyFrom_22 : decode cX0_copyFrom 22 = .ok (.aload_n 1, 1) := by decide +kernel
theorem dX0_copyFrom_23 : decode cX0_copyFrom 23 = .ok (.getfield 25, 3) := by decide +kernel
theorem dX0_copyFrom_26 : decode cX0_copyFrom 26 = .ok (.iconst 0, 1) := by decide +kernel
theorem dX0_copyFrom_27 : decode cX0_copyFrom 27 = .ok (.aload_n 0, 1) := by decide +kernel
theorem dX0_copyFrom_28 : decode cX0_copyFrom 28 = .ok (.getfield 25, 3) := by decide +kernel
theorem dX0_copyFrom_31 : decode cX0_copyFrom 31 = .ok (.iconst 0, 1) := by decide +kernel
theorem dX0_copyFrom_32 : decode cX0_copyFrom 32 = .ok (.bipush 8, 2) := by decide +kernel
theorem dX0_copyFrom_34 : decode cX0_copyFrom 34 = .ok (.invokestatic 43, 3) := by decide +kernel
theorem dX0_copyFrom_37 : decode cX0_copyFrom 37 = .ok (.aload_n 0, 1) := by decide +kernel
theorem dX0_copyFrom_38 : decode cX0_copyFrom 38 = .ok (.aload_n 1, 1) := by decide +kernel
theorem dX0_copyFrom_39 : decode cX0_copyFrom 39 = .ok (.getfield 29, 3) := by decide +kernel
theorem dX0_copyFrom_42 : decode cX0_copyFrom 42 = .ok (.putfield 29, 3) := by decide +kernel
theorem dX0_copyFrom_45 : decode cX0_copyFrom 45 = .ok (.aload_n 1, 1) := by decide +kernel
theorem dX0_copyFrom_46 : decode cX0_copyFrom 46 = .ok (.getfield 33, 3) := by decide +kernel
theorem dX0_copyFrom_49 : decode cX0_copyFrom 49 = .ok (.iconst 0, 1) := by decide +kernel
theorem dX0_copyFrom_50 : decode cX0_copyFrom 50 = .ok (.aload_n 0, 1) := by decide +kernel
theorem dX0_copyFrom_51 : decode cX0_copyFrom 51 = .ok (.getfield 33, 3) := by decide +kernel
theorem dX0_copyFrom_54 : decode cX0_copyFrom 54 = .ok (.iconst 0, 1) := by decide +kernel
theorem dX0_copyFrom_55 : decode cX0_copyFrom 55 = .ok (.iconst 3, 1) := by decide +kernel
theorem dX0_copyFrom_56 : decode cX0_copyFrom 56 = .ok (.invokestatic 43, 3) := by decide +kernel
theorem dX0_copyFrom_59 : decode cX0_copyFrom 59 = .ok (.return_, 1) := by decide +kernel
theorem dX0_renew_0 : decode cX0_renew 0 = .ok (.aload_n 0, 1) := by decide +kernel
theorem dX0_renew_1 : decode cX0_renew 1 = .ok (.getfield 12, 3) := by decide +kernel
theorem dX0_renew_4 : decode cX0_renew 4 = .ok (.aload_n 1, 1) := by decide +kernel
theorem dX0_renew_5 : decode cX0_renew 5 = .ok (.invokevirtual 36, 3) := by decide +kernel
theorem dX0_renew_8 : decode cX0_renew 8 = .ok (.aload_n 0, 1) := by decide +kernel
theorem dX0_renew_9 : decode cX0_renew 9 = .ok (.getfield 21, 3) := by decide +kernel
theorem dX0_renew_12 : decode cX0_renew 12 = .ok (.iconst 0, 1) := by decide +kernel
theorem dX0_renew_13 : decode cX0_renew 13 = .ok (.putfield 49, 3) := by decide +kernel
theorem dX0_renew_16 : decode cX0_renew 16 = .ok (.aload_n 0, 1) := by decide +kernel
theorem dX0_renew_17 : decode cX0_renew 17 = .ok (.iconst 0, 1) := by decide +kernel
theorem dX0_renew_18 : decode cX0_renew 18 = .ok (.putfield 29, 3) := by decide +kernel
theorem dX0_renew_21 : decode cX0_renew 21 = .ok (.return_, 1) := by decide +kernel
theorem dX1_init_0 : decode cX1_init 0 = .ok (.aload_n 0, 1) := by decide +kernel
theorem dX1_init_1 : decode cX1_init 1 = .ok (.invokespecial 3, 3) := by decide +kernel
theorem dX1_init_4 : decode cX1_init 4 = .ok (.aload_n 0, 1) := by decide +kernel
theorem dX1_init_5 : decode cX1_init 5 = .ok (.bipush 64, 2) := by decide +kernel
theorem dX1_init_7 : decode cX1_init 7 = .ok (.newarray .int, 2) := by decide +kernel
theorem dX1_init_9 : decode cX1_init 9 = .ok (.putfield 9, 3) := by decide +kernel
theorem dX1_init_12 : decode cX1_init 12 = .ok (.aload_n 0, 1) := by decide +kernel
theorem dX1_init_13 : decode cX1_init 13 = .ok (.bipush 96, 2) := by decide +kernel
theorem dX1_init_15 : decode cX1_init 15 = .ok (.newarray .int, 2) := by decide +kernel
theorem dX1_init_17 : decode cX1_init 17 = .ok (.putfield 15, 3) := by decide +kernel
theorem dX1_init_20 : decode cX1_init 20 = .ok (.aload_n 0, 1) := by decide +kernel
theorem dX1_init_21 : decode cX1_init 21 = .ok (.bipush 16, 2) := by decide +kernel
theorem dX1_init_23 : decode cX1_init 23 = .ok (.newarray .int, 2) := by decide +kernel
theorem dX1_init_25 : decode cX1_init 25 = .ok (.putfield 18, 3) := by decide +kernel
theorem dX1_init_28 : decode cX1_init 28 = .ok (.aload_n 0, 1) := by decide +kernel
theorem dX1_init_29 : decode cX1_init 29 = .ok (.bipush 16, 2) := by decide +kernel
theorem dX1_init_31 : decode cX1_init 31 = .ok (.newarray .int, 2) := by decide +kernel
theorem dX1_init_33 : decode cX1_init 33 = .ok (.putfield 21, 3) := by decide +kernel
theorem dX1_init_36 : decode cX1_init 36 = .ok (.return_, 1) := by decide +kernel
theorem dX1_copyFrom_0 : decode cX1_copyFrom 0 = .ok (.aload_n 1, 1) := by decide +kernel
theorem dX1_copyFrom_1 : decode cX1_copyFrom 1 = .ok (.getfield 9, 3) := by decide +kernel
theorem dX1_copyFrom_4 : decode cX1_copyFrom 4 = .ok (.iconst 0, 1) := by decide +kernel
theorem dX1_copyFrom_5 : decode cX1_copyFrom 5 = .ok (.aload_n 0, 1) := by decide +kernel
theorem dX1_copyFrom_6 : decode cX1_copyFrom 6 = .ok (.getfield 9, 3) := by decide +kernel
theorem dX1_copyFrom_9 : decode cX1_copyFrom 9 = .ok (.iconst 0, 1) := by decide +kernel
theorem dX1_copyFrom_10 : decode cX1_copyFrom 10 = .ok (.bipush 64, 2) := by decide +kernel
theorem dX1_copyFrom_12 : decode cX1_copyFrom 12 = .ok (.invokestatic 24, 3) := by decide +kernel
theorem dX1_copyFrom_15 : decode cX1_copyFrom 15 = .ok (.aload_n 1, 1) := by decide +kernel
theorem dX1_copyFrom_16 : decode cX1_copyFrom 16 = .ok (.getfield 15, 3) := by decide +kernel
theorem dX1_copyFrom_19 : decode cX1_copyFrom 19 = .ok (.iconst 0, 1) := by decide +kernel
theorem dX1_copyFrom_20 : decode cX1_copyFrom 20 = .ok (.aload_n 0, 1) := by decide +kernel
theorem dX1_copyFrom_21 : decode cX1_copyFrom 21 = .ok (.getfield 15, 3) := by decide +kernel
theorem dX1_copyFrom_24 : decode cX1_copyFrom 24 = .ok (.iconst 0, 1) := by decide +kernel
theorem dX1_copyFrom_25 : decode cX1_copyFrom 25 = .ok (.aload_n 0, 1) := by decide +kernel
theorem dX1_copyFrom_26 : decode cX1_copyFrom 26 = .ok (.getfield 15, 3) := by decide +kernel
theorem dX1_copyFrom_29 : decode cX1_copyFrom 29 = .ok (.arraylength, 1) := by decide +kernel
theorem dX1_copyFrom_30 : decode cX1_copyFrom 30 = .ok (.invokestatic 24, 3) := by decide +kernel
theorem dX1_copyFrom_33 : decode cX1_copyFrom 33 = .ok (.aload_n 1, 1) := by decide +kernel
theorem dX1_copyFrom_34 : decode cX1_copyFrom 34 = .ok (.getfield 18, 3) := by decide +kernel
theorem dX1_copyFrom_37 : decode cX1_copyFrom 37 = .ok (.iconst 0, 1) := by decide +kernel
theorem dX1_copyFrom_38 : decode cX1_copyFrom 38 = .ok (.aload_n 0, 1) := by decide +kernel
theorem dX1_copyFrom_39 : decode cX1_copyFrom 39 = .ok (.getfield 18, 3) := by decide +kernel
theorem dX1_copyFrom_42 : decode cX1_copyFrom 42 = .ok (.iconst 0, 1) := by decide +kernel
theorem dX1_copyFrom_43 : decode cX1_copyFrom 43 = .ok (.bipush 16, 2) := by decide +kernel
theorem dX1_copyFrom_45 : decode cX1_copyFrom 45 = .ok (.invokestatic 24, 3) := by decide +kernel
theorem dX1_copyFrom_48 : decode cX1_copyFrom 48 = .ok (.aload_n 1, 1) := by decide +kernel
theorem dX1_copyFrom_49 : decode cX1_copyFrom 49 = .ok (.getfield 21, 3) := by decide +kernel
theorem dX1_copyFrom_52 : decode cX1_copyFrom 52 = .ok (.iconst 0, 1) := by decide +kernel
theorem dX1_copyFrom_53 : decode cX1_copyFrom 53 = .ok (.aload_n 0, 1) := by decide +kernel
theorem dX1_copyFrom_54 : decode cX1_copyFrom 54 = .ok (.getfield 21, 3) := by decide +kernel
theorem dX1_copyFrom_57 : decode cX1_copyFrom 57 = .ok (.iconst 0, 1) := by decide +kernel
theorem dX1_copyFrom_58 : decode cX1_copyFrom 58 = .ok (.bipush 16, 2) := by decide +kernel
theorem dX1_copyFrom_60 : decode cX1_copyFrom 60 = .ok (.invokestatic 24, 3) := by decide +kernel
theorem dX1_copyFrom_63 : decode cX1_copyFrom 63 = .ok (.return_, 1) := by decide +kernel
theorem dX1_holdMedia_0 : decode cX1_holdMedia 0 = .ok (.aload_n 1, 1) := by decide +kernel
theorem dX1_holdMedia_1 : decode cX1_holdMedia 1 = .ok (.iconst 0, 1) := by decide +kernel
theorem dX1_holdMedia_2 : decode cX1_holdMedia 2 = .ok (.aload_n 0, 1) := by decide +kernel
theorem dX1_holdMedia_3 : decode cX1_holdMedia 3 = .ok (.getfield 9, 3) := by decide +kernel
theorem dX1_holdMedia_6 : decode cX1_holdMedia 6 = .ok (.iconst 0, 1) := by decide +kernel
theorem dX1_holdMedia_7 : decode cX1_holdMedia 7 = .ok (.bipush 64, 2) := by decide +kernel
theorem dX1_holdMedia_9 : decode cX1_holdMedia 9 = .ok (.invokestatic 24, 3) := by decide +kernel
theorem dX1_holdMedia_12 : decode cX1_holdMedia 12 = .ok (.aload_n 0, 1) := by decide +kernel
theorem dX1_holdMedia_13 : decode cX1_holdMedia 13 = .ok (.getfield 18, 3) := by decide +kernel
theorem dX1_holdMedia_16 : decode cX1_holdMedia 16 = .ok (.iconst 0, 1) := by decide +kernel
theorem dX1_holdMedia_17 : decode cX1_holdMedia 17 = .ok (.invokestatic 30, 3) := by decide +kernel
theorem dX1_holdMedia_20 : decode cX1_holdMedia 20 = .ok (.aload_n 0, 1) := by decide +kernel
theorem dX1_holdMedia_21 : decode cX1_holdMedia 21 = .ok (.getfield 21, 3) := by decide +kernel
theorem dX1_holdMedia_24 : decode cX1_holdMedia 24 = .ok (.iconst 0, 1) := by decide +kernel
theorem dX1_holdMedia_25 : decode cX1_holdMedia 25 = .ok (.invokestatic 30, 3) := by decide +kernel
theorem dX1_holdMedia_28 : decode cX1_holdMedia 28 = .ok (.return_, 1) := by decide +kernel
theorem dX1_put_0 : decode cX1_put 0 = .ok (.iload_n 1, 1) := by decide +kernel
theorem dX1_put_1 : decode cX1_put 1 = .ok (.iconst 4, 1) := by decide +kernel
theorem dX1_put_2 : decode cX1_put 2 = .ok (.idiv, 1) := by decide +kernel
theorem dX1_put_3 : decode cX1_put 3 = .ok (.istore_n 3, 1) := by decide +kernel
theorem dX1_put_4 : decode cX1_put 4 = .ok (.aload_n 0, 1) := by decide +kernel
theorem dX1_put_5 : decode cX1_put 5 = .ok (.getfield 18, 3) := by decide +kernel
theorem dX1_put_8 : decode cX1_put 8 = .ok (.iload_n 3, 1) := by decide +kernel
theorem dX1_put_9 : decode cX1_put 9 = .ok (.iaload, 1) := by decide +kernel
theorem dX1_put_10 : decode cX1_put 10 = .ok (.bipush 6, 2) := by decide +kernel
theorem dX1_put_12 : decode cX1_put 12 = .ok (.if_icmp .ne 9, 3) := by decide +kernel
theorem dX1_put_15 : decode cX1_put 15 = .ok (.aload_n 0, 1) := by decide +kernel
theorem dX1_put_16 : decode cX1_put 16 = .ok (.iload_n 3, 1) := by decide +kernel
theorem dX1_put_17 : decode cX1_put 17 = .ok (.iconst 1, 1) := by decide +kernel
theorem dX1_put_18 : decode cX1_put 18 = .ok (.invokevirtual 36, 3) := by decide +kernel
theorem dX1_put_21 : decode cX1_put 21 = .ok (.aload_n 0, 1) := by decide +kernel
theorem dX1_put_22 : decode cX1_put 22 = .ok (.getfield 15, 3) := by decide +kernel
theorem dX1_put_25 : decode cX1_put 25 = .ok (.iload_n 3, 1) := by decide +kernel
theorem dX1_put_26 : decode cX1_put 26 = .ok (.bipush 6, 2) := by decide +kernel
theorem dX1_put_28 : decode cX1_put 28 = .ok (.imul, 1) := by decide +kernel
theorem dX1_put_29 : decode cX1_put 29 = .ok (.aload_n 0, 1) := by decide +kernel
theorem dX1_put_30 : decode cX1_put 30 = .ok (.getfield 18, 3) := by decide +kernel
theorem dX1_put_33 : decode cX1_put 33 = .ok (.iload_n 3, 1) := by decide +kernel
theorem dX1_put_34 : decode cX1_put 34 = .ok (.iaload, 1) := by decide +kernel
theorem dX1_put_35 : decode cX1_put 35 = .ok (.iadd, 1) := by decide +kernel
theorem dX1_put_36 : decode cX1_put 36 = .ok (.iload_n 1, 1) := by decide +kernel
theorem dX1_put_37 : decode cX1_put 37 = .ok (.bipush 100, 2) := by decide +kernel
theorem dX1_put_39 : decode cX1_put 39 = .ok (.imul, 1) := by decide +kernel
theorem dX1_put_40 : decode cX1_put 40 = .ok (.iload_n 2, 1) := by decide +kernel
theorem dX1_put_41 : decode cX1_put 41 = .ok (.iadd, 1) := by decide +kernel
theorem dX1_put_42 : decode cX1_put 42 = .ok (.iastore, 1) := by decide +kernel
theorem dX1_put_43 : decode cX1_put 43 = .ok (.aload_n 0, 1) := by decide +kernel
theorem dX1_put_44 : decode cX1_put 44 = .ok (.getfield 18, 3) := by decide +kernel
theorem dX1_put_47 : decode cX1_put 47 = .ok (.iload_n 3, 1) := by decide +kernel
theorem dX1_put_48 : decode cX1_put 48 = .ok (.dup2, 1) := by decide +kernel
theorem dX1_put_49 : decode cX1_put 49 = .ok (.iaload, 1) := by decide +kernel
theorem dX1_put_50 : decode cX1_put 50 = .ok (.iconst 1, 1) := by decide +kernel
theorem dX1_put_51 : decode cX1_put 51 = .ok (.iadd, 1) := by decide +kernel
theorem dX1_put_52 : decode cX1_put 52 = .ok (.iastore, 1) := by decide +kernel
theorem dX1_put_53 : decode cX1_put 53 = .ok (.return_, 1) := by decide +kernel
theorem dX1_ask_0 : decode cX1_ask 0 = .ok (.aload_n 0, 1) := by decide +kernel
theorem dX1_ask_1 : decode cX1_ask 1 = .ok (.getfield 21, 3) := by decide +kernel
theorem dX1_ask_4 : decode cX1_ask 4 = .ok (.iload_n 1, 1) := by decide +kernel
theorem dX1_ask_5 : decode cX1_ask 5 = .ok (.aload_n 0, 1) := by decide +kernel
theorem dX1_ask_6 : decode cX1_ask 6 = .ok (.getfield 18, 3) := by decide +kernel
theorem dX1_ask_9 : decode cX1_ask 9 = .ok (.iload_n 1, 1) := by decide +kernel
theorem dX1_ask_10 : decode cX1_ask 10 = .ok (.iaload, 1) := by decide +kernel
theorem dX1_ask_11 : decode cX1_ask 11 = .ok (.iastore, 1) := by decide +kernel
theorem dX1_ask_12 : decode cX1_ask 12 = .ok (.return_, 1) := by decide +kernel
theorem dX1_await_0 : decode cX1_await 0 = .ok (.iconst 0, 1) := by decide +kernel
theorem dX1_await_1 : decode cX1_await 1 = .ok (.istore_n 1, 1) := by decide +kernel
theorem dX1_await_2 : decode cX1_await 2 = .ok (.iload_n 1, 1) := by decide +kernel
theorem dX1_await_3 : decode cX1_await 3 = .ok (.bipush 16, 2) := by decide +kernel
theorem dX1_await_5 : decode cX1_await 5 = .ok (.if_icmp .ge 20, 3) := by decide +kernel
theorem dX1_await_8 : decode cX1_await 8 = .ok (.aload_n 0, 1) := by decide +kernel
theorem dX1_await_9 : decode cX1_await 9 = .ok (.iload_n 1, 1) := by decide +kernel
theorem dX1_await_10 : decode cX1_await 10 = .ok (.aload_n 0, 1) := by decide +kernel
theorem dX1_await_11 : decode cX1_await 11 = .ok (.getfield 21, 3) := by decide +kernel
theorem dX1_await_14 : decode cX1_await 14 = .ok (.iload_n 1, 1) := by decide +kernel
theorem dX1_await_15 : decode cX1_await 15 = .ok (.iaload, 1) := by decide +kernel
theorem dX1_await_16 : decode cX1_await 16 = .ok (.invokevirtual 36, 3) := by decide +kernel
theorem dX1_await_19 : decode cX1_await 19 = .ok (.iinc 1 1, 3) := by decide +kernel
theorem dX1_await_22 : decode cX1_await 22 = .ok (.goto (-20), 3) := by decide +kernel
theorem dX1_await_25 : decode cX1_await 25 = .ok (.return_, 1) := by decide +kernel
theorem dX1_reach_0 : decode cX1_reach 0 = .ok (.iload_n 1, 1) := by decide +kernel
theorem dX1_reach_1 : decode cX1_reach 1 = .ok (.bipush 6, 2) := by decide +kernel
theorem dX1_reach_3 : decode cX1_reach 3 = .ok (.imul, 1) := by decide +kernel
theorem dX1_reach_4 : decode cX1_reach 4 = .ok (.istore_n 3, 1) := by decide +kernel
theorem dX1_reach_5 : decode cX1_reach 5 = .ok (.iload_n 3, 1) := by decide +kernel
theorem dX1_reach_6 : decode cX1_reach 6 = .ok (.istore 4, 2) := by decide +kernel
theorem dX1_reach_8 : decode cX1_reach 8 = .ok (.iload 4, 2) := by decide +kernel
theorem dX1_reach_10 : decode cX1_reach 10 = .ok (.iload_n 3, 1) := by decide +kernel
theorem dX1_reach_11 : decode cX1_reach 11 = .ok (.iload_n 2, 1) := by decide +kernel
theorem dX1_reach_12 : decode cX1_reach 12 = .ok (.iadd, 1) := by decide +kernel
theorem dX1_reach_13 : decode cX1_reach 13 = .ok (.if_icmp .ge 34, 3) := by decide +kernel
theorem dX1_reach_16 : decode cX1_reach 16 = .ok (.aload_n 0, 1) := by decide +kernel
theorem dX1_reach_17 : decode cX1_reach 17 = .ok (.getfield 9, 3) := by decide +kernel
theorem dX1_reach_20 : decode cX1_reach 20 = .ok (.aload_n 0, 1) := by decide +kernel
theorem dX1_reach_21 : decode cX1_reach 21 = .ok (.getfield 15, 3) := by decide +kernel
theorem dX1_reach_24 : decode cX1_reach 24 = .ok (.iload 4, 2) := by decide +kernel
theorem dX1_reach_26 : decode cX1_reach 26 = .ok (.iaload, 1) := by decide +kernel
theorem dX1_reach_27 : decode cX1_reach 27 = .ok (.bipush 100, 2) := by decide +kernel
theorem dX1_reach_29 : decode cX1_reach 29 = .ok (.idiv, 1) := by decide +kernel
theorem dX1_reach_30 : decode cX1_reach 30 = .ok (.aload_n 0, 1) := by decide +kernel
theorem dX1_reach_31 : decode cX1_reach 31 = .ok (.getfield 15, 3) := by decide +kernel
theorem dX1_reach_34 : decode cX1_reach 34 = .ok (.iload 4, 2) := by decide +kernel
theorem dX1_reach_36 : decode cX1_reach 36 = .ok (.iaload, 1) := by decide +kernel
theorem dX1_reach_37 : decode cX1_reach 37 = .ok (.bipush 100, 2) := by decide +kernel
theorem dX1_reach_39 : decode cX1_reach 39 = .ok (.irem, 1) := by decide +kernel
theorem dX1_reach_40 : decode cX1_reach 40 = .ok (.iastore, 1) := by decide +kernel
theorem dX1_reach_41 : decode cX1_reach 41 = .ok (.iinc 4 1, 3) := by decide +kernel
theorem dX1_reach_44 : decode cX1_reach 44 = .ok (.goto (-36), 3) := by decide +kernel
theorem dX1_reach_47 : decode cX1_reach 47 = .ok (.aload_n 0, 1) := by decide +kernel
theorem dX1_reach_48 : decode cX1_reach 48 = .ok (.getfield 18, 3) := by decide +kernel
theorem dX1_reach_51 : decode cX1_reach 51 = .ok (.iload_n 1, 1) := by decide +kernel
theorem dX1_reach_52 : decode cX1_reach 52 = .ok (.dup2, 1) := by decide +kernel
theorem dX1_reach_53 : decode cX1_reach 53 = .ok (.iaload, 1) := by decide +kernel
theorem dX1_reach_54 : decode cX1_reach 54 = .ok (.iload_n 2, 1) := by decide +kernel
theorem dX1_reach_55 : decode cX1_reach 55 = .ok (.isub, 1) := by decide +kernel
theorem dX1_reach_56 : decode cX1_reach 56 = .ok (.iastore, 1) := by decide +kernel
theorem dX1_reach_57 : decode cX1_reach 57 = .ok (.aload_n 0, 1) := by decide +kernel
theorem dX1_reach_58 : decode cX1_reach 58 = .ok (.getfield 15, 3) := by decide +kernel
theorem dX1_reach_61 : decode cX1_reach 61 = .ok (.iload_n 3, 1) := by decide +kernel
theorem dX1_reach_62 : decode cX1_reach 62 = .ok (.iload_n 2, 1) := by decide +kernel
theorem dX1_reach_63 : decode cX1_reach 63 = .ok (.iadd, 1) := by decide +kernel
theorem dX1_reach_64 : decode cX1_reach 64 = .ok (.aload_n 0, 1) := by decide +kernel
theorem dX1_reach_65 : decode cX1_reach 65 = .ok (.getfield 15, 3) := by decide +kernel
theorem dX1_reach_68 : decode cX1_reach 68 = .ok (.iload_n 3, 1) := by decide +kernel
theorem dX1_reach_69 : decode cX1_reach 69 = .ok (.aload_n 0, 1) := by decide +kernel
theorem dX1_reach_70 : decode cX1_reach 70 = .ok (.getfield 18, 3) := by decide +kernel
theorem dX1_reach_73 : decode cX1_reach 73 = .ok (.iload_n 1, 1) := by decide +kernel
theorem dX1_reach_74 : decode cX1_reach 74 = .ok (.iaload, 1) := by decide +kernel
theorem dX1_reach_75 : decode cX1_reach 75 = .ok (.invokestatic 24, 3) := by decide +kernel
theorem dX1_reach_78 : decode cX1_reach 78 = .ok (.aload_n 0, 1) := by decide +kernel
theorem dX1_reach_79 : decode cX1_reach 79 = .ok (.getfield 21, 3) := by decide +kernel
theorem dX1_reach_82 : decode cX1_reach 82 = .ok (.iload_n 1, 1) := by decide +kernel
theorem dX1_reach_83 : decode cX1_reach 83 = .ok (.iconst 0, 1) := by decide +kernel
theorem dX1_reach_84 : decode cX1_reach 84 = .ok (.aload_n 0, 1) := by decide +kernel
theorem dX1_reach_85 : decode cX1_reach 85 = .ok (.getfield 21, 3) := by decide +kernel
theorem dX1_reach_88 : decode cX1_reach 88 = .ok (.iload_n 1, 1) := by decide +kernel
theorem dX1_reach_89 : decode cX1_reach 89 = .ok (.iaload, 1) := by decide +kernel
theorem dX1_reach_90 : decode cX1_reach 90 = .ok (.iload_n 2, 1) := by decide +kernel
theorem dX1_reach_91 : decode cX1_reach 91 = .ok (.isub, 1) := by decide +kernel
theorem dX1_reach_92 : decode cX1_reach 92 = .ok (.invokestatic 40, 3) := by decide +kernel
theorem dX1_reach_95 : decode cX1_reach 95 = .ok (.iastore, 1) := by decide +kernel
theorem dX1_reach_96 : decode cX1_reach 96 = .ok (.return_, 1) := by decide +kernel
theorem dX1_wordNow_0 : decode cX1_wordNow 0 = .ok (.iload_n 1, 1) := by decide +kernel
theorem dX1_wordNow_1 : decode cX1_wordNow 1 = .ok (.iconst 4, 1) := by decide +kernel
theorem dX1_wordNow_2 : decode cX1_wordNow 2 = .ok (.idiv, 1) := by decide +kernel
theorem dX1_wordNow_3 : decode cX1_wordNow 3 = .ok (.istore_n 2, 1) := by decide +kernel
theorem dX1_wordNow_4 : decode cX1_wordNow 4 = .ok (.aload_n 0, 1) := by decide +kernel
theorem dX1_wordNow_5 : decode cX1_wordNow 5 = .ok (.getfield 18, 3) := by decide +kernel
theorem dX1_wordNow_8 : decode cX1_wordNow 8 = .ok (.iload_n 2, 1) := by decide +kernel
theorem dX1_wordNow_9 : decode cX1_wordNow 9 = .ok (.iaload, 1) := by decide +kernel
theorem dX1_wordNow_10 : decode cX1_wordNow 10 = .ok (.iconst 1, 1) := by decide +kernel
theorem dX1_wordNow_11 : decode cX1_wordNow 11 = .ok (.isub, 1) := by decide +kernel
theorem dX1_wordNow_12 : decode cX1_wordNow 12 = .ok (.istore_n 3, 1) := by decide +kernel
theorem dX1_wordNow_13 : decode cX1_wordNow 13 = .ok (.iload_n 3, 1) := by decide +kernel
theorem dX1_wordNow_14 : decode cX1_wordNow 14 = .ok (.ifCond .lt 37, 3) := by decide +kernel
theorem dX1_wordNow_17 : decode cX1_wordNow 17 = .ok (.aload_n 0, 1) := by decide +kernel
theorem dX1_wordNow_18 : decode cX1_wordNow 18 = .ok (.getfield 15, 3) := by decide +kernel
theorem dX1_wordNow_21 : decode cX1_wordNow 21 = .ok (.iload_n 2, 1) := by decide +kernel
theorem dX1_wordNow_22 : decode cX1_wordNow 22 = .ok (.bipush 6, 2) := by decide +kernel
theorem dX1_wordNow_24 : decode cX1_wordNow 24 = .ok (.imul, 1) := by decide +kernel
theorem dX1_wordNow_25 : decode cX1_wordNow 25 = .ok (.iload_n 3, 1) := by decide +kernel
theorem dX1_wordNow_26 : decode cX1_wordNow 26 = .ok (.iadd, 1) := by decide +kernel
theorem dX1_wordNow_27 : decode cX1_wordNow 27 = .ok (.iaload, 1) := by decide +kernel
theorem dX1_wordNow_28 : decode cX1_wordNow 28 = .ok (.istore 4, 2) := by decide +kernel
theorem dX1_wordNow_30 : decode cX1_wordNow 30 = .ok (.iload 4, 2) := by decide +kernel
theorem dX1_wordNow_32 : decode cX1_wordNow 32 = .ok (.bipush 100, 2) := by decide +kernel
theorem dX1_wordNow_34 : decode cX1_wordNow 34 = .ok (.idiv, 1) := by decide +kernel
theorem dX1_wordNow_35 : decode cX1_wordNow 35 = .ok (.iload_n 1, 1) := by decide +kernel
theorem dX1_wordNow_36 : decode cX1_wordNow 36 = .ok (.if_icmp .ne 9, 3) := by decide +kernel
theorem dX1_wordNow_39 : decode cX1_wordNow 39 = .ok (.iload 4, 2) := by decide +kernel
theorem dX1_wordNow_41 : decode cX1_wordNow 41 = .ok (.bipush 100, 2) := by decide +kernel
theorem dX1_wordNow_43 : decode cX1_wordNow 43 = .ok (.irem, 1) := by decide +kernel
theorem dX1_wordNow_44 : decode cX1_wordNow 44 = .ok (.ireturn, 1) := by decide +kernel
theorem dX1_wordNow_45 : decode cX1_wordNow 45 = .ok (.iinc 3 (-1), 3) := by decide +kernel
theorem dX1_wordNow_48 : decode cX1_wordNow 48 = .ok (.goto (-35), 3) := by decide +kernel
theorem dX1_wordNow_51 : decode cX1_wordNow 51 = .ok (.aload_n 0, 1) := by decide +kernel
theorem dX1_wordNow_52 : decode cX1_wordNow 52 = .ok (.getfield 9, 3) := by decide +kernel
theorem dX1_wordNow_55 : decode cX1_wordNow 55 = .ok (.iload_n 1, 1) := by decide +kernel
theorem dX1_wordNow_56 : decode cX1_wordNow 56 = .ok (.iaload, 1) := by decide +kernel
theorem dX1_wordNow_57 : decode cX1_wordNow 57 = .ok (.ireturn, 1) := by decide +kernel
theorem dX1_fillWords_0 : decode cX1_fillWords 0 = .ok (.aload_n 0, 1) := by decide +kernel
theorem dX1_fillWords_1 : decode cX1_fillWords 1 = .ok (.getfield 9, 3) := by decide +kernel
theorem dX1_fillWords_4 : decode cX1_fillWords 4 = .ok (.iconst 0, 1) := by decide +kernel
theorem dX1_fillWords_5 : decode cX1_fillWords 5 = .ok (.aload_n 1, 1) := by decide +kernel
theorem dX1_fillWords_6 : decode cX1_fillWords 6 = .ok (.iconst 0, 1) := by decide +kernel
theorem dX1_fillWords_7 : decode cX1_fillWords 7 = .ok (.bipush 64, 2) := by decide +kernel
theorem dX1_fillWords_9 : decode cX1_fillWords 9 = .ok (.invokestatic 24, 3) := by decide +kernel
theorem dX1_fillWords_12 : decode cX1_fillWords 12 = .ok (.iconst 0, 1) := by decide +kernel
theorem dX1_fillWords_13 : decode cX1_fillWords 13 = .ok (.istore_n 2, 1) := by decide +kernel
theorem dX1_fillWords_14 : decode cX1_fillWords 14 = .ok (.iload_n 2, 1) := by decide +kernel
theorem dX1_fillWords_15 : decode cX1_fillWords 15 = .ok (.bipush 16, 2) := by decide +kernel
theorem dX1_fillWords_17 : decode cX1_fillWords 17 = .ok (.if_icmp .ge 52, 3) := by decide +kernel
theorem dX1_fillWords_20 : decode cX1_fillWords 20 = .ok (.iconst 0, 1) := by decide +kernel
theorem dX1_fillWords_21 : decode cX1_fillWords 21 = .ok (.istore_n 3, 1) := by decide +kernel
theorem dX1_fillWords_22 : decode cX1_fillWords 22 = .ok (.iload_n 3, 1) := by decide +kernel
theorem dX1_fillWords_23 : decode cX1_fillWords 23 = .ok (.aload_n 0, 1) := by decide +kernel
theorem dX1_fillWords_24 : decode cX1_fillWords 24 = .ok (.getfield 18, 3) := by decide +kernel
theorem dX1_fillWords_27 : decode cX1_fillWords 27 = .ok (.iload_n 2, 1) := by decide +kernel
theorem dX1_fillWords_28 : decode cX1_fillWords 28 = .ok (.iaload, 1) := by decide +kernel
theorem dX1_fillWords_29 : decode cX1_fillWords 29 = .ok (.if_icmp .ge 34, 3) := by decide +kernel
theorem dX1_fillWords_32 : decode cX1_fillWords 32 = .ok (.aload_n 0, 1) := by decide +kernel
theorem dX1_fillWords_33 : decode cX1_fillWords 33 = .ok (.getfield 15, 3) := by decide +kernel
theorem dX1_fillWords_36 : decode cX1_fillWords 36 = .ok (.iload_n 2, 1) := by decide +kernel
theorem dX1_fillWords_37 : decode cX1_fillWords 37 = .ok (.bipush 6, 2) := by decide +kernel
theorem dX1_fillWords_39 : decode cX1_fillWords 39 = .ok (.imul, 1) := by decide +kernel
theorem dX1_fillWords_40 : decode cX1_fillWords 40 = .ok (.iload_n 3, 1) := by decide +kernel
theorem dX1_fillWords_41 : decode cX1_fillWords 41 = .ok (.iadd, 1) := by decide +kernel
theorem dX1_fillWords_42 : decode cX1_fillWords 42 = .ok (.iaload, 1) := by decide +kernel
theorem dX1_fillWords_43 : decode cX1_fillWords 43 = .ok (.istore 4, 2) := by decide +kernel
theorem dX1_fillWords_45 : decode cX1_fillWords 45 = .ok (.aload_n 1, 1) := by decide +kernel
theorem dX1_fillWords_46 : decode cX1_fillWords 46 = .ok (.iload 4, 2) := by decide +kernel
theorem dX1_fillWords_48 : decode cX1_fillWords 48 = .ok (.bipush 100, 2) := by decide +kernel
theorem dX1_fillWords_50 : decode cX1_fillWords 50 = .ok (.idiv, 1) := by decide +kernel
theorem dX1_fillWords_51 : decode cX1_fillWords 51 = .ok (.iload 4, 2) := by decide +kernel
theorem dX1_fillWords_53 : decode cX1_fillWords 53 = .ok (.bipush 100, 2) := by decide +kernel
theorem dX1_fillWords_55 : decode cX1_fillWords 55 = .ok (.irem, 1) := by decide +kernel
theorem dX1_fillWords_56 : decode cX1_fillWords 56 = .ok (.iastore, 1) := by decide +kernel
theorem dX1_fillWords_57 : decode cX1_fillWords 57 = .ok (.iinc 3 1, 3) := by decide +kernel
theorem dX1_fillWords_60 : decode cX1_fillWords 60 = .ok (.goto (-38), 3) := by decide +kernel
theorem dX1_fillWords_63 : decode cX1_fillWords 63 = .ok (.iinc 2 1, 3) := by decide +kernel
theorem dX1_fillWords_66 : decode cX1_fillWords 66 = .ok (.goto (-52), 3) := by decide +kernel
theorem dX1_fillWords_69 : decode cX1_fillWords 69 = .ok (.return_, 1) := by decide +kernel
theorem dX1_pendingInAll_0 : decode cX1_pendingInAll 0 = .ok (.iconst 0, 1) := by decide +kernel
theorem dX1_pendingInAll_1 : decode cX1_pendingInAll 1 = .ok (.istore_n 1, 1) := by decide +kernel
theorem dX1_pendingInAll_2 : decode cX1_pendingInAll 2 = .ok (.iconst 0, 1) := by decide +kernel
theorem dX1_pendingInAll_3 : decode cX1_pendingInAll 3 = .ok (.istore_n 2, 1) := by decide +kernel
theorem dX1_pendingInAll_4 : decode cX1_pendingInAll 4 = .ok (.iload_n 2, 1) := by decide +kernel
theorem dX1_pendingInAll_5 : decode cX1_pendingInAll 5 = .ok (.bipush 16, 2) := by decide +kernel
theorem dX1_pendingInAll_7 : decode cX1_pendingInAll 7 = .ok (.if_icmp .ge 18, 3) := by decide +kernel
theorem dX1_pendingInAll_10 : decode cX1_pendingInAll 10 = .ok (.iload_n 1, 1) := by decide +kernel
theorem dX1_pendingInAll_11 : decode cX1_pendingInAll 11 = .ok (.aload_n 0, 1) := by decide +kernel
theorem dX1_pendingInAll_12 : decode cX1_pendingInAll 12 = .ok (.getfield 18, 3) := by decide +kernel
theorem dX1_pendingInAll_15 : decode cX1_pendingInAll 15 = .ok (.iload_n 2, 1) := by decide +kernel
theorem dX1_pendingInAll_16 : decode cX1_pendingInAll 16 = .ok (.iaload, 1) := by decide +kernel
theorem dX1_pendingInAll_17 : decode cX1_pendingInAll 17 = .ok (.iadd, 1) := by decide +kernel
theorem dX1_pendingInAll_18 : decode cX1_pendingInAll 18 = .ok (.istore_n 1, 1) := by decide +kernel
theorem dX1_pendingInAll_19 : decode cX1_pendingInAll 19 = .ok (.iinc 2 1, 3) := by decide +kernel
theorem dX1_pendingInAll_22 : decode cX1_pendingInAll 22 = .ok (.goto (-18), 3) := by decide +kernel
theorem dX1_pendingInAll_25 : decode cX1_pendingInAll 25 = .ok (.iload_n 1, 1) := by decide +kernel
theorem dX1_pendingInAll_26 : decode cX1_pendingInAll 26 = .ok (.ireturn, 1) := by decide +kernel
theorem dX1_orderTotal_0 : decode cX1_orderTotal 0 = .ok (.lconst 1, 1) := by decide +kernel
theorem dX1_orderTotal_1 : decode cX1_orderTotal 1 = .ok (.lstore_n 1, 1) := by decide +kernel
theorem dX1_orderTotal_2 : decode cX1_orderTotal 2 = .ok (.iconst 0, 1) := by decide +kernel
theorem dX1_orderTotal_3 : decode cX1_orderTotal 3 = .ok (.istore_n 3, 1) := by decide +kernel
theorem dX1_orderTotal_4 : decode cX1_orderTotal 4 = .ok (.iload_n 3, 1) := by decide +kernel
theorem dX1_orderTotal_5 : decode cX1_orderTotal 5 = .ok (.bipush 16, 2) := by decide +kernel
theorem dX1_orderTotal_7 : decode cX1_orderTotal 7 = .ok (.if_icmp .ge 21, 3) := by decide +kernel
theorem dX1_orderTotal_10 : decode cX1_orderTotal 10 = .ok (.lload_n 1, 1) := by decide +kernel
theorem dX1_orderTotal_11 : decode cX1_orderTotal 11 = .ok (.aload_n 0, 1) := by decide +kernel
theorem dX1_orderTotal_12 : decode cX1_orderTotal 12 = .ok (.getfield 18, 3) := by decide +kernel
theorem dX1_orderTotal_15 : decode cX1_orderTotal 15 = .ok (.iload_n 3, 1) := by decide +kernel
theorem dX1_orderTotal_16 : decode cX1_orderTotal 16 = .ok (.iaload, 1) := by decide +kernel
theorem dX1_orderTotal_17 : decode cX1_orderTotal 17 = .ok (.iconst 1, 1) := by decide +kernel
theorem dX1_orderTotal_18 : decode cX1_orderTotal 18 = .ok (.iadd, 1) := by decide +kernel
theorem dX1_orderTotal_19 : decode cX1_orderTotal 19 = .ok (.i2l, 1) := by decide +kernel
theorem dX1_orderTotal_20 : decode cX1_orderTotal 20 = .ok (.lmul, 1) := by decide +kernel
theorem dX1_orderTotal_21 : decode cX1_orderTotal 21 = .ok (.lstore_n 1, 1) := by decide +kernel
theorem dX1_orderTotal_22 : decode cX1_orderTotal 22 = .ok (.iinc 3 1, 3) := by decide +kernel
theorem dX1_orderTotal_25 : decode cX1_orderTotal 25 = .ok (.goto (-21), 3) := by decide +kernel
theorem dX1_orderTotal_28 : decode cX1_orderTotal 28 = .ok (.lload_n 1, 1) := by decide +kernel
theorem dX1_orderTotal_29 : decode cX1_orderTotal 29 = .ok (.lreturn, 1) := by decide +kernel
theorem dX2_init_0 : decode cX2_init 0 = .ok (.aload_n 0, 1) := by decide +kernel
theorem dX2_init_1 : decode cX2_init 1 = .ok (.invokespecial 3, 3) := by decide +kernel
theorem dX2_init_4 : decode cX2_init 4 = .ok (.aload_n 0, 1) := by decide +kernel
theorem dX2_init_5 : decode cX2_init 5 = .ok (.new 9, 3) := by decide +kernel
theorem dX2_init_8 : decode cX2_init 8 = .ok (.dup, 1) := by decide +kernel
theorem dX2_init_9 : decode cX2_init 9 = .ok (.invokespecial 11, 3) := by decide +kernel
theorem dX2_init_12 : decode cX2_init 12 = .ok (.putfield 12, 3) := by decide +kernel
theorem dX2_init_15 : decode cX2_init 15 = .ok (.aload_n 0, 1) := by decide +kernel
theorem dX2_init_16 : decode cX2_init 16 = .ok (.new 18, 3) := by decide +kernel
theorem dX2_init_19 : decode cX2_init 19 = .ok (.dup, 1) := by decide +kernel
theorem dX2_init_20 : decode cX2_init 20 = .ok (.invokespecial 20, 3) := by decide +kernel
theorem dX2_init_23 : decode cX2_init 23 = .ok (.putfield 21, 3) := by decide +kernel
theorem dX2_init_26 : decode cX2_init 26 = .ok (.aload_n 0, 1) := by decide +kernel
theorem dX2_init_27 : decode cX2_init 27 = .ok (.new 25, 3) := by decide +kernel
theorem dX2_init_30 : decode cX2_init 30 = .ok (.dup, 1) := by decide +kernel
theorem dX2_init_31 : decode cX2_init 31 = .ok (.invokespecial 27, 3) := by decide +kernel
theorem dX2_init_34 : decode cX2_init 34 = .ok (.putfield 28, 3) := by decide +kernel
theorem dX2_init_37 : decode cX2_init 37 = .ok (.aload_n 0, 1) := by decide +kernel
theorem dX2_init_38 : decode cX2_init 38 = .ok (.iconst 0, 1) := by decide +kernel
theorem dX2_init_39 : decode cX2_init 39 = .ok (.putfield 32, 3) := by decide +kernel
theorem dX2_init_42 : decode cX2_init 42 = .ok (.aload_n 0, 1) := by decide +kernel
theorem dX2_init_43 : decode cX2_init 43 = .ok (.iconst (-1), 1) := by decide +kernel
theorem dX2_init_44 : decode cX2_init 44 = .ok (.putfield 36, 3) := by decide +kernel
theorem dX2_init_47 : decode cX2_init 47 = .ok (.aload_n 0, 1) := by decide +kernel
theorem dX2_init_48 : decode cX2_init 48 = .ok (.iconst (-1), 1) := by decide +kernel
theorem dX2_init_49 : decode cX2_init 49 = .ok (.putfield 39, 3) := by decide +kernel
theorem dX2_init_52 : decode cX2_init 52 = .ok (.aload_n 0, 1) := by decide +kernel
theorem dX2_init_53 : decode cX2_init 53 = .ok (.iconst 0, 1) := by decide +kernel
theorem dX2_init_54 : decode cX2_init 54 = .ok (.putfield 42, 3) := by decide +kernel
theorem dX2_init_57 : decode cX2_init 57 = .ok (.return_, 1) := by decide +kernel
theorem dX2_run_0 : decode cX2_run 0 = .ok (.aload_n 0, 1) := by decide +kernel
theorem dX2_run_1 : decode cX2_run 1 = .ok (.getfield 12, 3) := by decide +kernel
theorem dX2_run_4 : decode cX2_run 4 = .ok (.aload_n 1, 1) := by decide +kernel
theorem dX2_run_5 : decode cX2_run 5 = .ok (.invokevirtual 46, 3) := by decide +kernel
theorem dX2_run_8 : decode cX2_run 8 = .ok (.aload_n 0, 1) := by decide +kernel
theorem dX2_run_9 : decode cX2_run 9 = .ok (.getfield 12, 3) := by decide +kernel
theorem dX2_run_12 : decode cX2_run 12 = .ok (.iload_n 2, 1) := by decide +kernel
theorem dX2_run_13 : decode cX2_run 13 = .ok (.putfield 50, 3) := by decide +kernel
theorem dX2_run_16 : decode cX2_run 16 = .ok (.aload_n 0, 1) := by decide +kernel
theorem dX2_run_17 : decode cX2_run 17 = .ok (.iconst 0, 1) := by decide +kernel
theorem dX2_run_18 : decode cX2_run 18 = .ok (.putfield 32, 3) := by decide +kernel
theorem dX2_run_21 : decode cX2_run 21 = .ok (.aload_n 0, 1) := by decide +kernel
theorem dX2_run_22 : decode cX2_run 22 = .ok (.iconst (-1), 1) := by decide +kernel
theorem dX2_run_23 : decode cX2_run 23 = .ok (.putfield 36, 3) := by decide +kernel
theorem dX2_run_26 : decode cX2_run 26 = .ok (.aload_n 0, 1) := by decide +kernel
theorem dX2_run_27 : decode cX2_run 27 = .ok (.iconst (-1), 1) := by decide +kernel
theorem dX2_run_28 : decode cX2_run 28 = .ok (.putfield 39, 3) := by decide +kernel
theorem dX2_run_31 : decode cX2_run 31 = .ok (.aload_n 0, 1) := by decide +kernel
theorem dX2_run_32 : decode cX2_run 32 = .ok (.iconst 0, 1) := by decide +kernel
theorem dX2_run_33 : decode cX2_run 33 = .ok (.putfield 42, 3) := by decide +kernel
theorem dX2_run_36 : decode cX2_run 36 = .ok (.aload_n 0, 1) := by decide +kernel
theorem dX2_run_37 : decode cX2_run 37 = .ok (.getfield 12, 3) := by decide +kernel
theorem dX2_run_40 : decode cX2_run 40 = .ok (.getfield 53, 3) := by decide +kernel
theorem dX2_run_43 : decode cX2_run 43 = .ok (.iconst 1, 1) := by decide +kernel
theorem dX2_run_44 : decode cX2_run 44 = .ok (.if_icmp .ne 7, 3) := by decide +kernel
theorem dX2_run_47 : decode cX2_run 47 = .ok (.iconst 1, 1) := by decide +kernel
theorem dX2_run_48 : decode cX2_run 48 = .ok (.goto 4, 3) := by decide +kernel
theorem dX2_run_51 : decode cX2_run 51 = .ok (.iconst 0, 1) := by decide +kernel
theorem dX2_run_52 : decode cX2_run 52 = .ok (.istore 4, 2) := by decide +kernel
theorem dX2_run_54 : decode cX2_run 54 = .ok (.iload 4, 2) := by decide +kernel
theorem dX2_run_56 : decode cX2_run 56 = .ok (.ifCond .eq 14, 3) := by decide +kernel
theorem dX2_run_59 : decode cX2_run 59 = .ok (.aload_n 0, 1) := by decide +kernel
theorem dX2_run_60 : decode cX2_run 60 = .ok (.getfield 12, 3) := by decide +kernel
theorem dX2_run_63 : decode cX2_run 63 = .ok (.aload_n 0, 1) := by decide +kernel
theorem dX2_run_64 : decode cX2_run 64 = .ok (.getfield 21, 3) := by decide +kernel
theorem dX2_run_67 : decode cX2_run 67 = .ok (.invokevirtual 56, 3) := by decide +kernel
theorem dX2_run_70 : decode cX2_run 70 = .ok (.iload 4, 2) := by decide +kernel
theorem dX2_run_72 : decode cX2_run 72 = .ok (.ifCond .eq 17, 3) := by decide +kernel
theorem dX2_run_75 : decode cX2_run 75 = .ok (.aload_n 0, 1) := by decide +kernel
theorem dX2_run_76 : decode cX2_run 76 = .ok (.getfield 12, 3) := by decide +kernel
theorem dX2_run_79 : decode cX2_run 79 = .ok (.invokevirtual 60, 3) := by decide +kernel
theorem dX2_run_82 : decode cX2_run 82 = .ok (.ifCond .eq 7, 3) := by decide +kernel
theorem dX2_run_85 : decode cX2_run 85 = .ok (.iconst 1, 1) := by decide +kernel
theorem dX2_run_86 : decode cX2_run 86 = .ok (.goto 4, 3) := by decide +kernel
theorem dX2_run_89 : decode cX2_run 89 = .ok (.iconst 0, 1) := by decide +kernel
theorem dX2_run_90 : decode cX2_run 90 = .ok (.istore 5, 2) := by decide +kernel
theorem dX2_run_92 : decode cX2_run 92 = .ok (.iconst 0, 1) := by decide +kernel
theorem dX2_run_93 : decode cX2_run 93 = .ok (.istore 6, 2) := by decide +kernel
theorem dX2_run_95 : decode cX2_run 95 = .ok (.iload 6, 2) := by decide +kernel
theorem dX2_run_97 : decode cX2_run 97 = .ok (.bipush 80, 2) := by decide +kernel
theorem dX2_run_99 : decode cX2_run 99 = .ok (.if_icmp .gt 97, 3) := by decide +kernel
theorem dX2_run_102 : decode cX2_run 102 = .ok (.aload_n 0, 1) := by decide +kernel
theorem dX2_run_103 : decode cX2_run 103 = .ok (.getfield 12, 3) := by decide +kernel
theorem dX2_run_106 : decode cX2_run 106 = .ok (.getfield 64, 3) := by decide +kernel
theorem dX2_run_109 : decode cX2_run 109 = .ok (.invokevirtual 68, 3) := by decide +kernel
theorem dX2_run_112 : decode cX2_run 112 = .ok (.ldc2_w 74, 3) := by decide +kernel
theorem dX2_run_115 : decode cX2_run 115 = .ok (.lcmp, 1) := by decide +kernel
theorem dX2_run_116 : decode cX2_run 116 = .ok (.ifCond .le 9, 3) := by decide +kernel
theorem dX2_run_119 : decode cX2_run 119 = .ok (.aload_n 0, 1) := by decide +kernel
theorem dX2_run_120 : decode cX2_run 120 = .ok (.iconst 1, 1) := by decide +kernel
theorem dX2_run_121 : decode cX2_run 121 = .ok (.putfield 42, 3) := by decide +kernel
theorem dX2_run_124 : decode cX2_run 124 = .ok (.return_, 1) := by decide +kernel
theorem dX2_run_125 : decode cX2_run 125 = .ok (.aload_n 0, 1) := by decide +kernel
theorem dX2_run_126 : decode cX2_run 126 = .ok (.iload 6, 2) := by decide +kernel
theorem dX2_run_128 : decode cX2_run 128 = .ok (.iload_n 3, 1) := by decide +kernel
theorem dX2_run_129 : decode cX2_run 129 = .ok (.invokevirtual 76, 3) := by decide +kernel
theorem dX2_run_132 : decode cX2_run 132 = .ok (.iload 5, 2) := by decide +kernel
theorem dX2_run_134 : decode cX2_run 134 = .ok (.ifCond .ne 18, 3) := by decide +kernel
theorem dX2_run_137 : decode cX2_run 137 = .ok (.iload 6, 2) := by decide +kernel
theorem dX2_run_139 : decode cX2_run 139 = .ok (.ifCond .le 17, 3) := by decide +kernel
theorem dX2_run_142 : decode cX2_run 142 = .ok (.aload_n 0, 1) := by decide +kernel
theorem dX2_run_143 : decode cX2_run 143 = .ok (.getfield 12, 3) := by decide +kernel
theorem dX2_run_146 : decode cX2_run 146 = .ok (.invokevirtual 60, 3) := by decide +kernel
theorem dX2_run_149 : decode cX2_run 149 = .ok (.ifCond .eq 7, 3) := by decide +kernel
theorem dX2_run_152 : decode cX2_run 152 = .ok (.iconst 1, 1) := by decide +kernel
theorem dX2_run_153 : decode cX2_run 153 = .ok (.goto 4, 3) := by decide +kernel
theorem dX2_run_156 : decode cX2_run 156 = .ok (.iconst 0, 1) := by decide +kernel
theorem dX2_run_157 : decode cX2_run 157 = .ok (.istore 7, 2) := by decide +kernel
theorem dX2_run_159 : decode cX2_run 159 = .ok (.iload 7, 2) := by decide +kernel
theorem dX2_run_161 : decode cX2_run 161 = .ok (.ifCond .ne 28, 3) := by decide +kernel
theorem dX2_run_164 : decode cX2_run 164 = .ok (.iload_n 3, 1) := by decide +kernel
theorem dX2_run_165 : decode cX2_run 165 = .ok (.ifCond .eq 10, 3) := by decide +kernel
theorem dX2_run_168 : decode cX2_run 168 = .ok (.aload_n 0, 1) := by decide +kernel
theorem dX2_run_169 : decode cX2_run 169 = .ok (.getfield 32, 3) := by decide +kernel
theorem dX2_run_172 : decode cX2_run 172 = .ok (.ifCond .gt 17, 3) := by decide +kernel
theorem dX2_run_175 : decode cX2_run 175 = .ok (.aload_n 0, 1) := by decide +kernel
theorem dX2_run_176 : decode cX2_run 176 = .ok (.getfield 12, 3) := by decide +kernel
theorem dX2_run_179 : decode cX2_run 179 = .ok (.aload_n 0, 1) := by decide +kernel
theorem dX2_run_180 : decode cX2_run 180 = .ok (.getfield 21, 3) := by decide +kernel
theorem dX2_run_183 : decode cX2_run 183 = .ok (.invokevirtual 80, 3) := by decide +kernel
theorem dX2_run_186 : decode cX2_run 186 = .ok (.ifCond .ne 4, 3) := by decide +kernel
theorem dX2_run_189 : decode cX2_run 189 = .ok (.return_, 1) := by decide +kernel
theorem dX2_run_190 : decode cX2_run 190 = .ok (.iinc 6 1, 3) := by decide +kernel
theorem dX2_run_193 : decode cX2_run 193 = .ok (.goto (-98), 3) := by decide +kernel
theorem dX2_run_196 : decode cX2_run 196 = .ok (.return_, 1) := by decide +kernel
theorem dX2_countBad_0 : decode cX2_countBad 0 = .ok (.aload_n 0, 1) := by decide +kernel
theorem dX2_countBad_1 : decode cX2_countBad 1 = .ok (.getfield 12, 3) := by decide +kernel
theorem dX2_countBad_4 : decode cX2_countBad 4 = .ok (.getfield 64, 3) := by decide +kernel
theorem dX2_countBad_7 : decode cX2_countBad 7 = .ok (.invokevirtual 68, 3) := by decide +kernel
theorem dX2_countBad_10 : decode cX2_countBad 10 = .ok (.l2i, 1) := by decide +kernel
theorem dX2_countBad_11 : decode cX2_countBad 11 = .ok (.istore_n 3, 1) := by decide +kernel
theorem dX2_countBad_12 : decode cX2_countBad 12 = .ok (.aload_n 0, 1) := by decide +kernel
theorem dX2_countBad_13 : decode cX2_countBad 13 = .ok (.getfield 28, 3) := by decide +kernel
theorem dX2_countBad_16 : decode cX2_countBad 16 = .ok (.aload_n 0, 1) := by decide +kernel
theorem dX2_countBad_17 : decode cX2_countBad 17 = .ok (.getfield 12, 3) := by decide +kernel
theorem dX2_countBad_20 : decode cX2_countBad 20 = .ok (.getfield 64, 3) := by decide +kernel
theorem dX2_countBad_23 : decode cX2_countBad 23 = .ok (.invokevirtual 84, 3) := by decide +kernel
theorem dX2_countBad_26 : decode cX2_countBad 26 = .ok (.iconst 0, 1) := by decide +kernel
theorem dX2_countBad_27 : decode cX2_countBad 27 = .ok (.istore 4, 2) := by decide +kernel
theorem dX2_countBad_29 : decode cX2_countBad 29 = .ok (.iload 4, 2) := by decide +kernel
theorem dX2_countBad_31 : decode cX2_countBad 31 = .ok (.iload_n 3, 1) := by decide +kernel
theorem dX2_countBad_32 : decode cX2_countBad 32 = .ok (.if_icmp .ge 71, 3) := by decide +kernel
theorem dX2_countBad_35 : decode cX2_countBad 35 = .ok (.aload_n 0, 1) := by decide +kernel
theorem dX2_countBad_36 : decode cX2_countBad 36 = .ok (.getfield 28, 3) := by decide +kernel
theorem dX2_countBad_39 : decode cX2_countBad 39 = .ok (.aload_n 0, 1) := by decide +kernel
theorem dX2_countBad_40 : decode cX2_countBad 40 = .ok (.getfield 12, 3) := by decide +kernel
theorem dX2_countBad_43 : decode cX2_countBad 43 = .ok (.invokevirtual 88, 3) := by decide +kernel
theorem dX2_countBad_46 : decode cX2_countBad 46 = .ok (.iconst 3, 1) := by decide +kernel
theorem dX2_countBad_47 : decode cX2_countBad 47 = .ok (.if_icmp .ne 36, 3) := by decide +kernel
theorem dX2_countBad_50 : decode cX2_countBad 50 = .ok (.aload_n 0, 1) := by decide +kernel
theorem dX2_countBad_51 : decode cX2_countBad 51 = .ok (.getfield 32, 3) := by decide +kernel
theorem dX2_countBad_54 : decode cX2_countBad 54 = .ok (.ifCond .ne 14, 3) := by decide +kernel
theorem dX2_countBad_57 : decode cX2_countBad 57 = .ok (.aload_n 0, 1) := by decide +kernel
theorem dX2_countBad_58 : decode cX2_countBad 58 = .ok (.iload_n 1, 1) := by decide +kernel
theorem dX2_countBad_59 : decode cX2_countBad 59 = .ok (.putfield 36, 3) := by decide +kernel
theorem dX2_countBad_62 : decode cX2_countBad 62 = .ok (.aload_n 0, 1) := by decide +kernel
theorem dX2_countBad_63 : decode cX2_countBad 63 = .ok (.iload 4, 2) := by decide +kernel
theorem dX2_countBad_65 : decode cX2_countBad 65 = .ok (.putfield 39, 3) := by decide +kernel
theorem dX2_countBad_68 : decode cX2_countBad 68 = .ok (.aload_n 0, 1) := by decide +kernel
theorem dX2_countBad_69 : decode cX2_countBad 69 = .ok (.dup, 1) := by decide +kernel
theorem dX2_countBad_70 : decode cX2_countBad 70 = .ok (.getfield 32, 3) := by decide +kernel
theorem dX2_countBad_73 : decode cX2_countBad 73 = .ok (.iconst 1, 1) := by decide +kernel
theorem dX2_countBad_74 : decode cX2_countBad 74 = .ok (.iadd, 1) := by decide +kernel
theorem dX2_countBad_75 : decode cX2_countBad 75 = .ok (.putfield 32, 3) := by decide +kernel
theorem dX2_countBad_78 : decode cX2_countBad 78 = .ok (.iload_n 2, 1) := by decide +kernel
theorem dX2_countBad_79 : decode cX2_countBad 79 = .ok (.ifCond .eq 4, 3) := by decide +kernel
theorem dX2_countBad_82 : decode cX2_countBad 82 = .ok (.return_, 1) := by decide +kernel
theorem dX2_countBad_83 : decode cX2_countBad 83 = .ok (.aload_n 0, 1) := by decide +kernel
theorem dX2_countBad_84 : decode cX2_countBad 84 = .ok (.getfield 28, 3) := by decide +kernel
theorem dX2_countBad_87 : decode cX2_countBad 87 = .ok (.aload_n 0, 1) := by decide +kernel
theorem dX2_countBad_88 : decode cX2_countBad 88 = .ok (.getfield 12, 3) := by decide +kernel
theorem dX2_countBad_91 : decode cX2_countBad 91 = .ok (.getfield 64, 3) := by decide +kernel
theorem dX2_countBad_94 : decode cX2_countBad 94 = .ok (.invokevirtual 92, 3) := by decide +kernel
theorem dX2_countBad_97 : decode cX2_countBad 97 = .ok (.iinc 4 1, 3) := by decide +kernel
theorem dX2_countBad_100 : decode cX2_countBad 100 = .ok (.goto (-71), 3) := by decide +kernel
theorem dX2_countBad_103 : decode cX2_countBad 103 = .ok (.return_, 1) := by decide +kernel
theorem dX2_isSound_0 : decode cX2_isSound 0 = .ok (.aload_n 0, 1) := by decide +kernel
theorem dX2_isSound_1 : decode cX2_isSound 1 = .ok (.getfield 32, 3) := by decide +kernel
theorem dX2_isSound_4 : decode cX2_isSound 4 = .ok (.ifCond .ne 14, 3) := by decide +kernel
theorem dX2_isSound_7 : decode cX2_isSound 7 = .ok (.aload_n 0, 1) := by decide +kernel
theorem dX2_isSound_8 : decode cX2_isSound 8 = .ok (.getfield 42, 3) := by decide +kernel
theorem dX2_isSound_11 : decode cX2_isSound 11 = .ok (.ifCond .ne 7, 3) := by decide +kernel
theorem dX2_isSound_14 : decode cX2_isSound 14 = .ok (.iconst 1, 1) := by decide +kernel
theorem dX2_isSound_15 : decode cX2_isSound 15 = .ok (.goto 4, 3) := by decide +kernel
theorem dX2_isSound_18 : decode cX2_isSound 18 = .ok (.iconst 0, 1) := by decide +kernel
theorem dX2_isSound_19 : decode cX2_isSound 19 = .ok (.ireturn, 1) := by decide +kernel
theorem dX3_init_0 : decode cX3_init 0 = .ok (.aload_n 0, 1) := by decide +kernel
theorem dX3_init_1 : decode cX3_init 1 = .ok (.invokespecial 3, 3) := by decide +kernel
theorem dX3_init_4 : decode cX3_init 4 = .ok (.aload_n 0, 1) := by decide +kernel
theorem dX3_init_5 : decode cX3_init 5 = .ok (.bipush 40, 2) := by decide +kernel
theorem dX3_init_7 : decode cX3_init 7 = .ok (.anewarray 9, 3) := by decide +kernel
theorem dX3_init_10 : decode cX3_init 10 = .ok (.putfield 11, 3) := by decide +kernel
theorem dX3_init_13 : decode cX3_init 13 = .ok (.aload_n 0, 1) := by decide +kernel
theorem dX3_init_14 : decode cX3_init 14 = .ok (.iconst 0, 1) := by decide +kernel
theorem dX3_init_15 : decode cX3_init 15 = .ok (.putfield 17, 3) := by decide +kernel
theorem dX3_init_18 : decode cX3_init 18 = .ok (.aload_n 0, 1) := by decide +kernel
theorem dX3_init_19 : decode cX3_init 19 = .ok (.iconst 0, 1) := by decide +kernel
theorem dX3_init_20 : decode cX3_init 20 = .ok (.putfield 21, 3) := by decide +kernel
theorem dX3_init_23 : decode cX3_init 23 = .ok (.return_, 1) := by decide +kernel
theorem dX3_rowAt_0 : decode cX3_rowAt 0 = .ok (.aload_n 0, 1) := by decide +kernel
theorem dX3_rowAt_1 : decode cX3_rowAt 1 = .ok (.getfield 17, 3) := by decide +kernel
theorem dX3_rowAt_4 : decode cX3_rowAt 4 = .ok (.iload_n 1, 1) := by decide +kernel
theorem dX3_rowAt_5 : decode cX3_rowAt 5 = .ok (.iadd, 1) := by decide +kernel
theorem dX3_rowAt_6 : decode cX3_rowAt 6 = .ok (.bipush 40, 2) := by decide +kernel
theorem dX3_rowAt_8 : decode cX3_rowAt 8 = .ok (.irem, 1) := by decide +kernel
theorem dX3_rowAt_9 : decode cX3_rowAt 9 = .ok (.istore_n 2, 1) := by decide +kernel
theorem dX3_rowAt_10 : decode cX3_rowAt 10 = .ok (.aload_n 0, 1) := by decide +kernel
theorem dX3_rowAt_11 : decode cX3_rowAt 11 = .ok (.getfield 11, 3) := by decide +kernel
theorem dX3_rowAt_14 : decode cX3_rowAt 14 = .ok (.iload_n 2, 1) := by decide +kernel
theorem dX3_rowAt_15 : decode cX3_rowAt 15 = .ok (.aaload, 1) := by decide +kernel
theorem dX3_rowAt_16 : decode cX3_rowAt 16 = .ok (.ifnonnull 16, 3) := by decide +kernel
theorem dX3_rowAt_19 : decode cX3_rowAt 19 = .ok (.aload_n 0, 1) := by decide +kernel
theorem dX3_rowAt_20 : decode cX3_rowAt 20 = .ok (.getfield 11, 3) := by decide +kernel
theorem dX3_rowAt_23 : decode cX3_rowAt 23 = .ok (.iload_n 2, 1) := by decide +kernel
theorem dX3_rowAt_24 : decode cX3_rowAt 24 = .ok (.new 9, 3) := by decide +kernel
theorem dX3_rowAt_27 : decode cX3_rowAt 27 = .ok (.dup, 1) := by decide +kernel
theorem dX3_rowAt_28 : decode cX3_rowAt 28 = .ok (.invokespecial 24, 3) := by decide +kernel
theorem dX3_rowAt_31 : decode cX3_rowAt 31 = .ok (.aastore, 1) := by decide +kernel
theorem dX3_rowAt_32 : decode cX3_rowAt 32 = .ok (.aload_n 0, 1) := by decide +kernel
theorem dX3_rowAt_33 : decode cX3_rowAt 33 = .ok (.getfield 11, 3) := by decide +kernel
theorem dX3_rowAt_36 : decode cX3_rowAt 36 = .ok (.iload_n 2, 1) := by decide +kernel
theorem dX3_rowAt_37 : decode cX3_rowAt 37 = .ok (.aaload, 1) := by decide +kernel
theorem dX3_rowAt_38 : decode cX3_rowAt 38 = .ok (.areturn, 1) := by decide +kernel
theorem dX3_keep_0 : decode cX3_keep 0 = .ok (.aload_n 0, 1) := by decide +kernel
theorem dX3_keep_1 : decode cX3_keep 1 = .ok (.getfield 21, 3) := by decide +kernel
theorem dX3_keep_4 : decode cX3_keep 4 = .ok (.bipush 40, 2) := by decide +kernel
theorem dX3_keep_6 : decode cX3_keep 6 = .ok (.if_icmp .ne 26, 3) := by decide +kernel
theorem dX3_keep_9 : decode cX3_keep 9 = .ok (.aload_n 0, 1) := by decide +kernel
theorem dX3_keep_10 : decode cX3_keep 10 = .ok (.aload_n 0, 1) := by decide +kernel
theorem dX3_keep_11 : decode cX3_keep 11 = .ok (.getfield 17, 3) := by decide +kernel
theorem dX3_keep_14 : decode cX3_keep 14 = .ok (.iconst 1, 1) := by decide +kernel
theorem dX3_keep_15 : decode cX3_keep 15 = .ok (.iadd, 1) := by decide +kernel
theorem dX3_keep_16 : decode cX3_keep 16 = .ok (.bipush 40, 2) := by decide +kernel
theorem dX3_keep_18 : decode cX3_keep 18 = .ok (.irem, 1) := by decide +kernel
theorem dX3_keep_19 : decode cX3_keep 19 = .ok (.putfield 17, 3) := by decide +kernel
theorem dX3_keep_22 : decode cX3_keep 22 = .ok (.aload_n 0, 1) := by decide +kernel
theorem dX3_keep_23 : decode cX3_keep 23 = .ok (.dup, 1) := by decide +kernel
theorem dX3_keep_24 : decode cX3_keep 24 = .ok (.getfield 21, 3) := by decide +kernel
theorem dX3_keep_27 : decode cX3_keep 27 = .ok (.iconst 1, 1) := by decide +kernel
theorem dX3_keep_28 : decode cX3_keep 28 = .ok (.isub, 1) := by decide +kernel
theorem dX3_keep_29 : decode cX3_keep 29 = .ok (.putfield 21, 3) := by decide +kernel
theorem dX3_keep_32 : decode cX3_keep 32 = .ok (.aload_n 0, 1) := by decide +kernel
theorem dX3_keep_33 : decode cX3_keep 33 = .ok (.aload_n 0, 1) := by decide +kernel
theorem dX3_keep_34 : decode cX3_keep 34 = .ok (.getfield 21, 3) := by decide +kernel
theorem dX3_keep_37 : decode cX3_keep 37 = .ok (.invokevirtual 25, 3) := by decide +kernel
theorem dX3_keep_40 : decode cX3_keep 40 = .ok (.aload_n 1, 1) := by decide +kernel
theorem dX3_keep_41 : decode cX3_keep 41 = .ok (.invokevirtual 29, 3) := by decide +kernel
theorem dX3_keep_44 : decode cX3_keep 44 = .ok (.aload_n 0, 1) := by decide +kernel
theorem dX3_keep_45 : decode cX3_keep 45 = .ok (.dup, 1) := by decide +kernel
theorem dX3_keep_46 : decode cX3_keep 46 = .ok (.getfield 21, 3) := by decide +kernel
theorem dX3_keep_49 : decode cX3_keep 49 = .ok (.iconst 1, 1) := by decide +kernel
theorem dX3_keep_50 : decode cX3_keep 50 = .ok (.iadd, 1) := by decide +kernel
theorem dX3_keep_51 : decode cX3_keep 51 = .ok (.putfield 21, 3) := by decide +kernel
theorem dX3_keep_54 : decode cX3_keep 54 = .ok (.return_, 1) := by decide +kernel
theorem dX3_giveBack_0 : decode cX3_giveBack 0 = .ok (.aload_n 0, 1) := by decide +kernel
theorem dX3_giveBack_1 : decode cX3_giveBack 1 = .ok (.getfield 21, 3) := by decide +kernel
theorem dX3_giveBack_4 : decode cX3_giveBack 4 = .ok (.ifCond .ne 5, 3) := by decide +kernel
theorem dX3_giveBack_7 : decode cX3_giveBack 7 = .ok (.iconst 0, 1) := by decide +kernel
theorem dX3_giveBack_8 : decode cX3_giveBack 8 = .ok (.ireturn, 1) := by decide +kernel
theorem dX3_giveBack_9 : decode cX3_giveBack 9 = .ok (.aload_n 0, 1) := by decide +kernel
theorem dX3_giveBack_10 : decode cX3_giveBack 10 = .ok (.dup, 1) := by decide +kernel
theorem dX3_giveBack_11 : decode cX3_giveBack 11 = .ok (.getfield 21, 3) := by decide +kernel
theorem dX3_giveBack_14 : decode cX3_giveBack 14 = .ok (.iconst 1, 1) := by decide +kernel
theorem dX3_giveBack_15 : decode cX3_giveBack 15 = .ok (.isub, 1) := by decide +kernel
theorem dX3_giveBack_16 : decode cX3_giveBack 16 = .ok (.putfield 21, 3) := by decide +kernel
theorem dX3_giveBack_19 : decode cX3_giveBack 19 = .ok (.aload_n 1, 1) := by decide +kernel
theorem dX3_giveBack_20 : decode cX3_giveBack 20 = .ok (.aload_n 0, 1) := by decide +kernel
theorem dX3_giveBack_21 : decode cX3_giveBack 21 = .ok (.aload_n 0, 1) := by decide +kernel
theorem dX3_giveBack_22 : decode cX3_giveBack 22 = .ok (.getfield 21, 3) := by decide +kernel
theorem dX3_giveBack_25 : decode cX3_giveBack 25 = .ok (.invokevirtual 25, 3) := by decide +kernel
theorem dX3_giveBack_28 : decode cX3_giveBack 28 = .ok (.invokevirtual 29, 3) := by decide +kernel
theorem dX3_giveBack_31 : decode cX3_giveBack 31 = .ok (.iconst 1, 1) := by decide +kernel
theorem dX3_giveBack_32 : decode cX3_giveBack 32 = .ok (.ireturn, 1) := by decide +kernel
theorem dX3_copyFrom_0 : decode cX3_copyFrom 0 = .ok (.aload_n 0, 1) := by decide +kernel
theorem dX3_copyFrom_1 : decode cX3_copyFrom 1 = .ok (.iconst 0, 1) := by decide +kernel
theorem dX3_copyFrom_2 : decode cX3_copyFrom 2 = .ok (.putfield 17, 3) := by decide +kernel
theorem dX3_copyFrom_5 : decode cX3_copyFrom 5 = .ok (.aload_n 0, 1) := by decide +kernel
theorem dX3_copyFrom_6 : decode cX3_copyFrom 6 = .ok (.aload_n 1, 1) := by decide +kernel
theorem dX3_copyFrom_7 : decode cX3_copyFrom 7 = .ok (.getfield 21, 3) := by decide +kernel
theorem dX3_copyFrom_10 : decode cX3_copyFrom 10 = .ok (.putfield 21, 3) := by decide +kernel
theorem dX3_copyFrom_13 : decode cX3_copyFrom 13 = .ok (.iconst 0, 1) := by decide +kernel
theorem dX3_copyFrom_14 : decode cX3_copyFrom 14 = .ok (.istore_n 2, 1) := by decide +kernel
theorem dX3_copyFrom_15 : decode cX3_copyFrom 15 = .ok (.iload_n 2, 1) := by decide +kernel
theorem dX3_copyFrom_16 : decode cX3_copyFrom 16 = .ok (.aload_n 0, 1) := by decide +kernel
theorem dX3_copyFrom_17 : decode cX3_copyFrom 17 = .ok (.getfield 21, 3) := by decide +kernel
theorem dX3_copyFrom_20 : decode cX3_copyFrom 20 = .ok (.if_icmp .ge 22, 3) := by decide +kernel
theorem dX3_copyFrom_23 : decode cX3_copyFrom 23 = .ok (.aload_n 0, 1) := by decide +kernel
theorem dX3_copyFrom_24 : decode cX3_copyFrom 24 = .ok (.iload_n 2, 1) := by decide +kernel
theorem dX3_copyFrom_25 : decode cX3_copyFrom 25 = .ok (.invokevirtual 25, 3) := by decide +kernel
theorem dX3_copyFrom_28 : decode cX3_copyFrom 28 = .ok (.aload_n 1, 1) := by decide +kernel
theorem dX3_copyFrom_29 : decode cX3_copyFrom 29 = .ok (.iload_n 2, 1) := by decide +kernel
theorem dX3_copyFrom_30 : decode cX3_copyFrom 30 = .ok (.invokevirtual 25, 3) := by decide +kernel
theorem dX3_copyFrom_33 : decode cX3_copyFrom 33 = .ok (.invokevirtual 29, 3) := by decide +kernel
theorem dX3_copyFrom_36 : decode cX3_copyFrom 36 = .ok (.iinc 2 1, 3) := by decide +kernel
theorem dX3_copyFrom_39 : decode cX3_copyFrom 39 = .ok (.goto (-24), 3) := by decide +kernel
theorem dX3_copyFrom_42 : decode cX3_copyFrom 42 = .ok (.return_, 1) := by decide +kernel
theorem dX4_init_0 : decode cX4_init 0 = .ok (.aload_n 0, 1) := by decide +kernel
theorem dX4_init_1 : decode cX4_init 1 = .ok (.invokespecial 3, 3) := by decide +kernel
theorem dX4_init_4 : decode cX4_init 4 = .ok (.aload_n 0, 1) := by decide +kernel
theorem dX4_init_5 : decode cX4_init 5 = .ok (.new 9, 3) := by decide +kernel
theorem dX4_init_8 : decode cX4_init 8 = .ok (.dup, 1) := by decide +kernel
theorem dX4_init_9 : decode cX4_init 9 = .ok (.invokespecial 11, 3) := by decide +kernel
theorem dX4_init_12 : decode cX4_init 12 = .ok (.putfield 12, 3) := by decide +kernel
theorem dX4_init_15 : decode cX4_init 15 = .ok (.aload_n 0, 1) := by decide +kernel
theorem dX4_init_16 : decode cX4_init 16 = .ok (.bipush 80, 2) := by decide +kernel
theorem dX4_init_18 : decode cX4_init 18 = .ok (.newarray .int, 2) := by decide +kernel
theorem dX4_init_20 : decode cX4_init 20 = .ok (.putfield 18, 3) := by decide +kernel
theorem dX4_init_23 : decode cX4_init 23 = .ok (.aload_n 0, 1) := by decide +kernel
theorem dX4_init_24 : decode cX4_init 24 = .ok (.iconst 0, 1) := by decide +kernel
theorem dX4_init_25 : decode cX4_init 25 = .ok (.putfield 22, 3) := by decide +kernel
theorem dX4_init_28 : decode cX4_init 28 = .ok (.aload_n 0, 1) := by decide +kernel
theorem dX4_init_29 : decode cX4_init 29 = .ok (.iconst 0, 1) := by decide +kernel
theorem dX4_init_30 : decode cX4_init 30 = .ok (.putfield 26, 3) := by decide +kernel
theorem dX4_init_33 : decode cX4_init 33 = .ok (.aload_n 0, 1) := by decide +kernel
theorem dX4_init_34 : decode cX4_init 34 = .ok (.bipush 44, 2) := by decide +kernel
theorem dX4_init_36 : decode cX4_init 36 = .ok (.newarray .int, 2) := by decide +kernel
theorem dX4_init_38 : decode cX4_init 38 = .ok (.putfield 29, 3) := by decide +kernel
theorem dX4_init_41 : decode cX4_init 41 = .ok (.aload_n 0, 1) := by decide +kernel
theorem dX4_init_42 : decode cX4_init 42 = .ok (.bipush 44, 2) := by decide +kernel
theorem dX4_init_44 : decode cX4_init 44 = .ok (.newarray .int, 2) := by decide +kernel
theorem dX4_init_46 : decode cX4_init 46 = .ok (.putfield 32, 3) := by decide +kernel
theorem dX4_init_49 : decode cX4_init 49 = .ok (.aload_n 0, 1) := by decide +kernel
theorem dX4_init_50 : decode cX4_init 50 = .ok (.bipush 48, 2) := by decide +kernel
theorem dX4_init_52 : decode cX4_init 52 = .ok (.newarray .int, 2) := by decide +kernel
theorem dX4_init_54 : decode cX4_init 54 = .ok (.putfield 35, 3) := by decide +kernel
theorem dX4_init_57 : decode cX4_init 57 = .ok (.aload_n 0, 1) := by decide +kernel
theorem dX4_init_58 : decode cX4_init 58 = .ok (.iconst 0, 1) := by decide +kernel
theorem dX4_init_59 : decode cX4_init 59 = .ok (.putfield 38, 3) := by decide +kernel
theorem dX4_init_62 : decode cX4_init 62 = .ok (.aload_n 0, 1) := by decide +kernel
theorem dX4_init_63 : decode cX4_init 63 = .ok (.iconst 0, 1) := by decide +kernel
theorem dX4_init_64 : decode cX4_init 64 = .ok (.putfield 41, 3) := by decide +kernel
theorem dX4_init_67 : decode cX4_init 67 = .ok (.aload_n 0, 1) := by decide +kernel
theorem dX4_init_68 : decode cX4_init 68 = .ok (.iconst 0, 1) := by decide +kernel
theorem dX4_init_69 : decode cX4_init 69 = .ok (.putfield 44, 3) := by decide +kernel
theorem dX4_init_72 : decode cX4_init 72 = .ok (.aload_n 0, 1) := by decide +kernel
theorem dX4_init_73 : decode cX4_init 73 = .ok (.iconst 0, 1) := by decide +kernel
theorem dX4_init_74 : decode cX4_init 74 = .ok (.putfield 47, 3) := by decide +kernel
theorem dX4_init_77 : decode cX4_init 77 = .ok (.aload_n 0, 1) := by decide +kernel
theorem dX4_init_78 : decode cX4_init 78 = .ok (.bipush 8, 2) := by decide +kernel
theorem dX4_init_80 : decode cX4_init 80 = .ok (.newarray .int, 2) := by decide +kernel
theorem dX4_init_82 : decode cX4_init 82 = .ok (.putfield 50, 3) := by decide +kernel
theorem dX4_init_85 : decode cX4_init 85 = .ok (.return_, 1) := by decide +kernel
theorem dX4_copyFrom_0 : decode cX4_copyFrom 0 = .ok (.aload_n 0, 1) := by decide +kernel
theorem dX4_copyFrom_1 : decode cX4_copyFrom 1 = .ok (.getfield 12, 3) := by decide +kernel
theorem dX4_copyFrom_4 : decode cX4_copyFrom 4 = .ok (.aload_n 1, 1) := by decide +kernel
theorem dX4_copyFrom_5 : decode cX4_copyFrom 5 = .ok (.getfield 12, 3) := by decide +kernel
theorem dX4_copyFrom_8 : decode cX4_copyFrom 8 = .ok (.invokevirtual 53, 3) := by decide +kernel
theorem dX4_copyFrom_11 : decode cX4_copyFrom 11 = .ok (.aload_n 1, 1) := by decide +kernel
theorem dX4_copyFrom_12 : decode cX4_copyFrom 12 = .ok (.getfield 18, 3) := by decide +kernel
theorem dX4_copyFrom_15 : decode cX4_copyFrom 15 = .ok (.iconst 0, 1) := by decide +kernel
theorem dX4_copyFrom_16 : decode cX4_copyFrom 16 = .ok (.aload_n 0, 1) := by decide +kernel
theorem dX4_copyFrom_17 : decode cX4_copyFrom 17 = .ok (.getfield 18, 3) := by decide +kernel
theorem dX4_copyFrom_20 : decode cX4_copyFrom 20 = .ok (.iconst 0, 1) := by decide +kernel
theorem dX4_copyFrom_21 : decode cX4_copyFrom 21 = .ok (.bipush 80, 2) := by decide +kernel
theorem dX4_copyFrom_23 : decode cX4_copyFrom 23 = .ok (.invokestatic 57, 3) := by decide +kernel
theorem dX4_copyFrom_26 : decode cX4_copyFrom 26 = .ok (.aload_n 0, 1) := by decide +kernel
theorem dX4_copyFrom_27 : decode cX4_copyFrom 27 = .ok (.aload_n 1, 1) := by decide +kernel
theorem dX4_copyFrom_28 : decode cX4_copyFrom 28 = .ok (.getfield 22, 3) := by decide +kernel
theorem dX4_copyFrom_31 : decode cX4_copyFrom 31 = .ok (.putfield 22, 3) := by decide +kernel
theorem dX4_copyFrom_34 : decode cX4_copyFrom 34 = .ok (.aload_n 0, 1) := by decide +kernel
theorem dX4_copyFrom_35 : decode cX4_copyFrom 35 = .ok (.aload_n 1, 1) := by decide +kernel
theorem dX4_copyFrom_36 : decode cX4_copyFrom 36 = .ok (.getfield 26, 3) := by decide +kernel
theorem dX4_copyFrom_39 : decode cX4_copyFrom 39 = .ok (.putfield 26, 3) := by decide +kernel
theorem dX4_copyFrom_42 : decode cX4_copyFrom 42 = .ok (.aload_n 1, 1) := by decide +kernel
theorem dX4_copyFrom_43 : decode cX4_copyFrom 43 = .ok (.getfield 29, 3) := by decide +kernel
theorem dX4_copyFrom_46 : decode cX4_copyFrom 46 = .ok (.iconst 0, 1) := by decide +kernel
theorem dX4_copyFrom_47 : decode cX4_copyFrom 47 = .ok (.aload_n 0, 1) := by decide +kernel
theorem dX4_copyFrom_48 : decode cX4_copyFrom 48 = .ok (.getfield 29, 3) := by decide +kernel
theorem dX4_copyFrom_51 : decode cX4_copyFrom 51 = .ok (.iconst 0, 1) := by decide +kernel
theorem dX4_copyFrom_52 : decode cX4_copyFrom 52 = .ok (.bipush 44, 2) := by decide +kernel
theorem dX4_copyFrom_54 : decode cX4_copyFrom 54 = .ok (.invokestatic 57, 3) := by decide +kernel
theorem dX4_copyFrom_57 : decode cX4_copyFrom 57 = .ok (.aload_n 1, 1) := by decide +kernel
theorem dX4_copyFrom_58 : decode cX4_copyFrom 58 = .ok (.getfield 32, 3) := by decide +kernel
theorem dX4_copyFrom_61 : decode cX4_copyFrom 61 = .ok (.iconst 0, 1) := by decide +kernel
theorem dX4_copyFrom_62 : decode cX4_copyFrom 62 = .ok (.aload_n 0, 1) := by decide +kernel
theorem dX4_copyFrom_63 : decode cX4_copyFrom 63 = .ok (.getfield 32, 3) := by decide +kernel
theorem dX4_copyFrom_66 : decode cX4_copyFrom 66 = .ok (.iconst 0, 1) := by decide +kernel
theorem dX4_copyFrom_67 : decode cX4_copyFrom 67 = .ok (.bipush 44, 2) := by decide +kernel
theorem dX4_copyFrom_69 : decode cX4_copyFrom 69 = .ok (.invokestatic 57, 3) := by decide +kernel
theorem dX4_copyFrom_72 : decode cX4_copyFrom 72 = .ok (.aload_n 1, 1) := by decide +kernel
theorem dX4_copyFrom_73 : decode cX4_copyFrom 73 = .ok (.getfield 35, 3) := by decide +kernel
theorem dX4_copyFrom_76 : decode cX4_copyFrom 76 = .ok (.iconst 0, 1) := by decide +kernel
theorem dX4_copyFrom_77 : decode cX4_copyFrom 77 = .ok (.aload_n 0, 1) := by decide +kernel
theorem dX4_copyFrom_78 : decode cX4_copyFrom 78 = .ok (.getfield 35, 3) := by decide +kernel
theorem dX4_copyFrom_81 : decode cX4_copyFrom 81 = .ok (.iconst 0, 1) := by decide +kernel
theorem dX4_copyFrom_82 : decode cX4_copyFrom 82 = .ok (.aload_n 0, 1) := by decide +kernel
theorem dX4_copyFrom_83 : decode cX4_copyFrom 83 = .ok (.getfield 35, 3) := by decide +kernel
theorem dX4_copyFrom_86 : decode cX4_copyFrom 86 = .ok (.arraylength, 1) := by decide +kernel
theorem dX4_copyFrom_87 : decode cX4_copyFrom 87 = .ok (.invokestatic 57, 3) := by decide +kernel
theorem dX4_copyFrom_90 : decode cX4_copyFrom 90 = .ok (.aload_n 0, 1) := by decide +kernel
theorem dX4_copyFrom_91 : decode cX4_copyFrom 91 = .ok (.aload_n 1, 1) := by decide +kernel
theorem dX4_copyFrom_92 : decode cX4_copyFrom 92 = .ok (.getfield 38, 3) := by decide +kernel
theorem dX4_copyFrom_95 : decode cX4_copyFrom 95 = .ok (.putfield 38, 3) := by decide +kernel
theorem dX4_copyFrom_98 : decode cX4_copyFrom 98 = .ok (.aload_n 0, 1) := by decide +kernel
theorem dX4_copyFrom_99 : decode cX4_copyFrom 99 = .ok (.aload_n 1, 1) := by decide +kernel
theorem dX4_copyFrom_100 : decode cX4_copyFrom 100 = .ok (.getfield 41, 3) := by decide +kernel
theorem dX4_copyFrom_103 : decode cX4_copyFrom 103 = .ok (.putfield 41, 3) := by decide +kernel
theorem dX4_copyFrom_106 : decode cX4_copyFrom 106 = .ok (.aload_n 0, 1) := by decide +kernel
theorem dX4_copyFrom_107 : decode cX4_copyFrom 107 = .ok (.aload_n 1, 1) := by decide +kernel
theorem dX4_copyFrom_108 : decode cX4_copyFrom 108 = .ok (.getfield 44, 3) := by decide +kernel
theorem dX4_copyFrom_111 : decode cX4_copyFrom 111 = .ok (.putfield 44, 3) := by decide +kernel
theorem dX4_copyFrom_114 : decode cX4_copyFrom 114 = .ok (.aload_n 0, 1) := by decide +kernel
theorem dX4_copyFrom_115 : decode cX4_copyFrom 115 = .ok (.aload_n 1, 1) := by decide +kernel
theorem dX4_copyFrom_116 : decode cX4_copyFrom 116 = .ok (.getfield 47, 3) := by decide +kernel
theorem dX4_copyFrom_119 : decode cX4_copyFrom 119 = .ok (.putfield 47, 3) := by decide +kernel
theorem dX4_copyFrom_122 : decode cX4_copyFrom 122 = .ok (.aload_n 1, 1) := by decide +kernel
theorem dX4_copyFrom_123 : decode cX4_copyFrom 123 = .ok (.getfield 50, 3) := by decide +kernel
theorem dX4_copyFrom_126 : decode cX4_copyFrom 126 = .ok (.iconst 0, 1) := by decide +kernel
theorem dX4_copyFrom_127 : decode cX4_copyFrom 127 = .ok (.aload_n 0, 1) := by decide +kernel
theorem dX4_copyFrom_128 : decode cX4_copyFrom 128 = .ok (.getfield 50, 3) := by decide +kernel
theorem dX4_copyFrom_131 : decode cX4_copyFrom 131 = .ok (.iconst 0, 1) := by decide +kernel
theorem dX4_copyFrom_132 : decode cX4_copyFrom 132 = .ok (.bipush 8, 2) := by decide +kernel
theorem dX4_copyFrom_134 : decode cX4_copyFrom 134 = .ok (.invokestatic 57, 3) := by decide +kernel
theorem dX4_copyFrom_137 : decode cX4_copyFrom 137 = .ok (.return_, 1) := by decide +kernel
theorem dX4_settle_0 : decode cX4_settle 0 = .ok (.aload_n 1, 1) := by decide +kernel
theorem dX4_settle_1 : decode cX4_settle 1 = .ok (.bipush 20, 2) := by decide +kernel
theorem dX4_settle_3 : decode cX4_settle 3 = .ok (.aload_n 0, 1) := by decide +kernel
theorem dX4_settle_4 : decode cX4_settle 4 = .ok (.getfield 29, 3) := by decide +kernel
theorem dX4_settle_7 : decode cX4_settle 7 = .ok (.iconst 0, 1) := by decide +kernel
theorem dX4_settle_8 : decode cX4_settle 8 = .ok (.bipush 44, 2) := by decide +kernel
theorem dX4_settle_10 : decode cX4_settle 10 = .ok (.invokestatic 57, 3) := by decide +kernel
theorem dX4_settle_13 : decode cX4_settle 13 = .ok (.aload_n 1, 1) := by decide +kernel
theorem dX4_settle_14 : decode cX4_settle 14 = .ok (.bipush 20, 2) := by decide +kernel
theorem dX4_settle_16 : decode cX4_settle 16 = .ok (.aload_n 0, 1) := by decide +kernel
theorem dX4_settle_17 : decode cX4_settle 17 = .ok (.getfield 32, 3) := by decide +kernel
theorem dX4_settle_20 : decode cX4_settle 20 = .ok (.iconst 0, 1) := by decide +kernel
theorem dX4_settle_21 : decode cX4_settle 21 = .ok (.bipush 44, 2) := by decide +kernel
theorem dX4_settle_23 : decode cX4_settle 23 = .ok (.invokestatic 57, 3) := by decide +kernel
theorem dX4_settle_26 : decode cX4_settle 26 = .ok (.return_, 1) := by decide +kernel
theorem dX4_dropMicros_0 : decode cX4_dropMicros 0 = .ok (.aload_n 0, 1) := by decide +kernel
theorem dX4_dropMicros_1 : decode cX4_dropMicros 1 = .ok (.iconst 0, 1) := by decide +kernel
theorem dX4_dropMicros_2 : decode cX4_dropMicros 2 = .ok (.putfield 22, 3) := by decide +kernel
theorem dX4_dropMicros_5 : decode cX4_dropMicros 5 = .ok (.aload_n 0, 1) := by decide +kernel
theorem dX4_dropMicros_6 : decode cX4_dropMicros 6 = .ok (.iconst 0, 1) := by decide +kernel
theorem dX4_dropMicros_7 : decode cX4_dropMicros 7 = .ok (.putfield 26, 3) := by decide +kernel
theorem dX4_dropMicros_10 : decode cX4_dropMicros 10 = .ok (.return_, 1) := by decide +kernel
theorem dX4_microsLeft_0 : decode cX4_microsLeft 0 = .ok (.aload_n 0, 1) := by decide +kernel
theorem dX4_microsLeft_1 : decode cX4_microsLeft 1 = .ok (.getfield 26, 3) := by decide +kernel
theorem dX4_microsLeft_4 : decode cX4_microsLeft 4 = .ok (.aload_n 0, 1) := by decide +kernel
theorem dX4_microsLeft_5 : decode cX4_microsLeft 5 = .ok (.getfield 22, 3) := by decide +kernel
theorem dX4_microsLeft_8 : decode cX4_microsLeft 8 = .ok (.isub, 1) := by decide +kernel
theorem dX4_microsLeft_9 : decode cX4_microsLeft 9 = .ok (.ireturn, 1) := by decide +kernel
theorem dX4_isIdle_0 : decode cX4_isIdle 0 = .ok (.aload_n 0, 1) := by decide +kernel
theorem dX4_isIdle_1 : decode cX4_isIdle 1 = .ok (.getfield 22, 3) := by decide +kernel
theorem dX4_isIdle_4 : decode cX4_isIdle 4 = .ok (.aload_n 0, 1) := by decide +kernel
theorem dX4_isIdle_5 : decode cX4_isIdle 5 = .ok (.getfield 26, 3) := by decide +kernel
theorem dX4_isIdle_8 : decode cX4_isIdle 8 = .ok (.if_icmp .ne 7, 3) := by decide +kernel
theorem dX4_isIdle_11 : decode cX4_isIdle 11 = .ok (.iconst 1, 1) := by decide +kernel
theorem dX4_isIdle_12 : decode cX4_isIdle 12 = .ok (.goto 4, 3) := by decide +kernel
theorem dX4_isIdle_15 : decode cX4_isIdle 15 = .ok (.iconst 0, 1) := by decide +kernel
theorem dX4_isIdle_16 : decode cX4_isIdle 16 = .ok (.ireturn, 1) := by decide +kernel
theorem dX4_addWaiting_0 : decode cX4_addWaiting 0 = .ok (.aload_n 0, 1) := by decide +kernel
theorem dX4_addWaiting_1 : decode cX4_addWaiting 1 = .ok (.getfield 38, 3) := by decide +kernel
theorem dX4_addWaiting_4 : decode cX4_addWaiting 4 = .ok (.bipush 12, 2) := by decide +kernel
theorem dX4_addWaiting_6 : decode cX4_addWaiting 6 = .ok (.if_icmp .ge 48, 3) := by decide +kernel
theorem dX4_addWaiting_9 : decode cX4_addWaiting 9 = .ok (.iconst 0, 1) := by decide +kernel
theorem dX4_addWaiting_10 : decode cX4_addWaiting 10 = .ok (.istore_n 2, 1) := by decide +kernel
theorem dX4_addWaiting_11 : decode cX4_addWaiting 11 = .ok (.iload_n 2, 1) := by decide +kernel
theorem dX4_addWaiting_12 : decode cX4_addWaiting 12 = .ok (.iconst 4, 1) := by decide +kernel
theorem dX4_addWaiting_13 : decode cX4_addWaiting 13 = .ok (.if_icmp .ge 31, 3) := by decide +kernel
theorem dX4_addWaiting_16 : decode cX4_addWaiting 16 = .ok (.aload_n 0, 1) := by decide +kernel
theorem dX4_addWaiting_17 : decode cX4_addWaiting 17 = .ok (.getfield 35, 3) := by decide +kernel
theorem dX4_addWaiting_20 : decode cX4_addWaiting 20 = .ok (.aload_n 0, 1) := by decide +kernel
theorem dX4_addWaiting_21 : decode cX4_addWaiting 21 = .ok (.getfield 38, 3) := by decide +kernel
theorem dX4_addWaiting_24 : decode cX4_addWaiting 24 = .ok (.iconst 4, 1) := by decide +kernel
theorem dX4_addWaiting_25 : decode cX4_addWaiting 25 = .ok (.imul, 1) := by decide +kernel
theorem dX4_addWaiting_26 : decode cX4_addWaiting 26 = .ok (.iload_n 2, 1) := by decide +kernel
theorem dX4_addWaiting_27 : decode cX4_addWaiting 27 = .ok (.iadd, 1) := by decide +kernel
theorem dX4_addWaiting_28 : decode cX4_addWaiting 28 = .ok (.iload_n 2, 1) := by decide +kernel
theorem dX4_addWaiting_29 : decode cX4_addWaiting 29 = .ok (.ifCond .ne 7, 3) := by decide +kernel
theorem dX4_addWaiting_32 : decode cX4_addWaiting 32 = .ok (.iload_n 1, 1) := by decide +kernel
theorem dX4_addWaiting_33 : decode cX4_addWaiting 33 = .ok (.goto 4, 3) := by decide +kernel
theorem dX4_addWaiting_36 : decode cX4_addWaiting 36 = .ok (.iconst 0, 1) := by decide +kernel
theorem dX4_addWaiting_37 : decode cX4_addWaiting 37 = .ok (.iastore, 1) := by decide +kernel
theorem dX4_addWaiting_38 : decode cX4_addWaiting 38 = .ok (.iinc 2 1, 3) := by decide +kernel
theorem dX4_addWaiting_41 : decode cX4_addWaiting 41 = .ok (.goto (-30), 3) := by decide +kernel
theorem dX4_addWaiting_44 : decode cX4_addWaiting 44 = .ok (.aload_n 0, 1) := by decide +kernel
theorem dX4_addWaiting_45 : decode cX4_addWaiting 45 = .ok (.dup, 1) := by decide +kernel
theorem dX4_addWaiting_46 : decode cX4_addWaiting 46 = .ok (.getfield 38, 3) := by decide +kernel
theorem dX4_addWaiting_49 : decode cX4_addWaiting 49 = .ok (.iconst 1, 1) := by decide +kernel
theorem dX4_addWaiting_50 : decode cX4_addWaiting 50 = .ok (.iadd, 1) := by decide +kernel
theorem dX4_addWaiting_51 : decode cX4_addWaiting 51 = .ok (.putfield 38, 3) := by decide +kernel
theorem dX4_addWaiting_54 : decode cX4_addWaiting 54 = .ok (.return_, 1) := by decide +kernel
theorem dX4_takeWaiting_0 : decode cX4_takeWaiting 0 = .ok (.aload_n 0, 1) := by decide +kernel
theorem dX4_takeWaiting_1 : decode cX4_takeWaiting 1 = .ok (.dup, 1) := by decide +kernel
theorem dX4_takeWaiting_2 : decode cX4_takeWaiting 2 = .ok (.getfield 38, 3) := by decide +kernel
theorem dX4_takeWaiting_5 : decode cX4_takeWaiting 5 = .ok (.iconst 1, 1) := by decide +kernel
theorem dX4_takeWaiting_6 : decode cX4_takeWaiting 6 = .ok (.isub, 1) := by decide +kernel
theorem dX4_takeWaiting_7 : decode cX4_takeWaiting 7 = .ok (.putfield 38, 3) := by decide +kernel
theorem dX4_takeWaiting_10 : decode cX4_takeWaiting 10 = .ok (.aload_n 0, 1) := by decide +kernel
theorem dX4_takeWaiting_11 : decode cX4_takeWaiting 11 = .ok (.getfield 35, 3) := by decide +kernel
theorem dX4_takeWaiting_14 : decode cX4_takeWaiting 14 = .ok (.iconst 4, 1) := by decide +kernel
theorem dX4_takeWaiting_15 : decode cX4_takeWaiting 15 = .ok (.aload_n 0, 1) := by decide +kernel
theorem dX4_takeWaiting_16 : decode cX4_takeWaiting 16 = .ok (.getfield 35, 3) := by decide +kernel
theorem dX4_takeWaiting_19 : decode cX4_takeWaiting 19 = .ok (.iconst 0, 1) := by decide +kernel
theorem dX4_takeWaiting_20 : decode cX4_takeWaiting 20 = .ok (.aload_n 0, 1) := by decide +kernel
theorem dX4_takeWaiting_21 : decode cX4_takeWaiting 21 = .ok (.getfield 38, 3) := by decide +kernel
theorem dX4_takeWaiting_24 : decode cX4_takeWaiting 24 = .ok (.iconst 4, 1) := by decide +kernel
theorem dX4_takeWaiting_25 : decode cX4_takeWaiting 25 = .ok (.imul, 1) := by decide +kernel
theorem dX4_takeWaiting_26 : decode cX4_takeWaiting 26 = .ok (.invokestatic 57, 3) := by decide +kernel
theorem dX4_takeWaiting_29 : decode cX4_takeWaiting 29 = .ok (.return_, 1) := by decide +kernel
theorem dX4_isReady_0 : decode cX4_isReady 0 = .ok (.aload_n 0, 1) := by decide +kernel
theorem dX4_isReady_1 : decode cX4_isReady 1 = .ok (.getfield 41, 3) := by decide +kernel
theorem dX4_isReady_4 : decode cX4_isReady 4 = .ok (.ifCond .ne 10, 3) := by decide +kernel
theorem dX4_isReady_7 : decode cX4_isReady 7 = .ok (.aload_n 0, 1) := by decide +kernel
theorem dX4_isReady_8 : decode cX4_isReady 8 = .ok (.invokevirtual 63, 3) := by decide +kernel
theorem dX4_isReady_11 : decode cX4_isReady 11 = .ok (.ifCond .ne 5, 3) := by decide +kernel
theorem dX4_isReady_14 : decode cX4_isReady 14 = .ok (.iconst 0, 1) := by decide +kernel
theorem dX4_isReady_15 : decode cX4_isReady 15 = .ok (.ireturn, 1) := by decide +kernel
theorem dX4_isReady_16 : decode cX4_isReady 16 = .ok (.iconst 0, 1) := by decide +kernel
theorem dX4_isReady_17 : decode cX4_isReady 17 = .ok (.istore_n 2, 1) := by decide +kernel
theorem dX4_isReady_18 : decode cX4_isReady 18 = .ok (.iload_n 2, 1) := by decide +kernel
theorem dX4_isReady_19 : decode cX4_isReady 19 = .ok (.aload_n 0, 1) := by decide +kernel
theorem dX4_isReady_20 : decode cX4_isReady 20 = .ok (.getfield 38, 3) := by decide +kernel
theorem dX4_isReady_23 : decode cX4_isReady 23 = .ok (.if_icmp .ge 27, 3) := by decide +kernel
theorem dX4_isReady_26 : decode cX4_isReady 26 = .ok (.aload_n 1, 1) := by decide +kernel
theorem dX4_isReady_27 : decode cX4_isReady 27 = .ok (.aload_n 0, 1) := by decide +kernel
theorem dX4_isReady_28 : decode cX4_isReady 28 = .ok (.getfield 12, 3) := by decide +kernel
theorem dX4_isReady_31 : decode cX4_isReady 31 = .ok (.aload_n 0, 1) := by decide +kernel
theorem dX4_isReady_32 : decode cX4_isReady 32 = .ok (.getfield 35, 3) := by decide +kernel
theorem dX4_isReady_35 : decode cX4_isReady 35 = .ok (.iload_n 2, 1) := by decide +kernel
theorem dX4_isReady_36 : decode cX4_isReady 36 = .ok (.invokevirtual 67, 3) := by decide +kernel
theorem dX4_isReady_39 : decode cX4_isReady 39 = .ok (.ifCond .eq 5, 3) := by decide +kernel
theorem dX4_isReady_42 : decode cX4_isReady 42 = .ok (.iconst 1, 1) := by decide +kernel
theorem dX4_isReady_43 : decode cX4_isReady 43 = .ok (.ireturn, 1) := by decide +kernel
theorem dX4_isReady_44 : decode cX4_isReady 44 = .ok (.iinc 2 1, 3) := by decide +kernel
theorem dX4_isReady_47 : decode cX4_isReady 47 = .ok (.goto (-29), 3) := by decide +kernel
theorem dX4_isReady_50 : decode cX4_isReady 50 = .ok (.iconst 0, 1) := by decide +kernel
theorem dX4_isReady_51 : decode cX4_isReady 51 = .ok (.ireturn, 1) := by decide +kernel
theorem dX4_canStep_0 : decode cX4_canStep 0 = .ok (.aload_n 0, 1) := by decide +kernel
theorem dX4_canStep_1 : decode cX4_canStep 1 = .ok (.invokevirtual 63, 3) := by decide +kernel
theorem dX4_canStep_4 : decode cX4_canStep 4 = .ok (.ifCond .eq 11, 3) := by decide +kernel
theorem dX4_canStep_7 : decode cX4_canStep 7 = .ok (.aload_n 0, 1) := by decide +kernel
theorem dX4_canStep_8 : decode cX4_canStep 8 = .ok (.aload_n 1, 1) := by decide +kernel
theorem dX4_canStep_9 : decode cX4_canStep 9 = .ok (.invokevirtual 73, 3) := by decide +kernel
theorem dX4_canStep_12 : decode cX4_canStep 12 = .ok (.ifCond .eq 7, 3) := by decide +kernel
theorem dX4_canStep_15 : decode cX4_canStep 15 = .ok (.iconst 1, 1) := by decide +kernel
theorem dX4_canStep_16 : decode cX4_canStep 16 = .ok (.goto 4, 3) := by decide +kernel
theorem dX4_canStep_19 : decode cX4_canStep 19 = .ok (.iconst 0, 1) := by decide +kernel
theorem dX4_canStep_20 : decode cX4_canStep 20 = .ok (.ireturn, 1) := by decide +kernel
theorem dX4_step_0 : decode cX4_step 0 = .ok (.iconst 0, 1) := by decide +kernel
theorem dX4_step_1 : decode cX4_step 1 = .ok (.istore_n 2, 1) := by decide +kernel
theorem dX4_step_2 : decode cX4_step 2 = .ok (.iload_n 2, 1) := by decide +kernel
theorem dX4_step_3 : decode cX4_step 3 = .ok (.bipush 12, 2) := by decide +kernel
theorem dX4_step_5 : decode cX4_step 5 = .ok (.if_icmp .ge 70, 3) := by decide +kernel
theorem dX4_step_8 : decode cX4_step 8 = .ok (.aload_n 0, 1) := by decide +kernel
theorem dX4_step_9 : decode cX4_step 9 = .ok (.getfield 41, 3) := by decide +kernel
theorem dX4_step_12 : decode cX4_step 12 = .ok (.ifCond .ne 63, 3) := by decide +kernel
theorem dX4_step_15 : decode cX4_step 15 = .ok (.aload_n 0, 1) := by decide +kernel
theorem dX4_step_16 : decode cX4_step 16 = .ok (.invokevirtual 63, 3) := by decide +kernel
theorem dX4_step_19 : decode cX4_step 19 = .ok (.ifCond .eq 56, 3) := by decide +kernel
theorem dX4_step_22 : decode cX4_step 22 = .ok (.aload_n 0, 1) := by decide +kernel
theorem dX4_step_23 : decode cX4_step 23 = .ok (.getfield 38, 3) := by decide +kernel
theorem dX4_step_26 : decode cX4_step 26 = .ok (.ifCond .le 49, 3) := by decide +kernel
theorem dX4_step_29 : decode cX4_step 29 = .ok (.aload_n 1, 1) := by decide +kernel
theorem dX4_step_30 : decode cX4_step 30 = .ok (.aload_n 0, 1) := by decide +kernel
theorem dX4_step_31 : decode cX4_step 31 = .ok (.getfield 12, 3) := by decide +kernel
theorem dX4_step_34 : decode cX4_step 34 = .ok (.aload_n 0, 1) := by decide +kernel
theorem dX4_step_35 : decode cX4_step 35 = .ok (.getfield 35, 3) := by decide +kernel
theorem dX4_step_38 : decode cX4_step 38 = .ok (.iconst 0, 1) := by decide +kernel
theorem dX4_step_39 : decode cX4_step 39 = .ok (.invokevirtual 67, 3) := by decide +kernel
theorem dX4_step_42 : decode cX4_step 42 = .ok (.istore_n 3, 1) := by decide +kernel
theorem dX4_step_43 : decode cX4_step 43 = .ok (.aload_n 0, 1) := by decide +kernel
theorem dX4_step_44 : decode cX4_step 44 = .ok (.invokevirtual 77, 3) := by decide +kernel
theorem dX4_step_47 : decode cX4_step 47 = .ok (.iload_n 3, 1) := by decide +kernel
theorem dX4_step_48 : decode cX4_step 48 = .ok (.ifCond .eq 11, 3) := by decide +kernel
theorem dX4_step_51 : decode cX4_step 51 = .ok (.aload_n 0, 1) := by decide +kernel
theorem dX4_step_52 : decode cX4_step 52 = .ok (.aload_n 1, 1) := by decide +kernel
theorem dX4_step_53 : decode cX4_step 53 = .ok (.invokevirtual 80, 3) := by decide +kernel
theorem dX4_step_56 : decode cX4_step 56 = .ok (.goto 13, 3) := by decide +kernel
theorem dX4_step_59 : decode cX4_step 59 = .ok (.aload_n 0, 1) := by decide +kernel
theorem dX4_step_60 : decode cX4_step 60 = .ok (.getfield 50, 3) := by decide +kernel
theorem dX4_step_63 : decode cX4_step 63 = .ok (.iconst 1, 1) := by decide +kernel
theorem dX4_step_64 : decode cX4_step 64 = .ok (.dup2, 1) := by decide +kernel
theorem dX4_step_65 : decode cX4_step 65 = .ok (.iaload, 1) := by decide +kernel
theorem dX4_step_66 : decode cX4_step 66 = .ok (.iconst 1, 1) := by decide +kernel
theorem dX4_step_67 : decode cX4_step 67 = .ok (.iadd, 1) := by decide +kernel
theorem dX4_step_68 : decode cX4_step 68 = .ok (.iastore, 1) := by decide +kernel
theorem dX4_step_69 : decode cX4_step 69 = .ok (.iinc 2 1, 3) := by decide +kernel
theorem dX4_step_72 : decode cX4_step 72 = .ok (.goto (-70), 3) := by decide +kernel
theorem dX4_step_75 : decode cX4_step 75 = .ok (.aload_n 0, 1) := by decide +kernel
theorem dX4_step_76 : decode cX4_step 76 = .ok (.invokevirtual 63, 3) := by decide +kernel
theorem dX4_step_79 : decode cX4_step 79 = .ok (.ifCond .eq 5, 3) := by decide +kernel
theorem dX4_step_82 : decode cX4_step 82 = .ok (.iconst 0, 1) := by decide +kernel
theorem dX4_step_83 : decode cX4_step 83 = .ok (.ireturn, 1) := by decide +kernel
theorem dX4_step_84 : decode cX4_step 84 = .ok (.aload_n 0, 1) := by decide +kernel
theorem dX4_step_85 : decode cX4_step 85 = .ok (.aload_n 0, 1) := by decide +kernel
theorem dX4_step_86 : decode cX4_step 86 = .ok (.getfield 18, 3) := by decide +kernel
theorem dX4_step_89 : decode cX4_step 89 = .ok (.aload_n 0, 1) := by decide +kernel
theorem dX4_step_90 : decode cX4_step 90 = .ok (.getfield 22, 3) := by decide +kernel
theorem dX4_step_93 : decode cX4_step 93 = .ok (.iaload, 1) := by decide +kernel
theorem dX4_step_94 : decode cX4_step 94 = .ok (.invokevirtual 84, 3) := by decide +kernel
theorem dX4_step_97 : decode cX4_step 97 = .ok (.aload_n 0, 1) := by decide +kernel
theorem dX4_step_98 : decode cX4_step 98 = .ok (.dup, 1) := by decide +kernel
theorem dX4_step_99 : decode cX4_step 99 = .ok (.getfield 22, 3) := by decide +kernel
theorem dX4_step_102 : decode cX4_step 102 = .ok (.iconst 1, 1) := by decide +kernel
theorem dX4_step_103 : decode cX4_step 103 = .ok (.iadd, 1) := by decide +kernel
theorem dX4_step_104 : decode cX4_step 104 = .ok (.putfield 22, 3) := by decide +kernel
theorem dX4_step_107 : decode cX4_step 107 = .ok (.aload_n 0, 1) := by decide +kernel
theorem dX4_step_108 : decode cX4_step 108 = .ok (.getfield 50, 3) := by decide +kernel
theorem dX4_step_111 : decode cX4_step 111 = .ok (.iconst 4, 1) := by decide +kernel
theorem dX4_step_112 : decode cX4_step 112 = .ok (.dup2, 1) := by decide +kernel
theorem dX4_step_113 : decode cX4_step 113 = .ok (.iaload, 1) := by decide +kernel
theorem dX4_step_114 : decode cX4_step 114 = .ok (.iconst 1, 1) := by decide +kernel
theorem dX4_step_115 : decode cX4_step 115 = .ok (.iadd, 1) := by decide +kernel
theorem dX4_step_116 : decode cX4_step 116 = .ok (.iastore, 1) := by decide +kernel
theorem dX4_step_117 : decode cX4_step 117 = .ok (.aload_n 0, 1) := by decide +kernel
theorem dX4_step_118 : decode cX4_step 118 = .ok (.invokevirtual 63, 3) := by decide +kernel
theorem dX4_step_121 : decode cX4_step 121 = .ok (.ifCond .eq 7, 3) := by decide +kernel
theorem dX4_step_124 : decode cX4_step 124 = .ok (.aload_n 0, 1) := by decide +kernel
theorem dX4_step_125 : decode cX4_step 125 = .ok (.invokevirtual 88, 3) := by decide +kernel
theorem dX4_step_128 : decode cX4_step 128 = .ok (.iconst 1, 1) := by decide +kernel
theorem dX4_step_129 : decode cX4_step 129 = .ok (.ireturn, 1) := by decide +kernel
theorem dX4_doMicro_0 : decode cX4_doMicro 0 = .ok (.iload_n 1, 1) := by decide +kernel
theorem dX4_doMicro_1 : decode cX4_doMicro 1 = .ok (.sipush 10000, 3) := by decide +kernel
theorem dX4_doMicro_4 : decode cX4_doMicro 4 = .ok (.idiv, 1) := by decide +kernel
theorem dX4_doMicro_5 : decode cX4_doMicro 5 = .ok (.istore_n 2, 1) := by decide +kernel
theorem dX4_doMicro_6 : decode cX4_doMicro 6 = .ok (.iload_n 1, 1) := by decide +kernel
theorem dX4_doMicro_7 : decode cX4_doMicro 7 = .ok (.sipush 10000, 3) := by decide +kernel
theorem dX4_doMicro_10 : decode cX4_doMicro 10 = .ok (.irem, 1) := by decide +kernel
theorem dX4_doMicro_11 : decode cX4_doMicro 11 = .ok (.bipush 100, 2) := by decide +kernel
theorem dX4_doMicro_13 : decode cX4_doMicro 13 = .ok (.idiv, 1) := by decide +kernel
theorem dX4_doMicro_14 : decode cX4_doMicro 14 = .ok (.istore_n 3, 1) := by decide +kernel
theorem dX4_doMicro_15 : decode cX4_doMicro 15 = .ok (.iload_n 2, 1) := by decide +kernel
theorem dX4_doMicro_16 : decode cX4_doMicro 16 = .ok (.ifCond .ne 18, 3) := by decide +kernel
theorem dX4_doMicro_19 : decode cX4_doMicro 19 = .ok (.aload_n 0, 1) := by decide +kernel
theorem dX4_doMicro_20 : decode cX4_doMicro 20 = .ok (.getfield 12, 3) := by decide +kernel
theorem dX4_doMicro_23 : decode cX4_doMicro 23 = .ok (.iload_n 3, 1) := by decide +kernel
theorem dX4_doMicro_24 : decode cX4_doMicro 24 = .ok (.iload_n 1, 1) := by decide +kernel
theorem dX4_doMicro_25 : decode cX4_doMicro 25 = .ok (.bipush 100, 2) := by decide +kernel
theorem dX4_doMicro_27 : decode cX4_doMicro 27 = .ok (.irem, 1) := by decide +kernel
theorem dX4_doMicro_28 : decode cX4_doMicro 28 = .ok (.invokevirtual 91, 3) := by decide +kernel
theorem dX4_doMicro_31 : decode cX4_doMicro 31 = .ok (.goto 26, 3) := by decide +kernel
theorem dX4_doMicro_34 : decode cX4_doMicro 34 = .ok (.iload_n 2, 1) := by decide +kernel
theorem dX4_doMicro_35 : decode cX4_doMicro 35 = .ok (.iconst 1, 1) := by decide +kernel
theorem dX4_doMicro_36 : decode cX4_doMicro 36 = .ok (.if_icmp .ne 14, 3) := by decide +kernel
theorem dX4_doMicro_39 : decode cX4_doMicro 39 = .ok (.aload_n 0, 1) := by decide +kernel
theorem dX4_doMicro_40 : decode cX4_doMicro 40 = .ok (.getfield 12, 3) := by decide +kernel
theorem dX4_doMicro_43 : decode cX4_doMicro 43 = .ok (.iload_n 3, 1) := by decide +kernel
theorem dX4_doMicro_44 : decode cX4_doMicro 44 = .ok (.invokevirtual 95, 3) := by decide +kernel
theorem dX4_doMicro_47 : decode cX4_doMicro 47 = .ok (.goto 10, 3) := by decide +kernel
theorem dX4_doMicro_50 : decode cX4_doMicro 50 = .ok (.aload_n 0, 1) := by decide +kernel
theorem dX4_doMicro_51 : decode cX4_doMicro 51 = .ok (.getfield 12, 3) := by decide +kernel
theorem dX4_doMicro_54 : decode cX4_doMicro 54 = .ok (.invokevirtual 98, 3) := by decide +kernel
theorem dX4_doMicro_57 : decode cX4_doMicro 57 = .ok (.aload_n 0, 1) := by decide +kernel
theorem dX4_doMicro_58 : decode cX4_doMicro 58 = .ok (.getfield 50, 3) := by decide +kernel
theorem dX4_doMicro_61 : decode cX4_doMicro 61 = .ok (.iconst 5, 1) := by decide +kernel
theorem dX4_doMicro_62 : decode cX4_doMicro 62 = .ok (.iload_n 2, 1) := by decide +kernel
theorem dX4_doMicro_63 : decode cX4_doMicro 63 = .ok (.iadd, 1) := by decide +kernel
theorem dX4_doMicro_64 : decode cX4_doMicro 64 = .ok (.dup2, 1) := by decide +kernel
theorem dX4_doMicro_65 : decode cX4_doMicro 65 = .ok (.iaload, 1) := by decide +kernel
theorem dX4_doMicro_66 : decode cX4_doMicro 66 = .ok (.iconst 1, 1) := by decide +kernel
theorem dX4_doMicro_67 : decode cX4_doMicro 67 = .ok (.iadd, 1) := by decide +kernel
theorem dX4_doMicro_68 : decode cX4_doMicro 68 = .ok (.iastore, 1) := by decide +kernel
theorem dX4_doMicro_69 : decode cX4_doMicro 69 = .ok (.return_, 1) := by decide +kernel
theorem dX4_finish_0 : decode cX4_finish 0 = .ok (.aload_n 0, 1) := by decide +kernel
theorem dX4_finish_1 : decode cX4_finish 1 = .ok (.getfield 41, 3) := by decide +kernel
theorem dX4_finish_4 : decode cX4_finish 4 = .ok (.ifCond .ne 28, 3) := by decide +kernel
theorem dX4_finish_7 : decode cX4_finish 7 = .ok (.aload_n 0, 1) := by decide +kernel
theorem dX4_finish_8 : decode cX4_finish 8 = .ok (.getfield 50, 3) := by decide +kernel
theorem dX4_finish_11 : decode cX4_finish 11 = .ok (.iconst 0, 1) := by decide +kernel
theorem dX4_finish_12 : decode cX4_finish 12 = .ok (.dup2, 1) := by decide +kernel
theorem dX4_finish_13 : decode cX4_finish 13 = .ok (.iaload, 1) := by decide +kernel
theorem dX4_finish_14 : decode cX4_finish 14 = .ok (.iconst 1, 1) := by decide +kernel
theorem dX4_finish_15 : decode cX4_finish 15 = .ok (.iadd, 1) := by decide +kernel
theorem dX4_finish_16 : decode cX4_finish 16 = .ok (.iastore, 1) := by decide +kernel
theorem dX4_finish_17 : decode cX4_finish 17 = .ok (.aload_n 0, 1) := by decide +kernel
theorem dX4_finish_18 : decode cX4_finish 18 = .ok (.getfield 32, 3) := by decide +kernel
theorem dX4_finish_21 : decode cX4_finish 21 = .ok (.iconst 0, 1) := by decide +kernel
theorem dX4_finish_22 : decode cX4_finish 22 = .ok (.aload_n 0, 1) := by decide +kernel
theorem dX4_finish_23 : decode cX4_finish 23 = .ok (.getfield 29, 3) := by decide +kernel
theorem dX4_finish_26 : decode cX4_finish 26 = .ok (.iconst 0, 1) := by decide +kernel
theorem dX4_finish_27 : decode cX4_finish 27 = .ok (.bipush 44, 2) := by decide +kernel
theorem dX4_finish_29 : decode cX4_finish 29 = .ok (.invokestatic 57, 3) := by decide +kernel
theorem dX4_finish_32 : decode cX4_finish 32 = .ok (.aload_n 0, 1) := by decide +kernel
theorem dX4_finish_33 : decode cX4_finish 33 = .ok (.iconst 0, 1) := by decide +kernel
theorem dX4_finish_34 : decode cX4_finish 34 = .ok (.putfield 41, 3) := by decide +kernel
theorem dX4_finish_37 : decode cX4_finish 37 = .ok (.return_, 1) := by decide +kernel
theorem dX4_begin_0 : decode cX4_begin 0 = .ok (.aload_n 1, 1) := by decide +kernel
theorem dX4_begin_1 : decode cX4_begin 1 = .ok (.getfield 101, 3) := by decide +kernel
theorem dX4_begin_4 : decode cX4_begin 4 = .ok (.bipush 20, 2) := by decide +kernel
theorem dX4_begin_6 : decode cX4_begin 6 = .ok (.aload_n 0, 1) := by decide +kernel
theorem dX4_begin_7 : decode cX4_begin 7 = .ok (.getfield 32, 3) := by decide +kernel
theorem dX4_begin_10 : decode cX4_begin 10 = .ok (.iconst 0, 1) := by decide +kernel
theorem dX4_begin_11 : decode cX4_begin 11 = .ok (.bipush 44, 2) := by decide +kernel
theorem dX4_begin_13 : decode cX4_begin 13 = .ok (.invokestatic 57, 3) := by decide +kernel
theorem dX4_begin_16 : decode cX4_begin 16 = .ok (.aload_n 0, 1) := by decide +kernel
theorem dX4_begin_17 : decode cX4_begin 17 = .ok (.invokevirtual 104, 3) := by decide +kernel
theorem dX4_begin_20 : decode cX4_begin 20 = .ok (.aload_n 0, 1) := by decide +kernel
theorem dX4_begin_21 : decode cX4_begin 21 = .ok (.getfield 44, 3) := by decide +kernel
theorem dX4_begin_24 : decode cX4_begin 24 = .ok (.ifCond .ne 11, 3) := by decide +kernel
theorem dX4_begin_27 : decode cX4_begin 27 = .ok (.aload_n 0, 1) := by decide +kernel
theorem dX4_begin_28 : decode cX4_begin 28 = .ok (.aload_n 1, 1) := by decide +kernel
theorem dX4_begin_29 : decode cX4_begin 29 = .ok (.invokevirtual 107, 3) := by decide +kernel
theorem dX4_begin_32 : decode cX4_begin 32 = .ok (.goto 8, 3) := by decide +kernel
theorem dX4_begin_35 : decode cX4_begin 35 = .ok (.aload_n 0, 1) := by decide +kernel
theorem dX4_begin_36 : decode cX4_begin 36 = .ok (.aload_n 1, 1) := by decide +kernel
theorem dX4_begin_37 : decode cX4_begin 37 = .ok (.invokevirtual 110, 3) := by decide +kernel
theorem dX4_begin_40 : decode cX4_begin 40 = .ok (.aload_n 0, 1) := by decide +kernel
theorem dX4_begin_41 : decode cX4_begin 41 = .ok (.aload_n 1, 1) := by decide +kernel
theorem dX4_begin_42 : decode cX4_begin 42 = .ok (.invokevirtual 113, 3) := by decide +kernel
theorem dX4_begin_45 : decode cX4_begin 45 = .ok (.return_, 1) := by decide +kernel
theorem dX4_addUndoing_0 : decode cX4_addUndoing 0 = .ok (.iconst 0, 1) := by decide +kernel
theorem dX4_addUndoing_1 : decode cX4_addUndoing 1 = .ok (.istore_n 2, 1) := by decide +kernel
theorem dX4_addUndoing_2 : decode cX4_addUndoing 2 = .ok (.iload_n 2, 1) := by decide +kernel
theorem dX4_addUndoing_3 : decode cX4_addUndoing 3 = .ok (.aload_n 1, 1) := by decide +kernel
theorem dX4_addUndoing_4 : decode cX4_addUndoing 4 = .ok (.getfield 116, 3) := by decide +kernel
theorem dX4_addUndoing_7 : decode cX4_addUndoing 7 = .ok (.if_icmp .ge 52, 3) := by decide +kernel
theorem dX4_addUndoing_10 : decode cX4_addUndoing 10 = .ok (.aload_n 0, 1) := by decide +kernel
theorem dX4_addUndoing_11 : decode cX4_addUndoing 11 = .ok (.iload_n 2, 1) := by decide +kernel
theorem dX4_addUndoing_12 : decode cX4_addUndoing 12 = .ok (.aload_n 1, 1) := by decide +kernel
theorem dX4_addUndoing_13 : decode cX4_addUndoing 13 = .ok (.getfield 119, 3) := by decide +kernel
theorem dX4_addUndoing_16 : decode cX4_addUndoing 16 = .ok (.iload_n 2, 1) := by decide +kernel
theorem dX4_addUndoing_17 : decode cX4_addUndoing 17 = .ok (.iaload, 1) := by decide +kernel
theorem dX4_addUndoing_18 : decode cX4_addUndoing 18 = .ok (.aload_n 1, 1) := by decide +kernel
theorem dX4_addUndoing_19 : decode cX4_addUndoing 19 = .ok (.getfield 122, 3) := by decide +kernel
theorem dX4_addUndoing_22 : decode cX4_addUndoing 22 = .ok (.iload_n 2, 1) := by decide +kernel
theorem dX4_addUndoing_23 : decode cX4_addUndoing 23 = .ok (.iaload, 1) := by decide +kernel
theorem dX4_addUndoing_24 : decode cX4_addUndoing 24 = .ok (.invokevirtual 125, 3) := by decide +kernel
theorem dX4_addUndoing_27 : decode cX4_addUndoing 27 = .ok (.aload_n 0, 1) := by decide +kernel
theorem dX4_addUndoing_28 : decode cX4_addUndoing 28 = .ok (.iload_n 2, 1) := by decide +kernel
theorem dX4_addUndoing_29 : decode cX4_addUndoing 29 = .ok (.iconst 1, 1) := by decide +kernel
theorem dX4_addUndoing_30 : decode cX4_addUndoing 30 = .ok (.iadd, 1) := by decide +kernel
theorem dX4_addUndoing_31 : decode cX4_addUndoing 31 = .ok (.iconst 0, 1) := by decide +kernel
theorem dX4_addUndoing_32 : decode cX4_addUndoing 32 = .ok (.iconst 1, 1) := by decide +kernel
theorem dX4_addUndoing_33 : decode cX4_addUndoing 33 = .ok (.invokevirtual 129, 3) := by decide +kernel
theorem dX4_addUndoing_36 : decode cX4_addUndoing 36 = .ok (.aload_n 0, 1) := by decide +kernel
theorem dX4_addUndoing_37 : decode cX4_addUndoing 37 = .ok (.iconst 0, 1) := by decide +kernel
theorem dX4_addUndoing_38 : decode cX4_addUndoing 38 = .ok (.aload_n 1, 1) := by decide +kernel
theorem dX4_addUndoing_39 : decode cX4_addUndoing 39 = .ok (.getfield 119, 3) := by decide +kernel
theorem dX4_addUndoing_42 : decode cX4_addUndoing 42 = .ok (.iload_n 2, 1) := by decide +kernel
theorem dX4_addUndoing_43 : decode cX4_addUndoing 43 = .ok (.iaload, 1) := by decide +kernel
theorem dX4_addUndoing_44 : decode cX4_addUndoing 44 = .ok (.aload_n 1, 1) := by decide +kernel
theorem dX4_addUndoing_45 : decode cX4_addUndoing 45 = .ok (.getfield 132, 3) := by decide +kernel
theorem dX4_addUndoing_48 : decode cX4_addUndoing 48 = .ok (.iload_n 2, 1) := by decide +kernel
theorem dX4_addUndoing_49 : decode cX4_addUndoing 49 = .ok (.iaload, 1) := by decide +kernel
theorem dX4_addUndoing_50 : decode cX4_addUndoing 50 = .ok (.invokevirtual 135, 3) := by decide +kernel
theorem dX4_addUndoing_53 : decode cX4_addUndoing 53 = .ok (.iinc 2 1, 3) := by decide +kernel
theorem dX4_addUndoing_56 : decode cX4_addUndoing 56 = .ok (.goto (-54), 3) := by decide +kernel
theorem dX4_addUndoing_59 : decode cX4_addUndoing 59 = .ok (.return_, 1) := by decide +kernel
theorem dX4_addRedoing_0 : decode cX4_addRedoing 0 = .ok (.iconst 0, 1) := by decide +kernel
theorem dX4_addRedoing_1 : decode cX4_addRedoing 1 = .ok (.istore_n 2, 1) := by decide +kernel
theorem dX4_addRedoing_2 : decode cX4_addRedoing 2 = .ok (.iload_n 2, 1) := by decide +kernel
theorem dX4_addRedoing_3 : decode cX4_addRedoing 3 = .ok (.aload_n 1, 1) := by decide +kernel
theorem dX4_addRedoing_4 : decode cX4_addRedoing 4 = .ok (.getfield 116, 3) := by decide +kernel
theorem dX4_addRedoing_7 : decode cX4_addRedoing 7 = .ok (.if_icmp .ge 26, 3) := by decide +kernel
theorem dX4_addRedoing_10 : decode cX4_addRedoing 10 = .ok (.aload_n 0, 1) := by decide +kernel
theorem dX4_addRedoing_11 : decode cX4_addRedoing 11 = .ok (.iload_n 2, 1) := by decide +kernel
theorem dX4_addRedoing_12 : decode cX4_addRedoing 12 = .ok (.aload_n 1, 1) := by decide +kernel
theorem dX4_addRedoing_13 : decode cX4_addRedoing 13 = .ok (.getfield 119, 3) := by decide +kernel
theorem dX4_addRedoing_16 : decode cX4_addRedoing 16 = .ok (.iload_n 2, 1) := by decide +kernel
theorem dX4_addRedoing_17 : decode cX4_addRedoing 17 = .ok (.iaload, 1) := by decide +kernel
theorem dX4_addRedoing_18 : decode cX4_addRedoing 18 = .ok (.aload_n 1, 1) := by decide +kernel
theorem dX4_addRedoing_19 : decode cX4_addRedoing 19 = .ok (.getfield 132, 3) := by decide +kernel
theorem dX4_addRedoing_22 : decode cX4_addRedoing 22 = .ok (.iload_n 2, 1) := by decide +kernel
theorem dX4_addRedoing_23 : decode cX4_addRedoing 23 = .ok (.iaload, 1) := by decide +kernel
theorem dX4_addRedoing_24 : decode cX4_addRedoing 24 = .ok (.invokevirtual 125, 3) := by decide +kernel
theorem dX4_addRedoing_27 : decode cX4_addRedoing 27 = .ok (.iinc 2 1, 3) := by decide +kernel
theorem dX4_addRedoing_30 : decode cX4_addRedoing 30 = .ok (.goto (-28), 3) := by decide +kernel
theorem dX4_addRedoing_33 : decode cX4_addRedoing 33 = .ok (.aload_n 0, 1) := by decide +kernel
theorem dX4_addRedoing_34 : decode cX4_addRedoing 34 = .ok (.aload_n 1, 1) := by decide +kernel
theorem dX4_addRedoing_35 : decode cX4_addRedoing 35 = .ok (.getfield 116, 3) := by decide +kernel
theorem dX4_addRedoing_38 : decode cX4_addRedoing 38 = .ok (.iconst 0, 1) := by decide +kernel
theorem dX4_addRedoing_39 : decode cX4_addRedoing 39 = .ok (.iconst 1, 1) := by decide +kernel
theorem dX4_addRedoing_40 : decode cX4_addRedoing 40 = .ok (.invokevirtual 129, 3) := by decide +kernel
theorem dX4_addRedoing_43 : decode cX4_addRedoing 43 = .ok (.aload_n 0, 1) := by decide +kernel
theorem dX4_addRedoing_44 : decode cX4_addRedoing 44 = .ok (.aload_n 1, 1) := by decide +kernel
theorem dX4_addRedoing_45 : decode cX4_addRedoing 45 = .ok (.invokevirtual 138, 3) := by decide +kernel
theorem dX4_addRedoing_48 : decode cX4_addRedoing 48 = .ok (.return_, 1) := by decide +kernel
theorem dX4_addWrites_0 : decode cX4_addWrites 0 = .ok (.iconst 0, 1) := by decide +kernel
theorem dX4_addWrites_1 : decode cX4_addWrites 1 = .ok (.istore_n 2, 1) := by decide +kernel
theorem dX4_addWrites_2 : decode cX4_addWrites 2 = .ok (.iload_n 2, 1) := by decide +kernel
theorem dX4_addWrites_3 : decode cX4_addWrites 3 = .ok (.aload_n 1, 1) := by decide +kernel
theorem dX4_addWrites_4 : decode cX4_addWrites 4 = .ok (.getfield 116, 3) := by decide +kernel
theorem dX4_addWrites_7 : decode cX4_addWrites 7 = .ok (.if_icmp .ge 26, 3) := by decide +kernel
theorem dX4_addWrites_10 : decode cX4_addWrites 10 = .ok (.aload_n 0, 1) := by decide +kernel
theorem dX4_addWrites_11 : decode cX4_addWrites 11 = .ok (.iconst 0, 1) := by decide +kernel
theorem dX4_addWrites_12 : decode cX4_addWrites 12 = .ok (.aload_n 1, 1) := by decide +kernel
theorem dX4_addWrites_13 : decode cX4_addWrites 13 = .ok (.getfield 119, 3) := by decide +kernel
theorem dX4_addWrites_16 : decode cX4_addWrites 16 = .ok (.iload_n 2, 1) := by decide +kernel
theorem dX4_addWrites_17 : decode cX4_addWrites 17 = .ok (.iaload, 1) := by decide +kernel
theorem dX4_addWrites_18 : decode cX4_addWrites 18 = .ok (.aload_n 1, 1) := by decide +kernel
theorem dX4_addWrites_19 : decode cX4_addWrites 19 = .ok (.getfield 132, 3) := by decide +kernel
theorem dX4_addWrites_22 : decode cX4_addWrites 22 = .ok (.iload_n 2, 1) := by decide +kernel
theorem dX4_addWrites_23 : decode cX4_addWrites 23 = .ok (.iaload, 1) := by decide +kernel
theorem dX4_addWrites_24 : decode cX4_addWrites 24 = .ok (.invokevirtual 135, 3) := by decide +kernel
theorem dX4_addWrites_27 : decode cX4_addWrites 27 = .ok (.iinc 2 1, 3) := by decide +kernel
theorem dX4_addWrites_30 : decode cX4_addWrites 30 = .ok (.goto (-28), 3) := by decide +kernel
theorem dX4_addWrites_33 : decode cX4_addWrites 33 = .ok (.return_, 1) := by decide +kernel
theorem dX4_addEntry_0 : decode cX4_addEntry 0 = .ok (.iconst 4, 1) := by decide +kernel
theorem dX4_addEntry_1 : decode cX4_addEntry 1 = .ok (.iconst 2, 1) := by decide +kernel
theorem dX4_addEntry_2 : decode cX4_addEntry 2 = .ok (.iload_n 1, 1) := by decide +kernel
theorem dX4_addEntry_3 : decode cX4_addEntry 3 = .ok (.imul, 1) := by decide +kernel
theorem dX4_addEntry_4 : decode cX4_addEntry 4 = .ok (.iadd, 1) := by decide +kernel
theorem dX4_addEntry_5 : decode cX4_addEntry 5 = .ok (.istore 4, 2) := by decide +kernel
theorem dX4_addEntry_7 : decode cX4_addEntry 7 = .ok (.aload_n 0, 1) := by decide +kernel
theorem dX4_addEntry_8 : decode cX4_addEntry 8 = .ok (.iconst 0, 1) := by decide +kernel
theorem dX4_addEntry_9 : decode cX4_addEntry 9 = .ok (.iload 4, 2) := by decide +kernel
theorem dX4_addEntry_11 : decode cX4_addEntry 11 = .ok (.iload_n 2, 1) := by decide +kernel
theorem dX4_addEntry_12 : decode cX4_addEntry 12 = .ok (.invokevirtual 135, 3) := by decide +kernel
theorem dX4_addEntry_15 : decode cX4_addEntry 15 = .ok (.aload_n 0, 1) := by decide +kernel
theorem dX4_addEntry_16 : decode cX4_addEntry 16 = .ok (.iconst 0, 1) := by decide +kernel
theorem dX4_addEntry_17 : decode cX4_addEntry 17 = .ok (.iload 4, 2) := by decide +kernel
theorem dX4_addEntry_19 : decode cX4_addEntry 19 = .ok (.iconst 1, 1) := by decide +kernel
theorem dX4_addEntry_20 : decode cX4_addEntry 20 = .ok (.iadd, 1) := by decide +kernel
theorem dX4_addEntry_21 : decode cX4_addEntry 21 = .ok (.iload_n 3, 1) := by decide +kernel
theorem dX4_addEntry_22 : decode cX4_addEntry 22 = .ok (.invokevirtual 135, 3) := by decide +kernel
theorem dX4_addEntry_25 : decode cX4_addEntry 25 = .ok (.aload_n 0, 1) := by decide +kernel
theorem dX4_addEntry_26 : decode cX4_addEntry 26 = .ok (.iconst 4, 1) := by decide +kernel
theorem dX4_addEntry_27 : decode cX4_addEntry 27 = .ok (.invokevirtual 141, 3) := by decide +kernel
theorem dX4_addEntry_30 : decode cX4_addEntry 30 = .ok (.ifCond .ne 13, 3) := by decide +kernel
theorem dX4_addEntry_33 : decode cX4_addEntry 33 = .ok (.aload_n 0, 1) := by decide +kernel
theorem dX4_addEntry_34 : decode cX4_addEntry 34 = .ok (.iconst 1, 1) := by decide +kernel
theorem dX4_addEntry_35 : decode cX4_addEntry 35 = .ok (.iload 4, 2) := by decide +kernel
theorem dX4_addEntry_37 : decode cX4_addEntry 37 = .ok (.iconst 4, 1) := by decide +kernel
theorem dX4_addEntry_38 : decode cX4_addEntry 38 = .ok (.idiv, 1) := by decide +kernel
theorem dX4_addEntry_39 : decode cX4_addEntry 39 = .ok (.iconst 0, 1) := by decide +kernel
theorem dX4_addEntry_40 : decode cX4_addEntry 40 = .ok (.invokevirtual 135, 3) := by decide +kernel
theorem dX4_addEntry_43 : decode cX4_addEntry 43 = .ok (.return_, 1) := by decide +kernel
theorem dX4_addCount_0 : decode cX4_addCount 0 = .ok (.aload_n 0, 1) := by decide +kernel
theorem dX4_addCount_1 : decode cX4_addCount 1 = .ok (.iload_n 2, 1) := by decide +kernel
theorem dX4_addCount_2 : decode cX4_addCount 2 = .ok (.invokevirtual 141, 3) := by decide +kernel
theorem dX4_addCount_5 : decode cX4_addCount 5 = .ok (.ifCond .ne 10, 3) := by decide +kernel
theorem dX4_addCount_8 : decode cX4_addCount 8 = .ok (.aload_n 0, 1) := by decide +kernel
theorem dX4_addCount_9 : decode cX4_addCount 9 = .ok (.iconst 2, 1) := by decide +kernel
theorem dX4_addCount_10 : decode cX4_addCount 10 = .ok (.iconst 0, 1) := by decide +kernel
theorem dX4_addCount_11 : decode cX4_addCount 11 = .ok (.iconst 0, 1) := by decide +kernel
theorem dX4_addCount_12 : decode cX4_addCount 12 = .ok (.invokevirtual 135, 3) := by decide +kernel
theorem dX4_addCount_15 : decode cX4_addCount 15 = .ok (.aload_n 0, 1) := by decide +kernel
theorem dX4_addCount_16 : decode cX4_addCount 16 = .ok (.iconst 0, 1) := by decide +kernel
theorem dX4_addCount_17 : decode cX4_addCount 17 = .ok (.iconst 0, 1) := by decide +kernel
theorem dX4_addCount_18 : decode cX4_addCount 18 = .ok (.iload_n 1, 1) := by decide +kernel
theorem dX4_addCount_19 : decode cX4_addCount 19 = .ok (.invokevirtual 135, 3) := by decide +kernel
theorem dX4_addCount_22 : decode cX4_addCount 22 = .ok (.aload_n 0, 1) := by decide +kernel
theorem dX4_addCount_23 : decode cX4_addCount 23 = .ok (.iconst 5, 1) := by decide +kernel
theorem dX4_addCount_24 : decode cX4_addCount 24 = .ok (.invokevirtual 141, 3) := by decide +kernel
theorem dX4_addCount_27 : decode cX4_addCount 27 = .ok (.ifCond .ne 10, 3) := by decide +kernel
theorem dX4_addCount_30 : decode cX4_addCount 30 = .ok (.aload_n 0, 1) := by decide +kernel
theorem dX4_addCount_31 : decode cX4_addCount 31 = .ok (.iconst 1, 1) := by decide +kernel
theorem dX4_addCount_32 : decode cX4_addCount 32 = .ok (.iconst 0, 1) := by decide +kernel
theorem dX4_addCount_33 : decode cX4_addCount 33 = .ok (.iconst 0, 1) := by decide +kernel
theorem dX4_addCount_34 : decode cX4_addCount 34 = .ok (.invokevirtual 135, 3) := by decide +kernel
theorem dX4_addCount_37 : decode cX4_addCount 37 = .ok (.aload_n 0, 1) := by decide +kernel
theorem dX4_addCount_38 : decode cX4_addCount 38 = .ok (.iload_n 3, 1) := by decide +kernel
theorem dX4_addCount_39 : decode cX4_addCount 39 = .ok (.invokevirtual 141, 3) := by decide +kernel
theorem dX4_addCount_42 : decode cX4_addCount 42 = .ok (.ifCond .ne 10, 3) := by decide +kernel
theorem dX4_addCount_45 : decode cX4_addCount 45 = .ok (.aload_n 0, 1) := by decide +kernel
theorem dX4_addCount_46 : decode cX4_addCount 46 = .ok (.iconst 2, 1) := by decide +kernel
theorem dX4_addCount_47 : decode cX4_addCount 47 = .ok (.iconst 0, 1) := by decide +kernel
theorem dX4_addCount_48 : decode cX4_addCount 48 = .ok (.iconst 0, 1) := by decide +kernel
theorem dX4_addCount_49 : decode cX4_addCount 49 = .ok (.invokevirtual 135, 3) := by decide +kernel
theorem dX4_addCount_52 : decode cX4_addCount 52 = .ok (.return_, 1) := by decide +kernel
theorem dX4_addEnding_0 : decode cX4_addEnding 0 = .ok (.aload_n 0, 1) := by decide +kernel
theorem dX4_addEnding_1 : decode cX4_addEnding 1 = .ok (.bipush 6, 2) := by decide +kernel
theorem dX4_addEnding_3 : decode cX4_addEnding 3 = .ok (.invokevirtual 141, 3) := by decide +kernel
theorem dX4_addEnding_6 : decode cX4_addEnding 6 = .ok (.ifCond .eq 7, 3) := by decide +kernel
theorem dX4_addEnding_9 : decode cX4_addEnding 9 = .ok (.iconst (-1), 1) := by decide +kernel
theorem dX4_addEnding_10 : decode cX4_addEnding 10 = .ok (.goto 4, 3) := by decide +kernel
theorem dX4_addEnding_13 : decode cX4_addEnding 13 = .ok (.iconst 0, 1) := by decide +kernel
theorem dX4_addEnding_14 : decode cX4_addEnding 14 = .ok (.istore_n 2, 1) := by decide +kernel
theorem dX4_addEnding_15 : decode cX4_addEnding 15 = .ok (.iconst 0, 1) := by decide +kernel
theorem dX4_addEnding_16 : decode cX4_addEnding 16 = .ok (.istore_n 3, 1) := by decide +kernel
theorem dX4_addEnding_17 : decode cX4_addEnding 17 = .ok (.iload_n 3, 1) := by decide +kernel
theorem dX4_addEnding_18 : decode cX4_addEnding 18 = .ok (.aload_n 1, 1) := by decide +kernel
theorem dX4_addEnding_19 : decode cX4_addEnding 19 = .ok (.getfield 116, 3) := by decide +kernel
theorem dX4_addEnding_22 : decode cX4_addEnding 22 = .ok (.if_icmp .ge 43, 3) := by decide +kernel
theorem dX4_addEnding_25 : decode cX4_addEnding 25 = .ok (.aload_n 1, 1) := by decide +kernel
theorem dX4_addEnding_26 : decode cX4_addEnding 26 = .ok (.getfield 119, 3) := by decide +kernel
theorem dX4_addEnding_29 : decode cX4_addEnding 29 = .ok (.iload_n 3, 1) := by decide +kernel
theorem dX4_addEnding_30 : decode cX4_addEnding 30 = .ok (.iaload, 1) := by decide +kernel
theorem dX4_addEnding_31 : decode cX4_addEnding 31 = .ok (.iconst 4, 1) := by decide +kernel
theorem dX4_addEnding_32 : decode cX4_addEnding 32 = .ok (.idiv, 1) := by decide +kernel
theorem dX4_addEnding_33 : decode cX4_addEnding 33 = .ok (.istore 4, 2) := by decide +kernel
theorem dX4_addEnding_35 : decode cX4_addEnding 35 = .ok (.iload_n 2, 1) := by decide +kernel
theorem dX4_addEnding_36 : decode cX4_addEnding 36 = .ok (.iload 4, 2) := by decide +kernel
theorem dX4_addEnding_38 : decode cX4_addEnding 38 = .ok (.ishr, 1) := by decide +kernel
theorem dX4_addEnding_39 : decode cX4_addEnding 39 = .ok (.iconst 1, 1) := by decide +kernel
theorem dX4_addEnding_40 : decode cX4_addEnding 40 = .ok (.iand, 1) := by decide +kernel
theorem dX4_addEnding_41 : decode cX4_addEnding 41 = .ok (.ifCond .ne 18, 3) := by decide +kernel
theorem dX4_addEnding_44 : decode cX4_addEnding 44 = .ok (.aload_n 0, 1) := by decide +kernel
theorem dX4_addEnding_45 : decode cX4_addEnding 45 = .ok (.iconst 1, 1) := by decide +kernel
theorem dX4_addEnding_46 : decode cX4_addEnding 46 = .ok (.iload 4, 2) := by decide +kernel
theorem dX4_addEnding_48 : decode cX4_addEnding 48 = .ok (.iconst 0, 1) := by decide +kernel
theorem dX4_addEnding_49 : decode cX4_addEnding 49 = .ok (.invokevirtual 135, 3) := by decide +kernel
theorem dX4_addEnding_52 : decode cX4_addEnding 52 = .ok (.iload_n 2, 1) := by decide +kernel
theorem dX4_addEnding_53 : decode cX4_addEnding 53 = .ok (.iconst 1, 1) := by decide +kernel
theorem dX4_addEnding_54 : decode cX4_addEnding 54 = .ok (.iload 4, 2) := by decide +kernel
theorem dX4_addEnding_56 : decode cX4_addEnding 56 = .ok (.ishl, 1) := by decide +kernel
theorem dX4_addEnding_57 : decode cX4_addEnding 57 = .ok (.ior, 1) := by decide +kernel
theorem dX4_addEnding_58 : decode cX4_addEnding 58 = .ok (.istore_n 2, 1) := by decide +kernel
theorem dX4_addEnding_59 : decode cX4_addEnding 59 = .ok (.iinc 3 1, 3) := by decide +kernel
theorem dX4_addEnding_62 : decode cX4_addEnding 62 = .ok (.goto (-45), 3) := by decide +kernel
theorem dX4_addEnding_65 : decode cX4_addEnding 65 = .ok (.aload_n 0, 1) := by decide +kernel
theorem dX4_addEnding_66 : decode cX4_addEnding 66 = .ok (.iconst 0, 1) := by decide +kernel
theorem dX4_addEnding_67 : decode cX4_addEnding 67 = .ok (.iconst 2, 1) := by decide +kernel
theorem dX4_addEnding_68 : decode cX4_addEnding 68 = .ok (.iconst 3, 1) := by decide +kernel
theorem dX4_addEnding_69 : decode cX4_addEnding 69 = .ok (.invokevirtual 129, 3) := by decide +kernel
theorem dX4_addEnding_72 : decode cX4_addEnding 72 = .ok (.return_, 1) := by decide +kernel
theorem dX4_isLeftOut_0 : decode cX4_isLeftOut 0 = .ok (.aload_n 0, 1) := by decide +kernel
theorem dX4_isLeftOut_1 : decode cX4_isLeftOut 1 = .ok (.getfield 47, 3) := by decide +kernel
theorem dX4_isLeftOut_4 : decode cX4_isLeftOut 4 = .ok (.iload_n 1, 1) := by decide +kernel
theorem dX4_isLeftOut_5 : decode cX4_isLeftOut 5 = .ok (.ishr, 1) := by decide +kernel
theorem dX4_isLeftOut_6 : decode cX4_isLeftOut 6 = .ok (.iconst 1, 1) := by decide +kernel
theorem dX4_isLeftOut_7 : decode cX4_isLeftOut 7 = .ok (.iand, 1) := by decide +kernel
theorem dX4_isLeftOut_8 : decode cX4_isLeftOut 8 = .ok (.ifCond .eq 7, 3) := by decide +kernel
theorem dX4_isLeftOut_11 : decode cX4_isLeftOut 11 = .ok (.iconst 1, 1) := by decide +kernel
theorem dX4_isLeftOut_12 : decode cX4_isLeftOut 12 = .ok (.goto 4, 3) := by decide +kernel
theorem dX4_isLeftOut_15 : decode cX4_isLeftOut 15 = .ok (.iconst 0, 1) := by decide +kernel
theorem dX4_isLeftOut_16 : decode cX4_isLeftOut 16 = .ok (.ireturn, 1) := by decide +kernel
theorem dX4_addMicro_0 : decode cX4_addMicro 0 = .ok (.aload_n 0, 1) := by decide +kernel
theorem dX4_addMicro_1 : decode cX4_addMicro 1 = .ok (.getfield 26, 3) := by decide +kernel
theorem dX4_addMicro_4 : decode cX4_addMicro 4 = .ok (.bipush 80, 2) := by decide +kernel
theorem dX4_addMicro_6 : decode cX4_addMicro 6 = .ok (.if_icmp .ge 34, 3) := by decide +kernel
theorem dX4_addMicro_9 : decode cX4_addMicro 9 = .ok (.aload_n 0, 1) := by decide +kernel
theorem dX4_addMicro_10 : decode cX4_addMicro 10 = .ok (.getfield 18, 3) := by decide +kernel
theorem dX4_addMicro_13 : decode cX4_addMicro 13 = .ok (.aload_n 0, 1) := by decide +kernel
theorem dX4_addMicro_14 : decode cX4_addMicro 14 = .ok (.getfield 26, 3) := by decide +kernel
theorem dX4_addMicro_17 : decode cX4_addMicro 17 = .ok (.iload_n 1, 1) := by decide +kernel
theorem dX4_addMicro_18 : decode cX4_addMicro 18 = .ok (.sipush 10000, 3) := by decide +kernel
theorem dX4_addMicro_21 : decode cX4_addMicro 21 = .ok (.imul, 1) := by decide +kernel
theorem dX4_addMicro_22 : decode cX4_addMicro 22 = .ok (.iload_n 2, 1) := by decide +kernel
theorem dX4_addMicro_23 : decode cX4_addMicro 23 = .ok (.bipush 100, 2) := by decide +kernel
theorem dX4_addMicro_25 : decode cX4_addMicro 25 = .ok (.imul, 1) := by decide +kernel
theorem dX4_addMicro_26 : decode cX4_addMicro 26 = .ok (.iadd, 1) := by decide +kernel
theorem dX4_addMicro_27 : decode cX4_addMicro 27 = .ok (.iload_n 3, 1) := by decide +kernel
theorem dX4_addMicro_28 : decode cX4_addMicro 28 = .ok (.iadd, 1) := by decide +kernel
theorem dX4_addMicro_29 : decode cX4_addMicro 29 = .ok (.iastore, 1) := by decide +kernel
theorem dX4_addMicro_30 : decode cX4_addMicro 30 = .ok (.aload_n 0, 1) := by decide +kernel
theorem dX4_addMicro_31 : decode cX4_addMicro 31 = .ok (.dup, 1) := by decide +kernel
theorem dX4_addMicro_32 : decode cX4_addMicro 32 = .ok (.getfield 26, 3) := by decide +kernel
theorem dX4_addMicro_35 : decode cX4_addMicro 35 = .ok (.iconst 1, 1) := by decide +kernel
theorem dX4_addMicro_36 : decode cX4_addMicro 36 = .ok (.iadd, 1) := by decide +kernel
theorem dX4_addMicro_37 : decode cX4_addMicro 37 = .ok (.putfield 26, 3) := by decide +kernel
theorem dX4_addMicro_40 : decode cX4_addMicro 40 = .ok (.return_, 1) := by decide +kernel
theorem dX4_fall_0 : decode cX4_fall 0 = .ok (.aload_n 0, 1) := by decide +kernel
theorem dX4_fall_1 : decode cX4_fall 1 = .ok (.getfield 12, 3) := by decide +kernel
theorem dX4_fall_4 : decode cX4_fall 4 = .ok (.aload_n 1, 1) := by decide +kernel
theorem dX4_fall_5 : decode cX4_fall 5 = .ok (.getfield 145, 3) := by decide +kernel
theorem dX4_fall_8 : decode cX4_fall 8 = .ok (.invokevirtual 150, 3) := by decide +kernel
theorem dX4_fall_11 : decode cX4_fall 11 = .ok (.aload_n 0, 1) := by decide +kernel
theorem dX4_fall_12 : decode cX4_fall 12 = .ok (.aload_n 1, 1) := by decide +kernel
theorem dX4_fall_13 : decode cX4_fall 13 = .ok (.getfield 154, 3) := by decide +kernel
theorem dX4_fall_16 : decode cX4_fall 16 = .ok (.invokevirtual 157, 3) := by decide +kernel
theorem dX4_fall_19 : decode cX4_fall 19 = .ok (.aload_n 0, 1) := by decide +kernel
theorem dX4_fall_20 : decode cX4_fall 20 = .ok (.invokevirtual 104, 3) := by decide +kernel
theorem dX4_fall_23 : decode cX4_fall 23 = .ok (.aload_n 0, 1) := by decide +kernel
theorem dX4_fall_24 : decode cX4_fall 24 = .ok (.iconst 1, 1) := by decide +kernel
theorem dX4_fall_25 : decode cX4_fall 25 = .ok (.putfield 41, 3) := by decide +kernel
theorem dX4_fall_28 : decode cX4_fall 28 = .ok (.aload_n 0, 1) := by decide +kernel
theorem dX4_fall_29 : decode cX4_fall 29 = .ok (.getfield 50, 3) := by decide +kernel
theorem dX4_fall_32 : decode cX4_fall 32 = .ok (.iconst 2, 1) := by decide +kernel
theorem dX4_fall_33 : decode cX4_fall 33 = .ok (.dup2, 1) := by decide +kernel
theorem dX4_fall_34 : decode cX4_fall 34 = .ok (.iaload, 1) := by decide +kernel
theorem dX4_fall_35 : decode cX4_fall 35 = .ok (.iconst 1, 1) := by decide +kernel
theorem dX4_fall_36 : decode cX4_fall 36 = .ok (.iadd, 1) := by decide +kernel
theorem dX4_fall_37 : decode cX4_fall 37 = .ok (.iastore, 1) := by decide +kernel
theorem dX4_fall_38 : decode cX4_fall 38 = .ok (.return_, 1) := by decide +kernel
theorem dX4_beginRecovery_0 : decode cX4_beginRecovery 0 = .ok (.aload_n 0, 1) := by decide +kernel
theorem dX4_beginRecovery_1 : decode cX4_beginRecovery 1 = .ok (.getfield 50, 3) := by decide +kernel
theorem dX4_beginRecovery_4 : decode cX4_beginRecovery 4 = .ok (.iconst 3, 1) := by decide +kernel
theorem dX4_beginRecovery_5 : decode cX4_beginRecovery 5 = .ok (.dup2, 1) := by decide +kernel
theorem dX4_beginRecovery_6 : decode cX4_beginRecovery 6 = .ok (.iaload, 1) := by decide +kernel
theorem dX4_beginRecovery_7 : decode cX4_beginRecovery 7 = .ok (.iconst 1, 1) := by decide +kernel
theorem dX4_beginRecovery_8 : decode cX4_beginRecovery 8 = .ok (.iadd, 1) := by decide +kernel
theorem dX4_beginRecovery_9 : decode cX4_beginRecovery 9 = .ok (.iastore, 1) := by decide +kernel
theorem dX4_beginRecovery_10 : decode cX4_beginRecovery 10 = .ok (.aload_n 0, 1) := by decide +kernel
theorem dX4_beginRecovery_11 : decode cX4_beginRecovery 11 = .ok (.iconst 0, 1) := by decide +kernel
theorem dX4_beginRecovery_12 : decode cX4_beginRecovery 12 = .ok (.putfield 41, 3) := by decide +kernel
theorem dX4_beginRecovery_15 : decode cX4_beginRecovery 15 = .ok (.aload_n 0, 1) := by decide +kernel
theorem dX4_beginRecovery_16 : decode cX4_beginRecovery 16 = .ok (.getfield 12, 3) := by decide +kernel
theorem dX4_beginRecovery_19 : decode cX4_beginRecovery 19 = .ok (.getfield 160, 3) := by decide +kernel
theorem dX4_beginRecovery_22 : decode cX4_beginRecovery 22 = .ok (.iconst 0, 1) := by decide +kernel
theorem dX4_beginRecovery_23 : decode cX4_beginRecovery 23 = .ok (.iaload, 1) := by decide +kernel
theorem dX4_beginRecovery_24 : decode cX4_beginRecovery 24 = .ok (.ifCond .eq 33, 3) := by decide +kernel
theorem dX4_beginRecovery_27 : decode cX4_beginRecovery 27 = .ok (.aload_n 0, 1) := by decide +kernel
theorem dX4_beginRecovery_28 : decode cX4_beginRecovery 28 = .ok (.iconst 2, 1) := by decide +kernel
theorem dX4_beginRecovery_29 : decode cX4_beginRecovery 29 = .ok (.putfield 41, 3) := by decide +kernel
theorem dX4_beginRecovery_32 : decode cX4_beginRecovery 32 = .ok (.aload_n 1, 1) := by decide +kernel
theorem dX4_beginRecovery_33 : decode cX4_beginRecovery 33 = .ok (.aload_n 0, 1) := by decide +kernel
theorem dX4_beginRecovery_34 : decode cX4_beginRecovery 34 = .ok (.getfield 12, 3) := by decide +kernel
theorem dX4_beginRecovery_37 : decode cX4_beginRecovery 37 = .ok (.getfield 160, 3) := by decide +kernel
theorem dX4_beginRecovery_40 : decode cX4_beginRecovery 40 = .ok (.aload_n 0, 1) := by decide +kernel
theorem dX4_beginRecovery_41 : decode cX4_beginRecovery 41 = .ok (.getfield 44, 3) := by decide +kernel
theorem dX4_beginRecovery_44 : decode cX4_beginRecovery 44 = .ok (.invokevirtual 163, 3) := by decide +kernel
theorem dX4_beginRecovery_47 : decode cX4_beginRecovery 47 = .ok (.aload_n 0, 1) := by decide +kernel
theorem dX4_beginRecovery_48 : decode cX4_beginRecovery 48 = .ok (.aload_n 1, 1) := by decide +kernel
theorem dX4_beginRecovery_49 : decode cX4_beginRecovery 49 = .ok (.invokevirtual 138, 3) := by decide +kernel
theorem dX4_beginRecovery_52 : decode cX4_beginRecovery 52 = .ok (.aload_n 0, 1) := by decide +kernel
theorem dX4_beginRecovery_53 : decode cX4_beginRecovery 53 = .ok (.aload_n 1, 1) := by decide +kernel
theorem dX4_beginRecovery_54 : decode cX4_beginRecovery 54 = .ok (.invokevirtual 113, 3) := by decide +kernel
theorem dX4_beginRecovery_57 : decode cX4_beginRecovery 57 = .ok (.return_, 1) := by decide +kernel
theorem dX4_recoverAtOnce_0 : decode cX4_recoverAtOnce 0 = .ok (.aload_n 0, 1) := by decide +kernel
theorem dX4_recoverAtOnce_1 : decode cX4_recoverAtOnce 1 = .ok (.getfield 12, 3) := by decide +kernel
theorem dX4_recoverAtOnce_4 : decode cX4_recoverAtOnce 4 = .ok (.getfield 160, 3) := by decide +kernel
theorem dX4_recoverAtOnce_7 : decode cX4_recoverAtOnce 7 = .ok (.aload_n 0, 1) := by decide +kernel
theorem dX4_recoverAtOnce_8 : decode cX4_recoverAtOnce 8 = .ok (.getfield 44, 3) := by decide +kernel
theorem dX4_recoverAtOnce_11 : decode cX4_recoverAtOnce 11 = .ok (.invokestatic 167, 3) := by decide +kernel
theorem dX4_recoverAtOnce_14 : decode cX4_recoverAtOnce 14 = .ok (.aload_n 0, 1) := by decide +kernel
theorem dX4_recoverAtOnce_15 : decode cX4_recoverAtOnce 15 = .ok (.iconst 0, 1) := by decide +kernel
theorem dX4_recoverAtOnce_16 : decode cX4_recoverAtOnce 16 = .ok (.putfield 41, 3) := by decide +kernel
theorem dX4_recoverAtOnce_19 : decode cX4_recoverAtOnce 19 = .ok (.return_, 1) := by decide +kernel
theorem dX5_init_0 : decode cX5_init 0 = .ok (.aload_n 0, 1) := by decide +kernel
theorem dX5_init_1 : decode cX5_init 1 = .ok (.invokespecial 3, 3) := by decide +kernel
theorem dX5_init_4 : decode cX5_init 4 = .ok (.aload_n 0, 1) := by decide +kernel
theorem dX5_init_5 : decode cX5_init 5 = .ok (.bipush 64, 2) := by decide +kernel
theorem dX5_init_7 : decode cX5_init 7 = .ok (.newarray .int, 2) := by decide +kernel
theorem dX5_init_9 : decode cX5_init 9 = .ok (.putfield 9, 3) := by decide +kernel
theorem dX5_init_12 : decode cX5_init 12 = .ok (.aload_n 0, 1) := by decide +kernel
theorem dX5_init_13 : decode cX5_init 13 = .ok (.bipush 8, 2) := by decide +kernel
theorem dX5_init_15 : decode cX5_init 15 = .ok (.newarray .int, 2) := by decide +kernel
theorem dX5_init_17 : decode cX5_init 17 = .ok (.putfield 15, 3) := by decide +kernel
theorem dX5_init_20 : decode cX5_init 20 = .ok (.aload_n 0, 1) := by decide +kernel
theorem dX5_init_21 : decode cX5_init 21 = .ok (.bipush 8, 2) := by decide +kernel
theorem dX5_init_23 : decode cX5_init 23 = .ok (.newarray .int, 2) := by decide +kernel
theorem dX5_init_25 : decode cX5_init 25 = .ok (.putfield 18, 3) := by decide +kernel
theorem dX5_init_28 : decode cX5_init 28 = .ok (.aload_n 0, 1) := by decide +kernel
theorem dX5_init_29 : decode cX5_init 29 = .ok (.bipush 8, 2) := by decide +kernel
theorem dX5_init_31 : decode cX5_init 31 = .ok (.newarray .int, 2) := by decide +kernel
theorem dX5_init_33 : decode cX5_init 33 = .ok (.putfield 21, 3) := by decide +kernel
theorem dX5_init_36 : decode cX5_init 36 = .ok (.aload_n 0, 1) := by decide +kernel
theorem dX5_init_37 : decode cX5_init 37 = .ok (.iconst 0, 1) := by decide +kernel
theorem dX5_init_38 : decode cX5_init 38 = .ok (.putfield 24, 3) := by decide +kernel
theorem dX5_init_41 : decode cX5_init 41 = .ok (.aload_n 0, 1) := by decide +kernel
theorem dX5_init_42 : decode cX5_init 42 = .ok (.iconst 1, 1) := by decide +kernel
theorem dX5_init_43 : decode cX5_init 43 = .ok (.putfield 28, 3) := by decide +kernel
theorem dX5_init_46 : decode cX5_init 46 = .ok (.aload_n 0, 1) := by decide +kernel
theorem dX5_init_47 : decode cX5_init 47 = .ok (.new 32, 3) := by decide +kernel
theorem dX5_init_50 : decode cX5_init 50 = .ok (.dup, 1) := by decide +kernel
theorem dX5_init_51 : decode cX5_init 51 = .ok (.invokespecial 34, 3) := by decide +kernel
theorem dX5_init_54 : decode cX5_init 54 = .ok (.putfield 35, 3) := by decide +kernel
theorem dX5_init_57 : decode cX5_init 57 = .ok (.return_, 1) := by decide +kernel
theorem dX5_plan_0 : decode cX5_plan 0 = .ok (.aload_n 1, 1) := by decide +kernel
theorem dX5_plan_1 : decode cX5_plan 1 = .ok (.aload_n 0, 1) := by decide +kernel
theorem dX5_plan_2 : decode cX5_plan 2 = .ok (.getfield 9, 3) := by decide +kernel
theorem dX5_plan_5 : decode cX5_plan 5 = .ok (.invokevirtual 39, 3) := by decide +kernel
theorem dX5_plan_8 : decode cX5_plan 8 = .ok (.aload_n 0, 1) := by decide +kernel
theorem dX5_plan_9 : decode cX5_plan 9 = .ok (.iconst 0, 1) := by decide +kernel
theorem dX5_plan_10 : decode cX5_plan 10 = .ok (.putfield 24, 3) := by decide +kernel
theorem dX5_plan_13 : decode cX5_plan 13 = .ok (.aload_n 0, 1) := by decide +kernel
theorem dX5_plan_14 : decode cX5_plan 14 = .ok (.iconst 1, 1) := by decide +kernel
theorem dX5_plan_15 : decode cX5_plan 15 = .ok (.putfield 28, 3) := by decide +kernel
theorem dX5_plan_18 : decode cX5_plan 18 = .ok (.iload_n 3, 1) := by decide +kernel
theorem dX5_plan_19 : decode cX5_plan 19 = .ok (.iconst 4, 1) := by decide +kernel
theorem dX5_plan_20 : decode cX5_plan 20 = .ok (.imul, 1) := by decide +kernel
theorem dX5_plan_21 : decode cX5_plan 21 = .ok (.istore 4, 2) := by decide +kernel
theorem dX5_plan_23 : decode cX5_plan 23 = .ok (.iload 4, 2) := by decide +kernel
theorem dX5_plan_25 : decode cX5_plan 25 = .ok (.iload_n 3, 1) := by decide +kernel
theorem dX5_plan_26 : decode cX5_plan 26 = .ok (.iconst 1, 1) := by decide +kernel
theorem dX5_plan_27 : decode cX5_plan 27 = .ok (.iadd, 1) := by decide +kernel
theorem dX5_plan_28 : decode cX5_plan 28 = .ok (.iconst 4, 1) := by decide +kernel
theorem dX5_plan_29 : decode cX5_plan 29 = .ok (.imul, 1) := by decide +kernel
theorem dX5_plan_30 : decode cX5_plan 30 = .ok (.if_icmp .ge 125, 3) := by decide +kernel
theorem dX5_plan_33 : decode cX5_plan 33 = .ok (.aload_n 2, 1) := by decide +kernel
theorem dX5_plan_34 : decode cX5_plan 34 = .ok (.iload 4, 2) := by decide +kernel
theorem dX5_plan_36 : decode cX5_plan 36 = .ok (.iaload, 1) := by decide +kernel
theorem dX5_plan_37 : decode cX5_plan 37 = .ok (.sipush 10000, 3) := by decide +kernel
theorem dX5_plan_40 : decode cX5_plan 40 = .ok (.irem, 1) := by decide +kernel
theorem dX5_plan_41 : decode cX5_plan 41 = .ok (.bipush 100, 2) := by decide +kernel
theorem dX5_plan_43 : decode cX5_plan 43 = .ok (.idiv, 1) := by decide +kernel
theorem dX5_plan_44 : decode cX5_plan 44 = .ok (.istore 5, 2) := by decide +kernel
theorem dX5_plan_46 : decode cX5_plan 46 = .ok (.aload_n 2, 1) := by decide +kernel
theorem dX5_plan_47 : decode cX5_plan 47 = .ok (.iload 4, 2) := by decide +kernel
theorem dX5_plan_49 : decode cX5_plan 49 = .ok (.iaload, 1) := by decide +kernel
theorem dX5_plan_50 : decode cX5_plan 50 = .ok (.bipush 100, 2) := by decide +kernel
theorem dX5_plan_52 : decode cX5_plan 52 = .ok (.irem, 1) := by decide +kernel
theorem dX5_plan_53 : decode cX5_plan 53 = .ok (.istore 6, 2) := by decide +kernel
theorem dX5_plan_55 : decode cX5_plan 55 = .ok (.aload_n 2, 1) := by decide +kernel
theorem dX5_plan_56 : decode cX5_plan 56 = .ok (.iload 4, 2) := by decide +kernel
theorem dX5_plan_58 : decode cX5_plan 58 = .ok (.iaload, 1) := by decide +kernel
theorem dX5_plan_59 : decode cX5_plan 59 = .ok (.sipush 10000, 3) := by decide +kernel
theorem dX5_plan_62 : decode cX5_plan 62 = .ok (.idiv, 1) := by decide +kernel
theorem dX5_plan_63 : decode cX5_plan 63 = .ok (.iconst 1, 1) := by decide +kernel
theorem dX5_plan_64 : decode cX5_plan 64 = .ok (.isub, 1) := by decide +kernel
theorem dX5_plan_65 : decode cX5_plan 65 = .ok (.tableswitch 84 0 4 #[35, 46, 55, 66, 77], 35) := by decide +kernel
theorem dX5_plan_100 : decode cX5_plan 100 = .ok (.aload_n 0, 1) := by decide +kernel
theorem dX5_plan_101 : decode cX5_plan 101 = .ok (.iload 5, 2) := by decide +kernel
theorem dX5_plan_103 : decode cX5_plan 103 = .ok (.iload 6, 2) := by decide +kernel
theorem dX5_plan_105 : decode cX5_plan 105 = .ok (.invokevirtual 45, 3) := by decide +kernel
theorem dX5_plan_108 : decode cX5_plan 108 = .ok (.goto 41, 3) := by decide +kernel
theorem dX5_plan_111 : decode cX5_plan 111 = .ok (.aload_n 0, 1) := by decide +kernel
theorem dX5_plan_112 : decode cX5_plan 112 = .ok (.iload 5, 2) := by decide +kernel
theorem dX5_plan_114 : decode cX5_plan 114 = .ok (.invokevirtual 49, 3) := by decide +kernel
theorem dX5_plan_117 : decode cX5_plan 117 = .ok (.goto 32, 3) := by decide +kernel
theorem dX5_plan_120 : decode cX5_plan 120 = .ok (.aload_n 0, 1) := by decide +kernel
theorem dX5_plan_121 : decode cX5_plan 121 = .ok (.iload 5, 2) := by decide +kernel
theorem dX5_plan_123 : decode cX5_plan 123 = .ok (.iload 6, 2) := by decide +kernel
theorem dX5_plan_125 : decode cX5_plan 125 = .ok (.invokevirtual 53, 3) := by decide +kernel
theorem dX5_plan_128 : decode cX5_plan 128 = .ok (.goto 21, 3) := by decide +kernel
theorem dX5_plan_131 : decode cX5_plan 131 = .ok (.aload_n 0, 1) := by decide +kernel
theorem dX5_plan_132 : decode cX5_plan 132 = .ok (.iload 5, 2) := by decide +kernel
theorem dX5_plan_134 : decode cX5_plan 134 = .ok (.iload 6, 2) := by decide +kernel
theorem dX5_plan_136 : decode cX5_plan 136 = .ok (.invokevirtual 56, 3) := by decide +kernel
theorem dX5_plan_139 : decode cX5_plan 139 = .ok (.goto 10, 3) := by decide +kernel
theorem dX5_plan_142 : decode cX5_plan 142 = .ok (.aload_n 0, 1) := by decide +kernel
theorem dX5_plan_143 : decode cX5_plan 143 = .ok (.invokevirtual 59, 3) := by decide +kernel
theorem dX5_plan_146 : decode cX5_plan 146 = .ok (.goto 3, 3) := by decide +kernel
theorem dX5_plan_149 : decode cX5_plan 149 = .ok (.iinc 4 1, 3) := by decide +kernel
theorem dX5_plan_152 : decode cX5_plan 152 = .ok (.goto (-129), 3) := by decide +kernel
theorem dX5_plan_155 : decode cX5_plan 155 = .ok (.aload_n 0, 1) := by decide +kernel
theorem dX5_plan_156 : decode cX5_plan 156 = .ok (.getfield 28, 3) := by decide +kernel
theorem dX5_plan_159 : decode cX5_plan 159 = .ok (.ireturn, 1) := by decide +kernel
theorem dX5_write_0 : decode cX5_write 0 = .ok (.aload_n 0, 1) := by decide +kernel
theorem dX5_write_1 : decode cX5_write 1 = .ok (.getfield 24, 3) := by decide +kernel
theorem dX5_write_4 : decode cX5_write 4 = .ok (.bipush 8, 2) := by decide +kernel
theorem dX5_write_6 : decode cX5_write 6 = .ok (.if_icmp .ne 9, 3) := by decide +kernel
theorem dX5_write_9 : decode cX5_write 9 = .ok (.aload_n 0, 1) := by decide +kernel
theorem dX5_write_10 : decode cX5_write 10 = .ok (.iconst 0, 1) := by decide +kernel
theorem dX5_write_11 : decode cX5_write 11 = .ok (.putfield 28, 3) := by decide +kernel
theorem dX5_write_14 : decode cX5_write 14 = .ok (.return_, 1) := by decide +kernel
theorem dX5_write_15 : decode cX5_write 15 = .ok (.aload_n 0, 1) := by decide +kernel
theorem dX5_write_16 : decode cX5_write 16 = .ok (.getfield 15, 3) := by decide +kernel
theorem dX5_write_19 : decode cX5_write 19 = .ok (.aload_n 0, 1) := by decide +kernel
theorem dX5_write_20 : decode cX5_write 20 = .ok (.getfield 24, 3) := by decide +kernel
theorem dX5_write_23 : decode cX5_write 23 = .ok (.iload_n 1, 1) := by decide +kernel
theorem dX5_write_24 : decode cX5_write 24 = .ok (.iastore, 1) := by decide +kernel
theorem dX5_write_25 : decode cX5_write 25 = .ok (.aload_n 0, 1) := by decide +kernel
theorem dX5_write_26 : decode cX5_write 26 = .ok (.getfield 18, 3) := by decide +kernel
theorem dX5_write_29 : decode cX5_write 29 = .ok (.aload_n 0, 1) := by decide +kernel
theorem dX5_write_30 : decode cX5_write 30 = .ok (.getfield 24, 3) := by decide +kernel
theorem dX5_write_33 : decode cX5_write 33 = .ok (.iload_n 2, 1) := by decide +kernel
theorem dX5_write_34 : decode cX5_write 34 = .ok (.iastore, 1) := by decide +kernel
theorem dX5_write_35 : decode cX5_write 35 = .ok (.aload_n 0, 1) := by decide +kernel
theorem dX5_write_36 : decode cX5_write 36 = .ok (.getfield 21, 3) := by decide +kernel
theorem dX5_write_39 : decode cX5_write 39 = .ok (.aload_n 0, 1) := by decide +kernel
theorem dX5_write_40 : decode cX5_write 40 = .ok (.getfield 24, 3) := by decide +kernel
theorem dX5_write_43 : decode cX5_write 43 = .ok (.aload_n 0, 1) := by decide +kernel
theorem dX5_write_44 : decode cX5_write 44 = .ok (.getfield 9, 3) := by decide +kernel
theorem dX5_write_47 : decode cX5_write 47 = .ok (.iload_n 1, 1) := by decide +kernel
theorem dX5_write_48 : decode cX5_write 48 = .ok (.iaload, 1) := by decide +kernel
theorem dX5_write_49 : decode cX5_write 49 = .ok (.iastore, 1) := by decide +kernel
theorem dX5_write_50 : decode cX5_write 50 = .ok (.aload_n 0, 1) := by decide +kernel
theorem dX5_write_51 : decode cX5_write 51 = .ok (.getfield 9, 3) := by decide +kernel
theorem dX5_write_54 : decode cX5_write 54 = .ok (.iload_n 1, 1) := by decide +kernel
theorem dX5_write_55 : decode cX5_write 55 = .ok (.iload_n 2, 1) := by decide +kernel
theorem dX5_write_56 : decode cX5_write 56 = .ok (.iastore, 1) := by decide +kernel
theorem dX5_write_57 : decode cX5_write 57 = .ok (.aload_n 0, 1) := by decide +kernel
theorem dX5_write_58 : decode cX5_write 58 = .ok (.dup, 1) := by decide +kernel
theorem dX5_write_59 : decode cX5_write 59 = .ok (.getfield 24, 3) := by decide +kernel
theorem dX5_write_62 : decode cX5_write 62 = .ok (.iconst 1, 1) := by decide +kernel
theorem dX5_write_63 : decode cX5_write 63 = .ok (.iadd, 1) := by decide +kernel
theorem dX5_write_64 : decode cX5_write 64 = .ok (.putfield 24, 3) := by decide +kernel
theorem dX5_write_67 : decode cX5_write 67 = .ok (.return_, 1) := by decide +kernel
theorem dX5_planNew_0 : decode cX5_planNew 0 = .ok (.iconst 0, 1) := by decide +kernel
theorem dX5_planNew_1 : decode cX5_planNew 1 = .ok (.istore_n 3, 1) := by decide +kernel
theorem dX5_planNew_2 : decode cX5_planNew 2 = .ok (.iload_n 3, 1) := by decide +kernel
theorem dX5_planNew_3 : decode cX5_planNew 3 = .ok (.bipush 10, 2) := by decide +kernel
theorem dX5_planNew_5 : decode cX5_planNew 5 = .ok (.if_icmp .ge 21, 3) := by decide +kernel
theorem dX5_planNew_8 : decode cX5_planNew 8 = .ok (.aload_n 0, 1) := by decide +kernel
theorem dX5_planNew_9 : decode cX5_planNew 9 = .ok (.getfield 9, 3) := by decide +kernel
theorem dX5_planNew_12 : decode cX5_planNew 12 = .ok (.iload_n 3, 1) := by decide +kernel
theorem dX5_planNew_13 : decode cX5_planNew 13 = .ok (.invokestatic 62, 3) := by decide +kernel
theorem dX5_planNew_16 : decode cX5_planNew 16 = .ok (.iaload, 1) := by decide +kernel
theorem dX5_planNew_17 : decode cX5_planNew 17 = .ok (.ifCond .eq 9, 3) := by decide +kernel
theorem dX5_planNew_20 : decode cX5_planNew 20 = .ok (.iinc 3 1, 3) := by decide +kernel
theorem dX5_planNew_23 : decode cX5_planNew 23 = .ok (.goto (-21), 3) := by decide +kernel
theorem dX5_planNew_26 : decode cX5_planNew 26 = .ok (.iload_n 3, 1) := by decide +kernel
theorem dX5_planNew_27 : decode cX5_planNew 27 = .ok (.bipush 10, 2) := by decide +kernel
theorem dX5_planNew_29 : decode cX5_planNew 29 = .ok (.if_icmp .ne 9, 3) := by decide +kernel
theorem dX5_planNew_32 : decode cX5_planNew 32 = .ok (.aload_n 0, 1) := by decide +kernel
theorem dX5_planNew_33 : decode cX5_planNew 33 = .ok (.iconst 0, 1) := by decide +kernel
theorem dX5_planNew_34 : decode cX5_planNew 34 = .ok (.putfield 28, 3) := by decide +kernel
theorem dX5_planNew_37 : decode cX5_planNew 37 = .ok (.return_, 1) := by decide +kernel
theorem dX5_planNew_38 : decode cX5_planNew 38 = .ok (.iload_n 3, 1) := by decide +kernel
theorem dX5_planNew_39 : decode cX5_planNew 39 = .ok (.invokestatic 62, 3) := by decide +kernel
theorem dX5_planNew_42 : decode cX5_planNew 42 = .ok (.istore 4, 2) := by decide +kernel
theorem dX5_planNew_44 : decode cX5_planNew 44 = .ok (.aload_n 0, 1) := by decide +kernel
theorem dX5_planNew_45 : decode cX5_planNew 45 = .ok (.iload 4, 2) := by decide +kernel
theorem dX5_planNew_47 : decode cX5_planNew 47 = .ok (.iconst 1, 1) := by decide +kernel
theorem dX5_planNew_48 : decode cX5_planNew 48 = .ok (.invokevirtual 56, 3) := by decide +kernel
theorem dX5_planNew_51 : decode cX5_planNew 51 = .ok (.aload_n 0, 1) := by decide +kernel
theorem dX5_planNew_52 : decode cX5_planNew 52 = .ok (.iload 4, 2) := by decide +kernel
theorem dX5_planNew_54 : decode cX5_planNew 54 = .ok (.iconst 1, 1) := by decide +kernel
theorem dX5_planNew_55 : decode cX5_planNew 55 = .ok (.iadd, 1) := by decide +kernel
theorem dX5_planNew_56 : decode cX5_planNew 56 = .ok (.aload_n 0, 1) := by decide +kernel
theorem dX5_planNew_57 : decode cX5_planNew 57 = .ok (.getfield 9, 3) := by decide +kernel
theorem dX5_planNew_60 : decode cX5_planNew 60 = .ok (.bipush 20, 2) := by decide +kernel
theorem dX5_planNew_62 : decode cX5_planNew 62 = .ok (.iload_n 1, 1) := by decide +kernel
theorem dX5_planNew_63 : decode cX5_planNew 63 = .ok (.iadd, 1) := by decide +kernel
theorem dX5_planNew_64 : decode cX5_planNew 64 = .ok (.iaload, 1) := by decide +kernel
theorem dX5_planNew_65 : decode cX5_planNew 65 = .ok (.invokevirtual 56, 3) := by decide +kernel
theorem dX5_planNew_68 : decode cX5_planNew 68 = .ok (.aload_n 0, 1) := by decide +kernel
theorem dX5_planNew_69 : decode cX5_planNew 69 = .ok (.iload 4, 2) := by decide +kernel
theorem dX5_planNew_71 : decode cX5_planNew 71 = .ok (.iconst 2, 1) := by decide +kernel
theorem dX5_planNew_72 : decode cX5_planNew 72 = .ok (.iadd, 1) := by decide +kernel
theorem dX5_planNew_73 : decode cX5_planNew 73 = .ok (.iload_n 2, 1) := by decide +kernel
theorem dX5_planNew_74 : decode cX5_planNew 74 = .ok (.invokevirtual 56, 3) := by decide +kernel
theorem dX5_planNew_77 : decode cX5_planNew 77 = .ok (.aload_n 0, 1) := by decide +kernel
theorem dX5_planNew_78 : decode cX5_planNew 78 = .ok (.bipush 20, 2) := by decide +kernel
theorem dX5_planNew_80 : decode cX5_planNew 80 = .ok (.iload_n 1, 1) := by decide +kernel
theorem dX5_planNew_81 : decode cX5_planNew 81 = .ok (.iadd, 1) := by decide +kernel
theorem dX5_planNew_82 : decode cX5_planNew 82 = .ok (.iload 4, 2) := by decide +kernel
theorem dX5_planNew_84 : decode cX5_planNew 84 = .ok (.invokevirtual 56, 3) := by decide +kernel
theorem dX5_planNew_87 : decode cX5_planNew 87 = .ok (.return_, 1) := by decide +kernel
theorem dX5_planDrop_0 : decode cX5_planDrop 0 = .ok (.aload_n 0, 1) := by decide +kernel
theorem dX5_planDrop_1 : decode cX5_planDrop 1 = .ok (.getfield 9, 3) := by decide +kernel
theorem dX5_planDrop_4 : decode cX5_planDrop 4 = .ok (.bipush 20, 2) := by decide +kernel
theorem dX5_planDrop_6 : decode cX5_planDrop 6 = .ok (.iload_n 1, 1) := by decide +kernel
theorem dX5_planDrop_7 : decode cX5_planDrop 7 = .ok (.iadd, 1) := by decide +kernel
theorem dX5_planDrop_8 : decode cX5_planDrop 8 = .ok (.iaload, 1) := by decide +kernel
theorem dX5_planDrop_9 : decode cX5_planDrop 9 = .ok (.istore_n 2, 1) := by decide +kernel
theorem dX5_planDrop_10 : decode cX5_planDrop 10 = .ok (.iload_n 2, 1) := by decide +kernel
theorem dX5_planDrop_11 : decode cX5_planDrop 11 = .ok (.invokestatic 66, 3) := by decide +kernel
theorem dX5_planDrop_14 : decode cX5_planDrop 14 = .ok (.ifCond .eq 13, 3) := by decide +kernel
theorem dX5_planDrop_17 : decode cX5_planDrop 17 = .ok (.aload_n 0, 1) := by decide +kernel
theorem dX5_planDrop_18 : decode cX5_planDrop 18 = .ok (.getfield 9, 3) := by decide +kernel
theorem dX5_planDrop_21 : decode cX5_planDrop 21 = .ok (.iload_n 2, 1) := by decide +kernel
theorem dX5_planDrop_22 : decode cX5_planDrop 22 = .ok (.iaload, 1) := by decide +kernel
theorem dX5_planDrop_23 : decode cX5_planDrop 23 = .ok (.iconst 1, 1) := by decide +kernel
theorem dX5_planDrop_24 : decode cX5_planDrop 24 = .ok (.if_icmp .eq 9, 3) := by decide +kernel
theorem dX5_planDrop_27 : decode cX5_planDrop 27 = .ok (.aload_n 0, 1) := by decide +kernel
theorem dX5_planDrop_28 : decode cX5_planDrop 28 = .ok (.iconst 0, 1) := by decide +kernel
theorem dX5_planDrop_29 : decode cX5_planDrop 29 = .ok (.putfield 28, 3) := by decide +kernel
theorem dX5_planDrop_32 : decode cX5_planDrop 32 = .ok (.return_, 1) := by decide +kernel
theorem dX5_planDrop_33 : decode cX5_planDrop 33 = .ok (.aload_n 0, 1) := by decide +kernel
theorem dX5_planDrop_34 : decode cX5_planDrop 34 = .ok (.bipush 20, 2) := by decide +kernel
theorem dX5_planDrop_36 : decode cX5_planDrop 36 = .ok (.iload_n 1, 1) := by decide +kernel
theorem dX5_planDrop_37 : decode cX5_planDrop 37 = .ok (.iadd, 1) := by decide +kernel
theorem dX5_planDrop_38 : decode cX5_planDrop 38 = .ok (.aload_n 0, 1) := by decide +kernel
theorem dX5_planDrop_39 : decode cX5_planDrop 39 = .ok (.getfield 9, 3) := by decide +kernel
theorem dX5_planDrop_42 : decode cX5_planDrop 42 = .ok (.iload_n 2, 1) := by decide +kernel
theorem dX5_planDrop_43 : decode cX5_planDrop 43 = .ok (.iconst 1, 1) := by decide +kernel
theorem dX5_planDrop_44 : decode cX5_planDrop 44 = .ok (.iadd, 1) := by decide +kernel
theorem dX5_planDrop_45 : decode cX5_planDrop 45 = .ok (.iaload, 1) := by decide +kernel
theorem dX5_planDrop_46 : decode cX5_planDrop 46 = .ok (.invokevirtual 56, 3) := by decide +kernel
theorem dX5_planDrop_49 : decode cX5_planDrop 49 = .ok (.aload_n 0, 1) := by decide +kernel
theorem dX5_planDrop_50 : decode cX5_planDrop 50 = .ok (.iload_n 2, 1) := by decide +kernel
theorem dX5_planDrop_51 : decode cX5_planDrop 51 = .ok (.iconst 0, 1) := by decide +kernel
theorem dX5_planDrop_52 : decode cX5_planDrop 52 = .ok (.invokevirtual 56, 3) := by decide +kernel
theorem dX5_planDrop_55 : decode cX5_planDrop 55 = .ok (.return_, 1) := by decide +kernel
theorem dX5_planMove_0 : decode cX5_planMove 0 = .ok (.aload_n 0, 1) := by decide +kernel
theorem dX5_planMove_1 : decode cX5_planMove 1 = .ok (.getfield 9, 3) := by decide +kernel
theorem dX5_planMove_4 : decode cX5_planMove 4 = .ok (.bipush 20, 2) := by decide +kernel
theorem dX5_planMove_6 : decode cX5_planMove 6 = .ok (.iload_n 1, 1) := by decide +kernel
theorem dX5_planMove_7 : decode cX5_planMove 7 = .ok (.iadd, 1) := by decide +kernel
theorem dX5_planMove_8 : decode cX5_planMove 8 = .ok (.iaload, 1) := by decide +kernel
theorem dX5_planMove_9 : decode cX5_planMove 9 = .ok (.istore_n 3, 1) := by decide +kernel
theorem dX5_planMove_10 : decode cX5_planMove 10 = .ok (.iload_n 3, 1) := by decide +kernel
theorem dX5_planMove_11 : decode cX5_planMove 11 = .ok (.invokestatic 66, 3) := by decide +kernel
theorem dX5_planMove_14 : decode cX5_planMove 14 = .ok (.ifCond .eq 13, 3) := by decide +kernel
theorem dX5_planMove_17 : decode cX5_planMove 17 = .ok (.aload_n 0, 1) := by decide +kernel
theorem dX5_planMove_18 : decode cX5_planMove 18 = .ok (.getfield 9, 3) := by decide +kernel
theorem dX5_planMove_21 : decode cX5_planMove 21 = .ok (.iload_n 3, 1) := by decide +kernel
theorem dX5_planMove_22 : decode cX5_planMove 22 = .ok (.iaload, 1) := by decide +kernel
theorem dX5_planMove_23 : decode cX5_planMove 23 = .ok (.iconst 1, 1) := by decide +kernel
theorem dX5_planMove_24 : decode cX5_planMove 24 = .ok (.if_icmp .eq 9, 3) := by decide +kernel
theorem dX5_planMove_27 : decode cX5_planMove 27 = .ok (.aload_n 0, 1) := by decide +kernel
theorem dX5_planMove_28 : decode cX5_planMove 28 = .ok (.iconst 0, 1) := by decide +kernel
theorem dX5_planMove_29 : decode cX5_planMove 29 = .ok (.putfield 28, 3) := by decide +kernel
theorem dX5_planMove_32 : decode cX5_planMove 32 = .ok (.return_, 1) := by decide +kernel
theorem dX5_planMove_33 : decode cX5_planMove 33 = .ok (.aload_n 0, 1) := by decide +kernel
theorem dX5_planMove_34 : decode cX5_planMove 34 = .ok (.bipush 20, 2) := by decide +kernel
theorem dX5_planMove_36 : decode cX5_planMove 36 = .ok (.iload_n 1, 1) := by decide +kernel
theorem dX5_planMove_37 : decode cX5_planMove 37 = .ok (.iadd, 1) := by decide +kernel
theorem dX5_planMove_38 : decode cX5_planMove 38 = .ok (.aload_n 0, 1) := by decide +kernel
theorem dX5_planMove_39 : decode cX5_planMove 39 = .ok (.getfield 9, 3) := by decide +kernel
theorem dX5_planMove_42 : decode cX5_planMove 42 = .ok (.iload_n 3, 1) := by decide +kernel
theorem dX5_planMove_43 : decode cX5_planMove 43 = .ok (.iconst 1, 1) := by decide +kernel
theorem dX5_planMove_44 : decode cX5_planMove 44 = .ok (.iadd, 1) := by decide +kernel
theorem dX5_planMove_45 : decode cX5_planMove 45 = .ok (.iaload, 1) := by decide +kernel
theorem dX5_planMove_46 : decode cX5_planMove 46 = .ok (.invokevirtual 56, 3) := by decide +kernel
theorem dX5_planMove_49 : decode cX5_planMove 49 = .ok (.aload_n 0, 1) := by decide +kernel
theorem dX5_planMove_50 : decode cX5_planMove 50 = .ok (.iload_n 3, 1) := by decide +kernel
theorem dX5_planMove_51 : decode cX5_planMove 51 = .ok (.iconst 1, 1) := by decide +kernel
theorem dX5_planMove_52 : decode cX5_planMove 52 = .ok (.iadd, 1) := by decide +kernel
theorem dX5_planMove_53 : decode cX5_planMove 53 = .ok (.aload_n 0, 1) := by decide +kernel
theorem dX5_planMove_54 : decode cX5_planMove 54 = .ok (.getfield 9, 3) := by decide +kernel
theorem dX5_planMove_57 : decode cX5_planMove 57 = .ok (.bipush 20, 2) := by decide +kernel
theorem dX5_planMove_59 : decode cX5_planMove 59 = .ok (.iload_n 2, 1) := by decide +kernel
theorem dX5_planMove_60 : decode cX5_planMove 60 = .ok (.iadd, 1) := by decide +kernel
theorem dX5_planMove_61 : decode cX5_planMove 61 = .ok (.iaload, 1) := by decide +kernel
theorem dX5_planMove_62 : decode cX5_planMove 62 = .ok (.invokevirtual 56, 3) := by decide +kernel
theorem dX5_planMove_65 : decode cX5_planMove 65 = .ok (.aload_n 0, 1) := by decide +kernel
theorem dX5_planMove_66 : decode cX5_planMove 66 = .ok (.bipush 20, 2) := by decide +kernel
theorem dX5_planMove_68 : decode cX5_planMove 68 = .ok (.iload_n 2, 1) := by decide +kernel
theorem dX5_planMove_69 : decode cX5_planMove 69 = .ok (.iadd, 1) := by decide +kernel
theorem dX5_planMove_70 : decode cX5_planMove 70 = .ok (.iload_n 3, 1) := by decide +kernel
theorem dX5_planMove_71 : decode cX5_planMove 71 = .ok (.invokevirtual 56, 3) := by decide +kernel
theorem dX5_planMove_74 : decode cX5_planMove 74 = .ok (.return_, 1) := by decide +kernel
theorem dX5_planSweep_0 : decode cX5_planSweep 0 = .ok (.aload_n 0, 1) := by decide +kernel
theorem dX5_planSweep_1 : decode cX5_planSweep 1 = .ok (.getfield 35, 3) := by decide +kernel
theorem dX5_planSweep_4 : decode cX5_planSweep 4 = .ok (.aload_n 0, 1) := by decide +kernel
theorem dX5_planSweep_5 : decode cX5_planSweep 5 = .ok (.getfield 9, 3) := by decide +kernel
theorem dX5_planSweep_8 : decode cX5_planSweep 8 = .ok (.invokevirtual 70, 3) := by decide +kernel
theorem dX5_planSweep_11 : decode cX5_planSweep 11 = .ok (.aload_n 0, 1) := by decide +kernel
theorem dX5_planSweep_12 : decode cX5_planSweep 12 = .ok (.getfield 35, 3) := by decide +kernel
theorem dX5_planSweep_15 : decode cX5_planSweep 15 = .ok (.getfield 73, 3) := by decide +kernel
theorem dX5_planSweep_18 : decode cX5_planSweep 18 = .ok (.ifCond .ne 9, 3) := by decide +kernel
theorem dX5_planSweep_21 : decode cX5_planSweep 21 = .ok (.aload_n 0, 1) := by decide +kernel
theorem dX5_planSweep_22 : decode cX5_planSweep 22 = .ok (.iconst 0, 1) := by decide +kernel
theorem dX5_planSweep_23 : decode cX5_planSweep 23 = .ok (.putfield 28, 3) := by decide +kernel
theorem dX5_planSweep_26 : decode cX5_planSweep 26 = .ok (.return_, 1) := by decide +kernel
theorem dX5_planSweep_27 : decode cX5_planSweep 27 = .ok (.iconst 0, 1) := by decide +kernel
theorem dX5_planSweep_28 : decode cX5_planSweep 28 = .ok (.istore_n 1, 1) := by decide +kernel
theorem dX5_planSweep_29 : decode cX5_planSweep 29 = .ok (.iload_n 1, 1) := by decide +kernel
theorem dX5_planSweep_30 : decode cX5_planSweep 30 = .ok (.bipush 10, 2) := by decide +kernel
theorem dX5_planSweep_32 : decode cX5_planSweep 32 = .ok (.if_icmp .ge 32, 3) := by decide +kernel
theorem dX5_planSweep_35 : decode cX5_planSweep 35 = .ok (.aload_n 0, 1) := by decide +kernel
theorem dX5_planSweep_36 : decode cX5_planSweep 36 = .ok (.getfield 35, 3) := by decide +kernel
theorem dX5_planSweep_39 : decode cX5_planSweep 39 = .ok (.getfield 73, 3) := by decide +kernel
theorem dX5_planSweep_42 : decode cX5_planSweep 42 = .ok (.iload_n 1, 1) := by decide +kernel
theorem dX5_planSweep_43 : decode cX5_planSweep 43 = .ok (.ishr, 1) := by decide +kernel
theorem dX5_planSweep_44 : decode cX5_planSweep 44 = .ok (.iconst 1, 1) := by decide +kernel
theorem dX5_planSweep_45 : decode cX5_planSweep 45 = .ok (.iand, 1) := by decide +kernel
theorem dX5_planSweep_46 : decode cX5_planSweep 46 = .ok (.ifCond .eq 12, 3) := by decide +kernel
theorem dX5_planSweep_49 : decode cX5_planSweep 49 = .ok (.aload_n 0, 1) := by decide +kernel
theorem dX5_planSweep_50 : decode cX5_planSweep 50 = .ok (.iload_n 1, 1) := by decide +kernel
theorem dX5_planSweep_51 : decode cX5_planSweep 51 = .ok (.invokestatic 62, 3) := by decide +kernel
theorem dX5_planSweep_54 : decode cX5_planSweep 54 = .ok (.iconst 0, 1) := by decide +kernel
theorem dX5_planSweep_55 : decode cX5_planSweep 55 = .ok (.invokevirtual 56, 3) := by decide +kernel
theorem dX5_planSweep_58 : decode cX5_planSweep 58 = .ok (.iinc 1 1, 3) := by decide +kernel
theorem dX5_planSweep_61 : decode cX5_planSweep 61 = .ok (.goto (-32), 3) := by decide +kernel
theorem dX5_planSweep_64 : decode cX5_planSweep 64 = .ok (.return_, 1) := by decide +kernel
theorem dX5_planRecovery_0 : decode cX5_planRecovery 0 = .ok (.aload_n 1, 1) := by decide +kernel
theorem dX5_planRecovery_1 : decode cX5_planRecovery 1 = .ok (.iconst 0, 1) := by decide +kernel
theorem dX5_planRecovery_2 : decode cX5_planRecovery 2 = .ok (.iaload, 1) := by decide +kernel
theorem dX5_planRecovery_3 : decode cX5_planRecovery 3 = .ok (.bipush 8, 2) := by decide +kernel
theorem dX5_planRecovery_5 : decode cX5_planRecovery 5 = .ok (.invokestatic 76, 3) := by decide +kernel
theorem dX5_planRecovery_8 : decode cX5_planRecovery 8 = .ok (.istore_n 3, 1) := by decide +kernel
theorem dX5_planRecovery_9 : decode cX5_planRecovery 9 = .ok (.aload_n 0, 1) := by decide +kernel
theorem dX5_planRecovery_10 : decode cX5_planRecovery 10 = .ok (.iconst 0, 1) := by decide +kernel
theorem dX5_planRecovery_11 : decode cX5_planRecovery 11 = .ok (.putfield 24, 3) := by decide +kernel
theorem dX5_planRecovery_14 : decode cX5_planRecovery 14 = .ok (.iconst 0, 1) := by decide +kernel
theorem dX5_planRecovery_15 : decode cX5_planRecovery 15 = .ok (.istore 4, 2) := by decide +kernel
theorem dX5_planRecovery_17 : decode cX5_planRecovery 17 = .ok (.iload 4, 2) := by decide +kernel
theorem dX5_planRecovery_19 : decode cX5_planRecovery 19 = .ok (.iload_n 3, 1) := by decide +kernel
theorem dX5_planRecovery_20 : decode cX5_planRecovery 20 = .ok (.if_icmp .ge 66, 3) := by decide +kernel
theorem dX5_planRecovery_23 : decode cX5_planRecovery 23 = .ok (.iload 4, 2) := by decide +kernel
theorem dX5_planRecovery_25 : decode cX5_planRecovery 25 = .ok (.iload_n 3, 1) := by decide +kernel
theorem dX5_planRecovery_26 : decode cX5_planRecovery 26 = .ok (.iload_n 2, 1) := by decide +kernel
theorem dX5_planRecovery_27 : decode cX5_planRecovery 27 = .ok (.invokestatic 82, 3) := by decide +kernel
theorem dX5_planRecovery_30 : decode cX5_planRecovery 30 = .ok (.istore 5, 2) := by decide +kernel
theorem dX5_planRecovery_32 : decode cX5_planRecovery 32 = .ok (.aload_n 1, 1) := by decide +kernel
theorem dX5_planRecovery_33 : decode cX5_planRecovery 33 = .ok (.iload 5, 2) := by decide +kernel
theorem dX5_planRecovery_35 : decode cX5_planRecovery 35 = .ok (.iaload, 1) := by decide +kernel
theorem dX5_planRecovery_36 : decode cX5_planRecovery 36 = .ok (.invokestatic 86, 3) := by decide +kernel
theorem dX5_planRecovery_39 : decode cX5_planRecovery 39 = .ok (.ifCond .eq 41, 3) := by decide +kernel
theorem dX5_planRecovery_42 : decode cX5_planRecovery 42 = .ok (.aload_n 0, 1) := by decide +kernel
theorem dX5_planRecovery_43 : decode cX5_planRecovery 43 = .ok (.getfield 15, 3) := by decide +kernel
theorem dX5_planRecovery_46 : decode cX5_planRecovery 46 = .ok (.aload_n 0, 1) := by decide +kernel
theorem dX5_planRecovery_47 : decode cX5_planRecovery 47 = .ok (.getfield 24, 3) := by decide +kernel
theorem dX5_planRecovery_50 : decode cX5_planRecovery 50 = .ok (.aload_n 1, 1) := by decide +kernel
theorem dX5_planRecovery_51 : decode cX5_planRecovery 51 = .ok (.iload 5, 2) := by decide +kernel
theorem dX5_planRecovery_53 : decode cX5_planRecovery 53 = .ok (.iaload, 1) := by decide +kernel
theorem dX5_planRecovery_54 : decode cX5_planRecovery 54 = .ok (.iastore, 1) := by decide +kernel
theorem dX5_planRecovery_55 : decode cX5_planRecovery 55 = .ok (.aload_n 0, 1) := by decide +kernel
theorem dX5_planRecovery_56 : decode cX5_planRecovery 56 = .ok (.getfield 18, 3) := by decide +kernel
theorem dX5_planRecovery_59 : decode cX5_planRecovery 59 = .ok (.aload_n 0, 1) := by decide +kernel
theorem dX5_planRecovery_60 : decode cX5_planRecovery 60 = .ok (.getfield 24, 3) := by decide +kernel
theorem dX5_planRecovery_63 : decode cX5_planRecovery 63 = .ok (.aload_n 1, 1) := by decide +kernel
theorem dX5_planRecovery_64 : decode cX5_planRecovery 64 = .ok (.iload 5, 2) := by decide +kernel
theorem dX5_planRecovery_66 : decode cX5_planRecovery 66 = .ok (.iconst 1, 1) := by decide +kernel
theorem dX5_planRecovery_67 : decode cX5_planRecovery 67 = .ok (.iadd, 1) := by decide +kernel
theorem dX5_planRecovery_68 : decode cX5_planRecovery 68 = .ok (.iaload, 1) := by decide +kernel
theorem dX5_planRecovery_69 : decode cX5_planRecovery 69 = .ok (.iastore, 1) := by decide +kernel
theorem dX5_planRecovery_70 : decode cX5_planRecovery 70 = .ok (.aload_n 0, 1) := by decide +kernel
theorem dX5_planRecovery_71 : decode cX5_planRecovery 71 = .ok (.dup, 1) := by decide +kernel
theorem dX5_planRecovery_72 : decode cX5_planRecovery 72 = .ok (.getfield 24, 3) := by decide +kernel
theorem dX5_planRecovery_75 : decode cX5_planRecovery 75 = .ok (.iconst 1, 1) := by decide +kernel
theorem dX5_planRecovery_76 : decode cX5_planRecovery 76 = .ok (.iadd, 1) := by decide +kernel
theorem dX5_planRecovery_77 : decode cX5_planRecovery 77 = .ok (.putfield 24, 3) := by decide +kernel
theorem dX5_planRecovery_80 : decode cX5_planRecovery 80 = .ok (.iinc 4 1, 3) := by decide +kernel
theorem dX5_planRecovery_83 : decode cX5_planRecovery 83 = .ok (.goto (-66), 3) := by decide +kernel
theorem dX5_planRecovery_86 : decode cX5_planRecovery 86 = .ok (.return_, 1) := by decide +kernel
theorem dX6_init_0 : decode cX6_init 0 = .ok (.aload_n 0, 1) := by decide +kernel
theorem dX6_init_1 : decode cX6_init 1 = .ok (.invokespecial 3, 3) := by decide +kernel
theorem dX6_init_4 : decode cX6_init 4 = .ok (.aload_n 0, 1) := by decide +kernel
theorem dX6_init_5 : decode cX6_init 5 = .ok (.new 9, 3) := by decide +kernel
theorem dX6_init_8 : decode cX6_init 8 = .ok (.dup, 1) := by decide +kernel
theorem dX6_init_9 : decode cX6_init 9 = .ok (.invokespecial 11, 3) := by decide +kernel
theorem dX6_init_12 : decode cX6_init 12 = .ok (.putfield 12, 3) := by decide +kernel
theorem dX6_init_15 : decode cX6_init 15 = .ok (.aload_n 0, 1) := by decide +kernel
theorem dX6_init_16 : decode cX6_init 16 = .ok (.aload_n 0, 1) := by decide +kernel
theorem dX6_init_17 : decode cX6_init 17 = .ok (.getfield 12, 3) := by decide +kernel
theorem dX6_init_20 : decode cX6_init 20 = .ok (.getfield 18, 3) := by decide +kernel
theorem dX6_init_23 : decode cX6_init 23 = .ok (.getfield 22, 3) := by decide +kernel
theorem dX6_init_26 : decode cX6_init 26 = .ok (.putfield 28, 3) := by decide +kernel
theorem dX6_init_29 : decode cX6_init 29 = .ok (.aload_n 0, 1) := by decide +kernel
theorem dX6_init_30 : decode cX6_init 30 = .ok (.iconst 0, 1) := by decide +kernel
theorem dX6_init_31 : decode cX6_init 31 = .ok (.newarray .int, 2) := by decide +kernel
theorem dX6_init_33 : decode cX6_init 33 = .ok (.putfield 29, 3) := by decide +kernel
theorem dX6_init_36 : decode cX6_init 36 = .ok (.aload_n 0, 1) := by decide +kernel
theorem dX6_init_37 : decode cX6_init 37 = .ok (.iconst 0, 1) := by decide +kernel
theorem dX6_init_38 : decode cX6_init 38 = .ok (.putfield 32, 3) := by decide +kernel
theorem dX6_init_41 : decode cX6_init 41 = .ok (.aload_n 0, 1) := by decide +kernel
theorem dX6_init_42 : decode cX6_init 42 = .ok (.iconst 0, 1) := by decide +kernel
theorem dX6_init_43 : decode cX6_init 43 = .ok (.putfield 36, 3) := by decide +kernel
theorem dX6_init_46 : decode cX6_init 46 = .ok (.aload_n 0, 1) := by decide +kernel
theorem dX6_init_47 : decode cX6_init 47 = .ok (.iconst 0, 1) := by decide +kernel
theorem dX6_init_48 : decode cX6_init 48 = .ok (.putfield 39, 3) := by decide +kernel
theorem dX6_init_51 : decode cX6_init 51 = .ok (.aload_n 0, 1) := by decide +kernel
theorem dX6_init_52 : decode cX6_init 52 = .ok (.iconst 0, 1) := by decide +kernel
theorem dX6_init_53 : decode cX6_init 53 = .ok (.putfield 42, 3) := by decide +kernel
theorem dX6_init_56 : decode cX6_init 56 = .ok (.aload_n 0, 1) := by decide +kernel
theorem dX6_init_57 : decode cX6_init 57 = .ok (.iconst 0, 1) := by decide +kernel
theorem dX6_init_58 : decode cX6_init 58 = .ok (.putfield 45, 3) := by decide +kernel
theorem dX6_init_61 : decode cX6_init 61 = .ok (.aload_n 0, 1) := by decide +kernel
theorem dX6_init_62 : decode cX6_init 62 = .ok (.iconst 0, 1) := by decide +kernel
theorem dX6_init_63 : decode cX6_init 63 = .ok (.putfield 48, 3) := by decide +kernel
theorem dX6_init_66 : decode cX6_init 66 = .ok (.aload_n 0, 1) := by decide +kernel
theorem dX6_init_67 : decode cX6_init 67 = .ok (.iconst 0, 1) := by decide +kernel
theorem dX6_init_68 : decode cX6_init 68 = .ok (.putfield 52, 3) := by decide +kernel
theorem dX6_init_71 : decode cX6_init 71 = .ok (.aload_n 0, 1) := by decide +kernel
theorem dX6_init_72 : decode cX6_init 72 = .ok (.iconst 0, 1) := by decide +kernel
theorem dX6_init_73 : decode cX6_init 73 = .ok (.putfield 55, 3) := by decide +kernel
theorem dX6_init_76 : decode cX6_init 76 = .ok (.return_, 1) := by decide +kernel
theorem dX6_readText_0 : decode cX6_readText 0 = .ok (.aload_n 0, 1) := by decide +kernel
theorem dX6_readText_1 : decode cX6_readText 1 = .ok (.aload_n 1, 1) := by decide +kernel
theorem dX6_readText_2 : decode cX6_readText 2 = .ok (.putfield 29, 3) := by decide +kernel
theorem dX6_readText_5 : decode cX6_readText 5 = .ok (.aload_n 0, 1) := by decide +kernel
theorem dX6_readText_6 : decode cX6_readText 6 = .ok (.iload_n 2, 1) := by decide +kernel
theorem dX6_readText_7 : decode cX6_readText 7 = .ok (.aload_n 1, 1) := by decide +kernel
theorem dX6_readText_8 : decode cX6_readText 8 = .ok (.arraylength, 1) := by decide +kernel
theorem dX6_readText_9 : decode cX6_readText 9 = .ok (.invokestatic 58, 3) := by decide +kernel
theorem dX6_readText_12 : decode cX6_readText 12 = .ok (.putfield 32, 3) := by decide +kernel
theorem dX6_readText_15 : decode cX6_readText 15 = .ok (.aload_n 0, 1) := by decide +kernel
theorem dX6_readText_16 : decode cX6_readText 16 = .ok (.iconst 0, 1) := by decide +kernel
theorem dX6_readText_17 : decode cX6_readText 17 = .ok (.putfield 36, 3) := by decide +kernel
theorem dX6_readText_20 : decode cX6_readText 20 = .ok (.aload_n 0, 1) := by decide +kernel
theorem dX6_readText_21 : decode cX6_readText 21 = .ok (.invokevirtual 64, 3) := by decide +kernel
theorem dX6_readText_24 : decode cX6_readText 24 = .ok (.aload_n 0, 1) := by decide +kernel
theorem dX6_readText_25 : decode cX6_readText 25 = .ok (.invokevirtual 67, 3) := by decide +kernel
theorem dX6_readText_28 : decode cX6_readText 28 = .ok (.iconst 0, 1) := by decide +kernel
theorem dX6_readText_29 : decode cX6_readText 29 = .ok (.istore_n 3, 1) := by decide +kernel
theorem dX6_readText_30 : decode cX6_readText 30 = .ok (.iload_n 3, 1) := by decide +kernel
theorem dX6_readText_31 : decode cX6_readText 31 = .ok (.aload_n 0, 1) := by decide +kernel
theorem dX6_readText_32 : decode cX6_readText 32 = .ok (.getfield 32, 3) := by decide +kernel
theorem dX6_readText_35 : decode cX6_readText 35 = .ok (.if_icmp .gt 34, 3) := by decide +kernel
theorem dX6_readText_38 : decode cX6_readText 38 = .ok (.aload_n 0, 1) := by decide +kernel
theorem dX6_readText_39 : decode cX6_readText 39 = .ok (.getfield 39, 3) := by decide +kernel
theorem dX6_readText_42 : decode cX6_readText 42 = .ok (.ifCond .eq 27, 3) := by decide +kernel
theorem dX6_readText_45 : decode cX6_readText 45 = .ok (.aload_n 0, 1) := by decide +kernel
theorem dX6_readText_46 : decode cX6_readText 46 = .ok (.invokevirtual 70, 3) := by decide +kernel
theorem dX6_readText_49 : decode cX6_readText 49 = .ok (.istore 4, 2) := by decide +kernel
theorem dX6_readText_51 : decode cX6_readText 51 = .ok (.iload 4, 2) := by decide +kernel
theorem dX6_readText_53 : decode cX6_readText 53 = .ok (.ifCond .eq 6, 3) := by decide +kernel
theorem dX6_readText_56 : decode cX6_readText 56 = .ok (.iload 4, 2) := by decide +kernel
theorem dX6_readText_58 : decode cX6_readText 58 = .ok (.ireturn, 1) := by decide +kernel
theorem dX6_readText_59 : decode cX6_readText 59 = .ok (.aload_n 0, 1) := by decide +kernel
theorem dX6_readText_60 : decode cX6_readText 60 = .ok (.invokevirtual 67, 3) := by decide +kernel
theorem dX6_readText_63 : decode cX6_readText 63 = .ok (.iinc 3 1, 3) := by decide +kernel
theorem dX6_readText_66 : decode cX6_readText 66 = .ok (.goto (-36), 3) := by decide +kernel
theorem dX6_readText_69 : decode cX6_readText 69 = .ok (.aload_n 0, 1) := by decide +kernel
theorem dX6_readText_70 : decode cX6_readText 70 = .ok (.getfield 12, 3) := by decide +kernel
theorem dX6_readText_73 : decode cX6_readText 73 = .ok (.aload_n 0, 1) := by decide +kernel
theorem dX6_readText_74 : decode cX6_readText 74 = .ok (.getfield 28, 3) := by decide +kernel
theorem dX6_readText_77 : decode cX6_readText 77 = .ok (.invokevirtual 74, 3) := by decide +kernel
theorem dX6_readText_80 : decode cX6_readText 80 = .ok (.iconst 0, 1) := by decide +kernel
theorem dX6_readText_81 : decode cX6_readText 81 = .ok (.ireturn, 1) := by decide +kernel
theorem dX6_clear_0 : decode cX6_clear 0 = .ok (.aload_n 0, 1) := by decide +kernel
theorem dX6_clear_1 : decode cX6_clear 1 = .ok (.getfield 28, 3) := by decide +kernel
theorem dX6_clear_4 : decode cX6_clear 4 = .ok (.iconst 0, 1) := by decide +kernel
theorem dX6_clear_5 : decode cX6_clear 5 = .ok (.invokestatic 78, 3) := by decide +kernel
theorem dX6_clear_8 : decode cX6_clear 8 = .ok (.aload_n 0, 1) := by decide +kernel
theorem dX6_clear_9 : decode cX6_clear 9 = .ok (.getfield 12, 3) := by decide +kernel
theorem dX6_clear_12 : decode cX6_clear 12 = .ok (.getfield 84, 3) := by decide +kernel
theorem dX6_clear_15 : decode cX6_clear 15 = .ok (.iconst 0, 1) := by decide +kernel
theorem dX6_clear_16 : decode cX6_clear 16 = .ok (.invokestatic 78, 3) := by decide +kernel
theorem dX6_clear_19 : decode cX6_clear 19 = .ok (.aload_n 0, 1) := by decide +kernel
theorem dX6_clear_20 : decode cX6_clear 20 = .ok (.getfield 12, 3) := by decide +kernel
theorem dX6_clear_23 : decode cX6_clear 23 = .ok (.iconst 0, 1) := by decide +kernel
theorem dX6_clear_24 : decode cX6_clear 24 = .ok (.putfield 87, 3) := by decide +kernel
theorem dX6_clear_27 : decode cX6_clear 27 = .ok (.aload_n 0, 1) := by decide +kernel
theorem dX6_clear_28 : decode cX6_clear 28 = .ok (.getfield 12, 3) := by decide +kernel
theorem dX6_clear_31 : decode cX6_clear 31 = .ok (.iconst 0, 1) := by decide +kernel
theorem dX6_clear_32 : decode cX6_clear 32 = .ok (.putfield 90, 3) := by decide +kernel
theorem dX6_clear_35 : decode cX6_clear 35 = .ok (.aload_n 0, 1) := by decide +kernel
theorem dX6_clear_36 : decode cX6_clear 36 = .ok (.getfield 12, 3) := by decide +kernel
theorem dX6_clear_39 : decode cX6_clear 39 = .ok (.iconst 0, 1) := by decide +kernel
theorem dX6_clear_40 : decode cX6_clear 40 = .ok (.putfield 93, 3) := by decide +kernel
theorem dX6_clear_43 : decode cX6_clear 43 = .ok (.aload_n 0, 1) := by decide +kernel
theorem dX6_clear_44 : decode cX6_clear 44 = .ok (.iconst 0, 1) := by decide +kernel
theorem dX6_clear_45 : decode cX6_clear 45 = .ok (.putfield 48, 3) := by decide +kernel
theorem dX6_clear_48 : decode cX6_clear 48 = .ok (.aload_n 0, 1) := by decide +kernel
theorem dX6_clear_49 : decode cX6_clear 49 = .ok (.iconst 0, 1) := by decide +kernel
theorem dX6_clear_50 : decode cX6_clear 50 = .ok (.putfield 52, 3) := by decide +kernel
theorem dX6_clear_53 : decode cX6_clear 53 = .ok (.aload_n 0, 1) := by decide +kernel
theorem dX6_clear_54 : decode cX6_clear 54 = .ok (.iconst 0, 1) := by decide +kernel
theorem dX6_clear_55 : decode cX6_clear 55 = .ok (.putfield 55, 3) := by decide +kernel
theorem dX6_clear_58 : decode cX6_clear 58 = .ok (.return_, 1) := by decide +kernel
theorem dX6_goOn_0 : decode cX6_goOn 0 = .ok (.aload_n 0, 1) := by decide +kernel
theorem dX6_goOn_1 : decode cX6_goOn 1 = .ok (.getfield 36, 3) := by decide +kernel
theorem dX6_goOn_4 : decode cX6_goOn 4 = .ok (.aload_n 0, 1) := by decide +kernel
theorem dX6_goOn_5 : decode cX6_goOn 5 = .ok (.getfield 32, 3) := by decide +kernel
theorem dX6_goOn_8 : decode cX6_goOn 8 = .ok (.if_icmp .ge 32, 3) := by decide +kernel
theorem dX6_goOn_11 : decode cX6_goOn 11 = .ok (.aload_n 0, 1) := by decide +kernel
theorem dX6_goOn_12 : decode cX6_goOn 12 = .ok (.getfield 29, 3) := by decide +kernel
theorem dX6_goOn_15 : decode cX6_goOn 15 = .ok (.aload_n 0, 1) := by decide +kernel
theorem dX6_goOn_16 : decode cX6_goOn 16 = .ok (.getfield 36, 3) := by decide +kernel
theorem dX6_goOn_19 : decode cX6_goOn 19 = .ok (.iaload, 1) := by decide +kernel
theorem dX6_goOn_20 : decode cX6_goOn 20 = .ok (.invokestatic 96, 3) := by decide +kernel
theorem dX6_goOn_23 : decode cX6_goOn 23 = .ok (.iconst 4, 1) := by decide +kernel
theorem dX6_goOn_24 : decode cX6_goOn 24 = .ok (.if_icmp .ne 16, 3) := by decide +kernel
theorem dX6_goOn_27 : decode cX6_goOn 27 = .ok (.aload_n 0, 1) := by decide +kernel
theorem dX6_goOn_28 : decode cX6_goOn 28 = .ok (.dup, 1) := by decide +kernel
theorem dX6_goOn_29 : decode cX6_goOn 29 = .ok (.getfield 36, 3) := by decide +kernel
theorem dX6_goOn_32 : decode cX6_goOn 32 = .ok (.iconst 1, 1) := by decide +kernel
theorem dX6_goOn_33 : decode cX6_goOn 33 = .ok (.iadd, 1) := by decide +kernel
theorem dX6_goOn_34 : decode cX6_goOn 34 = .ok (.putfield 36, 3) := by decide +kernel
theorem dX6_goOn_37 : decode cX6_goOn 37 = .ok (.goto (-37), 3) := by decide +kernel
theorem dX6_goOn_40 : decode cX6_goOn 40 = .ok (.aload_n 0, 1) := by decide +kernel
theorem dX6_goOn_41 : decode cX6_goOn 41 = .ok (.aload_n 0, 1) := by decide +kernel
theorem dX6_goOn_42 : decode cX6_goOn 42 = .ok (.getfield 36, 3) := by decide +kernel
theorem dX6_goOn_45 : decode cX6_goOn 45 = .ok (.putfield 42, 3) := by decide +kernel
theorem dX6_goOn_48 : decode cX6_goOn 48 = .ok (.aload_n 0, 1) := by decide +kernel
theorem dX6_goOn_49 : decode cX6_goOn 49 = .ok (.aload_n 0, 1) := by decide +kernel
theorem dX6_goOn_50 : decode cX6_goOn 50 = .ok (.getfield 36, 3) := by decide +kernel
theorem dX6_goOn_53 : decode cX6_goOn 53 = .ok (.aload_n 0, 1) := by decide +kernel
theorem dX6_goOn_54 : decode cX6_goOn 54 = .ok (.getfield 32, 3) := by decide +kernel
theorem dX6_goOn_57 : decode cX6_goOn 57 = .ok (.if_icmp .ge 18, 3) := by decide +kernel
theorem dX6_goOn_60 : decode cX6_goOn 60 = .ok (.aload_n 0, 1) := by decide +kernel
theorem dX6_goOn_61 : decode cX6_goOn 61 = .ok (.getfield 29, 3) := by decide +kernel
theorem dX6_goOn_64 : decode cX6_goOn 64 = .ok (.aload_n 0, 1) := by decide +kernel
theorem dX6_goOn_65 : decode cX6_goOn 65 = .ok (.getfield 36, 3) := by decide +kernel
theorem dX6_goOn_68 : decode cX6_goOn 68 = .ok (.iaload, 1) := by decide +kernel
theorem dX6_goOn_69 : decode cX6_goOn 69 = .ok (.invokestatic 96, 3) := by decide +kernel
theorem dX6_goOn_72 : decode cX6_goOn 72 = .ok (.goto 4, 3) := by decide +kernel
theorem dX6_goOn_75 : decode cX6_goOn 75 = .ok (.iconst 0, 1) := by decide +kernel
theorem dX6_goOn_76 : decode cX6_goOn 76 = .ok (.putfield 39, 3) := by decide +kernel
theorem dX6_goOn_79 : decode cX6_goOn 79 = .ok (.aload_n 0, 1) := by decide +kernel
theorem dX6_goOn_80 : decode cX6_goOn 80 = .ok (.getfield 39, 3) := by decide +kernel
theorem dX6_goOn_83 : decode cX6_goOn 83 = .ok (.iconst 1, 1) := by decide +kernel
theorem dX6_goOn_84 : decode cX6_goOn 84 = .ok (.if_icmp .eq 11, 3) := by decide +kernel
theorem dX6_goOn_87 : decode cX6_goOn 87 = .ok (.aload_n 0, 1) := by decide +kernel
theorem dX6_goOn_88 : decode cX6_goOn 88 = .ok (.getfield 39, 3) := by decide +kernel
theorem dX6_goOn_91 : decode cX6_goOn 91 = .ok (.iconst 2, 1) := by decide +kernel
theorem dX6_goOn_92 : decode cX6_goOn 92 = .ok (.if_icmp .ne 7, 3) := by decide +kernel
theorem dX6_goOn_95 : decode cX6_goOn 95 = .ok (.iconst 1, 1) := by decide +kernel
theorem dX6_goOn_96 : decode cX6_goOn 96 = .ok (.goto 4, 3) := by decide +kernel
theorem dX6_goOn_99 : decode cX6_goOn 99 = .ok (.iconst 0, 1) := by decide +kernel
theorem dX6_goOn_100 : decode cX6_goOn 100 = .ok (.istore_n 1, 1) := by decide +kernel
theorem dX6_goOn_101 : decode cX6_goOn 101 = .ok (.aload_n 0, 1) := by decide +kernel
theorem dX6_goOn_102 : decode cX6_goOn 102 = .ok (.getfield 36, 3) := by decide +kernel
theorem dX6_goOn_105 : decode cX6_goOn 105 = .ok (.aload_n 0, 1) := by decide +kernel
theorem dX6_goOn_106 : decode cX6_goOn 106 = .ok (.getfield 32, 3) := by decide +kernel
theorem dX6_goOn_109 : decode cX6_goOn 109 = .ok (.if_icmp .ge 50, 3) := by decide +kernel
theorem dX6_goOn_112 : decode cX6_goOn 112 = .ok (.aload_n 0, 1) := by decide +kernel
theorem dX6_goOn_113 : decode cX6_goOn 113 = .ok (.getfield 36, 3) := by decide +kernel
theorem dX6_goOn_116 : decode cX6_goOn 116 = .ok (.aload_n 0, 1) := by decide +kernel
theorem dX6_goOn_117 : decode cX6_goOn 117 = .ok (.getfield 42, 3) := by decide +kernel
theorem dX6_goOn_120 : decode cX6_goOn 120 = .ok (.if_icmp .eq 26, 3) := by decide +kernel
theorem dX6_goOn_123 : decode cX6_goOn 123 = .ok (.iload_n 1, 1) := by decide +kernel
theorem dX6_goOn_124 : decode cX6_goOn 124 = .ok (.ifCond .eq 35, 3) := by decide +kernel
theorem dX6_goOn_127 : decode cX6_goOn 127 = .ok (.aload_n 0, 1) := by decide +kernel
theorem dX6_goOn_128 : decode cX6_goOn 128 = .ok (.getfield 29, 3) := by decide +kernel
theorem dX6_goOn_131 : decode cX6_goOn 131 = .ok (.aload_n 0, 1) := by decide +kernel
theorem dX6_goOn_132 : decode cX6_goOn 132 = .ok (.getfield 36, 3) := by decide +kernel
theorem dX6_goOn_135 : decode cX6_goOn 135 = .ok (.iaload, 1) := by decide +kernel
theorem dX6_goOn_136 : decode cX6_goOn 136 = .ok (.invokestatic 96, 3) := by decide +kernel
theorem dX6_goOn_139 : decode cX6_goOn 139 = .ok (.aload_n 0, 1) := by decide +kernel
theorem dX6_goOn_140 : decode cX6_goOn 140 = .ok (.getfield 39, 3) := by decide +kernel
theorem dX6_goOn_143 : decode cX6_goOn 143 = .ok (.if_icmp .ne 16, 3) := by decide +kernel
theorem dX6_goOn_146 : decode cX6_goOn 146 = .ok (.aload_n 0, 1) := by decide +kernel
theorem dX6_goOn_147 : decode cX6_goOn 147 = .ok (.dup, 1) := by decide +kernel
theorem dX6_goOn_148 : decode cX6_goOn 148 = .ok (.getfield 36, 3) := by decide +kernel
theorem dX6_goOn_151 : decode cX6_goOn 151 = .ok (.iconst 1, 1) := by decide +kernel
theorem dX6_goOn_152 : decode cX6_goOn 152 = .ok (.iadd, 1) := by decide +kernel
theorem dX6_goOn_153 : decode cX6_goOn 153 = .ok (.putfield 36, 3) := by decide +kernel
theorem dX6_goOn_156 : decode cX6_goOn 156 = .ok (.goto (-55), 3) := by decide +kernel
theorem dX6_goOn_159 : decode cX6_goOn 159 = .ok (.return_, 1) := by decide +kernel
theorem dX6_kindOf_0 : decode cX6_kindOf 0 = .ok (.iload_n 0, 1) := by decide +kernel
theorem dX6_kindOf_1 : decode cX6_kindOf 1 = .ok (.bipush 97, 2) := by decide +kernel
theorem dX6_kindOf_3 : decode cX6_kindOf 3 = .ok (.if_icmp .lt 11, 3) := by decide +kernel
theorem dX6_kindOf_6 : decode cX6_kindOf 6 = .ok (.iload_n 0, 1) := by decide +kernel
theorem dX6_kindOf_7 : decode cX6_kindOf 7 = .ok (.bipush 122, 2) := by decide +kernel
theorem dX6_kindOf_9 : decode cX6_kindOf 9 = .ok (.if_icmp .gt 5, 3) := by decide +kernel
theorem dX6_kindOf_12 : decode cX6_kindOf 12 = .ok (.iconst 1, 1) := by decide +kernel
theorem dX6_kindOf_13 : decode cX6_kindOf 13 = .ok (.ireturn, 1) := by decide +kernel
theorem dX6_kindOf_14 : decode cX6_kindOf 14 = .ok (.iload_n 0, 1) := by decide +kernel
theorem dX6_kindOf_15 : decode cX6_kindOf 15 = .ok (.bipush 48, 2) := by decide +kernel
theorem dX6_kindOf_17 : decode cX6_kindOf 17 = .ok (.if_icmp .lt 11, 3) := by decide +kernel
theorem dX6_kindOf_20 : decode cX6_kindOf 20 = .ok (.iload_n 0, 1) := by decide +kernel
theorem dX6_kindOf_21 : decode cX6_kindOf 21 = .ok (.bipush 57, 2) := by decide +kernel
theorem dX6_kindOf_23 : decode cX6_kindOf 23 = .ok (.if_icmp .gt 5, 3) := by decide +kernel
theorem dX6_kindOf_26 : decode cX6_kindOf 26 = .ok (.iconst 2, 1) := by decide +kernel
theorem dX6_kindOf_27 : decode cX6_kindOf 27 = .ok (.ireturn, 1) := by decide +kernel
theorem dX6_kindOf_28 : decode cX6_kindOf 28 = .ok (.iload_n 0, 1) := by decide +kernel
theorem dX6_kindOf_29 : decode cX6_kindOf 29 = .ok (.bipush 32, 2) := by decide +kernel
theorem dX6_kindOf_31 : decode cX6_kindOf 31 = .ok (.if_icmp .eq 9, 3) := by decide +kernel
theorem dX6_kindOf_34 : decode cX6_kindOf 34 = .ok (.iload_n 0, 1) := by decide +kernel
theorem dX6_kindOf_35 : decode cX6_kindOf 35 = .ok (.bipush 10, 2) := by decide +kernel
theorem dX6_kindOf_37 : decode cX6_kindOf 37 = .ok (.if_icmp .ne 7, 3) := by decide +kernel
theorem dX6_kindOf_40 : decode cX6_kindOf 40 = .ok (.iconst 4, 1) := by decide +kernel
theorem dX6_kindOf_41 : decode cX6_kindOf 41 = .ok (.goto 4, 3) := by decide +kernel
theorem dX6_kindOf_44 : decode cX6_kindOf 44 = .ok (.iconst 3, 1) := by decide +kernel
theorem dX6_kindOf_45 : decode cX6_kindOf 45 = .ok (.ireturn, 1) := by decide +kernel
theorem dX6_isSign_0 : decode cX6_isSign 0 = .ok (.aload_n 0, 1) := by decide +kernel
theorem dX6_isSign_1 : decode cX6_isSign 1 = .ok (.getfield 39, 3) := by decide +kernel
theorem dX6_isSign_4 : decode cX6_isSign 4 = .ok (.iconst 3, 1) := by decide +kernel
theorem dX6_isSign_5 : decode cX6_isSign 5 = .ok (.if_icmp .ne 20, 3) := by decide +kernel
theorem dX6_isSign_8 : decode cX6_isSign 8 = .ok (.aload_n 0, 1) := by decide +kernel
theorem dX6_isSign_9 : decode cX6_isSign 9 = .ok (.getfield 29, 3) := by decide +kernel
theorem dX6_isSign_12 : decode cX6_isSign 12 = .ok (.aload_n 0, 1) := by decide +kernel
theorem dX6_isSign_13 : decode cX6_isSign 13 = .ok (.getfield 42, 3) := by decide +kernel
theorem dX6_isSign_16 : decode cX6_isSign 16 = .ok (.iaload, 1) := by decide +kernel
theorem dX6_isSign_17 : decode cX6_isSign 17 = .ok (.iload_n 1, 1) := by decide +kernel
theorem dX6_isSign_18 : decode cX6_isSign 18 = .ok (.if_icmp .ne 7, 3) := by decide +kernel
theorem dX6_isSign_21 : decode cX6_isSign 21 = .ok (.iconst 1, 1) := by decide +kernel
theorem dX6_isSign_22 : decode cX6_isSign 22 = .ok (.goto 4, 3) := by decide +kernel
theorem dX6_isSign_25 : decode cX6_isSign 25 = .ok (.iconst 0, 1) := by decide +kernel
theorem dX6_isSign_26 : decode cX6_isSign 26 = .ok (.ireturn, 1) := by decide +kernel
theorem dX6_isLetters_0 : decode cX6_isLetters 0 = .ok (.aload_n 0, 1) := by decide +kernel
theorem dX6_isLetters_1 : decode cX6_isLetters 1 = .ok (.getfield 39, 3) := by decide +kernel
theorem dX6_isLetters_4 : decode cX6_isLetters 4 = .ok (.iconst 1, 1) := by decide +kernel
theorem dX6_isLetters_5 : decode cX6_isLetters 5 = .ok (.if_icmp .ne 19, 3) := by decide +kernel
theorem dX6_isLetters_8 : decode cX6_isLetters 8 = .ok (.aload_n 0, 1) := by decide +kernel
theorem dX6_isLetters_9 : decode cX6_isLetters 9 = .ok (.getfield 36, 3) := by decide +kernel
theorem dX6_isLetters_12 : decode cX6_isLetters 12 = .ok (.aload_n 0, 1) := by decide +kernel
theorem dX6_isLetters_13 : decode cX6_isLetters 13 = .ok (.getfield 42, 3) := by decide +kernel
theorem dX6_isLetters_16 : decode cX6_isLetters 16 = .ok (.isub, 1) := by decide +kernel
theorem dX6_isLetters_17 : decode cX6_isLetters 17 = .ok (.aload_n 1, 1) := by decide +kernel
theorem dX6_isLetters_18 : decode cX6_isLetters 18 = .ok (.invokevirtual 100, 3) := by decide +kernel
theorem dX6_isLetters_21 : decode cX6_isLetters 21 = .ok (.if_icmp .eq 5, 3) := by decide +kernel
theorem dX6_isLetters_24 : decode cX6_isLetters 24 = .ok (.iconst 0, 1) := by decide +kernel
theorem dX6_isLetters_25 : decode cX6_isLetters 25 = .ok (.ireturn, 1) := by decide +kernel
theorem dX6_isLetters_26 : decode cX6_isLetters 26 = .ok (.iconst 0, 1) := by decide +kernel
theorem dX6_isLetters_27 : decode cX6_isLetters 27 = .ok (.istore_n 2, 1) := by decide +kernel
theorem dX6_isLetters_28 : decode cX6_isLetters 28 = .ok (.iload_n 2, 1) := by decide +kernel
theorem dX6_isLetters_29 : decode cX6_isLetters 29 = .ok (.aload_n 1, 1) := by decide +kernel
theorem dX6_isLetters_30 : decode cX6_isLetters 30 = .ok (.invokevirtual 100, 3) := by decide +kernel
theorem dX6_isLetters_33 : decode cX6_isLetters 33 = .ok (.if_icmp .ge 30, 3) := by decide +kernel
theorem dX6_isLetters_36 : decode cX6_isLetters 36 = .ok (.aload_n 0, 1) := by decide +kernel
theorem dX6_isLetters_37 : decode cX6_isLetters 37 = .ok (.getfield 29, 3) := by decide +kernel
theorem dX6_isLetters_40 : decode cX6_isLetters 40 = .ok (.aload_n 0, 1) := by decide +kernel
theorem dX6_isLetters_41 : decode cX6_isLetters 41 = .ok (.getfield 42, 3) := by decide +kernel
theorem dX6_isLetters_44 : decode cX6_isLetters 44 = .ok (.iload_n 2, 1) := by decide +kernel
theorem dX6_isLetters_45 : decode cX6_isLetters 45 = .ok (.iadd, 1) := by decide +kernel
theorem dX6_isLetters_46 : decode cX6_isLetters 46 = .ok (.iaload, 1) := by decide +kernel
theorem dX6_isLetters_47 : decode cX6_isLetters 47 = .ok (.aload_n 1, 1) := by decide +kernel
theorem dX6_isLetters_48 : decode cX6_isLetters 48 = .ok (.iload_n 2, 1) := by decide +kernel
theorem dX6_isLetters_49 : decode cX6_isLetters 49 = .ok (.invokevirtual 104, 3) := by decide +kernel
theorem dX6_isLetters_52 : decode cX6_isLetters 52 = .ok (.if_icmp .eq 5, 3) := by decide +kernel
theorem dX6_isLetters_55 : decode cX6_isLetters 55 = .ok (.iconst 0, 1) := by decide +kernel
theorem dX6_isLetters_56 : decode cX6_isLetters 56 = .ok (.ireturn, 1) := by decide +kernel
theorem dX6_isLetters_57 : decode cX6_isLetters 57 = .ok (.iinc 2 1, 3) := by decide +kernel
theorem dX6_isLetters_60 : decode cX6_isLetters 60 = .ok (.goto (-32), 3) := by decide +kernel
theorem dX6_isLetters_63 : decode cX6_isLetters 63 = .ok (.iconst 1, 1) := by decide +kernel
theorem dX6_isLetters_64 : decode cX6_isLetters 64 = .ok (.ireturn, 1) := by decide +kernel
theorem dX6_judgeNumber_0 : decode cX6_judgeNumber 0 = .ok (.aload_n 0, 1) := by decide +kernel
theorem dX6_judgeNumber_1 : decode cX6_judgeNumber 1 = .ok (.getfield 39, 3) := by decide +kernel
theorem dX6_judgeNumber_4 : decode cX6_judgeNumber 4 = .ok (.iconst 2, 1) := by decide +kernel
theorem dX6_judgeNumber_5 : decode cX6_judgeNumber 5 = .ok (.if_icmp .eq 5, 3) := by decide +kernel
theorem dX6_judgeNumber_8 : decode cX6_judgeNumber 8 = .ok (.iconst 1, 1) := by decide +kernel
theorem dX6_judgeNumber_9 : decode cX6_judgeNumber 9 = .ok (.ireturn, 1) := by decide +kernel
theorem dX6_judgeNumber_10 : decode cX6_judgeNumber 10 = .ok (.aload_n 0, 1) := by decide +kernel
theorem dX6_judgeNumber_11 : decode cX6_judgeNumber 11 = .ok (.getfield 36, 3) := by decide +kernel
theorem dX6_judgeNumber_14 : decode cX6_judgeNumber 14 = .ok (.aload_n 0, 1) := by decide +kernel
theorem dX6_judgeNumber_15 : decode cX6_judgeNumber 15 = .ok (.getfield 42, 3) := by decide +kernel
theorem dX6_judgeNumber_18 : decode cX6_judgeNumber 18 = .ok (.isub, 1) := by decide +kernel
theorem dX6_judgeNumber_19 : decode cX6_judgeNumber 19 = .ok (.iconst 3, 1) := by decide +kernel
theorem dX6_judgeNumber_20 : decode cX6_judgeNumber 20 = .ok (.if_icmp .le 5, 3) := by decide +kernel
theorem dX6_judgeNumber_23 : decode cX6_judgeNumber 23 = .ok (.iconst 2, 1) := by decide +kernel
theorem dX6_judgeNumber_24 : decode cX6_judgeNumber 24 = .ok (.ireturn, 1) := by decide +kernel
theorem dX6_judgeNumber_25 : decode cX6_judgeNumber 25 = .ok (.aload_n 0, 1) := by decide +kernel
theorem dX6_judgeNumber_26 : decode cX6_judgeNumber 26 = .ok (.iconst 0, 1) := by decide +kernel
theorem dX6_judgeNumber_27 : decode cX6_judgeNumber 27 = .ok (.putfield 45, 3) := by decide +kernel
theorem dX6_judgeNumber_30 : decode cX6_judgeNumber 30 = .ok (.aload_n 0, 1) := by decide +kernel
theorem dX6_judgeNumber_31 : decode cX6_judgeNumber 31 = .ok (.getfield 42, 3) := by decide +kernel
theorem dX6_judgeNumber_34 : decode cX6_judgeNumber 34 = .ok (.istore_n 3, 1) := by decide +kernel
theorem dX6_judgeNumber_35 : decode cX6_judgeNumber 35 = .ok (.iload_n 3, 1) := by decide +kernel
theorem dX6_judgeNumber_36 : decode cX6_judgeNumber 36 = .ok (.aload_n 0, 1) := by decide +kernel
theorem dX6_judgeNumber_37 : decode cX6_judgeNumber 37 = .ok (.getfield 36, 3) := by decide +kernel
theorem dX6_judgeNumber_40 : decode cX6_judgeNumber 40 = .ok (.if_icmp .ge 30, 3) := by decide +kernel
theorem dX6_judgeNumber_43 : decode cX6_judgeNumber 43 = .ok (.aload_n 0, 1) := by decide +kernel
theorem dX6_judgeNumber_44 : decode cX6_judgeNumber 44 = .ok (.aload_n 0, 1) := by decide +kernel
theorem dX6_judgeNumber_45 : decode cX6_judgeNumber 45 = .ok (.getfield 45, 3) := by decide +kernel
theorem dX6_judgeNumber_48 : decode cX6_judgeNumber 48 = .ok (.bipush 10, 2) := by decide +kernel
theorem dX6_judgeNumber_50 : decode cX6_judgeNumber 50 = .ok (.imul, 1) := by decide +kernel
theorem dX6_judgeNumber_51 : decode cX6_judgeNumber 51 = .ok (.aload_n 0, 1) := by decide +kernel
theorem dX6_judgeNumber_52 : decode cX6_judgeNumber 52 = .ok (.getfield 29, 3) := by decide +kernel
theorem dX6_judgeNumber_55 : decode cX6_judgeNumber 55 = .ok (.iload_n 3, 1) := by decide +kernel
theorem dX6_judgeNumber_56 : decode cX6_judgeNumber 56 = .ok (.iaload, 1) := by decide +kernel
theorem dX6_judgeNumber_57 : decode cX6_judgeNumber 57 = .ok (.iadd, 1) := by decide +kernel
theorem dX6_judgeNumber_58 : decode cX6_judgeNumber 58 = .ok (.bipush 48, 2) := by decide +kernel
theorem dX6_judgeNumber_60 : decode cX6_judgeNumber 60 = .ok (.isub, 1) := by decide +kernel
theorem dX6_judgeNumber_61 : decode cX6_judgeNumber 61 = .ok (.putfield 45, 3) := by decide +kernel
theorem dX6_judgeNumber_64 : decode cX6_judgeNumber 64 = .ok (.iinc 3 1, 3) := by decide +kernel
theorem dX6_judgeNumber_67 : decode cX6_judgeNumber 67 = .ok (.goto (-32), 3) := by decide +kernel
theorem dX6_judgeNumber_70 : decode cX6_judgeNumber 70 = .ok (.aload_n 0, 1) := by decide +kernel
theorem dX6_judgeNumber_71 : decode cX6_judgeNumber 71 = .ok (.getfield 45, 3) := by decide +kernel
theorem dX6_judgeNumber_74 : decode cX6_judgeNumber 74 = .ok (.iload_n 1, 1) := by decide +kernel
theorem dX6_judgeNumber_75 : decode cX6_judgeNumber 75 = .ok (.if_icmp .lt 11, 3) := by decide +kernel
theorem dX6_judgeNumber_78 : decode cX6_judgeNumber 78 = .ok (.aload_n 0, 1) := by decide +kernel
theorem dX6_judgeNumber_79 : decode cX6_judgeNumber 79 = .ok (.getfield 45, 3) := by decide +kernel
theorem dX6_judgeNumber_82 : decode cX6_judgeNumber 82 = .ok (.iload_n 2, 1) := by decide +kernel
theorem dX6_judgeNumber_83 : decode cX6_judgeNumber 83 = .ok (.if_icmp .le 7, 3) := by decide +kernel
theorem dX6_judgeNumber_86 : decode cX6_judgeNumber 86 = .ok (.iconst 2, 1) := by decide +kernel
theorem dX6_judgeNumber_87 : decode cX6_judgeNumber 87 = .ok (.goto 4, 3) := by decide +kernel
theorem dX6_judgeNumber_90 : decode cX6_judgeNumber 90 = .ok (.iconst 0, 1) := by decide +kernel
theorem dX6_judgeNumber_91 : decode cX6_judgeNumber 91 = .ok (.ireturn, 1) := by decide +kernel
theorem dX6_readSemicolon_0 : decode cX6_readSemicolon 0 = .ok (.aload_n 0, 1) := by decide +kernel
theorem dX6_readSemicolon_1 : decode cX6_readSemicolon 1 = .ok (.invokevirtual 67, 3) := by decide +kernel
theorem dX6_readSemicolon_4 : decode cX6_readSemicolon 4 = .ok (.aload_n 0, 1) := by decide +kernel
theorem dX6_readSemicolon_5 : decode cX6_readSemicolon 5 = .ok (.bipush 59, 2) := by decide +kernel
theorem dX6_readSemicolon_7 : decode cX6_readSemicolon 7 = .ok (.invokevirtual 108, 3) := by decide +kernel
theorem dX6_readSemicolon_10 : decode cX6_readSemicolon 10 = .ok (.ifCond .eq 7, 3) := by decide +kernel
theorem dX6_readSemicolon_13 : decode cX6_readSemicolon 13 = .ok (.iconst 0, 1) := by decide +kernel
theorem dX6_readSemicolon_14 : decode cX6_readSemicolon 14 = .ok (.goto 4, 3) := by decide +kernel
theorem dX6_readSemicolon_17 : decode cX6_readSemicolon 17 = .ok (.iconst 1, 1) := by decide +kernel
theorem dX6_readSemicolon_18 : decode cX6_readSemicolon 18 = .ok (.ireturn, 1) := by decide +kernel
theorem dX6_readClause_0 : decode cX6_readClause 0 = .ok (.aload_n 0, 1) := by decide +kernel
theorem dX6_readClause_1 : decode cX6_readClause 1 = .ok (.ldc 112, 2) := by decide +kernel
theorem dX6_readClause_3 : decode cX6_readClause 3 = .ok (.invokevirtual 114, 3) := by decide +kernel
theorem dX6_readClause_6 : decode cX6_readClause 6 = .ok (.ifCond .eq 9, 3) := by decide +kernel
theorem dX6_readClause_9 : decode cX6_readClause 9 = .ok (.aload_n 0, 1) := by decide +kernel
theorem dX6_readClause_10 : decode cX6_readClause 10 = .ok (.iconst 0, 1) := by decide +kernel
theorem dX6_readClause_11 : decode cX6_readClause 11 = .ok (.invokevirtual 118, 3) := by decide +kernel
theorem dX6_readClause_14 : decode cX6_readClause 14 = .ok (.ireturn, 1) := by decide +kernel
theorem dX6_readClause_15 : decode cX6_readClause 15 = .ok (.aload_n 0, 1) := by decide +kernel
theorem dX6_readClause_16 : decode cX6_readClause 16 = .ok (.ldc 121, 2) := by decide +kernel
theorem dX6_readClause_18 : decode cX6_readClause 18 = .ok (.invokevirtual 114, 3) := by decide +kernel
theorem dX6_readClause_21 : decode cX6_readClause 21 = .ok (.ifCond .eq 9, 3) := by decide +kernel
theorem dX6_readClause_24 : decode cX6_readClause 24 = .ok (.aload_n 0, 1) := by decide +kernel
theorem dX6_readClause_25 : decode cX6_readClause 25 = .ok (.iconst 1, 1) := by decide +kernel
theorem dX6_readClause_26 : decode cX6_readClause 26 = .ok (.invokevirtual 118, 3) := by decide +kernel
theorem dX6_readClause_29 : decode cX6_readClause 29 = .ok (.ireturn, 1) := by decide +kernel
theorem dX6_readClause_30 : decode cX6_readClause 30 = .ok (.aload_n 0, 1) := by decide +kernel
theorem dX6_readClause_31 : decode cX6_readClause 31 = .ok (.ldc 123, 2) := by decide +kernel
theorem dX6_readClause_33 : decode cX6_readClause 33 = .ok (.invokevirtual 114, 3) := by decide +kernel
theorem dX6_readClause_36 : decode cX6_readClause 36 = .ok (.ifCond .eq 8, 3) := by decide +kernel
theorem dX6_readClause_39 : decode cX6_readClause 39 = .ok (.aload_n 0, 1) := by decide +kernel
theorem dX6_readClause_40 : decode cX6_readClause 40 = .ok (.invokevirtual 125, 3) := by decide +kernel
theorem dX6_readClause_43 : decode cX6_readClause 43 = .ok (.ireturn, 1) := by decide +kernel
theorem dX6_readClause_44 : decode cX6_readClause 44 = .ok (.aload_n 0, 1) := by decide +kernel
theorem dX6_readClause_45 : decode cX6_readClause 45 = .ok (.ldc 128, 2) := by decide +kernel
theorem dX6_readClause_47 : decode cX6_readClause 47 = .ok (.invokevirtual 114, 3) := by decide +kernel
theorem dX6_readClause_50 : decode cX6_readClause 50 = .ok (.ifCond .eq 8, 3) := by decide +kernel
theorem dX6_readClause_53 : decode cX6_readClause 53 = .ok (.aload_n 0, 1) := by decide +kernel
theorem dX6_readClause_54 : decode cX6_readClause 54 = .ok (.invokevirtual 130, 3) := by decide +kernel
theorem dX6_readClause_57 : decode cX6_readClause 57 = .ok (.ireturn, 1) := by decide +kernel
theorem dX6_readClause_58 : decode cX6_readClause 58 = .ok (.aload_n 0, 1) := by decide +kernel
theorem dX6_readClause_59 : decode cX6_readClause 59 = .ok (.ldc 133, 2) := by decide +kernel
theorem dX6_readClause_61 : decode cX6_readClause 61 = .ok (.invokevirtual 114, 3) := by decide +kernel
theorem dX6_readClause_64 : decode cX6_readClause 64 = .ok (.ifCond .eq 8, 3) := by decide +kernel
theorem dX6_readClause_67 : decode cX6_readClause 67 = .ok (.aload_n 0, 1) := by decide +kernel
theorem dX6_readClause_68 : decode cX6_readClause 68 = .ok (.invokevirtual 135, 3) := by decide +kernel
theorem dX6_readClause_71 : decode cX6_readClause 71 = .ok (.ireturn, 1) := by decide +kernel
theorem dX6_readClause_72 : decode cX6_readClause 72 = .ok (.aload_n 0, 1) := by decide +kernel
theorem dX6_readClause_73 : decode cX6_readClause 73 = .ok (.ldc 138, 2) := by decide +kernel
theorem dX6_readClause_75 : decode cX6_readClause 75 = .ok (.invokevirtual 114, 3) := by decide +kernel
theorem dX6_readClause_78 : decode cX6_readClause 78 = .ok (.ifCond .eq 8, 3) := by decide +kernel
theorem dX6_readClause_81 : decode cX6_readClause 81 = .ok (.aload_n 0, 1) := by decide +kernel
theorem dX6_readClause_82 : decode cX6_readClause 82 = .ok (.invokevirtual 140, 3) := by decide +kernel
theorem dX6_readClause_85 : decode cX6_readClause 85 = .ok (.ireturn, 1) := by decide +kernel
theorem dX6_readClause_86 : decode cX6_readClause 86 = .ok (.aload_n 0, 1) := by decide +kernel
theorem dX6_readClause_87 : decode cX6_readClause 87 = .ok (.ldc 143, 2) := by decide +kernel
theorem dX6_readClause_89 : decode cX6_readClause 89 = .ok (.invokevirtual 114, 3) := by decide +kernel
theorem dX6_readClause_92 : decode cX6_readClause 92 = .ok (.ifCond .eq 10, 3) := by decide +kernel
theorem dX6_readClause_95 : decode cX6_readClause 95 = .ok (.aload_n 0, 1) := by decide +kernel
theorem dX6_readClause_96 : decode cX6_readClause 96 = .ok (.invokevirtual 145, 3) := by decide +kernel
theorem dX6_readClause_99 : decode cX6_readClause 99 = .ok (.goto 4, 3) := by decide +kernel
theorem dX6_readClause_102 : decode cX6_readClause 102 = .ok (.iconst 1, 1) := by decide +kernel
theorem dX6_readClause_103 : decode cX6_readClause 103 = .ok (.ireturn, 1) := by decide +kernel
theorem dX6_readMode_0 : decode cX6_readMode 0 = .ok (.aload_n 0, 1) := by decide +kernel
theorem dX6_readMode_1 : decode cX6_readMode 1 = .ok (.getfield 48, 3) := by decide +kernel
theorem dX6_readMode_4 : decode cX6_readMode 4 = .ok (.ifCond .eq 5, 3) := by decide +kernel
theorem dX6_readMode_7 : decode cX6_readMode 7 = .ok (.iconst 4, 1) := by decide +kernel
theorem dX6_readMode_8 : decode cX6_readMode 8 = .ok (.ireturn, 1) := by decide +kernel
theorem dX6_readMode_9 : decode cX6_readMode 9 = .ok (.aload_n 0, 1) := by decide +kernel
theorem dX6_readMode_10 : decode cX6_readMode 10 = .ok (.iconst 1, 1) := by decide +kernel
theorem dX6_readMode_11 : decode cX6_readMode 11 = .ok (.putfield 48, 3) := by decide +kernel
theorem dX6_readMode_14 : decode cX6_readMode 14 = .ok (.aload_n 0, 1) := by decide +kernel
theorem dX6_readMode_15 : decode cX6_readMode 15 = .ok (.getfield 12, 3) := by decide +kernel
theorem dX6_readMode_18 : decode cX6_readMode 18 = .ok (.iload_n 1, 1) := by decide +kernel
theorem dX6_readMode_19 : decode cX6_readMode 19 = .ok (.putfield 90, 3) := by decide +kernel
theorem dX6_readMode_22 : decode cX6_readMode 22 = .ok (.aload_n 0, 1) := by decide +kernel
theorem dX6_readMode_23 : decode cX6_readMode 23 = .ok (.invokevirtual 148, 3) := by decide +kernel
theorem dX6_readMode_26 : decode cX6_readMode 26 = .ok (.ireturn, 1) := by decide +kernel
theorem dX6_readWithout_0 : decode cX6_readWithout 0 = .ok (.iconst 0, 1) := by decide +kernel
theorem dX6_readWithout_1 : decode cX6_readWithout 1 = .ok (.istore_n 1, 1) := by decide +kernel
theorem dX6_readWithout_2 : decode cX6_readWithout 2 = .ok (.iload_n 1, 1) := by decide +kernel
theorem dX6_readWithout_3 : decode cX6_readWithout 3 = .ok (.bipush 7, 2) := by decide +kernel
theorem dX6_readWithout_5 : decode cX6_readWithout 5 = .ok (.if_icmp .gt 106, 3) := by decide +kernel
theorem dX6_readWithout_8 : decode cX6_readWithout 8 = .ok (.aload_n 0, 1) := by decide +kernel
theorem dX6_readWithout_9 : decode cX6_readWithout 9 = .ok (.invokevirtual 67, 3) := by decide +kernel
theorem dX6_readWithout_12 : decode cX6_readWithout 12 = .ok (.iload_n 1, 1) := by decide +kernel
theorem dX6_readWithout_13 : decode cX6_readWithout 13 = .ok (.ifCond .le 14, 3) := by decide +kernel
theorem dX6_readWithout_16 : decode cX6_readWithout 16 = .ok (.aload_n 0, 1) := by decide +kernel
theorem dX6_readWithout_17 : decode cX6_readWithout 17 = .ok (.bipush 59, 2) := by decide +kernel
theorem dX6_readWithout_19 : decode cX6_readWithout 19 = .ok (.invokevirtual 108, 3) := by decide +kernel
theorem dX6_readWithout_22 : decode cX6_readWithout 22 = .ok (.ifCond .eq 5, 3) := by decide +kernel
theorem dX6_readWithout_25 : decode cX6_readWithout 25 = .ok (.iconst 0, 1) := by decide +kernel
theorem dX6_readWithout_26 : decode cX6_readWithout 26 = .ok (.ireturn, 1) := by decide +kernel
theorem dX6_readWithout_27 : decode cX6_readWithout 27 = .ok (.aload_n 0, 1) := by decide +kernel
theorem dX6_readWithout_28 : decode cX6_readWithout 28 = .ok (.getfield 39, 3) := by decide +kernel
theorem dX6_readWithout_31 : decode cX6_readWithout 31 = .ok (.iconst 1, 1) := by decide +kernel
theorem dX6_readWithout_32 : decode cX6_readWithout 32 = .ok (.if_icmp .ne 31, 3) := by decide +kernel
theorem dX6_readWithout_35 : decode cX6_readWithout 35 = .ok (.aload_n 0, 1) := by decide +kernel
theorem dX6_readWithout_36 : decode cX6_readWithout 36 = .ok (.getfield 36, 3) := by decide +kernel
theorem dX6_readWithout_39 : decode cX6_readWithout 39 = .ok (.aload_n 0, 1) := by decide +kernel
theorem dX6_readWithout_40 : decode cX6_readWithout 40 = .ok (.getfield 42, 3) := by decide +kernel
theorem dX6_readWithout_43 : decode cX6_readWithout 43 = .ok (.isub, 1) := by decide +kernel
theorem dX6_readWithout_44 : decode cX6_readWithout 44 = .ok (.iconst 1, 1) := by decide +kernel
theorem dX6_readWithout_45 : decode cX6_readWithout 45 = .ok (.if_icmp .ne 18, 3) := by decide +kernel
theorem dX6_readWithout_48 : decode cX6_readWithout 48 = .ok (.aload_n 0, 1) := by decide +kernel
theorem dX6_readWithout_49 : decode cX6_readWithout 49 = .ok (.getfield 29, 3) := by decide +kernel
theorem dX6_readWithout_52 : decode cX6_readWithout 52 = .ok (.aload_n 0, 1) := by decide +kernel
theorem dX6_readWithout_53 : decode cX6_readWithout 53 = .ok (.getfield 42, 3) := by decide +kernel
theorem dX6_readWithout_56 : decode cX6_readWithout 56 = .ok (.iaload, 1) := by decide +kernel
theorem dX6_readWithout_57 : decode cX6_readWithout 57 = .ok (.bipush 97, 2) := by decide +kernel
theorem dX6_readWithout_59 : decode cX6_readWithout 59 = .ok (.isub, 1) := by decide +kernel
theorem dX6_readWithout_60 : decode cX6_readWithout 60 = .ok (.goto 5, 3) := by decide +kernel
theorem dX6_readWithout_63 : decode cX6_readWithout 63 = .ok (.bipush 7, 2) := by decide +kernel
theorem dX6_readWithout_65 : decode cX6_readWithout 65 = .ok (.istore_n 2, 1) := by decide +kernel
theorem dX6_readWithout_66 : decode cX6_readWithout 66 = .ok (.iload_n 2, 1) := by decide +kernel
theorem dX6_readWithout_67 : decode cX6_readWithout 67 = .ok (.bipush 7, 2) := by decide +kernel
theorem dX6_readWithout_69 : decode cX6_readWithout 69 = .ok (.if_icmp .lt 5, 3) := by decide +kernel
theorem dX6_readWithout_72 : decode cX6_readWithout 72 = .ok (.iconst 1, 1) := by decide +kernel
theorem dX6_readWithout_73 : decode cX6_readWithout 73 = .ok (.ireturn, 1) := by decide +kernel
theorem dX6_readWithout_74 : decode cX6_readWithout 74 = .ok (.aload_n 0, 1) := by decide +kernel
theorem dX6_readWithout_75 : decode cX6_readWithout 75 = .ok (.getfield 12, 3) := by decide +kernel
theorem dX6_readWithout_78 : decode cX6_readWithout 78 = .ok (.getfield 93, 3) := by decide +kernel
theorem dX6_readWithout_81 : decode cX6_readWithout 81 = .ok (.iload_n 2, 1) := by decide +kernel
theorem dX6_readWithout_82 : decode cX6_readWithout 82 = .ok (.ishr, 1) := by decide +kernel
theorem dX6_readWithout_83 : decode cX6_readWithout 83 = .ok (.iconst 1, 1) := by decide +kernel
theorem dX6_readWithout_84 : decode cX6_readWithout 84 = .ok (.iand, 1) := by decide +kernel
theorem dX6_readWithout_85 : decode cX6_readWithout 85 = .ok (.ifCond .eq 5, 3) := by decide +kernel
theorem dX6_readWithout_88 : decode cX6_readWithout 88 = .ok (.iconst 4, 1) := by decide +kernel
theorem dX6_readWithout_89 : decode cX6_readWithout 89 = .ok (.ireturn, 1) := by decide +kernel
theorem dX6_readWithout_90 : decode cX6_readWithout 90 = .ok (.aload_n 0, 1) := by decide +kernel
theorem dX6_readWithout_91 : decode cX6_readWithout 91 = .ok (.getfield 12, 3) := by decide +kernel
theorem dX6_readWithout_94 : decode cX6_readWithout 94 = .ok (.dup, 1) := by decide +kernel
theorem dX6_readWithout_95 : decode cX6_readWithout 95 = .ok (.getfield 93, 3) := by decide +kernel
theorem dX6_readWithout_98 : decode cX6_readWithout 98 = .ok (.iconst 1, 1) := by decide +kernel
theorem dX6_readWithout_99 : decode cX6_readWithout 99 = .ok (.iload_n 2, 1) := by decide +kernel
theorem dX6_readWithout_100 : decode cX6_readWithout 100 = .ok (.ishl, 1) := by decide +kernel
theorem dX6_readWithout_101 : decode cX6_readWithout 101 = .ok (.ior, 1) := by decide +kernel
theorem dX6_readWithout_102 : decode cX6_readWithout 102 = .ok (.putfield 93, 3) := by decide +kernel
theorem dX6_readWithout_105 : decode cX6_readWithout 105 = .ok (.iinc 1 1, 3) := by decide +kernel
theorem dX6_readWithout_108 : decode cX6_readWithout 108 = .ok (.goto (-106), 3) := by decide +kernel
theorem dX6_readWithout_111 : decode cX6_readWithout 111 = .ok (.iconst 1, 1) := by decide +kernel
theorem dX6_readWithout_112 : decode cX6_readWithout 112 = .ok (.ireturn, 1) := by decide +kernel
theorem dX6_readChain_0 : decode cX6_readChain 0 = .ok (.aload_n 0, 1) := by decide +kernel
theorem dX6_readChain_1 : decode cX6_readChain 1 = .ok (.invokevirtual 67, 3) := by decide +kernel
theorem dX6_readChain_4 : decode cX6_readChain 4 = .ok (.aload_n 0, 1) := by decide +kernel
theorem dX6_readChain_5 : decode cX6_readChain 5 = .ok (.iconst 0, 1) := by decide +kernel
theorem dX6_readChain_6 : decode cX6_readChain 6 = .ok (.iconst 3, 1) := by decide +kernel
theorem dX6_readChain_7 : decode cX6_readChain 7 = .ok (.invokevirtual 151, 3) := by decide +kernel
theorem dX6_readChain_10 : decode cX6_readChain 10 = .ok (.istore_n 1, 1) := by decide +kernel
theorem dX6_readChain_11 : decode cX6_readChain 11 = .ok (.iload_n 1, 1) := by decide +kernel
theorem dX6_readChain_12 : decode cX6_readChain 12 = .ok (.ifCond .eq 5, 3) := by decide +kernel
theorem dX6_readChain_15 : decode cX6_readChain 15 = .ok (.iload_n 1, 1) := by decide +kernel
theorem dX6_readChain_16 : decode cX6_readChain 16 = .ok (.ireturn, 1) := by decide +kernel
theorem dX6_readChain_17 : decode cX6_readChain 17 = .ok (.aload_n 0, 1) := by decide +kernel
theorem dX6_readChain_18 : decode cX6_readChain 18 = .ok (.getfield 55, 3) := by decide +kernel
theorem dX6_readChain_21 : decode cX6_readChain 21 = .ok (.aload_n 0, 1) := by decide +kernel
theorem dX6_readChain_22 : decode cX6_readChain 22 = .ok (.getfield 45, 3) := by decide +kernel
theorem dX6_readChain_25 : decode cX6_readChain 25 = .ok (.ishr, 1) := by decide +kernel
theorem dX6_readChain_26 : decode cX6_readChain 26 = .ok (.iconst 1, 1) := by decide +kernel
theorem dX6_readChain_27 : decode cX6_readChain 27 = .ok (.iand, 1) := by decide +kernel
theorem dX6_readChain_28 : decode cX6_readChain 28 = .ok (.ifCond .eq 5, 3) := by decide +kernel
theorem dX6_readChain_31 : decode cX6_readChain 31 = .ok (.iconst 4, 1) := by decide +kernel
theorem dX6_readChain_32 : decode cX6_readChain 32 = .ok (.ireturn, 1) := by decide +kernel
theorem dX6_readChain_33 : decode cX6_readChain 33 = .ok (.aload_n 0, 1) := by decide +kernel
theorem dX6_readChain_34 : decode cX6_readChain 34 = .ok (.dup, 1) := by decide +kernel
theorem dX6_readChain_35 : decode cX6_readChain 35 = .ok (.getfield 55, 3) := by decide +kernel
theorem dX6_readChain_38 : decode cX6_readChain 38 = .ok (.iconst 1, 1) := by decide +kernel
theorem dX6_readChain_39 : decode cX6_readChain 39 = .ok (.aload_n 0, 1) := by decide +kernel
theorem dX6_readChain_40 : decode cX6_readChain 40 = .ok (.getfield 45, 3) := by decide +kernel
theorem dX6_readChain_43 : decode cX6_readChain 43 = .ok (.ishl, 1) := by decide +kernel
theorem dX6_readChain_44 : decode cX6_readChain 44 = .ok (.ior, 1) := by decide +kernel
theorem dX6_readChain_45 : decode cX6_readChain 45 = .ok (.putfield 55, 3) := by decide +kernel
theorem dX6_readChain_48 : decode cX6_readChain 48 = .ok (.bipush 20, 2) := by decide +kernel
theorem dX6_readChain_50 : decode cX6_readChain 50 = .ok (.aload_n 0, 1) := by decide +kernel
theorem dX6_readChain_51 : decode cX6_readChain 51 = .ok (.getfield 45, 3) := by decide +kernel
theorem dX6_readChain_54 : decode cX6_readChain 54 = .ok (.iadd, 1) := by decide +kernel
theorem dX6_readChain_55 : decode cX6_readChain 55 = .ok (.istore_n 2, 1) := by decide +kernel
theorem dX6_readChain_56 : decode cX6_readChain 56 = .ok (.iconst 0, 1) := by decide +kernel
theorem dX6_readChain_57 : decode cX6_readChain 57 = .ok (.istore_n 3, 1) := by decide +kernel
theorem dX6_readChain_58 : decode cX6_readChain 58 = .ok (.iload_n 3, 1) := by decide +kernel
theorem dX6_readChain_59 : decode cX6_readChain 59 = .ok (.bipush 10, 2) := by decide +kernel
theorem dX6_readChain_61 : decode cX6_readChain 61 = .ok (.if_icmp .gt 62, 3) := by decide +kernel
theorem dX6_readChain_64 : decode cX6_readChain 64 = .ok (.aload_n 0, 1) := by decide +kernel
theorem dX6_readChain_65 : decode cX6_readChain 65 = .ok (.invokevirtual 67, 3) := by decide +kernel
theorem dX6_readChain_68 : decode cX6_readChain 68 = .ok (.iload_n 3, 1) := by decide +kernel
theorem dX6_readChain_69 : decode cX6_readChain 69 = .ok (.ifCond .le 14, 3) := by decide +kernel
theorem dX6_readChain_72 : decode cX6_readChain 72 = .ok (.aload_n 0, 1) := by decide +kernel
theorem dX6_readChain_73 : decode cX6_readChain 73 = .ok (.bipush 59, 2) := by decide +kernel
theorem dX6_readChain_75 : decode cX6_readChain 75 = .ok (.invokevirtual 108, 3) := by decide +kernel
theorem dX6_readChain_78 : decode cX6_readChain 78 = .ok (.ifCond .eq 5, 3) := by decide +kernel
theorem dX6_readChain_81 : decode cX6_readChain 81 = .ok (.iconst 0, 1) := by decide +kernel
theorem dX6_readChain_82 : decode cX6_readChain 82 = .ok (.ireturn, 1) := by decide +kernel
theorem dX6_readChain_83 : decode cX6_readChain 83 = .ok (.aload_n 0, 1) := by decide +kernel
theorem dX6_readChain_84 : decode cX6_readChain 84 = .ok (.invokevirtual 154, 3) := by decide +kernel
theorem dX6_readChain_87 : decode cX6_readChain 87 = .ok (.istore_n 1, 1) := by decide +kernel
theorem dX6_readChain_88 : decode cX6_readChain 88 = .ok (.iload_n 1, 1) := by decide +kernel
theorem dX6_readChain_89 : decode cX6_readChain 89 = .ok (.ifCond .eq 5, 3) := by decide +kernel
theorem dX6_readChain_92 : decode cX6_readChain 92 = .ok (.iload_n 1, 1) := by decide +kernel
theorem dX6_readChain_93 : decode cX6_readChain 93 = .ok (.ireturn, 1) := by decide +kernel
theorem dX6_readChain_94 : decode cX6_readChain 94 = .ok (.aload_n 0, 1) := by decide +kernel
theorem dX6_readChain_95 : decode cX6_readChain 95 = .ok (.getfield 28, 3) := by decide +kernel
theorem dX6_readChain_98 : decode cX6_readChain 98 = .ok (.iload_n 2, 1) := by decide +kernel
theorem dX6_readChain_99 : decode cX6_readChain 99 = .ok (.aload_n 0, 1) := by decide +kernel
theorem dX6_readChain_100 : decode cX6_readChain 100 = .ok (.getfield 45, 3) := by decide +kernel
theorem dX6_readChain_103 : decode cX6_readChain 103 = .ok (.invokestatic 157, 3) := by decide +kernel
theorem dX6_readChain_106 : decode cX6_readChain 106 = .ok (.iastore, 1) := by decide +kernel
theorem dX6_readChain_107 : decode cX6_readChain 107 = .ok (.aload_n 0, 1) := by decide +kernel
theorem dX6_readChain_108 : decode cX6_readChain 108 = .ok (.getfield 45, 3) := by decide +kernel
theorem dX6_readChain_111 : decode cX6_readChain 111 = .ok (.invokestatic 157, 3) := by decide +kernel
theorem dX6_readChain_114 : decode cX6_readChain 114 = .ok (.iconst 1, 1) := by decide +kernel
theorem dX6_readChain_115 : decode cX6_readChain 115 = .ok (.iadd, 1) := by decide +kernel
theorem dX6_readChain_116 : decode cX6_readChain 116 = .ok (.istore_n 2, 1) := by decide +kernel
theorem dX6_readChain_117 : decode cX6_readChain 117 = .ok (.iinc 3 1, 3) := by decide +kernel
theorem dX6_readChain_120 : decode cX6_readChain 120 = .ok (.goto (-62), 3) := by decide +kernel
theorem dX6_readChain_123 : decode cX6_readChain 123 = .ok (.iconst 1, 1) := by decide +kernel
theorem dX6_readChain_124 : decode cX6_readChain 124 = .ok (.ireturn, 1) := by decide +kernel
theorem dX6_judgeBlock_0 : decode cX6_judgeBlock 0 = .ok (.aload_n 0, 1) := by decide +kernel
theorem dX6_judgeBlock_1 : decode cX6_judgeBlock 1 = .ok (.iconst 0, 1) := by decide +kernel
theorem dX6_judgeBlock_2 : decode cX6_judgeBlock 2 = .ok (.bipush 9, 2) := by decide +kernel
theorem dX6_judgeBlock_4 : decode cX6_judgeBlock 4 = .ok (.invokevirtual 151, 3) := by decide +kernel
theorem dX6_judgeBlock_7 : decode cX6_judgeBlock 7 = .ok (.istore_n 1, 1) := by decide +kernel
theorem dX6_judgeBlock_8 : decode cX6_judgeBlock 8 = .ok (.iload_n 1, 1) := by decide +kernel
theorem dX6_judgeBlock_9 : decode cX6_judgeBlock 9 = .ok (.ifCond .eq 5, 3) := by decide +kernel
theorem dX6_judgeBlock_12 : decode cX6_judgeBlock 12 = .ok (.iload_n 1, 1) := by decide +kernel
theorem dX6_judgeBlock_13 : decode cX6_judgeBlock 13 = .ok (.ireturn, 1) := by decide +kernel
theorem dX6_judgeBlock_14 : decode cX6_judgeBlock 14 = .ok (.aload_n 0, 1) := by decide +kernel
theorem dX6_judgeBlock_15 : decode cX6_judgeBlock 15 = .ok (.getfield 28, 3) := by decide +kernel
theorem dX6_judgeBlock_18 : decode cX6_judgeBlock 18 = .ok (.aload_n 0, 1) := by decide +kernel
theorem dX6_judgeBlock_19 : decode cX6_judgeBlock 19 = .ok (.getfield 45, 3) := by decide +kernel
theorem dX6_judgeBlock_22 : decode cX6_judgeBlock 22 = .ok (.invokestatic 157, 3) := by decide +kernel
theorem dX6_judgeBlock_25 : decode cX6_judgeBlock 25 = .ok (.iaload, 1) := by decide +kernel
theorem dX6_judgeBlock_26 : decode cX6_judgeBlock 26 = .ok (.ifCond .eq 5, 3) := by decide +kernel
theorem dX6_judgeBlock_29 : decode cX6_judgeBlock 29 = .ok (.iconst 3, 1) := by decide +kernel
theorem dX6_judgeBlock_30 : decode cX6_judgeBlock 30 = .ok (.ireturn, 1) := by decide +kernel
theorem dX6_judgeBlock_31 : decode cX6_judgeBlock 31 = .ok (.aload_n 0, 1) := by decide +kernel
theorem dX6_judgeBlock_32 : decode cX6_judgeBlock 32 = .ok (.getfield 28, 3) := by decide +kernel
theorem dX6_judgeBlock_35 : decode cX6_judgeBlock 35 = .ok (.aload_n 0, 1) := by decide +kernel
theorem dX6_judgeBlock_36 : decode cX6_judgeBlock 36 = .ok (.getfield 45, 3) := by decide +kernel
theorem dX6_judgeBlock_39 : decode cX6_judgeBlock 39 = .ok (.invokestatic 157, 3) := by decide +kernel
theorem dX6_judgeBlock_42 : decode cX6_judgeBlock 42 = .ok (.iconst 1, 1) := by decide +kernel
theorem dX6_judgeBlock_43 : decode cX6_judgeBlock 43 = .ok (.iastore, 1) := by decide +kernel
theorem dX6_judgeBlock_44 : decode cX6_judgeBlock 44 = .ok (.iconst 0, 1) := by decide +kernel
theorem dX6_judgeBlock_45 : decode cX6_judgeBlock 45 = .ok (.ireturn, 1) := by decide +kernel
theorem dX6_readLeak_0 : decode cX6_readLeak 0 = .ok (.aload_n 0, 1) := by decide +kernel
theorem dX6_readLeak_1 : decode cX6_readLeak 1 = .ok (.invokevirtual 67, 3) := by decide +kernel
theorem dX6_readLeak_4 : decode cX6_readLeak 4 = .ok (.aload_n 0, 1) := by decide +kernel
theorem dX6_readLeak_5 : decode cX6_readLeak 5 = .ok (.invokevirtual 154, 3) := by decide +kernel
theorem dX6_readLeak_8 : decode cX6_readLeak 8 = .ok (.istore_n 1, 1) := by decide +kernel
theorem dX6_readLeak_9 : decode cX6_readLeak 9 = .ok (.iload_n 1, 1) := by decide +kernel
theorem dX6_readLeak_10 : decode cX6_readLeak 10 = .ok (.ifCond .eq 7, 3) := by decide +kernel
theorem dX6_readLeak_13 : decode cX6_readLeak 13 = .ok (.iload_n 1, 1) := by decide +kernel
theorem dX6_readLeak_14 : decode cX6_readLeak 14 = .ok (.goto 7, 3) := by decide +kernel
theorem dX6_readLeak_17 : decode cX6_readLeak 17 = .ok (.aload_n 0, 1) := by decide +kernel
theorem dX6_readLeak_18 : decode cX6_readLeak 18 = .ok (.invokevirtual 148, 3) := by decide +kernel
theorem dX6_readLeak_21 : decode cX6_readLeak 21 = .ok (.ireturn, 1) := by decide +kernel
theorem dX6_readData_0 : decode cX6_readData 0 = .ok (.aload_n 0, 1) := by decide +kernel
theorem dX6_readData_1 : decode cX6_readData 1 = .ok (.invokevirtual 67, 3) := by decide +kernel
theorem dX6_readData_4 : decode cX6_readData 4 = .ok (.aload_n 0, 1) := by decide +kernel
theorem dX6_readData_5 : decode cX6_readData 5 = .ok (.iconst 0, 1) := by decide +kernel
theorem dX6_readData_6 : decode cX6_readData 6 = .ok (.bipush 9, 2) := by decide +kernel
theorem dX6_readData_8 : decode cX6_readData 8 = .ok (.invokevirtual 151, 3) := by decide +kernel
theorem dX6_readData_11 : decode cX6_readData 11 = .ok (.istore_n 1, 1) := by decide +kernel
theorem dX6_readData_12 : decode cX6_readData 12 = .ok (.iload_n 1, 1) := by decide +kernel
theorem dX6_readData_13 : decode cX6_readData 13 = .ok (.ifCond .eq 5, 3) := by decide +kernel
theorem dX6_readData_16 : decode cX6_readData 16 = .ok (.iload_n 1, 1) := by decide +kernel
theorem dX6_readData_17 : decode cX6_readData 17 = .ok (.ireturn, 1) := by decide +kernel
theorem dX6_readData_18 : decode cX6_readData 18 = .ok (.aload_n 0, 1) := by decide +kernel
theorem dX6_readData_19 : decode cX6_readData 19 = .ok (.getfield 45, 3) := by decide +kernel
theorem dX6_readData_22 : decode cX6_readData 22 = .ok (.istore_n 2, 1) := by decide +kernel
theorem dX6_readData_23 : decode cX6_readData 23 = .ok (.aload_n 0, 1) := by decide +kernel
theorem dX6_readData_24 : decode cX6_readData 24 = .ok (.getfield 52, 3) := by decide +kernel
theorem dX6_readData_27 : decode cX6_readData 27 = .ok (.iload_n 2, 1) := by decide +kernel
theorem dX6_readData_28 : decode cX6_readData 28 = .ok (.ishr, 1) := by decide +kernel
theorem dX6_readData_29 : decode cX6_readData 29 = .ok (.iconst 1, 1) := by decide +kernel
theorem dX6_readData_30 : decode cX6_readData 30 = .ok (.iand, 1) := by decide +kernel
theorem dX6_readData_31 : decode cX6_readData 31 = .ok (.ifCond .eq 5, 3) := by decide +kernel
theorem dX6_readData_34 : decode cX6_readData 34 = .ok (.iconst 3, 1) := by decide +kernel
theorem dX6_readData_35 : decode cX6_readData 35 = .ok (.ireturn, 1) := by decide +kernel
theorem dX6_readData_36 : decode cX6_readData 36 = .ok (.aload_n 0, 1) := by decide +kernel
theorem dX6_readData_37 : decode cX6_readData 37 = .ok (.dup, 1) := by decide +kernel
theorem dX6_readData_38 : decode cX6_readData 38 = .ok (.getfield 52, 3) := by decide +kernel
theorem dX6_readData_41 : decode cX6_readData 41 = .ok (.iconst 1, 1) := by decide +kernel
theorem dX6_readData_42 : decode cX6_readData 42 = .ok (.iload_n 2, 1) := by decide +kernel
theorem dX6_readData_43 : decode cX6_readData 43 = .ok (.ishl, 1) := by decide +kernel
theorem dX6_readData_44 : decode cX6_readData 44 = .ok (.ior, 1) := by decide +kernel
theorem dX6_readData_45 : decode cX6_readData 45 = .ok (.putfield 52, 3) := by decide +kernel
theorem dX6_readData_48 : decode cX6_readData 48 = .ok (.iconst 2, 1) := by decide +kernel
theorem dX6_readData_49 : decode cX6_readData 49 = .ok (.istore_n 3, 1) := by decide +kernel
theorem dX6_readData_50 : decode cX6_readData 50 = .ok (.iload_n 3, 1) := by decide +kernel
theorem dX6_readData_51 : decode cX6_readData 51 = .ok (.iconst 4, 1) := by decide +kernel
theorem dX6_readData_52 : decode cX6_readData 52 = .ok (.if_icmp .ge 42, 3) := by decide +kernel
theorem dX6_readData_55 : decode cX6_readData 55 = .ok (.aload_n 0, 1) := by decide +kernel
theorem dX6_readData_56 : decode cX6_readData 56 = .ok (.invokevirtual 67, 3) := by decide +kernel
theorem dX6_readData_59 : decode cX6_readData 59 = .ok (.aload_n 0, 1) := by decide +kernel
theorem dX6_readData_60 : decode cX6_readData 60 = .ok (.iconst 0, 1) := by decide +kernel
theorem dX6_readData_61 : decode cX6_readData 61 = .ok (.bipush 99, 2) := by decide +kernel
theorem dX6_readData_63 : decode cX6_readData 63 = .ok (.invokevirtual 151, 3) := by decide +kernel
theorem dX6_readData_66 : decode cX6_readData 66 = .ok (.istore_n 1, 1) := by decide +kernel
theorem dX6_readData_67 : decode cX6_readData 67 = .ok (.iload_n 1, 1) := by decide +kernel
theorem dX6_readData_68 : decode cX6_readData 68 = .ok (.ifCond .eq 5, 3) := by decide +kernel
theorem dX6_readData_71 : decode cX6_readData 71 = .ok (.iload_n 1, 1) := by decide +kernel
theorem dX6_readData_72 : decode cX6_readData 72 = .ok (.ireturn, 1) := by decide +kernel
theorem dX6_readData_73 : decode cX6_readData 73 = .ok (.aload_n 0, 1) := by decide +kernel
theorem dX6_readData_74 : decode cX6_readData 74 = .ok (.getfield 28, 3) := by decide +kernel
theorem dX6_readData_77 : decode cX6_readData 77 = .ok (.iload_n 2, 1) := by decide +kernel
theorem dX6_readData_78 : decode cX6_readData 78 = .ok (.invokestatic 157, 3) := by decide +kernel
theorem dX6_readData_81 : decode cX6_readData 81 = .ok (.iload_n 3, 1) := by decide +kernel
theorem dX6_readData_82 : decode cX6_readData 82 = .ok (.iadd, 1) := by decide +kernel
theorem dX6_readData_83 : decode cX6_readData 83 = .ok (.aload_n 0, 1) := by decide +kernel
theorem dX6_readData_84 : decode cX6_readData 84 = .ok (.getfield 45, 3) := by decide +kernel
theorem dX6_readData_87 : decode cX6_readData 87 = .ok (.iastore, 1) := by decide +kernel
theorem dX6_readData_88 : decode cX6_readData 88 = .ok (.iinc 3 1, 3) := by decide +kernel
theorem dX6_readData_91 : decode cX6_readData 91 = .ok (.goto (-41), 3) := by decide +kernel
theorem dX6_readData_94 : decode cX6_readData 94 = .ok (.aload_n 0, 1) := by decide +kernel
theorem dX6_readData_95 : decode cX6_readData 95 = .ok (.invokevirtual 148, 3) := by decide +kernel
theorem dX6_readData_98 : decode cX6_readData 98 = .ok (.ireturn, 1) := by decide +kernel
theorem dX6_readDo_0 : decode cX6_readDo 0 = .ok (.aload_n 0, 1) := by decide +kernel
theorem dX6_readDo_1 : decode cX6_readDo 1 = .ok (.getfield 12, 3) := by decide +kernel
theorem dX6_readDo_4 : decode cX6_readDo 4 = .ok (.getfield 87, 3) := by decide +kernel
theorem dX6_readDo_7 : decode cX6_readDo 7 = .ok (.bipush 12, 2) := by decide +kernel
theorem dX6_readDo_9 : decode cX6_readDo 9 = .ok (.if_icmp .ne 5, 3) := by decide +kernel
theorem dX6_readDo_12 : decode cX6_readDo 12 = .ok (.iconst 2, 1) := by decide +kernel
theorem dX6_readDo_13 : decode cX6_readDo 13 = .ok (.ireturn, 1) := by decide +kernel
theorem dX6_readDo_14 : decode cX6_readDo 14 = .ok (.iconst 0, 1) := by decide +kernel
theorem dX6_readDo_15 : decode cX6_readDo 15 = .ok (.istore_n 1, 1) := by decide +kernel
theorem dX6_readDo_16 : decode cX6_readDo 16 = .ok (.iload_n 1, 1) := by decide +kernel
theorem dX6_readDo_17 : decode cX6_readDo 17 = .ok (.iconst 4, 1) := by decide +kernel
theorem dX6_readDo_18 : decode cX6_readDo 18 = .ok (.if_icmp .gt 64, 3) := by decide +kernel
theorem dX6_readDo_21 : decode cX6_readDo 21 = .ok (.aload_n 0, 1) := by decide +kernel
theorem dX6_readDo_22 : decode cX6_readDo 22 = .ok (.invokevirtual 67, 3) := by decide +kernel
theorem dX6_readDo_25 : decode cX6_readDo 25 = .ok (.aload_n 0, 1) := by decide +kernel
theorem dX6_readDo_26 : decode cX6_readDo 26 = .ok (.iload_n 1, 1) := by decide +kernel
theorem dX6_readDo_27 : decode cX6_readDo 27 = .ok (.invokevirtual 160, 3) := by decide +kernel
theorem dX6_readDo_30 : decode cX6_readDo 30 = .ok (.istore_n 2, 1) := by decide +kernel
theorem dX6_readDo_31 : decode cX6_readDo 31 = .ok (.iload_n 2, 1) := by decide +kernel
theorem dX6_readDo_32 : decode cX6_readDo 32 = .ok (.ifCond .eq 5, 3) := by decide +kernel
theorem dX6_readDo_35 : decode cX6_readDo 35 = .ok (.iload_n 2, 1) := by decide +kernel
theorem dX6_readDo_36 : decode cX6_readDo 36 = .ok (.ireturn, 1) := by decide +kernel
theorem dX6_readDo_37 : decode cX6_readDo 37 = .ok (.aload_n 0, 1) := by decide +kernel
theorem dX6_readDo_38 : decode cX6_readDo 38 = .ok (.invokevirtual 67, 3) := by decide +kernel
theorem dX6_readDo_41 : decode cX6_readDo 41 = .ok (.aload_n 0, 1) := by decide +kernel
theorem dX6_readDo_42 : decode cX6_readDo 42 = .ok (.bipush 59, 2) := by decide +kernel
theorem dX6_readDo_44 : decode cX6_readDo 44 = .ok (.invokevirtual 108, 3) := by decide +kernel
theorem dX6_readDo_47 : decode cX6_readDo 47 = .ok (.ifCond .eq 18, 3) := by decide +kernel
theorem dX6_readDo_50 : decode cX6_readDo 50 = .ok (.aload_n 0, 1) := by decide +kernel
theorem dX6_readDo_51 : decode cX6_readDo 51 = .ok (.getfield 12, 3) := by decide +kernel
theorem dX6_readDo_54 : decode cX6_readDo 54 = .ok (.dup, 1) := by decide +kernel
theorem dX6_readDo_55 : decode cX6_readDo 55 = .ok (.getfield 87, 3) := by decide +kernel
theorem dX6_readDo_58 : decode cX6_readDo 58 = .ok (.iconst 1, 1) := by decide +kernel
theorem dX6_readDo_59 : decode cX6_readDo 59 = .ok (.iadd, 1) := by decide +kernel
theorem dX6_readDo_60 : decode cX6_readDo 60 = .ok (.putfield 87, 3) := by decide +kernel
theorem dX6_readDo_63 : decode cX6_readDo 63 = .ok (.iconst 0, 1) := by decide +kernel
theorem dX6_readDo_64 : decode cX6_readDo 64 = .ok (.ireturn, 1) := by decide +kernel
theorem dX6_readDo_65 : decode cX6_readDo 65 = .ok (.aload_n 0, 1) := by decide +kernel
theorem dX6_readDo_66 : decode cX6_readDo 66 = .ok (.bipush 44, 2) := by decide +kernel
theorem dX6_readDo_68 : decode cX6_readDo 68 = .ok (.invokevirtual 108, 3) := by decide +kernel
theorem dX6_readDo_71 : decode cX6_readDo 71 = .ok (.ifCond .ne 5, 3) := by decide +kernel
theorem dX6_readDo_74 : decode cX6_readDo 74 = .ok (.iconst 1, 1) := by decide +kernel
theorem dX6_readDo_75 : decode cX6_readDo 75 = .ok (.ireturn, 1) := by decide +kernel
theorem dX6_readDo_76 : decode cX6_readDo 76 = .ok (.iinc 1 1, 3) := by decide +kernel
theorem dX6_readDo_79 : decode cX6_readDo 79 = .ok (.goto (-63), 3) := by decide +kernel
theorem dX6_readDo_82 : decode cX6_readDo 82 = .ok (.iconst 1, 1) := by decide +kernel
theorem dX6_readDo_83 : decode cX6_readDo 83 = .ok (.ireturn, 1) := by decide +kernel
theorem dX6_readOp_0 : decode cX6_readOp 0 = .ok (.aload_n 0, 1) := by decide +kernel
theorem dX6_readOp_1 : decode cX6_readOp 1 = .ok (.invokevirtual 163, 3) := by decide +kernel
theorem dX6_readOp_4 : decode cX6_readOp 4 = .ok (.istore_n 2, 1) := by decide +kernel
theorem dX6_readOp_5 : decode cX6_readOp 5 = .ok (.iload_n 2, 1) := by decide +kernel
theorem dX6_readOp_6 : decode cX6_readOp 6 = .ok (.iconst (-1), 1) := by decide +kernel
theorem dX6_readOp_7 : decode cX6_readOp 7 = .ok (.if_icmp .ne 5, 3) := by decide +kernel
theorem dX6_readOp_10 : decode cX6_readOp 10 = .ok (.iconst 1, 1) := by decide +kernel
theorem dX6_readOp_11 : decode cX6_readOp 11 = .ok (.ireturn, 1) := by decide +kernel
theorem dX6_readOp_12 : decode cX6_readOp 12 = .ok (.iload_n 1, 1) := by decide +kernel
theorem dX6_readOp_13 : decode cX6_readOp 13 = .ok (.iconst 4, 1) := by decide +kernel
theorem dX6_readOp_14 : decode cX6_readOp 14 = .ok (.if_icmp .lt 5, 3) := by decide +kernel
theorem dX6_readOp_17 : decode cX6_readOp 17 = .ok (.iconst 2, 1) := by decide +kernel
theorem dX6_readOp_18 : decode cX6_readOp 18 = .ok (.ireturn, 1) := by decide +kernel
theorem dX6_readOp_19 : decode cX6_readOp 19 = .ok (.iconst 0, 1) := by decide +kernel
theorem dX6_readOp_20 : decode cX6_readOp 20 = .ok (.istore_n 3, 1) := by decide +kernel
theorem dX6_readOp_21 : decode cX6_readOp 21 = .ok (.iconst 0, 1) := by decide +kernel
theorem dX6_readOp_22 : decode cX6_readOp 22 = .ok (.istore 4, 2) := by decide +kernel
theorem dX6_readOp_24 : decode cX6_readOp 24 = .ok (.getstatic 166, 3) := by decide +kernel
theorem dX6_readOp_27 : decode cX6_readOp 27 = .ok (.iload_n 2, 1) := by decide +kernel
theorem dX6_readOp_28 : decode cX6_readOp 28 = .ok (.iaload, 1) := by decide +kernel
theorem dX6_readOp_29 : decode cX6_readOp 29 = .ok (.ifCond .le 28, 3) := by decide +kernel
theorem dX6_readOp_32 : decode cX6_readOp 32 = .ok (.aload_n 0, 1) := by decide +kernel
theorem dX6_readOp_33 : decode cX6_readOp 33 = .ok (.invokevirtual 67, 3) := by decide +kernel
theorem dX6_readOp_36 : decode cX6_readOp 36 = .ok (.aload_n 0, 1) := by decide +kernel
theorem dX6_readOp_37 : decode cX6_readOp 37 = .ok (.getstatic 169, 3) := by decide +kernel
theorem dX6_readOp_40 : decode cX6_readOp 40 = .ok (.iload_n 2, 1) := by decide +kernel
theorem dX6_readOp_41 : decode cX6_readOp 41 = .ok (.iaload, 1) := by decide +kernel
theorem dX6_readOp_42 : decode cX6_readOp 42 = .ok (.getstatic 172, 3) := by decide +kernel
theorem dX6_readOp_45 : decode cX6_readOp 45 = .ok (.iload_n 2, 1) := by decide +kernel
theorem dX6_readOp_46 : decode cX6_readOp 46 = .ok (.iaload, 1) := by decide +kernel
theorem dX6_readOp_47 : decode cX6_readOp 47 = .ok (.invokevirtual 151, 3) := by decide +kernel
theorem dX6_readOp_50 : decode cX6_readOp 50 = .ok (.istore_n 3, 1) := by decide +kernel
theorem dX6_readOp_51 : decode cX6_readOp 51 = .ok (.aload_n 0, 1) := by decide +kernel
theorem dX6_readOp_52 : decode cX6_readOp 52 = .ok (.getfield 45, 3) := by decide +kernel
theorem dX6_readOp_55 : decode cX6_readOp 55 = .ok (.istore 4, 2) := by decide +kernel
theorem dX6_readOp_57 : decode cX6_readOp 57 = .ok (.getstatic 166, 3) := by decide +kernel
theorem dX6_readOp_60 : decode cX6_readOp 60 = .ok (.iload_n 2, 1) := by decide +kernel
theorem dX6_readOp_61 : decode cX6_readOp 61 = .ok (.iaload, 1) := by decide +kernel
theorem dX6_readOp_62 : decode cX6_readOp 62 = .ok (.iconst 1, 1) := by decide +kernel
theorem dX6_readOp_63 : decode cX6_readOp 63 = .ok (.if_icmp .le 22, 3) := by decide +kernel
theorem dX6_readOp_66 : decode cX6_readOp 66 = .ok (.iload_n 3, 1) := by decide +kernel
theorem dX6_readOp_67 : decode cX6_readOp 67 = .ok (.ifCond .ne 18, 3) := by decide +kernel
theorem dX6_readOp_70 : decode cX6_readOp 70 = .ok (.aload_n 0, 1) := by decide +kernel
theorem dX6_readOp_71 : decode cX6_readOp 71 = .ok (.invokevirtual 67, 3) := by decide +kernel
theorem dX6_readOp_74 : decode cX6_readOp 74 = .ok (.aload_n 0, 1) := by decide +kernel
theorem dX6_readOp_75 : decode cX6_readOp 75 = .ok (.iconst 0, 1) := by decide +kernel
theorem dX6_readOp_76 : decode cX6_readOp 76 = .ok (.getstatic 175, 3) := by decide +kernel
theorem dX6_readOp_79 : decode cX6_readOp 79 = .ok (.iload_n 2, 1) := by decide +kernel
theorem dX6_readOp_80 : decode cX6_readOp 80 = .ok (.iaload, 1) := by decide +kernel
theorem dX6_readOp_81 : decode cX6_readOp 81 = .ok (.invokevirtual 151, 3) := by decide +kernel
theorem dX6_readOp_84 : decode cX6_readOp 84 = .ok (.istore_n 3, 1) := by decide +kernel
theorem dX6_readOp_85 : decode cX6_readOp 85 = .ok (.iload_n 3, 1) := by decide +kernel
theorem dX6_readOp_86 : decode cX6_readOp 86 = .ok (.ifCond .eq 5, 3) := by decide +kernel
theorem dX6_readOp_89 : decode cX6_readOp 89 = .ok (.iload_n 3, 1) := by decide +kernel
theorem dX6_readOp_90 : decode cX6_readOp 90 = .ok (.ireturn, 1) := by decide +kernel
theorem dX6_readOp_91 : decode cX6_readOp 91 = .ok (.iload_n 2, 1) := by decide +kernel
theorem dX6_readOp_92 : decode cX6_readOp 92 = .ok (.iconst 2, 1) := by decide +kernel
theorem dX6_readOp_93 : decode cX6_readOp 93 = .ok (.if_icmp .ne 14, 3) := by decide +kernel
theorem dX6_readOp_96 : decode cX6_readOp 96 = .ok (.iload 4, 2) := by decide +kernel
theorem dX6_readOp_98 : decode cX6_readOp 98 = .ok (.aload_n 0, 1) := by decide +kernel
theorem dX6_readOp_99 : decode cX6_readOp 99 = .ok (.getfield 45, 3) := by decide +kernel
theorem dX6_readOp_102 : decode cX6_readOp 102 = .ok (.if_icmp .ne 5, 3) := by decide +kernel
theorem dX6_readOp_105 : decode cX6_readOp 105 = .ok (.iconst 3, 1) := by decide +kernel
theorem dX6_readOp_106 : decode cX6_readOp 106 = .ok (.ireturn, 1) := by decide +kernel
theorem dX6_readOp_107 : decode cX6_readOp 107 = .ok (.aload_n 0, 1) := by decide +kernel
theorem dX6_readOp_108 : decode cX6_readOp 108 = .ok (.getfield 12, 3) := by decide +kernel
theorem dX6_readOp_111 : decode cX6_readOp 111 = .ok (.getfield 84, 3) := by decide +kernel
theorem dX6_readOp_114 : decode cX6_readOp 114 = .ok (.aload_n 0, 1) := by decide +kernel
theorem dX6_readOp_115 : decode cX6_readOp 115 = .ok (.getfield 12, 3) := by decide +kernel
theorem dX6_readOp_118 : decode cX6_readOp 118 = .ok (.getfield 87, 3) := by decide +kernel
theorem dX6_readOp_121 : decode cX6_readOp 121 = .ok (.iconst 4, 1) := by decide +kernel
theorem dX6_readOp_122 : decode cX6_readOp 122 = .ok (.imul, 1) := by decide +kernel
theorem dX6_readOp_123 : decode cX6_readOp 123 = .ok (.iload_n 1, 1) := by decide +kernel
theorem dX6_readOp_124 : decode cX6_readOp 124 = .ok (.iadd, 1) := by decide +kernel
theorem dX6_readOp_125 : decode cX6_readOp 125 = .ok (.iload_n 2, 1) := by decide +kernel
theorem dX6_readOp_126 : decode cX6_readOp 126 = .ok (.iload 4, 2) := by decide +kernel
theorem dX6_readOp_128 : decode cX6_readOp 128 = .ok (.aload_n 0, 1) := by decide +kernel
theorem dX6_readOp_129 : decode cX6_readOp 129 = .ok (.getfield 45, 3) := by decide +kernel
theorem dX6_readOp_132 : decode cX6_readOp 132 = .ok (.invokestatic 178, 3) := by decide +kernel
theorem dX6_readOp_135 : decode cX6_readOp 135 = .ok (.iastore, 1) := by decide +kernel
theorem dX6_readOp_136 : decode cX6_readOp 136 = .ok (.iconst 0, 1) := by decide +kernel
theorem dX6_readOp_137 : decode cX6_readOp 137 = .ok (.ireturn, 1) := by decide +kernel
theorem dX6_opTold_0 : decode cX6_opTold 0 = .ok (.aload_n 0, 1) := by decide +kernel
theorem dX6_opTold_1 : decode cX6_opTold 1 = .ok (.ldc 182, 2) := by decide +kernel
theorem dX6_opTold_3 : decode cX6_opTold 3 = .ok (.invokevirtual 114, 3) := by decide +kernel
theorem dX6_opTold_6 : decode cX6_opTold 6 = .ok (.ifCond .eq 5, 3) := by decide +kernel
theorem dX6_opTold_9 : decode cX6_opTold 9 = .ok (.iconst 0, 1) := by decide +kernel
theorem dX6_opTold_10 : decode cX6_opTold 10 = .ok (.ireturn, 1) := by decide +kernel
theorem dX6_opTold_11 : decode cX6_opTold 11 = .ok (.aload_n 0, 1) := by decide +kernel
theorem dX6_opTold_12 : decode cX6_opTold 12 = .ok (.ldc 184, 2) := by decide +kernel
theorem dX6_opTold_14 : decode cX6_opTold 14 = .ok (.invokevirtual 114, 3) := by decide +kernel
theorem dX6_opTold_17 : decode cX6_opTold 17 = .ok (.ifCond .eq 5, 3) := by decide +kernel
theorem dX6_opTold_20 : decode cX6_opTold 20 = .ok (.iconst 1, 1) := by decide +kernel
theorem dX6_opTold_21 : decode cX6_opTold 21 = .ok (.ireturn, 1) := by decide +kernel
theorem dX6_opTold_22 : decode cX6_opTold 22 = .ok (.aload_n 0, 1) := by decide +kernel
theorem dX6_opTold_23 : decode cX6_opTold 23 = .ok (.ldc 186, 2) := by decide +kernel
theorem dX6_opTold_25 : decode cX6_opTold 25 = .ok (.invokevirtual 114, 3) := by decide +kernel
theorem dX6_opTold_28 : decode cX6_opTold 28 = .ok (.ifCond .eq 5, 3) := by decide +kernel
theorem dX6_opTold_31 : decode cX6_opTold 31 = .ok (.iconst 2, 1) := by decide +kernel
theorem dX6_opTold_32 : decode cX6_opTold 32 = .ok (.ireturn, 1) := by decide +kernel
theorem dX6_opTold_33 : decode cX6_opTold 33 = .ok (.aload_n 0, 1) := by decide +kernel
theorem dX6_opTold_34 : decode cX6_opTold 34 = .ok (.ldc 188, 2) := by decide +kernel
theorem dX6_opTold_36 : decode cX6_opTold 36 = .ok (.invokevirtual 114, 3) := by decide +kernel
theorem dX6_opTold_39 : decode cX6_opTold 39 = .ok (.ifCond .eq 5, 3) := by decide +kernel
theorem dX6_opTold_42 : decode cX6_opTold 42 = .ok (.iconst 3, 1) := by decide +kernel
theorem dX6_opTold_43 : decode cX6_opTold 43 = .ok (.ireturn, 1) := by decide +kernel
theorem dX6_opTold_44 : decode cX6_opTold 44 = .ok (.aload_n 0, 1) := by decide +kernel
theorem dX6_opTold_45 : decode cX6_opTold 45 = .ok (.ldc 190, 2) := by decide +kernel
theorem dX6_opTold_47 : decode cX6_opTold 47 = .ok (.invokevirtual 114, 3) := by decide +kernel
theorem dX6_opTold_50 : decode cX6_opTold 50 = .ok (.ifCond .eq 7, 3) := by decide +kernel
theorem dX6_opTold_53 : decode cX6_opTold 53 = .ok (.iconst 4, 1) := by decide +kernel
theorem dX6_opTold_54 : decode cX6_opTold 54 = .ok (.goto 4, 3) := by decide +kernel
theorem dX6_opTold_57 : decode cX6_opTold 57 = .ok (.iconst (-1), 1) := by decide +kernel
theorem dX6_opTold_58 : decode cX6_opTold 58 = .ok (.ireturn, 1) := by decide +kernel
theorem dX7_init_0 : decode cX7_init 0 = .ok (.aload_n 0, 1) := by decide +kernel
theorem dX7_init_1 : decode cX7_init 1 = .ok (.invokespecial 3, 3) := by decide +kernel
theorem dX7_init_4 : decode cX7_init 4 = .ok (.aload_n 0, 1) := by decide +kernel
theorem dX7_init_5 : decode cX7_init 5 = .ok (.iconst 0, 1) := by decide +kernel
theorem dX7_init_6 : decode cX7_init 6 = .ok (.putfield 9, 3) := by decide +kernel
theorem dX7_init_9 : decode cX7_init 9 = .ok (.aload_n 0, 1) := by decide +kernel
theorem dX7_init_10 : decode cX7_init 10 = .ok (.iconst 0, 1) := by decide +kernel
theorem dX7_init_11 : decode cX7_init 11 = .ok (.putfield 15, 3) := by decide +kernel
theorem dX7_init_14 : decode cX7_init 14 = .ok (.aload_n 0, 1) := by decide +kernel
theorem dX7_init_15 : decode cX7_init 15 = .ok (.iconst 0, 1) := by decide +kernel
theorem dX7_init_16 : decode cX7_init 16 = .ok (.putfield 18, 3) := by decide +kernel
theorem dX7_init_19 : decode cX7_init 19 = .ok (.aload_n 0, 1) := by decide +kernel
theorem dX7_init_20 : decode cX7_init 20 = .ok (.iconst 0, 1) := by decide +kernel
theorem dX7_init_21 : decode cX7_init 21 = .ok (.putfield 21, 3) := by decide +kernel
theorem dX7_init_24 : decode cX7_init 24 = .ok (.aload_n 0, 1) := by decide +kernel
theorem dX7_init_25 : decode cX7_init 25 = .ok (.iconst 0, 1) := by decide +kernel
theorem dX7_init_26 : decode cX7_init 26 = .ok (.putfield 24, 3) := by decide +kernel
theorem dX7_init_29 : decode cX7_init 29 = .ok (.return_, 1) := by decide +kernel
theorem dX7_survey_0 : decode cX7_survey 0 = .ok (.aload_n 0, 1) := by decide +kernel
theorem dX7_survey_1 : decode cX7_survey 1 = .ok (.iconst 0, 1) := by decide +kernel
theorem dX7_survey_2 : decode cX7_survey 2 = .ok (.putfield 18, 3) := by decide +kernel
theorem dX7_survey_5 : decode cX7_survey 5 = .ok (.iconst 0, 1) := by decide +kernel
theorem dX7_survey_6 : decode cX7_survey 6 = .ok (.istore_n 2, 1) := by decide +kernel
theorem dX7_survey_7 : decode cX7_survey 7 = .ok (.iload_n 2, 1) := by decide +kernel
theorem dX7_survey_8 : decode cX7_survey 8 = .ok (.bipush 10, 2) := by decide +kernel
theorem dX7_survey_10 : decode cX7_survey 10 = .ok (.if_icmp .ge 35, 3) := by decide +kernel
theorem dX7_survey_13 : decode cX7_survey 13 = .ok (.aload_n 0, 1) := by decide +kernel
