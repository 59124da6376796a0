theorem dX0_init_0 : decode cX0_init 0 = .ok (.aload_n 0, 1) := by decide +kernel
theorem dX0_init_1 : decode cX0_init 1 = .ok (.invokespecial 3, 3) := by decide +kernel
theorem dX0_init_4 : decode cX0_init 4 = .ok (.aload_n 0, 1) := by decide +kernel
theorem dX0_init_5 : decode cX0_init 5 = .ok (.new 9, 3) := by decide +kernel
theorem dX0_init_8 : decode cX0_init 8 = .ok (.dup, 1) := by decide +kernel
theorem dX0_init_9 : decode cX0_init 9 = .ok (.invokespecial 11, 3) := by decide +kernel
theorem dX0_init_12 : decode cX0_init 12 = .ok (.putfield 12, 3) := by decide +kernel
theorem dX0_init_15 : decode cX0_init 15 = .ok (.aload_n 0, 1) := by decide +kernel
theorem dX0_init_16 : decode cX0_init 16 = .ok (.iload_n 1, 1) := by decide +kernel
theorem dX0_init_17 : decode cX0_init 17 = .ok (.putfield 18, 3) := by decide +kernel
theorem dX0_init_20 : decode cX0_init 20 = .ok (.aload_n 0, 1) := by decide +kernel
theorem dX0_init_21 : decode cX0_init 21 = .ok (.aload_n 2, 1) := by decide +kernel
theorem dX0_init_22 : decode cX0_init 22 = .ok (.putfield 22, 3) := by decide +kernel
theorem dX0_init_25 : decode cX0_init 25 = .ok (.aload_n 0, 1) := by decide +kernel
theorem dX0_init_26 : decode cX0_init 26 = .ok (.iload_n 3, 1) := by decide +kernel
theorem dX0_init_27 : decode cX0_init 27 = .ok (.putfield 26, 3) := by decide +kernel
theorem dX0_init_30 : decode cX0_init 30 = .ok (.aload_n 0, 1) := by decide +kernel
theorem dX0_init_31 : decode cX0_init 31 = .ok (.iload 4, 2) := by decide +kernel
theorem dX0_init_33 : decode cX0_init 33 = .ok (.putfield 29, 3) := by decide +kernel
theorem dX0_init_36 : decode cX0_init 36 = .ok (.return_, 1) := by decide +kernel
theorem dX0_isLive_0 : decode cX0_isLive 0 = .ok (.aload_n 0, 1) := by decide +kernel
theorem dX0_isLive_1 : decode cX0_isLive 1 = .ok (.getfield 32, 3) := by decide +kernel
theorem dX0_isLive_4 : decode cX0_isLive 4 = .ok (.ifnonnull 7, 3) := by decide +kernel
theorem dX0_isLive_7 : decode cX0_isLive 7 = .ok (.iconst 1, 1) := by decide +kernel
theorem dX0_isLive_8 : decode cX0_isLive 8 = .ok (.goto 4, 3) := by decide +kernel
theorem dX0_isLive_11 : decode cX0_isLive 11 = .ok (.iconst 0, 1) := by decide +kernel
theorem dX0_isLive_12 : decode cX0_isLive 12 = .ok (.ireturn, 1) := by decide +kernel
theorem dX0_liveOne_0 : decode cX0_liveOne 0 = .ok (.aload_n 0, 1) := by decide +kernel
theorem dX0_liveOne_1 : decode cX0_liveOne 1 = .ok (.astore_n 1, 1) := by decide +kernel
theorem dX0_liveOne_2 : decode cX0_liveOne 2 = .ok (.iconst 0, 1) := by decide +kernel
theorem dX0_liveOne_3 : decode cX0_liveOne 3 = .ok (.istore_n 2, 1) := by decide +kernel
theorem dX0_liveOne_4 : decode cX0_liveOne 4 = .ok (.iload_n 2, 1) := by decide +kernel
theorem dX0_liveOne_5 : decode cX0_liveOne 5 = .ok (.bipush 20, 2) := by decide +kernel
theorem dX0_liveOne_7 : decode cX0_liveOne 7 = .ok (.if_icmp .ge 21, 3) := by decide +kernel
theorem dX0_liveOne_10 : decode cX0_liveOne 10 = .ok (.aload_n 1, 1) := by decide +kernel
theorem dX0_liveOne_11 : decode cX0_liveOne 11 = .ok (.getfield 32, 3) := by decide +kernel
theorem dX0_liveOne_14 : decode cX0_liveOne 14 = .ok (.ifnull 14, 3) := by decide +kernel
theorem dX0_liveOne_17 : decode cX0_liveOne 17 = .ok (.aload_n 1, 1) := by decide +kernel
theorem dX0_liveOne_18 : decode cX0_liveOne 18 = .ok (.getfield 32, 3) := by decide +kernel
theorem dX0_liveOne_21 : decode cX0_liveOne 21 = .ok (.astore_n 1, 1) := by decide +kernel
theorem dX0_liveOne_22 : decode cX0_liveOne 22 = .ok (.iinc 2 1, 3) := by decide +kernel
theorem dX0_liveOne_25 : decode cX0_liveOne 25 = .ok (.goto (-21), 3) := by decide +kernel
theorem dX0_liveOne_28 : decode cX0_liveOne 28 = .ok (.aload_n 1, 1) := by decide +kernel
theorem dX0_liveOne_29 : decode cX0_liveOne 29 = .ok (.areturn, 1) := by decide +kernel
theorem dX0_isBy_0 : decode cX0_isBy 0 = .ok (.aload_n 0, 1) := by decide +kernel
theorem dX0_isBy_1 : decode cX0_isBy 1 = .ok (.getfield 22, 3) := by decide +kernel
theorem dX0_isBy_4 : decode cX0_isBy 4 = .ok (.ifnull 25, 3) := by decide +kernel
theorem dX0_isBy_7 : decode cX0_isBy 7 = .ok (.aload_n 1, 1) := by decide +kernel
theorem dX0_isBy_8 : decode cX0_isBy 8 = .ok (.ifnull 21, 3) := by decide +kernel
theorem dX0_isBy_11 : decode cX0_isBy 11 = .ok (.aload_n 0, 1) := by decide +kernel
theorem dX0_isBy_12 : decode cX0_isBy 12 = .ok (.getfield 22, 3) := by decide +kernel
theorem dX0_isBy_15 : decode cX0_isBy 15 = .ok (.invokevirtual 36, 3) := by decide +kernel
theorem dX0_isBy_18 : decode cX0_isBy 18 = .ok (.aload_n 1, 1) := by decide +kernel
theorem dX0_isBy_19 : decode cX0_isBy 19 = .ok (.invokevirtual 36, 3) := by decide +kernel
theorem dX0_isBy_22 : decode cX0_isBy 22 = .ok (.if_acmp .ne 7, 3) := by decide +kernel
theorem dX0_isBy_25 : decode cX0_isBy 25 = .ok (.iconst 1, 1) := by decide +kernel
theorem dX0_isBy_26 : decode cX0_isBy 26 = .ok (.goto 4, 3) := by decide +kernel
theorem dX0_isBy_29 : decode cX0_isBy 29 = .ok (.iconst 0, 1) := by decide +kernel
theorem dX0_isBy_30 : decode cX0_isBy 30 = .ok (.ireturn, 1) := by decide +kernel
theorem dX0_likenessTo_0 : decode cX0_likenessTo 0 = .ok (.aload_n 0, 1) := by decide +kernel
theorem dX0_likenessTo_1 : decode cX0_likenessTo 1 = .ok (.aload_n 1, 1) := by decide +kernel
theorem dX0_likenessTo_2 : decode cX0_likenessTo 2 = .ok (.invokevirtual 42, 3) := by decide +kernel
theorem dX0_likenessTo_5 : decode cX0_likenessTo 5 = .ok (.aload_n 0, 1) := by decide +kernel
theorem dX0_likenessTo_6 : decode cX0_likenessTo 6 = .ok (.aload_n 1, 1) := by decide +kernel
theorem dX0_likenessTo_7 : decode cX0_likenessTo 7 = .ok (.invokevirtual 46, 3) := by decide +kernel
theorem dX0_likenessTo_10 : decode cX0_likenessTo 10 = .ok (.iadd, 1) := by decide +kernel
theorem dX0_likenessTo_11 : decode cX0_likenessTo 11 = .ok (.aload_n 0, 1) := by decide +kernel
theorem dX0_likenessTo_12 : decode cX0_likenessTo 12 = .ok (.aload_n 1, 1) := by decide +kernel
theorem dX0_likenessTo_13 : decode cX0_likenessTo 13 = .ok (.invokevirtual 49, 3) := by decide +kernel
theorem dX0_likenessTo_16 : decode cX0_likenessTo 16 = .ok (.iadd, 1) := by decide +kernel
theorem dX0_likenessTo_17 : decode cX0_likenessTo 17 = .ok (.ireturn, 1) := by decide +kernel
theorem dX0_likenessOfAuthors_0 : decode cX0_likenessOfAuthors 0 = .ok (.aload_n 0, 1) := by decide +kernel
theorem dX0_likenessOfAuthors_1 : decode cX0_likenessOfAuthors 1 = .ok (.getfield 22, 3) := by decide +kernel
theorem dX0_likenessOfAuthors_4 : decode cX0_likenessOfAuthors 4 = .ok (.ifnonnull 14, 3) := by decide +kernel
theorem dX0_likenessOfAuthors_7 : decode cX0_likenessOfAuthors 7 = .ok (.aload_n 1, 1) := by decide +kernel
theorem dX0_likenessOfAuthors_8 : decode cX0_likenessOfAuthors 8 = .ok (.getfield 22, 3) := by decide +kernel
theorem dX0_likenessOfAuthors_11 : decode cX0_likenessOfAuthors 11 = .ok (.ifnonnull 7, 3) := by decide +kernel
theorem dX0_likenessOfAuthors_14 : decode cX0_likenessOfAuthors 14 = .ok (.iconst 1, 1) := by decide +kernel
theorem dX0_likenessOfAuthors_15 : decode cX0_likenessOfAuthors 15 = .ok (.goto 4, 3) := by decide +kernel
theorem dX0_likenessOfAuthors_18 : decode cX0_likenessOfAuthors 18 = .ok (.iconst 0, 1) := by decide +kernel
theorem dX0_likenessOfAuthors_19 : decode cX0_likenessOfAuthors 19 = .ok (.istore_n 2, 1) := by decide +kernel
theorem dX0_likenessOfAuthors_20 : decode cX0_likenessOfAuthors 20 = .ok (.iload_n 2, 1) := by decide +kernel
theorem dX0_likenessOfAuthors_21 : decode cX0_likenessOfAuthors 21 = .ok (.ifCond .ne 14, 3) := by decide +kernel
theorem dX0_likenessOfAuthors_24 : decode cX0_likenessOfAuthors 24 = .ok (.aload_n 0, 1) := by decide +kernel
theorem dX0_likenessOfAuthors_25 : decode cX0_likenessOfAuthors 25 = .ok (.aload_n 1, 1) := by decide +kernel
theorem dX0_likenessOfAuthors_26 : decode cX0_likenessOfAuthors 26 = .ok (.getfield 22, 3) := by decide +kernel
theorem dX0_likenessOfAuthors_29 : decode cX0_likenessOfAuthors 29 = .ok (.invokevirtual 52, 3) := by decide +kernel
theorem dX0_likenessOfAuthors_32 : decode cX0_likenessOfAuthors 32 = .ok (.ifCond .eq 8, 3) := by decide +kernel
theorem dX0_likenessOfAuthors_35 : decode cX0_likenessOfAuthors 35 = .ok (.bipush 30, 2) := by decide +kernel
theorem dX0_likenessOfAuthors_37 : decode cX0_likenessOfAuthors 37 = .ok (.goto 4, 3) := by decide +kernel
theorem dX0_likenessOfAuthors_40 : decode cX0_likenessOfAuthors 40 = .ok (.iconst 0, 1) := by decide +kernel
theorem dX0_likenessOfAuthors_41 : decode cX0_likenessOfAuthors 41 = .ok (.ireturn, 1) := by decide +kernel
theorem dX0_likenessOfTitles_0 : decode cX0_likenessOfTitles 0 = .ok (.aload_n 0, 1) := by decide +kernel
theorem dX0_likenessOfTitles_1 : decode cX0_likenessOfTitles 1 = .ok (.getfield 26, 3) := by decide +kernel
theorem dX0_likenessOfTitles_4 : decode cX0_likenessOfTitles 4 = .ok (.aload_n 1, 1) := by decide +kernel
theorem dX0_likenessOfTitles_5 : decode cX0_likenessOfTitles 5 = .ok (.getfield 26, 3) := by decide +kernel
theorem dX0_likenessOfTitles_8 : decode cX0_likenessOfTitles 8 = .ok (.iand, 1) := by decide +kernel
theorem dX0_likenessOfTitles_9 : decode cX0_likenessOfTitles 9 = .ok (.invokestatic 56, 3) := by decide +kernel
theorem dX0_likenessOfTitles_12 : decode cX0_likenessOfTitles 12 = .ok (.istore_n 2, 1) := by decide +kernel
theorem dX0_likenessOfTitles_13 : decode cX0_likenessOfTitles 13 = .ok (.aload_n 0, 1) := by decide +kernel
theorem dX0_likenessOfTitles_14 : decode cX0_likenessOfTitles 14 = .ok (.getfield 26, 3) := by decide +kernel
theorem dX0_likenessOfTitles_17 : decode cX0_likenessOfTitles 17 = .ok (.aload_n 1, 1) := by decide +kernel
theorem dX0_likenessOfTitles_18 : decode cX0_likenessOfTitles 18 = .ok (.getfield 26, 3) := by decide +kernel
theorem dX0_likenessOfTitles_21 : decode cX0_likenessOfTitles 21 = .ok (.ior, 1) := by decide +kernel
theorem dX0_likenessOfTitles_22 : decode cX0_likenessOfTitles 22 = .ok (.invokestatic 56, 3) := by decide +kernel
theorem dX0_likenessOfTitles_25 : decode cX0_likenessOfTitles 25 = .ok (.istore_n 3, 1) := by decide +kernel
theorem dX0_likenessOfTitles_26 : decode cX0_likenessOfTitles 26 = .ok (.iload_n 3, 1) := by decide +kernel
theorem dX0_likenessOfTitles_27 : decode cX0_likenessOfTitles 27 = .ok (.ifCond .ne 7, 3) := by decide +kernel
theorem dX0_likenessOfTitles_30 : decode cX0_likenessOfTitles 30 = .ok (.iconst 0, 1) := by decide +kernel
theorem dX0_likenessOfTitles_31 : decode cX0_likenessOfTitles 31 = .ok (.goto 9, 3) := by decide +kernel
theorem dX0_likenessOfTitles_34 : decode cX0_likenessOfTitles 34 = .ok (.bipush 50, 2) := by decide +kernel
theorem dX0_likenessOfTitles_36 : decode cX0_likenessOfTitles 36 = .ok (.iload_n 2, 1) := by decide +kernel
theorem dX0_likenessOfTitles_37 : decode cX0_likenessOfTitles 37 = .ok (.imul, 1) := by decide +kernel
theorem dX0_likenessOfTitles_38 : decode cX0_likenessOfTitles 38 = .ok (.iload_n 3, 1) := by decide +kernel
theorem dX0_likenessOfTitles_39 : decode cX0_likenessOfTitles 39 = .ok (.idiv, 1) := by decide +kernel
theorem dX0_likenessOfTitles_40 : decode cX0_likenessOfTitles 40 = .ok (.ireturn, 1) := by decide +kernel
theorem dX0_likenessOfYears_0 : decode cX0_likenessOfYears 0 = .ok (.iconst 0, 1) := by decide +kernel
theorem dX0_likenessOfYears_1 : decode cX0_likenessOfYears 1 = .ok (.bipush 20, 2) := by decide +kernel
theorem dX0_likenessOfYears_3 : decode cX0_likenessOfYears 3 = .ok (.iconst 4, 1) := by decide +kernel
theorem dX0_likenessOfYears_4 : decode cX0_likenessOfYears 4 = .ok (.aload_n 0, 1) := by decide +kernel
theorem dX0_likenessOfYears_5 : decode cX0_likenessOfYears 5 = .ok (.getfield 29, 3) := by decide +kernel
theorem dX0_likenessOfYears_8 : decode cX0_likenessOfYears 8 = .ok (.aload_n 1, 1) := by decide +kernel
theorem dX0_likenessOfYears_9 : decode cX0_likenessOfYears 9 = .ok (.getfield 29, 3) := by decide +kernel
theorem dX0_likenessOfYears_12 : decode cX0_likenessOfYears 12 = .ok (.isub, 1) := by decide +kernel
theorem dX0_likenessOfYears_13 : decode cX0_likenessOfYears 13 = .ok (.invokestatic 62, 3) := by decide +kernel
theorem dX0_likenessOfYears_16 : decode cX0_likenessOfYears 16 = .ok (.imul, 1) := by decide +kernel
theorem dX0_likenessOfYears_17 : decode cX0_likenessOfYears 17 = .ok (.isub, 1) := by decide +kernel
theorem dX0_likenessOfYears_18 : decode cX0_likenessOfYears 18 = .ok (.invokestatic 67, 3) := by decide +kernel
theorem dX0_likenessOfYears_21 : decode cX0_likenessOfYears 21 = .ok (.ireturn, 1) := by decide +kernel
theorem dX1_init_0 : decode cX1_init 0 = .ok (.aload_n 0, 1) := by decide +kernel
theorem dX1_init_1 : decode cX1_init 1 = .ok (.invokespecial 3, 3) := by decide +kernel
theorem dX1_init_4 : decode cX1_init 4 = .ok (.aload_n 0, 1) := by decide +kernel
theorem dX1_init_5 : decode cX1_init 5 = .ok (.iconst 0, 1) := by decide +kernel
theorem dX1_init_6 : decode cX1_init 6 = .ok (.putfield 9, 3) := by decide +kernel
theorem dX1_init_9 : decode cX1_init 9 = .ok (.aload_n 0, 1) := by decide +kernel
theorem dX1_init_10 : decode cX1_init 10 = .ok (.iconst (-1), 1) := by decide +kernel
theorem dX1_init_11 : decode cX1_init 11 = .ok (.putfield 15, 3) := by decide +kernel
theorem dX1_init_14 : decode cX1_init 14 = .ok (.aload_n 0, 1) := by decide +kernel
theorem dX1_init_15 : decode cX1_init 15 = .ok (.iload_n 1, 1) := by decide +kernel
theorem dX1_init_16 : decode cX1_init 16 = .ok (.putfield 18, 3) := by decide +kernel
theorem dX1_init_19 : decode cX1_init 19 = .ok (.aload_n 0, 1) := by decide +kernel
theorem dX1_init_20 : decode cX1_init 20 = .ok (.aload_n 2, 1) := by decide +kernel
theorem dX1_init_21 : decode cX1_init 21 = .ok (.putfield 21, 3) := by decide +kernel
theorem dX1_init_24 : decode cX1_init 24 = .ok (.aload_n 0, 1) := by decide +kernel
theorem dX1_init_25 : decode cX1_init 25 = .ok (.iload_n 3, 1) := by decide +kernel
theorem dX1_init_26 : decode cX1_init 26 = .ok (.putfield 25, 3) := by decide +kernel
theorem dX1_init_29 : decode cX1_init 29 = .ok (.return_, 1) := by decide +kernel
theorem dX1_put_0 : decode cX1_put 0 = .ok (.aload_n 0, 1) := by decide +kernel
theorem dX1_put_1 : decode cX1_put 1 = .ok (.iload_n 1, 1) := by decide +kernel
theorem dX1_put_2 : decode cX1_put 2 = .ok (.putfield 9, 3) := by decide +kernel
theorem dX1_put_5 : decode cX1_put 5 = .ok (.aload_n 0, 1) := by decide +kernel
theorem dX1_put_6 : decode cX1_put 6 = .ok (.aload_n 2, 1) := by decide +kernel
theorem dX1_put_7 : decode cX1_put 7 = .ok (.putfield 28, 3) := by decide +kernel
theorem dX1_put_10 : decode cX1_put 10 = .ok (.aload_n 0, 1) := by decide +kernel
theorem dX1_put_11 : decode cX1_put 11 = .ok (.iload_n 3, 1) := by decide +kernel
theorem dX1_put_12 : decode cX1_put 12 = .ok (.putfield 15, 3) := by decide +kernel
theorem dX1_put_15 : decode cX1_put 15 = .ok (.aload_n 0, 1) := by decide +kernel
theorem dX1_put_16 : decode cX1_put 16 = .ok (.iconst 0, 1) := by decide +kernel
theorem dX1_put_17 : decode cX1_put 17 = .ok (.putfield 32, 3) := by decide +kernel
theorem dX1_put_20 : decode cX1_put 20 = .ok (.return_, 1) := by decide +kernel
theorem dX1_isAsideFor_0 : decode cX1_isAsideFor 0 = .ok (.aload_n 0, 1) := by decide +kernel
theorem dX1_isAsideFor_1 : decode cX1_isAsideFor 1 = .ok (.getfield 9, 3) := by decide +kernel
theorem dX1_isAsideFor_4 : decode cX1_isAsideFor 4 = .ok (.iconst 2, 1) := by decide +kernel
theorem dX1_isAsideFor_5 : decode cX1_isAsideFor 5 = .ok (.if_icmp .ne 23, 3) := by decide +kernel
theorem dX1_isAsideFor_8 : decode cX1_isAsideFor 8 = .ok (.aload_n 0, 1) := by decide +kernel
theorem dX1_isAsideFor_9 : decode cX1_isAsideFor 9 = .ok (.getfield 28, 3) := by decide +kernel
theorem dX1_isAsideFor_12 : decode cX1_isAsideFor 12 = .ok (.aload_n 1, 1) := by decide +kernel
theorem dX1_isAsideFor_13 : decode cX1_isAsideFor 13 = .ok (.if_acmp .ne 15, 3) := by decide +kernel
theorem dX1_isAsideFor_16 : decode cX1_isAsideFor 16 = .ok (.aload_n 0, 1) := by decide +kernel
theorem dX1_isAsideFor_17 : decode cX1_isAsideFor 17 = .ok (.getfield 21, 3) := by decide +kernel
theorem dX1_isAsideFor_20 : decode cX1_isAsideFor 20 = .ok (.aload_n 2, 1) := by decide +kernel
theorem dX1_isAsideFor_21 : decode cX1_isAsideFor 21 = .ok (.if_acmp .ne 7, 3) := by decide +kernel
theorem dX1_isAsideFor_24 : decode cX1_isAsideFor 24 = .ok (.iconst 1, 1) := by decide +kernel
theorem dX1_isAsideFor_25 : decode cX1_isAsideFor 25 = .ok (.goto 4, 3) := by decide +kernel
theorem dX1_isAsideFor_28 : decode cX1_isAsideFor 28 = .ok (.iconst 0, 1) := by decide +kernel
theorem dX1_isAsideFor_29 : decode cX1_isAsideFor 29 = .ok (.ireturn, 1) := by decide +kernel
theorem dX1_daysLateOn_0 : decode cX1_daysLateOn 0 = .ok (.aload_n 0, 1) := by decide +kernel
theorem dX1_daysLateOn_1 : decode cX1_daysLateOn 1 = .ok (.getfield 9, 3) := by decide +kernel
theorem dX1_daysLateOn_4 : decode cX1_daysLateOn 4 = .ok (.iconst 1, 1) := by decide +kernel
theorem dX1_daysLateOn_5 : decode cX1_daysLateOn 5 = .ok (.if_icmp .ne 20, 3) := by decide +kernel
theorem dX1_daysLateOn_8 : decode cX1_daysLateOn 8 = .ok (.iload_n 1, 1) := by decide +kernel
theorem dX1_daysLateOn_9 : decode cX1_daysLateOn 9 = .ok (.aload_n 0, 1) := by decide +kernel
theorem dX1_daysLateOn_10 : decode cX1_daysLateOn 10 = .ok (.getfield 15, 3) := by decide +kernel
theorem dX1_daysLateOn_13 : decode cX1_daysLateOn 13 = .ok (.if_icmp .le 12, 3) := by decide +kernel
theorem dX1_daysLateOn_16 : decode cX1_daysLateOn 16 = .ok (.iload_n 1, 1) := by decide +kernel
theorem dX1_daysLateOn_17 : decode cX1_daysLateOn 17 = .ok (.aload_n 0, 1) := by decide +kernel
theorem dX1_daysLateOn_18 : decode cX1_daysLateOn 18 = .ok (.getfield 15, 3) := by decide +kernel
theorem dX1_daysLateOn_21 : decode cX1_daysLateOn 21 = .ok (.isub, 1) := by decide +kernel
theorem dX1_daysLateOn_22 : decode cX1_daysLateOn 22 = .ok (.goto 4, 3) := by decide +kernel
theorem dX1_daysLateOn_25 : decode cX1_daysLateOn 25 = .ok (.iconst 0, 1) := by decide +kernel
theorem dX1_daysLateOn_26 : decode cX1_daysLateOn 26 = .ok (.ireturn, 1) := by decide +kernel
theorem dX1_isLostOn_0 : decode cX1_isLostOn 0 = .ok (.aload_n 0, 1) := by decide +kernel
theorem dX1_isLostOn_1 : decode cX1_isLostOn 1 = .ok (.iload_n 1, 1) := by decide +kernel
theorem dX1_isLostOn_2 : decode cX1_isLostOn 2 = .ok (.invokevirtual 35, 3) := by decide +kernel
theorem dX1_isLostOn_5 : decode cX1_isLostOn 5 = .ok (.bipush 30, 2) := by decide +kernel
theorem dX1_isLostOn_7 : decode cX1_isLostOn 7 = .ok (.if_icmp .lt 7, 3) := by decide +kernel
theorem dX1_isLostOn_10 : decode cX1_isLostOn 10 = .ok (.iconst 1, 1) := by decide +kernel
theorem dX1_isLostOn_11 : decode cX1_isLostOn 11 = .ok (.goto 4, 3) := by decide +kernel
theorem dX1_isLostOn_14 : decode cX1_isLostOn 14 = .ok (.iconst 0, 1) := by decide +kernel
theorem dX1_isLostOn_15 : decode cX1_isLostOn 15 = .ok (.ireturn, 1) := by decide +kernel
theorem dX1_fineOn_0 : decode cX1_fineOn 0 = .ok (.bipush 40, 2) := by decide +kernel
theorem dX1_fineOn_2 : decode cX1_fineOn 2 = .ok (.iconst 2, 1) := by decide +kernel
theorem dX1_fineOn_3 : decode cX1_fineOn 3 = .ok (.aload_n 0, 1) := by decide +kernel
theorem dX1_fineOn_4 : decode cX1_fineOn 4 = .ok (.iload_n 1, 1) := by decide +kernel
theorem dX1_fineOn_5 : decode cX1_fineOn 5 = .ok (.invokevirtual 35, 3) := by decide +kernel
theorem dX1_fineOn_8 : decode cX1_fineOn 8 = .ok (.imul, 1) := by decide +kernel
theorem dX1_fineOn_9 : decode cX1_fineOn 9 = .ok (.invokestatic 39, 3) := by decide +kernel
theorem dX1_fineOn_12 : decode cX1_fineOn 12 = .ok (.ireturn, 1) := by decide +kernel
theorem dX1_feeWhenLost_0 : decode cX1_feeWhenLost 0 = .ok (.aload_n 0, 1) := by decide +kernel
theorem dX1_feeWhenLost_1 : decode cX1_feeWhenLost 1 = .ok (.getfield 25, 3) := by decide +kernel
theorem dX1_feeWhenLost_4 : decode cX1_feeWhenLost 4 = .ok (.bipush 40, 2) := by decide +kernel
theorem dX1_feeWhenLost_6 : decode cX1_feeWhenLost 6 = .ok (.iadd, 1) := by decide +kernel
theorem dX1_feeWhenLost_7 : decode cX1_feeWhenLost 7 = .ok (.ireturn, 1) := by decide +kernel
theorem dX1_daysUntilThere_0 : decode cX1_daysUntilThere 0 = .ok (.aload_n 0, 1) := by decide +kernel
theorem dX1_daysUntilThere_1 : decode cX1_daysUntilThere 1 = .ok (.getfield 9, 3) := by decide +kernel
theorem dX1_daysUntilThere_4 : decode cX1_daysUntilThere 4 = .ok (.iconst 1, 1) := by decide +kernel
theorem dX1_daysUntilThere_5 : decode cX1_daysUntilThere 5 = .ok (.if_icmp .ne 14, 3) := by decide +kernel
theorem dX1_daysUntilThere_8 : decode cX1_daysUntilThere 8 = .ok (.iconst 0, 1) := by decide +kernel
theorem dX1_daysUntilThere_9 : decode cX1_daysUntilThere 9 = .ok (.aload_n 0, 1) := by decide +kernel
theorem dX1_daysUntilThere_10 : decode cX1_daysUntilThere 10 = .ok (.getfield 15, 3) := by decide +kernel
theorem dX1_daysUntilThere_13 : decode cX1_daysUntilThere 13 = .ok (.iload_n 1, 1) := by decide +kernel
theorem dX1_daysUntilThere_14 : decode cX1_daysUntilThere 14 = .ok (.isub, 1) := by decide +kernel
theorem dX1_daysUntilThere_15 : decode cX1_daysUntilThere 15 = .ok (.invokestatic 45, 3) := by decide +kernel
theorem dX1_daysUntilThere_18 : decode cX1_daysUntilThere 18 = .ok (.ireturn, 1) := by decide +kernel
theorem dX1_daysUntilThere_19 : decode cX1_daysUntilThere 19 = .ok (.aload_n 0, 1) := by decide +kernel
theorem dX1_daysUntilThere_20 : decode cX1_daysUntilThere 20 = .ok (.getfield 9, 3) := by decide +kernel
theorem dX1_daysUntilThere_23 : decode cX1_daysUntilThere 23 = .ok (.iconst 2, 1) := by decide +kernel
theorem dX1_daysUntilThere_24 : decode cX1_daysUntilThere 24 = .ok (.if_icmp .ne 20, 3) := by decide +kernel
theorem dX1_daysUntilThere_27 : decode cX1_daysUntilThere 27 = .ok (.aload_n 0, 1) := by decide +kernel
theorem dX1_daysUntilThere_28 : decode cX1_daysUntilThere 28 = .ok (.getfield 28, 3) := by decide +kernel
theorem dX1_daysUntilThere_31 : decode cX1_daysUntilThere 31 = .ok (.ifnull 13, 3) := by decide +kernel
theorem dX1_daysUntilThere_34 : decode cX1_daysUntilThere 34 = .ok (.aload_n 0, 1) := by decide +kernel
theorem dX1_daysUntilThere_35 : decode cX1_daysUntilThere 35 = .ok (.getfield 28, 3) := by decide +kernel
theorem dX1_daysUntilThere_38 : decode cX1_daysUntilThere 38 = .ok (.invokevirtual 48, 3) := by decide +kernel
theorem dX1_daysUntilThere_41 : decode cX1_daysUntilThere 41 = .ok (.goto 4, 3) := by decide +kernel
theorem dX1_daysUntilThere_44 : decode cX1_daysUntilThere 44 = .ok (.iconst 0, 1) := by decide +kernel
theorem dX1_daysUntilThere_45 : decode cX1_daysUntilThere 45 = .ok (.ireturn, 1) := by decide +kernel
theorem dX2_init_0 : decode cX2_init 0 = .ok (.aload_n 0, 1) := by decide +kernel
theorem dX2_init_1 : decode cX2_init 1 = .ok (.invokespecial 3, 3) := by decide +kernel
theorem dX2_init_4 : decode cX2_init 4 = .ok (.aload_n 0, 1) := by decide +kernel
theorem dX2_init_5 : decode cX2_init 5 = .ok (.iload_n 1, 1) := by decide +kernel
theorem dX2_init_6 : decode cX2_init 6 = .ok (.putfield 9, 3) := by decide +kernel
theorem dX2_init_9 : decode cX2_init 9 = .ok (.return_, 1) := by decide +kernel
theorem dX2_stoodFor_0 : decode cX2_stoodFor 0 = .ok (.aload_n 0, 1) := by decide +kernel
theorem dX2_stoodFor_1 : decode cX2_stoodFor 1 = .ok (.astore_n 1, 1) := by decide +kernel
theorem dX2_stoodFor_2 : decode cX2_stoodFor 2 = .ok (.iconst 0, 1) := by decide +kernel
theorem dX2_stoodFor_3 : decode cX2_stoodFor 3 = .ok (.istore_n 2, 1) := by decide +kernel
theorem dX2_stoodFor_4 : decode cX2_stoodFor 4 = .ok (.iload_n 2, 1) := by decide +kernel
theorem dX2_stoodFor_5 : decode cX2_stoodFor 5 = .ok (.bipush 16, 2) := by decide +kernel
theorem dX2_stoodFor_7 : decode cX2_stoodFor 7 = .ok (.if_icmp .ge 21, 3) := by decide +kernel
theorem dX2_stoodFor_10 : decode cX2_stoodFor 10 = .ok (.aload_n 1, 1) := by decide +kernel
theorem dX2_stoodFor_11 : decode cX2_stoodFor 11 = .ok (.getfield 15, 3) := by decide +kernel
theorem dX2_stoodFor_14 : decode cX2_stoodFor 14 = .ok (.ifnull 14, 3) := by decide +kernel
theorem dX2_stoodFor_17 : decode cX2_stoodFor 17 = .ok (.aload_n 1, 1) := by decide +kernel
theorem dX2_stoodFor_18 : decode cX2_stoodFor 18 = .ok (.getfield 15, 3) := by decide +kernel
theorem dX2_stoodFor_21 : decode cX2_stoodFor 21 = .ok (.astore_n 1, 1) := by decide +kernel
theorem dX2_stoodFor_22 : decode cX2_stoodFor 22 = .ok (.iinc 2 1, 3) := by decide +kernel
theorem dX2_stoodFor_25 : decode cX2_stoodFor 25 = .ok (.goto (-21), 3) := by decide +kernel
theorem dX2_stoodFor_28 : decode cX2_stoodFor 28 = .ok (.aload_n 1, 1) := by decide +kernel
theorem dX2_stoodFor_29 : decode cX2_stoodFor 29 = .ok (.areturn, 1) := by decide +kernel
theorem dX3_init_0 : decode cX3_init 0 = .ok (.aload_n 0, 1) := by decide +kernel
theorem dX3_init_1 : decode cX3_init 1 = .ok (.invokespecial 1, 3) := by decide +kernel
theorem dX3_init_4 : decode cX3_init 4 = .ok (.aload_n 0, 1) := by decide +kernel
theorem dX3_init_5 : decode cX3_init 5 = .ok (.iload_n 1, 1) := by decide +kernel
theorem dX3_init_6 : decode cX3_init 6 = .ok (.putfield 7, 3) := by decide +kernel
theorem dX3_init_9 : decode cX3_init 9 = .ok (.aload_n 0, 1) := by decide +kernel
theorem dX3_init_10 : decode cX3_init 10 = .ok (.iload_n 2, 1) := by decide +kernel
theorem dX3_init_11 : decode cX3_init 11 = .ok (.putfield 13, 3) := by decide +kernel
theorem dX3_init_14 : decode cX3_init 14 = .ok (.return_, 1) := by decide +kernel
theorem dX3_mostCopies_0 : decode cX3_mostCopies 0 = .ok (.aload_n 0, 1) := by decide +kernel
theorem dX3_mostCopies_1 : decode cX3_mostCopies 1 = .ok (.getfield 13, 3) := by decide +kernel
theorem dX3_mostCopies_4 : decode cX3_mostCopies 4 = .ok (.ifCond .ne 7, 3) := by decide +kernel
theorem dX3_mostCopies_7 : decode cX3_mostCopies 7 = .ok (.iconst 2, 1) := by decide +kernel
theorem dX3_mostCopies_8 : decode cX3_mostCopies 8 = .ok (.goto 4, 3) := by decide +kernel
theorem dX3_mostCopies_11 : decode cX3_mostCopies 11 = .ok (.iconst 4, 1) := by decide +kernel
theorem dX3_mostCopies_12 : decode cX3_mostCopies 12 = .ok (.ireturn, 1) := by decide +kernel
theorem dX3_daysOfALoan_0 : decode cX3_daysOfALoan 0 = .ok (.aload_n 0, 1) := by decide +kernel
theorem dX3_daysOfALoan_1 : decode cX3_daysOfALoan 1 = .ok (.getfield 13, 3) := by decide +kernel
theorem dX3_daysOfALoan_4 : decode cX3_daysOfALoan 4 = .ok (.ifCond .ne 8, 3) := by decide +kernel
theorem dX3_daysOfALoan_7 : decode cX3_daysOfALoan 7 = .ok (.bipush 14, 2) := by decide +kernel
theorem dX3_daysOfALoan_9 : decode cX3_daysOfALoan 9 = .ok (.goto 5, 3) := by decide +kernel
theorem dX3_daysOfALoan_12 : decode cX3_daysOfALoan 12 = .ok (.bipush 28, 2) := by decide +kernel
theorem dX3_daysOfALoan_14 : decode cX3_daysOfALoan 14 = .ok (.ireturn, 1) := by decide +kernel
theorem dX4_init_0 : decode cX4_init 0 = .ok (.aload_n 0, 1) := by decide +kernel
theorem dX4_init_1 : decode cX4_init 1 = .ok (.invokespecial 3, 3) := by decide +kernel
theorem dX4_init_4 : decode cX4_init 4 = .ok (.aload_n 0, 1) := by decide +kernel
theorem dX4_init_5 : decode cX4_init 5 = .ok (.bipush 8, 2) := by decide +kernel
theorem dX4_init_7 : decode cX4_init 7 = .ok (.anewarray 9, 3) := by decide +kernel
theorem dX4_init_10 : decode cX4_init 10 = .ok (.putfield 11, 3) := by decide +kernel
theorem dX4_init_13 : decode cX4_init 13 = .ok (.return_, 1) := by decide +kernel
theorem dX4_holds_0 : decode cX4_holds 0 = .ok (.aload_n 0, 1) := by decide +kernel
theorem dX4_holds_1 : decode cX4_holds 1 = .ok (.getfield 11, 3) := by decide +kernel
theorem dX4_holds_4 : decode cX4_holds 4 = .ok (.astore_n 2, 1) := by decide +kernel
theorem dX4_holds_5 : decode cX4_holds 5 = .ok (.aload_n 2, 1) := by decide +kernel
theorem dX4_holds_6 : decode cX4_holds 6 = .ok (.arraylength, 1) := by decide +kernel
theorem dX4_holds_7 : decode cX4_holds 7 = .ok (.istore_n 3, 1) := by decide +kernel
theorem dX4_holds_8 : decode cX4_holds 8 = .ok (.iconst 0, 1) := by decide +kernel
theorem dX4_holds_9 : decode cX4_holds 9 = .ok (.istore 4, 2) := by decide +kernel
theorem dX4_holds_11 : decode cX4_holds 11 = .ok (.iload 4, 2) := by decide +kernel
theorem dX4_holds_13 : decode cX4_holds 13 = .ok (.iload_n 3, 1) := by decide +kernel
theorem dX4_holds_14 : decode cX4_holds 14 = .ok (.if_icmp .ge 28, 3) := by decide +kernel
theorem dX4_holds_17 : decode cX4_holds 17 = .ok (.aload_n 2, 1) := by decide +kernel
theorem dX4_holds_18 : decode cX4_holds 18 = .ok (.iload 4, 2) := by decide +kernel
theorem dX4_holds_20 : decode cX4_holds 20 = .ok (.aaload, 1) := by decide +kernel
theorem dX4_holds_21 : decode cX4_holds 21 = .ok (.astore 5, 2) := by decide +kernel
theorem dX4_holds_23 : decode cX4_holds 23 = .ok (.aload 5, 2) := by decide +kernel
theorem dX4_holds_25 : decode cX4_holds 25 = .ok (.ifnull 11, 3) := by decide +kernel
theorem dX4_holds_28 : decode cX4_holds 28 = .ok (.aload 5, 2) := by decide +kernel
theorem dX4_holds_30 : decode cX4_holds 30 = .ok (.aload_n 1, 1) := by decide +kernel
theorem dX4_holds_31 : decode cX4_holds 31 = .ok (.if_acmp .ne 5, 3) := by decide +kernel
theorem dX4_holds_34 : decode cX4_holds 34 = .ok (.iconst 1, 1) := by decide +kernel
theorem dX4_holds_35 : decode cX4_holds 35 = .ok (.ireturn, 1) := by decide +kernel
theorem dX4_holds_36 : decode cX4_holds 36 = .ok (.iinc 4 1, 3) := by decide +kernel
theorem dX4_holds_39 : decode cX4_holds 39 = .ok (.goto (-28), 3) := by decide +kernel
theorem dX4_holds_42 : decode cX4_holds 42 = .ok (.iconst 0, 1) := by decide +kernel
theorem dX4_holds_43 : decode cX4_holds 43 = .ok (.ireturn, 1) := by decide +kernel
theorem dX4_at_0 : decode cX4_at 0 = .ok (.iload_n 1, 1) := by decide +kernel
theorem dX4_at_1 : decode cX4_at 1 = .ok (.ifCond .lt 21, 3) := by decide +kernel
theorem dX4_at_4 : decode cX4_at 4 = .ok (.iload_n 1, 1) := by decide +kernel
theorem dX4_at_5 : decode cX4_at 5 = .ok (.aload_n 0, 1) := by decide +kernel
theorem dX4_at_6 : decode cX4_at 6 = .ok (.getfield 11, 3) := by decide +kernel
theorem dX4_at_9 : decode cX4_at 9 = .ok (.arraylength, 1) := by decide +kernel
theorem dX4_at_10 : decode cX4_at 10 = .ok (.if_icmp .ge 12, 3) := by decide +kernel
theorem dX4_at_13 : decode cX4_at 13 = .ok (.aload_n 0, 1) := by decide +kernel
theorem dX4_at_14 : decode cX4_at 14 = .ok (.getfield 11, 3) := by decide +kernel
theorem dX4_at_17 : decode cX4_at 17 = .ok (.iload_n 1, 1) := by decide +kernel
theorem dX4_at_18 : decode cX4_at 18 = .ok (.aaload, 1) := by decide +kernel
theorem dX4_at_19 : decode cX4_at 19 = .ok (.goto 4, 3) := by decide +kernel
theorem dX4_at_22 : decode cX4_at 22 = .ok (.aconst_null, 1) := by decide +kernel
theorem dX4_at_23 : decode cX4_at 23 = .ok (.areturn, 1) := by decide +kernel
theorem dX4_join_0 : decode cX4_join 0 = .ok (.aload_n 0, 1) := by decide +kernel
theorem dX4_join_1 : decode cX4_join 1 = .ok (.getfield 17, 3) := by decide +kernel
theorem dX4_join_4 : decode cX4_join 4 = .ok (.ifCond .lt 35, 3) := by decide +kernel
theorem dX4_join_7 : decode cX4_join 7 = .ok (.aload_n 0, 1) := by decide +kernel
theorem dX4_join_8 : decode cX4_join 8 = .ok (.getfield 17, 3) := by decide +kernel
theorem dX4_join_11 : decode cX4_join 11 = .ok (.aload_n 0, 1) := by decide +kernel
theorem dX4_join_12 : decode cX4_join 12 = .ok (.getfield 11, 3) := by decide +kernel
theorem dX4_join_15 : decode cX4_join 15 = .ok (.arraylength, 1) := by decide +kernel
theorem dX4_join_16 : decode cX4_join 16 = .ok (.if_icmp .ge 23, 3) := by decide +kernel
theorem dX4_join_19 : decode cX4_join 19 = .ok (.aload_n 0, 1) := by decide +kernel
theorem dX4_join_20 : decode cX4_join 20 = .ok (.getfield 11, 3) := by decide +kernel
theorem dX4_join_23 : decode cX4_join 23 = .ok (.aload_n 0, 1) := by decide +kernel
theorem dX4_join_24 : decode cX4_join 24 = .ok (.getfield 17, 3) := by decide +kernel
theorem dX4_join_27 : decode cX4_join 27 = .ok (.aload_n 1, 1) := by decide +kernel
theorem dX4_join_28 : decode cX4_join 28 = .ok (.aastore, 1) := by decide +kernel
theorem dX4_join_29 : decode cX4_join 29 = .ok (.aload_n 0, 1) := by decide +kernel
theorem dX4_join_30 : decode cX4_join 30 = .ok (.dup, 1) := by decide +kernel
theorem dX4_join_31 : decode cX4_join 31 = .ok (.getfield 17, 3) := by decide +kernel
theorem dX4_join_34 : decode cX4_join 34 = .ok (.iconst 1, 1) := by decide +kernel
theorem dX4_join_35 : decode cX4_join 35 = .ok (.iadd, 1) := by decide +kernel
theorem dX4_join_36 : decode cX4_join 36 = .ok (.putfield 17, 3) := by decide +kernel
theorem dX4_join_39 : decode cX4_join 39 = .ok (.return_, 1) := by decide +kernel
theorem dX4_drop_0 : decode cX4_drop 0 = .ok (.iconst 0, 1) := by decide +kernel
theorem dX4_drop_1 : decode cX4_drop 1 = .ok (.istore_n 2, 1) := by decide +kernel
theorem dX4_drop_2 : decode cX4_drop 2 = .ok (.iconst 0, 1) := by decide +kernel
theorem dX4_drop_3 : decode cX4_drop 3 = .ok (.istore_n 3, 1) := by decide +kernel
theorem dX4_drop_4 : decode cX4_drop 4 = .ok (.iload_n 3, 1) := by decide +kernel
theorem dX4_drop_5 : decode cX4_drop 5 = .ok (.aload_n 0, 1) := by decide +kernel
theorem dX4_drop_6 : decode cX4_drop 6 = .ok (.getfield 11, 3) := by decide +kernel
theorem dX4_drop_9 : decode cX4_drop 9 = .ok (.arraylength, 1) := by decide +kernel
theorem dX4_drop_10 : decode cX4_drop 10 = .ok (.if_icmp .ge 55, 3) := by decide +kernel
theorem dX4_drop_13 : decode cX4_drop 13 = .ok (.aload_n 0, 1) := by decide +kernel
theorem dX4_drop_14 : decode cX4_drop 14 = .ok (.getfield 11, 3) := by decide +kernel
theorem dX4_drop_17 : decode cX4_drop 17 = .ok (.iload_n 3, 1) := by decide +kernel
theorem dX4_drop_18 : decode cX4_drop 18 = .ok (.aaload, 1) := by decide +kernel
theorem dX4_drop_19 : decode cX4_drop 19 = .ok (.astore 4, 2) := by decide +kernel
theorem dX4_drop_21 : decode cX4_drop 21 = .ok (.aload_n 0, 1) := by decide +kernel
theorem dX4_drop_22 : decode cX4_drop 22 = .ok (.getfield 11, 3) := by decide +kernel
theorem dX4_drop_25 : decode cX4_drop 25 = .ok (.iload_n 3, 1) := by decide +kernel
theorem dX4_drop_26 : decode cX4_drop 26 = .ok (.aconst_null, 1) := by decide +kernel
theorem dX4_drop_27 : decode cX4_drop 27 = .ok (.aastore, 1) := by decide +kernel
theorem dX4_drop_28 : decode cX4_drop 28 = .ok (.aload 4, 2) := by decide +kernel
theorem dX4_drop_30 : decode cX4_drop 30 = .ok (.ifnull 29, 3) := by decide +kernel
theorem dX4_drop_33 : decode cX4_drop 33 = .ok (.aload 4, 2) := by decide +kernel
theorem dX4_drop_35 : decode cX4_drop 35 = .ok (.aload_n 1, 1) := by decide +kernel
theorem dX4_drop_36 : decode cX4_drop 36 = .ok (.if_acmp .eq 23, 3) := by decide +kernel
theorem dX4_drop_39 : decode cX4_drop 39 = .ok (.iload_n 2, 1) := by decide +kernel
theorem dX4_drop_40 : decode cX4_drop 40 = .ok (.ifCond .lt 19, 3) := by decide +kernel
theorem dX4_drop_43 : decode cX4_drop 43 = .ok (.iload_n 2, 1) := by decide +kernel
theorem dX4_drop_44 : decode cX4_drop 44 = .ok (.iload_n 3, 1) := by decide +kernel
theorem dX4_drop_45 : decode cX4_drop 45 = .ok (.if_icmp .gt 14, 3) := by decide +kernel
theorem dX4_drop_48 : decode cX4_drop 48 = .ok (.aload_n 0, 1) := by decide +kernel
theorem dX4_drop_49 : decode cX4_drop 49 = .ok (.getfield 11, 3) := by decide +kernel
theorem dX4_drop_52 : decode cX4_drop 52 = .ok (.iload_n 2, 1) := by decide +kernel
theorem dX4_drop_53 : decode cX4_drop 53 = .ok (.aload 4, 2) := by decide +kernel
theorem dX4_drop_55 : decode cX4_drop 55 = .ok (.aastore, 1) := by decide +kernel
theorem dX4_drop_56 : decode cX4_drop 56 = .ok (.iinc 2 1, 3) := by decide +kernel
theorem dX4_drop_59 : decode cX4_drop 59 = .ok (.iinc 3 1, 3) := by decide +kernel
theorem dX4_drop_62 : decode cX4_drop 62 = .ok (.goto (-58), 3) := by decide +kernel
theorem dX4_drop_65 : decode cX4_drop 65 = .ok (.aload_n 0, 1) := by decide +kernel
theorem dX4_drop_66 : decode cX4_drop 66 = .ok (.iload_n 2, 1) := by decide +kernel
theorem dX4_drop_67 : decode cX4_drop 67 = .ok (.putfield 17, 3) := by decide +kernel
theorem dX4_drop_70 : decode cX4_drop 70 = .ok (.return_, 1) := by decide +kernel
theorem dX4_clear_0 : decode cX4_clear 0 = .ok (.iconst 0, 1) := by decide +kernel
theorem dX4_clear_1 : decode cX4_clear 1 = .ok (.istore_n 1, 1) := by decide +kernel
theorem dX4_clear_2 : decode cX4_clear 2 = .ok (.iload_n 1, 1) := by decide +kernel
theorem dX4_clear_3 : decode cX4_clear 3 = .ok (.aload_n 0, 1) := by decide +kernel
theorem dX4_clear_4 : decode cX4_clear 4 = .ok (.getfield 11, 3) := by decide +kernel
theorem dX4_clear_7 : decode cX4_clear 7 = .ok (.arraylength, 1) := by decide +kernel
theorem dX4_clear_8 : decode cX4_clear 8 = .ok (.if_icmp .ge 16, 3) := by decide +kernel
theorem dX4_clear_11 : decode cX4_clear 11 = .ok (.aload_n 0, 1) := by decide +kernel
theorem dX4_clear_12 : decode cX4_clear 12 = .ok (.getfield 11, 3) := by decide +kernel
theorem dX4_clear_15 : decode cX4_clear 15 = .ok (.iload_n 1, 1) := by decide +kernel
theorem dX4_clear_16 : decode cX4_clear 16 = .ok (.aconst_null, 1) := by decide +kernel
theorem dX4_clear_17 : decode cX4_clear 17 = .ok (.aastore, 1) := by decide +kernel
theorem dX4_clear_18 : decode cX4_clear 18 = .ok (.iinc 1 1, 3) := by decide +kernel
theorem dX4_clear_21 : decode cX4_clear 21 = .ok (.goto (-19), 3) := by decide +kernel
theorem dX4_clear_24 : decode cX4_clear 24 = .ok (.aload_n 0, 1) := by decide +kernel
theorem dX4_clear_25 : decode cX4_clear 25 = .ok (.iconst 0, 1) := by decide +kernel
theorem dX4_clear_26 : decode cX4_clear 26 = .ok (.putfield 17, 3) := by decide +kernel
theorem dX4_clear_29 : decode cX4_clear 29 = .ok (.return_, 1) := by decide +kernel
theorem dX5_init_0 : decode cX5_init 0 = .ok (.aload_n 0, 1) := by decide +kernel
theorem dX5_init_1 : decode cX5_init 1 = .ok (.invokespecial 1, 3) := by decide +kernel
theorem dX5_init_4 : decode cX5_init 4 = .ok (.aload_n 0, 1) := by decide +kernel
theorem dX5_init_5 : decode cX5_init 5 = .ok (.bipush 16, 2) := by decide +kernel
theorem dX5_init_7 : decode cX5_init 7 = .ok (.anewarray 9, 3) := by decide +kernel
theorem dX5_init_10 : decode cX5_init 10 = .ok (.putfield 11, 3) := by decide +kernel
theorem dX5_init_13 : decode cX5_init 13 = .ok (.aload_n 0, 1) := by decide +kernel
theorem dX5_init_14 : decode cX5_init 14 = .ok (.bipush 20, 2) := by decide +kernel
theorem dX5_init_16 : decode cX5_init 16 = .ok (.anewarray 15, 3) := by decide +kernel
theorem dX5_init_19 : decode cX5_init 19 = .ok (.putfield 17, 3) := by decide +kernel
theorem dX5_init_22 : decode cX5_init 22 = .ok (.aload_n 0, 1) := by decide +kernel
theorem dX5_init_23 : decode cX5_init 23 = .ok (.bipush 30, 2) := by decide +kernel
theorem dX5_init_25 : decode cX5_init 25 = .ok (.anewarray 21, 3) := by decide +kernel
theorem dX5_init_28 : decode cX5_init 28 = .ok (.putfield 23, 3) := by decide +kernel
theorem dX5_init_31 : decode cX5_init 31 = .ok (.aload_n 0, 1) := by decide +kernel
theorem dX5_init_32 : decode cX5_init 32 = .ok (.bipush 8, 2) := by decide +kernel
theorem dX5_init_34 : decode cX5_init 34 = .ok (.anewarray 27, 3) := by decide +kernel
theorem dX5_init_37 : decode cX5_init 37 = .ok (.putfield 29, 3) := by decide +kernel
theorem dX5_init_40 : decode cX5_init 40 = .ok (.return_, 1) := by decide +kernel
theorem dX5_name_0 : decode cX5_name 0 = .ok (.aload_n 0, 1) := by decide +kernel
theorem dX5_name_1 : decode cX5_name 1 = .ok (.getfield 33, 3) := by decide +kernel
theorem dX5_name_4 : decode cX5_name 4 = .ok (.istore_n 1, 1) := by decide +kernel
theorem dX5_name_5 : decode cX5_name 5 = .ok (.iload_n 1, 1) := by decide +kernel
theorem dX5_name_6 : decode cX5_name 6 = .ok (.ifCond .lt 12, 3) := by decide +kernel
theorem dX5_name_9 : decode cX5_name 9 = .ok (.iload_n 1, 1) := by decide +kernel
theorem dX5_name_10 : decode cX5_name 10 = .ok (.aload_n 0, 1) := by decide +kernel
theorem dX5_name_11 : decode cX5_name 11 = .ok (.getfield 11, 3) := by decide +kernel
theorem dX5_name_14 : decode cX5_name 14 = .ok (.arraylength, 1) := by decide +kernel
theorem dX5_name_15 : decode cX5_name 15 = .ok (.if_icmp .lt 13, 3) := by decide +kernel
theorem dX5_name_18 : decode cX5_name 18 = .ok (.new 37, 3) := by decide +kernel
theorem dX5_name_21 : decode cX5_name 21 = .ok (.dup, 1) := by decide +kernel
theorem dX5_name_22 : decode cX5_name 22 = .ok (.ldc 39, 2) := by decide +kernel
theorem dX5_name_24 : decode cX5_name 24 = .ok (.invokespecial 41, 3) := by decide +kernel
theorem dX5_name_27 : decode cX5_name 27 = .ok (.athrow, 1) := by decide +kernel
theorem dX5_name_28 : decode cX5_name 28 = .ok (.aload_n 0, 1) := by decide +kernel
theorem dX5_name_29 : decode cX5_name 29 = .ok (.getfield 11, 3) := by decide +kernel
theorem dX5_name_32 : decode cX5_name 32 = .ok (.iload_n 1, 1) := by decide +kernel
theorem dX5_name_33 : decode cX5_name 33 = .ok (.new 9, 3) := by decide +kernel
theorem dX5_name_36 : decode cX5_name 36 = .ok (.dup, 1) := by decide +kernel
theorem dX5_name_37 : decode cX5_name 37 = .ok (.iload_n 1, 1) := by decide +kernel
theorem dX5_name_38 : decode cX5_name 38 = .ok (.invokespecial 44, 3) := by decide +kernel
theorem dX5_name_41 : decode cX5_name 41 = .ok (.aastore, 1) := by decide +kernel
theorem dX5_name_42 : decode cX5_name 42 = .ok (.aload_n 0, 1) := by decide +kernel
theorem dX5_name_43 : decode cX5_name 43 = .ok (.iload_n 1, 1) := by decide +kernel
theorem dX5_name_44 : decode cX5_name 44 = .ok (.iconst 1, 1) := by decide +kernel
theorem dX5_name_45 : decode cX5_name 45 = .ok (.iadd, 1) := by decide +kernel
theorem dX5_name_46 : decode cX5_name 46 = .ok (.putfield 33, 3) := by decide +kernel
theorem dX5_name_49 : decode cX5_name 49 = .ok (.iload_n 1, 1) := by decide +kernel
theorem dX5_name_50 : decode cX5_name 50 = .ok (.ireturn, 1) := by decide +kernel
theorem dX5_record_0 : decode cX5_record 0 = .ok (.aload_n 0, 1) := by decide +kernel
theorem dX5_record_1 : decode cX5_record 1 = .ok (.iload_n 1, 1) := by decide +kernel
theorem dX5_record_2 : decode cX5_record 2 = .ok (.invokevirtual 68, 3) := by decide +kernel
theorem dX5_record_5 : decode cX5_record 5 = .ok (.astore 4, 2) := by decide +kernel
theorem dX5_record_7 : decode cX5_record 7 = .ok (.iload_n 2, 1) := by decide +kernel
theorem dX5_record_8 : decode cX5_record 8 = .ok (.iconst 1, 1) := by decide +kernel
theorem dX5_record_9 : decode cX5_record 9 = .ok (.sipush 4095, 3) := by decide +kernel
theorem dX5_record_12 : decode cX5_record 12 = .ok (.invokestatic 71, 3) := by decide +kernel
theorem dX5_record_15 : decode cX5_record 15 = .ok (.iload_n 3, 1) := by decide +kernel
theorem dX5_record_16 : decode cX5_record 16 = .ok (.iconst 0, 1) := by decide +kernel
theorem dX5_record_17 : decode cX5_record 17 = .ok (.bipush 99, 2) := by decide +kernel
theorem dX5_record_19 : decode cX5_record 19 = .ok (.invokestatic 71, 3) := by decide +kernel
theorem dX5_record_22 : decode cX5_record 22 = .ok (.aload_n 0, 1) := by decide +kernel
theorem dX5_record_23 : decode cX5_record 23 = .ok (.getfield 75, 3) := by decide +kernel
theorem dX5_record_26 : decode cX5_record 26 = .ok (.istore 5, 2) := by decide +kernel
theorem dX5_record_28 : decode cX5_record 28 = .ok (.iload 5, 2) := by decide +kernel
theorem dX5_record_30 : decode cX5_record 30 = .ok (.ifCond .lt 13, 3) := by decide +kernel
theorem dX5_record_33 : decode cX5_record 33 = .ok (.iload 5, 2) := by decide +kernel
theorem dX5_record_35 : decode cX5_record 35 = .ok (.aload_n 0, 1) := by decide +kernel
theorem dX5_record_36 : decode cX5_record 36 = .ok (.getfield 17, 3) := by decide +kernel
theorem dX5_record_39 : decode cX5_record 39 = .ok (.arraylength, 1) := by decide +kernel
theorem dX5_record_40 : decode cX5_record 40 = .ok (.if_icmp .lt 13, 3) := by decide +kernel
theorem dX5_record_43 : decode cX5_record 43 = .ok (.new 37, 3) := by decide +kernel
theorem dX5_record_46 : decode cX5_record 46 = .ok (.dup, 1) := by decide +kernel
theorem dX5_record_47 : decode cX5_record 47 = .ok (.ldc 78, 2) := by decide +kernel
theorem dX5_record_49 : decode cX5_record 49 = .ok (.invokespecial 41, 3) := by decide +kernel
theorem dX5_record_52 : decode cX5_record 52 = .ok (.athrow, 1) := by decide +kernel
theorem dX5_record_53 : decode cX5_record 53 = .ok (.aload_n 0, 1) := by decide +kernel
theorem dX5_record_54 : decode cX5_record 54 = .ok (.getfield 17, 3) := by decide +kernel
theorem dX5_record_57 : decode cX5_record 57 = .ok (.iload 5, 2) := by decide +kernel
theorem dX5_record_59 : decode cX5_record 59 = .ok (.new 15, 3) := by decide +kernel
theorem dX5_record_62 : decode cX5_record 62 = .ok (.dup, 1) := by decide +kernel
theorem dX5_record_63 : decode cX5_record 63 = .ok (.iload 5, 2) := by decide +kernel
theorem dX5_record_65 : decode cX5_record 65 = .ok (.aload 4, 2) := by decide +kernel
theorem dX5_record_67 : decode cX5_record 67 = .ok (.iload_n 2, 1) := by decide +kernel
theorem dX5_record_68 : decode cX5_record 68 = .ok (.iload_n 3, 1) := by decide +kernel
theorem dX5_record_69 : decode cX5_record 69 = .ok (.invokespecial 80, 3) := by decide +kernel
theorem dX5_record_72 : decode cX5_record 72 = .ok (.aastore, 1) := by decide +kernel
theorem dX5_record_73 : decode cX5_record 73 = .ok (.aload_n 0, 1) := by decide +kernel
theorem dX5_record_74 : decode cX5_record 74 = .ok (.iload 5, 2) := by decide +kernel
theorem dX5_record_76 : decode cX5_record 76 = .ok (.iconst 1, 1) := by decide +kernel
theorem dX5_record_77 : decode cX5_record 77 = .ok (.iadd, 1) := by decide +kernel
theorem dX5_record_78 : decode cX5_record 78 = .ok (.putfield 75, 3) := by decide +kernel
theorem dX5_record_81 : decode cX5_record 81 = .ok (.iload 5, 2) := by decide +kernel
theorem dX5_record_83 : decode cX5_record 83 = .ok (.ireturn, 1) := by decide +kernel
theorem dX5_ofRecord_0 : decode cX5_ofRecord 0 = .ok (.aload_n 0, 1) := by decide +kernel
theorem dX5_ofRecord_1 : decode cX5_ofRecord 1 = .ok (.iload_n 1, 1) := by decide +kernel
theorem dX5_ofRecord_2 : decode cX5_ofRecord 2 = .ok (.invokevirtual 83, 3) := by decide +kernel
theorem dX5_ofRecord_5 : decode cX5_ofRecord 5 = .ok (.astore_n 3, 1) := by decide +kernel
theorem dX5_ofRecord_6 : decode cX5_ofRecord 6 = .ok (.iload_n 2, 1) := by decide +kernel
theorem dX5_ofRecord_7 : decode cX5_ofRecord 7 = .ok (.iconst 0, 1) := by decide +kernel
theorem dX5_ofRecord_8 : decode cX5_ofRecord 8 = .ok (.bipush 6, 2) := by decide +kernel
theorem dX5_ofRecord_10 : decode cX5_ofRecord 10 = .ok (.invokestatic 71, 3) := by decide +kernel
theorem dX5_ofRecord_13 : decode cX5_ofRecord 13 = .ok (.aload_n 0, 1) := by decide +kernel
theorem dX5_ofRecord_14 : decode cX5_ofRecord 14 = .ok (.aload_n 3, 1) := by decide +kernel
theorem dX5_ofRecord_15 : decode cX5_ofRecord 15 = .ok (.iload_n 2, 1) := by decide +kernel
theorem dX5_ofRecord_16 : decode cX5_ofRecord 16 = .ok (.invokevirtual 87, 3) := by decide +kernel
theorem dX5_ofRecord_19 : decode cX5_ofRecord 19 = .ok (.ireturn, 1) := by decide +kernel
theorem dX5_likeness_0 : decode cX5_likeness 0 = .ok (.aload_n 0, 1) := by decide +kernel
theorem dX5_likeness_1 : decode cX5_likeness 1 = .ok (.iload_n 1, 1) := by decide +kernel
theorem dX5_likeness_2 : decode cX5_likeness 2 = .ok (.invokevirtual 83, 3) := by decide +kernel
theorem dX5_likeness_5 : decode cX5_likeness 5 = .ok (.aload_n 0, 1) := by decide +kernel
theorem dX5_likeness_6 : decode cX5_likeness 6 = .ok (.iload_n 2, 1) := by decide +kernel
theorem dX5_likeness_7 : decode cX5_likeness 7 = .ok (.invokevirtual 83, 3) := by decide +kernel
theorem dX5_likeness_10 : decode cX5_likeness 10 = .ok (.invokevirtual 91, 3) := by decide +kernel
theorem dX5_likeness_13 : decode cX5_likeness 13 = .ok (.ireturn, 1) := by decide +kernel
theorem dX5_twin_0 : decode cX5_twin 0 = .ok (.aload_n 0, 1) := by decide +kernel
theorem dX5_twin_1 : decode cX5_twin 1 = .ok (.iload_n 1, 1) := by decide +kernel
theorem dX5_twin_2 : decode cX5_twin 2 = .ok (.invokevirtual 83, 3) := by decide +kernel
theorem dX5_twin_5 : decode cX5_twin 5 = .ok (.astore_n 3, 1) := by decide +kernel
theorem dX5_twin_6 : decode cX5_twin 6 = .ok (.aload_n 3, 1) := by decide +kernel
theorem dX5_twin_7 : decode cX5_twin 7 = .ok (.invokevirtual 95, 3) := by decide +kernel
theorem dX5_twin_10 : decode cX5_twin 10 = .ok (.astore 4, 2) := by decide +kernel
theorem dX5_twin_12 : decode cX5_twin 12 = .ok (.aconst_null, 1) := by decide +kernel
theorem dX5_twin_13 : decode cX5_twin 13 = .ok (.astore 5, 2) := by decide +kernel
theorem dX5_twin_15 : decode cX5_twin 15 = .ok (.aload_n 0, 1) := by decide +kernel
theorem dX5_twin_16 : decode cX5_twin 16 = .ok (.getfield 17, 3) := by decide +kernel
theorem dX5_twin_19 : decode cX5_twin 19 = .ok (.astore 6, 2) := by decide +kernel
theorem dX5_twin_21 : decode cX5_twin 21 = .ok (.aload 6, 2) := by decide +kernel
theorem dX5_twin_23 : decode cX5_twin 23 = .ok (.arraylength, 1) := by decide +kernel
theorem dX5_twin_24 : decode cX5_twin 24 = .ok (.istore 7, 2) := by decide +kernel
theorem dX5_twin_26 : decode cX5_twin 26 = .ok (.iconst 0, 1) := by decide +kernel
theorem dX5_twin_27 : decode cX5_twin 27 = .ok (.istore 8, 2) := by decide +kernel
theorem dX5_twin_29 : decode cX5_twin 29 = .ok (.iload 8, 2) := by decide +kernel
theorem dX5_twin_31 : decode cX5_twin 31 = .ok (.iload 7, 2) := by decide +kernel
theorem dX5_twin_33 : decode cX5_twin 33 = .ok (.if_icmp .ge 60, 3) := by decide +kernel
theorem dX5_twin_36 : decode cX5_twin 36 = .ok (.aload 6, 2) := by decide +kernel
theorem dX5_twin_38 : decode cX5_twin 38 = .ok (.iload 8, 2) := by decide +kernel
theorem dX5_twin_40 : decode cX5_twin 40 = .ok (.aaload, 1) := by decide +kernel
theorem dX5_twin_41 : decode cX5_twin 41 = .ok (.astore 9, 2) := by decide +kernel
theorem dX5_twin_43 : decode cX5_twin 43 = .ok (.aload 9, 2) := by decide +kernel
theorem dX5_twin_45 : decode cX5_twin 45 = .ok (.ifnull 42, 3) := by decide +kernel
theorem dX5_twin_48 : decode cX5_twin 48 = .ok (.aload 9, 2) := by decide +kernel
theorem dX5_twin_50 : decode cX5_twin 50 = .ok (.invokevirtual 99, 3) := by decide +kernel
theorem dX5_twin_53 : decode cX5_twin 53 = .ok (.ifCond .eq 34, 3) := by decide +kernel
theorem dX5_twin_56 : decode cX5_twin 56 = .ok (.aload 9, 2) := by decide +kernel
theorem dX5_twin_58 : decode cX5_twin 58 = .ok (.aload 4, 2) := by decide +kernel
theorem dX5_twin_60 : decode cX5_twin 60 = .ok (.if_acmp .eq 27, 3) := by decide +kernel
theorem dX5_twin_63 : decode cX5_twin 63 = .ok (.aload 5, 2) := by decide +kernel
theorem dX5_twin_65 : decode cX5_twin 65 = .ok (.ifnull 18, 3) := by decide +kernel
theorem dX5_twin_68 : decode cX5_twin 68 = .ok (.aload_n 3, 1) := by decide +kernel
theorem dX5_twin_69 : decode cX5_twin 69 = .ok (.aload 9, 2) := by decide +kernel
theorem dX5_twin_71 : decode cX5_twin 71 = .ok (.invokevirtual 91, 3) := by decide +kernel
theorem dX5_twin_74 : decode cX5_twin 74 = .ok (.aload_n 3, 1) := by decide +kernel
theorem dX5_twin_75 : decode cX5_twin 75 = .ok (.aload 5, 2) := by decide +kernel
theorem dX5_twin_77 : decode cX5_twin 77 = .ok (.invokevirtual 91, 3) := by decide +kernel
theorem dX5_twin_80 : decode cX5_twin 80 = .ok (.if_icmp .le 7, 3) := by decide +kernel
theorem dX5_twin_83 : decode cX5_twin 83 = .ok (.aload 9, 2) := by decide +kernel
theorem dX5_twin_85 : decode cX5_twin 85 = .ok (.astore 5, 2) := by decide +kernel
theorem dX5_twin_87 : decode cX5_twin 87 = .ok (.iinc 8 1, 3) := by decide +kernel
theorem dX5_twin_90 : decode cX5_twin 90 = .ok (.goto (-61), 3) := by decide +kernel
theorem dX5_twin_93 : decode cX5_twin 93 = .ok (.aload 5, 2) := by decide +kernel
theorem dX5_twin_95 : decode cX5_twin 95 = .ok (.ifnull 13, 3) := by decide +kernel
theorem dX5_twin_98 : decode cX5_twin 98 = .ok (.aload_n 3, 1) := by decide +kernel
theorem dX5_twin_99 : decode cX5_twin 99 = .ok (.aload 5, 2) := by decide +kernel
theorem dX5_twin_101 : decode cX5_twin 101 = .ok (.invokevirtual 91, 3) := by decide +kernel
theorem dX5_twin_104 : decode cX5_twin 104 = .ok (.iload_n 2, 1) := by decide +kernel
theorem dX5_twin_105 : decode cX5_twin 105 = .ok (.if_icmp .ge 7, 3) := by decide +kernel
theorem dX5_twin_108 : decode cX5_twin 108 = .ok (.iconst (-1), 1) := by decide +kernel
theorem dX5_twin_109 : decode cX5_twin 109 = .ok (.goto 8, 3) := by decide +kernel
theorem dX5_twin_112 : decode cX5_twin 112 = .ok (.aload 5, 2) := by decide +kernel
theorem dX5_twin_114 : decode cX5_twin 114 = .ok (.getfield 103, 3) := by decide +kernel
theorem dX5_twin_117 : decode cX5_twin 117 = .ok (.ireturn, 1) := by decide +kernel
theorem dX5_lay_0 : decode cX5_lay 0 = .ok (.aload_n 0, 1) := by decide +kernel
theorem dX5_lay_1 : decode cX5_lay 1 = .ok (.iload_n 1, 1) := by decide +kernel
theorem dX5_lay_2 : decode cX5_lay 2 = .ok (.invokevirtual 83, 3) := by decide +kernel
theorem dX5_lay_5 : decode cX5_lay 5 = .ok (.astore_n 3, 1) := by decide +kernel
theorem dX5_lay_6 : decode cX5_lay 6 = .ok (.aload_n 0, 1) := by decide +kernel
theorem dX5_lay_7 : decode cX5_lay 7 = .ok (.iload_n 2, 1) := by decide +kernel
theorem dX5_lay_8 : decode cX5_lay 8 = .ok (.invokevirtual 83, 3) := by decide +kernel
theorem dX5_lay_11 : decode cX5_lay 11 = .ok (.astore 4, 2) := by decide +kernel
theorem dX5_lay_13 : decode cX5_lay 13 = .ok (.aload_n 3, 1) := by decide +kernel
theorem dX5_lay_14 : decode cX5_lay 14 = .ok (.invokevirtual 99, 3) := by decide +kernel
theorem dX5_lay_17 : decode cX5_lay 17 = .ok (.ifCond .eq 17, 3) := by decide +kernel
theorem dX5_lay_20 : decode cX5_lay 20 = .ok (.aload 4, 2) := by decide +kernel
theorem dX5_lay_22 : decode cX5_lay 22 = .ok (.invokevirtual 99, 3) := by decide +kernel
theorem dX5_lay_25 : decode cX5_lay 25 = .ok (.ifCond .eq 9, 3) := by decide +kernel
theorem dX5_lay_28 : decode cX5_lay 28 = .ok (.aload_n 3, 1) := by decide +kernel
theorem dX5_lay_29 : decode cX5_lay 29 = .ok (.aload 4, 2) := by decide +kernel
theorem dX5_lay_31 : decode cX5_lay 31 = .ok (.if_acmp .ne 13, 3) := by decide +kernel
theorem dX5_lay_34 : decode cX5_lay 34 = .ok (.new 37, 3) := by decide +kernel
theorem dX5_lay_37 : decode cX5_lay 37 = .ok (.dup, 1) := by decide +kernel
theorem dX5_lay_38 : decode cX5_lay 38 = .ok (.ldc 104, 2) := by decide +kernel
theorem dX5_lay_40 : decode cX5_lay 40 = .ok (.invokespecial 41, 3) := by decide +kernel
theorem dX5_lay_43 : decode cX5_lay 43 = .ok (.athrow, 1) := by decide +kernel
theorem dX5_lay_44 : decode cX5_lay 44 = .ok (.aload_n 0, 1) := by decide +kernel
theorem dX5_lay_45 : decode cX5_lay 45 = .ok (.aload_n 3, 1) := by decide +kernel
theorem dX5_lay_46 : decode cX5_lay 46 = .ok (.aload 4, 2) := by decide +kernel
theorem dX5_lay_48 : decode cX5_lay 48 = .ok (.invokevirtual 106, 3) := by decide +kernel
theorem dX5_lay_51 : decode cX5_lay 51 = .ok (.aload_n 0, 1) := by decide +kernel
theorem dX5_lay_52 : decode cX5_lay 52 = .ok (.aload_n 3, 1) := by decide +kernel
theorem dX5_lay_53 : decode cX5_lay 53 = .ok (.aload 4, 2) := by decide +kernel
theorem dX5_lay_55 : decode cX5_lay 55 = .ok (.invokevirtual 110, 3) := by decide +kernel
theorem dX5_lay_58 : decode cX5_lay 58 = .ok (.aload 4, 2) := by decide +kernel
theorem dX5_lay_60 : decode cX5_lay 60 = .ok (.dup, 1) := by decide +kernel
theorem dX5_lay_61 : decode cX5_lay 61 = .ok (.getfield 113, 3) := by decide +kernel
theorem dX5_lay_64 : decode cX5_lay 64 = .ok (.aload_n 3, 1) := by decide +kernel
theorem dX5_lay_65 : decode cX5_lay 65 = .ok (.getfield 113, 3) := by decide +kernel
theorem dX5_lay_68 : decode cX5_lay 68 = .ok (.iadd, 1) := by decide +kernel
theorem dX5_lay_69 : decode cX5_lay 69 = .ok (.putfield 113, 3) := by decide +kernel
theorem dX5_lay_72 : decode cX5_lay 72 = .ok (.aload_n 3, 1) := by decide +kernel
theorem dX5_lay_73 : decode cX5_lay 73 = .ok (.aload 4, 2) := by decide +kernel
theorem dX5_lay_75 : decode cX5_lay 75 = .ok (.putfield 116, 3) := by decide +kernel
theorem dX5_lay_78 : decode cX5_lay 78 = .ok (.aload_n 0, 1) := by decide +kernel
theorem dX5_lay_79 : decode cX5_lay 79 = .ok (.invokevirtual 120, 3) := by decide +kernel
theorem dX5_lay_82 : decode cX5_lay 82 = .ok (.aload_n 0, 1) := by decide +kernel
theorem dX5_lay_83 : decode cX5_lay 83 = .ok (.invokevirtual 123, 3) := by decide +kernel
theorem dX5_lay_86 : decode cX5_lay 86 = .ok (.aload_n 0, 1) := by decide +kernel
theorem dX5_lay_87 : decode cX5_lay 87 = .ok (.aload 4, 2) := by decide +kernel
theorem dX5_lay_89 : decode cX5_lay 89 = .ok (.invokevirtual 126, 3) := by decide +kernel
theorem dX5_lay_92 : decode cX5_lay 92 = .ok (.ireturn, 1) := by decide +kernel
theorem dX5_copy_0 : decode cX5_copy 0 = .ok (.aload_n 0, 1) := by decide +kernel
theorem dX5_copy_1 : decode cX5_copy 1 = .ok (.iload_n 1, 1) := by decide +kernel
theorem dX5_copy_2 : decode cX5_copy 2 = .ok (.invokevirtual 83, 3) := by decide +kernel
theorem dX5_copy_5 : decode cX5_copy 5 = .ok (.astore_n 3, 1) := by decide +kernel
theorem dX5_copy_6 : decode cX5_copy 6 = .ok (.iload_n 2, 1) := by decide +kernel
theorem dX5_copy_7 : decode cX5_copy 7 = .ok (.iconst 1, 1) := by decide +kernel
theorem dX5_copy_8 : decode cX5_copy 8 = .ok (.sipush 200, 3) := by decide +kernel
theorem dX5_copy_11 : decode cX5_copy 11 = .ok (.invokestatic 71, 3) := by decide +kernel
theorem dX5_copy_14 : decode cX5_copy 14 = .ok (.aload_n 0, 1) := by decide +kernel
theorem dX5_copy_15 : decode cX5_copy 15 = .ok (.getfield 136, 3) := by decide +kernel
theorem dX5_copy_18 : decode cX5_copy 18 = .ok (.istore 4, 2) := by decide +kernel
theorem dX5_copy_20 : decode cX5_copy 20 = .ok (.aload_n 3, 1) := by decide +kernel
theorem dX5_copy_21 : decode cX5_copy 21 = .ok (.invokevirtual 99, 3) := by decide +kernel
theorem dX5_copy_24 : decode cX5_copy 24 = .ok (.ifCond .eq 18, 3) := by decide +kernel
theorem dX5_copy_27 : decode cX5_copy 27 = .ok (.iload 4, 2) := by decide +kernel
theorem dX5_copy_29 : decode cX5_copy 29 = .ok (.ifCond .lt 13, 3) := by decide +kernel
theorem dX5_copy_32 : decode cX5_copy 32 = .ok (.iload 4, 2) := by decide +kernel
theorem dX5_copy_34 : decode cX5_copy 34 = .ok (.aload_n 0, 1) := by decide +kernel
theorem dX5_copy_35 : decode cX5_copy 35 = .ok (.getfield 23, 3) := by decide +kernel
theorem dX5_copy_38 : decode cX5_copy 38 = .ok (.arraylength, 1) := by decide +kernel
theorem dX5_copy_39 : decode cX5_copy 39 = .ok (.if_icmp .lt 13, 3) := by decide +kernel
theorem dX5_copy_42 : decode cX5_copy 42 = .ok (.new 37, 3) := by decide +kernel
theorem dX5_copy_45 : decode cX5_copy 45 = .ok (.dup, 1) := by decide +kernel
theorem dX5_copy_46 : decode cX5_copy 46 = .ok (.ldc 139, 2) := by decide +kernel
theorem dX5_copy_48 : decode cX5_copy 48 = .ok (.invokespecial 41, 3) := by decide +kernel
theorem dX5_copy_51 : decode cX5_copy 51 = .ok (.athrow, 1) := by decide +kernel
theorem dX5_copy_52 : decode cX5_copy 52 = .ok (.new 21, 3) := by decide +kernel
theorem dX5_copy_55 : decode cX5_copy 55 = .ok (.dup, 1) := by decide +kernel
theorem dX5_copy_56 : decode cX5_copy 56 = .ok (.iload 4, 2) := by decide +kernel
theorem dX5_copy_58 : decode cX5_copy 58 = .ok (.aload_n 3, 1) := by decide +kernel
theorem dX5_copy_59 : decode cX5_copy 59 = .ok (.iload_n 2, 1) := by decide +kernel
theorem dX5_copy_60 : decode cX5_copy 60 = .ok (.invokespecial 141, 3) := by decide +kernel
theorem dX5_copy_63 : decode cX5_copy 63 = .ok (.astore 5, 2) := by decide +kernel
theorem dX5_copy_65 : decode cX5_copy 65 = .ok (.aload_n 0, 1) := by decide +kernel
theorem dX5_copy_66 : decode cX5_copy 66 = .ok (.getfield 23, 3) := by decide +kernel
theorem dX5_copy_69 : decode cX5_copy 69 = .ok (.iload 4, 2) := by decide +kernel
theorem dX5_copy_71 : decode cX5_copy 71 = .ok (.aload 5, 2) := by decide +kernel
theorem dX5_copy_73 : decode cX5_copy 73 = .ok (.aastore, 1) := by decide +kernel
theorem dX5_copy_74 : decode cX5_copy 74 = .ok (.aload_n 0, 1) := by decide +kernel
theorem dX5_copy_75 : decode cX5_copy 75 = .ok (.iload 4, 2) := by decide +kernel
theorem dX5_copy_77 : decode cX5_copy 77 = .ok (.iconst 1, 1) := by decide +kernel
theorem dX5_copy_78 : decode cX5_copy 78 = .ok (.iadd, 1) := by decide +kernel
theorem dX5_copy_79 : decode cX5_copy 79 = .ok (.putfield 136, 3) := by decide +kernel
theorem dX5_copy_82 : decode cX5_copy 82 = .ok (.aload_n 0, 1) := by decide +kernel
theorem dX5_copy_83 : decode cX5_copy 83 = .ok (.aload 5, 2) := by decide +kernel
theorem dX5_copy_85 : decode cX5_copy 85 = .ok (.invokevirtual 144, 3) := by decide +kernel
theorem dX5_copy_88 : decode cX5_copy 88 = .ok (.iload 4, 2) := by decide +kernel
theorem dX5_copy_90 : decode cX5_copy 90 = .ok (.ireturn, 1) := by decide +kernel
theorem dX5_ofCopy_0 : decode cX5_ofCopy 0 = .ok (.aload_n 0, 1) := by decide +kernel
theorem dX5_ofCopy_1 : decode cX5_ofCopy 1 = .ok (.iload_n 1, 1) := by decide +kernel
theorem dX5_ofCopy_2 : decode cX5_ofCopy 2 = .ok (.invokevirtual 148, 3) := by decide +kernel
theorem dX5_ofCopy_5 : decode cX5_ofCopy 5 = .ok (.astore_n 3, 1) := by decide +kernel
theorem dX5_ofCopy_6 : decode cX5_ofCopy 6 = .ok (.iload_n 2, 1) := by decide +kernel
theorem dX5_ofCopy_7 : decode cX5_ofCopy 7 = .ok (.iconst 0, 1) := by decide +kernel
theorem dX5_ofCopy_8 : decode cX5_ofCopy 8 = .ok (.bipush 6, 2) := by decide +kernel
theorem dX5_ofCopy_10 : decode cX5_ofCopy 10 = .ok (.invokestatic 71, 3) := by decide +kernel
theorem dX5_ofCopy_13 : decode cX5_ofCopy 13 = .ok (.aload_n 0, 1) := by decide +kernel
theorem dX5_ofCopy_14 : decode cX5_ofCopy 14 = .ok (.aload_n 3, 1) := by decide +kernel
theorem dX5_ofCopy_15 : decode cX5_ofCopy 15 = .ok (.iload_n 2, 1) := by decide +kernel
theorem dX5_ofCopy_16 : decode cX5_ofCopy 16 = .ok (.invokevirtual 152, 3) := by decide +kernel
theorem dX5_ofCopy_19 : decode cX5_ofCopy 19 = .ok (.ireturn, 1) := by decide +kernel
theorem dX5_reader_0 : decode cX5_reader 0 = .ok (.iload_n 1, 1) := by decide +kernel
theorem dX5_reader_1 : decode cX5_reader 1 = .ok (.iconst 0, 1) := by decide +kernel
theorem dX5_reader_2 : decode cX5_reader 2 = .ok (.iconst 1, 1) := by decide +kernel
theorem dX5_reader_3 : decode cX5_reader 3 = .ok (.invokestatic 71, 3) := by decide +kernel
theorem dX5_reader_6 : decode cX5_reader 6 = .ok (.aload_n 0, 1) := by decide +kernel
theorem dX5_reader_7 : decode cX5_reader 7 = .ok (.getfield 156, 3) := by decide +kernel
theorem dX5_reader_10 : decode cX5_reader 10 = .ok (.istore_n 2, 1) := by decide +kernel
theorem dX5_reader_11 : decode cX5_reader 11 = .ok (.iload_n 2, 1) := by decide +kernel
theorem dX5_reader_12 : decode cX5_reader 12 = .ok (.ifCond .lt 12, 3) := by decide +kernel
theorem dX5_reader_15 : decode cX5_reader 15 = .ok (.iload_n 2, 1) := by decide +kernel
theorem dX5_reader_16 : decode cX5_reader 16 = .ok (.aload_n 0, 1) := by decide +kernel
theorem dX5_reader_17 : decode cX5_reader 17 = .ok (.getfield 29, 3) := by decide +kernel
theorem dX5_reader_20 : decode cX5_reader 20 = .ok (.arraylength, 1) := by decide +kernel
theorem dX5_reader_21 : decode cX5_reader 21 = .ok (.if_icmp .lt 13, 3) := by decide +kernel
theorem dX5_reader_24 : decode cX5_reader 24 = .ok (.new 37, 3) := by decide +kernel
theorem dX5_reader_27 : decode cX5_reader 27 = .ok (.dup, 1) := by decide +kernel
theorem dX5_reader_28 : decode cX5_reader 28 = .ok (.ldc 159, 2) := by decide +kernel
theorem dX5_reader_30 : decode cX5_reader 30 = .ok (.invokespecial 41, 3) := by decide +kernel
theorem dX5_reader_33 : decode cX5_reader 33 = .ok (.athrow, 1) := by decide +kernel
theorem dX5_reader_34 : decode cX5_reader 34 = .ok (.aload_n 0, 1) := by decide +kernel
theorem dX5_reader_35 : decode cX5_reader 35 = .ok (.getfield 29, 3) := by decide +kernel
theorem dX5_reader_38 : decode cX5_reader 38 = .ok (.iload_n 2, 1) := by decide +kernel
theorem dX5_reader_39 : decode cX5_reader 39 = .ok (.new 27, 3) := by decide +kernel
theorem dX5_reader_42 : decode cX5_reader 42 = .ok (.dup, 1) := by decide +kernel
theorem dX5_reader_43 : decode cX5_reader 43 = .ok (.iload_n 2, 1) := by decide +kernel
theorem dX5_reader_44 : decode cX5_reader 44 = .ok (.iload_n 1, 1) := by decide +kernel
theorem dX5_reader_45 : decode cX5_reader 45 = .ok (.invokespecial 161, 3) := by decide +kernel
theorem dX5_reader_48 : decode cX5_reader 48 = .ok (.aastore, 1) := by decide +kernel
theorem dX5_reader_49 : decode cX5_reader 49 = .ok (.aload_n 0, 1) := by decide +kernel
theorem dX5_reader_50 : decode cX5_reader 50 = .ok (.iload_n 2, 1) := by decide +kernel
theorem dX5_reader_51 : decode cX5_reader 51 = .ok (.iconst 1, 1) := by decide +kernel
theorem dX5_reader_52 : decode cX5_reader 52 = .ok (.iadd, 1) := by decide +kernel
theorem dX5_reader_53 : decode cX5_reader 53 = .ok (.putfield 156, 3) := by decide +kernel
theorem dX5_reader_56 : decode cX5_reader 56 = .ok (.iload_n 2, 1) := by decide +kernel
theorem dX5_reader_57 : decode cX5_reader 57 = .ok (.ireturn, 1) := by decide +kernel
theorem dX5_ofReader_0 : decode cX5_ofReader 0 = .ok (.aload_n 0, 1) := by decide +kernel
theorem dX5_ofReader_1 : decode cX5_ofReader 1 = .ok (.iload_n 1, 1) := by decide +kernel
theorem dX5_ofReader_2 : decode cX5_ofReader 2 = .ok (.invokevirtual 164, 3) := by decide +kernel
theorem dX5_ofReader_5 : decode cX5_ofReader 5 = .ok (.astore_n 3, 1) := by decide +kernel
theorem dX5_ofReader_6 : decode cX5_ofReader 6 = .ok (.iload_n 2, 1) := by decide +kernel
theorem dX5_ofReader_7 : decode cX5_ofReader 7 = .ok (.iconst 0, 1) := by decide +kernel
theorem dX5_ofReader_8 : decode cX5_ofReader 8 = .ok (.bipush 6, 2) := by decide +kernel
theorem dX5_ofReader_10 : decode cX5_ofReader 10 = .ok (.invokestatic 71, 3) := by decide +kernel
theorem dX5_ofReader_13 : decode cX5_ofReader 13 = .ok (.aload_n 0, 1) := by decide +kernel
theorem dX5_ofReader_14 : decode cX5_ofReader 14 = .ok (.aload_n 3, 1) := by decide +kernel
theorem dX5_ofReader_15 : decode cX5_ofReader 15 = .ok (.iload_n 2, 1) := by decide +kernel
theorem dX5_ofReader_16 : decode cX5_ofReader 16 = .ok (.invokevirtual 168, 3) := by decide +kernel
theorem dX5_ofReader_19 : decode cX5_ofReader 19 = .ok (.ireturn, 1) := by decide +kernel
theorem dX5_pay_0 : decode cX5_pay 0 = .ok (.aload_n 0, 1) := by decide +kernel
theorem dX5_pay_1 : decode cX5_pay 1 = .ok (.iload_n 1, 1) := by decide +kernel
theorem dX5_pay_2 : decode cX5_pay 2 = .ok (.invokevirtual 164, 3) := by decide +kernel
theorem dX5_pay_5 : decode cX5_pay 5 = .ok (.astore_n 3, 1) := by decide +kernel
theorem dX5_pay_6 : decode cX5_pay 6 = .ok (.iload_n 2, 1) := by decide +kernel
theorem dX5_pay_7 : decode cX5_pay 7 = .ok (.iconst 1, 1) := by decide +kernel
theorem dX5_pay_8 : decode cX5_pay 8 = .ok (.aload_n 3, 1) := by decide +kernel
theorem dX5_pay_9 : decode cX5_pay 9 = .ok (.getfield 172, 3) := by decide +kernel
theorem dX5_pay_12 : decode cX5_pay 12 = .ok (.invokestatic 71, 3) := by decide +kernel
theorem dX5_pay_15 : decode cX5_pay 15 = .ok (.aload_n 3, 1) := by decide +kernel
theorem dX5_pay_16 : decode cX5_pay 16 = .ok (.dup, 1) := by decide +kernel
theorem dX5_pay_17 : decode cX5_pay 17 = .ok (.getfield 172, 3) := by decide +kernel
theorem dX5_pay_20 : decode cX5_pay 20 = .ok (.iload_n 2, 1) := by decide +kernel
theorem dX5_pay_21 : decode cX5_pay 21 = .ok (.isub, 1) := by decide +kernel
theorem dX5_pay_22 : decode cX5_pay 22 = .ok (.putfield 172, 3) := by decide +kernel
theorem dX5_pay_25 : decode cX5_pay 25 = .ok (.aload_n 3, 1) := by decide +kernel
theorem dX5_pay_26 : decode cX5_pay 26 = .ok (.getfield 172, 3) := by decide +kernel
theorem dX5_pay_29 : decode cX5_pay 29 = .ok (.ireturn, 1) := by decide +kernel
theorem dX5_lend_0 : decode cX5_lend 0 = .ok (.aload_n 0, 1) := by decide +kernel
theorem dX5_lend_1 : decode cX5_lend 1 = .ok (.iload_n 1, 1) := by decide +kernel
theorem dX5_lend_2 : decode cX5_lend 2 = .ok (.invokevirtual 164, 3) := by decide +kernel
theorem dX5_lend_5 : decode cX5_lend 5 = .ok (.astore_n 3, 1) := by decide +kernel
theorem dX5_lend_6 : decode cX5_lend 6 = .ok (.aload_n 0, 1) := by decide +kernel
theorem dX5_lend_7 : decode cX5_lend 7 = .ok (.iload_n 2, 1) := by decide +kernel
theorem dX5_lend_8 : decode cX5_lend 8 = .ok (.invokevirtual 148, 3) := by decide +kernel
theorem dX5_lend_11 : decode cX5_lend 11 = .ok (.astore 4, 2) := by decide +kernel
theorem dX5_lend_13 : decode cX5_lend 13 = .ok (.aload_n 0, 1) := by decide +kernel
theorem dX5_lend_14 : decode cX5_lend 14 = .ok (.aload_n 3, 1) := by decide +kernel
theorem dX5_lend_15 : decode cX5_lend 15 = .ok (.aload 4, 2) := by decide +kernel
theorem dX5_lend_17 : decode cX5_lend 17 = .ok (.invokevirtual 175, 3) := by decide +kernel
theorem dX5_lend_20 : decode cX5_lend 20 = .ok (.ifCond .eq 13, 3) := by decide +kernel
theorem dX5_lend_23 : decode cX5_lend 23 = .ok (.new 37, 3) := by decide +kernel
theorem dX5_lend_26 : decode cX5_lend 26 = .ok (.dup, 1) := by decide +kernel
theorem dX5_lend_27 : decode cX5_lend 27 = .ok (.ldc 179, 2) := by decide +kernel
theorem dX5_lend_29 : decode cX5_lend 29 = .ok (.invokespecial 41, 3) := by decide +kernel
theorem dX5_lend_32 : decode cX5_lend 32 = .ok (.athrow, 1) := by decide +kernel
theorem dX5_lend_33 : decode cX5_lend 33 = .ok (.aload 4, 2) := by decide +kernel
theorem dX5_lend_35 : decode cX5_lend 35 = .ok (.iconst 1, 1) := by decide +kernel
theorem dX5_lend_36 : decode cX5_lend 36 = .ok (.aload_n 3, 1) := by decide +kernel
theorem dX5_lend_37 : decode cX5_lend 37 = .ok (.aload_n 0, 1) := by decide +kernel
theorem dX5_lend_38 : decode cX5_lend 38 = .ok (.getfield 181, 3) := by decide +kernel
theorem dX5_lend_41 : decode cX5_lend 41 = .ok (.aload_n 3, 1) := by decide +kernel
theorem dX5_lend_42 : decode cX5_lend 42 = .ok (.invokevirtual 184, 3) := by decide +kernel
theorem dX5_lend_45 : decode cX5_lend 45 = .ok (.iadd, 1) := by decide +kernel
theorem dX5_lend_46 : decode cX5_lend 46 = .ok (.invokevirtual 188, 3) := by decide +kernel
theorem dX5_lend_49 : decode cX5_lend 49 = .ok (.aload 4, 2) := by decide +kernel
theorem dX5_lend_51 : decode cX5_lend 51 = .ok (.getfield 192, 3) := by decide +kernel
theorem dX5_lend_54 : decode cX5_lend 54 = .ok (.dup, 1) := by decide +kernel
theorem dX5_lend_55 : decode cX5_lend 55 = .ok (.getfield 113, 3) := by decide +kernel
theorem dX5_lend_58 : decode cX5_lend 58 = .ok (.iconst 1, 1) := by decide +kernel
theorem dX5_lend_59 : decode cX5_lend 59 = .ok (.iadd, 1) := by decide +kernel
theorem dX5_lend_60 : decode cX5_lend 60 = .ok (.putfield 113, 3) := by decide +kernel
theorem dX5_lend_63 : decode cX5_lend 63 = .ok (.aload_n 0, 1) := by decide +kernel
theorem dX5_lend_64 : decode cX5_lend 64 = .ok (.aload_n 3, 1) := by decide +kernel
theorem dX5_lend_65 : decode cX5_lend 65 = .ok (.aload 4, 2) := by decide +kernel
theorem dX5_lend_67 : decode cX5_lend 67 = .ok (.getfield 192, 3) := by decide +kernel
theorem dX5_lend_70 : decode cX5_lend 70 = .ok (.invokevirtual 195, 3) := by decide +kernel
theorem dX5_lend_73 : decode cX5_lend 73 = .ok (.aload 4, 2) := by decide +kernel
theorem dX5_lend_75 : decode cX5_lend 75 = .ok (.getfield 199, 3) := by decide +kernel
theorem dX5_lend_78 : decode cX5_lend 78 = .ok (.ireturn, 1) := by decide +kernel
theorem dX5_renew_0 : decode cX5_renew 0 = .ok (.aload_n 0, 1) := by decide +kernel
theorem dX5_renew_1 : decode cX5_renew 1 = .ok (.iload_n 1, 1) := by decide +kernel
theorem dX5_renew_2 : decode cX5_renew 2 = .ok (.invokevirtual 148, 3) := by decide +kernel
theorem dX5_renew_5 : decode cX5_renew 5 = .ok (.astore_n 2, 1) := by decide +kernel
theorem dX5_renew_6 : decode cX5_renew 6 = .ok (.aload_n 2, 1) := by decide +kernel
theorem dX5_renew_7 : decode cX5_renew 7 = .ok (.getfield 202, 3) := by decide +kernel
theorem dX5_renew_10 : decode cX5_renew 10 = .ok (.astore_n 3, 1) := by decide +kernel
theorem dX5_renew_11 : decode cX5_renew 11 = .ok (.aload_n 3, 1) := by decide +kernel
theorem dX5_renew_12 : decode cX5_renew 12 = .ok (.ifnull 11, 3) := by decide +kernel
theorem dX5_renew_15 : decode cX5_renew 15 = .ok (.aload_n 0, 1) := by decide +kernel
theorem dX5_renew_16 : decode cX5_renew 16 = .ok (.aload_n 2, 1) := by decide +kernel
theorem dX5_renew_17 : decode cX5_renew 17 = .ok (.invokevirtual 206, 3) := by decide +kernel
theorem dX5_renew_20 : decode cX5_renew 20 = .ok (.ifCond .ne 13, 3) := by decide +kernel
theorem dX5_renew_23 : decode cX5_renew 23 = .ok (.new 37, 3) := by decide +kernel
theorem dX5_renew_26 : decode cX5_renew 26 = .ok (.dup, 1) := by decide +kernel
theorem dX5_renew_27 : decode cX5_renew 27 = .ok (.ldc 210, 2) := by decide +kernel
theorem dX5_renew_29 : decode cX5_renew 29 = .ok (.invokespecial 41, 3) := by decide +kernel
theorem dX5_renew_32 : decode cX5_renew 32 = .ok (.athrow, 1) := by decide +kernel
theorem dX5_renew_33 : decode cX5_renew 33 = .ok (.aload_n 2, 1) := by decide +kernel
theorem dX5_renew_34 : decode cX5_renew 34 = .ok (.aload_n 0, 1) := by decide +kernel
theorem dX5_renew_35 : decode cX5_renew 35 = .ok (.getfield 181, 3) := by decide +kernel
theorem dX5_renew_38 : decode cX5_renew 38 = .ok (.aload_n 3, 1) := by decide +kernel
theorem dX5_renew_39 : decode cX5_renew 39 = .ok (.invokevirtual 184, 3) := by decide +kernel
theorem dX5_renew_42 : decode cX5_renew 42 = .ok (.iadd, 1) := by decide +kernel
theorem dX5_renew_43 : decode cX5_renew 43 = .ok (.putfield 199, 3) := by decide +kernel
theorem dX5_renew_46 : decode cX5_renew 46 = .ok (.aload_n 2, 1) := by decide +kernel
theorem dX5_renew_47 : decode cX5_renew 47 = .ok (.dup, 1) := by decide +kernel
theorem dX5_renew_48 : decode cX5_renew 48 = .ok (.getfield 212, 3) := by decide +kernel
theorem dX5_renew_51 : decode cX5_renew 51 = .ok (.iconst 1, 1) := by decide +kernel
theorem dX5_renew_52 : decode cX5_renew 52 = .ok (.iadd, 1) := by decide +kernel
theorem dX5_renew_53 : decode cX5_renew 53 = .ok (.putfield 212, 3) := by decide +kernel
theorem dX5_renew_56 : decode cX5_renew 56 = .ok (.aload_n 2, 1) := by decide +kernel
theorem dX5_renew_57 : decode cX5_renew 57 = .ok (.getfield 199, 3) := by decide +kernel
theorem dX5_renew_60 : decode cX5_renew 60 = .ok (.ireturn, 1) := by decide +kernel
theorem dX5_back_0 : decode cX5_back 0 = .ok (.aload_n 0, 1) := by decide +kernel
theorem dX5_back_1 : decode cX5_back 1 = .ok (.iload_n 1, 1) := by decide +kernel
theorem dX5_back_2 : decode cX5_back 2 = .ok (.invokevirtual 148, 3) := by decide +kernel
theorem dX5_back_5 : decode cX5_back 5 = .ok (.astore_n 2, 1) := by decide +kernel
theorem dX5_back_6 : decode cX5_back 6 = .ok (.aload_n 2, 1) := by decide +kernel
theorem dX5_back_7 : decode cX5_back 7 = .ok (.getfield 202, 3) := by decide +kernel
theorem dX5_back_10 : decode cX5_back 10 = .ok (.astore_n 3, 1) := by decide +kernel
theorem dX5_back_11 : decode cX5_back 11 = .ok (.aload_n 2, 1) := by decide +kernel
theorem dX5_back_12 : decode cX5_back 12 = .ok (.getfield 215, 3) := by decide +kernel
theorem dX5_back_15 : decode cX5_back 15 = .ok (.iconst 1, 1) := by decide +kernel
theorem dX5_back_16 : decode cX5_back 16 = .ok (.if_icmp .ne 7, 3) := by decide +kernel
theorem dX5_back_19 : decode cX5_back 19 = .ok (.aload_n 3, 1) := by decide +kernel
theorem dX5_back_20 : decode cX5_back 20 = .ok (.ifnonnull 13, 3) := by decide +kernel
theorem dX5_back_23 : decode cX5_back 23 = .ok (.new 37, 3) := by decide +kernel
theorem dX5_back_26 : decode cX5_back 26 = .ok (.dup, 1) := by decide +kernel
theorem dX5_back_27 : decode cX5_back 27 = .ok (.ldc 218, 2) := by decide +kernel
theorem dX5_back_29 : decode cX5_back 29 = .ok (.invokespecial 41, 3) := by decide +kernel
theorem dX5_back_32 : decode cX5_back 32 = .ok (.athrow, 1) := by decide +kernel
theorem dX5_back_33 : decode cX5_back 33 = .ok (.aload_n 2, 1) := by decide +kernel
theorem dX5_back_34 : decode cX5_back 34 = .ok (.aload_n 0, 1) := by decide +kernel
theorem dX5_back_35 : decode cX5_back 35 = .ok (.getfield 181, 3) := by decide +kernel
theorem dX5_back_38 : decode cX5_back 38 = .ok (.invokevirtual 220, 3) := by decide +kernel
theorem dX5_back_41 : decode cX5_back 41 = .ok (.istore 4, 2) := by decide +kernel
theorem dX5_back_43 : decode cX5_back 43 = .ok (.aload_n 3, 1) := by decide +kernel
theorem dX5_back_44 : decode cX5_back 44 = .ok (.dup, 1) := by decide +kernel
theorem dX5_back_45 : decode cX5_back 45 = .ok (.getfield 172, 3) := by decide +kernel
theorem dX5_back_48 : decode cX5_back 48 = .ok (.iload 4, 2) := by decide +kernel
theorem dX5_back_50 : decode cX5_back 50 = .ok (.iadd, 1) := by decide +kernel
theorem dX5_back_51 : decode cX5_back 51 = .ok (.putfield 172, 3) := by decide +kernel
theorem dX5_back_54 : decode cX5_back 54 = .ok (.aload_n 0, 1) := by decide +kernel
