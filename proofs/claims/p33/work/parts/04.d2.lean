theorem dX5_back_55 : decode cX5_back 55 = .ok (.aload_n 2, 1) := by decide +kernel
theorem dX5_back_56 : decode cX5_back 56 = .ok (.invokevirtual 144, 3) := by decide +kernel
theorem dX5_back_59 : decode cX5_back 59 = .ok (.iload 4, 2) := by decide +kernel
theorem dX5_back_61 : decode cX5_back 61 = .ok (.ireturn, 1) := by decide +kernel
theorem dX5_find_0 : decode cX5_find 0 = .ok (.aload_n 0, 1) := by decide +kernel
theorem dX5_find_1 : decode cX5_find 1 = .ok (.iload_n 1, 1) := by decide +kernel
theorem dX5_find_2 : decode cX5_find 2 = .ok (.invokevirtual 148, 3) := by decide +kernel
theorem dX5_find_5 : decode cX5_find 5 = .ok (.astore_n 2, 1) := by decide +kernel
theorem dX5_find_6 : decode cX5_find 6 = .ok (.aload_n 2, 1) := by decide +kernel
theorem dX5_find_7 : decode cX5_find 7 = .ok (.getfield 202, 3) := by decide +kernel
theorem dX5_find_10 : decode cX5_find 10 = .ok (.astore_n 3, 1) := by decide +kernel
theorem dX5_find_11 : decode cX5_find 11 = .ok (.aload_n 2, 1) := by decide +kernel
theorem dX5_find_12 : decode cX5_find 12 = .ok (.getfield 215, 3) := by decide +kernel
theorem dX5_find_15 : decode cX5_find 15 = .ok (.iconst 3, 1) := by decide +kernel
theorem dX5_find_16 : decode cX5_find 16 = .ok (.if_icmp .ne 7, 3) := by decide +kernel
theorem dX5_find_19 : decode cX5_find 19 = .ok (.aload_n 3, 1) := by decide +kernel
theorem dX5_find_20 : decode cX5_find 20 = .ok (.ifnonnull 13, 3) := by decide +kernel
theorem dX5_find_23 : decode cX5_find 23 = .ok (.new 37, 3) := by decide +kernel
theorem dX5_find_26 : decode cX5_find 26 = .ok (.dup, 1) := by decide +kernel
theorem dX5_find_27 : decode cX5_find 27 = .ok (.ldc 224, 2) := by decide +kernel
theorem dX5_find_29 : decode cX5_find 29 = .ok (.invokespecial 41, 3) := by decide +kernel
theorem dX5_find_32 : decode cX5_find 32 = .ok (.athrow, 1) := by decide +kernel
theorem dX5_find_33 : decode cX5_find 33 = .ok (.aload_n 3, 1) := by decide +kernel
theorem dX5_find_34 : decode cX5_find 34 = .ok (.iconst 0, 1) := by decide +kernel
theorem dX5_find_35 : decode cX5_find 35 = .ok (.aload_n 3, 1) := by decide +kernel
theorem dX5_find_36 : decode cX5_find 36 = .ok (.getfield 172, 3) := by decide +kernel
theorem dX5_find_39 : decode cX5_find 39 = .ok (.aload_n 2, 1) := by decide +kernel
theorem dX5_find_40 : decode cX5_find 40 = .ok (.getfield 226, 3) := by decide +kernel
theorem dX5_find_43 : decode cX5_find 43 = .ok (.isub, 1) := by decide +kernel
theorem dX5_find_44 : decode cX5_find 44 = .ok (.invokestatic 229, 3) := by decide +kernel
theorem dX5_find_47 : decode cX5_find 47 = .ok (.putfield 172, 3) := by decide +kernel
theorem dX5_find_50 : decode cX5_find 50 = .ok (.aload_n 0, 1) := by decide +kernel
theorem dX5_find_51 : decode cX5_find 51 = .ok (.aload_n 2, 1) := by decide +kernel
theorem dX5_find_52 : decode cX5_find 52 = .ok (.invokevirtual 144, 3) := by decide +kernel
theorem dX5_find_55 : decode cX5_find 55 = .ok (.aload_n 3, 1) := by decide +kernel
theorem dX5_find_56 : decode cX5_find 56 = .ok (.getfield 172, 3) := by decide +kernel
theorem dX5_find_59 : decode cX5_find 59 = .ok (.ireturn, 1) := by decide +kernel
theorem dX5_await_0 : decode cX5_await 0 = .ok (.aload_n 0, 1) := by decide +kernel
theorem dX5_await_1 : decode cX5_await 1 = .ok (.iload_n 1, 1) := by decide +kernel
theorem dX5_await_2 : decode cX5_await 2 = .ok (.invokevirtual 164, 3) := by decide +kernel
theorem dX5_await_5 : decode cX5_await 5 = .ok (.astore_n 3, 1) := by decide +kernel
theorem dX5_await_6 : decode cX5_await 6 = .ok (.aload_n 0, 1) := by decide +kernel
theorem dX5_await_7 : decode cX5_await 7 = .ok (.iload_n 2, 1) := by decide +kernel
theorem dX5_await_8 : decode cX5_await 8 = .ok (.invokevirtual 83, 3) := by decide +kernel
theorem dX5_await_11 : decode cX5_await 11 = .ok (.invokevirtual 95, 3) := by decide +kernel
theorem dX5_await_14 : decode cX5_await 14 = .ok (.astore 4, 2) := by decide +kernel
theorem dX5_await_16 : decode cX5_await 16 = .ok (.aload 4, 2) := by decide +kernel
theorem dX5_await_18 : decode cX5_await 18 = .ok (.getfield 235, 3) := by decide +kernel
theorem dX5_await_21 : decode cX5_await 21 = .ok (.aload_n 3, 1) := by decide +kernel
theorem dX5_await_22 : decode cX5_await 22 = .ok (.invokevirtual 239, 3) := by decide +kernel
theorem dX5_await_25 : decode cX5_await 25 = .ok (.ifCond .ne 13, 3) := by decide +kernel
theorem dX5_await_28 : decode cX5_await 28 = .ok (.aload_n 0, 1) := by decide +kernel
theorem dX5_await_29 : decode cX5_await 29 = .ok (.aload_n 3, 1) := by decide +kernel
theorem dX5_await_30 : decode cX5_await 30 = .ok (.aload 4, 2) := by decide +kernel
theorem dX5_await_32 : decode cX5_await 32 = .ok (.invokevirtual 245, 3) := by decide +kernel
theorem dX5_await_35 : decode cX5_await 35 = .ok (.ifCond .eq 13, 3) := by decide +kernel
theorem dX5_await_38 : decode cX5_await 38 = .ok (.new 37, 3) := by decide +kernel
theorem dX5_await_41 : decode cX5_await 41 = .ok (.dup, 1) := by decide +kernel
theorem dX5_await_42 : decode cX5_await 42 = .ok (.ldc 249, 2) := by decide +kernel
theorem dX5_await_44 : decode cX5_await 44 = .ok (.invokespecial 41, 3) := by decide +kernel
theorem dX5_await_47 : decode cX5_await 47 = .ok (.athrow, 1) := by decide +kernel
theorem dX5_await_48 : decode cX5_await 48 = .ok (.aload 4, 2) := by decide +kernel
theorem dX5_await_50 : decode cX5_await 50 = .ok (.getfield 235, 3) := by decide +kernel
theorem dX5_await_53 : decode cX5_await 53 = .ok (.aload_n 3, 1) := by decide +kernel
theorem dX5_await_54 : decode cX5_await 54 = .ok (.invokevirtual 251, 3) := by decide +kernel
theorem dX5_await_57 : decode cX5_await 57 = .ok (.aload_n 0, 1) := by decide +kernel
theorem dX5_await_58 : decode cX5_await 58 = .ok (.aload 4, 2) := by decide +kernel
theorem dX5_await_60 : decode cX5_await 60 = .ok (.invokevirtual 255, 3) := by decide +kernel
theorem dX5_await_63 : decode cX5_await 63 = .ok (.astore 5, 2) := by decide +kernel
theorem dX5_await_65 : decode cX5_await 65 = .ok (.aload 5, 2) := by decide +kernel
theorem dX5_await_67 : decode cX5_await 67 = .ok (.ifnonnull 5, 3) := by decide +kernel
theorem dX5_await_70 : decode cX5_await 70 = .ok (.iconst (-1), 1) := by decide +kernel
theorem dX5_await_71 : decode cX5_await 71 = .ok (.ireturn, 1) := by decide +kernel
theorem dX5_await_72 : decode cX5_await 72 = .ok (.aload_n 0, 1) := by decide +kernel
theorem dX5_await_73 : decode cX5_await 73 = .ok (.aload 5, 2) := by decide +kernel
theorem dX5_await_75 : decode cX5_await 75 = .ok (.invokevirtual 144, 3) := by decide +kernel
theorem dX5_await_78 : decode cX5_await 78 = .ok (.aload 5, 2) := by decide +kernel
theorem dX5_await_80 : decode cX5_await 80 = .ok (.getfield 259, 3) := by decide +kernel
theorem dX5_await_83 : decode cX5_await 83 = .ok (.ireturn, 1) := by decide +kernel
theorem dX5_leave_0 : decode cX5_leave 0 = .ok (.aload_n 0, 1) := by decide +kernel
theorem dX5_leave_1 : decode cX5_leave 1 = .ok (.iload_n 1, 1) := by decide +kernel
theorem dX5_leave_2 : decode cX5_leave 2 = .ok (.invokevirtual 164, 3) := by decide +kernel
theorem dX5_leave_5 : decode cX5_leave 5 = .ok (.astore_n 3, 1) := by decide +kernel
theorem dX5_leave_6 : decode cX5_leave 6 = .ok (.aload_n 0, 1) := by decide +kernel
theorem dX5_leave_7 : decode cX5_leave 7 = .ok (.iload_n 2, 1) := by decide +kernel
theorem dX5_leave_8 : decode cX5_leave 8 = .ok (.invokevirtual 83, 3) := by decide +kernel
theorem dX5_leave_11 : decode cX5_leave 11 = .ok (.invokevirtual 95, 3) := by decide +kernel
theorem dX5_leave_14 : decode cX5_leave 14 = .ok (.astore 4, 2) := by decide +kernel
theorem dX5_leave_16 : decode cX5_leave 16 = .ok (.aload 4, 2) := by decide +kernel
theorem dX5_leave_18 : decode cX5_leave 18 = .ok (.getfield 235, 3) := by decide +kernel
theorem dX5_leave_21 : decode cX5_leave 21 = .ok (.aload_n 3, 1) := by decide +kernel
theorem dX5_leave_22 : decode cX5_leave 22 = .ok (.invokevirtual 239, 3) := by decide +kernel
theorem dX5_leave_25 : decode cX5_leave 25 = .ok (.ifCond .ne 14, 3) := by decide +kernel
theorem dX5_leave_28 : decode cX5_leave 28 = .ok (.new 37, 3) := by decide +kernel
theorem dX5_leave_31 : decode cX5_leave 31 = .ok (.dup, 1) := by decide +kernel
theorem dX5_leave_32 : decode cX5_leave 32 = .ok (.ldc_w 260, 3) := by decide +kernel
theorem dX5_leave_35 : decode cX5_leave 35 = .ok (.invokespecial 41, 3) := by decide +kernel
theorem dX5_leave_38 : decode cX5_leave 38 = .ok (.athrow, 1) := by decide +kernel
theorem dX5_leave_39 : decode cX5_leave 39 = .ok (.aload_n 0, 1) := by decide +kernel
theorem dX5_leave_40 : decode cX5_leave 40 = .ok (.aload_n 3, 1) := by decide +kernel
theorem dX5_leave_41 : decode cX5_leave 41 = .ok (.aload 4, 2) := by decide +kernel
theorem dX5_leave_43 : decode cX5_leave 43 = .ok (.invokevirtual 195, 3) := by decide +kernel
theorem dX5_leave_46 : decode cX5_leave 46 = .ok (.aload 4, 2) := by decide +kernel
theorem dX5_leave_48 : decode cX5_leave 48 = .ok (.getfield 235, 3) := by decide +kernel
theorem dX5_leave_51 : decode cX5_leave 51 = .ok (.getfield 262, 3) := by decide +kernel
theorem dX5_leave_54 : decode cX5_leave 54 = .ok (.ireturn, 1) := by decide +kernel
theorem dX5_waiter_0 : decode cX5_waiter 0 = .ok (.aload_n 0, 1) := by decide +kernel
theorem dX5_waiter_1 : decode cX5_waiter 1 = .ok (.iload_n 1, 1) := by decide +kernel
theorem dX5_waiter_2 : decode cX5_waiter 2 = .ok (.invokevirtual 83, 3) := by decide +kernel
theorem dX5_waiter_5 : decode cX5_waiter 5 = .ok (.invokevirtual 95, 3) := by decide +kernel
theorem dX5_waiter_8 : decode cX5_waiter 8 = .ok (.getfield 235, 3) := by decide +kernel
theorem dX5_waiter_11 : decode cX5_waiter 11 = .ok (.iload_n 2, 1) := by decide +kernel
theorem dX5_waiter_12 : decode cX5_waiter 12 = .ok (.invokevirtual 265, 3) := by decide +kernel
theorem dX5_waiter_15 : decode cX5_waiter 15 = .ok (.astore_n 3, 1) := by decide +kernel
theorem dX5_waiter_16 : decode cX5_waiter 16 = .ok (.aload_n 3, 1) := by decide +kernel
theorem dX5_waiter_17 : decode cX5_waiter 17 = .ok (.ifnonnull 14, 3) := by decide +kernel
theorem dX5_waiter_20 : decode cX5_waiter 20 = .ok (.new 268, 3) := by decide +kernel
theorem dX5_waiter_23 : decode cX5_waiter 23 = .ok (.dup, 1) := by decide +kernel
theorem dX5_waiter_24 : decode cX5_waiter 24 = .ok (.ldc_w 270, 3) := by decide +kernel
theorem dX5_waiter_27 : decode cX5_waiter 27 = .ok (.invokespecial 272, 3) := by decide +kernel
theorem dX5_waiter_30 : decode cX5_waiter 30 = .ok (.athrow, 1) := by decide +kernel
theorem dX5_waiter_31 : decode cX5_waiter 31 = .ok (.aload_n 3, 1) := by decide +kernel
theorem dX5_waiter_32 : decode cX5_waiter 32 = .ok (.getfield 273, 3) := by decide +kernel
theorem dX5_waiter_35 : decode cX5_waiter 35 = .ok (.ireturn, 1) := by decide +kernel
theorem dX5_pass_0 : decode cX5_pass 0 = .ok (.iload_n 1, 1) := by decide +kernel
theorem dX5_pass_1 : decode cX5_pass 1 = .ok (.iconst 1, 1) := by decide +kernel
theorem dX5_pass_2 : decode cX5_pass 2 = .ok (.bipush 40, 2) := by decide +kernel
theorem dX5_pass_4 : decode cX5_pass 4 = .ok (.invokestatic 71, 3) := by decide +kernel
theorem dX5_pass_7 : decode cX5_pass 7 = .ok (.iconst 0, 1) := by decide +kernel
theorem dX5_pass_8 : decode cX5_pass 8 = .ok (.istore_n 2, 1) := by decide +kernel
theorem dX5_pass_9 : decode cX5_pass 9 = .ok (.iconst 0, 1) := by decide +kernel
theorem dX5_pass_10 : decode cX5_pass 10 = .ok (.istore_n 3, 1) := by decide +kernel
theorem dX5_pass_11 : decode cX5_pass 11 = .ok (.iload_n 3, 1) := by decide +kernel
theorem dX5_pass_12 : decode cX5_pass 12 = .ok (.iload_n 1, 1) := by decide +kernel
theorem dX5_pass_13 : decode cX5_pass 13 = .ok (.if_icmp .ge 16, 3) := by decide +kernel
theorem dX5_pass_16 : decode cX5_pass 16 = .ok (.iload_n 2, 1) := by decide +kernel
theorem dX5_pass_17 : decode cX5_pass 17 = .ok (.aload_n 0, 1) := by decide +kernel
theorem dX5_pass_18 : decode cX5_pass 18 = .ok (.invokevirtual 274, 3) := by decide +kernel
theorem dX5_pass_21 : decode cX5_pass 21 = .ok (.iadd, 1) := by decide +kernel
theorem dX5_pass_22 : decode cX5_pass 22 = .ok (.istore_n 2, 1) := by decide +kernel
theorem dX5_pass_23 : decode cX5_pass 23 = .ok (.iinc 3 1, 3) := by decide +kernel
theorem dX5_pass_26 : decode cX5_pass 26 = .ok (.goto (-15), 3) := by decide +kernel
theorem dX5_pass_29 : decode cX5_pass 29 = .ok (.iload_n 2, 1) := by decide +kernel
theorem dX5_pass_30 : decode cX5_pass 30 = .ok (.ireturn, 1) := by decide +kernel
theorem dX5_many_0 : decode cX5_many 0 = .ok (.iload_n 1, 1) := by decide +kernel
theorem dX5_many_1 : decode cX5_many 1 = .ok (.iconst 0, 1) := by decide +kernel
theorem dX5_many_2 : decode cX5_many 2 = .ok (.bipush 9, 2) := by decide +kernel
theorem dX5_many_4 : decode cX5_many 4 = .ok (.invokestatic 71, 3) := by decide +kernel
theorem dX5_many_7 : decode cX5_many 7 = .ok (.aload_n 0, 1) := by decide +kernel
theorem dX5_many_8 : decode cX5_many 8 = .ok (.iload_n 1, 1) := by decide +kernel
theorem dX5_many_9 : decode cX5_many 9 = .ok (.invokevirtual 277, 3) := by decide +kernel
theorem dX5_many_12 : decode cX5_many 12 = .ok (.ireturn, 1) := by decide +kernel
theorem dX5_meanWaits_0 : decode cX5_meanWaits 0 = .ok (.aload_n 0, 1) := by decide +kernel
theorem dX5_meanWaits_1 : decode cX5_meanWaits 1 = .ok (.getfield 156, 3) := by decide +kernel
theorem dX5_meanWaits_4 : decode cX5_meanWaits 4 = .ok (.ifCond .gt 5, 3) := by decide +kernel
theorem dX5_meanWaits_7 : decode cX5_meanWaits 7 = .ok (.dconst 0, 1) := by decide +kernel
theorem dX5_meanWaits_8 : decode cX5_meanWaits 8 = .ok (.dreturn, 1) := by decide +kernel
theorem dX5_meanWaits_9 : decode cX5_meanWaits 9 = .ok (.iconst 0, 1) := by decide +kernel
theorem dX5_meanWaits_10 : decode cX5_meanWaits 10 = .ok (.istore_n 1, 1) := by decide +kernel
theorem dX5_meanWaits_11 : decode cX5_meanWaits 11 = .ok (.aload_n 0, 1) := by decide +kernel
theorem dX5_meanWaits_12 : decode cX5_meanWaits 12 = .ok (.getfield 17, 3) := by decide +kernel
theorem dX5_meanWaits_15 : decode cX5_meanWaits 15 = .ok (.astore_n 2, 1) := by decide +kernel
theorem dX5_meanWaits_16 : decode cX5_meanWaits 16 = .ok (.aload_n 2, 1) := by decide +kernel
theorem dX5_meanWaits_17 : decode cX5_meanWaits 17 = .ok (.arraylength, 1) := by decide +kernel
theorem dX5_meanWaits_18 : decode cX5_meanWaits 18 = .ok (.istore_n 3, 1) := by decide +kernel
theorem dX5_meanWaits_19 : decode cX5_meanWaits 19 = .ok (.iconst 0, 1) := by decide +kernel
theorem dX5_meanWaits_20 : decode cX5_meanWaits 20 = .ok (.istore 4, 2) := by decide +kernel
theorem dX5_meanWaits_22 : decode cX5_meanWaits 22 = .ok (.iload 4, 2) := by decide +kernel
theorem dX5_meanWaits_24 : decode cX5_meanWaits 24 = .ok (.iload_n 3, 1) := by decide +kernel
theorem dX5_meanWaits_25 : decode cX5_meanWaits 25 = .ok (.if_icmp .ge 31, 3) := by decide +kernel
theorem dX5_meanWaits_28 : decode cX5_meanWaits 28 = .ok (.aload_n 2, 1) := by decide +kernel
theorem dX5_meanWaits_29 : decode cX5_meanWaits 29 = .ok (.iload 4, 2) := by decide +kernel
theorem dX5_meanWaits_31 : decode cX5_meanWaits 31 = .ok (.aaload, 1) := by decide +kernel
theorem dX5_meanWaits_32 : decode cX5_meanWaits 32 = .ok (.astore 5, 2) := by decide +kernel
theorem dX5_meanWaits_34 : decode cX5_meanWaits 34 = .ok (.aload 5, 2) := by decide +kernel
theorem dX5_meanWaits_36 : decode cX5_meanWaits 36 = .ok (.ifnull 14, 3) := by decide +kernel
theorem dX5_meanWaits_39 : decode cX5_meanWaits 39 = .ok (.iload_n 1, 1) := by decide +kernel
theorem dX5_meanWaits_40 : decode cX5_meanWaits 40 = .ok (.aload 5, 2) := by decide +kernel
theorem dX5_meanWaits_42 : decode cX5_meanWaits 42 = .ok (.getfield 235, 3) := by decide +kernel
theorem dX5_meanWaits_45 : decode cX5_meanWaits 45 = .ok (.getfield 262, 3) := by decide +kernel
theorem dX5_meanWaits_48 : decode cX5_meanWaits 48 = .ok (.iadd, 1) := by decide +kernel
theorem dX5_meanWaits_49 : decode cX5_meanWaits 49 = .ok (.istore_n 1, 1) := by decide +kernel
theorem dX5_meanWaits_50 : decode cX5_meanWaits 50 = .ok (.iinc 4 1, 3) := by decide +kernel
theorem dX5_meanWaits_53 : decode cX5_meanWaits 53 = .ok (.goto (-31), 3) := by decide +kernel
theorem dX5_meanWaits_56 : decode cX5_meanWaits 56 = .ok (.iload_n 1, 1) := by decide +kernel
theorem dX5_meanWaits_57 : decode cX5_meanWaits 57 = .ok (.i2d, 1) := by decide +kernel
theorem dX5_meanWaits_58 : decode cX5_meanWaits 58 = .ok (.aload_n 0, 1) := by decide +kernel
theorem dX5_meanWaits_59 : decode cX5_meanWaits 59 = .ok (.getfield 156, 3) := by decide +kernel
theorem dX5_meanWaits_62 : decode cX5_meanWaits 62 = .ok (.i2d, 1) := by decide +kernel
theorem dX5_meanWaits_63 : decode cX5_meanWaits 63 = .ok (.ddiv, 1) := by decide +kernel
theorem dX5_meanWaits_64 : decode cX5_meanWaits 64 = .ok (.dreturn, 1) := by decide +kernel
theorem dX5_fineIn_0 : decode cX5_fineIn 0 = .ok (.aload_n 0, 1) := by decide +kernel
theorem dX5_fineIn_1 : decode cX5_fineIn 1 = .ok (.iload_n 1, 1) := by decide +kernel
theorem dX5_fineIn_2 : decode cX5_fineIn 2 = .ok (.invokevirtual 148, 3) := by decide +kernel
theorem dX5_fineIn_5 : decode cX5_fineIn 5 = .ok (.astore_n 3, 1) := by decide +kernel
theorem dX5_fineIn_6 : decode cX5_fineIn 6 = .ok (.iload_n 2, 1) := by decide +kernel
theorem dX5_fineIn_7 : decode cX5_fineIn 7 = .ok (.iconst 0, 1) := by decide +kernel
theorem dX5_fineIn_8 : decode cX5_fineIn 8 = .ok (.bipush 60, 2) := by decide +kernel
theorem dX5_fineIn_10 : decode cX5_fineIn 10 = .ok (.invokestatic 71, 3) := by decide +kernel
theorem dX5_fineIn_13 : decode cX5_fineIn 13 = .ok (.aload_n 3, 1) := by decide +kernel
theorem dX5_fineIn_14 : decode cX5_fineIn 14 = .ok (.getfield 215, 3) := by decide +kernel
theorem dX5_fineIn_17 : decode cX5_fineIn 17 = .ok (.iconst 1, 1) := by decide +kernel
theorem dX5_fineIn_18 : decode cX5_fineIn 18 = .ok (.if_icmp .eq 13, 3) := by decide +kernel
theorem dX5_fineIn_21 : decode cX5_fineIn 21 = .ok (.new 37, 3) := by decide +kernel
theorem dX5_fineIn_24 : decode cX5_fineIn 24 = .ok (.dup, 1) := by decide +kernel
theorem dX5_fineIn_25 : decode cX5_fineIn 25 = .ok (.ldc 218, 2) := by decide +kernel
theorem dX5_fineIn_27 : decode cX5_fineIn 27 = .ok (.invokespecial 41, 3) := by decide +kernel
theorem dX5_fineIn_30 : decode cX5_fineIn 30 = .ok (.athrow, 1) := by decide +kernel
theorem dX5_fineIn_31 : decode cX5_fineIn 31 = .ok (.aload_n 3, 1) := by decide +kernel
theorem dX5_fineIn_32 : decode cX5_fineIn 32 = .ok (.aload_n 0, 1) := by decide +kernel
theorem dX5_fineIn_33 : decode cX5_fineIn 33 = .ok (.getfield 181, 3) := by decide +kernel
theorem dX5_fineIn_36 : decode cX5_fineIn 36 = .ok (.iload_n 2, 1) := by decide +kernel
theorem dX5_fineIn_37 : decode cX5_fineIn 37 = .ok (.iadd, 1) := by decide +kernel
theorem dX5_fineIn_38 : decode cX5_fineIn 38 = .ok (.invokevirtual 280, 3) := by decide +kernel
theorem dX5_fineIn_41 : decode cX5_fineIn 41 = .ok (.ifCond .eq 10, 3) := by decide +kernel
theorem dX5_fineIn_44 : decode cX5_fineIn 44 = .ok (.aload_n 3, 1) := by decide +kernel
theorem dX5_fineIn_45 : decode cX5_fineIn 45 = .ok (.invokevirtual 283, 3) := by decide +kernel
theorem dX5_fineIn_48 : decode cX5_fineIn 48 = .ok (.goto 13, 3) := by decide +kernel
theorem dX5_fineIn_51 : decode cX5_fineIn 51 = .ok (.aload_n 3, 1) := by decide +kernel
theorem dX5_fineIn_52 : decode cX5_fineIn 52 = .ok (.aload_n 0, 1) := by decide +kernel
theorem dX5_fineIn_53 : decode cX5_fineIn 53 = .ok (.getfield 181, 3) := by decide +kernel
theorem dX5_fineIn_56 : decode cX5_fineIn 56 = .ok (.iload_n 2, 1) := by decide +kernel
theorem dX5_fineIn_57 : decode cX5_fineIn 57 = .ok (.iadd, 1) := by decide +kernel
theorem dX5_fineIn_58 : decode cX5_fineIn 58 = .ok (.invokevirtual 220, 3) := by decide +kernel
theorem dX5_fineIn_61 : decode cX5_fineIn 61 = .ok (.ireturn, 1) := by decide +kernel
theorem dX5_soon_0 : decode cX5_soon 0 = .ok (.aload_n 0, 1) := by decide +kernel
theorem dX5_soon_1 : decode cX5_soon 1 = .ok (.iload_n 1, 1) := by decide +kernel
theorem dX5_soon_2 : decode cX5_soon 2 = .ok (.invokevirtual 164, 3) := by decide +kernel
theorem dX5_soon_5 : decode cX5_soon 5 = .ok (.astore_n 3, 1) := by decide +kernel
theorem dX5_soon_6 : decode cX5_soon 6 = .ok (.aload_n 0, 1) := by decide +kernel
theorem dX5_soon_7 : decode cX5_soon 7 = .ok (.iload_n 2, 1) := by decide +kernel
theorem dX5_soon_8 : decode cX5_soon 8 = .ok (.invokevirtual 83, 3) := by decide +kernel
theorem dX5_soon_11 : decode cX5_soon 11 = .ok (.invokevirtual 95, 3) := by decide +kernel
theorem dX5_soon_14 : decode cX5_soon 14 = .ok (.astore 4, 2) := by decide +kernel
theorem dX5_soon_16 : decode cX5_soon 16 = .ok (.aload 4, 2) := by decide +kernel
theorem dX5_soon_18 : decode cX5_soon 18 = .ok (.getfield 235, 3) := by decide +kernel
theorem dX5_soon_21 : decode cX5_soon 21 = .ok (.aload_n 3, 1) := by decide +kernel
theorem dX5_soon_22 : decode cX5_soon 22 = .ok (.invokevirtual 239, 3) := by decide +kernel
theorem dX5_soon_25 : decode cX5_soon 25 = .ok (.ifCond .ne 14, 3) := by decide +kernel
theorem dX5_soon_28 : decode cX5_soon 28 = .ok (.new 37, 3) := by decide +kernel
theorem dX5_soon_31 : decode cX5_soon 31 = .ok (.dup, 1) := by decide +kernel
theorem dX5_soon_32 : decode cX5_soon 32 = .ok (.ldc_w 260, 3) := by decide +kernel
theorem dX5_soon_35 : decode cX5_soon 35 = .ok (.invokespecial 41, 3) := by decide +kernel
theorem dX5_soon_38 : decode cX5_soon 38 = .ok (.athrow, 1) := by decide +kernel
theorem dX5_soon_39 : decode cX5_soon 39 = .ok (.aload_n 0, 1) := by decide +kernel
theorem dX5_soon_40 : decode cX5_soon 40 = .ok (.aload_n 3, 1) := by decide +kernel
theorem dX5_soon_41 : decode cX5_soon 41 = .ok (.aload 4, 2) := by decide +kernel
theorem dX5_soon_43 : decode cX5_soon 43 = .ok (.invokevirtual 286, 3) := by decide +kernel
theorem dX5_soon_46 : decode cX5_soon 46 = .ok (.ifnull 5, 3) := by decide +kernel
theorem dX5_soon_49 : decode cX5_soon 49 = .ok (.iconst 0, 1) := by decide +kernel
theorem dX5_soon_50 : decode cX5_soon 50 = .ok (.ireturn, 1) := by decide +kernel
theorem dX5_soon_51 : decode cX5_soon 51 = .ok (.aload_n 0, 1) := by decide +kernel
theorem dX5_soon_52 : decode cX5_soon 52 = .ok (.aload_n 3, 1) := by decide +kernel
theorem dX5_soon_53 : decode cX5_soon 53 = .ok (.aload 4, 2) := by decide +kernel
theorem dX5_soon_55 : decode cX5_soon 55 = .ok (.invokevirtual 290, 3) := by decide +kernel
theorem dX5_soon_58 : decode cX5_soon 58 = .ok (.ireturn, 1) := by decide +kernel
theorem dX5_mayBorrow_0 : decode cX5_mayBorrow 0 = .ok (.aload_n 0, 1) := by decide +kernel
theorem dX5_mayBorrow_1 : decode cX5_mayBorrow 1 = .ok (.aload_n 0, 1) := by decide +kernel
theorem dX5_mayBorrow_2 : decode cX5_mayBorrow 2 = .ok (.iload_n 1, 1) := by decide +kernel
theorem dX5_mayBorrow_3 : decode cX5_mayBorrow 3 = .ok (.invokevirtual 164, 3) := by decide +kernel
theorem dX5_mayBorrow_6 : decode cX5_mayBorrow 6 = .ok (.invokevirtual 294, 3) := by decide +kernel
theorem dX5_mayBorrow_9 : decode cX5_mayBorrow 9 = .ok (.ireturn, 1) := by decide +kernel
theorem dX5_lostIn_0 : decode cX5_lostIn 0 = .ok (.iload_n 1, 1) := by decide +kernel
theorem dX5_lostIn_1 : decode cX5_lostIn 1 = .ok (.iconst 1, 1) := by decide +kernel
theorem dX5_lostIn_2 : decode cX5_lostIn 2 = .ok (.bipush 40, 2) := by decide +kernel
theorem dX5_lostIn_4 : decode cX5_lostIn 4 = .ok (.invokestatic 71, 3) := by decide +kernel
theorem dX5_lostIn_7 : decode cX5_lostIn 7 = .ok (.aload_n 0, 1) := by decide +kernel
theorem dX5_lostIn_8 : decode cX5_lostIn 8 = .ok (.iload_n 1, 1) := by decide +kernel
theorem dX5_lostIn_9 : decode cX5_lostIn 9 = .ok (.invokevirtual 298, 3) := by decide +kernel
theorem dX5_lostIn_12 : decode cX5_lostIn 12 = .ok (.ireturn, 1) := by decide +kernel
theorem dX5_digest_0 : decode cX5_digest 0 = .ok (.ldc2_w 301, 3) := by decide +kernel
theorem dX5_digest_3 : decode cX5_digest 3 = .ok (.lstore_n 1, 1) := by decide +kernel
theorem dX5_digest_4 : decode cX5_digest 4 = .ok (.iconst 0, 1) := by decide +kernel
theorem dX5_digest_5 : decode cX5_digest 5 = .ok (.istore_n 3, 1) := by decide +kernel
theorem dX5_digest_6 : decode cX5_digest 6 = .ok (.iload_n 3, 1) := by decide +kernel
theorem dX5_digest_7 : decode cX5_digest 7 = .ok (.bipush 9, 2) := by decide +kernel
theorem dX5_digest_9 : decode cX5_digest 9 = .ok (.if_icmp .gt 19, 3) := by decide +kernel
theorem dX5_digest_12 : decode cX5_digest 12 = .ok (.lload_n 1, 1) := by decide +kernel
theorem dX5_digest_13 : decode cX5_digest 13 = .ok (.aload_n 0, 1) := by decide +kernel
theorem dX5_digest_14 : decode cX5_digest 14 = .ok (.iload_n 3, 1) := by decide +kernel
theorem dX5_digest_15 : decode cX5_digest 15 = .ok (.invokevirtual 277, 3) := by decide +kernel
theorem dX5_digest_18 : decode cX5_digest 18 = .ok (.invokestatic 303, 3) := by decide +kernel
theorem dX5_digest_21 : decode cX5_digest 21 = .ok (.lstore_n 1, 1) := by decide +kernel
theorem dX5_digest_22 : decode cX5_digest 22 = .ok (.iinc 3 1, 3) := by decide +kernel
theorem dX5_digest_25 : decode cX5_digest 25 = .ok (.goto (-19), 3) := by decide +kernel
theorem dX5_digest_28 : decode cX5_digest 28 = .ok (.aload_n 0, 1) := by decide +kernel
theorem dX5_digest_29 : decode cX5_digest 29 = .ok (.getfield 11, 3) := by decide +kernel
theorem dX5_digest_32 : decode cX5_digest 32 = .ok (.astore_n 3, 1) := by decide +kernel
theorem dX5_digest_33 : decode cX5_digest 33 = .ok (.aload_n 3, 1) := by decide +kernel
theorem dX5_digest_34 : decode cX5_digest 34 = .ok (.arraylength, 1) := by decide +kernel
theorem dX5_digest_35 : decode cX5_digest 35 = .ok (.istore 4, 2) := by decide +kernel
theorem dX5_digest_37 : decode cX5_digest 37 = .ok (.iconst 0, 1) := by decide +kernel
theorem dX5_digest_38 : decode cX5_digest 38 = .ok (.istore 5, 2) := by decide +kernel
theorem dX5_digest_40 : decode cX5_digest 40 = .ok (.iload 5, 2) := by decide +kernel
theorem dX5_digest_42 : decode cX5_digest 42 = .ok (.iload 4, 2) := by decide +kernel
theorem dX5_digest_44 : decode cX5_digest 44 = .ok (.if_icmp .ge 33, 3) := by decide +kernel
theorem dX5_digest_47 : decode cX5_digest 47 = .ok (.aload_n 3, 1) := by decide +kernel
theorem dX5_digest_48 : decode cX5_digest 48 = .ok (.iload 5, 2) := by decide +kernel
theorem dX5_digest_50 : decode cX5_digest 50 = .ok (.aaload, 1) := by decide +kernel
theorem dX5_digest_51 : decode cX5_digest 51 = .ok (.astore 6, 2) := by decide +kernel
theorem dX5_digest_53 : decode cX5_digest 53 = .ok (.aload 6, 2) := by decide +kernel
theorem dX5_digest_55 : decode cX5_digest 55 = .ok (.ifnull 16, 3) := by decide +kernel
theorem dX5_digest_58 : decode cX5_digest 58 = .ok (.lload_n 1, 1) := by decide +kernel
theorem dX5_digest_59 : decode cX5_digest 59 = .ok (.aload 6, 2) := by decide +kernel
theorem dX5_digest_61 : decode cX5_digest 61 = .ok (.invokevirtual 61, 3) := by decide +kernel
theorem dX5_digest_64 : decode cX5_digest 64 = .ok (.getfield 65, 3) := by decide +kernel
theorem dX5_digest_67 : decode cX5_digest 67 = .ok (.invokestatic 303, 3) := by decide +kernel
theorem dX5_digest_70 : decode cX5_digest 70 = .ok (.lstore_n 1, 1) := by decide +kernel
theorem dX5_digest_71 : decode cX5_digest 71 = .ok (.iinc 5 1, 3) := by decide +kernel
theorem dX5_digest_74 : decode cX5_digest 74 = .ok (.goto (-34), 3) := by decide +kernel
theorem dX5_digest_77 : decode cX5_digest 77 = .ok (.aload_n 0, 1) := by decide +kernel
theorem dX5_digest_78 : decode cX5_digest 78 = .ok (.getfield 17, 3) := by decide +kernel
theorem dX5_digest_81 : decode cX5_digest 81 = .ok (.astore_n 3, 1) := by decide +kernel
theorem dX5_digest_82 : decode cX5_digest 82 = .ok (.aload_n 3, 1) := by decide +kernel
theorem dX5_digest_83 : decode cX5_digest 83 = .ok (.arraylength, 1) := by decide +kernel
theorem dX5_digest_84 : decode cX5_digest 84 = .ok (.istore 4, 2) := by decide +kernel
theorem dX5_digest_86 : decode cX5_digest 86 = .ok (.iconst 0, 1) := by decide +kernel
theorem dX5_digest_87 : decode cX5_digest 87 = .ok (.istore 5, 2) := by decide +kernel
theorem dX5_digest_89 : decode cX5_digest 89 = .ok (.iload 5, 2) := by decide +kernel
theorem dX5_digest_91 : decode cX5_digest 91 = .ok (.iload 4, 2) := by decide +kernel
theorem dX5_digest_93 : decode cX5_digest 93 = .ok (.if_icmp .ge 28, 3) := by decide +kernel
theorem dX5_digest_96 : decode cX5_digest 96 = .ok (.aload_n 3, 1) := by decide +kernel
theorem dX5_digest_97 : decode cX5_digest 97 = .ok (.iload 5, 2) := by decide +kernel
theorem dX5_digest_99 : decode cX5_digest 99 = .ok (.aaload, 1) := by decide +kernel
theorem dX5_digest_100 : decode cX5_digest 100 = .ok (.astore 6, 2) := by decide +kernel
theorem dX5_digest_102 : decode cX5_digest 102 = .ok (.aload 6, 2) := by decide +kernel
theorem dX5_digest_104 : decode cX5_digest 104 = .ok (.ifnull 11, 3) := by decide +kernel
theorem dX5_digest_107 : decode cX5_digest 107 = .ok (.aload_n 0, 1) := by decide +kernel
theorem dX5_digest_108 : decode cX5_digest 108 = .ok (.lload_n 1, 1) := by decide +kernel
theorem dX5_digest_109 : decode cX5_digest 109 = .ok (.aload 6, 2) := by decide +kernel
theorem dX5_digest_111 : decode cX5_digest 111 = .ok (.invokevirtual 307, 3) := by decide +kernel
theorem dX5_digest_114 : decode cX5_digest 114 = .ok (.lstore_n 1, 1) := by decide +kernel
theorem dX5_digest_115 : decode cX5_digest 115 = .ok (.iinc 5 1, 3) := by decide +kernel
theorem dX5_digest_118 : decode cX5_digest 118 = .ok (.goto (-29), 3) := by decide +kernel
theorem dX5_digest_121 : decode cX5_digest 121 = .ok (.aload_n 0, 1) := by decide +kernel
theorem dX5_digest_122 : decode cX5_digest 122 = .ok (.getfield 23, 3) := by decide +kernel
theorem dX5_digest_125 : decode cX5_digest 125 = .ok (.astore_n 3, 1) := by decide +kernel
theorem dX5_digest_126 : decode cX5_digest 126 = .ok (.aload_n 3, 1) := by decide +kernel
theorem dX5_digest_127 : decode cX5_digest 127 = .ok (.arraylength, 1) := by decide +kernel
theorem dX5_digest_128 : decode cX5_digest 128 = .ok (.istore 4, 2) := by decide +kernel
theorem dX5_digest_130 : decode cX5_digest 130 = .ok (.iconst 0, 1) := by decide +kernel
theorem dX5_digest_131 : decode cX5_digest 131 = .ok (.istore 5, 2) := by decide +kernel
theorem dX5_digest_133 : decode cX5_digest 133 = .ok (.iload 5, 2) := by decide +kernel
theorem dX5_digest_135 : decode cX5_digest 135 = .ok (.iload 4, 2) := by decide +kernel
theorem dX5_digest_137 : decode cX5_digest 137 = .ok (.if_icmp .ge 28, 3) := by decide +kernel
theorem dX5_digest_140 : decode cX5_digest 140 = .ok (.aload_n 3, 1) := by decide +kernel
theorem dX5_digest_141 : decode cX5_digest 141 = .ok (.iload 5, 2) := by decide +kernel
theorem dX5_digest_143 : decode cX5_digest 143 = .ok (.aaload, 1) := by decide +kernel
theorem dX5_digest_144 : decode cX5_digest 144 = .ok (.astore 6, 2) := by decide +kernel
theorem dX5_digest_146 : decode cX5_digest 146 = .ok (.aload 6, 2) := by decide +kernel
theorem dX5_digest_148 : decode cX5_digest 148 = .ok (.ifnull 11, 3) := by decide +kernel
theorem dX5_digest_151 : decode cX5_digest 151 = .ok (.aload_n 0, 1) := by decide +kernel
theorem dX5_digest_152 : decode cX5_digest 152 = .ok (.lload_n 1, 1) := by decide +kernel
theorem dX5_digest_153 : decode cX5_digest 153 = .ok (.aload 6, 2) := by decide +kernel
theorem dX5_digest_155 : decode cX5_digest 155 = .ok (.invokevirtual 311, 3) := by decide +kernel
theorem dX5_digest_158 : decode cX5_digest 158 = .ok (.lstore_n 1, 1) := by decide +kernel
theorem dX5_digest_159 : decode cX5_digest 159 = .ok (.iinc 5 1, 3) := by decide +kernel
theorem dX5_digest_162 : decode cX5_digest 162 = .ok (.goto (-29), 3) := by decide +kernel
theorem dX5_digest_165 : decode cX5_digest 165 = .ok (.aload_n 0, 1) := by decide +kernel
theorem dX5_digest_166 : decode cX5_digest 166 = .ok (.getfield 29, 3) := by decide +kernel
theorem dX5_digest_169 : decode cX5_digest 169 = .ok (.astore_n 3, 1) := by decide +kernel
theorem dX5_digest_170 : decode cX5_digest 170 = .ok (.aload_n 3, 1) := by decide +kernel
theorem dX5_digest_171 : decode cX5_digest 171 = .ok (.arraylength, 1) := by decide +kernel
theorem dX5_digest_172 : decode cX5_digest 172 = .ok (.istore 4, 2) := by decide +kernel
theorem dX5_digest_174 : decode cX5_digest 174 = .ok (.iconst 0, 1) := by decide +kernel
theorem dX5_digest_175 : decode cX5_digest 175 = .ok (.istore 5, 2) := by decide +kernel
theorem dX5_digest_177 : decode cX5_digest 177 = .ok (.iload 5, 2) := by decide +kernel
theorem dX5_digest_179 : decode cX5_digest 179 = .ok (.iload 4, 2) := by decide +kernel
theorem dX5_digest_181 : decode cX5_digest 181 = .ok (.if_icmp .ge 28, 3) := by decide +kernel
theorem dX5_digest_184 : decode cX5_digest 184 = .ok (.aload_n 3, 1) := by decide +kernel
theorem dX5_digest_185 : decode cX5_digest 185 = .ok (.iload 5, 2) := by decide +kernel
theorem dX5_digest_187 : decode cX5_digest 187 = .ok (.aaload, 1) := by decide +kernel
theorem dX5_digest_188 : decode cX5_digest 188 = .ok (.astore 6, 2) := by decide +kernel
theorem dX5_digest_190 : decode cX5_digest 190 = .ok (.aload 6, 2) := by decide +kernel
theorem dX5_digest_192 : decode cX5_digest 192 = .ok (.ifnull 11, 3) := by decide +kernel
theorem dX5_digest_195 : decode cX5_digest 195 = .ok (.aload_n 0, 1) := by decide +kernel
theorem dX5_digest_196 : decode cX5_digest 196 = .ok (.lload_n 1, 1) := by decide +kernel
theorem dX5_digest_197 : decode cX5_digest 197 = .ok (.aload 6, 2) := by decide +kernel
theorem dX5_digest_199 : decode cX5_digest 199 = .ok (.invokevirtual 315, 3) := by decide +kernel
theorem dX5_digest_202 : decode cX5_digest 202 = .ok (.lstore_n 1, 1) := by decide +kernel
theorem dX5_digest_203 : decode cX5_digest 203 = .ok (.iinc 5 1, 3) := by decide +kernel
theorem dX5_digest_206 : decode cX5_digest 206 = .ok (.goto (-29), 3) := by decide +kernel
theorem dX5_digest_209 : decode cX5_digest 209 = .ok (.lload_n 1, 1) := by decide +kernel
theorem dX5_digest_210 : decode cX5_digest 210 = .ok (.aload_n 0, 1) := by decide +kernel
theorem dX5_digest_211 : decode cX5_digest 211 = .ok (.bipush 30, 2) := by decide +kernel
theorem dX5_digest_213 : decode cX5_digest 213 = .ok (.invokevirtual 298, 3) := by decide +kernel
theorem dX5_digest_216 : decode cX5_digest 216 = .ok (.invokestatic 303, 3) := by decide +kernel
theorem dX5_digest_219 : decode cX5_digest 219 = .ok (.lreturn, 1) := by decide +kernel
theorem dX5_knownName_0 : decode cX5_knownName 0 = .ok (.iload_n 1, 1) := by decide +kernel
theorem dX5_knownName_1 : decode cX5_knownName 1 = .ok (.ifCond .lt 21, 3) := by decide +kernel
theorem dX5_knownName_4 : decode cX5_knownName 4 = .ok (.iload_n 1, 1) := by decide +kernel
theorem dX5_knownName_5 : decode cX5_knownName 5 = .ok (.aload_n 0, 1) := by decide +kernel
theorem dX5_knownName_6 : decode cX5_knownName 6 = .ok (.getfield 11, 3) := by decide +kernel
theorem dX5_knownName_9 : decode cX5_knownName 9 = .ok (.arraylength, 1) := by decide +kernel
theorem dX5_knownName_10 : decode cX5_knownName 10 = .ok (.if_icmp .ge 12, 3) := by decide +kernel
theorem dX5_knownName_13 : decode cX5_knownName 13 = .ok (.aload_n 0, 1) := by decide +kernel
theorem dX5_knownName_14 : decode cX5_knownName 14 = .ok (.getfield 11, 3) := by decide +kernel
theorem dX5_knownName_17 : decode cX5_knownName 17 = .ok (.iload_n 1, 1) := by decide +kernel
theorem dX5_knownName_18 : decode cX5_knownName 18 = .ok (.aaload, 1) := by decide +kernel
theorem dX5_knownName_19 : decode cX5_knownName 19 = .ok (.goto 4, 3) := by decide +kernel
theorem dX5_knownName_22 : decode cX5_knownName 22 = .ok (.aconst_null, 1) := by decide +kernel
theorem dX5_knownName_23 : decode cX5_knownName 23 = .ok (.astore_n 2, 1) := by decide +kernel
theorem dX5_knownName_24 : decode cX5_knownName 24 = .ok (.aload_n 2, 1) := by decide +kernel
theorem dX5_knownName_25 : decode cX5_knownName 25 = .ok (.ifnonnull 14, 3) := by decide +kernel
theorem dX5_knownName_28 : decode cX5_knownName 28 = .ok (.new 268, 3) := by decide +kernel
theorem dX5_knownName_31 : decode cX5_knownName 31 = .ok (.dup, 1) := by decide +kernel
theorem dX5_knownName_32 : decode cX5_knownName 32 = .ok (.ldc_w 319, 3) := by decide +kernel
theorem dX5_knownName_35 : decode cX5_knownName 35 = .ok (.invokespecial 272, 3) := by decide +kernel
theorem dX5_knownName_38 : decode cX5_knownName 38 = .ok (.athrow, 1) := by decide +kernel
theorem dX5_knownName_39 : decode cX5_knownName 39 = .ok (.aload_n 2, 1) := by decide +kernel
theorem dX5_knownName_40 : decode cX5_knownName 40 = .ok (.areturn, 1) := by decide +kernel
theorem dX5_knownNameOrNull_0 : decode cX5_knownNameOrNull 0 = .ok (.iload_n 1, 1) := by decide +kernel
theorem dX5_knownNameOrNull_1 : decode cX5_knownNameOrNull 1 = .ok (.iconst (-1), 1) := by decide +kernel
theorem dX5_knownNameOrNull_2 : decode cX5_knownNameOrNull 2 = .ok (.if_icmp .ne 7, 3) := by decide +kernel
theorem dX5_knownNameOrNull_5 : decode cX5_knownNameOrNull 5 = .ok (.aconst_null, 1) := by decide +kernel
theorem dX5_knownNameOrNull_6 : decode cX5_knownNameOrNull 6 = .ok (.goto 8, 3) := by decide +kernel
theorem dX5_knownNameOrNull_9 : decode cX5_knownNameOrNull 9 = .ok (.aload_n 0, 1) := by decide +kernel
theorem dX5_knownNameOrNull_10 : decode cX5_knownNameOrNull 10 = .ok (.iload_n 1, 1) := by decide +kernel
theorem dX5_knownNameOrNull_11 : decode cX5_knownNameOrNull 11 = .ok (.invokevirtual 47, 3) := by decide +kernel
theorem dX5_knownNameOrNull_14 : decode cX5_knownNameOrNull 14 = .ok (.areturn, 1) := by decide +kernel
theorem dX5_knownRecord_0 : decode cX5_knownRecord 0 = .ok (.iload_n 1, 1) := by decide +kernel
theorem dX5_knownRecord_1 : decode cX5_knownRecord 1 = .ok (.ifCond .lt 21, 3) := by decide +kernel
theorem dX5_knownRecord_4 : decode cX5_knownRecord 4 = .ok (.iload_n 1, 1) := by decide +kernel
theorem dX5_knownRecord_5 : decode cX5_knownRecord 5 = .ok (.aload_n 0, 1) := by decide +kernel
theorem dX5_knownRecord_6 : decode cX5_knownRecord 6 = .ok (.getfield 17, 3) := by decide +kernel
theorem dX5_knownRecord_9 : decode cX5_knownRecord 9 = .ok (.arraylength, 1) := by decide +kernel
theorem dX5_knownRecord_10 : decode cX5_knownRecord 10 = .ok (.if_icmp .ge 12, 3) := by decide +kernel
theorem dX5_knownRecord_13 : decode cX5_knownRecord 13 = .ok (.aload_n 0, 1) := by decide +kernel
theorem dX5_knownRecord_14 : decode cX5_knownRecord 14 = .ok (.getfield 17, 3) := by decide +kernel
theorem dX5_knownRecord_17 : decode cX5_knownRecord 17 = .ok (.iload_n 1, 1) := by decide +kernel
theorem dX5_knownRecord_18 : decode cX5_knownRecord 18 = .ok (.aaload, 1) := by decide +kernel
theorem dX5_knownRecord_19 : decode cX5_knownRecord 19 = .ok (.goto 4, 3) := by decide +kernel
theorem dX5_knownRecord_22 : decode cX5_knownRecord 22 = .ok (.aconst_null, 1) := by decide +kernel
theorem dX5_knownRecord_23 : decode cX5_knownRecord 23 = .ok (.astore_n 2, 1) := by decide +kernel
theorem dX5_knownRecord_24 : decode cX5_knownRecord 24 = .ok (.aload_n 2, 1) := by decide +kernel
theorem dX5_knownRecord_25 : decode cX5_knownRecord 25 = .ok (.ifnonnull 14, 3) := by decide +kernel
theorem dX5_knownRecord_28 : decode cX5_knownRecord 28 = .ok (.new 268, 3) := by decide +kernel
theorem dX5_knownRecord_31 : decode cX5_knownRecord 31 = .ok (.dup, 1) := by decide +kernel
theorem dX5_knownRecord_32 : decode cX5_knownRecord 32 = .ok (.ldc_w 321, 3) := by decide +kernel
theorem dX5_knownRecord_35 : decode cX5_knownRecord 35 = .ok (.invokespecial 272, 3) := by decide +kernel
theorem dX5_knownRecord_38 : decode cX5_knownRecord 38 = .ok (.athrow, 1) := by decide +kernel
theorem dX5_knownRecord_39 : decode cX5_knownRecord 39 = .ok (.aload_n 2, 1) := by decide +kernel
theorem dX5_knownRecord_40 : decode cX5_knownRecord 40 = .ok (.areturn, 1) := by decide +kernel
theorem dX5_knownCopy_0 : decode cX5_knownCopy 0 = .ok (.iload_n 1, 1) := by decide +kernel
theorem dX5_knownCopy_1 : decode cX5_knownCopy 1 = .ok (.ifCond .lt 21, 3) := by decide +kernel
theorem dX5_knownCopy_4 : decode cX5_knownCopy 4 = .ok (.iload_n 1, 1) := by decide +kernel
theorem dX5_knownCopy_5 : decode cX5_knownCopy 5 = .ok (.aload_n 0, 1) := by decide +kernel
theorem dX5_knownCopy_6 : decode cX5_knownCopy 6 = .ok (.getfield 23, 3) := by decide +kernel
theorem dX5_knownCopy_9 : decode cX5_knownCopy 9 = .ok (.arraylength, 1) := by decide +kernel
theorem dX5_knownCopy_10 : decode cX5_knownCopy 10 = .ok (.if_icmp .ge 12, 3) := by decide +kernel
theorem dX5_knownCopy_13 : decode cX5_knownCopy 13 = .ok (.aload_n 0, 1) := by decide +kernel
theorem dX5_knownCopy_14 : decode cX5_knownCopy 14 = .ok (.getfield 23, 3) := by decide +kernel
theorem dX5_knownCopy_17 : decode cX5_knownCopy 17 = .ok (.iload_n 1, 1) := by decide +kernel
theorem dX5_knownCopy_18 : decode cX5_knownCopy 18 = .ok (.aaload, 1) := by decide +kernel
theorem dX5_knownCopy_19 : decode cX5_knownCopy 19 = .ok (.goto 4, 3) := by decide +kernel
theorem dX5_knownCopy_22 : decode cX5_knownCopy 22 = .ok (.aconst_null, 1) := by decide +kernel
theorem dX5_knownCopy_23 : decode cX5_knownCopy 23 = .ok (.astore_n 2, 1) := by decide +kernel
theorem dX5_knownCopy_24 : decode cX5_knownCopy 24 = .ok (.aload_n 2, 1) := by decide +kernel
theorem dX5_knownCopy_25 : decode cX5_knownCopy 25 = .ok (.ifnonnull 14, 3) := by decide +kernel
theorem dX5_knownCopy_28 : decode cX5_knownCopy 28 = .ok (.new 268, 3) := by decide +kernel
theorem dX5_knownCopy_31 : decode cX5_knownCopy 31 = .ok (.dup, 1) := by decide +kernel
theorem dX5_knownCopy_32 : decode cX5_knownCopy 32 = .ok (.ldc_w 323, 3) := by decide +kernel
theorem dX5_knownCopy_35 : decode cX5_knownCopy 35 = .ok (.invokespecial 272, 3) := by decide +kernel
theorem dX5_knownCopy_38 : decode cX5_knownCopy 38 = .ok (.athrow, 1) := by decide +kernel
theorem dX5_knownCopy_39 : decode cX5_knownCopy 39 = .ok (.aload_n 2, 1) := by decide +kernel
theorem dX5_knownCopy_40 : decode cX5_knownCopy 40 = .ok (.areturn, 1) := by decide +kernel
theorem dX5_knownReader_0 : decode cX5_knownReader 0 = .ok (.iload_n 1, 1) := by decide +kernel
theorem dX5_knownReader_1 : decode cX5_knownReader 1 = .ok (.ifCond .lt 21, 3) := by decide +kernel
theorem dX5_knownReader_4 : decode cX5_knownReader 4 = .ok (.iload_n 1, 1) := by decide +kernel
theorem dX5_knownReader_5 : decode cX5_knownReader 5 = .ok (.aload_n 0, 1) := by decide +kernel
theorem dX5_knownReader_6 : decode cX5_knownReader 6 = .ok (.getfield 29, 3) := by decide +kernel
theorem dX5_knownReader_9 : decode cX5_knownReader 9 = .ok (.arraylength, 1) := by decide +kernel
theorem dX5_knownReader_10 : decode cX5_knownReader 10 = .ok (.if_icmp .ge 12, 3) := by decide +kernel
theorem dX5_knownReader_13 : decode cX5_knownReader 13 = .ok (.aload_n 0, 1) := by decide +kernel
theorem dX5_knownReader_14 : decode cX5_knownReader 14 = .ok (.getfield 29, 3) := by decide +kernel
theorem dX5_knownReader_17 : decode cX5_knownReader 17 = .ok (.iload_n 1, 1) := by decide +kernel
theorem dX5_knownReader_18 : decode cX5_knownReader 18 = .ok (.aaload, 1) := by decide +kernel
theorem dX5_knownReader_19 : decode cX5_knownReader 19 = .ok (.goto 4, 3) := by decide +kernel
theorem dX5_knownReader_22 : decode cX5_knownReader 22 = .ok (.aconst_null, 1) := by decide +kernel
theorem dX5_knownReader_23 : decode cX5_knownReader 23 = .ok (.astore_n 2, 1) := by decide +kernel
theorem dX5_knownReader_24 : decode cX5_knownReader 24 = .ok (.aload_n 2, 1) := by decide +kernel
theorem dX5_knownReader_25 : decode cX5_knownReader 25 = .ok (.ifnonnull 14, 3) := by decide +kernel
theorem dX5_knownReader_28 : decode cX5_knownReader 28 = .ok (.new 268, 3) := by decide +kernel
theorem dX5_knownReader_31 : decode cX5_knownReader 31 = .ok (.dup, 1) := by decide +kernel
theorem dX5_knownReader_32 : decode cX5_knownReader 32 = .ok (.ldc_w 325, 3) := by decide +kernel
theorem dX5_knownReader_35 : decode cX5_knownReader 35 = .ok (.invokespecial 272, 3) := by decide +kernel
theorem dX5_knownReader_38 : decode cX5_knownReader 38 = .ok (.athrow, 1) := by decide +kernel
theorem dX5_knownReader_39 : decode cX5_knownReader 39 = .ok (.aload_n 2, 1) := by decide +kernel
theorem dX5_knownReader_40 : decode cX5_knownReader 40 = .ok (.areturn, 1) := by decide +kernel
theorem dX5_requireBetween_0 : decode cX5_requireBetween 0 = .ok (.iload_n 0, 1) := by decide +kernel
theorem dX5_requireBetween_1 : decode cX5_requireBetween 1 = .ok (.iload_n 1, 1) := by decide +kernel
theorem dX5_requireBetween_2 : decode cX5_requireBetween 2 = .ok (.if_icmp .lt 8, 3) := by decide +kernel
theorem dX5_requireBetween_5 : decode cX5_requireBetween 5 = .ok (.iload_n 0, 1) := by decide +kernel
theorem dX5_requireBetween_6 : decode cX5_requireBetween 6 = .ok (.iload_n 2, 1) := by decide +kernel
theorem dX5_requireBetween_7 : decode cX5_requireBetween 7 = .ok (.if_icmp .le 14, 3) := by decide +kernel
theorem dX5_requireBetween_10 : decode cX5_requireBetween 10 = .ok (.new 327, 3) := by decide +kernel
theorem dX5_requireBetween_13 : decode cX5_requireBetween 13 = .ok (.dup, 1) := by decide +kernel
theorem dX5_requireBetween_14 : decode cX5_requireBetween 14 = .ok (.ldc_w 329, 3) := by decide +kernel
theorem dX5_requireBetween_17 : decode cX5_requireBetween 17 = .ok (.invokespecial 331, 3) := by decide +kernel
theorem dX5_requireBetween_20 : decode cX5_requireBetween 20 = .ok (.athrow, 1) := by decide +kernel
theorem dX5_requireBetween_21 : decode cX5_requireBetween 21 = .ok (.return_, 1) := by decide +kernel
theorem dX5_factOfRecord_0 : decode cX5_factOfRecord 0 = .ok (.aload_n 1, 1) := by decide +kernel
theorem dX5_factOfRecord_1 : decode cX5_factOfRecord 1 = .ok (.invokevirtual 95, 3) := by decide +kernel
theorem dX5_factOfRecord_4 : decode cX5_factOfRecord 4 = .ok (.astore_n 3, 1) := by decide +kernel
theorem dX5_factOfRecord_5 : decode cX5_factOfRecord 5 = .ok (.iload_n 2, 1) := by decide +kernel
theorem dX5_factOfRecord_6 : decode cX5_factOfRecord 6 = .ok (.tableswitch 86 0 5 #[38, 57, 62, 67, 72, 78], 38) := by decide +kernel
theorem dX5_factOfRecord_44 : decode cX5_factOfRecord 44 = .ok (.aload_n 1, 1) := by decide +kernel
theorem dX5_factOfRecord_45 : decode cX5_factOfRecord 45 = .ok (.getfield 332, 3) := by decide +kernel
theorem dX5_factOfRecord_48 : decode cX5_factOfRecord 48 = .ok (.ifnonnull 7, 3) := by decide +kernel
theorem dX5_factOfRecord_51 : decode cX5_factOfRecord 51 = .ok (.iconst (-1), 1) := by decide +kernel
theorem dX5_factOfRecord_52 : decode cX5_factOfRecord 52 = .ok (.goto 10, 3) := by decide +kernel
theorem dX5_factOfRecord_55 : decode cX5_factOfRecord 55 = .ok (.aload_n 1, 1) := by decide +kernel
theorem dX5_factOfRecord_56 : decode cX5_factOfRecord 56 = .ok (.getfield 332, 3) := by decide +kernel
theorem dX5_factOfRecord_59 : decode cX5_factOfRecord 59 = .ok (.getfield 65, 3) := by decide +kernel
theorem dX5_factOfRecord_62 : decode cX5_factOfRecord 62 = .ok (.ireturn, 1) := by decide +kernel
theorem dX5_factOfRecord_63 : decode cX5_factOfRecord 63 = .ok (.aload_n 1, 1) := by decide +kernel
theorem dX5_factOfRecord_64 : decode cX5_factOfRecord 64 = .ok (.getfield 335, 3) := by decide +kernel
theorem dX5_factOfRecord_67 : decode cX5_factOfRecord 67 = .ok (.ireturn, 1) := by decide +kernel
theorem dX5_factOfRecord_68 : decode cX5_factOfRecord 68 = .ok (.aload_n 1, 1) := by decide +kernel
theorem dX5_factOfRecord_69 : decode cX5_factOfRecord 69 = .ok (.getfield 338, 3) := by decide +kernel
theorem dX5_factOfRecord_72 : decode cX5_factOfRecord 72 = .ok (.ireturn, 1) := by decide +kernel
theorem dX5_factOfRecord_73 : decode cX5_factOfRecord 73 = .ok (.aload_n 3, 1) := by decide +kernel
theorem dX5_factOfRecord_74 : decode cX5_factOfRecord 74 = .ok (.getfield 103, 3) := by decide +kernel
theorem dX5_factOfRecord_77 : decode cX5_factOfRecord 77 = .ok (.ireturn, 1) := by decide +kernel
theorem dX5_factOfRecord_78 : decode cX5_factOfRecord 78 = .ok (.aload_n 0, 1) := by decide +kernel
theorem dX5_factOfRecord_79 : decode cX5_factOfRecord 79 = .ok (.aload_n 3, 1) := by decide +kernel
theorem dX5_factOfRecord_80 : decode cX5_factOfRecord 80 = .ok (.invokevirtual 126, 3) := by decide +kernel
theorem dX5_factOfRecord_83 : decode cX5_factOfRecord 83 = .ok (.ireturn, 1) := by decide +kernel
theorem dX5_factOfRecord_84 : decode cX5_factOfRecord 84 = .ok (.aload_n 3, 1) := by decide +kernel
theorem dX5_factOfRecord_85 : decode cX5_factOfRecord 85 = .ok (.getfield 235, 3) := by decide +kernel
theorem dX5_factOfRecord_88 : decode cX5_factOfRecord 88 = .ok (.getfield 262, 3) := by decide +kernel
theorem dX5_factOfRecord_91 : decode cX5_factOfRecord 91 = .ok (.ireturn, 1) := by decide +kernel
theorem dX5_factOfRecord_92 : decode cX5_factOfRecord 92 = .ok (.aload_n 3, 1) := by decide +kernel
theorem dX5_factOfRecord_93 : decode cX5_factOfRecord 93 = .ok (.getfield 113, 3) := by decide +kernel
theorem dX5_factOfRecord_96 : decode cX5_factOfRecord 96 = .ok (.ireturn, 1) := by decide +kernel
theorem dX5_factOfCopy_0 : decode cX5_factOfCopy 0 = .ok (.iload_n 2, 1) := by decide +kernel
theorem dX5_factOfCopy_1 : decode cX5_factOfCopy 1 = .ok (.tableswitch 90 0 5 #[39, 47, 52, 71, 76, 85], 39) := by decide +kernel
theorem dX5_factOfCopy_40 : decode cX5_factOfCopy 40 = .ok (.aload_n 1, 1) := by decide +kernel
theorem dX5_factOfCopy_41 : decode cX5_factOfCopy 41 = .ok (.getfield 192, 3) := by decide +kernel
theorem dX5_factOfCopy_44 : decode cX5_factOfCopy 44 = .ok (.getfield 103, 3) := by decide +kernel
theorem dX5_factOfCopy_47 : decode cX5_factOfCopy 47 = .ok (.ireturn, 1) := by decide +kernel
theorem dX5_factOfCopy_48 : decode cX5_factOfCopy 48 = .ok (.aload_n 1, 1) := by decide +kernel
theorem dX5_factOfCopy_49 : decode cX5_factOfCopy 49 = .ok (.getfield 215, 3) := by decide +kernel
theorem dX5_factOfCopy_52 : decode cX5_factOfCopy 52 = .ok (.ireturn, 1) := by decide +kernel
theorem dX5_factOfCopy_53 : decode cX5_factOfCopy 53 = .ok (.aload_n 1, 1) := by decide +kernel
theorem dX5_factOfCopy_54 : decode cX5_factOfCopy 54 = .ok (.getfield 202, 3) := by decide +kernel
theorem dX5_factOfCopy_57 : decode cX5_factOfCopy 57 = .ok (.ifnonnull 7, 3) := by decide +kernel
theorem dX5_factOfCopy_60 : decode cX5_factOfCopy 60 = .ok (.iconst (-1), 1) := by decide +kernel
theorem dX5_factOfCopy_61 : decode cX5_factOfCopy 61 = .ok (.goto 10, 3) := by decide +kernel
theorem dX5_factOfCopy_64 : decode cX5_factOfCopy 64 = .ok (.aload_n 1, 1) := by decide +kernel
theorem dX5_factOfCopy_65 : decode cX5_factOfCopy 65 = .ok (.getfield 202, 3) := by decide +kernel
theorem dX5_factOfCopy_68 : decode cX5_factOfCopy 68 = .ok (.getfield 273, 3) := by decide +kernel
theorem dX5_factOfCopy_71 : decode cX5_factOfCopy 71 = .ok (.ireturn, 1) := by decide +kernel
theorem dX5_factOfCopy_72 : decode cX5_factOfCopy 72 = .ok (.aload_n 1, 1) := by decide +kernel
theorem dX5_factOfCopy_73 : decode cX5_factOfCopy 73 = .ok (.getfield 199, 3) := by decide +kernel
theorem dX5_factOfCopy_76 : decode cX5_factOfCopy 76 = .ok (.ireturn, 1) := by decide +kernel
theorem dX5_factOfCopy_77 : decode cX5_factOfCopy 77 = .ok (.aload_n 1, 1) := by decide +kernel
theorem dX5_factOfCopy_78 : decode cX5_factOfCopy 78 = .ok (.aload_n 0, 1) := by decide +kernel
theorem dX5_factOfCopy_79 : decode cX5_factOfCopy 79 = .ok (.getfield 181, 3) := by decide +kernel
theorem dX5_factOfCopy_82 : decode cX5_factOfCopy 82 = .ok (.invokevirtual 341, 3) := by decide +kernel
theorem dX5_factOfCopy_85 : decode cX5_factOfCopy 85 = .ok (.ireturn, 1) := by decide +kernel
theorem dX5_factOfCopy_86 : decode cX5_factOfCopy 86 = .ok (.aload_n 1, 1) := by decide +kernel
theorem dX5_factOfCopy_87 : decode cX5_factOfCopy 87 = .ok (.getfield 212, 3) := by decide +kernel
theorem dX5_factOfCopy_90 : decode cX5_factOfCopy 90 = .ok (.ireturn, 1) := by decide +kernel
theorem dX5_factOfCopy_91 : decode cX5_factOfCopy 91 = .ok (.aload_n 1, 1) := by decide +kernel
theorem dX5_factOfCopy_92 : decode cX5_factOfCopy 92 = .ok (.getfield 226, 3) := by decide +kernel
theorem dX5_factOfCopy_95 : decode cX5_factOfCopy 95 = .ok (.ireturn, 1) := by decide +kernel
theorem dX5_factOfReader_0 : decode cX5_factOfReader 0 = .ok (.iload_n 2, 1) := by decide +kernel
theorem dX5_factOfReader_1 : decode cX5_factOfReader 1 = .ok (.tableswitch 75 0 5 #[39, 44, 51, 56, 62, 69], 39) := by decide +kernel
theorem dX5_factOfReader_40 : decode cX5_factOfReader 40 = .ok (.aload_n 1, 1) := by decide +kernel
theorem dX5_factOfReader_41 : decode cX5_factOfReader 41 = .ok (.getfield 344, 3) := by decide +kernel
theorem dX5_factOfReader_44 : decode cX5_factOfReader 44 = .ok (.ireturn, 1) := by decide +kernel
theorem dX5_factOfReader_45 : decode cX5_factOfReader 45 = .ok (.aload_n 0, 1) := by decide +kernel
theorem dX5_factOfReader_46 : decode cX5_factOfReader 46 = .ok (.aload_n 1, 1) := by decide +kernel
theorem dX5_factOfReader_47 : decode cX5_factOfReader 47 = .ok (.iconst 1, 1) := by decide +kernel
theorem dX5_factOfReader_48 : decode cX5_factOfReader 48 = .ok (.invokevirtual 347, 3) := by decide +kernel
theorem dX5_factOfReader_51 : decode cX5_factOfReader 51 = .ok (.ireturn, 1) := by decide +kernel
theorem dX5_factOfReader_52 : decode cX5_factOfReader 52 = .ok (.aload_n 1, 1) := by decide +kernel
theorem dX5_factOfReader_53 : decode cX5_factOfReader 53 = .ok (.getfield 172, 3) := by decide +kernel
theorem dX5_factOfReader_56 : decode cX5_factOfReader 56 = .ok (.ireturn, 1) := by decide +kernel
theorem dX5_factOfReader_57 : decode cX5_factOfReader 57 = .ok (.aload_n 0, 1) := by decide +kernel
theorem dX5_factOfReader_58 : decode cX5_factOfReader 58 = .ok (.aload_n 1, 1) := by decide +kernel
theorem dX5_factOfReader_59 : decode cX5_factOfReader 59 = .ok (.invokevirtual 350, 3) := by decide +kernel
theorem dX5_factOfReader_62 : decode cX5_factOfReader 62 = .ok (.ireturn, 1) := by decide +kernel
theorem dX5_factOfReader_63 : decode cX5_factOfReader 63 = .ok (.aload_n 0, 1) := by decide +kernel
theorem dX5_factOfReader_64 : decode cX5_factOfReader 64 = .ok (.aload_n 1, 1) := by decide +kernel
theorem dX5_factOfReader_65 : decode cX5_factOfReader 65 = .ok (.iconst 2, 1) := by decide +kernel
theorem dX5_factOfReader_66 : decode cX5_factOfReader 66 = .ok (.invokevirtual 347, 3) := by decide +kernel
theorem dX5_factOfReader_69 : decode cX5_factOfReader 69 = .ok (.ireturn, 1) := by decide +kernel
theorem dX5_factOfReader_70 : decode cX5_factOfReader 70 = .ok (.aload_n 0, 1) := by decide +kernel
theorem dX5_factOfReader_71 : decode cX5_factOfReader 71 = .ok (.aload_n 1, 1) := by decide +kernel
theorem dX5_factOfReader_72 : decode cX5_factOfReader 72 = .ok (.invokevirtual 353, 3) := by decide +kernel
theorem dX5_factOfReader_75 : decode cX5_factOfReader 75 = .ok (.ireturn, 1) := by decide +kernel
theorem dX5_factOfReader_76 : decode cX5_factOfReader 76 = .ok (.aload_n 0, 1) := by decide +kernel
theorem dX5_factOfReader_77 : decode cX5_factOfReader 77 = .ok (.aload_n 1, 1) := by decide +kernel
theorem dX5_factOfReader_78 : decode cX5_factOfReader 78 = .ok (.invokevirtual 356, 3) := by decide +kernel
theorem dX5_factOfReader_81 : decode cX5_factOfReader 81 = .ok (.ireturn, 1) := by decide +kernel
theorem dX5_total_0 : decode cX5_total 0 = .ok (.iload_n 1, 1) := by decide +kernel
theorem dX5_total_1 : decode cX5_total 1 = .ok (.tableswitch 85 0 9 #[55, 60, 65, 70, 75, 85, 85, 85, 85, 80], 55) := by decide +kernel
theorem dX5_total_56 : decode cX5_total 56 = .ok (.aload_n 0, 1) := by decide +kernel
theorem dX5_total_57 : decode cX5_total 57 = .ok (.getfield 181, 3) := by decide +kernel
theorem dX5_total_60 : decode cX5_total 60 = .ok (.ireturn, 1) := by decide +kernel
theorem dX5_total_61 : decode cX5_total 61 = .ok (.aload_n 0, 1) := by decide +kernel
theorem dX5_total_62 : decode cX5_total 62 = .ok (.getfield 33, 3) := by decide +kernel
theorem dX5_total_65 : decode cX5_total 65 = .ok (.ireturn, 1) := by decide +kernel
theorem dX5_total_66 : decode cX5_total 66 = .ok (.aload_n 0, 1) := by decide +kernel
theorem dX5_total_67 : decode cX5_total 67 = .ok (.invokevirtual 359, 3) := by decide +kernel
theorem dX5_total_70 : decode cX5_total 70 = .ok (.ireturn, 1) := by decide +kernel
theorem dX5_total_71 : decode cX5_total 71 = .ok (.aload_n 0, 1) := by decide +kernel
theorem dX5_total_72 : decode cX5_total 72 = .ok (.getfield 136, 3) := by decide +kernel
theorem dX5_total_75 : decode cX5_total 75 = .ok (.ireturn, 1) := by decide +kernel
theorem dX5_total_76 : decode cX5_total 76 = .ok (.aload_n 0, 1) := by decide +kernel
theorem dX5_total_77 : decode cX5_total 77 = .ok (.getfield 156, 3) := by decide +kernel
theorem dX5_total_80 : decode cX5_total 80 = .ok (.ireturn, 1) := by decide +kernel
theorem dX5_total_81 : decode cX5_total 81 = .ok (.aload_n 0, 1) := by decide +kernel
theorem dX5_total_82 : decode cX5_total 82 = .ok (.invokevirtual 362, 3) := by decide +kernel
theorem dX5_total_85 : decode cX5_total 85 = .ok (.ireturn, 1) := by decide +kernel
theorem dX5_total_86 : decode cX5_total 86 = .ok (.aload_n 0, 1) := by decide +kernel
theorem dX5_total_87 : decode cX5_total 87 = .ok (.iload_n 1, 1) := by decide +kernel
theorem dX5_total_88 : decode cX5_total 88 = .ok (.iconst 5, 1) := by decide +kernel
theorem dX5_total_89 : decode cX5_total 89 = .ok (.isub, 1) := by decide +kernel
theorem dX5_total_90 : decode cX5_total 90 = .ok (.invokevirtual 365, 3) := by decide +kernel
theorem dX5_total_93 : decode cX5_total 93 = .ok (.ireturn, 1) := by decide +kernel
theorem dX5_copiesNotLost_0 : decode cX5_copiesNotLost 0 = .ok (.iconst 0, 1) := by decide +kernel
theorem dX5_copiesNotLost_1 : decode cX5_copiesNotLost 1 = .ok (.istore_n 2, 1) := by decide +kernel
theorem dX5_copiesNotLost_2 : decode cX5_copiesNotLost 2 = .ok (.aload_n 0, 1) := by decide +kernel
theorem dX5_copiesNotLost_3 : decode cX5_copiesNotLost 3 = .ok (.getfield 23, 3) := by decide +kernel
theorem dX5_copiesNotLost_6 : decode cX5_copiesNotLost 6 = .ok (.astore_n 3, 1) := by decide +kernel
theorem dX5_copiesNotLost_7 : decode cX5_copiesNotLost 7 = .ok (.aload_n 3, 1) := by decide +kernel
theorem dX5_copiesNotLost_8 : decode cX5_copiesNotLost 8 = .ok (.arraylength, 1) := by decide +kernel
theorem dX5_copiesNotLost_9 : decode cX5_copiesNotLost 9 = .ok (.istore 4, 2) := by decide +kernel
theorem dX5_copiesNotLost_11 : decode cX5_copiesNotLost 11 = .ok (.iconst 0, 1) := by decide +kernel
theorem dX5_copiesNotLost_12 : decode cX5_copiesNotLost 12 = .ok (.istore 5, 2) := by decide +kernel
theorem dX5_copiesNotLost_14 : decode cX5_copiesNotLost 14 = .ok (.iload 5, 2) := by decide +kernel
theorem dX5_copiesNotLost_16 : decode cX5_copiesNotLost 16 = .ok (.iload 4, 2) := by decide +kernel
theorem dX5_copiesNotLost_18 : decode cX5_copiesNotLost 18 = .ok (.if_icmp .ge 41, 3) := by decide +kernel
theorem dX5_copiesNotLost_21 : decode cX5_copiesNotLost 21 = .ok (.aload_n 3, 1) := by decide +kernel
theorem dX5_copiesNotLost_22 : decode cX5_copiesNotLost 22 = .ok (.iload 5, 2) := by decide +kernel
theorem dX5_copiesNotLost_24 : decode cX5_copiesNotLost 24 = .ok (.aaload, 1) := by decide +kernel
theorem dX5_copiesNotLost_25 : decode cX5_copiesNotLost 25 = .ok (.astore 6, 2) := by decide +kernel
theorem dX5_copiesNotLost_27 : decode cX5_copiesNotLost 27 = .ok (.aload 6, 2) := by decide +kernel
theorem dX5_copiesNotLost_29 : decode cX5_copiesNotLost 29 = .ok (.ifnull 24, 3) := by decide +kernel
theorem dX5_copiesNotLost_32 : decode cX5_copiesNotLost 32 = .ok (.aload 6, 2) := by decide +kernel
theorem dX5_copiesNotLost_34 : decode cX5_copiesNotLost 34 = .ok (.getfield 192, 3) := by decide +kernel
theorem dX5_copiesNotLost_37 : decode cX5_copiesNotLost 37 = .ok (.aload_n 1, 1) := by decide +kernel
theorem dX5_copiesNotLost_38 : decode cX5_copiesNotLost 38 = .ok (.if_acmp .ne 15, 3) := by decide +kernel
theorem dX5_copiesNotLost_41 : decode cX5_copiesNotLost 41 = .ok (.aload 6, 2) := by decide +kernel
theorem dX5_copiesNotLost_43 : decode cX5_copiesNotLost 43 = .ok (.getfield 215, 3) := by decide +kernel
theorem dX5_copiesNotLost_46 : decode cX5_copiesNotLost 46 = .ok (.iconst 3, 1) := by decide +kernel
theorem dX5_copiesNotLost_47 : decode cX5_copiesNotLost 47 = .ok (.if_icmp .eq 6, 3) := by decide +kernel
theorem dX5_copiesNotLost_50 : decode cX5_copiesNotLost 50 = .ok (.iinc 2 1, 3) := by decide +kernel
theorem dX5_copiesNotLost_53 : decode cX5_copiesNotLost 53 = .ok (.iinc 5 1, 3) := by decide +kernel
theorem dX5_copiesNotLost_56 : decode cX5_copiesNotLost 56 = .ok (.goto (-42), 3) := by decide +kernel
theorem dX5_copiesNotLost_59 : decode cX5_copiesNotLost 59 = .ok (.iload_n 2, 1) := by decide +kernel
theorem dX5_copiesNotLost_60 : decode cX5_copiesNotLost 60 = .ok (.ireturn, 1) := by decide +kernel
theorem dX5_copiesOf_0 : decode cX5_copiesOf 0 = .ok (.iconst 0, 1) := by decide +kernel
theorem dX5_copiesOf_1 : decode cX5_copiesOf 1 = .ok (.istore_n 3, 1) := by decide +kernel
theorem dX5_copiesOf_2 : decode cX5_copiesOf 2 = .ok (.aload_n 0, 1) := by decide +kernel
theorem dX5_copiesOf_3 : decode cX5_copiesOf 3 = .ok (.getfield 23, 3) := by decide +kernel
theorem dX5_copiesOf_6 : decode cX5_copiesOf 6 = .ok (.astore 4, 2) := by decide +kernel
theorem dX5_copiesOf_8 : decode cX5_copiesOf 8 = .ok (.aload 4, 2) := by decide +kernel
theorem dX5_copiesOf_10 : decode cX5_copiesOf 10 = .ok (.arraylength, 1) := by decide +kernel
theorem dX5_copiesOf_11 : decode cX5_copiesOf 11 = .ok (.istore 5, 2) := by decide +kernel
theorem dX5_copiesOf_13 : decode cX5_copiesOf 13 = .ok (.iconst 0, 1) := by decide +kernel
theorem dX5_copiesOf_14 : decode cX5_copiesOf 14 = .ok (.istore 6, 2) := by decide +kernel
theorem dX5_copiesOf_16 : decode cX5_copiesOf 16 = .ok (.iload 6, 2) := by decide +kernel
theorem dX5_copiesOf_18 : decode cX5_copiesOf 18 = .ok (.iload 5, 2) := by decide +kernel
theorem dX5_copiesOf_20 : decode cX5_copiesOf 20 = .ok (.if_icmp .ge 42, 3) := by decide +kernel
theorem dX5_copiesOf_23 : decode cX5_copiesOf 23 = .ok (.aload 4, 2) := by decide +kernel
theorem dX5_copiesOf_25 : decode cX5_copiesOf 25 = .ok (.iload 6, 2) := by decide +kernel
theorem dX5_copiesOf_27 : decode cX5_copiesOf 27 = .ok (.aaload, 1) := by decide +kernel
theorem dX5_copiesOf_28 : decode cX5_copiesOf 28 = .ok (.astore 7, 2) := by decide +kernel
theorem dX5_copiesOf_30 : decode cX5_copiesOf 30 = .ok (.aload 7, 2) := by decide +kernel
theorem dX5_copiesOf_32 : decode cX5_copiesOf 32 = .ok (.ifnull 24, 3) := by decide +kernel
theorem dX5_copiesOf_35 : decode cX5_copiesOf 35 = .ok (.aload 7, 2) := by decide +kernel
theorem dX5_copiesOf_37 : decode cX5_copiesOf 37 = .ok (.getfield 215, 3) := by decide +kernel
theorem dX5_copiesOf_40 : decode cX5_copiesOf 40 = .ok (.iload_n 2, 1) := by decide +kernel
theorem dX5_copiesOf_41 : decode cX5_copiesOf 41 = .ok (.if_icmp .ne 15, 3) := by decide +kernel
theorem dX5_copiesOf_44 : decode cX5_copiesOf 44 = .ok (.aload 7, 2) := by decide +kernel
theorem dX5_copiesOf_46 : decode cX5_copiesOf 46 = .ok (.getfield 202, 3) := by decide +kernel
theorem dX5_copiesOf_49 : decode cX5_copiesOf 49 = .ok (.aload_n 1, 1) := by decide +kernel
theorem dX5_copiesOf_50 : decode cX5_copiesOf 50 = .ok (.if_acmp .ne 6, 3) := by decide +kernel
theorem dX5_copiesOf_53 : decode cX5_copiesOf 53 = .ok (.iinc 3 1, 3) := by decide +kernel
theorem dX5_copiesOf_56 : decode cX5_copiesOf 56 = .ok (.iinc 6 1, 3) := by decide +kernel
theorem dX5_copiesOf_59 : decode cX5_copiesOf 59 = .ok (.goto (-43), 3) := by decide +kernel
theorem dX5_copiesOf_62 : decode cX5_copiesOf 62 = .ok (.iload_n 3, 1) := by decide +kernel
theorem dX5_copiesOf_63 : decode cX5_copiesOf 63 = .ok (.ireturn, 1) := by decide +kernel
theorem dX5_lateCopiesOf_0 : decode cX5_lateCopiesOf 0 = .ok (.iconst 0, 1) := by decide +kernel
theorem dX5_lateCopiesOf_1 : decode cX5_lateCopiesOf 1 = .ok (.istore_n 2, 1) := by decide +kernel
theorem dX5_lateCopiesOf_2 : decode cX5_lateCopiesOf 2 = .ok (.aload_n 0, 1) := by decide +kernel
theorem dX5_lateCopiesOf_3 : decode cX5_lateCopiesOf 3 = .ok (.getfield 23, 3) := by decide +kernel
theorem dX5_lateCopiesOf_6 : decode cX5_lateCopiesOf 6 = .ok (.astore_n 3, 1) := by decide +kernel
theorem dX5_lateCopiesOf_7 : decode cX5_lateCopiesOf 7 = .ok (.aload_n 3, 1) := by decide +kernel
theorem dX5_lateCopiesOf_8 : decode cX5_lateCopiesOf 8 = .ok (.arraylength, 1) := by decide +kernel
theorem dX5_lateCopiesOf_9 : decode cX5_lateCopiesOf 9 = .ok (.istore 4, 2) := by decide +kernel
theorem dX5_lateCopiesOf_11 : decode cX5_lateCopiesOf 11 = .ok (.iconst 0, 1) := by decide +kernel
theorem dX5_lateCopiesOf_12 : decode cX5_lateCopiesOf 12 = .ok (.istore 5, 2) := by decide +kernel
theorem dX5_lateCopiesOf_14 : decode cX5_lateCopiesOf 14 = .ok (.iload 5, 2) := by decide +kernel
theorem dX5_lateCopiesOf_16 : decode cX5_lateCopiesOf 16 = .ok (.iload 4, 2) := by decide +kernel
theorem dX5_lateCopiesOf_18 : decode cX5_lateCopiesOf 18 = .ok (.if_icmp .ge 44, 3) := by decide +kernel
theorem dX5_lateCopiesOf_21 : decode cX5_lateCopiesOf 21 = .ok (.aload_n 3, 1) := by decide +kernel
theorem dX5_lateCopiesOf_22 : decode cX5_lateCopiesOf 22 = .ok (.iload 5, 2) := by decide +kernel
theorem dX5_lateCopiesOf_24 : decode cX5_lateCopiesOf 24 = .ok (.aaload, 1) := by decide +kernel
theorem dX5_lateCopiesOf_25 : decode cX5_lateCopiesOf 25 = .ok (.astore 6, 2) := by decide +kernel
theorem dX5_lateCopiesOf_27 : decode cX5_lateCopiesOf 27 = .ok (.aload 6, 2) := by decide +kernel
theorem dX5_lateCopiesOf_29 : decode cX5_lateCopiesOf 29 = .ok (.ifnull 27, 3) := by decide +kernel
theorem dX5_lateCopiesOf_32 : decode cX5_lateCopiesOf 32 = .ok (.aload 6, 2) := by decide +kernel
theorem dX5_lateCopiesOf_34 : decode cX5_lateCopiesOf 34 = .ok (.getfield 202, 3) := by decide +kernel
theorem dX5_lateCopiesOf_37 : decode cX5_lateCopiesOf 37 = .ok (.aload_n 1, 1) := by decide +kernel
theorem dX5_lateCopiesOf_38 : decode cX5_lateCopiesOf 38 = .ok (.if_acmp .ne 18, 3) := by decide +kernel
theorem dX5_lateCopiesOf_41 : decode cX5_lateCopiesOf 41 = .ok (.aload 6, 2) := by decide +kernel
theorem dX5_lateCopiesOf_43 : decode cX5_lateCopiesOf 43 = .ok (.aload_n 0, 1) := by decide +kernel
theorem dX5_lateCopiesOf_44 : decode cX5_lateCopiesOf 44 = .ok (.getfield 181, 3) := by decide +kernel
theorem dX5_lateCopiesOf_47 : decode cX5_lateCopiesOf 47 = .ok (.invokevirtual 341, 3) := by decide +kernel
theorem dX5_lateCopiesOf_50 : decode cX5_lateCopiesOf 50 = .ok (.ifCond .le 6, 3) := by decide +kernel
theorem dX5_lateCopiesOf_53 : decode cX5_lateCopiesOf 53 = .ok (.iinc 2 1, 3) := by decide +kernel
theorem dX5_lateCopiesOf_56 : decode cX5_lateCopiesOf 56 = .ok (.iinc 5 1, 3) := by decide +kernel
theorem dX5_lateCopiesOf_59 : decode cX5_lateCopiesOf 59 = .ok (.goto (-45), 3) := by decide +kernel
theorem dX5_lateCopiesOf_62 : decode cX5_lateCopiesOf 62 = .ok (.iload_n 2, 1) := by decide +kernel
theorem dX5_lateCopiesOf_63 : decode cX5_lateCopiesOf 63 = .ok (.ireturn, 1) := by decide +kernel
theorem dX5_finesOf_0 : decode cX5_finesOf 0 = .ok (.iconst 0, 1) := by decide +kernel
theorem dX5_finesOf_1 : decode cX5_finesOf 1 = .ok (.istore_n 2, 1) := by decide +kernel
theorem dX5_finesOf_2 : decode cX5_finesOf 2 = .ok (.aload_n 0, 1) := by decide +kernel
theorem dX5_finesOf_3 : decode cX5_finesOf 3 = .ok (.getfield 23, 3) := by decide +kernel
theorem dX5_finesOf_6 : decode cX5_finesOf 6 = .ok (.astore_n 3, 1) := by decide +kernel
theorem dX5_finesOf_7 : decode cX5_finesOf 7 = .ok (.aload_n 3, 1) := by decide +kernel
theorem dX5_finesOf_8 : decode cX5_finesOf 8 = .ok (.arraylength, 1) := by decide +kernel
theorem dX5_finesOf_9 : decode cX5_finesOf 9 = .ok (.istore 4, 2) := by decide +kernel
theorem dX5_finesOf_11 : decode cX5_finesOf 11 = .ok (.iconst 0, 1) := by decide +kernel
theorem dX5_finesOf_12 : decode cX5_finesOf 12 = .ok (.istore 5, 2) := by decide +kernel
theorem dX5_finesOf_14 : decode cX5_finesOf 14 = .ok (.iload 5, 2) := by decide +kernel
theorem dX5_finesOf_16 : decode cX5_finesOf 16 = .ok (.iload 4, 2) := by decide +kernel
theorem dX5_finesOf_18 : decode cX5_finesOf 18 = .ok (.if_icmp .ge 41, 3) := by decide +kernel
theorem dX5_finesOf_21 : decode cX5_finesOf 21 = .ok (.aload_n 3, 1) := by decide +kernel
theorem dX5_finesOf_22 : decode cX5_finesOf 22 = .ok (.iload 5, 2) := by decide +kernel
theorem dX5_finesOf_24 : decode cX5_finesOf 24 = .ok (.aaload, 1) := by decide +kernel
theorem dX5_finesOf_25 : decode cX5_finesOf 25 = .ok (.astore 6, 2) := by decide +kernel
theorem dX5_finesOf_27 : decode cX5_finesOf 27 = .ok (.aload 6, 2) := by decide +kernel
theorem dX5_finesOf_29 : decode cX5_finesOf 29 = .ok (.ifnull 24, 3) := by decide +kernel
theorem dX5_finesOf_32 : decode cX5_finesOf 32 = .ok (.aload 6, 2) := by decide +kernel
theorem dX5_finesOf_34 : decode cX5_finesOf 34 = .ok (.getfield 202, 3) := by decide +kernel
theorem dX5_finesOf_37 : decode cX5_finesOf 37 = .ok (.aload_n 1, 1) := by decide +kernel
theorem dX5_finesOf_38 : decode cX5_finesOf 38 = .ok (.if_acmp .ne 15, 3) := by decide +kernel
theorem dX5_finesOf_41 : decode cX5_finesOf 41 = .ok (.iload_n 2, 1) := by decide +kernel
theorem dX5_finesOf_42 : decode cX5_finesOf 42 = .ok (.aload 6, 2) := by decide +kernel
theorem dX5_finesOf_44 : decode cX5_finesOf 44 = .ok (.aload_n 0, 1) := by decide +kernel
theorem dX5_finesOf_45 : decode cX5_finesOf 45 = .ok (.getfield 181, 3) := by decide +kernel
theorem dX5_finesOf_48 : decode cX5_finesOf 48 = .ok (.invokevirtual 220, 3) := by decide +kernel
theorem dX5_finesOf_51 : decode cX5_finesOf 51 = .ok (.iadd, 1) := by decide +kernel
theorem dX5_finesOf_52 : decode cX5_finesOf 52 = .ok (.istore_n 2, 1) := by decide +kernel
theorem dX5_finesOf_53 : decode cX5_finesOf 53 = .ok (.iinc 5 1, 3) := by decide +kernel
theorem dX5_finesOf_56 : decode cX5_finesOf 56 = .ok (.goto (-42), 3) := by decide +kernel
theorem dX5_finesOf_59 : decode cX5_finesOf 59 = .ok (.iload_n 2, 1) := by decide +kernel
theorem dX5_finesOf_60 : decode cX5_finesOf 60 = .ok (.ireturn, 1) := by decide +kernel
theorem dX5_waitsOf_0 : decode cX5_waitsOf 0 = .ok (.iconst 0, 1) := by decide +kernel
theorem dX5_waitsOf_1 : decode cX5_waitsOf 1 = .ok (.istore_n 2, 1) := by decide +kernel
theorem dX5_waitsOf_2 : decode cX5_waitsOf 2 = .ok (.aload_n 0, 1) := by decide +kernel
theorem dX5_waitsOf_3 : decode cX5_waitsOf 3 = .ok (.getfield 17, 3) := by decide +kernel
theorem dX5_waitsOf_6 : decode cX5_waitsOf 6 = .ok (.astore_n 3, 1) := by decide +kernel
theorem dX5_waitsOf_7 : decode cX5_waitsOf 7 = .ok (.aload_n 3, 1) := by decide +kernel
theorem dX5_waitsOf_8 : decode cX5_waitsOf 8 = .ok (.arraylength, 1) := by decide +kernel
theorem dX5_waitsOf_9 : decode cX5_waitsOf 9 = .ok (.istore 4, 2) := by decide +kernel
theorem dX5_waitsOf_11 : decode cX5_waitsOf 11 = .ok (.iconst 0, 1) := by decide +kernel
theorem dX5_waitsOf_12 : decode cX5_waitsOf 12 = .ok (.istore 5, 2) := by decide +kernel
theorem dX5_waitsOf_14 : decode cX5_waitsOf 14 = .ok (.iload 5, 2) := by decide +kernel
theorem dX5_waitsOf_16 : decode cX5_waitsOf 16 = .ok (.iload 4, 2) := by decide +kernel
theorem dX5_waitsOf_18 : decode cX5_waitsOf 18 = .ok (.if_icmp .ge 35, 3) := by decide +kernel
theorem dX5_waitsOf_21 : decode cX5_waitsOf 21 = .ok (.aload_n 3, 1) := by decide +kernel
theorem dX5_waitsOf_22 : decode cX5_waitsOf 22 = .ok (.iload 5, 2) := by decide +kernel
theorem dX5_waitsOf_24 : decode cX5_waitsOf 24 = .ok (.aaload, 1) := by decide +kernel
theorem dX5_waitsOf_25 : decode cX5_waitsOf 25 = .ok (.astore 6, 2) := by decide +kernel
theorem dX5_waitsOf_27 : decode cX5_waitsOf 27 = .ok (.aload 6, 2) := by decide +kernel
theorem dX5_waitsOf_29 : decode cX5_waitsOf 29 = .ok (.ifnull 18, 3) := by decide +kernel
theorem dX5_waitsOf_32 : decode cX5_waitsOf 32 = .ok (.aload 6, 2) := by decide +kernel
theorem dX5_waitsOf_34 : decode cX5_waitsOf 34 = .ok (.getfield 235, 3) := by decide +kernel
theorem dX5_waitsOf_37 : decode cX5_waitsOf 37 = .ok (.aload_n 1, 1) := by decide +kernel
theorem dX5_waitsOf_38 : decode cX5_waitsOf 38 = .ok (.invokevirtual 239, 3) := by decide +kernel
theorem dX5_waitsOf_41 : decode cX5_waitsOf 41 = .ok (.ifCond .eq 6, 3) := by decide +kernel
theorem dX5_waitsOf_44 : decode cX5_waitsOf 44 = .ok (.iinc 2 1, 3) := by decide +kernel
theorem dX5_waitsOf_47 : decode cX5_waitsOf 47 = .ok (.iinc 5 1, 3) := by decide +kernel
theorem dX5_waitsOf_50 : decode cX5_waitsOf 50 = .ok (.goto (-36), 3) := by decide +kernel
theorem dX5_waitsOf_53 : decode cX5_waitsOf 53 = .ok (.iload_n 2, 1) := by decide +kernel
theorem dX5_waitsOf_54 : decode cX5_waitsOf 54 = .ok (.ireturn, 1) := by decide +kernel
theorem dX5_liveRecords_0 : decode cX5_liveRecords 0 = .ok (.iconst 0, 1) := by decide +kernel
theorem dX5_liveRecords_1 : decode cX5_liveRecords 1 = .ok (.istore_n 1, 1) := by decide +kernel
theorem dX5_liveRecords_2 : decode cX5_liveRecords 2 = .ok (.aload_n 0, 1) := by decide +kernel
theorem dX5_liveRecords_3 : decode cX5_liveRecords 3 = .ok (.getfield 17, 3) := by decide +kernel
theorem dX5_liveRecords_6 : decode cX5_liveRecords 6 = .ok (.astore_n 2, 1) := by decide +kernel
theorem dX5_liveRecords_7 : decode cX5_liveRecords 7 = .ok (.aload_n 2, 1) := by decide +kernel
theorem dX5_liveRecords_8 : decode cX5_liveRecords 8 = .ok (.arraylength, 1) := by decide +kernel
theorem dX5_liveRecords_9 : decode cX5_liveRecords 9 = .ok (.istore_n 3, 1) := by decide +kernel
theorem dX5_liveRecords_10 : decode cX5_liveRecords 10 = .ok (.iconst 0, 1) := by decide +kernel
theorem dX5_liveRecords_11 : decode cX5_liveRecords 11 = .ok (.istore 4, 2) := by decide +kernel
theorem dX5_liveRecords_13 : decode cX5_liveRecords 13 = .ok (.iload 4, 2) := by decide +kernel
theorem dX5_liveRecords_15 : decode cX5_liveRecords 15 = .ok (.iload_n 3, 1) := by decide +kernel
theorem dX5_liveRecords_16 : decode cX5_liveRecords 16 = .ok (.if_icmp .ge 31, 3) := by decide +kernel
theorem dX5_liveRecords_19 : decode cX5_liveRecords 19 = .ok (.aload_n 2, 1) := by decide +kernel
theorem dX5_liveRecords_20 : decode cX5_liveRecords 20 = .ok (.iload 4, 2) := by decide +kernel
theorem dX5_liveRecords_22 : decode cX5_liveRecords 22 = .ok (.aaload, 1) := by decide +kernel
theorem dX5_liveRecords_23 : decode cX5_liveRecords 23 = .ok (.astore 5, 2) := by decide +kernel
theorem dX5_liveRecords_25 : decode cX5_liveRecords 25 = .ok (.aload 5, 2) := by decide +kernel
theorem dX5_liveRecords_27 : decode cX5_liveRecords 27 = .ok (.ifnull 14, 3) := by decide +kernel
theorem dX5_liveRecords_30 : decode cX5_liveRecords 30 = .ok (.aload 5, 2) := by decide +kernel
theorem dX5_liveRecords_32 : decode cX5_liveRecords 32 = .ok (.invokevirtual 99, 3) := by decide +kernel
theorem dX5_liveRecords_35 : decode cX5_liveRecords 35 = .ok (.ifCond .eq 6, 3) := by decide +kernel
theorem dX5_liveRecords_38 : decode cX5_liveRecords 38 = .ok (.iinc 1 1, 3) := by decide +kernel
theorem dX5_liveRecords_41 : decode cX5_liveRecords 41 = .ok (.iinc 4 1, 3) := by decide +kernel
theorem dX5_liveRecords_44 : decode cX5_liveRecords 44 = .ok (.goto (-31), 3) := by decide +kernel
theorem dX5_liveRecords_47 : decode cX5_liveRecords 47 = .ok (.iload_n 1, 1) := by decide +kernel
theorem dX5_liveRecords_48 : decode cX5_liveRecords 48 = .ok (.ireturn, 1) := by decide +kernel
theorem dX5_copiesAt_0 : decode cX5_copiesAt 0 = .ok (.iconst 0, 1) := by decide +kernel
theorem dX5_copiesAt_1 : decode cX5_copiesAt 1 = .ok (.istore_n 2, 1) := by decide +kernel
theorem dX5_copiesAt_2 : decode cX5_copiesAt 2 = .ok (.aload_n 0, 1) := by decide +kernel
theorem dX5_copiesAt_3 : decode cX5_copiesAt 3 = .ok (.getfield 23, 3) := by decide +kernel
theorem dX5_copiesAt_6 : decode cX5_copiesAt 6 = .ok (.astore_n 3, 1) := by decide +kernel
theorem dX5_copiesAt_7 : decode cX5_copiesAt 7 = .ok (.aload_n 3, 1) := by decide +kernel
theorem dX5_copiesAt_8 : decode cX5_copiesAt 8 = .ok (.arraylength, 1) := by decide +kernel
theorem dX5_copiesAt_9 : decode cX5_copiesAt 9 = .ok (.istore 4, 2) := by decide +kernel
theorem dX5_copiesAt_11 : decode cX5_copiesAt 11 = .ok (.iconst 0, 1) := by decide +kernel
theorem dX5_copiesAt_12 : decode cX5_copiesAt 12 = .ok (.istore 5, 2) := by decide +kernel
theorem dX5_copiesAt_14 : decode cX5_copiesAt 14 = .ok (.iload 5, 2) := by decide +kernel
theorem dX5_copiesAt_16 : decode cX5_copiesAt 16 = .ok (.iload 4, 2) := by decide +kernel
theorem dX5_copiesAt_18 : decode cX5_copiesAt 18 = .ok (.if_icmp .ge 32, 3) := by decide +kernel
theorem dX5_copiesAt_21 : decode cX5_copiesAt 21 = .ok (.aload_n 3, 1) := by decide +kernel
theorem dX5_copiesAt_22 : decode cX5_copiesAt 22 = .ok (.iload 5, 2) := by decide +kernel
theorem dX5_copiesAt_24 : decode cX5_copiesAt 24 = .ok (.aaload, 1) := by decide +kernel
theorem dX5_copiesAt_25 : decode cX5_copiesAt 25 = .ok (.astore 6, 2) := by decide +kernel
theorem dX5_copiesAt_27 : decode cX5_copiesAt 27 = .ok (.aload 6, 2) := by decide +kernel
theorem dX5_copiesAt_29 : decode cX5_copiesAt 29 = .ok (.ifnull 15, 3) := by decide +kernel
theorem dX5_copiesAt_32 : decode cX5_copiesAt 32 = .ok (.aload 6, 2) := by decide +kernel
theorem dX5_copiesAt_34 : decode cX5_copiesAt 34 = .ok (.getfield 215, 3) := by decide +kernel
theorem dX5_copiesAt_37 : decode cX5_copiesAt 37 = .ok (.iload_n 1, 1) := by decide +kernel
theorem dX5_copiesAt_38 : decode cX5_copiesAt 38 = .ok (.if_icmp .ne 6, 3) := by decide +kernel
theorem dX5_copiesAt_41 : decode cX5_copiesAt 41 = .ok (.iinc 2 1, 3) := by decide +kernel
theorem dX5_copiesAt_44 : decode cX5_copiesAt 44 = .ok (.iinc 5 1, 3) := by decide +kernel
theorem dX5_copiesAt_47 : decode cX5_copiesAt 47 = .ok (.goto (-33), 3) := by decide +kernel
theorem dX5_copiesAt_50 : decode cX5_copiesAt 50 = .ok (.iload_n 2, 1) := by decide +kernel
theorem dX5_copiesAt_51 : decode cX5_copiesAt 51 = .ok (.ireturn, 1) := by decide +kernel
theorem dX5_owedByAll_0 : decode cX5_owedByAll 0 = .ok (.iconst 0, 1) := by decide +kernel
theorem dX5_owedByAll_1 : decode cX5_owedByAll 1 = .ok (.istore_n 1, 1) := by decide +kernel
theorem dX5_owedByAll_2 : decode cX5_owedByAll 2 = .ok (.aload_n 0, 1) := by decide +kernel
theorem dX5_owedByAll_3 : decode cX5_owedByAll 3 = .ok (.getfield 29, 3) := by decide +kernel
theorem dX5_owedByAll_6 : decode cX5_owedByAll 6 = .ok (.astore_n 2, 1) := by decide +kernel
theorem dX5_owedByAll_7 : decode cX5_owedByAll 7 = .ok (.aload_n 2, 1) := by decide +kernel
theorem dX5_owedByAll_8 : decode cX5_owedByAll 8 = .ok (.arraylength, 1) := by decide +kernel
theorem dX5_owedByAll_9 : decode cX5_owedByAll 9 = .ok (.istore_n 3, 1) := by decide +kernel
theorem dX5_owedByAll_10 : decode cX5_owedByAll 10 = .ok (.iconst 0, 1) := by decide +kernel
theorem dX5_owedByAll_11 : decode cX5_owedByAll 11 = .ok (.istore 4, 2) := by decide +kernel
theorem dX5_owedByAll_13 : decode cX5_owedByAll 13 = .ok (.iload 4, 2) := by decide +kernel
theorem dX5_owedByAll_15 : decode cX5_owedByAll 15 = .ok (.iload_n 3, 1) := by decide +kernel
theorem dX5_owedByAll_16 : decode cX5_owedByAll 16 = .ok (.if_icmp .ge 28, 3) := by decide +kernel
theorem dX5_owedByAll_19 : decode cX5_owedByAll 19 = .ok (.aload_n 2, 1) := by decide +kernel
theorem dX5_owedByAll_20 : decode cX5_owedByAll 20 = .ok (.iload 4, 2) := by decide +kernel
theorem dX5_owedByAll_22 : decode cX5_owedByAll 22 = .ok (.aaload, 1) := by decide +kernel
theorem dX5_owedByAll_23 : decode cX5_owedByAll 23 = .ok (.astore 5, 2) := by decide +kernel
theorem dX5_owedByAll_25 : decode cX5_owedByAll 25 = .ok (.aload 5, 2) := by decide +kernel
theorem dX5_owedByAll_27 : decode cX5_owedByAll 27 = .ok (.ifnull 11, 3) := by decide +kernel
theorem dX5_owedByAll_30 : decode cX5_owedByAll 30 = .ok (.iload_n 1, 1) := by decide +kernel
theorem dX5_owedByAll_31 : decode cX5_owedByAll 31 = .ok (.aload 5, 2) := by decide +kernel
theorem dX5_owedByAll_33 : decode cX5_owedByAll 33 = .ok (.getfield 172, 3) := by decide +kernel
theorem dX5_owedByAll_36 : decode cX5_owedByAll 36 = .ok (.iadd, 1) := by decide +kernel
theorem dX5_owedByAll_37 : decode cX5_owedByAll 37 = .ok (.istore_n 1, 1) := by decide +kernel
theorem dX5_owedByAll_38 : decode cX5_owedByAll 38 = .ok (.iinc 4 1, 3) := by decide +kernel
theorem dX5_owedByAll_41 : decode cX5_owedByAll 41 = .ok (.goto (-28), 3) := by decide +kernel
