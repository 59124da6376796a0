theorem dX5_owedByAll_44 : decode cX5_owedByAll 44 = .ok (.iload_n 1, 1) := by decide +kernel
theorem dX5_owedByAll_45 : decode cX5_owedByAll 45 = .ok (.ireturn, 1) := by decide +kernel
theorem dX5_reasonAgainst_0 : decode cX5_reasonAgainst 0 = .ok (.aload_n 2, 1) := by decide +kernel
theorem dX5_reasonAgainst_1 : decode cX5_reasonAgainst 1 = .ok (.getfield 215, 3) := by decide +kernel
theorem dX5_reasonAgainst_4 : decode cX5_reasonAgainst 4 = .ok (.ifCond .eq 17, 3) := by decide +kernel
theorem dX5_reasonAgainst_7 : decode cX5_reasonAgainst 7 = .ok (.aload_n 2, 1) := by decide +kernel
theorem dX5_reasonAgainst_8 : decode cX5_reasonAgainst 8 = .ok (.aload_n 1, 1) := by decide +kernel
theorem dX5_reasonAgainst_9 : decode cX5_reasonAgainst 9 = .ok (.aload_n 2, 1) := by decide +kernel
theorem dX5_reasonAgainst_10 : decode cX5_reasonAgainst 10 = .ok (.getfield 192, 3) := by decide +kernel
theorem dX5_reasonAgainst_13 : decode cX5_reasonAgainst 13 = .ok (.invokevirtual 368, 3) := by decide +kernel
theorem dX5_reasonAgainst_16 : decode cX5_reasonAgainst 16 = .ok (.ifCond .ne 5, 3) := by decide +kernel
theorem dX5_reasonAgainst_19 : decode cX5_reasonAgainst 19 = .ok (.iconst 1, 1) := by decide +kernel
theorem dX5_reasonAgainst_20 : decode cX5_reasonAgainst 20 = .ok (.ireturn, 1) := by decide +kernel
theorem dX5_reasonAgainst_21 : decode cX5_reasonAgainst 21 = .ok (.aload_n 0, 1) := by decide +kernel
theorem dX5_reasonAgainst_22 : decode cX5_reasonAgainst 22 = .ok (.aload_n 1, 1) := by decide +kernel
theorem dX5_reasonAgainst_23 : decode cX5_reasonAgainst 23 = .ok (.iconst 1, 1) := by decide +kernel
theorem dX5_reasonAgainst_24 : decode cX5_reasonAgainst 24 = .ok (.invokevirtual 347, 3) := by decide +kernel
theorem dX5_reasonAgainst_27 : decode cX5_reasonAgainst 27 = .ok (.aload_n 1, 1) := by decide +kernel
theorem dX5_reasonAgainst_28 : decode cX5_reasonAgainst 28 = .ok (.invokevirtual 371, 3) := by decide +kernel
theorem dX5_reasonAgainst_31 : decode cX5_reasonAgainst 31 = .ok (.if_icmp .lt 5, 3) := by decide +kernel
theorem dX5_reasonAgainst_34 : decode cX5_reasonAgainst 34 = .ok (.iconst 2, 1) := by decide +kernel
theorem dX5_reasonAgainst_35 : decode cX5_reasonAgainst 35 = .ok (.ireturn, 1) := by decide +kernel
theorem dX5_reasonAgainst_36 : decode cX5_reasonAgainst 36 = .ok (.aload_n 1, 1) := by decide +kernel
theorem dX5_reasonAgainst_37 : decode cX5_reasonAgainst 37 = .ok (.getfield 172, 3) := by decide +kernel
theorem dX5_reasonAgainst_40 : decode cX5_reasonAgainst 40 = .ok (.bipush 50, 2) := by decide +kernel
theorem dX5_reasonAgainst_42 : decode cX5_reasonAgainst 42 = .ok (.if_icmp .le 5, 3) := by decide +kernel
theorem dX5_reasonAgainst_45 : decode cX5_reasonAgainst 45 = .ok (.iconst 3, 1) := by decide +kernel
theorem dX5_reasonAgainst_46 : decode cX5_reasonAgainst 46 = .ok (.ireturn, 1) := by decide +kernel
theorem dX5_reasonAgainst_47 : decode cX5_reasonAgainst 47 = .ok (.aload_n 0, 1) := by decide +kernel
theorem dX5_reasonAgainst_48 : decode cX5_reasonAgainst 48 = .ok (.aload_n 1, 1) := by decide +kernel
theorem dX5_reasonAgainst_49 : decode cX5_reasonAgainst 49 = .ok (.invokevirtual 353, 3) := by decide +kernel
theorem dX5_reasonAgainst_52 : decode cX5_reasonAgainst 52 = .ok (.ifCond .le 5, 3) := by decide +kernel
theorem dX5_reasonAgainst_55 : decode cX5_reasonAgainst 55 = .ok (.iconst 4, 1) := by decide +kernel
theorem dX5_reasonAgainst_56 : decode cX5_reasonAgainst 56 = .ok (.ireturn, 1) := by decide +kernel
theorem dX5_reasonAgainst_57 : decode cX5_reasonAgainst 57 = .ok (.iconst 0, 1) := by decide +kernel
theorem dX5_reasonAgainst_58 : decode cX5_reasonAgainst 58 = .ok (.ireturn, 1) := by decide +kernel
theorem dX5_borrowable_0 : decode cX5_borrowable 0 = .ok (.iconst 0, 1) := by decide +kernel
theorem dX5_borrowable_1 : decode cX5_borrowable 1 = .ok (.istore_n 2, 1) := by decide +kernel
theorem dX5_borrowable_2 : decode cX5_borrowable 2 = .ok (.aload_n 0, 1) := by decide +kernel
theorem dX5_borrowable_3 : decode cX5_borrowable 3 = .ok (.getfield 23, 3) := by decide +kernel
theorem dX5_borrowable_6 : decode cX5_borrowable 6 = .ok (.astore_n 3, 1) := by decide +kernel
theorem dX5_borrowable_7 : decode cX5_borrowable 7 = .ok (.aload_n 3, 1) := by decide +kernel
theorem dX5_borrowable_8 : decode cX5_borrowable 8 = .ok (.arraylength, 1) := by decide +kernel
theorem dX5_borrowable_9 : decode cX5_borrowable 9 = .ok (.istore 4, 2) := by decide +kernel
theorem dX5_borrowable_11 : decode cX5_borrowable 11 = .ok (.iconst 0, 1) := by decide +kernel
theorem dX5_borrowable_12 : decode cX5_borrowable 12 = .ok (.istore 5, 2) := by decide +kernel
theorem dX5_borrowable_14 : decode cX5_borrowable 14 = .ok (.iload 5, 2) := by decide +kernel
theorem dX5_borrowable_16 : decode cX5_borrowable 16 = .ok (.iload 4, 2) := by decide +kernel
theorem dX5_borrowable_18 : decode cX5_borrowable 18 = .ok (.if_icmp .ge 33, 3) := by decide +kernel
theorem dX5_borrowable_21 : decode cX5_borrowable 21 = .ok (.aload_n 3, 1) := by decide +kernel
theorem dX5_borrowable_22 : decode cX5_borrowable 22 = .ok (.iload 5, 2) := by decide +kernel
theorem dX5_borrowable_24 : decode cX5_borrowable 24 = .ok (.aaload, 1) := by decide +kernel
theorem dX5_borrowable_25 : decode cX5_borrowable 25 = .ok (.astore 6, 2) := by decide +kernel
theorem dX5_borrowable_27 : decode cX5_borrowable 27 = .ok (.aload 6, 2) := by decide +kernel
theorem dX5_borrowable_29 : decode cX5_borrowable 29 = .ok (.ifnull 16, 3) := by decide +kernel
theorem dX5_borrowable_32 : decode cX5_borrowable 32 = .ok (.aload_n 0, 1) := by decide +kernel
theorem dX5_borrowable_33 : decode cX5_borrowable 33 = .ok (.aload_n 1, 1) := by decide +kernel
theorem dX5_borrowable_34 : decode cX5_borrowable 34 = .ok (.aload 6, 2) := by decide +kernel
theorem dX5_borrowable_36 : decode cX5_borrowable 36 = .ok (.invokevirtual 175, 3) := by decide +kernel
theorem dX5_borrowable_39 : decode cX5_borrowable 39 = .ok (.ifCond .ne 6, 3) := by decide +kernel
theorem dX5_borrowable_42 : decode cX5_borrowable 42 = .ok (.iinc 2 1, 3) := by decide +kernel
theorem dX5_borrowable_45 : decode cX5_borrowable 45 = .ok (.iinc 5 1, 3) := by decide +kernel
theorem dX5_borrowable_48 : decode cX5_borrowable 48 = .ok (.goto (-34), 3) := by decide +kernel
theorem dX5_borrowable_51 : decode cX5_borrowable 51 = .ok (.iload_n 2, 1) := by decide +kernel
theorem dX5_borrowable_52 : decode cX5_borrowable 52 = .ok (.ireturn, 1) := by decide +kernel
theorem dX5_mayBeRenewed_0 : decode cX5_mayBeRenewed 0 = .ok (.aload_n 1, 1) := by decide +kernel
theorem dX5_mayBeRenewed_1 : decode cX5_mayBeRenewed 1 = .ok (.getfield 215, 3) := by decide +kernel
theorem dX5_mayBeRenewed_4 : decode cX5_mayBeRenewed 4 = .ok (.iconst 1, 1) := by decide +kernel
theorem dX5_mayBeRenewed_5 : decode cX5_mayBeRenewed 5 = .ok (.if_icmp .ne 37, 3) := by decide +kernel
theorem dX5_mayBeRenewed_8 : decode cX5_mayBeRenewed 8 = .ok (.aload_n 1, 1) := by decide +kernel
theorem dX5_mayBeRenewed_9 : decode cX5_mayBeRenewed 9 = .ok (.aload_n 0, 1) := by decide +kernel
theorem dX5_mayBeRenewed_10 : decode cX5_mayBeRenewed 10 = .ok (.getfield 181, 3) := by decide +kernel
theorem dX5_mayBeRenewed_13 : decode cX5_mayBeRenewed 13 = .ok (.invokevirtual 341, 3) := by decide +kernel
theorem dX5_mayBeRenewed_16 : decode cX5_mayBeRenewed 16 = .ok (.ifCond .ne 26, 3) := by decide +kernel
theorem dX5_mayBeRenewed_19 : decode cX5_mayBeRenewed 19 = .ok (.aload_n 1, 1) := by decide +kernel
theorem dX5_mayBeRenewed_20 : decode cX5_mayBeRenewed 20 = .ok (.getfield 212, 3) := by decide +kernel
theorem dX5_mayBeRenewed_23 : decode cX5_mayBeRenewed 23 = .ok (.iconst 2, 1) := by decide +kernel
theorem dX5_mayBeRenewed_24 : decode cX5_mayBeRenewed 24 = .ok (.if_icmp .ge 18, 3) := by decide +kernel
theorem dX5_mayBeRenewed_27 : decode cX5_mayBeRenewed 27 = .ok (.aload_n 0, 1) := by decide +kernel
theorem dX5_mayBeRenewed_28 : decode cX5_mayBeRenewed 28 = .ok (.aload_n 1, 1) := by decide +kernel
theorem dX5_mayBeRenewed_29 : decode cX5_mayBeRenewed 29 = .ok (.getfield 192, 3) := by decide +kernel
theorem dX5_mayBeRenewed_32 : decode cX5_mayBeRenewed 32 = .ok (.invokevirtual 374, 3) := by decide +kernel
theorem dX5_mayBeRenewed_35 : decode cX5_mayBeRenewed 35 = .ok (.ifnonnull 7, 3) := by decide +kernel
theorem dX5_mayBeRenewed_38 : decode cX5_mayBeRenewed 38 = .ok (.iconst 1, 1) := by decide +kernel
theorem dX5_mayBeRenewed_39 : decode cX5_mayBeRenewed 39 = .ok (.goto 4, 3) := by decide +kernel
theorem dX5_mayBeRenewed_42 : decode cX5_mayBeRenewed 42 = .ok (.iconst 0, 1) := by decide +kernel
theorem dX5_mayBeRenewed_43 : decode cX5_mayBeRenewed 43 = .ok (.ireturn, 1) := by decide +kernel
theorem dX5_hasCopyOf_0 : decode cX5_hasCopyOf 0 = .ok (.aload_n 0, 1) := by decide +kernel
theorem dX5_hasCopyOf_1 : decode cX5_hasCopyOf 1 = .ok (.getfield 23, 3) := by decide +kernel
theorem dX5_hasCopyOf_4 : decode cX5_hasCopyOf 4 = .ok (.astore_n 3, 1) := by decide +kernel
theorem dX5_hasCopyOf_5 : decode cX5_hasCopyOf 5 = .ok (.aload_n 3, 1) := by decide +kernel
theorem dX5_hasCopyOf_6 : decode cX5_hasCopyOf 6 = .ok (.arraylength, 1) := by decide +kernel
theorem dX5_hasCopyOf_7 : decode cX5_hasCopyOf 7 = .ok (.istore 4, 2) := by decide +kernel
theorem dX5_hasCopyOf_9 : decode cX5_hasCopyOf 9 = .ok (.iconst 0, 1) := by decide +kernel
theorem dX5_hasCopyOf_10 : decode cX5_hasCopyOf 10 = .ok (.istore 5, 2) := by decide +kernel
theorem dX5_hasCopyOf_12 : decode cX5_hasCopyOf 12 = .ok (.iload 5, 2) := by decide +kernel
theorem dX5_hasCopyOf_14 : decode cX5_hasCopyOf 14 = .ok (.iload 4, 2) := by decide +kernel
theorem dX5_hasCopyOf_16 : decode cX5_hasCopyOf 16 = .ok (.if_icmp .ge 49, 3) := by decide +kernel
theorem dX5_hasCopyOf_19 : decode cX5_hasCopyOf 19 = .ok (.aload_n 3, 1) := by decide +kernel
theorem dX5_hasCopyOf_20 : decode cX5_hasCopyOf 20 = .ok (.iload 5, 2) := by decide +kernel
theorem dX5_hasCopyOf_22 : decode cX5_hasCopyOf 22 = .ok (.aaload, 1) := by decide +kernel
theorem dX5_hasCopyOf_23 : decode cX5_hasCopyOf 23 = .ok (.astore 6, 2) := by decide +kernel
theorem dX5_hasCopyOf_25 : decode cX5_hasCopyOf 25 = .ok (.aload 6, 2) := by decide +kernel
theorem dX5_hasCopyOf_27 : decode cX5_hasCopyOf 27 = .ok (.ifnull 32, 3) := by decide +kernel
theorem dX5_hasCopyOf_30 : decode cX5_hasCopyOf 30 = .ok (.aload 6, 2) := by decide +kernel
theorem dX5_hasCopyOf_32 : decode cX5_hasCopyOf 32 = .ok (.getfield 192, 3) := by decide +kernel
theorem dX5_hasCopyOf_35 : decode cX5_hasCopyOf 35 = .ok (.aload_n 2, 1) := by decide +kernel
theorem dX5_hasCopyOf_36 : decode cX5_hasCopyOf 36 = .ok (.if_acmp .ne 23, 3) := by decide +kernel
theorem dX5_hasCopyOf_39 : decode cX5_hasCopyOf 39 = .ok (.aload 6, 2) := by decide +kernel
theorem dX5_hasCopyOf_41 : decode cX5_hasCopyOf 41 = .ok (.getfield 215, 3) := by decide +kernel
theorem dX5_hasCopyOf_44 : decode cX5_hasCopyOf 44 = .ok (.iconst 1, 1) := by decide +kernel
theorem dX5_hasCopyOf_45 : decode cX5_hasCopyOf 45 = .ok (.if_icmp .ne 14, 3) := by decide +kernel
theorem dX5_hasCopyOf_48 : decode cX5_hasCopyOf 48 = .ok (.aload 6, 2) := by decide +kernel
theorem dX5_hasCopyOf_50 : decode cX5_hasCopyOf 50 = .ok (.getfield 202, 3) := by decide +kernel
theorem dX5_hasCopyOf_53 : decode cX5_hasCopyOf 53 = .ok (.aload_n 1, 1) := by decide +kernel
theorem dX5_hasCopyOf_54 : decode cX5_hasCopyOf 54 = .ok (.if_acmp .ne 5, 3) := by decide +kernel
theorem dX5_hasCopyOf_57 : decode cX5_hasCopyOf 57 = .ok (.iconst 1, 1) := by decide +kernel
theorem dX5_hasCopyOf_58 : decode cX5_hasCopyOf 58 = .ok (.ireturn, 1) := by decide +kernel
theorem dX5_hasCopyOf_59 : decode cX5_hasCopyOf 59 = .ok (.iinc 5 1, 3) := by decide +kernel
theorem dX5_hasCopyOf_62 : decode cX5_hasCopyOf 62 = .ok (.goto (-50), 3) := by decide +kernel
theorem dX5_hasCopyOf_65 : decode cX5_hasCopyOf 65 = .ok (.iconst 0, 1) := by decide +kernel
theorem dX5_hasCopyOf_66 : decode cX5_hasCopyOf 66 = .ok (.ireturn, 1) := by decide +kernel
theorem dX5_firstAside_0 : decode cX5_firstAside 0 = .ok (.aload_n 0, 1) := by decide +kernel
theorem dX5_firstAside_1 : decode cX5_firstAside 1 = .ok (.getfield 23, 3) := by decide +kernel
theorem dX5_firstAside_4 : decode cX5_firstAside 4 = .ok (.astore_n 3, 1) := by decide +kernel
theorem dX5_firstAside_5 : decode cX5_firstAside 5 = .ok (.aload_n 3, 1) := by decide +kernel
theorem dX5_firstAside_6 : decode cX5_firstAside 6 = .ok (.arraylength, 1) := by decide +kernel
theorem dX5_firstAside_7 : decode cX5_firstAside 7 = .ok (.istore 4, 2) := by decide +kernel
theorem dX5_firstAside_9 : decode cX5_firstAside 9 = .ok (.iconst 0, 1) := by decide +kernel
theorem dX5_firstAside_10 : decode cX5_firstAside 10 = .ok (.istore 5, 2) := by decide +kernel
theorem dX5_firstAside_12 : decode cX5_firstAside 12 = .ok (.iload 5, 2) := by decide +kernel
theorem dX5_firstAside_14 : decode cX5_firstAside 14 = .ok (.iload 4, 2) := by decide +kernel
theorem dX5_firstAside_16 : decode cX5_firstAside 16 = .ok (.if_icmp .ge 33, 3) := by decide +kernel
theorem dX5_firstAside_19 : decode cX5_firstAside 19 = .ok (.aload_n 3, 1) := by decide +kernel
theorem dX5_firstAside_20 : decode cX5_firstAside 20 = .ok (.iload 5, 2) := by decide +kernel
theorem dX5_firstAside_22 : decode cX5_firstAside 22 = .ok (.aaload, 1) := by decide +kernel
theorem dX5_firstAside_23 : decode cX5_firstAside 23 = .ok (.astore 6, 2) := by decide +kernel
theorem dX5_firstAside_25 : decode cX5_firstAside 25 = .ok (.aload 6, 2) := by decide +kernel
theorem dX5_firstAside_27 : decode cX5_firstAside 27 = .ok (.ifnull 16, 3) := by decide +kernel
theorem dX5_firstAside_30 : decode cX5_firstAside 30 = .ok (.aload 6, 2) := by decide +kernel
theorem dX5_firstAside_32 : decode cX5_firstAside 32 = .ok (.aload_n 1, 1) := by decide +kernel
theorem dX5_firstAside_33 : decode cX5_firstAside 33 = .ok (.aload_n 2, 1) := by decide +kernel
theorem dX5_firstAside_34 : decode cX5_firstAside 34 = .ok (.invokevirtual 368, 3) := by decide +kernel
theorem dX5_firstAside_37 : decode cX5_firstAside 37 = .ok (.ifCond .eq 6, 3) := by decide +kernel
theorem dX5_firstAside_40 : decode cX5_firstAside 40 = .ok (.aload 6, 2) := by decide +kernel
theorem dX5_firstAside_42 : decode cX5_firstAside 42 = .ok (.areturn, 1) := by decide +kernel
theorem dX5_firstAside_43 : decode cX5_firstAside 43 = .ok (.iinc 5 1, 3) := by decide +kernel
theorem dX5_firstAside_46 : decode cX5_firstAside 46 = .ok (.goto (-34), 3) := by decide +kernel
theorem dX5_firstAside_49 : decode cX5_firstAside 49 = .ok (.aconst_null, 1) := by decide +kernel
theorem dX5_firstAside_50 : decode cX5_firstAside 50 = .ok (.areturn, 1) := by decide +kernel
theorem dX5_firstIn_0 : decode cX5_firstIn 0 = .ok (.aload_n 0, 1) := by decide +kernel
theorem dX5_firstIn_1 : decode cX5_firstIn 1 = .ok (.getfield 23, 3) := by decide +kernel
theorem dX5_firstIn_4 : decode cX5_firstIn 4 = .ok (.astore_n 2, 1) := by decide +kernel
theorem dX5_firstIn_5 : decode cX5_firstIn 5 = .ok (.aload_n 2, 1) := by decide +kernel
theorem dX5_firstIn_6 : decode cX5_firstIn 6 = .ok (.arraylength, 1) := by decide +kernel
theorem dX5_firstIn_7 : decode cX5_firstIn 7 = .ok (.istore_n 3, 1) := by decide +kernel
theorem dX5_firstIn_8 : decode cX5_firstIn 8 = .ok (.iconst 0, 1) := by decide +kernel
theorem dX5_firstIn_9 : decode cX5_firstIn 9 = .ok (.istore 4, 2) := by decide +kernel
theorem dX5_firstIn_11 : decode cX5_firstIn 11 = .ok (.iload 4, 2) := by decide +kernel
theorem dX5_firstIn_13 : decode cX5_firstIn 13 = .ok (.iload_n 3, 1) := by decide +kernel
theorem dX5_firstIn_14 : decode cX5_firstIn 14 = .ok (.if_icmp .ge 40, 3) := by decide +kernel
theorem dX5_firstIn_17 : decode cX5_firstIn 17 = .ok (.aload_n 2, 1) := by decide +kernel
theorem dX5_firstIn_18 : decode cX5_firstIn 18 = .ok (.iload 4, 2) := by decide +kernel
theorem dX5_firstIn_20 : decode cX5_firstIn 20 = .ok (.aaload, 1) := by decide +kernel
theorem dX5_firstIn_21 : decode cX5_firstIn 21 = .ok (.astore 5, 2) := by decide +kernel
theorem dX5_firstIn_23 : decode cX5_firstIn 23 = .ok (.aload 5, 2) := by decide +kernel
theorem dX5_firstIn_25 : decode cX5_firstIn 25 = .ok (.ifnull 23, 3) := by decide +kernel
theorem dX5_firstIn_28 : decode cX5_firstIn 28 = .ok (.aload 5, 2) := by decide +kernel
theorem dX5_firstIn_30 : decode cX5_firstIn 30 = .ok (.getfield 192, 3) := by decide +kernel
theorem dX5_firstIn_33 : decode cX5_firstIn 33 = .ok (.aload_n 1, 1) := by decide +kernel
theorem dX5_firstIn_34 : decode cX5_firstIn 34 = .ok (.if_acmp .ne 14, 3) := by decide +kernel
theorem dX5_firstIn_37 : decode cX5_firstIn 37 = .ok (.aload 5, 2) := by decide +kernel
theorem dX5_firstIn_39 : decode cX5_firstIn 39 = .ok (.getfield 215, 3) := by decide +kernel
theorem dX5_firstIn_42 : decode cX5_firstIn 42 = .ok (.ifCond .ne 6, 3) := by decide +kernel
theorem dX5_firstIn_45 : decode cX5_firstIn 45 = .ok (.aload 5, 2) := by decide +kernel
theorem dX5_firstIn_47 : decode cX5_firstIn 47 = .ok (.areturn, 1) := by decide +kernel
theorem dX5_firstIn_48 : decode cX5_firstIn 48 = .ok (.iinc 4 1, 3) := by decide +kernel
theorem dX5_firstIn_51 : decode cX5_firstIn 51 = .ok (.goto (-40), 3) := by decide +kernel
theorem dX5_firstIn_54 : decode cX5_firstIn 54 = .ok (.aconst_null, 1) := by decide +kernel
theorem dX5_firstIn_55 : decode cX5_firstIn 55 = .ok (.areturn, 1) := by decide +kernel
theorem dX5_firstWithNoneAside_0 : decode cX5_firstWithNoneAside 0 = .ok (.aload_n 1, 1) := by decide +kernel
theorem dX5_firstWithNoneAside_1 : decode cX5_firstWithNoneAside 1 = .ok (.getfield 235, 3) := by decide +kernel
theorem dX5_firstWithNoneAside_4 : decode cX5_firstWithNoneAside 4 = .ok (.getfield 378, 3) := by decide +kernel
theorem dX5_firstWithNoneAside_7 : decode cX5_firstWithNoneAside 7 = .ok (.astore_n 2, 1) := by decide +kernel
theorem dX5_firstWithNoneAside_8 : decode cX5_firstWithNoneAside 8 = .ok (.aload_n 2, 1) := by decide +kernel
theorem dX5_firstWithNoneAside_9 : decode cX5_firstWithNoneAside 9 = .ok (.arraylength, 1) := by decide +kernel
theorem dX5_firstWithNoneAside_10 : decode cX5_firstWithNoneAside 10 = .ok (.istore_n 3, 1) := by decide +kernel
theorem dX5_firstWithNoneAside_11 : decode cX5_firstWithNoneAside 11 = .ok (.iconst 0, 1) := by decide +kernel
theorem dX5_firstWithNoneAside_12 : decode cX5_firstWithNoneAside 12 = .ok (.istore 4, 2) := by decide +kernel
theorem dX5_firstWithNoneAside_14 : decode cX5_firstWithNoneAside 14 = .ok (.iload 4, 2) := by decide +kernel
theorem dX5_firstWithNoneAside_16 : decode cX5_firstWithNoneAside 16 = .ok (.iload_n 3, 1) := by decide +kernel
theorem dX5_firstWithNoneAside_17 : decode cX5_firstWithNoneAside 17 = .ok (.if_icmp .ge 33, 3) := by decide +kernel
theorem dX5_firstWithNoneAside_20 : decode cX5_firstWithNoneAside 20 = .ok (.aload_n 2, 1) := by decide +kernel
theorem dX5_firstWithNoneAside_21 : decode cX5_firstWithNoneAside 21 = .ok (.iload 4, 2) := by decide +kernel
theorem dX5_firstWithNoneAside_23 : decode cX5_firstWithNoneAside 23 = .ok (.aaload, 1) := by decide +kernel
theorem dX5_firstWithNoneAside_24 : decode cX5_firstWithNoneAside 24 = .ok (.astore 5, 2) := by decide +kernel
theorem dX5_firstWithNoneAside_26 : decode cX5_firstWithNoneAside 26 = .ok (.aload 5, 2) := by decide +kernel
theorem dX5_firstWithNoneAside_28 : decode cX5_firstWithNoneAside 28 = .ok (.ifnull 16, 3) := by decide +kernel
theorem dX5_firstWithNoneAside_31 : decode cX5_firstWithNoneAside 31 = .ok (.aload_n 0, 1) := by decide +kernel
theorem dX5_firstWithNoneAside_32 : decode cX5_firstWithNoneAside 32 = .ok (.aload 5, 2) := by decide +kernel
theorem dX5_firstWithNoneAside_34 : decode cX5_firstWithNoneAside 34 = .ok (.aload_n 1, 1) := by decide +kernel
theorem dX5_firstWithNoneAside_35 : decode cX5_firstWithNoneAside 35 = .ok (.invokevirtual 286, 3) := by decide +kernel
theorem dX5_firstWithNoneAside_38 : decode cX5_firstWithNoneAside 38 = .ok (.ifnonnull 6, 3) := by decide +kernel
theorem dX5_firstWithNoneAside_41 : decode cX5_firstWithNoneAside 41 = .ok (.aload 5, 2) := by decide +kernel
theorem dX5_firstWithNoneAside_43 : decode cX5_firstWithNoneAside 43 = .ok (.areturn, 1) := by decide +kernel
theorem dX5_firstWithNoneAside_44 : decode cX5_firstWithNoneAside 44 = .ok (.iinc 4 1, 3) := by decide +kernel
theorem dX5_firstWithNoneAside_47 : decode cX5_firstWithNoneAside 47 = .ok (.goto (-33), 3) := by decide +kernel
theorem dX5_firstWithNoneAside_50 : decode cX5_firstWithNoneAside 50 = .ok (.aconst_null, 1) := by decide +kernel
theorem dX5_firstWithNoneAside_51 : decode cX5_firstWithNoneAside 51 = .ok (.areturn, 1) := by decide +kernel
theorem dX5_free_0 : decode cX5_free 0 = .ok (.aload_n 1, 1) := by decide +kernel
theorem dX5_free_1 : decode cX5_free 1 = .ok (.iconst 0, 1) := by decide +kernel
theorem dX5_free_2 : decode cX5_free 2 = .ok (.aconst_null, 1) := by decide +kernel
theorem dX5_free_3 : decode cX5_free 3 = .ok (.iconst (-1), 1) := by decide +kernel
theorem dX5_free_4 : decode cX5_free 4 = .ok (.invokevirtual 188, 3) := by decide +kernel
theorem dX5_free_7 : decode cX5_free 7 = .ok (.aload_n 0, 1) := by decide +kernel
theorem dX5_free_8 : decode cX5_free 8 = .ok (.aload_n 1, 1) := by decide +kernel
theorem dX5_free_9 : decode cX5_free 9 = .ok (.getfield 192, 3) := by decide +kernel
theorem dX5_free_12 : decode cX5_free 12 = .ok (.invokevirtual 374, 3) := by decide +kernel
theorem dX5_free_15 : decode cX5_free 15 = .ok (.astore_n 2, 1) := by decide +kernel
theorem dX5_free_16 : decode cX5_free 16 = .ok (.aload_n 2, 1) := by decide +kernel
theorem dX5_free_17 : decode cX5_free 17 = .ok (.ifnull 16, 3) := by decide +kernel
theorem dX5_free_20 : decode cX5_free 20 = .ok (.aload_n 1, 1) := by decide +kernel
theorem dX5_free_21 : decode cX5_free 21 = .ok (.iconst 2, 1) := by decide +kernel
theorem dX5_free_22 : decode cX5_free 22 = .ok (.aload_n 2, 1) := by decide +kernel
theorem dX5_free_23 : decode cX5_free 23 = .ok (.aload_n 0, 1) := by decide +kernel
theorem dX5_free_24 : decode cX5_free 24 = .ok (.getfield 181, 3) := by decide +kernel
theorem dX5_free_27 : decode cX5_free 27 = .ok (.bipush 6, 2) := by decide +kernel
theorem dX5_free_29 : decode cX5_free 29 = .ok (.iadd, 1) := by decide +kernel
theorem dX5_free_30 : decode cX5_free 30 = .ok (.invokevirtual 188, 3) := by decide +kernel
theorem dX5_free_33 : decode cX5_free 33 = .ok (.return_, 1) := by decide +kernel
theorem dX5_endWait_0 : decode cX5_endWait 0 = .ok (.aload_n 2, 1) := by decide +kernel
theorem dX5_endWait_1 : decode cX5_endWait 1 = .ok (.getfield 235, 3) := by decide +kernel
theorem dX5_endWait_4 : decode cX5_endWait 4 = .ok (.aload_n 1, 1) := by decide +kernel
theorem dX5_endWait_5 : decode cX5_endWait 5 = .ok (.invokevirtual 379, 3) := by decide +kernel
theorem dX5_endWait_8 : decode cX5_endWait 8 = .ok (.aload_n 0, 1) := by decide +kernel
theorem dX5_endWait_9 : decode cX5_endWait 9 = .ok (.getfield 23, 3) := by decide +kernel
theorem dX5_endWait_12 : decode cX5_endWait 12 = .ok (.astore_n 3, 1) := by decide +kernel
theorem dX5_endWait_13 : decode cX5_endWait 13 = .ok (.aload_n 3, 1) := by decide +kernel
theorem dX5_endWait_14 : decode cX5_endWait 14 = .ok (.arraylength, 1) := by decide +kernel
theorem dX5_endWait_15 : decode cX5_endWait 15 = .ok (.istore 4, 2) := by decide +kernel
theorem dX5_endWait_17 : decode cX5_endWait 17 = .ok (.iconst 0, 1) := by decide +kernel
theorem dX5_endWait_18 : decode cX5_endWait 18 = .ok (.istore 5, 2) := by decide +kernel
theorem dX5_endWait_20 : decode cX5_endWait 20 = .ok (.iload 5, 2) := by decide +kernel
theorem dX5_endWait_22 : decode cX5_endWait 22 = .ok (.iload 4, 2) := by decide +kernel
theorem dX5_endWait_24 : decode cX5_endWait 24 = .ok (.if_icmp .ge 36, 3) := by decide +kernel
theorem dX5_endWait_27 : decode cX5_endWait 27 = .ok (.aload_n 3, 1) := by decide +kernel
theorem dX5_endWait_28 : decode cX5_endWait 28 = .ok (.iload 5, 2) := by decide +kernel
theorem dX5_endWait_30 : decode cX5_endWait 30 = .ok (.aaload, 1) := by decide +kernel
theorem dX5_endWait_31 : decode cX5_endWait 31 = .ok (.astore 6, 2) := by decide +kernel
theorem dX5_endWait_33 : decode cX5_endWait 33 = .ok (.aload 6, 2) := by decide +kernel
theorem dX5_endWait_35 : decode cX5_endWait 35 = .ok (.ifnull 19, 3) := by decide +kernel
theorem dX5_endWait_38 : decode cX5_endWait 38 = .ok (.aload 6, 2) := by decide +kernel
theorem dX5_endWait_40 : decode cX5_endWait 40 = .ok (.aload_n 1, 1) := by decide +kernel
theorem dX5_endWait_41 : decode cX5_endWait 41 = .ok (.aload_n 2, 1) := by decide +kernel
theorem dX5_endWait_42 : decode cX5_endWait 42 = .ok (.invokevirtual 368, 3) := by decide +kernel
theorem dX5_endWait_45 : decode cX5_endWait 45 = .ok (.ifCond .eq 9, 3) := by decide +kernel
theorem dX5_endWait_48 : decode cX5_endWait 48 = .ok (.aload_n 0, 1) := by decide +kernel
theorem dX5_endWait_49 : decode cX5_endWait 49 = .ok (.aload 6, 2) := by decide +kernel
theorem dX5_endWait_51 : decode cX5_endWait 51 = .ok (.invokevirtual 144, 3) := by decide +kernel
theorem dX5_endWait_54 : decode cX5_endWait 54 = .ok (.iinc 5 1, 3) := by decide +kernel
theorem dX5_endWait_57 : decode cX5_endWait 57 = .ok (.goto (-37), 3) := by decide +kernel
theorem dX5_endWait_60 : decode cX5_endWait 60 = .ok (.return_, 1) := by decide +kernel
theorem dX5_moveCopies_0 : decode cX5_moveCopies 0 = .ok (.aload_n 0, 1) := by decide +kernel
theorem dX5_moveCopies_1 : decode cX5_moveCopies 1 = .ok (.getfield 23, 3) := by decide +kernel
theorem dX5_moveCopies_4 : decode cX5_moveCopies 4 = .ok (.astore_n 3, 1) := by decide +kernel
theorem dX5_moveCopies_5 : decode cX5_moveCopies 5 = .ok (.aload_n 3, 1) := by decide +kernel
theorem dX5_moveCopies_6 : decode cX5_moveCopies 6 = .ok (.arraylength, 1) := by decide +kernel
theorem dX5_moveCopies_7 : decode cX5_moveCopies 7 = .ok (.istore 4, 2) := by decide +kernel
theorem dX5_moveCopies_9 : decode cX5_moveCopies 9 = .ok (.iconst 0, 1) := by decide +kernel
theorem dX5_moveCopies_10 : decode cX5_moveCopies 10 = .ok (.istore 5, 2) := by decide +kernel
theorem dX5_moveCopies_12 : decode cX5_moveCopies 12 = .ok (.iload 5, 2) := by decide +kernel
theorem dX5_moveCopies_14 : decode cX5_moveCopies 14 = .ok (.iload 4, 2) := by decide +kernel
theorem dX5_moveCopies_16 : decode cX5_moveCopies 16 = .ok (.if_icmp .ge 35, 3) := by decide +kernel
theorem dX5_moveCopies_19 : decode cX5_moveCopies 19 = .ok (.aload_n 3, 1) := by decide +kernel
theorem dX5_moveCopies_20 : decode cX5_moveCopies 20 = .ok (.iload 5, 2) := by decide +kernel
theorem dX5_moveCopies_22 : decode cX5_moveCopies 22 = .ok (.aaload, 1) := by decide +kernel
theorem dX5_moveCopies_23 : decode cX5_moveCopies 23 = .ok (.astore 6, 2) := by decide +kernel
theorem dX5_moveCopies_25 : decode cX5_moveCopies 25 = .ok (.aload 6, 2) := by decide +kernel
theorem dX5_moveCopies_27 : decode cX5_moveCopies 27 = .ok (.ifnull 18, 3) := by decide +kernel
theorem dX5_moveCopies_30 : decode cX5_moveCopies 30 = .ok (.aload 6, 2) := by decide +kernel
theorem dX5_moveCopies_32 : decode cX5_moveCopies 32 = .ok (.getfield 192, 3) := by decide +kernel
theorem dX5_moveCopies_35 : decode cX5_moveCopies 35 = .ok (.aload_n 1, 1) := by decide +kernel
theorem dX5_moveCopies_36 : decode cX5_moveCopies 36 = .ok (.if_acmp .ne 9, 3) := by decide +kernel
theorem dX5_moveCopies_39 : decode cX5_moveCopies 39 = .ok (.aload 6, 2) := by decide +kernel
theorem dX5_moveCopies_41 : decode cX5_moveCopies 41 = .ok (.aload_n 2, 1) := by decide +kernel
theorem dX5_moveCopies_42 : decode cX5_moveCopies 42 = .ok (.putfield 192, 3) := by decide +kernel
theorem dX5_moveCopies_45 : decode cX5_moveCopies 45 = .ok (.iinc 5 1, 3) := by decide +kernel
theorem dX5_moveCopies_48 : decode cX5_moveCopies 48 = .ok (.goto (-36), 3) := by decide +kernel
theorem dX5_moveCopies_51 : decode cX5_moveCopies 51 = .ok (.return_, 1) := by decide +kernel
theorem dX5_moveWaiters_0 : decode cX5_moveWaiters 0 = .ok (.aload_n 1, 1) := by decide +kernel
theorem dX5_moveWaiters_1 : decode cX5_moveWaiters 1 = .ok (.getfield 235, 3) := by decide +kernel
theorem dX5_moveWaiters_4 : decode cX5_moveWaiters 4 = .ok (.getfield 378, 3) := by decide +kernel
theorem dX5_moveWaiters_7 : decode cX5_moveWaiters 7 = .ok (.astore_n 3, 1) := by decide +kernel
theorem dX5_moveWaiters_8 : decode cX5_moveWaiters 8 = .ok (.aload_n 3, 1) := by decide +kernel
theorem dX5_moveWaiters_9 : decode cX5_moveWaiters 9 = .ok (.arraylength, 1) := by decide +kernel
theorem dX5_moveWaiters_10 : decode cX5_moveWaiters 10 = .ok (.istore 4, 2) := by decide +kernel
theorem dX5_moveWaiters_12 : decode cX5_moveWaiters 12 = .ok (.iconst 0, 1) := by decide +kernel
theorem dX5_moveWaiters_13 : decode cX5_moveWaiters 13 = .ok (.istore 5, 2) := by decide +kernel
theorem dX5_moveWaiters_15 : decode cX5_moveWaiters 15 = .ok (.iload 5, 2) := by decide +kernel
theorem dX5_moveWaiters_17 : decode cX5_moveWaiters 17 = .ok (.iload 4, 2) := by decide +kernel
theorem dX5_moveWaiters_19 : decode cX5_moveWaiters 19 = .ok (.if_icmp .ge 51, 3) := by decide +kernel
theorem dX5_moveWaiters_22 : decode cX5_moveWaiters 22 = .ok (.aload_n 3, 1) := by decide +kernel
theorem dX5_moveWaiters_23 : decode cX5_moveWaiters 23 = .ok (.iload 5, 2) := by decide +kernel
theorem dX5_moveWaiters_25 : decode cX5_moveWaiters 25 = .ok (.aaload, 1) := by decide +kernel
theorem dX5_moveWaiters_26 : decode cX5_moveWaiters 26 = .ok (.astore 6, 2) := by decide +kernel
theorem dX5_moveWaiters_28 : decode cX5_moveWaiters 28 = .ok (.aload 6, 2) := by decide +kernel
theorem dX5_moveWaiters_30 : decode cX5_moveWaiters 30 = .ok (.ifnull 34, 3) := by decide +kernel
theorem dX5_moveWaiters_33 : decode cX5_moveWaiters 33 = .ok (.aload_n 2, 1) := by decide +kernel
theorem dX5_moveWaiters_34 : decode cX5_moveWaiters 34 = .ok (.getfield 235, 3) := by decide +kernel
theorem dX5_moveWaiters_37 : decode cX5_moveWaiters 37 = .ok (.aload 6, 2) := by decide +kernel
theorem dX5_moveWaiters_39 : decode cX5_moveWaiters 39 = .ok (.invokevirtual 239, 3) := by decide +kernel
theorem dX5_moveWaiters_42 : decode cX5_moveWaiters 42 = .ok (.ifCond .ne 22, 3) := by decide +kernel
theorem dX5_moveWaiters_45 : decode cX5_moveWaiters 45 = .ok (.aload_n 0, 1) := by decide +kernel
theorem dX5_moveWaiters_46 : decode cX5_moveWaiters 46 = .ok (.aload 6, 2) := by decide +kernel
theorem dX5_moveWaiters_48 : decode cX5_moveWaiters 48 = .ok (.aload_n 2, 1) := by decide +kernel
theorem dX5_moveWaiters_49 : decode cX5_moveWaiters 49 = .ok (.invokevirtual 245, 3) := by decide +kernel
theorem dX5_moveWaiters_52 : decode cX5_moveWaiters 52 = .ok (.ifCond .ne 12, 3) := by decide +kernel
theorem dX5_moveWaiters_55 : decode cX5_moveWaiters 55 = .ok (.aload_n 2, 1) := by decide +kernel
theorem dX5_moveWaiters_56 : decode cX5_moveWaiters 56 = .ok (.getfield 235, 3) := by decide +kernel
theorem dX5_moveWaiters_59 : decode cX5_moveWaiters 59 = .ok (.aload 6, 2) := by decide +kernel
theorem dX5_moveWaiters_61 : decode cX5_moveWaiters 61 = .ok (.invokevirtual 251, 3) := by decide +kernel
theorem dX5_moveWaiters_64 : decode cX5_moveWaiters 64 = .ok (.iinc 5 1, 3) := by decide +kernel
theorem dX5_moveWaiters_67 : decode cX5_moveWaiters 67 = .ok (.goto (-52), 3) := by decide +kernel
theorem dX5_moveWaiters_70 : decode cX5_moveWaiters 70 = .ok (.aload_n 1, 1) := by decide +kernel
theorem dX5_moveWaiters_71 : decode cX5_moveWaiters 71 = .ok (.getfield 235, 3) := by decide +kernel
theorem dX5_moveWaiters_74 : decode cX5_moveWaiters 74 = .ok (.invokevirtual 382, 3) := by decide +kernel
theorem dX5_moveWaiters_77 : decode cX5_moveWaiters 77 = .ok (.return_, 1) := by decide +kernel
theorem dX5_freeThoseWronglyAside_0 : decode cX5_freeThoseWronglyAside 0 = .ok (.aload_n 0, 1) := by decide +kernel
theorem dX5_freeThoseWronglyAside_1 : decode cX5_freeThoseWronglyAside 1 = .ok (.getfield 23, 3) := by decide +kernel
theorem dX5_freeThoseWronglyAside_4 : decode cX5_freeThoseWronglyAside 4 = .ok (.astore_n 1, 1) := by decide +kernel
theorem dX5_freeThoseWronglyAside_5 : decode cX5_freeThoseWronglyAside 5 = .ok (.aload_n 1, 1) := by decide +kernel
theorem dX5_freeThoseWronglyAside_6 : decode cX5_freeThoseWronglyAside 6 = .ok (.arraylength, 1) := by decide +kernel
theorem dX5_freeThoseWronglyAside_7 : decode cX5_freeThoseWronglyAside 7 = .ok (.istore_n 2, 1) := by decide +kernel
theorem dX5_freeThoseWronglyAside_8 : decode cX5_freeThoseWronglyAside 8 = .ok (.iconst 0, 1) := by decide +kernel
theorem dX5_freeThoseWronglyAside_9 : decode cX5_freeThoseWronglyAside 9 = .ok (.istore_n 3, 1) := by decide +kernel
theorem dX5_freeThoseWronglyAside_10 : decode cX5_freeThoseWronglyAside 10 = .ok (.iload_n 3, 1) := by decide +kernel
theorem dX5_freeThoseWronglyAside_11 : decode cX5_freeThoseWronglyAside 11 = .ok (.iload_n 2, 1) := by decide +kernel
theorem dX5_freeThoseWronglyAside_12 : decode cX5_freeThoseWronglyAside 12 = .ok (.if_icmp .ge 43, 3) := by decide +kernel
theorem dX5_freeThoseWronglyAside_15 : decode cX5_freeThoseWronglyAside 15 = .ok (.aload_n 1, 1) := by decide +kernel
theorem dX5_freeThoseWronglyAside_16 : decode cX5_freeThoseWronglyAside 16 = .ok (.iload_n 3, 1) := by decide +kernel
theorem dX5_freeThoseWronglyAside_17 : decode cX5_freeThoseWronglyAside 17 = .ok (.aaload, 1) := by decide +kernel
theorem dX5_freeThoseWronglyAside_18 : decode cX5_freeThoseWronglyAside 18 = .ok (.astore 4, 2) := by decide +kernel
theorem dX5_freeThoseWronglyAside_20 : decode cX5_freeThoseWronglyAside 20 = .ok (.aload 4, 2) := by decide +kernel
theorem dX5_freeThoseWronglyAside_22 : decode cX5_freeThoseWronglyAside 22 = .ok (.ifnull 27, 3) := by decide +kernel
theorem dX5_freeThoseWronglyAside_25 : decode cX5_freeThoseWronglyAside 25 = .ok (.aload 4, 2) := by decide +kernel
theorem dX5_freeThoseWronglyAside_27 : decode cX5_freeThoseWronglyAside 27 = .ok (.getfield 215, 3) := by decide +kernel
theorem dX5_freeThoseWronglyAside_30 : decode cX5_freeThoseWronglyAside 30 = .ok (.iconst 2, 1) := by decide +kernel
theorem dX5_freeThoseWronglyAside_31 : decode cX5_freeThoseWronglyAside 31 = .ok (.if_icmp .ne 18, 3) := by decide +kernel
theorem dX5_freeThoseWronglyAside_34 : decode cX5_freeThoseWronglyAside 34 = .ok (.aload_n 0, 1) := by decide +kernel
theorem dX5_freeThoseWronglyAside_35 : decode cX5_freeThoseWronglyAside 35 = .ok (.aload 4, 2) := by decide +kernel
theorem dX5_freeThoseWronglyAside_37 : decode cX5_freeThoseWronglyAside 37 = .ok (.invokevirtual 385, 3) := by decide +kernel
theorem dX5_freeThoseWronglyAside_40 : decode cX5_freeThoseWronglyAside 40 = .ok (.ifCond .ne 9, 3) := by decide +kernel
theorem dX5_freeThoseWronglyAside_43 : decode cX5_freeThoseWronglyAside 43 = .ok (.aload_n 0, 1) := by decide +kernel
theorem dX5_freeThoseWronglyAside_44 : decode cX5_freeThoseWronglyAside 44 = .ok (.aload 4, 2) := by decide +kernel
theorem dX5_freeThoseWronglyAside_46 : decode cX5_freeThoseWronglyAside 46 = .ok (.invokevirtual 144, 3) := by decide +kernel
theorem dX5_freeThoseWronglyAside_49 : decode cX5_freeThoseWronglyAside 49 = .ok (.iinc 3 1, 3) := by decide +kernel
theorem dX5_freeThoseWronglyAside_52 : decode cX5_freeThoseWronglyAside 52 = .ok (.goto (-42), 3) := by decide +kernel
theorem dX5_freeThoseWronglyAside_55 : decode cX5_freeThoseWronglyAside 55 = .ok (.return_, 1) := by decide +kernel
theorem dX5_isRightlyAside_0 : decode cX5_isRightlyAside 0 = .ok (.aload_n 1, 1) := by decide +kernel
theorem dX5_isRightlyAside_1 : decode cX5_isRightlyAside 1 = .ok (.getfield 192, 3) := by decide +kernel
theorem dX5_isRightlyAside_4 : decode cX5_isRightlyAside 4 = .ok (.getfield 235, 3) := by decide +kernel
theorem dX5_isRightlyAside_7 : decode cX5_isRightlyAside 7 = .ok (.aload_n 1, 1) := by decide +kernel
theorem dX5_isRightlyAside_8 : decode cX5_isRightlyAside 8 = .ok (.getfield 202, 3) := by decide +kernel
theorem dX5_isRightlyAside_11 : decode cX5_isRightlyAside 11 = .ok (.invokevirtual 239, 3) := by decide +kernel
theorem dX5_isRightlyAside_14 : decode cX5_isRightlyAside 14 = .ok (.ifCond .eq 23, 3) := by decide +kernel
theorem dX5_isRightlyAside_17 : decode cX5_isRightlyAside 17 = .ok (.aload_n 0, 1) := by decide +kernel
theorem dX5_isRightlyAside_18 : decode cX5_isRightlyAside 18 = .ok (.aload_n 1, 1) := by decide +kernel
theorem dX5_isRightlyAside_19 : decode cX5_isRightlyAside 19 = .ok (.getfield 202, 3) := by decide +kernel
theorem dX5_isRightlyAside_22 : decode cX5_isRightlyAside 22 = .ok (.aload_n 1, 1) := by decide +kernel
theorem dX5_isRightlyAside_23 : decode cX5_isRightlyAside 23 = .ok (.getfield 192, 3) := by decide +kernel
theorem dX5_isRightlyAside_26 : decode cX5_isRightlyAside 26 = .ok (.invokevirtual 286, 3) := by decide +kernel
theorem dX5_isRightlyAside_29 : decode cX5_isRightlyAside 29 = .ok (.aload_n 1, 1) := by decide +kernel
theorem dX5_isRightlyAside_30 : decode cX5_isRightlyAside 30 = .ok (.if_acmp .ne 7, 3) := by decide +kernel
theorem dX5_isRightlyAside_33 : decode cX5_isRightlyAside 33 = .ok (.iconst 1, 1) := by decide +kernel
theorem dX5_isRightlyAside_34 : decode cX5_isRightlyAside 34 = .ok (.goto 4, 3) := by decide +kernel
theorem dX5_isRightlyAside_37 : decode cX5_isRightlyAside 37 = .ok (.iconst 0, 1) := by decide +kernel
theorem dX5_isRightlyAside_38 : decode cX5_isRightlyAside 38 = .ok (.ireturn, 1) := by decide +kernel
theorem dX5_freeThoseIn_0 : decode cX5_freeThoseIn 0 = .ok (.aload_n 0, 1) := by decide +kernel
theorem dX5_freeThoseIn_1 : decode cX5_freeThoseIn 1 = .ok (.getfield 23, 3) := by decide +kernel
theorem dX5_freeThoseIn_4 : decode cX5_freeThoseIn 4 = .ok (.astore_n 1, 1) := by decide +kernel
theorem dX5_freeThoseIn_5 : decode cX5_freeThoseIn 5 = .ok (.aload_n 1, 1) := by decide +kernel
theorem dX5_freeThoseIn_6 : decode cX5_freeThoseIn 6 = .ok (.arraylength, 1) := by decide +kernel
theorem dX5_freeThoseIn_7 : decode cX5_freeThoseIn 7 = .ok (.istore_n 2, 1) := by decide +kernel
theorem dX5_freeThoseIn_8 : decode cX5_freeThoseIn 8 = .ok (.iconst 0, 1) := by decide +kernel
theorem dX5_freeThoseIn_9 : decode cX5_freeThoseIn 9 = .ok (.istore_n 3, 1) := by decide +kernel
theorem dX5_freeThoseIn_10 : decode cX5_freeThoseIn 10 = .ok (.iload_n 3, 1) := by decide +kernel
theorem dX5_freeThoseIn_11 : decode cX5_freeThoseIn 11 = .ok (.iload_n 2, 1) := by decide +kernel
theorem dX5_freeThoseIn_12 : decode cX5_freeThoseIn 12 = .ok (.if_icmp .ge 33, 3) := by decide +kernel
theorem dX5_freeThoseIn_15 : decode cX5_freeThoseIn 15 = .ok (.aload_n 1, 1) := by decide +kernel
theorem dX5_freeThoseIn_16 : decode cX5_freeThoseIn 16 = .ok (.iload_n 3, 1) := by decide +kernel
theorem dX5_freeThoseIn_17 : decode cX5_freeThoseIn 17 = .ok (.aaload, 1) := by decide +kernel
theorem dX5_freeThoseIn_18 : decode cX5_freeThoseIn 18 = .ok (.astore 4, 2) := by decide +kernel
theorem dX5_freeThoseIn_20 : decode cX5_freeThoseIn 20 = .ok (.aload 4, 2) := by decide +kernel
theorem dX5_freeThoseIn_22 : decode cX5_freeThoseIn 22 = .ok (.ifnull 17, 3) := by decide +kernel
theorem dX5_freeThoseIn_25 : decode cX5_freeThoseIn 25 = .ok (.aload 4, 2) := by decide +kernel
theorem dX5_freeThoseIn_27 : decode cX5_freeThoseIn 27 = .ok (.getfield 215, 3) := by decide +kernel
theorem dX5_freeThoseIn_30 : decode cX5_freeThoseIn 30 = .ok (.ifCond .ne 9, 3) := by decide +kernel
theorem dX5_freeThoseIn_33 : decode cX5_freeThoseIn 33 = .ok (.aload_n 0, 1) := by decide +kernel
theorem dX5_freeThoseIn_34 : decode cX5_freeThoseIn 34 = .ok (.aload 4, 2) := by decide +kernel
theorem dX5_freeThoseIn_36 : decode cX5_freeThoseIn 36 = .ok (.invokevirtual 144, 3) := by decide +kernel
theorem dX5_freeThoseIn_39 : decode cX5_freeThoseIn 39 = .ok (.iinc 3 1, 3) := by decide +kernel
theorem dX5_freeThoseIn_42 : decode cX5_freeThoseIn 42 = .ok (.goto (-32), 3) := by decide +kernel
theorem dX5_freeThoseIn_45 : decode cX5_freeThoseIn 45 = .ok (.return_, 1) := by decide +kernel
theorem dX5_passOneDay_0 : decode cX5_passOneDay 0 = .ok (.aload_n 0, 1) := by decide +kernel
theorem dX5_passOneDay_1 : decode cX5_passOneDay 1 = .ok (.dup, 1) := by decide +kernel
theorem dX5_passOneDay_2 : decode cX5_passOneDay 2 = .ok (.getfield 181, 3) := by decide +kernel
theorem dX5_passOneDay_5 : decode cX5_passOneDay 5 = .ok (.iconst 1, 1) := by decide +kernel
theorem dX5_passOneDay_6 : decode cX5_passOneDay 6 = .ok (.iadd, 1) := by decide +kernel
theorem dX5_passOneDay_7 : decode cX5_passOneDay 7 = .ok (.putfield 181, 3) := by decide +kernel
theorem dX5_passOneDay_10 : decode cX5_passOneDay 10 = .ok (.iconst 0, 1) := by decide +kernel
theorem dX5_passOneDay_11 : decode cX5_passOneDay 11 = .ok (.istore_n 1, 1) := by decide +kernel
theorem dX5_passOneDay_12 : decode cX5_passOneDay 12 = .ok (.aload_n 0, 1) := by decide +kernel
theorem dX5_passOneDay_13 : decode cX5_passOneDay 13 = .ok (.getfield 23, 3) := by decide +kernel
theorem dX5_passOneDay_16 : decode cX5_passOneDay 16 = .ok (.astore_n 2, 1) := by decide +kernel
theorem dX5_passOneDay_17 : decode cX5_passOneDay 17 = .ok (.aload_n 2, 1) := by decide +kernel
theorem dX5_passOneDay_18 : decode cX5_passOneDay 18 = .ok (.arraylength, 1) := by decide +kernel
theorem dX5_passOneDay_19 : decode cX5_passOneDay 19 = .ok (.istore_n 3, 1) := by decide +kernel
theorem dX5_passOneDay_20 : decode cX5_passOneDay 20 = .ok (.iconst 0, 1) := by decide +kernel
theorem dX5_passOneDay_21 : decode cX5_passOneDay 21 = .ok (.istore 4, 2) := by decide +kernel
theorem dX5_passOneDay_23 : decode cX5_passOneDay 23 = .ok (.iload 4, 2) := by decide +kernel
theorem dX5_passOneDay_25 : decode cX5_passOneDay 25 = .ok (.iload_n 3, 1) := by decide +kernel
theorem dX5_passOneDay_26 : decode cX5_passOneDay 26 = .ok (.if_icmp .ge 84, 3) := by decide +kernel
theorem dX5_passOneDay_29 : decode cX5_passOneDay 29 = .ok (.aload_n 2, 1) := by decide +kernel
theorem dX5_passOneDay_30 : decode cX5_passOneDay 30 = .ok (.iload 4, 2) := by decide +kernel
theorem dX5_passOneDay_32 : decode cX5_passOneDay 32 = .ok (.aaload, 1) := by decide +kernel
theorem dX5_passOneDay_33 : decode cX5_passOneDay 33 = .ok (.astore 5, 2) := by decide +kernel
theorem dX5_passOneDay_35 : decode cX5_passOneDay 35 = .ok (.aload 5, 2) := by decide +kernel
theorem dX5_passOneDay_37 : decode cX5_passOneDay 37 = .ok (.ifnull 41, 3) := by decide +kernel
theorem dX5_passOneDay_40 : decode cX5_passOneDay 40 = .ok (.aload 5, 2) := by decide +kernel
theorem dX5_passOneDay_42 : decode cX5_passOneDay 42 = .ok (.getfield 215, 3) := by decide +kernel
theorem dX5_passOneDay_45 : decode cX5_passOneDay 45 = .ok (.iconst 2, 1) := by decide +kernel
theorem dX5_passOneDay_46 : decode cX5_passOneDay 46 = .ok (.if_icmp .ne 32, 3) := by decide +kernel
theorem dX5_passOneDay_49 : decode cX5_passOneDay 49 = .ok (.aload 5, 2) := by decide +kernel
theorem dX5_passOneDay_51 : decode cX5_passOneDay 51 = .ok (.getfield 199, 3) := by decide +kernel
theorem dX5_passOneDay_54 : decode cX5_passOneDay 54 = .ok (.aload_n 0, 1) := by decide +kernel
theorem dX5_passOneDay_55 : decode cX5_passOneDay 55 = .ok (.getfield 181, 3) := by decide +kernel
theorem dX5_passOneDay_58 : decode cX5_passOneDay 58 = .ok (.if_icmp .ge 20, 3) := by decide +kernel
theorem dX5_passOneDay_61 : decode cX5_passOneDay 61 = .ok (.aload_n 0, 1) := by decide +kernel
theorem dX5_passOneDay_62 : decode cX5_passOneDay 62 = .ok (.aload 5, 2) := by decide +kernel
theorem dX5_passOneDay_64 : decode cX5_passOneDay 64 = .ok (.getfield 202, 3) := by decide +kernel
theorem dX5_passOneDay_67 : decode cX5_passOneDay 67 = .ok (.aload 5, 2) := by decide +kernel
theorem dX5_passOneDay_69 : decode cX5_passOneDay 69 = .ok (.getfield 192, 3) := by decide +kernel
theorem dX5_passOneDay_72 : decode cX5_passOneDay 72 = .ok (.invokevirtual 195, 3) := by decide +kernel
theorem dX5_passOneDay_75 : decode cX5_passOneDay 75 = .ok (.goto 29, 3) := by decide +kernel
theorem dX5_passOneDay_78 : decode cX5_passOneDay 78 = .ok (.aload 5, 2) := by decide +kernel
theorem dX5_passOneDay_80 : decode cX5_passOneDay 80 = .ok (.ifnull 24, 3) := by decide +kernel
theorem dX5_passOneDay_83 : decode cX5_passOneDay 83 = .ok (.aload 5, 2) := by decide +kernel
theorem dX5_passOneDay_85 : decode cX5_passOneDay 85 = .ok (.aload_n 0, 1) := by decide +kernel
theorem dX5_passOneDay_86 : decode cX5_passOneDay 86 = .ok (.getfield 181, 3) := by decide +kernel
theorem dX5_passOneDay_89 : decode cX5_passOneDay 89 = .ok (.invokevirtual 280, 3) := by decide +kernel
theorem dX5_passOneDay_92 : decode cX5_passOneDay 92 = .ok (.ifCond .eq 12, 3) := by decide +kernel
theorem dX5_passOneDay_95 : decode cX5_passOneDay 95 = .ok (.aload_n 0, 1) := by decide +kernel
theorem dX5_passOneDay_96 : decode cX5_passOneDay 96 = .ok (.aload 5, 2) := by decide +kernel
theorem dX5_passOneDay_98 : decode cX5_passOneDay 98 = .ok (.invokevirtual 388, 3) := by decide +kernel
theorem dX5_passOneDay_101 : decode cX5_passOneDay 101 = .ok (.iinc 1 1, 3) := by decide +kernel
theorem dX5_passOneDay_104 : decode cX5_passOneDay 104 = .ok (.iinc 4 1, 3) := by decide +kernel
theorem dX5_passOneDay_107 : decode cX5_passOneDay 107 = .ok (.goto (-84), 3) := by decide +kernel
theorem dX5_passOneDay_110 : decode cX5_passOneDay 110 = .ok (.iload_n 1, 1) := by decide +kernel
theorem dX5_passOneDay_111 : decode cX5_passOneDay 111 = .ok (.ireturn, 1) := by decide +kernel
theorem dX5_lose_0 : decode cX5_lose 0 = .ok (.aload_n 1, 1) := by decide +kernel
theorem dX5_lose_1 : decode cX5_lose 1 = .ok (.getfield 202, 3) := by decide +kernel
theorem dX5_lose_4 : decode cX5_lose 4 = .ok (.astore_n 2, 1) := by decide +kernel
theorem dX5_lose_5 : decode cX5_lose 5 = .ok (.aload_n 2, 1) := by decide +kernel
theorem dX5_lose_6 : decode cX5_lose 6 = .ok (.ifnull 16, 3) := by decide +kernel
theorem dX5_lose_9 : decode cX5_lose 9 = .ok (.aload_n 2, 1) := by decide +kernel
theorem dX5_lose_10 : decode cX5_lose 10 = .ok (.dup, 1) := by decide +kernel
theorem dX5_lose_11 : decode cX5_lose 11 = .ok (.getfield 172, 3) := by decide +kernel
theorem dX5_lose_14 : decode cX5_lose 14 = .ok (.aload_n 1, 1) := by decide +kernel
theorem dX5_lose_15 : decode cX5_lose 15 = .ok (.invokevirtual 283, 3) := by decide +kernel
theorem dX5_lose_18 : decode cX5_lose 18 = .ok (.iadd, 1) := by decide +kernel
theorem dX5_lose_19 : decode cX5_lose 19 = .ok (.putfield 172, 3) := by decide +kernel
theorem dX5_lose_22 : decode cX5_lose 22 = .ok (.aload_n 1, 1) := by decide +kernel
theorem dX5_lose_23 : decode cX5_lose 23 = .ok (.iconst 3, 1) := by decide +kernel
theorem dX5_lose_24 : decode cX5_lose 24 = .ok (.aload_n 2, 1) := by decide +kernel
theorem dX5_lose_25 : decode cX5_lose 25 = .ok (.iconst (-1), 1) := by decide +kernel
theorem dX5_lose_26 : decode cX5_lose 26 = .ok (.invokevirtual 188, 3) := by decide +kernel
theorem dX5_lose_29 : decode cX5_lose 29 = .ok (.return_, 1) := by decide +kernel
theorem dX5_lostWithin_0 : decode cX5_lostWithin 0 = .ok (.iconst 0, 1) := by decide +kernel
theorem dX5_lostWithin_1 : decode cX5_lostWithin 1 = .ok (.istore_n 2, 1) := by decide +kernel
theorem dX5_lostWithin_2 : decode cX5_lostWithin 2 = .ok (.aload_n 0, 1) := by decide +kernel
theorem dX5_lostWithin_3 : decode cX5_lostWithin 3 = .ok (.getfield 23, 3) := by decide +kernel
theorem dX5_lostWithin_6 : decode cX5_lostWithin 6 = .ok (.astore_n 3, 1) := by decide +kernel
theorem dX5_lostWithin_7 : decode cX5_lostWithin 7 = .ok (.aload_n 3, 1) := by decide +kernel
theorem dX5_lostWithin_8 : decode cX5_lostWithin 8 = .ok (.arraylength, 1) := by decide +kernel
theorem dX5_lostWithin_9 : decode cX5_lostWithin 9 = .ok (.istore 4, 2) := by decide +kernel
theorem dX5_lostWithin_11 : decode cX5_lostWithin 11 = .ok (.iconst 0, 1) := by decide +kernel
theorem dX5_lostWithin_12 : decode cX5_lostWithin 12 = .ok (.istore 5, 2) := by decide +kernel
theorem dX5_lostWithin_14 : decode cX5_lostWithin 14 = .ok (.iload 5, 2) := by decide +kernel
theorem dX5_lostWithin_16 : decode cX5_lostWithin 16 = .ok (.iload 4, 2) := by decide +kernel
theorem dX5_lostWithin_18 : decode cX5_lostWithin 18 = .ok (.if_icmp .ge 37, 3) := by decide +kernel
theorem dX5_lostWithin_21 : decode cX5_lostWithin 21 = .ok (.aload_n 3, 1) := by decide +kernel
theorem dX5_lostWithin_22 : decode cX5_lostWithin 22 = .ok (.iload 5, 2) := by decide +kernel
theorem dX5_lostWithin_24 : decode cX5_lostWithin 24 = .ok (.aaload, 1) := by decide +kernel
theorem dX5_lostWithin_25 : decode cX5_lostWithin 25 = .ok (.astore 6, 2) := by decide +kernel
theorem dX5_lostWithin_27 : decode cX5_lostWithin 27 = .ok (.aload 6, 2) := by decide +kernel
theorem dX5_lostWithin_29 : decode cX5_lostWithin 29 = .ok (.ifnull 20, 3) := by decide +kernel
theorem dX5_lostWithin_32 : decode cX5_lostWithin 32 = .ok (.aload 6, 2) := by decide +kernel
theorem dX5_lostWithin_34 : decode cX5_lostWithin 34 = .ok (.aload_n 0, 1) := by decide +kernel
theorem dX5_lostWithin_35 : decode cX5_lostWithin 35 = .ok (.getfield 181, 3) := by decide +kernel
theorem dX5_lostWithin_38 : decode cX5_lostWithin 38 = .ok (.iload_n 1, 1) := by decide +kernel
theorem dX5_lostWithin_39 : decode cX5_lostWithin 39 = .ok (.iadd, 1) := by decide +kernel
theorem dX5_lostWithin_40 : decode cX5_lostWithin 40 = .ok (.invokevirtual 280, 3) := by decide +kernel
theorem dX5_lostWithin_43 : decode cX5_lostWithin 43 = .ok (.ifCond .eq 6, 3) := by decide +kernel
theorem dX5_lostWithin_46 : decode cX5_lostWithin 46 = .ok (.iinc 2 1, 3) := by decide +kernel
theorem dX5_lostWithin_49 : decode cX5_lostWithin 49 = .ok (.iinc 5 1, 3) := by decide +kernel
theorem dX5_lostWithin_52 : decode cX5_lostWithin 52 = .ok (.goto (-38), 3) := by decide +kernel
theorem dX5_lostWithin_55 : decode cX5_lostWithin 55 = .ok (.iload_n 2, 1) := by decide +kernel
theorem dX5_lostWithin_56 : decode cX5_lostWithin 56 = .ok (.ireturn, 1) := by decide +kernel
theorem dX5_daysUntilServed_0 : decode cX5_daysUntilServed 0 = .ok (.aload_n 0, 1) := by decide +kernel
theorem dX5_daysUntilServed_1 : decode cX5_daysUntilServed 1 = .ok (.aload_n 2, 1) := by decide +kernel
theorem dX5_daysUntilServed_2 : decode cX5_daysUntilServed 2 = .ok (.invokevirtual 391, 3) := by decide +kernel
theorem dX5_daysUntilServed_5 : decode cX5_daysUntilServed 5 = .ok (.aload_n 2, 1) := by decide +kernel
theorem dX5_daysUntilServed_6 : decode cX5_daysUntilServed 6 = .ok (.getfield 235, 3) := by decide +kernel
theorem dX5_daysUntilServed_9 : decode cX5_daysUntilServed 9 = .ok (.getfield 378, 3) := by decide +kernel
theorem dX5_daysUntilServed_12 : decode cX5_daysUntilServed 12 = .ok (.astore_n 3, 1) := by decide +kernel
theorem dX5_daysUntilServed_13 : decode cX5_daysUntilServed 13 = .ok (.aload_n 3, 1) := by decide +kernel
theorem dX5_daysUntilServed_14 : decode cX5_daysUntilServed 14 = .ok (.arraylength, 1) := by decide +kernel
theorem dX5_daysUntilServed_15 : decode cX5_daysUntilServed 15 = .ok (.istore 4, 2) := by decide +kernel
theorem dX5_daysUntilServed_17 : decode cX5_daysUntilServed 17 = .ok (.iconst 0, 1) := by decide +kernel
theorem dX5_daysUntilServed_18 : decode cX5_daysUntilServed 18 = .ok (.istore 5, 2) := by decide +kernel
theorem dX5_daysUntilServed_20 : decode cX5_daysUntilServed 20 = .ok (.iload 5, 2) := by decide +kernel
theorem dX5_daysUntilServed_22 : decode cX5_daysUntilServed 22 = .ok (.iload 4, 2) := by decide +kernel
theorem dX5_daysUntilServed_24 : decode cX5_daysUntilServed 24 = .ok (.if_icmp .ge 71, 3) := by decide +kernel
theorem dX5_daysUntilServed_27 : decode cX5_daysUntilServed 27 = .ok (.aload_n 3, 1) := by decide +kernel
theorem dX5_daysUntilServed_28 : decode cX5_daysUntilServed 28 = .ok (.iload 5, 2) := by decide +kernel
theorem dX5_daysUntilServed_30 : decode cX5_daysUntilServed 30 = .ok (.aaload, 1) := by decide +kernel
theorem dX5_daysUntilServed_31 : decode cX5_daysUntilServed 31 = .ok (.astore 6, 2) := by decide +kernel
theorem dX5_daysUntilServed_33 : decode cX5_daysUntilServed 33 = .ok (.aload 6, 2) := by decide +kernel
theorem dX5_daysUntilServed_35 : decode cX5_daysUntilServed 35 = .ok (.ifnull 54, 3) := by decide +kernel
theorem dX5_daysUntilServed_38 : decode cX5_daysUntilServed 38 = .ok (.aload_n 0, 1) := by decide +kernel
theorem dX5_daysUntilServed_39 : decode cX5_daysUntilServed 39 = .ok (.aload 6, 2) := by decide +kernel
theorem dX5_daysUntilServed_41 : decode cX5_daysUntilServed 41 = .ok (.aload_n 2, 1) := by decide +kernel
theorem dX5_daysUntilServed_42 : decode cX5_daysUntilServed 42 = .ok (.invokevirtual 286, 3) := by decide +kernel
theorem dX5_daysUntilServed_45 : decode cX5_daysUntilServed 45 = .ok (.ifnonnull 44, 3) := by decide +kernel
theorem dX5_daysUntilServed_48 : decode cX5_daysUntilServed 48 = .ok (.aload_n 0, 1) := by decide +kernel
theorem dX5_daysUntilServed_49 : decode cX5_daysUntilServed 49 = .ok (.aload_n 2, 1) := by decide +kernel
theorem dX5_daysUntilServed_50 : decode cX5_daysUntilServed 50 = .ok (.invokevirtual 395, 3) := by decide +kernel
theorem dX5_daysUntilServed_53 : decode cX5_daysUntilServed 53 = .ok (.astore 7, 2) := by decide +kernel
theorem dX5_daysUntilServed_55 : decode cX5_daysUntilServed 55 = .ok (.aload 7, 2) := by decide +kernel
theorem dX5_daysUntilServed_57 : decode cX5_daysUntilServed 57 = .ok (.ifnonnull 5, 3) := by decide +kernel
theorem dX5_daysUntilServed_60 : decode cX5_daysUntilServed 60 = .ok (.iconst (-1), 1) := by decide +kernel
theorem dX5_daysUntilServed_61 : decode cX5_daysUntilServed 61 = .ok (.ireturn, 1) := by decide +kernel
theorem dX5_daysUntilServed_62 : decode cX5_daysUntilServed 62 = .ok (.aload 6, 2) := by decide +kernel
theorem dX5_daysUntilServed_64 : decode cX5_daysUntilServed 64 = .ok (.aload_n 1, 1) := by decide +kernel
theorem dX5_daysUntilServed_65 : decode cX5_daysUntilServed 65 = .ok (.if_acmp .ne 9, 3) := by decide +kernel
theorem dX5_daysUntilServed_68 : decode cX5_daysUntilServed 68 = .ok (.aload 7, 2) := by decide +kernel
theorem dX5_daysUntilServed_70 : decode cX5_daysUntilServed 70 = .ok (.getfield 398, 3) := by decide +kernel
theorem dX5_daysUntilServed_73 : decode cX5_daysUntilServed 73 = .ok (.ireturn, 1) := by decide +kernel
theorem dX5_daysUntilServed_74 : decode cX5_daysUntilServed 74 = .ok (.aload 7, 2) := by decide +kernel
theorem dX5_daysUntilServed_76 : decode cX5_daysUntilServed 76 = .ok (.dup, 1) := by decide +kernel
theorem dX5_daysUntilServed_77 : decode cX5_daysUntilServed 77 = .ok (.getfield 398, 3) := by decide +kernel
theorem dX5_daysUntilServed_80 : decode cX5_daysUntilServed 80 = .ok (.aload 6, 2) := by decide +kernel
theorem dX5_daysUntilServed_82 : decode cX5_daysUntilServed 82 = .ok (.invokevirtual 184, 3) := by decide +kernel
theorem dX5_daysUntilServed_85 : decode cX5_daysUntilServed 85 = .ok (.iadd, 1) := by decide +kernel
theorem dX5_daysUntilServed_86 : decode cX5_daysUntilServed 86 = .ok (.putfield 398, 3) := by decide +kernel
theorem dX5_daysUntilServed_89 : decode cX5_daysUntilServed 89 = .ok (.iinc 5 1, 3) := by decide +kernel
theorem dX5_daysUntilServed_92 : decode cX5_daysUntilServed 92 = .ok (.goto (-72), 3) := by decide +kernel
theorem dX5_daysUntilServed_95 : decode cX5_daysUntilServed 95 = .ok (.iconst (-1), 1) := by decide +kernel
theorem dX5_daysUntilServed_96 : decode cX5_daysUntilServed 96 = .ok (.ireturn, 1) := by decide +kernel
theorem dX5_reckonWhenThere_0 : decode cX5_reckonWhenThere 0 = .ok (.aload_n 0, 1) := by decide +kernel
theorem dX5_reckonWhenThere_1 : decode cX5_reckonWhenThere 1 = .ok (.getfield 23, 3) := by decide +kernel
theorem dX5_reckonWhenThere_4 : decode cX5_reckonWhenThere 4 = .ok (.astore_n 2, 1) := by decide +kernel
theorem dX5_reckonWhenThere_5 : decode cX5_reckonWhenThere 5 = .ok (.aload_n 2, 1) := by decide +kernel
theorem dX5_reckonWhenThere_6 : decode cX5_reckonWhenThere 6 = .ok (.arraylength, 1) := by decide +kernel
theorem dX5_reckonWhenThere_7 : decode cX5_reckonWhenThere 7 = .ok (.istore_n 3, 1) := by decide +kernel
theorem dX5_reckonWhenThere_8 : decode cX5_reckonWhenThere 8 = .ok (.iconst 0, 1) := by decide +kernel
theorem dX5_reckonWhenThere_9 : decode cX5_reckonWhenThere 9 = .ok (.istore 4, 2) := by decide +kernel
theorem dX5_reckonWhenThere_11 : decode cX5_reckonWhenThere 11 = .ok (.iload 4, 2) := by decide +kernel
theorem dX5_reckonWhenThere_13 : decode cX5_reckonWhenThere 13 = .ok (.iload_n 3, 1) := by decide +kernel
theorem dX5_reckonWhenThere_14 : decode cX5_reckonWhenThere 14 = .ok (.if_icmp .ge 43, 3) := by decide +kernel
theorem dX5_reckonWhenThere_17 : decode cX5_reckonWhenThere 17 = .ok (.aload_n 2, 1) := by decide +kernel
theorem dX5_reckonWhenThere_18 : decode cX5_reckonWhenThere 18 = .ok (.iload 4, 2) := by decide +kernel
theorem dX5_reckonWhenThere_20 : decode cX5_reckonWhenThere 20 = .ok (.aaload, 1) := by decide +kernel
theorem dX5_reckonWhenThere_21 : decode cX5_reckonWhenThere 21 = .ok (.astore 5, 2) := by decide +kernel
theorem dX5_reckonWhenThere_23 : decode cX5_reckonWhenThere 23 = .ok (.aload 5, 2) := by decide +kernel
theorem dX5_reckonWhenThere_25 : decode cX5_reckonWhenThere 25 = .ok (.ifnull 26, 3) := by decide +kernel
theorem dX5_reckonWhenThere_28 : decode cX5_reckonWhenThere 28 = .ok (.aload 5, 2) := by decide +kernel
theorem dX5_reckonWhenThere_30 : decode cX5_reckonWhenThere 30 = .ok (.getfield 192, 3) := by decide +kernel
theorem dX5_reckonWhenThere_33 : decode cX5_reckonWhenThere 33 = .ok (.aload_n 1, 1) := by decide +kernel
theorem dX5_reckonWhenThere_34 : decode cX5_reckonWhenThere 34 = .ok (.if_acmp .ne 17, 3) := by decide +kernel
theorem dX5_reckonWhenThere_37 : decode cX5_reckonWhenThere 37 = .ok (.aload 5, 2) := by decide +kernel
theorem dX5_reckonWhenThere_39 : decode cX5_reckonWhenThere 39 = .ok (.aload 5, 2) := by decide +kernel
theorem dX5_reckonWhenThere_41 : decode cX5_reckonWhenThere 41 = .ok (.aload_n 0, 1) := by decide +kernel
theorem dX5_reckonWhenThere_42 : decode cX5_reckonWhenThere 42 = .ok (.getfield 181, 3) := by decide +kernel
theorem dX5_reckonWhenThere_45 : decode cX5_reckonWhenThere 45 = .ok (.invokevirtual 401, 3) := by decide +kernel
theorem dX5_reckonWhenThere_48 : decode cX5_reckonWhenThere 48 = .ok (.putfield 398, 3) := by decide +kernel
theorem dX5_reckonWhenThere_51 : decode cX5_reckonWhenThere 51 = .ok (.iinc 4 1, 3) := by decide +kernel
theorem dX5_reckonWhenThere_54 : decode cX5_reckonWhenThere 54 = .ok (.goto (-43), 3) := by decide +kernel
theorem dX5_reckonWhenThere_57 : decode cX5_reckonWhenThere 57 = .ok (.return_, 1) := by decide +kernel
theorem dX5_firstThere_0 : decode cX5_firstThere 0 = .ok (.aconst_null, 1) := by decide +kernel
theorem dX5_firstThere_1 : decode cX5_firstThere 1 = .ok (.astore_n 2, 1) := by decide +kernel
theorem dX5_firstThere_2 : decode cX5_firstThere 2 = .ok (.aload_n 0, 1) := by decide +kernel
theorem dX5_firstThere_3 : decode cX5_firstThere 3 = .ok (.getfield 23, 3) := by decide +kernel
theorem dX5_firstThere_6 : decode cX5_firstThere 6 = .ok (.astore_n 3, 1) := by decide +kernel
theorem dX5_firstThere_7 : decode cX5_firstThere 7 = .ok (.aload_n 3, 1) := by decide +kernel
theorem dX5_firstThere_8 : decode cX5_firstThere 8 = .ok (.arraylength, 1) := by decide +kernel
theorem dX5_firstThere_9 : decode cX5_firstThere 9 = .ok (.istore 4, 2) := by decide +kernel
theorem dX5_firstThere_11 : decode cX5_firstThere 11 = .ok (.iconst 0, 1) := by decide +kernel
theorem dX5_firstThere_12 : decode cX5_firstThere 12 = .ok (.istore 5, 2) := by decide +kernel
theorem dX5_firstThere_14 : decode cX5_firstThere 14 = .ok (.iload 5, 2) := by decide +kernel
theorem dX5_firstThere_16 : decode cX5_firstThere 16 = .ok (.iload 4, 2) := by decide +kernel
theorem dX5_firstThere_18 : decode cX5_firstThere 18 = .ok (.if_icmp .ge 57, 3) := by decide +kernel
theorem dX5_firstThere_21 : decode cX5_firstThere 21 = .ok (.aload_n 3, 1) := by decide +kernel
theorem dX5_firstThere_22 : decode cX5_firstThere 22 = .ok (.iload 5, 2) := by decide +kernel
theorem dX5_firstThere_24 : decode cX5_firstThere 24 = .ok (.aaload, 1) := by decide +kernel
theorem dX5_firstThere_25 : decode cX5_firstThere 25 = .ok (.astore 6, 2) := by decide +kernel
theorem dX5_firstThere_27 : decode cX5_firstThere 27 = .ok (.aload 6, 2) := by decide +kernel
theorem dX5_firstThere_29 : decode cX5_firstThere 29 = .ok (.ifnull 40, 3) := by decide +kernel
theorem dX5_firstThere_32 : decode cX5_firstThere 32 = .ok (.aload 6, 2) := by decide +kernel
theorem dX5_firstThere_34 : decode cX5_firstThere 34 = .ok (.getfield 192, 3) := by decide +kernel
theorem dX5_firstThere_37 : decode cX5_firstThere 37 = .ok (.aload_n 1, 1) := by decide +kernel
theorem dX5_firstThere_38 : decode cX5_firstThere 38 = .ok (.if_acmp .ne 31, 3) := by decide +kernel
theorem dX5_firstThere_41 : decode cX5_firstThere 41 = .ok (.aload 6, 2) := by decide +kernel
theorem dX5_firstThere_43 : decode cX5_firstThere 43 = .ok (.getfield 215, 3) := by decide +kernel
theorem dX5_firstThere_46 : decode cX5_firstThere 46 = .ok (.iconst 3, 1) := by decide +kernel
theorem dX5_firstThere_47 : decode cX5_firstThere 47 = .ok (.if_icmp .eq 22, 3) := by decide +kernel
theorem dX5_firstThere_50 : decode cX5_firstThere 50 = .ok (.aload_n 2, 1) := by decide +kernel
theorem dX5_firstThere_51 : decode cX5_firstThere 51 = .ok (.ifnull 15, 3) := by decide +kernel
theorem dX5_firstThere_54 : decode cX5_firstThere 54 = .ok (.aload 6, 2) := by decide +kernel
theorem dX5_firstThere_56 : decode cX5_firstThere 56 = .ok (.getfield 398, 3) := by decide +kernel
theorem dX5_firstThere_59 : decode cX5_firstThere 59 = .ok (.aload_n 2, 1) := by decide +kernel
theorem dX5_firstThere_60 : decode cX5_firstThere 60 = .ok (.getfield 398, 3) := by decide +kernel
theorem dX5_firstThere_63 : decode cX5_firstThere 63 = .ok (.if_icmp .ge 6, 3) := by decide +kernel
theorem dX5_firstThere_66 : decode cX5_firstThere 66 = .ok (.aload 6, 2) := by decide +kernel
theorem dX5_firstThere_68 : decode cX5_firstThere 68 = .ok (.astore_n 2, 1) := by decide +kernel
theorem dX5_firstThere_69 : decode cX5_firstThere 69 = .ok (.iinc 5 1, 3) := by decide +kernel
theorem dX5_firstThere_72 : decode cX5_firstThere 72 = .ok (.goto (-58), 3) := by decide +kernel
theorem dX5_firstThere_75 : decode cX5_firstThere 75 = .ok (.aload_n 2, 1) := by decide +kernel
theorem dX5_firstThere_76 : decode cX5_firstThere 76 = .ok (.areturn, 1) := by decide +kernel
theorem dX5_digested_0 : decode cX5_digested 0 = .ok (.lload_n 0, 1) := by decide +kernel
theorem dX5_digested_1 : decode cX5_digested 1 = .ok (.ldc2_w 404, 3) := by decide +kernel
theorem dX5_digested_4 : decode cX5_digested 4 = .ok (.lmul, 1) := by decide +kernel
theorem dX5_digested_5 : decode cX5_digested 5 = .ok (.iload_n 2, 1) := by decide +kernel
theorem dX5_digested_6 : decode cX5_digested 6 = .ok (.i2l, 1) := by decide +kernel
theorem dX5_digested_7 : decode cX5_digested 7 = .ok (.ladd, 1) := by decide +kernel
theorem dX5_digested_8 : decode cX5_digested 8 = .ok (.lreturn, 1) := by decide +kernel
theorem dX5_digestedRecord_0 : decode cX5_digestedRecord 0 = .ok (.lload_n 1, 1) := by decide +kernel
theorem dX5_digestedRecord_1 : decode cX5_digestedRecord 1 = .ok (.lstore 4, 2) := by decide +kernel
theorem dX5_digestedRecord_3 : decode cX5_digestedRecord 3 = .ok (.iconst 0, 1) := by decide +kernel
theorem dX5_digestedRecord_4 : decode cX5_digestedRecord 4 = .ok (.istore 6, 2) := by decide +kernel
theorem dX5_digestedRecord_6 : decode cX5_digestedRecord 6 = .ok (.iload 6, 2) := by decide +kernel
theorem dX5_digestedRecord_8 : decode cX5_digestedRecord 8 = .ok (.bipush 6, 2) := by decide +kernel
theorem dX5_digestedRecord_10 : decode cX5_digestedRecord 10 = .ok (.if_icmp .gt 23, 3) := by decide +kernel
theorem dX5_digestedRecord_13 : decode cX5_digestedRecord 13 = .ok (.lload 4, 2) := by decide +kernel
theorem dX5_digestedRecord_15 : decode cX5_digestedRecord 15 = .ok (.aload_n 0, 1) := by decide +kernel
theorem dX5_digestedRecord_16 : decode cX5_digestedRecord 16 = .ok (.aload_n 3, 1) := by decide +kernel
theorem dX5_digestedRecord_17 : decode cX5_digestedRecord 17 = .ok (.iload 6, 2) := by decide +kernel
theorem dX5_digestedRecord_19 : decode cX5_digestedRecord 19 = .ok (.invokevirtual 87, 3) := by decide +kernel
theorem dX5_digestedRecord_22 : decode cX5_digestedRecord 22 = .ok (.invokestatic 303, 3) := by decide +kernel
theorem dX5_digestedRecord_25 : decode cX5_digestedRecord 25 = .ok (.lstore 4, 2) := by decide +kernel
theorem dX5_digestedRecord_27 : decode cX5_digestedRecord 27 = .ok (.iinc 6 1, 3) := by decide +kernel
theorem dX5_digestedRecord_30 : decode cX5_digestedRecord 30 = .ok (.goto (-24), 3) := by decide +kernel
theorem dX5_digestedRecord_33 : decode cX5_digestedRecord 33 = .ok (.aload_n 3, 1) := by decide +kernel
theorem dX5_digestedRecord_34 : decode cX5_digestedRecord 34 = .ok (.invokevirtual 95, 3) := by decide +kernel
theorem dX5_digestedRecord_37 : decode cX5_digestedRecord 37 = .ok (.getfield 235, 3) := by decide +kernel
theorem dX5_digestedRecord_40 : decode cX5_digestedRecord 40 = .ok (.getfield 378, 3) := by decide +kernel
theorem dX5_digestedRecord_43 : decode cX5_digestedRecord 43 = .ok (.astore 6, 2) := by decide +kernel
theorem dX5_digestedRecord_45 : decode cX5_digestedRecord 45 = .ok (.aload 6, 2) := by decide +kernel
theorem dX5_digestedRecord_47 : decode cX5_digestedRecord 47 = .ok (.arraylength, 1) := by decide +kernel
theorem dX5_digestedRecord_48 : decode cX5_digestedRecord 48 = .ok (.istore 7, 2) := by decide +kernel
theorem dX5_digestedRecord_50 : decode cX5_digestedRecord 50 = .ok (.iconst 0, 1) := by decide +kernel
theorem dX5_digestedRecord_51 : decode cX5_digestedRecord 51 = .ok (.istore 8, 2) := by decide +kernel
theorem dX5_digestedRecord_53 : decode cX5_digestedRecord 53 = .ok (.iload 8, 2) := by decide +kernel
theorem dX5_digestedRecord_55 : decode cX5_digestedRecord 55 = .ok (.iload 7, 2) := by decide +kernel
theorem dX5_digestedRecord_57 : decode cX5_digestedRecord 57 = .ok (.if_icmp .ge 33, 3) := by decide +kernel
theorem dX5_digestedRecord_60 : decode cX5_digestedRecord 60 = .ok (.aload 6, 2) := by decide +kernel
theorem dX5_digestedRecord_62 : decode cX5_digestedRecord 62 = .ok (.iload 8, 2) := by decide +kernel
theorem dX5_digestedRecord_64 : decode cX5_digestedRecord 64 = .ok (.aaload, 1) := by decide +kernel
theorem dX5_digestedRecord_65 : decode cX5_digestedRecord 65 = .ok (.astore 9, 2) := by decide +kernel
theorem dX5_digestedRecord_67 : decode cX5_digestedRecord 67 = .ok (.aload 9, 2) := by decide +kernel
theorem dX5_digestedRecord_69 : decode cX5_digestedRecord 69 = .ok (.ifnull 15, 3) := by decide +kernel
theorem dX5_digestedRecord_72 : decode cX5_digestedRecord 72 = .ok (.lload 4, 2) := by decide +kernel
theorem dX5_digestedRecord_74 : decode cX5_digestedRecord 74 = .ok (.aload 9, 2) := by decide +kernel
theorem dX5_digestedRecord_76 : decode cX5_digestedRecord 76 = .ok (.getfield 273, 3) := by decide +kernel
theorem dX5_digestedRecord_79 : decode cX5_digestedRecord 79 = .ok (.invokestatic 303, 3) := by decide +kernel
theorem dX5_digestedRecord_82 : decode cX5_digestedRecord 82 = .ok (.lstore 4, 2) := by decide +kernel
theorem dX5_digestedRecord_84 : decode cX5_digestedRecord 84 = .ok (.iinc 8 1, 3) := by decide +kernel
theorem dX5_digestedRecord_87 : decode cX5_digestedRecord 87 = .ok (.goto (-34), 3) := by decide +kernel
theorem dX5_digestedRecord_90 : decode cX5_digestedRecord 90 = .ok (.lload 4, 2) := by decide +kernel
theorem dX5_digestedRecord_92 : decode cX5_digestedRecord 92 = .ok (.lreturn, 1) := by decide +kernel
theorem dX5_digestedCopy_0 : decode cX5_digestedCopy 0 = .ok (.lload_n 1, 1) := by decide +kernel
theorem dX5_digestedCopy_1 : decode cX5_digestedCopy 1 = .ok (.lstore 4, 2) := by decide +kernel
theorem dX5_digestedCopy_3 : decode cX5_digestedCopy 3 = .ok (.iconst 0, 1) := by decide +kernel
theorem dX5_digestedCopy_4 : decode cX5_digestedCopy 4 = .ok (.istore 6, 2) := by decide +kernel
theorem dX5_digestedCopy_6 : decode cX5_digestedCopy 6 = .ok (.iload 6, 2) := by decide +kernel
theorem dX5_digestedCopy_8 : decode cX5_digestedCopy 8 = .ok (.bipush 6, 2) := by decide +kernel
theorem dX5_digestedCopy_10 : decode cX5_digestedCopy 10 = .ok (.if_icmp .gt 23, 3) := by decide +kernel
theorem dX5_digestedCopy_13 : decode cX5_digestedCopy 13 = .ok (.lload 4, 2) := by decide +kernel
theorem dX5_digestedCopy_15 : decode cX5_digestedCopy 15 = .ok (.aload_n 0, 1) := by decide +kernel
theorem dX5_digestedCopy_16 : decode cX5_digestedCopy 16 = .ok (.aload_n 3, 1) := by decide +kernel
theorem dX5_digestedCopy_17 : decode cX5_digestedCopy 17 = .ok (.iload 6, 2) := by decide +kernel
theorem dX5_digestedCopy_19 : decode cX5_digestedCopy 19 = .ok (.invokevirtual 152, 3) := by decide +kernel
theorem dX5_digestedCopy_22 : decode cX5_digestedCopy 22 = .ok (.invokestatic 303, 3) := by decide +kernel
theorem dX5_digestedCopy_25 : decode cX5_digestedCopy 25 = .ok (.lstore 4, 2) := by decide +kernel
theorem dX5_digestedCopy_27 : decode cX5_digestedCopy 27 = .ok (.iinc 6 1, 3) := by decide +kernel
theorem dX5_digestedCopy_30 : decode cX5_digestedCopy 30 = .ok (.goto (-24), 3) := by decide +kernel
theorem dX5_digestedCopy_33 : decode cX5_digestedCopy 33 = .ok (.lload 4, 2) := by decide +kernel
theorem dX5_digestedCopy_35 : decode cX5_digestedCopy 35 = .ok (.lreturn, 1) := by decide +kernel
theorem dX5_digestedReader_0 : decode cX5_digestedReader 0 = .ok (.lload_n 1, 1) := by decide +kernel
theorem dX5_digestedReader_1 : decode cX5_digestedReader 1 = .ok (.lstore 4, 2) := by decide +kernel
theorem dX5_digestedReader_3 : decode cX5_digestedReader 3 = .ok (.iconst 0, 1) := by decide +kernel
theorem dX5_digestedReader_4 : decode cX5_digestedReader 4 = .ok (.istore 6, 2) := by decide +kernel
theorem dX5_digestedReader_6 : decode cX5_digestedReader 6 = .ok (.iload 6, 2) := by decide +kernel
theorem dX5_digestedReader_8 : decode cX5_digestedReader 8 = .ok (.bipush 6, 2) := by decide +kernel
theorem dX5_digestedReader_10 : decode cX5_digestedReader 10 = .ok (.if_icmp .gt 23, 3) := by decide +kernel
theorem dX5_digestedReader_13 : decode cX5_digestedReader 13 = .ok (.lload 4, 2) := by decide +kernel
theorem dX5_digestedReader_15 : decode cX5_digestedReader 15 = .ok (.aload_n 0, 1) := by decide +kernel
theorem dX5_digestedReader_16 : decode cX5_digestedReader 16 = .ok (.aload_n 3, 1) := by decide +kernel
theorem dX5_digestedReader_17 : decode cX5_digestedReader 17 = .ok (.iload 6, 2) := by decide +kernel
theorem dX5_digestedReader_19 : decode cX5_digestedReader 19 = .ok (.invokevirtual 168, 3) := by decide +kernel
theorem dX5_digestedReader_22 : decode cX5_digestedReader 22 = .ok (.invokestatic 303, 3) := by decide +kernel
theorem dX5_digestedReader_25 : decode cX5_digestedReader 25 = .ok (.lstore 4, 2) := by decide +kernel
theorem dX5_digestedReader_27 : decode cX5_digestedReader 27 = .ok (.iinc 6 1, 3) := by decide +kernel
theorem dX5_digestedReader_30 : decode cX5_digestedReader 30 = .ok (.goto (-24), 3) := by decide +kernel
theorem dX5_digestedReader_33 : decode cX5_digestedReader 33 = .ok (.lload 4, 2) := by decide +kernel
theorem dX5_digestedReader_35 : decode cX5_digestedReader 35 = .ok (.aload_n 0, 1) := by decide +kernel
theorem dX5_digestedReader_36 : decode cX5_digestedReader 36 = .ok (.aload_n 3, 1) := by decide +kernel
theorem dX5_digestedReader_37 : decode cX5_digestedReader 37 = .ok (.invokevirtual 294, 3) := by decide +kernel
theorem dX5_digestedReader_40 : decode cX5_digestedReader 40 = .ok (.invokestatic 303, 3) := by decide +kernel
theorem dX5_digestedReader_43 : decode cX5_digestedReader 43 = .ok (.lreturn, 1) := by decide +kernel
theorem dJ6_bitCount_0f7a4_0 : decode cJ6_bitCount_0f7a4 0 = .ok (.iload_n 0, 1) := by decide +kernel
theorem dJ6_bitCount_0f7a4_1 : decode cJ6_bitCount_0f7a4 1 = .ok (.iload_n 0, 1) := by decide +kernel
theorem dJ6_bitCount_0f7a4_2 : decode cJ6_bitCount_0f7a4 2 = .ok (.iconst 1, 1) := by decide +kernel
theorem dJ6_bitCount_0f7a4_3 : decode cJ6_bitCount_0f7a4 3 = .ok (.iushr, 1) := by decide +kernel
theorem dJ6_bitCount_0f7a4_4 : decode cJ6_bitCount_0f7a4 4 = .ok (.ldc_w 265, 3) := by decide +kernel
theorem dJ6_bitCount_0f7a4_7 : decode cJ6_bitCount_0f7a4 7 = .ok (.iand, 1) := by decide +kernel
theorem dJ6_bitCount_0f7a4_8 : decode cJ6_bitCount_0f7a4 8 = .ok (.isub, 1) := by decide +kernel
theorem dJ6_bitCount_0f7a4_9 : decode cJ6_bitCount_0f7a4 9 = .ok (.istore_n 0, 1) := by decide +kernel
theorem dJ6_bitCount_0f7a4_10 : decode cJ6_bitCount_0f7a4 10 = .ok (.iload_n 0, 1) := by decide +kernel
theorem dJ6_bitCount_0f7a4_11 : decode cJ6_bitCount_0f7a4 11 = .ok (.ldc_w 266, 3) := by decide +kernel
theorem dJ6_bitCount_0f7a4_14 : decode cJ6_bitCount_0f7a4 14 = .ok (.iand, 1) := by decide +kernel
theorem dJ6_bitCount_0f7a4_15 : decode cJ6_bitCount_0f7a4 15 = .ok (.iload_n 0, 1) := by decide +kernel
theorem dJ6_bitCount_0f7a4_16 : decode cJ6_bitCount_0f7a4 16 = .ok (.iconst 2, 1) := by decide +kernel
theorem dJ6_bitCount_0f7a4_17 : decode cJ6_bitCount_0f7a4 17 = .ok (.iushr, 1) := by decide +kernel
theorem dJ6_bitCount_0f7a4_18 : decode cJ6_bitCount_0f7a4 18 = .ok (.ldc_w 266, 3) := by decide +kernel
theorem dJ6_bitCount_0f7a4_21 : decode cJ6_bitCount_0f7a4 21 = .ok (.iand, 1) := by decide +kernel
theorem dJ6_bitCount_0f7a4_22 : decode cJ6_bitCount_0f7a4 22 = .ok (.iadd, 1) := by decide +kernel
theorem dJ6_bitCount_0f7a4_23 : decode cJ6_bitCount_0f7a4 23 = .ok (.istore_n 0, 1) := by decide +kernel
theorem dJ6_bitCount_0f7a4_24 : decode cJ6_bitCount_0f7a4 24 = .ok (.iload_n 0, 1) := by decide +kernel
theorem dJ6_bitCount_0f7a4_25 : decode cJ6_bitCount_0f7a4 25 = .ok (.iload_n 0, 1) := by decide +kernel
theorem dJ6_bitCount_0f7a4_26 : decode cJ6_bitCount_0f7a4 26 = .ok (.iconst 4, 1) := by decide +kernel
theorem dJ6_bitCount_0f7a4_27 : decode cJ6_bitCount_0f7a4 27 = .ok (.iushr, 1) := by decide +kernel
theorem dJ6_bitCount_0f7a4_28 : decode cJ6_bitCount_0f7a4 28 = .ok (.iadd, 1) := by decide +kernel
theorem dJ6_bitCount_0f7a4_29 : decode cJ6_bitCount_0f7a4 29 = .ok (.ldc_w 267, 3) := by decide +kernel
theorem dJ6_bitCount_0f7a4_32 : decode cJ6_bitCount_0f7a4 32 = .ok (.iand, 1) := by decide +kernel
theorem dJ6_bitCount_0f7a4_33 : decode cJ6_bitCount_0f7a4 33 = .ok (.istore_n 0, 1) := by decide +kernel
theorem dJ6_bitCount_0f7a4_34 : decode cJ6_bitCount_0f7a4 34 = .ok (.iload_n 0, 1) := by decide +kernel
theorem dJ6_bitCount_0f7a4_35 : decode cJ6_bitCount_0f7a4 35 = .ok (.iload_n 0, 1) := by decide +kernel
theorem dJ6_bitCount_0f7a4_36 : decode cJ6_bitCount_0f7a4 36 = .ok (.bipush 8, 2) := by decide +kernel
theorem dJ6_bitCount_0f7a4_38 : decode cJ6_bitCount_0f7a4 38 = .ok (.iushr, 1) := by decide +kernel
theorem dJ6_bitCount_0f7a4_39 : decode cJ6_bitCount_0f7a4 39 = .ok (.iadd, 1) := by decide +kernel
theorem dJ6_bitCount_0f7a4_40 : decode cJ6_bitCount_0f7a4 40 = .ok (.istore_n 0, 1) := by decide +kernel
theorem dJ6_bitCount_0f7a4_41 : decode cJ6_bitCount_0f7a4 41 = .ok (.iload_n 0, 1) := by decide +kernel
theorem dJ6_bitCount_0f7a4_42 : decode cJ6_bitCount_0f7a4 42 = .ok (.iload_n 0, 1) := by decide +kernel
theorem dJ6_bitCount_0f7a4_43 : decode cJ6_bitCount_0f7a4 43 = .ok (.bipush 16, 2) := by decide +kernel
theorem dJ6_bitCount_0f7a4_45 : decode cJ6_bitCount_0f7a4 45 = .ok (.iushr, 1) := by decide +kernel
theorem dJ6_bitCount_0f7a4_46 : decode cJ6_bitCount_0f7a4 46 = .ok (.iadd, 1) := by decide +kernel
theorem dJ6_bitCount_0f7a4_47 : decode cJ6_bitCount_0f7a4 47 = .ok (.istore_n 0, 1) := by decide +kernel
theorem dJ6_bitCount_0f7a4_48 : decode cJ6_bitCount_0f7a4 48 = .ok (.iload_n 0, 1) := by decide +kernel
theorem dJ6_bitCount_0f7a4_49 : decode cJ6_bitCount_0f7a4 49 = .ok (.bipush 63, 2) := by decide +kernel
theorem dJ6_bitCount_0f7a4_51 : decode cJ6_bitCount_0f7a4 51 = .ok (.iand, 1) := by decide +kernel
theorem dJ6_bitCount_0f7a4_52 : decode cJ6_bitCount_0f7a4 52 = .ok (.ireturn, 1) := by decide +kernel
theorem dJ9_abs_0f7a4_0 : decode cJ9_abs_0f7a4 0 = .ok (.iload_n 0, 1) := by decide +kernel
theorem dJ9_abs_0f7a4_1 : decode cJ9_abs_0f7a4 1 = .ok (.ifCond .ge 8, 3) := by decide +kernel
theorem dJ9_abs_0f7a4_4 : decode cJ9_abs_0f7a4 4 = .ok (.iload_n 0, 1) := by decide +kernel
theorem dJ9_abs_0f7a4_5 : decode cJ9_abs_0f7a4 5 = .ok (.ineg, 1) := by decide +kernel
theorem dJ9_abs_0f7a4_6 : decode cJ9_abs_0f7a4 6 = .ok (.goto 4, 3) := by decide +kernel
theorem dJ9_abs_0f7a4_9 : decode cJ9_abs_0f7a4 9 = .ok (.iload_n 0, 1) := by decide +kernel
theorem dJ9_abs_0f7a4_10 : decode cJ9_abs_0f7a4 10 = .ok (.ireturn, 1) := by decide +kernel
theorem dJ9_abs_294c1_0 : decode cJ9_abs_294c1 0 = .ok (.dload_n 0, 1) := by decide +kernel
theorem dJ9_abs_294c1_1 : decode cJ9_abs_294c1 1 = .ok (.invokestatic 79, 3) := by decide +kernel
theorem dJ9_abs_294c1_4 : decode cJ9_abs_294c1 4 = .ok (.ldc2_w 135, 3) := by decide +kernel
theorem dJ9_abs_294c1_7 : decode cJ9_abs_294c1 7 = .ok (.land, 1) := by decide +kernel
theorem dJ9_abs_294c1_8 : decode cJ9_abs_294c1 8 = .ok (.invokestatic 166, 3) := by decide +kernel
theorem dJ9_abs_294c1_11 : decode cJ9_abs_294c1 11 = .ok (.dreturn, 1) := by decide +kernel
theorem dJ9_max_7cf53_0 : decode cJ9_max_7cf53 0 = .ok (.iload_n 0, 1) := by decide +kernel
theorem dJ9_max_7cf53_1 : decode cJ9_max_7cf53 1 = .ok (.iload_n 1, 1) := by decide +kernel
theorem dJ9_max_7cf53_2 : decode cJ9_max_7cf53 2 = .ok (.if_icmp .lt 7, 3) := by decide +kernel
theorem dJ9_max_7cf53_5 : decode cJ9_max_7cf53 5 = .ok (.iload_n 0, 1) := by decide +kernel
theorem dJ9_max_7cf53_6 : decode cJ9_max_7cf53 6 = .ok (.goto 4, 3) := by decide +kernel
theorem dJ9_max_7cf53_9 : decode cJ9_max_7cf53 9 = .ok (.iload_n 1, 1) := by decide +kernel
theorem dJ9_max_7cf53_10 : decode cJ9_max_7cf53 10 = .ok (.ireturn, 1) := by decide +kernel
theorem dJ9_min_7cf53_0 : decode cJ9_min_7cf53 0 = .ok (.iload_n 0, 1) := by decide +kernel
theorem dJ9_min_7cf53_1 : decode cJ9_min_7cf53 1 = .ok (.iload_n 1, 1) := by decide +kernel
theorem dJ9_min_7cf53_2 : decode cJ9_min_7cf53 2 = .ok (.if_icmp .gt 7, 3) := by decide +kernel
theorem dJ9_min_7cf53_5 : decode cJ9_min_7cf53 5 = .ok (.iload_n 0, 1) := by decide +kernel
theorem dJ9_min_7cf53_6 : decode cJ9_min_7cf53 6 = .ok (.goto 4, 3) := by decide +kernel
theorem dJ9_min_7cf53_9 : decode cJ9_min_7cf53 9 = .ok (.iload_n 1, 1) := by decide +kernel
theorem dJ9_min_7cf53_10 : decode cJ9_min_7cf53 10 = .ok (.ireturn, 1) := by decide +kernel
theorem dL_below_0 : decode cL_below 0 = .ok (.iload_n 0, 1) := by decide +kernel
theorem dL_below_1 : decode cL_below 1 = .ok (.ldc 7, 2) := by decide +kernel
theorem dL_below_3 : decode cL_below 3 = .ok (.iand, 1) := by decide +kernel
theorem dL_below_4 : decode cL_below 4 = .ok (.iload_n 1, 1) := by decide +kernel
theorem dL_below_5 : decode cL_below 5 = .ok (.irem, 1) := by decide +kernel
theorem dL_below_6 : decode cL_below 6 = .ok (.ireturn, 1) := by decide +kernel
theorem dL_cell_0 : decode cL_cell 0 = .ok (.iload_n 1, 1) := by decide +kernel
theorem dL_cell_1 : decode cL_cell 1 = .ok (.aload_n 0, 1) := by decide +kernel
theorem dL_cell_2 : decode cL_cell 2 = .ok (.arraylength, 1) := by decide +kernel
theorem dL_cell_3 : decode cL_cell 3 = .ok (.if_icmp .ge 9, 3) := by decide +kernel
theorem dL_cell_6 : decode cL_cell 6 = .ok (.aload_n 0, 1) := by decide +kernel
theorem dL_cell_7 : decode cL_cell 7 = .ok (.iload_n 1, 1) := by decide +kernel
theorem dL_cell_8 : decode cL_cell 8 = .ok (.iaload, 1) := by decide +kernel
theorem dL_cell_9 : decode cL_cell 9 = .ok (.goto 9, 3) := by decide +kernel
theorem dL_cell_12 : decode cL_cell 12 = .ok (.ldc 8, 2) := by decide +kernel
theorem dL_cell_14 : decode cL_cell 14 = .ok (.iload_n 1, 1) := by decide +kernel
theorem dL_cell_15 : decode cL_cell 15 = .ok (.iconst 3, 1) := by decide +kernel
theorem dL_cell_16 : decode cL_cell 16 = .ok (.iadd, 1) := by decide +kernel
theorem dL_cell_17 : decode cL_cell 17 = .ok (.imul, 1) := by decide +kernel
theorem dL_cell_18 : decode cL_cell 18 = .ok (.ireturn, 1) := by decide +kernel
theorem dL_law_0 : decode cL_law 0 = .ok (.new 9, 3) := by decide +kernel
theorem dL_law_3 : decode cL_law 3 = .ok (.dup, 1) := by decide +kernel
theorem dL_law_4 : decode cL_law 4 = .ok (.invokespecial 11, 3) := by decide +kernel
theorem dL_law_7 : decode cL_law 7 = .ok (.astore_n 1, 1) := by decide +kernel
theorem dL_law_8 : decode cL_law 8 = .ok (.aload_n 1, 1) := by decide +kernel
theorem dL_law_9 : decode cL_law 9 = .ok (.invokevirtual 12, 3) := by decide +kernel
theorem dL_law_12 : decode cL_law 12 = .ok (.pop, 1) := by decide +kernel
theorem dL_law_13 : decode cL_law 13 = .ok (.iconst 0, 1) := by decide +kernel
theorem dL_law_14 : decode cL_law 14 = .ok (.istore_n 2, 1) := by decide +kernel
theorem dL_law_15 : decode cL_law 15 = .ok (.iload_n 2, 1) := by decide +kernel
theorem dL_law_16 : decode cL_law 16 = .ok (.iconst 4, 1) := by decide +kernel
theorem dL_law_17 : decode cL_law 17 = .ok (.if_icmp .ge 25, 3) := by decide +kernel
theorem dL_law_20 : decode cL_law 20 = .ok (.aload_n 1, 1) := by decide +kernel
theorem dL_law_21 : decode cL_law 21 = .ok (.aload_n 0, 1) := by decide +kernel
theorem dL_law_22 : decode cL_law 22 = .ok (.iconst 0, 1) := by decide +kernel
theorem dL_law_23 : decode cL_law 23 = .ok (.invokestatic 16, 3) := by decide +kernel
theorem dL_law_26 : decode cL_law 26 = .ok (.iload_n 2, 1) := by decide +kernel
theorem dL_law_27 : decode cL_law 27 = .ok (.ishr, 1) := by decide +kernel
theorem dL_law_28 : decode cL_law 28 = .ok (.iconst 2, 1) := by decide +kernel
theorem dL_law_29 : decode cL_law 29 = .ok (.invokestatic 22, 3) := by decide +kernel
theorem dL_law_32 : decode cL_law 32 = .ok (.invokevirtual 26, 3) := by decide +kernel
theorem dL_law_35 : decode cL_law 35 = .ok (.pop, 1) := by decide +kernel
theorem dL_law_36 : decode cL_law 36 = .ok (.iinc 2 1, 3) := by decide +kernel
theorem dL_law_39 : decode cL_law 39 = .ok (.goto (-24), 3) := by decide +kernel
theorem dL_law_42 : decode cL_law 42 = .ok (.iconst 0, 1) := by decide +kernel
theorem dL_law_43 : decode cL_law 43 = .ok (.istore_n 2, 1) := by decide +kernel
theorem dL_law_44 : decode cL_law 44 = .ok (.iload_n 2, 1) := by decide +kernel
theorem dL_law_45 : decode cL_law 45 = .ok (.iconst 3, 1) := by decide +kernel
theorem dL_law_46 : decode cL_law 46 = .ok (.if_icmp .ge 43, 3) := by decide +kernel
theorem dL_law_49 : decode cL_law 49 = .ok (.aload_n 1, 1) := by decide +kernel
theorem dL_law_50 : decode cL_law 50 = .ok (.aload_n 0, 1) := by decide +kernel
theorem dL_law_51 : decode cL_law 51 = .ok (.iconst 1, 1) := by decide +kernel
theorem dL_law_52 : decode cL_law 52 = .ok (.invokestatic 16, 3) := by decide +kernel
theorem dL_law_55 : decode cL_law 55 = .ok (.iload_n 2, 1) := by decide +kernel
theorem dL_law_56 : decode cL_law 56 = .ok (.ishr, 1) := by decide +kernel
theorem dL_law_57 : decode cL_law 57 = .ok (.iconst 2, 1) := by decide +kernel
theorem dL_law_58 : decode cL_law 58 = .ok (.invokestatic 22, 3) := by decide +kernel
theorem dL_law_61 : decode cL_law 61 = .ok (.iconst 1, 1) := by decide +kernel
theorem dL_law_62 : decode cL_law 62 = .ok (.isub, 1) := by decide +kernel
theorem dL_law_63 : decode cL_law 63 = .ok (.iconst 1, 1) := by decide +kernel
theorem dL_law_64 : decode cL_law 64 = .ok (.aload_n 0, 1) := by decide +kernel
theorem dL_law_65 : decode cL_law 65 = .ok (.iconst 2, 1) := by decide +kernel
theorem dL_law_66 : decode cL_law 66 = .ok (.invokestatic 16, 3) := by decide +kernel
theorem dL_law_69 : decode cL_law 69 = .ok (.iload_n 2, 1) := by decide +kernel
theorem dL_law_70 : decode cL_law 70 = .ok (.ishr, 1) := by decide +kernel
theorem dL_law_71 : decode cL_law 71 = .ok (.bipush 100, 2) := by decide +kernel
theorem dL_law_73 : decode cL_law 73 = .ok (.invokestatic 22, 3) := by decide +kernel
theorem dL_law_76 : decode cL_law 76 = .ok (.iadd, 1) := by decide +kernel
theorem dL_law_77 : decode cL_law 77 = .ok (.bipush 50, 2) := by decide +kernel
theorem dL_law_79 : decode cL_law 79 = .ok (.invokevirtual 30, 3) := by decide +kernel
theorem dL_law_82 : decode cL_law 82 = .ok (.pop, 1) := by decide +kernel
theorem dL_law_83 : decode cL_law 83 = .ok (.iinc 2 1, 3) := by decide +kernel
theorem dL_law_86 : decode cL_law 86 = .ok (.goto (-42), 3) := by decide +kernel
theorem dL_law_89 : decode cL_law 89 = .ok (.iconst 0, 1) := by decide +kernel
theorem dL_law_90 : decode cL_law 90 = .ok (.istore_n 2, 1) := by decide +kernel
