theorem d_A_init_0 : decode b_A_init 0 = .ok (.aload_n 0, 1) := by decide +kernel
theorem d_A_init_1 : decode b_A_init 1 = .ok (.invokespecial 3, 3) := by decide +kernel
theorem d_A_init_4 : decode b_A_init 4 = .ok (.aload_n 0, 1) := by decide +kernel
theorem d_A_init_5 : decode b_A_init 5 = .ok (.iconst (-1), 1) := by decide +kernel
theorem d_A_init_6 : decode b_A_init 6 = .ok (.putfield 9, 3) := by decide +kernel
theorem d_A_init_9 : decode b_A_init 9 = .ok (.aload_n 0, 1) := by decide +kernel
theorem d_A_init_10 : decode b_A_init 10 = .ok (.iconst 0, 1) := by decide +kernel
theorem d_A_init_11 : decode b_A_init 11 = .ok (.putfield 15, 3) := by decide +kernel
theorem d_A_init_14 : decode b_A_init 14 = .ok (.aload_n 0, 1) := by decide +kernel
theorem d_A_init_15 : decode b_A_init 15 = .ok (.iconst 0, 1) := by decide +kernel
theorem d_A_init_16 : decode b_A_init 16 = .ok (.putfield 18, 3) := by decide +kernel
theorem d_A_init_19 : decode b_A_init 19 = .ok (.aload_n 0, 1) := by decide +kernel
theorem d_A_init_20 : decode b_A_init 20 = .ok (.iconst 0, 1) := by decide +kernel
theorem d_A_init_21 : decode b_A_init 21 = .ok (.putfield 21, 3) := by decide +kernel
theorem d_A_init_24 : decode b_A_init 24 = .ok (.aload_n 0, 1) := by decide +kernel
theorem d_A_init_25 : decode b_A_init 25 = .ok (.iconst 0, 1) := by decide +kernel
theorem d_A_init_26 : decode b_A_init 26 = .ok (.putfield 24, 3) := by decide +kernel
theorem d_A_init_29 : decode b_A_init 29 = .ok (.aload_n 0, 1) := by decide +kernel
theorem d_A_init_30 : decode b_A_init 30 = .ok (.iconst 0, 1) := by decide +kernel
theorem d_A_init_31 : decode b_A_init 31 = .ok (.putfield 27, 3) := by decide +kernel
theorem d_A_init_34 : decode b_A_init 34 = .ok (.aload_n 0, 1) := by decide +kernel
theorem d_A_init_35 : decode b_A_init 35 = .ok (.iconst 0, 1) := by decide +kernel
theorem d_A_init_36 : decode b_A_init 36 = .ok (.putfield 30, 3) := by decide +kernel
theorem d_A_init_39 : decode b_A_init 39 = .ok (.aload_n 0, 1) := by decide +kernel
theorem d_A_init_40 : decode b_A_init 40 = .ok (.iconst 0, 1) := by decide +kernel
theorem d_A_init_41 : decode b_A_init 41 = .ok (.putfield 34, 3) := by decide +kernel
theorem d_A_init_44 : decode b_A_init 44 = .ok (.aload_n 0, 1) := by decide +kernel
theorem d_A_init_45 : decode b_A_init 45 = .ok (.iconst 0, 1) := by decide +kernel
theorem d_A_init_46 : decode b_A_init 46 = .ok (.putfield 37, 3) := by decide +kernel
theorem d_A_init_49 : decode b_A_init 49 = .ok (.return_, 1) := by decide +kernel
theorem d_A_giveRange_0 : decode b_A_giveRange 0 = .ok (.aload_n 0, 1) := by decide +kernel
theorem d_A_giveRange_1 : decode b_A_giveRange 1 = .ok (.iconst 1, 1) := by decide +kernel
theorem d_A_giveRange_2 : decode b_A_giveRange 2 = .ok (.putfield 30, 3) := by decide +kernel
theorem d_A_giveRange_5 : decode b_A_giveRange 5 = .ok (.aload_n 0, 1) := by decide +kernel
theorem d_A_giveRange_6 : decode b_A_giveRange 6 = .ok (.iload_n 1, 1) := by decide +kernel
theorem d_A_giveRange_7 : decode b_A_giveRange 7 = .ok (.putfield 34, 3) := by decide +kernel
theorem d_A_giveRange_10 : decode b_A_giveRange 10 = .ok (.aload_n 0, 1) := by decide +kernel
theorem d_A_giveRange_11 : decode b_A_giveRange 11 = .ok (.iload_n 2, 1) := by decide +kernel
theorem d_A_giveRange_12 : decode b_A_giveRange 12 = .ok (.putfield 37, 3) := by decide +kernel
theorem d_A_giveRange_15 : decode b_A_giveRange 15 = .ok (.return_, 1) := by decide +kernel
theorem d_A_isInRange_0 : decode b_A_isInRange 0 = .ok (.aload_n 0, 1) := by decide +kernel
theorem d_A_isInRange_1 : decode b_A_isInRange 1 = .ok (.getfield 34, 3) := by decide +kernel
theorem d_A_isInRange_4 : decode b_A_isInRange 4 = .ok (.iload_n 1, 1) := by decide +kernel
theorem d_A_isInRange_5 : decode b_A_isInRange 5 = .ok (.if_icmp .gt 15, 3) := by decide +kernel
theorem d_A_isInRange_8 : decode b_A_isInRange 8 = .ok (.iload_n 1, 1) := by decide +kernel
theorem d_A_isInRange_9 : decode b_A_isInRange 9 = .ok (.aload_n 0, 1) := by decide +kernel
theorem d_A_isInRange_10 : decode b_A_isInRange 10 = .ok (.getfield 37, 3) := by decide +kernel
theorem d_A_isInRange_13 : decode b_A_isInRange 13 = .ok (.if_icmp .gt 7, 3) := by decide +kernel
theorem d_A_isInRange_16 : decode b_A_isInRange 16 = .ok (.iconst 1, 1) := by decide +kernel
theorem d_A_isInRange_17 : decode b_A_isInRange 17 = .ok (.goto 4, 3) := by decide +kernel
theorem d_A_isInRange_20 : decode b_A_isInRange 20 = .ok (.iconst 0, 1) := by decide +kernel
theorem d_A_isInRange_21 : decode b_A_isInRange 21 = .ok (.ireturn, 1) := by decide +kernel
theorem d_A_advises_0 : decode b_A_advises 0 = .ok (.aload_n 0, 1) := by decide +kernel
theorem d_A_advises_1 : decode b_A_advises 1 = .ok (.getfield 21, 3) := by decide +kernel
theorem d_A_advises_4 : decode b_A_advises 4 = .ok (.iconst 1, 1) := by decide +kernel
theorem d_A_advises_5 : decode b_A_advises 5 = .ok (.iload_n 1, 1) := by decide +kernel
theorem d_A_advises_6 : decode b_A_advises 6 = .ok (.ishl, 1) := by decide +kernel
theorem d_A_advises_7 : decode b_A_advises 7 = .ok (.iand, 1) := by decide +kernel
theorem d_A_advises_8 : decode b_A_advises 8 = .ok (.ifCond .eq 7, 3) := by decide +kernel
theorem d_A_advises_11 : decode b_A_advises 11 = .ok (.iconst 1, 1) := by decide +kernel
theorem d_A_advises_12 : decode b_A_advises 12 = .ok (.goto 4, 3) := by decide +kernel
theorem d_A_advises_15 : decode b_A_advises 15 = .ok (.iconst 0, 1) := by decide +kernel
theorem d_A_advises_16 : decode b_A_advises 16 = .ok (.ireturn, 1) := by decide +kernel
theorem d_A_standsBefore_0 : decode b_A_standsBefore 0 = .ok (.aload_n 0, 1) := by decide +kernel
theorem d_A_standsBefore_1 : decode b_A_standsBefore 1 = .ok (.getfield 18, 3) := by decide +kernel
theorem d_A_standsBefore_4 : decode b_A_standsBefore 4 = .ok (.aload_n 1, 1) := by decide +kernel
theorem d_A_standsBefore_5 : decode b_A_standsBefore 5 = .ok (.getfield 18, 3) := by decide +kernel
theorem d_A_standsBefore_8 : decode b_A_standsBefore 8 = .ok (.if_icmp .lt 25, 3) := by decide +kernel
theorem d_A_standsBefore_11 : decode b_A_standsBefore 11 = .ok (.aload_n 0, 1) := by decide +kernel
theorem d_A_standsBefore_12 : decode b_A_standsBefore 12 = .ok (.getfield 18, 3) := by decide +kernel
theorem d_A_standsBefore_15 : decode b_A_standsBefore 15 = .ok (.aload_n 1, 1) := by decide +kernel
theorem d_A_standsBefore_16 : decode b_A_standsBefore 16 = .ok (.getfield 18, 3) := by decide +kernel
theorem d_A_standsBefore_19 : decode b_A_standsBefore 19 = .ok (.if_icmp .ne 18, 3) := by decide +kernel
theorem d_A_standsBefore_22 : decode b_A_standsBefore 22 = .ok (.aload_n 0, 1) := by decide +kernel
theorem d_A_standsBefore_23 : decode b_A_standsBefore 23 = .ok (.getfield 9, 3) := by decide +kernel
theorem d_A_standsBefore_26 : decode b_A_standsBefore 26 = .ok (.aload_n 1, 1) := by decide +kernel
theorem d_A_standsBefore_27 : decode b_A_standsBefore 27 = .ok (.getfield 9, 3) := by decide +kernel
theorem d_A_standsBefore_30 : decode b_A_standsBefore 30 = .ok (.if_icmp .ge 7, 3) := by decide +kernel
theorem d_A_standsBefore_33 : decode b_A_standsBefore 33 = .ok (.iconst 1, 1) := by decide +kernel
theorem d_A_standsBefore_34 : decode b_A_standsBefore 34 = .ok (.goto 4, 3) := by decide +kernel
theorem d_A_standsBefore_37 : decode b_A_standsBefore 37 = .ok (.iconst 0, 1) := by decide +kernel
theorem d_A_standsBefore_38 : decode b_A_standsBefore 38 = .ok (.ireturn, 1) := by decide +kernel
theorem d_R_init_0 : decode b_R_init 0 = .ok (.aload_n 0, 1) := by decide +kernel
theorem d_R_init_1 : decode b_R_init 1 = .ok (.invokespecial 3, 3) := by decide +kernel
theorem d_R_init_4 : decode b_R_init 4 = .ok (.aload_n 0, 1) := by decide +kernel
theorem d_R_init_5 : decode b_R_init 5 = .ok (.bipush 6, 2) := by decide +kernel
theorem d_R_init_7 : decode b_R_init 7 = .ok (.anewarray 9, 3) := by decide +kernel
theorem d_R_init_10 : decode b_R_init 10 = .ok (.putfield 11, 3) := by decide +kernel
theorem d_R_init_13 : decode b_R_init 13 = .ok (.aload_n 0, 1) := by decide +kernel
theorem d_R_init_14 : decode b_R_init 14 = .ok (.iconst 0, 1) := by decide +kernel
theorem d_R_init_15 : decode b_R_init 15 = .ok (.putfield 17, 3) := by decide +kernel
theorem d_R_init_18 : decode b_R_init 18 = .ok (.aload_n 0, 1) := by decide +kernel
theorem d_R_init_19 : decode b_R_init 19 = .ok (.iconst 0, 1) := by decide +kernel
theorem d_R_init_20 : decode b_R_init 20 = .ok (.putfield 21, 3) := by decide +kernel
theorem d_R_init_23 : decode b_R_init 23 = .ok (.iconst 0, 1) := by decide +kernel
theorem d_R_init_24 : decode b_R_init 24 = .ok (.istore_n 1, 1) := by decide +kernel
theorem d_R_init_25 : decode b_R_init 25 = .ok (.iload_n 1, 1) := by decide +kernel
theorem d_R_init_26 : decode b_R_init 26 = .ok (.aload_n 0, 1) := by decide +kernel
theorem d_R_init_27 : decode b_R_init 27 = .ok (.getfield 11, 3) := by decide +kernel
theorem d_R_init_30 : decode b_R_init 30 = .ok (.arraylength, 1) := by decide +kernel
theorem d_R_init_31 : decode b_R_init 31 = .ok (.if_icmp .ge 22, 3) := by decide +kernel
theorem d_R_init_34 : decode b_R_init 34 = .ok (.aload_n 0, 1) := by decide +kernel
theorem d_R_init_35 : decode b_R_init 35 = .ok (.getfield 11, 3) := by decide +kernel
theorem d_R_init_38 : decode b_R_init 38 = .ok (.iload_n 1, 1) := by decide +kernel
theorem d_R_init_39 : decode b_R_init 39 = .ok (.new 9, 3) := by decide +kernel
theorem d_R_init_42 : decode b_R_init 42 = .ok (.dup, 1) := by decide +kernel
theorem d_R_init_43 : decode b_R_init 43 = .ok (.invokespecial 24, 3) := by decide +kernel
theorem d_R_init_46 : decode b_R_init 46 = .ok (.aastore, 1) := by decide +kernel
theorem d_R_init_47 : decode b_R_init 47 = .ok (.iinc 1 1, 3) := by decide +kernel
theorem d_R_init_50 : decode b_R_init 50 = .ok (.goto (-25), 3) := by decide +kernel
theorem d_R_init_53 : decode b_R_init 53 = .ok (.return_, 1) := by decide +kernel
theorem d_R_isFull_0 : decode b_R_isFull 0 = .ok (.aload_n 0, 1) := by decide +kernel
theorem d_R_isFull_1 : decode b_R_isFull 1 = .ok (.getfield 17, 3) := by decide +kernel
theorem d_R_isFull_4 : decode b_R_isFull 4 = .ok (.bipush 6, 2) := by decide +kernel
theorem d_R_isFull_6 : decode b_R_isFull 6 = .ok (.if_icmp .ne 7, 3) := by decide +kernel
theorem d_R_isFull_9 : decode b_R_isFull 9 = .ok (.iconst 1, 1) := by decide +kernel
theorem d_R_isFull_10 : decode b_R_isFull 10 = .ok (.goto 4, 3) := by decide +kernel
theorem d_R_isFull_13 : decode b_R_isFull 13 = .ok (.iconst 0, 1) := by decide +kernel
theorem d_R_isFull_14 : decode b_R_isFull 14 = .ok (.ireturn, 1) := by decide +kernel
theorem d_R_at_0 : decode b_R_at 0 = .ok (.aload_n 0, 1) := by decide +kernel
theorem d_R_at_1 : decode b_R_at 1 = .ok (.getfield 11, 3) := by decide +kernel
theorem d_R_at_4 : decode b_R_at 4 = .ok (.iload_n 1, 1) := by decide +kernel
theorem d_R_at_5 : decode b_R_at 5 = .ok (.aaload, 1) := by decide +kernel
theorem d_R_at_6 : decode b_R_at 6 = .ok (.areturn, 1) := by decide +kernel
theorem d_R_placeOf_0 : decode b_R_placeOf 0 = .ok (.iconst 0, 1) := by decide +kernel
theorem d_R_placeOf_1 : decode b_R_placeOf 1 = .ok (.istore_n 2, 1) := by decide +kernel
theorem d_R_placeOf_2 : decode b_R_placeOf 2 = .ok (.iload_n 2, 1) := by decide +kernel
theorem d_R_placeOf_3 : decode b_R_placeOf 3 = .ok (.aload_n 0, 1) := by decide +kernel
theorem d_R_placeOf_4 : decode b_R_placeOf 4 = .ok (.getfield 17, 3) := by decide +kernel
theorem d_R_placeOf_7 : decode b_R_placeOf 7 = .ok (.if_icmp .ge 24, 3) := by decide +kernel
theorem d_R_placeOf_10 : decode b_R_placeOf 10 = .ok (.aload_n 0, 1) := by decide +kernel
theorem d_R_placeOf_11 : decode b_R_placeOf 11 = .ok (.getfield 11, 3) := by decide +kernel
theorem d_R_placeOf_14 : decode b_R_placeOf 14 = .ok (.iload_n 2, 1) := by decide +kernel
theorem d_R_placeOf_15 : decode b_R_placeOf 15 = .ok (.aaload, 1) := by decide +kernel
theorem d_R_placeOf_16 : decode b_R_placeOf 16 = .ok (.getfield 25, 3) := by decide +kernel
theorem d_R_placeOf_19 : decode b_R_placeOf 19 = .ok (.iload_n 1, 1) := by decide +kernel
theorem d_R_placeOf_20 : decode b_R_placeOf 20 = .ok (.if_icmp .ne 5, 3) := by decide +kernel
theorem d_R_placeOf_23 : decode b_R_placeOf 23 = .ok (.iload_n 2, 1) := by decide +kernel
theorem d_R_placeOf_24 : decode b_R_placeOf 24 = .ok (.ireturn, 1) := by decide +kernel
theorem d_R_placeOf_25 : decode b_R_placeOf 25 = .ok (.iinc 2 1, 3) := by decide +kernel
theorem d_R_placeOf_28 : decode b_R_placeOf 28 = .ok (.goto (-26), 3) := by decide +kernel
theorem d_R_placeOf_31 : decode b_R_placeOf 31 = .ok (.iconst (-1), 1) := by decide +kernel
theorem d_R_placeOf_32 : decode b_R_placeOf 32 = .ok (.ireturn, 1) := by decide +kernel
theorem d_R_placeInChain_0 : decode b_R_placeInChain 0 = .ok (.iload_n 2, 1) := by decide +kernel
theorem d_R_placeInChain_1 : decode b_R_placeInChain 1 = .ok (.istore_n 3, 1) := by decide +kernel
theorem d_R_placeInChain_2 : decode b_R_placeInChain 2 = .ok (.iload_n 3, 1) := by decide +kernel
theorem d_R_placeInChain_3 : decode b_R_placeInChain 3 = .ok (.aload_n 0, 1) := by decide +kernel
theorem d_R_placeInChain_4 : decode b_R_placeInChain 4 = .ok (.getfield 17, 3) := by decide +kernel
theorem d_R_placeInChain_7 : decode b_R_placeInChain 7 = .ok (.if_icmp .ge 24, 3) := by decide +kernel
theorem d_R_placeInChain_10 : decode b_R_placeInChain 10 = .ok (.aload_n 0, 1) := by decide +kernel
theorem d_R_placeInChain_11 : decode b_R_placeInChain 11 = .ok (.getfield 11, 3) := by decide +kernel
theorem d_R_placeInChain_14 : decode b_R_placeInChain 14 = .ok (.iload_n 3, 1) := by decide +kernel
theorem d_R_placeInChain_15 : decode b_R_placeInChain 15 = .ok (.aaload, 1) := by decide +kernel
theorem d_R_placeInChain_16 : decode b_R_placeInChain 16 = .ok (.iload_n 1, 1) := by decide +kernel
theorem d_R_placeInChain_17 : decode b_R_placeInChain 17 = .ok (.invokevirtual 28, 3) := by decide +kernel
theorem d_R_placeInChain_20 : decode b_R_placeInChain 20 = .ok (.ifCond .eq 5, 3) := by decide +kernel
theorem d_R_placeInChain_23 : decode b_R_placeInChain 23 = .ok (.iload_n 3, 1) := by decide +kernel
theorem d_R_placeInChain_24 : decode b_R_placeInChain 24 = .ok (.ireturn, 1) := by decide +kernel
theorem d_R_placeInChain_25 : decode b_R_placeInChain 25 = .ok (.iinc 3 1, 3) := by decide +kernel
theorem d_R_placeInChain_28 : decode b_R_placeInChain 28 = .ok (.goto (-26), 3) := by decide +kernel
theorem d_R_placeInChain_31 : decode b_R_placeInChain 31 = .ok (.iconst (-1), 1) := by decide +kernel
theorem d_R_placeInChain_32 : decode b_R_placeInChain 32 = .ok (.ireturn, 1) := by decide +kernel
theorem d_R_numberInChain_0 : decode b_R_numberInChain 0 = .ok (.iconst 0, 1) := by decide +kernel
theorem d_R_numberInChain_1 : decode b_R_numberInChain 1 = .ok (.istore_n 3, 1) := by decide +kernel
theorem d_R_numberInChain_2 : decode b_R_numberInChain 2 = .ok (.iconst 0, 1) := by decide +kernel
theorem d_R_numberInChain_3 : decode b_R_numberInChain 3 = .ok (.istore 4, 2) := by decide +kernel
theorem d_R_numberInChain_5 : decode b_R_numberInChain 5 = .ok (.iload 4, 2) := by decide +kernel
theorem d_R_numberInChain_7 : decode b_R_numberInChain 7 = .ok (.aload_n 0, 1) := by decide +kernel
theorem d_R_numberInChain_8 : decode b_R_numberInChain 8 = .ok (.getfield 17, 3) := by decide +kernel
theorem d_R_numberInChain_11 : decode b_R_numberInChain 11 = .ok (.if_icmp .ge 42, 3) := by decide +kernel
theorem d_R_numberInChain_14 : decode b_R_numberInChain 14 = .ok (.aload_n 0, 1) := by decide +kernel
theorem d_R_numberInChain_15 : decode b_R_numberInChain 15 = .ok (.getfield 11, 3) := by decide +kernel
theorem d_R_numberInChain_18 : decode b_R_numberInChain 18 = .ok (.iload 4, 2) := by decide +kernel
theorem d_R_numberInChain_20 : decode b_R_numberInChain 20 = .ok (.aaload, 1) := by decide +kernel
theorem d_R_numberInChain_21 : decode b_R_numberInChain 21 = .ok (.iload_n 1, 1) := by decide +kernel
theorem d_R_numberInChain_22 : decode b_R_numberInChain 22 = .ok (.invokevirtual 28, 3) := by decide +kernel
theorem d_R_numberInChain_25 : decode b_R_numberInChain 25 = .ok (.ifCond .eq 22, 3) := by decide +kernel
theorem d_R_numberInChain_28 : decode b_R_numberInChain 28 = .ok (.iload_n 3, 1) := by decide +kernel
theorem d_R_numberInChain_29 : decode b_R_numberInChain 29 = .ok (.iload_n 2, 1) := by decide +kernel
theorem d_R_numberInChain_30 : decode b_R_numberInChain 30 = .ok (.if_icmp .ne 14, 3) := by decide +kernel
theorem d_R_numberInChain_33 : decode b_R_numberInChain 33 = .ok (.aload_n 0, 1) := by decide +kernel
theorem d_R_numberInChain_34 : decode b_R_numberInChain 34 = .ok (.getfield 11, 3) := by decide +kernel
theorem d_R_numberInChain_37 : decode b_R_numberInChain 37 = .ok (.iload 4, 2) := by decide +kernel
theorem d_R_numberInChain_39 : decode b_R_numberInChain 39 = .ok (.aaload, 1) := by decide +kernel
theorem d_R_numberInChain_40 : decode b_R_numberInChain 40 = .ok (.getfield 25, 3) := by decide +kernel
theorem d_R_numberInChain_43 : decode b_R_numberInChain 43 = .ok (.ireturn, 1) := by decide +kernel
theorem d_R_numberInChain_44 : decode b_R_numberInChain 44 = .ok (.iinc 3 1, 3) := by decide +kernel
theorem d_R_numberInChain_47 : decode b_R_numberInChain 47 = .ok (.iinc 4 1, 3) := by decide +kernel
theorem d_R_numberInChain_50 : decode b_R_numberInChain 50 = .ok (.goto (-45), 3) := by decide +kernel
theorem d_R_numberInChain_53 : decode b_R_numberInChain 53 = .ok (.iconst (-1), 1) := by decide +kernel
theorem d_R_numberInChain_54 : decode b_R_numberInChain 54 = .ok (.ireturn, 1) := by decide +kernel
theorem d_R_make_0 : decode b_R_make 0 = .ok (.aload_n 0, 1) := by decide +kernel
theorem d_R_make_1 : decode b_R_make 1 = .ok (.getfield 11, 3) := by decide +kernel
theorem d_R_make_4 : decode b_R_make 4 = .ok (.aload_n 0, 1) := by decide +kernel
theorem d_R_make_5 : decode b_R_make 5 = .ok (.getfield 17, 3) := by decide +kernel
theorem d_R_make_8 : decode b_R_make 8 = .ok (.aaload, 1) := by decide +kernel
theorem d_R_make_9 : decode b_R_make 9 = .ok (.astore 6, 2) := by decide +kernel
theorem d_R_make_11 : decode b_R_make 11 = .ok (.aload 6, 2) := by decide +kernel
theorem d_R_make_13 : decode b_R_make 13 = .ok (.aload_n 0, 1) := by decide +kernel
theorem d_R_make_14 : decode b_R_make 14 = .ok (.getfield 21, 3) := by decide +kernel
theorem d_R_make_17 : decode b_R_make 17 = .ok (.putfield 25, 3) := by decide +kernel
theorem d_R_make_20 : decode b_R_make 20 = .ok (.aload 6, 2) := by decide +kernel
theorem d_R_make_22 : decode b_R_make 22 = .ok (.iload_n 1, 1) := by decide +kernel
theorem d_R_make_23 : decode b_R_make 23 = .ok (.putfield 32, 3) := by decide +kernel
theorem d_R_make_26 : decode b_R_make 26 = .ok (.aload 6, 2) := by decide +kernel
theorem d_R_make_28 : decode b_R_make 28 = .ok (.iload_n 2, 1) := by decide +kernel
theorem d_R_make_29 : decode b_R_make 29 = .ok (.putfield 35, 3) := by decide +kernel
theorem d_R_make_32 : decode b_R_make 32 = .ok (.aload 6, 2) := by decide +kernel
theorem d_R_make_34 : decode b_R_make 34 = .ok (.iload_n 3, 1) := by decide +kernel
theorem d_R_make_35 : decode b_R_make 35 = .ok (.putfield 38, 3) := by decide +kernel
theorem d_R_make_38 : decode b_R_make 38 = .ok (.aload 6, 2) := by decide +kernel
theorem d_R_make_40 : decode b_R_make 40 = .ok (.iload 4, 2) := by decide +kernel
theorem d_R_make_42 : decode b_R_make 42 = .ok (.putfield 41, 3) := by decide +kernel
theorem d_R_make_45 : decode b_R_make 45 = .ok (.aload 6, 2) := by decide +kernel
theorem d_R_make_47 : decode b_R_make 47 = .ok (.iload 5, 2) := by decide +kernel
theorem d_R_make_49 : decode b_R_make 49 = .ok (.putfield 44, 3) := by decide +kernel
theorem d_R_make_52 : decode b_R_make 52 = .ok (.aload 6, 2) := by decide +kernel
theorem d_R_make_54 : decode b_R_make 54 = .ok (.iconst 0, 1) := by decide +kernel
theorem d_R_make_55 : decode b_R_make 55 = .ok (.putfield 47, 3) := by decide +kernel
theorem d_R_make_58 : decode b_R_make 58 = .ok (.aload_n 0, 1) := by decide +kernel
theorem d_R_make_59 : decode b_R_make 59 = .ok (.dup, 1) := by decide +kernel
theorem d_R_make_60 : decode b_R_make 60 = .ok (.getfield 21, 3) := by decide +kernel
theorem d_R_make_63 : decode b_R_make 63 = .ok (.iconst 1, 1) := by decide +kernel
theorem d_R_make_64 : decode b_R_make 64 = .ok (.iadd, 1) := by decide +kernel
theorem d_R_make_65 : decode b_R_make 65 = .ok (.putfield 21, 3) := by decide +kernel
theorem d_R_make_68 : decode b_R_make 68 = .ok (.aload_n 0, 1) := by decide +kernel
theorem d_R_make_69 : decode b_R_make 69 = .ok (.dup, 1) := by decide +kernel
theorem d_R_make_70 : decode b_R_make 70 = .ok (.getfield 17, 3) := by decide +kernel
theorem d_R_make_73 : decode b_R_make 73 = .ok (.iconst 1, 1) := by decide +kernel
theorem d_R_make_74 : decode b_R_make 74 = .ok (.iadd, 1) := by decide +kernel
theorem d_R_make_75 : decode b_R_make 75 = .ok (.putfield 17, 3) := by decide +kernel
theorem d_R_make_78 : decode b_R_make 78 = .ok (.aload_n 0, 1) := by decide +kernel
theorem d_R_make_79 : decode b_R_make 79 = .ok (.aload_n 0, 1) := by decide +kernel
theorem d_R_make_80 : decode b_R_make 80 = .ok (.getfield 17, 3) := by decide +kernel
theorem d_R_make_83 : decode b_R_make 83 = .ok (.iconst 1, 1) := by decide +kernel
theorem d_R_make_84 : decode b_R_make 84 = .ok (.isub, 1) := by decide +kernel
theorem d_R_make_85 : decode b_R_make 85 = .ok (.invokevirtual 51, 3) := by decide +kernel
theorem d_R_make_88 : decode b_R_make 88 = .ok (.aload 6, 2) := by decide +kernel
theorem d_R_make_90 : decode b_R_make 90 = .ok (.getfield 25, 3) := by decide +kernel
theorem d_R_make_93 : decode b_R_make 93 = .ok (.ireturn, 1) := by decide +kernel
theorem d_R_move_0 : decode b_R_move 0 = .ok (.aload_n 0, 1) := by decide +kernel
theorem d_R_move_1 : decode b_R_move 1 = .ok (.getfield 11, 3) := by decide +kernel
theorem d_R_move_4 : decode b_R_move 4 = .ok (.iload_n 1, 1) := by decide +kernel
theorem d_R_move_5 : decode b_R_move 5 = .ok (.aaload, 1) := by decide +kernel
theorem d_R_move_6 : decode b_R_move 6 = .ok (.iload_n 2, 1) := by decide +kernel
theorem d_R_move_7 : decode b_R_move 7 = .ok (.putfield 35, 3) := by decide +kernel
theorem d_R_move_10 : decode b_R_move 10 = .ok (.aload_n 0, 1) := by decide +kernel
theorem d_R_move_11 : decode b_R_move 11 = .ok (.iload_n 1, 1) := by decide +kernel
theorem d_R_move_12 : decode b_R_move 12 = .ok (.invokevirtual 51, 3) := by decide +kernel
theorem d_R_move_15 : decode b_R_move 15 = .ok (.return_, 1) := by decide +kernel
theorem d_R_takeAway_0 : decode b_R_takeAway 0 = .ok (.aload_n 0, 1) := by decide +kernel
theorem d_R_takeAway_1 : decode b_R_takeAway 1 = .ok (.dup, 1) := by decide +kernel
theorem d_R_takeAway_2 : decode b_R_takeAway 2 = .ok (.getfield 17, 3) := by decide +kernel
theorem d_R_takeAway_5 : decode b_R_takeAway 5 = .ok (.iconst 1, 1) := by decide +kernel
theorem d_R_takeAway_6 : decode b_R_takeAway 6 = .ok (.isub, 1) := by decide +kernel
theorem d_R_takeAway_7 : decode b_R_takeAway 7 = .ok (.putfield 17, 3) := by decide +kernel
theorem d_R_takeAway_10 : decode b_R_takeAway 10 = .ok (.iload_n 1, 1) := by decide +kernel
theorem d_R_takeAway_11 : decode b_R_takeAway 11 = .ok (.istore_n 2, 1) := by decide +kernel
theorem d_R_takeAway_12 : decode b_R_takeAway 12 = .ok (.iload_n 2, 1) := by decide +kernel
theorem d_R_takeAway_13 : decode b_R_takeAway 13 = .ok (.aload_n 0, 1) := by decide +kernel
theorem d_R_takeAway_14 : decode b_R_takeAway 14 = .ok (.getfield 17, 3) := by decide +kernel
theorem d_R_takeAway_17 : decode b_R_takeAway 17 = .ok (.if_icmp .ge 14, 3) := by decide +kernel
theorem d_R_takeAway_20 : decode b_R_takeAway 20 = .ok (.aload_n 0, 1) := by decide +kernel
theorem d_R_takeAway_21 : decode b_R_takeAway 21 = .ok (.iload_n 2, 1) := by decide +kernel
theorem d_R_takeAway_22 : decode b_R_takeAway 22 = .ok (.invokevirtual 55, 3) := by decide +kernel
theorem d_R_takeAway_25 : decode b_R_takeAway 25 = .ok (.iinc 2 1, 3) := by decide +kernel
theorem d_R_takeAway_28 : decode b_R_takeAway 28 = .ok (.goto (-16), 3) := by decide +kernel
theorem d_R_takeAway_31 : decode b_R_takeAway 31 = .ok (.return_, 1) := by decide +kernel
theorem d_R_settle_0 : decode b_R_settle 0 = .ok (.iload_n 1, 1) := by decide +kernel
theorem d_R_settle_1 : decode b_R_settle 1 = .ok (.istore_n 2, 1) := by decide +kernel
theorem d_R_settle_2 : decode b_R_settle 2 = .ok (.iload_n 2, 1) := by decide +kernel
theorem d_R_settle_3 : decode b_R_settle 3 = .ok (.ifCond .le 36, 3) := by decide +kernel
theorem d_R_settle_6 : decode b_R_settle 6 = .ok (.aload_n 0, 1) := by decide +kernel
theorem d_R_settle_7 : decode b_R_settle 7 = .ok (.getfield 11, 3) := by decide +kernel
theorem d_R_settle_10 : decode b_R_settle 10 = .ok (.iload_n 2, 1) := by decide +kernel
theorem d_R_settle_11 : decode b_R_settle 11 = .ok (.aaload, 1) := by decide +kernel
theorem d_R_settle_12 : decode b_R_settle 12 = .ok (.aload_n 0, 1) := by decide +kernel
theorem d_R_settle_13 : decode b_R_settle 13 = .ok (.getfield 11, 3) := by decide +kernel
theorem d_R_settle_16 : decode b_R_settle 16 = .ok (.iload_n 2, 1) := by decide +kernel
theorem d_R_settle_17 : decode b_R_settle 17 = .ok (.iconst 1, 1) := by decide +kernel
theorem d_R_settle_18 : decode b_R_settle 18 = .ok (.isub, 1) := by decide +kernel
theorem d_R_settle_19 : decode b_R_settle 19 = .ok (.aaload, 1) := by decide +kernel
theorem d_R_settle_20 : decode b_R_settle 20 = .ok (.invokevirtual 58, 3) := by decide +kernel
theorem d_R_settle_23 : decode b_R_settle 23 = .ok (.ifCond .eq 16, 3) := by decide +kernel
theorem d_R_settle_26 : decode b_R_settle 26 = .ok (.aload_n 0, 1) := by decide +kernel
theorem d_R_settle_27 : decode b_R_settle 27 = .ok (.iload_n 2, 1) := by decide +kernel
theorem d_R_settle_28 : decode b_R_settle 28 = .ok (.iconst 1, 1) := by decide +kernel
theorem d_R_settle_29 : decode b_R_settle 29 = .ok (.isub, 1) := by decide +kernel
theorem d_R_settle_30 : decode b_R_settle 30 = .ok (.invokevirtual 55, 3) := by decide +kernel
theorem d_R_settle_33 : decode b_R_settle 33 = .ok (.iinc 2 (-1), 3) := by decide +kernel
theorem d_R_settle_36 : decode b_R_settle 36 = .ok (.goto (-34), 3) := by decide +kernel
theorem d_R_settle_39 : decode b_R_settle 39 = .ok (.iload_n 1, 1) := by decide +kernel
theorem d_R_settle_40 : decode b_R_settle 40 = .ok (.istore_n 2, 1) := by decide +kernel
theorem d_R_settle_41 : decode b_R_settle 41 = .ok (.iload_n 2, 1) := by decide +kernel
theorem d_R_settle_42 : decode b_R_settle 42 = .ok (.iconst 1, 1) := by decide +kernel
theorem d_R_settle_43 : decode b_R_settle 43 = .ok (.iadd, 1) := by decide +kernel
theorem d_R_settle_44 : decode b_R_settle 44 = .ok (.aload_n 0, 1) := by decide +kernel
theorem d_R_settle_45 : decode b_R_settle 45 = .ok (.getfield 17, 3) := by decide +kernel
theorem d_R_settle_48 : decode b_R_settle 48 = .ok (.if_icmp .ge 34, 3) := by decide +kernel
theorem d_R_settle_51 : decode b_R_settle 51 = .ok (.aload_n 0, 1) := by decide +kernel
theorem d_R_settle_52 : decode b_R_settle 52 = .ok (.getfield 11, 3) := by decide +kernel
theorem d_R_settle_55 : decode b_R_settle 55 = .ok (.iload_n 2, 1) := by decide +kernel
theorem d_R_settle_56 : decode b_R_settle 56 = .ok (.iconst 1, 1) := by decide +kernel
theorem d_R_settle_57 : decode b_R_settle 57 = .ok (.iadd, 1) := by decide +kernel
theorem d_R_settle_58 : decode b_R_settle 58 = .ok (.aaload, 1) := by decide +kernel
theorem d_R_settle_59 : decode b_R_settle 59 = .ok (.aload_n 0, 1) := by decide +kernel
theorem d_R_settle_60 : decode b_R_settle 60 = .ok (.getfield 11, 3) := by decide +kernel
theorem d_R_settle_63 : decode b_R_settle 63 = .ok (.iload_n 2, 1) := by decide +kernel
theorem d_R_settle_64 : decode b_R_settle 64 = .ok (.aaload, 1) := by decide +kernel
theorem d_R_settle_65 : decode b_R_settle 65 = .ok (.invokevirtual 58, 3) := by decide +kernel
theorem d_R_settle_68 : decode b_R_settle 68 = .ok (.ifCond .eq 14, 3) := by decide +kernel
theorem d_R_settle_71 : decode b_R_settle 71 = .ok (.aload_n 0, 1) := by decide +kernel
theorem d_R_settle_72 : decode b_R_settle 72 = .ok (.iload_n 2, 1) := by decide +kernel
theorem d_R_settle_73 : decode b_R_settle 73 = .ok (.invokevirtual 55, 3) := by decide +kernel
theorem d_R_settle_76 : decode b_R_settle 76 = .ok (.iinc 2 1, 3) := by decide +kernel
theorem d_R_settle_79 : decode b_R_settle 79 = .ok (.goto (-38), 3) := by decide +kernel
theorem d_R_settle_82 : decode b_R_settle 82 = .ok (.return_, 1) := by decide +kernel
theorem d_R_swapWithNext_0 : decode b_R_swapWithNext 0 = .ok (.aload_n 0, 1) := by decide +kernel
theorem d_R_swapWithNext_1 : decode b_R_swapWithNext 1 = .ok (.getfield 11, 3) := by decide +kernel
theorem d_R_swapWithNext_4 : decode b_R_swapWithNext 4 = .ok (.iload_n 1, 1) := by decide +kernel
theorem d_R_swapWithNext_5 : decode b_R_swapWithNext 5 = .ok (.aaload, 1) := by decide +kernel
theorem d_R_swapWithNext_6 : decode b_R_swapWithNext 6 = .ok (.astore_n 2, 1) := by decide +kernel
theorem d_R_swapWithNext_7 : decode b_R_swapWithNext 7 = .ok (.aload_n 0, 1) := by decide +kernel
theorem d_R_swapWithNext_8 : decode b_R_swapWithNext 8 = .ok (.getfield 11, 3) := by decide +kernel
theorem d_R_swapWithNext_11 : decode b_R_swapWithNext 11 = .ok (.iload_n 1, 1) := by decide +kernel
theorem d_R_swapWithNext_12 : decode b_R_swapWithNext 12 = .ok (.aload_n 0, 1) := by decide +kernel
theorem d_R_swapWithNext_13 : decode b_R_swapWithNext 13 = .ok (.getfield 11, 3) := by decide +kernel
theorem d_R_swapWithNext_16 : decode b_R_swapWithNext 16 = .ok (.iload_n 1, 1) := by decide +kernel
theorem d_R_swapWithNext_17 : decode b_R_swapWithNext 17 = .ok (.iconst 1, 1) := by decide +kernel
theorem d_R_swapWithNext_18 : decode b_R_swapWithNext 18 = .ok (.iadd, 1) := by decide +kernel
theorem d_R_swapWithNext_19 : decode b_R_swapWithNext 19 = .ok (.aaload, 1) := by decide +kernel
theorem d_R_swapWithNext_20 : decode b_R_swapWithNext 20 = .ok (.aastore, 1) := by decide +kernel
theorem d_R_swapWithNext_21 : decode b_R_swapWithNext 21 = .ok (.aload_n 0, 1) := by decide +kernel
theorem d_R_swapWithNext_22 : decode b_R_swapWithNext 22 = .ok (.getfield 11, 3) := by decide +kernel
theorem d_R_swapWithNext_25 : decode b_R_swapWithNext 25 = .ok (.iload_n 1, 1) := by decide +kernel
theorem d_R_swapWithNext_26 : decode b_R_swapWithNext 26 = .ok (.iconst 1, 1) := by decide +kernel
theorem d_R_swapWithNext_27 : decode b_R_swapWithNext 27 = .ok (.iadd, 1) := by decide +kernel
theorem d_R_swapWithNext_28 : decode b_R_swapWithNext 28 = .ok (.aload_n 2, 1) := by decide +kernel
theorem d_R_swapWithNext_29 : decode b_R_swapWithNext 29 = .ok (.aastore, 1) := by decide +kernel
theorem d_R_swapWithNext_30 : decode b_R_swapWithNext 30 = .ok (.return_, 1) := by decide +kernel
theorem d_T_init_0 : decode b_T_init 0 = .ok (.aload_n 0, 1) := by decide +kernel
theorem d_T_init_1 : decode b_T_init 1 = .ok (.invokespecial 3, 3) := by decide +kernel
theorem d_T_init_4 : decode b_T_init 4 = .ok (.aload_n 0, 1) := by decide +kernel
theorem d_T_init_5 : decode b_T_init 5 = .ok (.bipush 100, 2) := by decide +kernel
theorem d_T_init_7 : decode b_T_init 7 = .ok (.newarray .int, 2) := by decide +kernel
theorem d_T_init_9 : decode b_T_init 9 = .ok (.putfield 9, 3) := by decide +kernel
theorem d_T_init_12 : decode b_T_init 12 = .ok (.aload_n 0, 1) := by decide +kernel
theorem d_T_init_13 : decode b_T_init 13 = .ok (.bipush 100, 2) := by decide +kernel
theorem d_T_init_15 : decode b_T_init 15 = .ok (.newarray .int, 2) := by decide +kernel
theorem d_T_init_17 : decode b_T_init 17 = .ok (.putfield 15, 3) := by decide +kernel
theorem d_T_init_20 : decode b_T_init 20 = .ok (.aload_n 0, 1) := by decide +kernel
theorem d_T_init_21 : decode b_T_init 21 = .ok (.iconst 0, 1) := by decide +kernel
theorem d_T_init_22 : decode b_T_init 22 = .ok (.putfield 18, 3) := by decide +kernel
theorem d_T_init_25 : decode b_T_init 25 = .ok (.return_, 1) := by decide +kernel
theorem d_T_clear_0 : decode b_T_clear 0 = .ok (.aload_n 0, 1) := by decide +kernel
theorem d_T_clear_1 : decode b_T_clear 1 = .ok (.iconst 0, 1) := by decide +kernel
theorem d_T_clear_2 : decode b_T_clear 2 = .ok (.putfield 18, 3) := by decide +kernel
theorem d_T_clear_5 : decode b_T_clear 5 = .ok (.return_, 1) := by decide +kernel
theorem d_T_has_0 : decode b_T_has 0 = .ok (.iload_n 1, 1) := by decide +kernel
theorem d_T_has_1 : decode b_T_has 1 = .ok (.ifCond .lt 15, 3) := by decide +kernel
theorem d_T_has_4 : decode b_T_has 4 = .ok (.iload_n 1, 1) := by decide +kernel
theorem d_T_has_5 : decode b_T_has 5 = .ok (.aload_n 0, 1) := by decide +kernel
theorem d_T_has_6 : decode b_T_has 6 = .ok (.getfield 18, 3) := by decide +kernel
theorem d_T_has_9 : decode b_T_has 9 = .ok (.if_icmp .ge 7, 3) := by decide +kernel
theorem d_T_has_12 : decode b_T_has 12 = .ok (.iconst 1, 1) := by decide +kernel
theorem d_T_has_13 : decode b_T_has 13 = .ok (.goto 4, 3) := by decide +kernel
theorem d_T_has_16 : decode b_T_has 16 = .ok (.iconst 0, 1) := by decide +kernel
theorem d_T_has_17 : decode b_T_has 17 = .ok (.ireturn, 1) := by decide +kernel
theorem d_T_note_0 : decode b_T_note 0 = .ok (.aload_n 0, 1) := by decide +kernel
theorem d_T_note_1 : decode b_T_note 1 = .ok (.getfield 18, 3) := by decide +kernel
theorem d_T_note_4 : decode b_T_note 4 = .ok (.bipush 100, 2) := by decide +kernel
theorem d_T_note_6 : decode b_T_note 6 = .ok (.if_icmp .lt 5, 3) := by decide +kernel
theorem d_T_note_9 : decode b_T_note 9 = .ok (.iconst 0, 1) := by decide +kernel
theorem d_T_note_10 : decode b_T_note 10 = .ok (.ireturn, 1) := by decide +kernel
theorem d_T_note_11 : decode b_T_note 11 = .ok (.aload_n 0, 1) := by decide +kernel
theorem d_T_note_12 : decode b_T_note 12 = .ok (.getfield 9, 3) := by decide +kernel
theorem d_T_note_15 : decode b_T_note 15 = .ok (.aload_n 0, 1) := by decide +kernel
theorem d_T_note_16 : decode b_T_note 16 = .ok (.getfield 18, 3) := by decide +kernel
theorem d_T_note_19 : decode b_T_note 19 = .ok (.iload_n 1, 1) := by decide +kernel
theorem d_T_note_20 : decode b_T_note 20 = .ok (.iastore, 1) := by decide +kernel
theorem d_T_note_21 : decode b_T_note 21 = .ok (.aload_n 0, 1) := by decide +kernel
theorem d_T_note_22 : decode b_T_note 22 = .ok (.getfield 15, 3) := by decide +kernel
theorem d_T_note_25 : decode b_T_note 25 = .ok (.aload_n 0, 1) := by decide +kernel
theorem d_T_note_26 : decode b_T_note 26 = .ok (.getfield 18, 3) := by decide +kernel
theorem d_T_note_29 : decode b_T_note 29 = .ok (.iload_n 2, 1) := by decide +kernel
theorem d_T_note_30 : decode b_T_note 30 = .ok (.iastore, 1) := by decide +kernel
theorem d_T_note_31 : decode b_T_note 31 = .ok (.aload_n 0, 1) := by decide +kernel
theorem d_T_note_32 : decode b_T_note 32 = .ok (.dup, 1) := by decide +kernel
theorem d_T_note_33 : decode b_T_note 33 = .ok (.getfield 18, 3) := by decide +kernel
theorem d_T_note_36 : decode b_T_note 36 = .ok (.iconst 1, 1) := by decide +kernel
theorem d_T_note_37 : decode b_T_note 37 = .ok (.iadd, 1) := by decide +kernel
theorem d_T_note_38 : decode b_T_note 38 = .ok (.putfield 18, 3) := by decide +kernel
theorem d_T_note_41 : decode b_T_note 41 = .ok (.iconst 1, 1) := by decide +kernel
theorem d_T_note_42 : decode b_T_note 42 = .ok (.ireturn, 1) := by decide +kernel
theorem d_K_init_0 : decode b_K_init 0 = .ok (.aload_n 0, 1) := by decide +kernel
theorem d_K_init_1 : decode b_K_init 1 = .ok (.invokespecial 3, 3) := by decide +kernel
theorem d_K_init_4 : decode b_K_init 4 = .ok (.aload_n 0, 1) := by decide +kernel
theorem d_K_init_5 : decode b_K_init 5 = .ok (.iconst 1, 1) := by decide +kernel
theorem d_K_init_6 : decode b_K_init 6 = .ok (.putfield 9, 3) := by decide +kernel
theorem d_K_init_9 : decode b_K_init 9 = .ok (.aload_n 0, 1) := by decide +kernel
theorem d_K_init_10 : decode b_K_init 10 = .ok (.iconst 0, 1) := by decide +kernel
theorem d_K_init_11 : decode b_K_init 11 = .ok (.putfield 15, 3) := by decide +kernel
theorem d_K_init_14 : decode b_K_init 14 = .ok (.aload_n 0, 1) := by decide +kernel
theorem d_K_init_15 : decode b_K_init 15 = .ok (.iconst 0, 1) := by decide +kernel
theorem d_K_init_16 : decode b_K_init 16 = .ok (.putfield 18, 3) := by decide +kernel
theorem d_K_init_19 : decode b_K_init 19 = .ok (.aload_n 0, 1) := by decide +kernel
theorem d_K_init_20 : decode b_K_init 20 = .ok (.iconst 0, 1) := by decide +kernel
theorem d_K_init_21 : decode b_K_init 21 = .ok (.putfield 21, 3) := by decide +kernel
theorem d_K_init_24 : decode b_K_init 24 = .ok (.aload_n 0, 1) := by decide +kernel
theorem d_K_init_25 : decode b_K_init 25 = .ok (.iconst (-1), 1) := by decide +kernel
theorem d_K_init_26 : decode b_K_init 26 = .ok (.putfield 24, 3) := by decide +kernel
theorem d_K_init_29 : decode b_K_init 29 = .ok (.return_, 1) := by decide +kernel
theorem d_K_failsOn_0 : decode b_K_failsOn 0 = .ok (.aload_n 0, 1) := by decide +kernel
theorem d_K_failsOn_1 : decode b_K_failsOn 1 = .ok (.getfield 21, 3) := by decide +kernel
theorem d_K_failsOn_4 : decode b_K_failsOn 4 = .ok (.ifCond .eq 15, 3) := by decide +kernel
theorem d_K_failsOn_7 : decode b_K_failsOn 7 = .ok (.iload_n 1, 1) := by decide +kernel
theorem d_K_failsOn_8 : decode b_K_failsOn 8 = .ok (.aload_n 0, 1) := by decide +kernel
theorem d_K_failsOn_9 : decode b_K_failsOn 9 = .ok (.getfield 18, 3) := by decide +kernel
theorem d_K_failsOn_12 : decode b_K_failsOn 12 = .ok (.if_icmp .ne 7, 3) := by decide +kernel
theorem d_K_failsOn_15 : decode b_K_failsOn 15 = .ok (.iconst 1, 1) := by decide +kernel
theorem d_K_failsOn_16 : decode b_K_failsOn 16 = .ok (.goto 4, 3) := by decide +kernel
theorem d_K_failsOn_19 : decode b_K_failsOn 19 = .ok (.iconst 0, 1) := by decide +kernel
theorem d_K_failsOn_20 : decode b_K_failsOn 20 = .ok (.ireturn, 1) := by decide +kernel
theorem d_K_reckon_0 : decode b_K_reckon 0 = .ok (.aload_n 0, 1) := by decide +kernel
theorem d_K_reckon_1 : decode b_K_reckon 1 = .ok (.getfield 9, 3) := by decide +kernel
theorem d_K_reckon_4 : decode b_K_reckon 4 = .ok (.iload_n 1, 1) := by decide +kernel
theorem d_K_reckon_5 : decode b_K_reckon 5 = .ok (.imul, 1) := by decide +kernel
theorem d_K_reckon_6 : decode b_K_reckon 6 = .ok (.aload_n 0, 1) := by decide +kernel
theorem d_K_reckon_7 : decode b_K_reckon 7 = .ok (.getfield 15, 3) := by decide +kernel
theorem d_K_reckon_10 : decode b_K_reckon 10 = .ok (.iadd, 1) := by decide +kernel
theorem d_K_reckon_11 : decode b_K_reckon 11 = .ok (.ireturn, 1) := by decide +kernel
theorem d_L_init_0 : decode b_L_init 0 = .ok (.aload_n 0, 1) := by decide +kernel
theorem d_L_init_1 : decode b_L_init 1 = .ok (.invokespecial 3, 3) := by decide +kernel
theorem d_L_init_4 : decode b_L_init 4 = .ok (.aload_n 0, 1) := by decide +kernel
theorem d_L_init_5 : decode b_L_init 5 = .ok (.new 9, 3) := by decide +kernel
theorem d_L_init_8 : decode b_L_init 8 = .ok (.dup, 1) := by decide +kernel
theorem d_L_init_9 : decode b_L_init 9 = .ok (.invokespecial 11, 3) := by decide +kernel
theorem d_L_init_12 : decode b_L_init 12 = .ok (.putfield 12, 3) := by decide +kernel
theorem d_L_init_15 : decode b_L_init 15 = .ok (.aload_n 0, 1) := by decide +kernel
theorem d_L_init_16 : decode b_L_init 16 = .ok (.bipush 12, 2) := by decide +kernel
theorem d_L_init_18 : decode b_L_init 18 = .ok (.anewarray 16, 3) := by decide +kernel
theorem d_L_init_21 : decode b_L_init 21 = .ok (.putfield 18, 3) := by decide +kernel
theorem d_L_init_24 : decode b_L_init 24 = .ok (.aload_n 0, 1) := by decide +kernel
theorem d_L_init_25 : decode b_L_init 25 = .ok (.new 22, 3) := by decide +kernel
theorem d_L_init_28 : decode b_L_init 28 = .ok (.dup, 1) := by decide +kernel
theorem d_L_init_29 : decode b_L_init 29 = .ok (.invokespecial 24, 3) := by decide +kernel
theorem d_L_init_32 : decode b_L_init 32 = .ok (.putfield 25, 3) := by decide +kernel
theorem d_L_init_35 : decode b_L_init 35 = .ok (.aload_n 0, 1) := by decide +kernel
theorem d_L_init_36 : decode b_L_init 36 = .ok (.iconst 3, 1) := by decide +kernel
theorem d_L_init_37 : decode b_L_init 37 = .ok (.newarray .int, 2) := by decide +kernel
theorem d_L_init_39 : decode b_L_init 39 = .ok (.putfield 29, 3) := by decide +kernel
theorem d_L_init_42 : decode b_L_init 42 = .ok (.aload_n 0, 1) := by decide +kernel
theorem d_L_init_43 : decode b_L_init 43 = .ok (.iconst 3, 1) := by decide +kernel
theorem d_L_init_44 : decode b_L_init 44 = .ok (.newarray .int, 2) := by decide +kernel
theorem d_L_init_46 : decode b_L_init 46 = .ok (.putfield 33, 3) := by decide +kernel
theorem d_L_init_49 : decode b_L_init 49 = .ok (.aload_n 0, 1) := by decide +kernel
theorem d_L_init_50 : decode b_L_init 50 = .ok (.iconst 0, 1) := by decide +kernel
theorem d_L_init_51 : decode b_L_init 51 = .ok (.putfield 36, 3) := by decide +kernel
theorem d_L_init_54 : decode b_L_init 54 = .ok (.aload_n 0, 1) := by decide +kernel
theorem d_L_init_55 : decode b_L_init 55 = .ok (.iconst 0, 1) := by decide +kernel
theorem d_L_init_56 : decode b_L_init 56 = .ok (.putfield 40, 3) := by decide +kernel
theorem d_L_init_59 : decode b_L_init 59 = .ok (.aload_n 0, 1) := by decide +kernel
theorem d_L_init_60 : decode b_L_init 60 = .ok (.iconst 0, 1) := by decide +kernel
theorem d_L_init_61 : decode b_L_init 61 = .ok (.putfield 44, 3) := by decide +kernel
theorem d_L_init_64 : decode b_L_init 64 = .ok (.aload_n 0, 1) := by decide +kernel
theorem d_L_init_65 : decode b_L_init 65 = .ok (.iconst 0, 1) := by decide +kernel
theorem d_L_init_66 : decode b_L_init 66 = .ok (.putfield 47, 3) := by decide +kernel
theorem d_L_init_69 : decode b_L_init 69 = .ok (.aload_n 0, 1) := by decide +kernel
theorem d_L_init_70 : decode b_L_init 70 = .ok (.iconst 0, 1) := by decide +kernel
theorem d_L_init_71 : decode b_L_init 71 = .ok (.putfield 50, 3) := by decide +kernel
theorem d_L_init_74 : decode b_L_init 74 = .ok (.aload_n 0, 1) := by decide +kernel
theorem d_L_init_75 : decode b_L_init 75 = .ok (.iconst 0, 1) := by decide +kernel
theorem d_L_init_76 : decode b_L_init 76 = .ok (.putfield 53, 3) := by decide +kernel
theorem d_L_init_79 : decode b_L_init 79 = .ok (.iconst 0, 1) := by decide +kernel
theorem d_L_init_80 : decode b_L_init 80 = .ok (.istore_n 1, 1) := by decide +kernel
theorem d_L_init_81 : decode b_L_init 81 = .ok (.iload_n 1, 1) := by decide +kernel
theorem d_L_init_82 : decode b_L_init 82 = .ok (.aload_n 0, 1) := by decide +kernel
theorem d_L_init_83 : decode b_L_init 83 = .ok (.getfield 18, 3) := by decide +kernel
theorem d_L_init_86 : decode b_L_init 86 = .ok (.arraylength, 1) := by decide +kernel
theorem d_L_init_87 : decode b_L_init 87 = .ok (.if_icmp .ge 22, 3) := by decide +kernel
theorem d_L_init_90 : decode b_L_init 90 = .ok (.aload_n 0, 1) := by decide +kernel
theorem d_L_init_91 : decode b_L_init 91 = .ok (.getfield 18, 3) := by decide +kernel
theorem d_L_init_94 : decode b_L_init 94 = .ok (.iload_n 1, 1) := by decide +kernel
theorem d_L_init_95 : decode b_L_init 95 = .ok (.new 16, 3) := by decide +kernel
theorem d_L_init_98 : decode b_L_init 98 = .ok (.dup, 1) := by decide +kernel
theorem d_L_init_99 : decode b_L_init 99 = .ok (.invokespecial 56, 3) := by decide +kernel
theorem d_L_init_102 : decode b_L_init 102 = .ok (.aastore, 1) := by decide +kernel
theorem d_L_init_103 : decode b_L_init 103 = .ok (.iinc 1 1, 3) := by decide +kernel
theorem d_L_init_106 : decode b_L_init 106 = .ok (.goto (-25), 3) := by decide +kernel
theorem d_L_init_109 : decode b_L_init 109 = .ok (.return_, 1) := by decide +kernel
theorem d_L_advise_0 : decode b_L_advise 0 = .ok (.aload_n 0, 1) := by decide +kernel
theorem d_L_advise_1 : decode b_L_advise 1 = .ok (.getfield 36, 3) := by decide +kernel
theorem d_L_advise_4 : decode b_L_advise 4 = .ok (.ifCond .ne 23, 3) := by decide +kernel
theorem d_L_advise_7 : decode b_L_advise 7 = .ok (.aload_n 0, 1) := by decide +kernel
theorem d_L_advise_8 : decode b_L_advise 8 = .ok (.getfield 12, 3) := by decide +kernel
theorem d_L_advise_11 : decode b_L_advise 11 = .ok (.invokevirtual 57, 3) := by decide +kernel
theorem d_L_advise_14 : decode b_L_advise 14 = .ok (.ifCond .ne 13, 3) := by decide +kernel
theorem d_L_advise_17 : decode b_L_advise 17 = .ok (.iload_n 1, 1) := by decide +kernel
theorem d_L_advise_18 : decode b_L_advise 18 = .ok (.ifCond .lt 9, 3) := by decide +kernel
theorem d_L_advise_21 : decode b_L_advise 21 = .ok (.iload_n 1, 1) := by decide +kernel
theorem d_L_advise_22 : decode b_L_advise 22 = .ok (.bipush 7, 2) := by decide +kernel
theorem d_L_advise_24 : decode b_L_advise 24 = .ok (.if_icmp .le 5, 3) := by decide +kernel
theorem d_L_advise_27 : decode b_L_advise 27 = .ok (.iconst (-1), 1) := by decide +kernel
theorem d_L_advise_28 : decode b_L_advise 28 = .ok (.ireturn, 1) := by decide +kernel
theorem d_L_advise_29 : decode b_L_advise 29 = .ok (.iload_n 3, 1) := by decide +kernel
theorem d_L_advise_30 : decode b_L_advise 30 = .ok (.iconst 1, 1) := by decide +kernel
theorem d_L_advise_31 : decode b_L_advise 31 = .ok (.if_icmp .lt 20, 3) := by decide +kernel
theorem d_L_advise_34 : decode b_L_advise 34 = .ok (.iload_n 3, 1) := by decide +kernel
theorem d_L_advise_35 : decode b_L_advise 35 = .ok (.bipush 63, 2) := by decide +kernel
theorem d_L_advise_37 : decode b_L_advise 37 = .ok (.if_icmp .gt 14, 3) := by decide +kernel
theorem d_L_advise_40 : decode b_L_advise 40 = .ok (.iload_n 1, 1) := by decide +kernel
theorem d_L_advise_41 : decode b_L_advise 41 = .ok (.iload 4, 2) := by decide +kernel
theorem d_L_advise_43 : decode b_L_advise 43 = .ok (.iload 5, 2) := by decide +kernel
theorem d_L_advise_45 : decode b_L_advise 45 = .ok (.invokestatic 61, 3) := by decide +kernel
theorem d_L_advise_48 : decode b_L_advise 48 = .ok (.ifCond .ne 5, 3) := by decide +kernel
theorem d_L_advise_51 : decode b_L_advise 51 = .ok (.iconst (-1), 1) := by decide +kernel
theorem d_L_advise_52 : decode b_L_advise 52 = .ok (.ireturn, 1) := by decide +kernel
theorem d_L_advise_53 : decode b_L_advise 53 = .ok (.aload_n 0, 1) := by decide +kernel
theorem d_L_advise_54 : decode b_L_advise 54 = .ok (.getfield 12, 3) := by decide +kernel
theorem d_L_advise_57 : decode b_L_advise 57 = .ok (.iload_n 1, 1) := by decide +kernel
theorem d_L_advise_58 : decode b_L_advise 58 = .ok (.iload_n 2, 1) := by decide +kernel
theorem d_L_advise_59 : decode b_L_advise 59 = .ok (.iload_n 3, 1) := by decide +kernel
theorem d_L_advise_60 : decode b_L_advise 60 = .ok (.iload 4, 2) := by decide +kernel
theorem d_L_advise_62 : decode b_L_advise 62 = .ok (.iload 5, 2) := by decide +kernel
theorem d_L_advise_64 : decode b_L_advise 64 = .ok (.invokevirtual 65, 3) := by decide +kernel
theorem d_L_advise_67 : decode b_L_advise 67 = .ok (.ireturn, 1) := by decide +kernel
theorem d_L_when_0 : decode b_L_when 0 = .ok (.aload_n 0, 1) := by decide +kernel
theorem d_L_when_1 : decode b_L_when 1 = .ok (.getfield 12, 3) := by decide +kernel
theorem d_L_when_4 : decode b_L_when 4 = .ok (.iload_n 1, 1) := by decide +kernel
theorem d_L_when_5 : decode b_L_when 5 = .ok (.invokevirtual 69, 3) := by decide +kernel
theorem d_L_when_8 : decode b_L_when 8 = .ok (.istore 4, 2) := by decide +kernel
theorem d_L_when_10 : decode b_L_when 10 = .ok (.aload_n 0, 1) := by decide +kernel
theorem d_L_when_11 : decode b_L_when 11 = .ok (.getfield 36, 3) := by decide +kernel
theorem d_L_when_14 : decode b_L_when 14 = .ok (.ifCond .ne 14, 3) := by decide +kernel
theorem d_L_when_17 : decode b_L_when 17 = .ok (.iload 4, 2) := by decide +kernel
theorem d_L_when_19 : decode b_L_when 19 = .ok (.iconst (-1), 1) := by decide +kernel
theorem d_L_when_20 : decode b_L_when 20 = .ok (.if_icmp .eq 8, 3) := by decide +kernel
theorem d_L_when_23 : decode b_L_when 23 = .ok (.iload_n 2, 1) := by decide +kernel
theorem d_L_when_24 : decode b_L_when 24 = .ok (.iload_n 3, 1) := by decide +kernel
theorem d_L_when_25 : decode b_L_when 25 = .ok (.if_icmp .le 5, 3) := by decide +kernel
theorem d_L_when_28 : decode b_L_when 28 = .ok (.iconst 0, 1) := by decide +kernel
theorem d_L_when_29 : decode b_L_when 29 = .ok (.ireturn, 1) := by decide +kernel
theorem d_L_when_30 : decode b_L_when 30 = .ok (.aload_n 0, 1) := by decide +kernel
theorem d_L_when_31 : decode b_L_when 31 = .ok (.getfield 12, 3) := by decide +kernel
theorem d_L_when_34 : decode b_L_when 34 = .ok (.iload 4, 2) := by decide +kernel
theorem d_L_when_36 : decode b_L_when 36 = .ok (.invokevirtual 73, 3) := by decide +kernel
theorem d_L_when_39 : decode b_L_when 39 = .ok (.iload_n 2, 1) := by decide +kernel
theorem d_L_when_40 : decode b_L_when 40 = .ok (.iload_n 3, 1) := by decide +kernel
theorem d_L_when_41 : decode b_L_when 41 = .ok (.invokevirtual 77, 3) := by decide +kernel
theorem d_L_when_44 : decode b_L_when 44 = .ok (.iconst 1, 1) := by decide +kernel
theorem d_L_when_45 : decode b_L_when 45 = .ok (.ireturn, 1) := by decide +kernel
theorem d_L_reorder_0 : decode b_L_reorder 0 = .ok (.aload_n 0, 1) := by decide +kernel
theorem d_L_reorder_1 : decode b_L_reorder 1 = .ok (.getfield 12, 3) := by decide +kernel
theorem d_L_reorder_4 : decode b_L_reorder 4 = .ok (.iload_n 1, 1) := by decide +kernel
theorem d_L_reorder_5 : decode b_L_reorder 5 = .ok (.invokevirtual 69, 3) := by decide +kernel
theorem d_L_reorder_8 : decode b_L_reorder 8 = .ok (.istore_n 3, 1) := by decide +kernel
theorem d_L_reorder_9 : decode b_L_reorder 9 = .ok (.aload_n 0, 1) := by decide +kernel
theorem d_L_reorder_10 : decode b_L_reorder 10 = .ok (.getfield 36, 3) := by decide +kernel
theorem d_L_reorder_13 : decode b_L_reorder 13 = .ok (.ifCond .ne 8, 3) := by decide +kernel
theorem d_L_reorder_16 : decode b_L_reorder 16 = .ok (.iload_n 3, 1) := by decide +kernel
theorem d_L_reorder_17 : decode b_L_reorder 17 = .ok (.iconst (-1), 1) := by decide +kernel
theorem d_L_reorder_18 : decode b_L_reorder 18 = .ok (.if_icmp .ne 5, 3) := by decide +kernel
theorem d_L_reorder_21 : decode b_L_reorder 21 = .ok (.iconst 0, 1) := by decide +kernel
theorem d_L_reorder_22 : decode b_L_reorder 22 = .ok (.ireturn, 1) := by decide +kernel
theorem d_L_reorder_23 : decode b_L_reorder 23 = .ok (.aload_n 0, 1) := by decide +kernel
theorem d_L_reorder_24 : decode b_L_reorder 24 = .ok (.getfield 12, 3) := by decide +kernel
theorem d_L_reorder_27 : decode b_L_reorder 27 = .ok (.iload_n 3, 1) := by decide +kernel
theorem d_L_reorder_28 : decode b_L_reorder 28 = .ok (.iload_n 2, 1) := by decide +kernel
theorem d_L_reorder_29 : decode b_L_reorder 29 = .ok (.invokevirtual 83, 3) := by decide +kernel
theorem d_L_reorder_32 : decode b_L_reorder 32 = .ok (.iconst 1, 1) := by decide +kernel
theorem d_L_reorder_33 : decode b_L_reorder 33 = .ok (.ireturn, 1) := by decide +kernel
theorem d_L_remove_0 : decode b_L_remove 0 = .ok (.aload_n 0, 1) := by decide +kernel
theorem d_L_remove_1 : decode b_L_remove 1 = .ok (.getfield 12, 3) := by decide +kernel
theorem d_L_remove_4 : decode b_L_remove 4 = .ok (.iload_n 1, 1) := by decide +kernel
theorem d_L_remove_5 : decode b_L_remove 5 = .ok (.invokevirtual 69, 3) := by decide +kernel
theorem d_L_remove_8 : decode b_L_remove 8 = .ok (.istore_n 2, 1) := by decide +kernel
theorem d_L_remove_9 : decode b_L_remove 9 = .ok (.aload_n 0, 1) := by decide +kernel
theorem d_L_remove_10 : decode b_L_remove 10 = .ok (.getfield 36, 3) := by decide +kernel
theorem d_L_remove_13 : decode b_L_remove 13 = .ok (.ifCond .ne 8, 3) := by decide +kernel
theorem d_L_remove_16 : decode b_L_remove 16 = .ok (.iload_n 2, 1) := by decide +kernel
theorem d_L_remove_17 : decode b_L_remove 17 = .ok (.iconst (-1), 1) := by decide +kernel
theorem d_L_remove_18 : decode b_L_remove 18 = .ok (.if_icmp .ne 5, 3) := by decide +kernel
theorem d_L_remove_21 : decode b_L_remove 21 = .ok (.iconst 0, 1) := by decide +kernel
theorem d_L_remove_22 : decode b_L_remove 22 = .ok (.ireturn, 1) := by decide +kernel
theorem d_L_remove_23 : decode b_L_remove 23 = .ok (.aload_n 0, 1) := by decide +kernel
theorem d_L_remove_24 : decode b_L_remove 24 = .ok (.getfield 12, 3) := by decide +kernel
theorem d_L_remove_27 : decode b_L_remove 27 = .ok (.iload_n 2, 1) := by decide +kernel
theorem d_L_remove_28 : decode b_L_remove 28 = .ok (.invokevirtual 86, 3) := by decide +kernel
theorem d_L_remove_31 : decode b_L_remove 31 = .ok (.iconst 1, 1) := by decide +kernel
theorem d_L_remove_32 : decode b_L_remove 32 = .ok (.ireturn, 1) := by decide +kernel
theorem d_L_freeze_0 : decode b_L_freeze 0 = .ok (.aload_n 0, 1) := by decide +kernel
theorem d_L_freeze_1 : decode b_L_freeze 1 = .ok (.iload_n 1, 1) := by decide +kernel
theorem d_L_freeze_2 : decode b_L_freeze 2 = .ok (.putfield 36, 3) := by decide +kernel
theorem d_L_freeze_5 : decode b_L_freeze 5 = .ok (.return_, 1) := by decide +kernel
theorem d_L_plan_0 : decode b_L_plan 0 = .ok (.iload_n 1, 1) := by decide +kernel
theorem d_L_plan_1 : decode b_L_plan 1 = .ok (.invokestatic 90, 3) := by decide +kernel
theorem d_L_plan_4 : decode b_L_plan 4 = .ok (.ifCond .eq 10, 3) := by decide +kernel
theorem d_L_plan_7 : decode b_L_plan 7 = .ok (.iload_n 2, 1) := by decide +kernel
theorem d_L_plan_8 : decode b_L_plan 8 = .ok (.invokestatic 94, 3) := by decide +kernel
theorem d_L_plan_11 : decode b_L_plan 11 = .ok (.ifCond .ne 5, 3) := by decide +kernel
theorem d_L_plan_14 : decode b_L_plan 14 = .ok (.iconst 0, 1) := by decide +kernel
theorem d_L_plan_15 : decode b_L_plan 15 = .ok (.ireturn, 1) := by decide +kernel
theorem d_L_plan_16 : decode b_L_plan 16 = .ok (.aload_n 0, 1) := by decide +kernel
theorem d_L_plan_17 : decode b_L_plan 17 = .ok (.iload_n 1, 1) := by decide +kernel
theorem d_L_plan_18 : decode b_L_plan 18 = .ok (.iload_n 2, 1) := by decide +kernel
theorem d_L_plan_19 : decode b_L_plan 19 = .ok (.invokevirtual 97, 3) := by decide +kernel
theorem d_L_plan_22 : decode b_L_plan 22 = .ok (.astore 5, 2) := by decide +kernel
theorem d_L_plan_24 : decode b_L_plan 24 = .ok (.aload 5, 2) := by decide +kernel
theorem d_L_plan_26 : decode b_L_plan 26 = .ok (.iload_n 3, 1) := by decide +kernel
theorem d_L_plan_27 : decode b_L_plan 27 = .ok (.putfield 101, 3) := by decide +kernel
theorem d_L_plan_30 : decode b_L_plan 30 = .ok (.aload 5, 2) := by decide +kernel
theorem d_L_plan_32 : decode b_L_plan 32 = .ok (.iload 4, 2) := by decide +kernel
theorem d_L_plan_34 : decode b_L_plan 34 = .ok (.putfield 104, 3) := by decide +kernel
theorem d_L_plan_37 : decode b_L_plan 37 = .ok (.iconst 1, 1) := by decide +kernel
theorem d_L_plan_38 : decode b_L_plan 38 = .ok (.ireturn, 1) := by decide +kernel
theorem d_L_fail_0 : decode b_L_fail 0 = .ok (.iload_n 1, 1) := by decide +kernel
theorem d_L_fail_1 : decode b_L_fail 1 = .ok (.invokestatic 90, 3) := by decide +kernel
theorem d_L_fail_4 : decode b_L_fail 4 = .ok (.ifCond .eq 18, 3) := by decide +kernel
theorem d_L_fail_7 : decode b_L_fail 7 = .ok (.iload_n 2, 1) := by decide +kernel
theorem d_L_fail_8 : decode b_L_fail 8 = .ok (.invokestatic 94, 3) := by decide +kernel
theorem d_L_fail_11 : decode b_L_fail 11 = .ok (.ifCond .eq 11, 3) := by decide +kernel
theorem d_L_fail_14 : decode b_L_fail 14 = .ok (.iload 4, 2) := by decide +kernel
theorem d_L_fail_16 : decode b_L_fail 16 = .ok (.invokestatic 107, 3) := by decide +kernel
theorem d_L_fail_19 : decode b_L_fail 19 = .ok (.ifCond .ne 5, 3) := by decide +kernel
theorem d_L_fail_22 : decode b_L_fail 22 = .ok (.iconst 0, 1) := by decide +kernel
theorem d_L_fail_23 : decode b_L_fail 23 = .ok (.ireturn, 1) := by decide +kernel
theorem d_L_fail_24 : decode b_L_fail 24 = .ok (.aload_n 0, 1) := by decide +kernel
theorem d_L_fail_25 : decode b_L_fail 25 = .ok (.iload_n 1, 1) := by decide +kernel
theorem d_L_fail_26 : decode b_L_fail 26 = .ok (.iload_n 2, 1) := by decide +kernel
theorem d_L_fail_27 : decode b_L_fail 27 = .ok (.invokevirtual 97, 3) := by decide +kernel
theorem d_L_fail_30 : decode b_L_fail 30 = .ok (.astore 5, 2) := by decide +kernel
theorem d_L_fail_32 : decode b_L_fail 32 = .ok (.aload 5, 2) := by decide +kernel
theorem d_L_fail_34 : decode b_L_fail 34 = .ok (.iload_n 3, 1) := by decide +kernel
theorem d_L_fail_35 : decode b_L_fail 35 = .ok (.putfield 110, 3) := by decide +kernel
theorem d_L_fail_38 : decode b_L_fail 38 = .ok (.aload 5, 2) := by decide +kernel
theorem d_L_fail_40 : decode b_L_fail 40 = .ok (.iload 4, 2) := by decide +kernel
theorem d_L_fail_42 : decode b_L_fail 42 = .ok (.putfield 113, 3) := by decide +kernel
theorem d_L_fail_45 : decode b_L_fail 45 = .ok (.iconst 1, 1) := by decide +kernel
theorem d_L_fail_46 : decode b_L_fail 46 = .ok (.ireturn, 1) := by decide +kernel
theorem d_L_calls_0 : decode b_L_calls 0 = .ok (.iload_n 1, 1) := by decide +kernel
theorem d_L_calls_1 : decode b_L_calls 1 = .ok (.invokestatic 90, 3) := by decide +kernel
theorem d_L_calls_4 : decode b_L_calls 4 = .ok (.ifCond .eq 22, 3) := by decide +kernel
theorem d_L_calls_7 : decode b_L_calls 7 = .ok (.iload_n 2, 1) := by decide +kernel
theorem d_L_calls_8 : decode b_L_calls 8 = .ok (.invokestatic 94, 3) := by decide +kernel
theorem d_L_calls_11 : decode b_L_calls 11 = .ok (.ifCond .eq 15, 3) := by decide +kernel
theorem d_L_calls_14 : decode b_L_calls 14 = .ok (.iload_n 3, 1) := by decide +kernel
theorem d_L_calls_15 : decode b_L_calls 15 = .ok (.iconst (-1), 1) := by decide +kernel
theorem d_L_calls_16 : decode b_L_calls 16 = .ok (.if_icmp .eq 12, 3) := by decide +kernel
theorem d_L_calls_19 : decode b_L_calls 19 = .ok (.iload_n 3, 1) := by decide +kernel
theorem d_L_calls_20 : decode b_L_calls 20 = .ok (.invokestatic 94, 3) := by decide +kernel
theorem d_L_calls_23 : decode b_L_calls 23 = .ok (.ifCond .ne 5, 3) := by decide +kernel
theorem d_L_calls_26 : decode b_L_calls 26 = .ok (.iconst 0, 1) := by decide +kernel
theorem d_L_calls_27 : decode b_L_calls 27 = .ok (.ireturn, 1) := by decide +kernel
theorem d_L_calls_28 : decode b_L_calls 28 = .ok (.aload_n 0, 1) := by decide +kernel
theorem d_L_calls_29 : decode b_L_calls 29 = .ok (.iload_n 1, 1) := by decide +kernel
theorem d_L_calls_30 : decode b_L_calls 30 = .ok (.iload_n 2, 1) := by decide +kernel
theorem d_L_calls_31 : decode b_L_calls 31 = .ok (.invokevirtual 97, 3) := by decide +kernel
theorem d_L_calls_34 : decode b_L_calls 34 = .ok (.iload_n 3, 1) := by decide +kernel
theorem d_L_calls_35 : decode b_L_calls 35 = .ok (.putfield 116, 3) := by decide +kernel
theorem d_L_calls_38 : decode b_L_calls 38 = .ok (.iconst 1, 1) := by decide +kernel
theorem d_L_calls_39 : decode b_L_calls 39 = .ok (.ireturn, 1) := by decide +kernel
theorem d_L_source_0 : decode b_L_source 0 = .ok (.iload_n 1, 1) := by decide +kernel
theorem d_L_source_1 : decode b_L_source 1 = .ok (.ifCond .lt 8, 3) := by decide +kernel
theorem d_L_source_4 : decode b_L_source 4 = .ok (.iload_n 1, 1) := by decide +kernel
theorem d_L_source_5 : decode b_L_source 5 = .ok (.iconst 2, 1) := by decide +kernel
theorem d_L_source_6 : decode b_L_source 6 = .ok (.if_icmp .le 5, 3) := by decide +kernel
theorem d_L_source_9 : decode b_L_source 9 = .ok (.iconst 0, 1) := by decide +kernel
theorem d_L_source_10 : decode b_L_source 10 = .ok (.ireturn, 1) := by decide +kernel
theorem d_L_source_11 : decode b_L_source 11 = .ok (.aload_n 0, 1) := by decide +kernel
theorem d_L_source_12 : decode b_L_source 12 = .ok (.iload_n 1, 1) := by decide +kernel
theorem d_L_source_13 : decode b_L_source 13 = .ok (.putfield 40, 3) := by decide +kernel
theorem d_L_source_16 : decode b_L_source 16 = .ok (.aload_n 0, 1) := by decide +kernel
theorem d_L_source_17 : decode b_L_source 17 = .ok (.iconst 0, 1) := by decide +kernel
theorem d_L_source_18 : decode b_L_source 18 = .ok (.putfield 44, 3) := by decide +kernel
theorem d_L_source_21 : decode b_L_source 21 = .ok (.iconst 1, 1) := by decide +kernel
theorem d_L_source_22 : decode b_L_source 22 = .ok (.ireturn, 1) := by decide +kernel
theorem d_L_invoke_0 : decode b_L_invoke 0 = .ok (.iload_n 1, 1) := by decide +kernel
theorem d_L_invoke_1 : decode b_L_invoke 1 = .ok (.invokestatic 94, 3) := by decide +kernel
theorem d_L_invoke_4 : decode b_L_invoke 4 = .ok (.ifCond .ne 5, 3) := by decide +kernel
theorem d_L_invoke_7 : decode b_L_invoke 7 = .ok (.iconst (-1), 1) := by decide +kernel
theorem d_L_invoke_8 : decode b_L_invoke 8 = .ok (.ireturn, 1) := by decide +kernel
theorem d_L_invoke_9 : decode b_L_invoke 9 = .ok (.aload_n 0, 1) := by decide +kernel
theorem d_L_invoke_10 : decode b_L_invoke 10 = .ok (.getfield 25, 3) := by decide +kernel
theorem d_L_invoke_13 : decode b_L_invoke 13 = .ok (.invokevirtual 119, 3) := by decide +kernel
theorem d_L_invoke_16 : decode b_L_invoke 16 = .ok (.aload_n 0, 1) := by decide +kernel
theorem d_L_invoke_17 : decode b_L_invoke 17 = .ok (.iconst 0, 1) := by decide +kernel
theorem d_L_invoke_18 : decode b_L_invoke 18 = .ok (.putfield 47, 3) := by decide +kernel
theorem d_L_invoke_21 : decode b_L_invoke 21 = .ok (.aload_n 0, 1) := by decide +kernel
theorem d_L_invoke_22 : decode b_L_invoke 22 = .ok (.iconst 0, 1) := by decide +kernel
theorem d_L_invoke_23 : decode b_L_invoke 23 = .ok (.putfield 50, 3) := by decide +kernel
theorem d_L_invoke_26 : decode b_L_invoke 26 = .ok (.aload_n 0, 1) := by decide +kernel
theorem d_L_invoke_27 : decode b_L_invoke 27 = .ok (.iload_n 1, 1) := by decide +kernel
theorem d_L_invoke_28 : decode b_L_invoke 28 = .ok (.iload_n 2, 1) := by decide +kernel
theorem d_L_invoke_29 : decode b_L_invoke 29 = .ok (.iconst 0, 1) := by decide +kernel
theorem d_L_invoke_30 : decode b_L_invoke 30 = .ok (.invokevirtual 122, 3) := by decide +kernel
theorem d_L_invoke_33 : decode b_L_invoke 33 = .ok (.ireturn, 1) := by decide +kernel
theorem d_L_result_0 : decode b_L_result 0 = .ok (.aload_n 0, 1) := by decide +kernel
theorem d_L_result_1 : decode b_L_result 1 = .ok (.getfield 53, 3) := by decide +kernel
theorem d_L_result_4 : decode b_L_result 4 = .ok (.ireturn, 1) := by decide +kernel
theorem d_L_events_0 : decode b_L_events 0 = .ok (.aload_n 0, 1) := by decide +kernel
theorem d_L_events_1 : decode b_L_events 1 = .ok (.getfield 25, 3) := by decide +kernel
theorem d_L_events_4 : decode b_L_events 4 = .ok (.getfield 126, 3) := by decide +kernel
theorem d_L_events_7 : decode b_L_events 7 = .ok (.ireturn, 1) := by decide +kernel
theorem d_L_who_0 : decode b_L_who 0 = .ok (.aload_n 0, 1) := by decide +kernel
theorem d_L_who_1 : decode b_L_who 1 = .ok (.getfield 25, 3) := by decide +kernel
theorem d_L_who_4 : decode b_L_who 4 = .ok (.iload_n 1, 1) := by decide +kernel
theorem d_L_who_5 : decode b_L_who 5 = .ok (.invokevirtual 129, 3) := by decide +kernel
theorem d_L_who_8 : decode b_L_who 8 = .ok (.ifCond .eq 15, 3) := by decide +kernel
theorem d_L_who_11 : decode b_L_who 11 = .ok (.aload_n 0, 1) := by decide +kernel
theorem d_L_who_12 : decode b_L_who 12 = .ok (.getfield 25, 3) := by decide +kernel
theorem d_L_who_15 : decode b_L_who 15 = .ok (.getfield 132, 3) := by decide +kernel
theorem d_L_who_18 : decode b_L_who 18 = .ok (.iload_n 1, 1) := by decide +kernel
theorem d_L_who_19 : decode b_L_who 19 = .ok (.iaload, 1) := by decide +kernel
theorem d_L_who_20 : decode b_L_who 20 = .ok (.goto 4, 3) := by decide +kernel
theorem d_L_who_23 : decode b_L_who 23 = .ok (.iconst (-1), 1) := by decide +kernel
theorem d_L_who_24 : decode b_L_who 24 = .ok (.ireturn, 1) := by decide +kernel
theorem d_L_what_0 : decode b_L_what 0 = .ok (.aload_n 0, 1) := by decide +kernel
theorem d_L_what_1 : decode b_L_what 1 = .ok (.getfield 25, 3) := by decide +kernel
theorem d_L_what_4 : decode b_L_what 4 = .ok (.iload_n 1, 1) := by decide +kernel
theorem d_L_what_5 : decode b_L_what 5 = .ok (.invokevirtual 129, 3) := by decide +kernel
theorem d_L_what_8 : decode b_L_what 8 = .ok (.ifCond .eq 15, 3) := by decide +kernel
theorem d_L_what_11 : decode b_L_what 11 = .ok (.aload_n 0, 1) := by decide +kernel
theorem d_L_what_12 : decode b_L_what 12 = .ok (.getfield 25, 3) := by decide +kernel
theorem d_L_what_15 : decode b_L_what 15 = .ok (.getfield 135, 3) := by decide +kernel
theorem d_L_what_18 : decode b_L_what 18 = .ok (.iload_n 1, 1) := by decide +kernel
theorem d_L_what_19 : decode b_L_what 19 = .ok (.iaload, 1) := by decide +kernel
theorem d_L_what_20 : decode b_L_what 20 = .ok (.goto 4, 3) := by decide +kernel
theorem d_L_what_23 : decode b_L_what 23 = .ok (.iconst 0, 1) := by decide +kernel
theorem d_L_what_24 : decode b_L_what 24 = .ok (.ireturn, 1) := by decide +kernel
theorem d_L_asked_0 : decode b_L_asked 0 = .ok (.aload_n 0, 1) := by decide +kernel
theorem d_L_asked_1 : decode b_L_asked 1 = .ok (.getfield 47, 3) := by decide +kernel
theorem d_L_asked_4 : decode b_L_asked 4 = .ok (.ireturn, 1) := by decide +kernel
theorem d_L_taken_0 : decode b_L_taken 0 = .ok (.aload_n 0, 1) := by decide +kernel
theorem d_L_taken_1 : decode b_L_taken 1 = .ok (.getfield 50, 3) := by decide +kernel
theorem d_L_taken_4 : decode b_L_taken 4 = .ok (.ireturn, 1) := by decide +kernel
theorem d_L_chain_0 : decode b_L_chain 0 = .ok (.iload_n 1, 1) := by decide +kernel
theorem d_L_chain_1 : decode b_L_chain 1 = .ok (.invokestatic 94, 3) := by decide +kernel
theorem d_L_chain_4 : decode b_L_chain 4 = .ok (.ifCond .eq 15, 3) := by decide +kernel
theorem d_L_chain_7 : decode b_L_chain 7 = .ok (.aload_n 0, 1) := by decide +kernel
theorem d_L_chain_8 : decode b_L_chain 8 = .ok (.getfield 12, 3) := by decide +kernel
theorem d_L_chain_11 : decode b_L_chain 11 = .ok (.iload_n 1, 1) := by decide +kernel
theorem d_L_chain_12 : decode b_L_chain 12 = .ok (.iload_n 2, 1) := by decide +kernel
theorem d_L_chain_13 : decode b_L_chain 13 = .ok (.invokevirtual 138, 3) := by decide +kernel
theorem d_L_chain_16 : decode b_L_chain 16 = .ok (.goto 4, 3) := by decide +kernel
theorem d_L_chain_19 : decode b_L_chain 19 = .ok (.iconst (-1), 1) := by decide +kernel
theorem d_L_chain_20 : decode b_L_chain 20 = .ok (.ireturn, 1) := by decide +kernel
theorem d_L_isMethod_0 : decode b_L_isMethod 0 = .ok (.iload_n 0, 1) := by decide +kernel
theorem d_L_isMethod_1 : decode b_L_isMethod 1 = .ok (.ifCond .lt 13, 3) := by decide +kernel
theorem d_L_isMethod_4 : decode b_L_isMethod 4 = .ok (.iload_n 0, 1) := by decide +kernel
theorem d_L_isMethod_5 : decode b_L_isMethod 5 = .ok (.bipush 6, 2) := by decide +kernel
theorem d_L_isMethod_7 : decode b_L_isMethod 7 = .ok (.if_icmp .ge 7, 3) := by decide +kernel
theorem d_L_isMethod_10 : decode b_L_isMethod 10 = .ok (.iconst 1, 1) := by decide +kernel
theorem d_L_isMethod_11 : decode b_L_isMethod 11 = .ok (.goto 4, 3) := by decide +kernel
theorem d_L_isMethod_14 : decode b_L_isMethod 14 = .ok (.iconst 0, 1) := by decide +kernel
theorem d_L_isMethod_15 : decode b_L_isMethod 15 = .ok (.ireturn, 1) := by decide +kernel
theorem d_L_isTarget_0 : decode b_L_isTarget 0 = .ok (.iload_n 0, 1) := by decide +kernel
theorem d_L_isTarget_1 : decode b_L_isTarget 1 = .ok (.ifCond .lt 12, 3) := by decide +kernel
theorem d_L_isTarget_4 : decode b_L_isTarget 4 = .ok (.iload_n 0, 1) := by decide +kernel
theorem d_L_isTarget_5 : decode b_L_isTarget 5 = .ok (.iconst 2, 1) := by decide +kernel
theorem d_L_isTarget_6 : decode b_L_isTarget 6 = .ok (.if_icmp .ge 7, 3) := by decide +kernel
theorem d_L_isTarget_9 : decode b_L_isTarget 9 = .ok (.iconst 1, 1) := by decide +kernel
theorem d_L_isTarget_10 : decode b_L_isTarget 10 = .ok (.goto 4, 3) := by decide +kernel
theorem d_L_isTarget_13 : decode b_L_isTarget 13 = .ok (.iconst 0, 1) := by decide +kernel
theorem d_L_isTarget_14 : decode b_L_isTarget 14 = .ok (.ireturn, 1) := by decide +kernel
theorem d_L_isException_0 : decode b_L_isException 0 = .ok (.iload_n 0, 1) := by decide +kernel
theorem d_L_isException_1 : decode b_L_isException 1 = .ok (.iconst 1, 1) := by decide +kernel
theorem d_L_isException_2 : decode b_L_isException 2 = .ok (.if_icmp .lt 13, 3) := by decide +kernel
theorem d_L_isException_5 : decode b_L_isException 5 = .ok (.iload_n 0, 1) := by decide +kernel
theorem d_L_isException_6 : decode b_L_isException 6 = .ok (.bipush 15, 2) := by decide +kernel
theorem d_L_isException_8 : decode b_L_isException 8 = .ok (.if_icmp .gt 7, 3) := by decide +kernel
theorem d_L_isException_11 : decode b_L_isException 11 = .ok (.iconst 1, 1) := by decide +kernel
theorem d_L_isException_12 : decode b_L_isException 12 = .ok (.goto 4, 3) := by decide +kernel
theorem d_L_isException_15 : decode b_L_isException 15 = .ok (.iconst 0, 1) := by decide +kernel
theorem d_L_isException_16 : decode b_L_isException 16 = .ok (.ireturn, 1) := by decide +kernel
theorem d_L_isExceptionOrZero_0 : decode b_L_isExceptionOrZero 0 = .ok (.iload_n 0, 1) := by decide +kernel
theorem d_L_isExceptionOrZero_1 : decode b_L_isExceptionOrZero 1 = .ok (.ifCond .eq 10, 3) := by decide +kernel
theorem d_L_isExceptionOrZero_4 : decode b_L_isExceptionOrZero 4 = .ok (.iload_n 0, 1) := by decide +kernel
theorem d_L_isExceptionOrZero_5 : decode b_L_isExceptionOrZero 5 = .ok (.invokestatic 142, 3) := by decide +kernel
theorem d_L_isExceptionOrZero_8 : decode b_L_isExceptionOrZero 8 = .ok (.ifCond .eq 7, 3) := by decide +kernel
theorem d_L_isExceptionOrZero_11 : decode b_L_isExceptionOrZero 11 = .ok (.iconst 1, 1) := by decide +kernel
theorem d_L_isExceptionOrZero_12 : decode b_L_isExceptionOrZero 12 = .ok (.goto 4, 3) := by decide +kernel
theorem d_L_isExceptionOrZero_15 : decode b_L_isExceptionOrZero 15 = .ok (.iconst 0, 1) := by decide +kernel
theorem d_L_isExceptionOrZero_16 : decode b_L_isExceptionOrZero 16 = .ok (.ireturn, 1) := by decide +kernel
theorem d_L_areNumbersOf_0 : decode b_L_areNumbersOf 0 = .ok (.iload_n 0, 1) := by decide +kernel
theorem d_L_areNumbersOf_1 : decode b_L_areNumbersOf 1 = .ok (.tableswitch 77 0 7 #[47, 77, 77, 77, 47, 52, 47, 72], 47) := by decide +kernel
theorem d_L_areNumbersOf_48 : decode b_L_areNumbersOf 48 = .ok (.iload_n 2, 1) := by decide +kernel
theorem d_L_areNumbersOf_49 : decode b_L_areNumbersOf 49 = .ok (.invokestatic 142, 3) := by decide +kernel
theorem d_L_areNumbersOf_52 : decode b_L_areNumbersOf 52 = .ok (.ireturn, 1) := by decide +kernel
theorem d_L_areNumbersOf_53 : decode b_L_areNumbersOf 53 = .ok (.iload_n 1, 1) := by decide +kernel
theorem d_L_areNumbersOf_54 : decode b_L_areNumbersOf 54 = .ok (.invokestatic 142, 3) := by decide +kernel
theorem d_L_areNumbersOf_57 : decode b_L_areNumbersOf 57 = .ok (.ifCond .eq 14, 3) := by decide +kernel
theorem d_L_areNumbersOf_60 : decode b_L_areNumbersOf 60 = .ok (.iload_n 2, 1) := by decide +kernel
theorem d_L_areNumbersOf_61 : decode b_L_areNumbersOf 61 = .ok (.invokestatic 107, 3) := by decide +kernel
theorem d_L_areNumbersOf_64 : decode b_L_areNumbersOf 64 = .ok (.ifCond .eq 7, 3) := by decide +kernel
theorem d_L_areNumbersOf_67 : decode b_L_areNumbersOf 67 = .ok (.iconst 1, 1) := by decide +kernel
theorem d_L_areNumbersOf_68 : decode b_L_areNumbersOf 68 = .ok (.goto 4, 3) := by decide +kernel
theorem d_L_areNumbersOf_71 : decode b_L_areNumbersOf 71 = .ok (.iconst 0, 1) := by decide +kernel
theorem d_L_areNumbersOf_72 : decode b_L_areNumbersOf 72 = .ok (.ireturn, 1) := by decide +kernel
theorem d_L_areNumbersOf_73 : decode b_L_areNumbersOf 73 = .ok (.iload_n 1, 1) := by decide +kernel
theorem d_L_areNumbersOf_74 : decode b_L_areNumbersOf 74 = .ok (.invokestatic 142, 3) := by decide +kernel
theorem d_L_areNumbersOf_77 : decode b_L_areNumbersOf 77 = .ok (.ireturn, 1) := by decide +kernel
theorem d_L_areNumbersOf_78 : decode b_L_areNumbersOf 78 = .ok (.iconst 1, 1) := by decide +kernel
theorem d_L_areNumbersOf_79 : decode b_L_areNumbersOf 79 = .ok (.ireturn, 1) := by decide +kernel
theorem d_L_isKindOf_0 : decode b_L_isKindOf 0 = .ok (.iload_n 0, 1) := by decide +kernel
theorem d_L_isKindOf_1 : decode b_L_isKindOf 1 = .ok (.istore_n 2, 1) := by decide +kernel
theorem d_L_isKindOf_2 : decode b_L_isKindOf 2 = .ok (.iload_n 2, 1) := by decide +kernel
theorem d_L_isKindOf_3 : decode b_L_isKindOf 3 = .ok (.ifCond .le 17, 3) := by decide +kernel
theorem d_L_isKindOf_6 : decode b_L_isKindOf 6 = .ok (.iload_n 2, 1) := by decide +kernel
theorem d_L_isKindOf_7 : decode b_L_isKindOf 7 = .ok (.iload_n 1, 1) := by decide +kernel
theorem d_L_isKindOf_8 : decode b_L_isKindOf 8 = .ok (.if_icmp .ne 5, 3) := by decide +kernel
theorem d_L_isKindOf_11 : decode b_L_isKindOf 11 = .ok (.iconst 1, 1) := by decide +kernel
theorem d_L_isKindOf_12 : decode b_L_isKindOf 12 = .ok (.ireturn, 1) := by decide +kernel
theorem d_L_isKindOf_13 : decode b_L_isKindOf 13 = .ok (.iload_n 2, 1) := by decide +kernel
theorem d_L_isKindOf_14 : decode b_L_isKindOf 14 = .ok (.iconst 2, 1) := by decide +kernel
theorem d_L_isKindOf_15 : decode b_L_isKindOf 15 = .ok (.idiv, 1) := by decide +kernel
theorem d_L_isKindOf_16 : decode b_L_isKindOf 16 = .ok (.istore_n 2, 1) := by decide +kernel
theorem d_L_isKindOf_17 : decode b_L_isKindOf 17 = .ok (.goto (-15), 3) := by decide +kernel
theorem d_L_isKindOf_20 : decode b_L_isKindOf 20 = .ok (.iconst 0, 1) := by decide +kernel
theorem d_L_isKindOf_21 : decode b_L_isKindOf 21 = .ok (.ireturn, 1) := by decide +kernel
theorem d_L_workOf_0 : decode b_L_workOf 0 = .ok (.aload_n 0, 1) := by decide +kernel
theorem d_L_workOf_1 : decode b_L_workOf 1 = .ok (.getfield 18, 3) := by decide +kernel
theorem d_L_workOf_4 : decode b_L_workOf 4 = .ok (.iload_n 1, 1) := by decide +kernel
theorem d_L_workOf_5 : decode b_L_workOf 5 = .ok (.bipush 6, 2) := by decide +kernel
theorem d_L_workOf_7 : decode b_L_workOf 7 = .ok (.imul, 1) := by decide +kernel
theorem d_L_workOf_8 : decode b_L_workOf 8 = .ok (.iload_n 2, 1) := by decide +kernel
theorem d_L_workOf_9 : decode b_L_workOf 9 = .ok (.iadd, 1) := by decide +kernel
theorem d_L_workOf_10 : decode b_L_workOf 10 = .ok (.aaload, 1) := by decide +kernel
theorem d_L_workOf_11 : decode b_L_workOf 11 = .ok (.areturn, 1) := by decide +kernel
theorem d_L_returned_0 : decode b_L_returned 0 = .ok (.aload_n 0, 1) := by decide +kernel
theorem d_L_returned_1 : decode b_L_returned 1 = .ok (.iload_n 1, 1) := by decide +kernel
theorem d_L_returned_2 : decode b_L_returned 2 = .ok (.putfield 53, 3) := by decide +kernel
theorem d_L_returned_5 : decode b_L_returned 5 = .ok (.iconst 0, 1) := by decide +kernel
theorem d_L_returned_6 : decode b_L_returned 6 = .ok (.ireturn, 1) := by decide +kernel
theorem d_L_thrown_0 : decode b_L_thrown 0 = .ok (.aload_n 0, 1) := by decide +kernel
theorem d_L_thrown_1 : decode b_L_thrown 1 = .ok (.iload_n 1, 1) := by decide +kernel
theorem d_L_thrown_2 : decode b_L_thrown 2 = .ok (.putfield 53, 3) := by decide +kernel
theorem d_L_thrown_5 : decode b_L_thrown 5 = .ok (.iconst 1, 1) := by decide +kernel
theorem d_L_thrown_6 : decode b_L_thrown 6 = .ok (.ireturn, 1) := by decide +kernel
theorem d_L_brokenOff_0 : decode b_L_brokenOff 0 = .ok (.aload_n 0, 1) := by decide +kernel
theorem d_L_brokenOff_1 : decode b_L_brokenOff 1 = .ok (.iconst 0, 1) := by decide +kernel
theorem d_L_brokenOff_2 : decode b_L_brokenOff 2 = .ok (.putfield 53, 3) := by decide +kernel
theorem d_L_brokenOff_5 : decode b_L_brokenOff 5 = .ok (.iconst 2, 1) := by decide +kernel
theorem d_L_brokenOff_6 : decode b_L_brokenOff 6 = .ok (.ireturn, 1) := by decide +kernel
theorem d_L_takeTarget_0 : decode b_L_takeTarget 0 = .ok (.aload_n 0, 1) := by decide +kernel
theorem d_L_takeTarget_1 : decode b_L_takeTarget 1 = .ok (.dup, 1) := by decide +kernel
theorem d_L_takeTarget_2 : decode b_L_takeTarget 2 = .ok (.getfield 50, 3) := by decide +kernel
theorem d_L_takeTarget_5 : decode b_L_takeTarget 5 = .ok (.iconst 1, 1) := by decide +kernel
theorem d_L_takeTarget_6 : decode b_L_takeTarget 6 = .ok (.iadd, 1) := by decide +kernel
theorem d_L_takeTarget_7 : decode b_L_takeTarget 7 = .ok (.putfield 50, 3) := by decide +kernel
theorem d_L_takeTarget_10 : decode b_L_takeTarget 10 = .ok (.aload_n 0, 1) := by decide +kernel
theorem d_L_takeTarget_11 : decode b_L_takeTarget 11 = .ok (.getfield 40, 3) := by decide +kernel
theorem d_L_takeTarget_14 : decode b_L_takeTarget 14 = .ok (.iconst 2, 1) := by decide +kernel
theorem d_L_takeTarget_15 : decode b_L_takeTarget 15 = .ok (.if_icmp .eq 8, 3) := by decide +kernel
theorem d_L_takeTarget_18 : decode b_L_takeTarget 18 = .ok (.aload_n 0, 1) := by decide +kernel
theorem d_L_takeTarget_19 : decode b_L_takeTarget 19 = .ok (.getfield 40, 3) := by decide +kernel
theorem d_L_takeTarget_22 : decode b_L_takeTarget 22 = .ok (.ireturn, 1) := by decide +kernel
theorem d_L_takeTarget_23 : decode b_L_takeTarget 23 = .ok (.aload_n 0, 1) := by decide +kernel
theorem d_L_takeTarget_24 : decode b_L_takeTarget 24 = .ok (.getfield 44, 3) := by decide +kernel
theorem d_L_takeTarget_27 : decode b_L_takeTarget 27 = .ok (.istore_n 1, 1) := by decide +kernel
theorem d_L_takeTarget_28 : decode b_L_takeTarget 28 = .ok (.aload_n 0, 1) := by decide +kernel
theorem d_L_takeTarget_29 : decode b_L_takeTarget 29 = .ok (.iconst 1, 1) := by decide +kernel
theorem d_L_takeTarget_30 : decode b_L_takeTarget 30 = .ok (.iload_n 1, 1) := by decide +kernel
theorem d_L_takeTarget_31 : decode b_L_takeTarget 31 = .ok (.isub, 1) := by decide +kernel
theorem d_L_takeTarget_32 : decode b_L_takeTarget 32 = .ok (.putfield 44, 3) := by decide +kernel
theorem d_L_takeTarget_35 : decode b_L_takeTarget 35 = .ok (.iload_n 1, 1) := by decide +kernel
theorem d_L_takeTarget_36 : decode b_L_takeTarget 36 = .ok (.ireturn, 1) := by decide +kernel
theorem d_L_begin_0 : decode b_L_begin 0 = .ok (.iload_n 3, 1) := by decide +kernel
theorem d_L_begin_1 : decode b_L_begin 1 = .ok (.iconst 3, 1) := by decide +kernel
theorem d_L_begin_2 : decode b_L_begin 2 = .ok (.if_icmp .lt 10, 3) := by decide +kernel
theorem d_L_begin_5 : decode b_L_begin 5 = .ok (.aload_n 0, 1) := by decide +kernel
theorem d_L_begin_6 : decode b_L_begin 6 = .ok (.bipush 15, 2) := by decide +kernel
theorem d_L_begin_8 : decode b_L_begin 8 = .ok (.invokevirtual 145, 3) := by decide +kernel
theorem d_L_begin_11 : decode b_L_begin 11 = .ok (.ireturn, 1) := by decide +kernel
theorem d_L_begin_12 : decode b_L_begin 12 = .ok (.aload_n 0, 1) := by decide +kernel
theorem d_L_begin_13 : decode b_L_begin 13 = .ok (.getfield 29, 3) := by decide +kernel
theorem d_L_begin_16 : decode b_L_begin 16 = .ok (.iload_n 3, 1) := by decide +kernel
theorem d_L_begin_17 : decode b_L_begin 17 = .ok (.iload_n 1, 1) := by decide +kernel
theorem d_L_begin_18 : decode b_L_begin 18 = .ok (.iastore, 1) := by decide +kernel
theorem d_L_begin_19 : decode b_L_begin 19 = .ok (.aload_n 0, 1) := by decide +kernel
theorem d_L_begin_20 : decode b_L_begin 20 = .ok (.getfield 33, 3) := by decide +kernel
theorem d_L_begin_23 : decode b_L_begin 23 = .ok (.iload_n 3, 1) := by decide +kernel
theorem d_L_begin_24 : decode b_L_begin 24 = .ok (.aload_n 0, 1) := by decide +kernel
theorem d_L_begin_25 : decode b_L_begin 25 = .ok (.invokevirtual 148, 3) := by decide +kernel
theorem d_L_begin_28 : decode b_L_begin 28 = .ok (.iastore, 1) := by decide +kernel
theorem d_L_begin_29 : decode b_L_begin 29 = .ok (.aload_n 0, 1) := by decide +kernel
theorem d_L_begin_30 : decode b_L_begin 30 = .ok (.iload_n 3, 1) := by decide +kernel
theorem d_L_begin_31 : decode b_L_begin 31 = .ok (.iconst 0, 1) := by decide +kernel
theorem d_L_begin_32 : decode b_L_begin 32 = .ok (.iload_n 2, 1) := by decide +kernel
theorem d_L_begin_33 : decode b_L_begin 33 = .ok (.invokevirtual 152, 3) := by decide +kernel
theorem d_L_begin_36 : decode b_L_begin 36 = .ok (.ireturn, 1) := by decide +kernel
theorem d_L_goAlong_0 : decode b_L_goAlong 0 = .ok (.aload_n 0, 1) := by decide +kernel
theorem d_L_goAlong_1 : decode b_L_goAlong 1 = .ok (.getfield 12, 3) := by decide +kernel
theorem d_L_goAlong_4 : decode b_L_goAlong 4 = .ok (.aload_n 0, 1) := by decide +kernel
theorem d_L_goAlong_5 : decode b_L_goAlong 5 = .ok (.getfield 29, 3) := by decide +kernel
theorem d_L_goAlong_8 : decode b_L_goAlong 8 = .ok (.iload_n 1, 1) := by decide +kernel
theorem d_L_goAlong_9 : decode b_L_goAlong 9 = .ok (.iaload, 1) := by decide +kernel
theorem d_L_goAlong_10 : decode b_L_goAlong 10 = .ok (.iload_n 2, 1) := by decide +kernel
theorem d_L_goAlong_11 : decode b_L_goAlong 11 = .ok (.invokevirtual 155, 3) := by decide +kernel
theorem d_L_goAlong_14 : decode b_L_goAlong 14 = .ok (.istore 4, 2) := by decide +kernel
theorem d_L_goAlong_16 : decode b_L_goAlong 16 = .ok (.iload 4, 2) := by decide +kernel
theorem d_L_goAlong_18 : decode b_L_goAlong 18 = .ok (.iconst (-1), 1) := by decide +kernel
theorem d_L_goAlong_19 : decode b_L_goAlong 19 = .ok (.if_icmp .ne 10, 3) := by decide +kernel
theorem d_L_goAlong_22 : decode b_L_goAlong 22 = .ok (.aload_n 0, 1) := by decide +kernel
theorem d_L_goAlong_23 : decode b_L_goAlong 23 = .ok (.iload_n 1, 1) := by decide +kernel
theorem d_L_goAlong_24 : decode b_L_goAlong 24 = .ok (.iload_n 3, 1) := by decide +kernel
theorem d_L_goAlong_25 : decode b_L_goAlong 25 = .ok (.invokevirtual 158, 3) := by decide +kernel
theorem d_L_goAlong_28 : decode b_L_goAlong 28 = .ok (.ireturn, 1) := by decide +kernel
theorem d_L_goAlong_29 : decode b_L_goAlong 29 = .ok (.aload_n 0, 1) := by decide +kernel
theorem d_L_goAlong_30 : decode b_L_goAlong 30 = .ok (.getfield 12, 3) := by decide +kernel
theorem d_L_goAlong_33 : decode b_L_goAlong 33 = .ok (.iload 4, 2) := by decide +kernel
theorem d_L_goAlong_35 : decode b_L_goAlong 35 = .ok (.invokevirtual 73, 3) := by decide +kernel
theorem d_L_goAlong_38 : decode b_L_goAlong 38 = .ok (.astore 5, 2) := by decide +kernel
theorem d_L_goAlong_40 : decode b_L_goAlong 40 = .ok (.aload 5, 2) := by decide +kernel
theorem d_L_goAlong_42 : decode b_L_goAlong 42 = .ok (.getfield 161, 3) := by decide +kernel
theorem d_L_goAlong_45 : decode b_L_goAlong 45 = .ok (.ifCond .eq 33, 3) := by decide +kernel
theorem d_L_goAlong_48 : decode b_L_goAlong 48 = .ok (.aload_n 0, 1) := by decide +kernel
theorem d_L_goAlong_49 : decode b_L_goAlong 49 = .ok (.dup, 1) := by decide +kernel
theorem d_L_goAlong_50 : decode b_L_goAlong 50 = .ok (.getfield 47, 3) := by decide +kernel
theorem d_L_goAlong_53 : decode b_L_goAlong 53 = .ok (.iconst 1, 1) := by decide +kernel
theorem d_L_goAlong_54 : decode b_L_goAlong 54 = .ok (.iadd, 1) := by decide +kernel
theorem d_L_goAlong_55 : decode b_L_goAlong 55 = .ok (.putfield 47, 3) := by decide +kernel
theorem d_L_goAlong_58 : decode b_L_goAlong 58 = .ok (.aload 5, 2) := by decide +kernel
theorem d_L_goAlong_60 : decode b_L_goAlong 60 = .ok (.iload_n 3, 1) := by decide +kernel
theorem d_L_goAlong_61 : decode b_L_goAlong 61 = .ok (.invokevirtual 164, 3) := by decide +kernel
theorem d_L_goAlong_64 : decode b_L_goAlong 64 = .ok (.ifCond .ne 14, 3) := by decide +kernel
theorem d_L_goAlong_67 : decode b_L_goAlong 67 = .ok (.aload_n 0, 1) := by decide +kernel
theorem d_L_goAlong_68 : decode b_L_goAlong 68 = .ok (.iload_n 1, 1) := by decide +kernel
theorem d_L_goAlong_69 : decode b_L_goAlong 69 = .ok (.iload 4, 2) := by decide +kernel
theorem d_L_goAlong_71 : decode b_L_goAlong 71 = .ok (.iconst 1, 1) := by decide +kernel
theorem d_L_goAlong_72 : decode b_L_goAlong 72 = .ok (.iadd, 1) := by decide +kernel
theorem d_L_goAlong_73 : decode b_L_goAlong 73 = .ok (.iload_n 3, 1) := by decide +kernel
theorem d_L_goAlong_74 : decode b_L_goAlong 74 = .ok (.invokevirtual 152, 3) := by decide +kernel
theorem d_L_goAlong_77 : decode b_L_goAlong 77 = .ok (.ireturn, 1) := by decide +kernel
theorem d_L_goAlong_78 : decode b_L_goAlong 78 = .ok (.aload_n 0, 1) := by decide +kernel
theorem d_L_goAlong_79 : decode b_L_goAlong 79 = .ok (.aload 5, 2) := by decide +kernel
theorem d_L_goAlong_81 : decode b_L_goAlong 81 = .ok (.iload_n 1, 1) := by decide +kernel
theorem d_L_goAlong_82 : decode b_L_goAlong 82 = .ok (.iload 4, 2) := by decide +kernel
theorem d_L_goAlong_84 : decode b_L_goAlong 84 = .ok (.iconst 1, 1) := by decide +kernel
theorem d_L_goAlong_85 : decode b_L_goAlong 85 = .ok (.iadd, 1) := by decide +kernel
theorem d_L_goAlong_86 : decode b_L_goAlong 86 = .ok (.iload_n 3, 1) := by decide +kernel
theorem d_L_goAlong_87 : decode b_L_goAlong 87 = .ok (.invokevirtual 167, 3) := by decide +kernel
theorem d_L_goAlong_90 : decode b_L_goAlong 90 = .ok (.ireturn, 1) := by decide +kernel
theorem d_L_workOn_0 : decode b_L_workOn 0 = .ok (.aload_n 0, 1) := by decide +kernel
theorem d_L_workOn_1 : decode b_L_workOn 1 = .ok (.getfield 29, 3) := by decide +kernel
theorem d_L_workOn_4 : decode b_L_workOn 4 = .ok (.iload_n 1, 1) := by decide +kernel
theorem d_L_workOn_5 : decode b_L_workOn 5 = .ok (.iaload, 1) := by decide +kernel
theorem d_L_workOn_6 : decode b_L_workOn 6 = .ok (.istore_n 3, 1) := by decide +kernel
theorem d_L_workOn_7 : decode b_L_workOn 7 = .ok (.aload_n 0, 1) := by decide +kernel
theorem d_L_workOn_8 : decode b_L_workOn 8 = .ok (.aload_n 0, 1) := by decide +kernel
theorem d_L_workOn_9 : decode b_L_workOn 9 = .ok (.getfield 33, 3) := by decide +kernel
theorem d_L_workOn_12 : decode b_L_workOn 12 = .ok (.iload_n 1, 1) := by decide +kernel
theorem d_L_workOn_13 : decode b_L_workOn 13 = .ok (.iaload, 1) := by decide +kernel
theorem d_L_workOn_14 : decode b_L_workOn 14 = .ok (.iload_n 3, 1) := by decide +kernel
theorem d_L_workOn_15 : decode b_L_workOn 15 = .ok (.invokevirtual 97, 3) := by decide +kernel
theorem d_L_workOn_18 : decode b_L_workOn 18 = .ok (.astore 4, 2) := by decide +kernel
theorem d_L_workOn_20 : decode b_L_workOn 20 = .ok (.aload_n 0, 1) := by decide +kernel
theorem d_L_workOn_21 : decode b_L_workOn 21 = .ok (.getfield 25, 3) := by decide +kernel
theorem d_L_workOn_24 : decode b_L_workOn 24 = .ok (.bipush 100, 2) := by decide +kernel
theorem d_L_workOn_26 : decode b_L_workOn 26 = .ok (.iload_n 3, 1) := by decide +kernel
theorem d_L_workOn_27 : decode b_L_workOn 27 = .ok (.iadd, 1) := by decide +kernel
theorem d_L_workOn_28 : decode b_L_workOn 28 = .ok (.iload_n 2, 1) := by decide +kernel
theorem d_L_workOn_29 : decode b_L_workOn 29 = .ok (.invokevirtual 171, 3) := by decide +kernel
theorem d_L_workOn_32 : decode b_L_workOn 32 = .ok (.ifCond .ne 8, 3) := by decide +kernel
theorem d_L_workOn_35 : decode b_L_workOn 35 = .ok (.aload_n 0, 1) := by decide +kernel
theorem d_L_workOn_36 : decode b_L_workOn 36 = .ok (.invokevirtual 175, 3) := by decide +kernel
theorem d_L_workOn_39 : decode b_L_workOn 39 = .ok (.ireturn, 1) := by decide +kernel
theorem d_L_workOn_40 : decode b_L_workOn 40 = .ok (.aload 4, 2) := by decide +kernel
theorem d_L_workOn_42 : decode b_L_workOn 42 = .ok (.iload_n 2, 1) := by decide +kernel
theorem d_L_workOn_43 : decode b_L_workOn 43 = .ok (.invokevirtual 178, 3) := by decide +kernel
theorem d_L_workOn_46 : decode b_L_workOn 46 = .ok (.ifCond .eq 13, 3) := by decide +kernel
theorem d_L_workOn_49 : decode b_L_workOn 49 = .ok (.aload_n 0, 1) := by decide +kernel
theorem d_L_workOn_50 : decode b_L_workOn 50 = .ok (.aload 4, 2) := by decide +kernel
theorem d_L_workOn_52 : decode b_L_workOn 52 = .ok (.getfield 113, 3) := by decide +kernel
theorem d_L_workOn_55 : decode b_L_workOn 55 = .ok (.invokevirtual 145, 3) := by decide +kernel
theorem d_L_workOn_58 : decode b_L_workOn 58 = .ok (.ireturn, 1) := by decide +kernel
theorem d_L_workOn_59 : decode b_L_workOn 59 = .ok (.aload 4, 2) := by decide +kernel
theorem d_L_workOn_61 : decode b_L_workOn 61 = .ok (.getfield 116, 3) := by decide +kernel
theorem d_L_workOn_64 : decode b_L_workOn 64 = .ok (.iconst (-1), 1) := by decide +kernel
theorem d_L_workOn_65 : decode b_L_workOn 65 = .ok (.if_icmp .eq 7, 3) := by decide +kernel
theorem d_L_workOn_68 : decode b_L_workOn 68 = .ok (.iload_n 2, 1) := by decide +kernel
theorem d_L_workOn_69 : decode b_L_workOn 69 = .ok (.ifCond .gt 14, 3) := by decide +kernel
theorem d_L_workOn_72 : decode b_L_workOn 72 = .ok (.aload_n 0, 1) := by decide +kernel
theorem d_L_workOn_73 : decode b_L_workOn 73 = .ok (.aload 4, 2) := by decide +kernel
theorem d_L_workOn_75 : decode b_L_workOn 75 = .ok (.iload_n 2, 1) := by decide +kernel
theorem d_L_workOn_76 : decode b_L_workOn 76 = .ok (.invokevirtual 181, 3) := by decide +kernel
theorem d_L_workOn_79 : decode b_L_workOn 79 = .ok (.invokevirtual 184, 3) := by decide +kernel
theorem d_L_workOn_82 : decode b_L_workOn 82 = .ok (.ireturn, 1) := by decide +kernel
theorem d_L_workOn_83 : decode b_L_workOn 83 = .ok (.aload_n 0, 1) := by decide +kernel
theorem d_L_workOn_84 : decode b_L_workOn 84 = .ok (.aload 4, 2) := by decide +kernel
theorem d_L_workOn_86 : decode b_L_workOn 86 = .ok (.getfield 116, 3) := by decide +kernel
theorem d_L_workOn_89 : decode b_L_workOn 89 = .ok (.iload_n 2, 1) := by decide +kernel
theorem d_L_workOn_90 : decode b_L_workOn 90 = .ok (.iconst 1, 1) := by decide +kernel
theorem d_L_workOn_91 : decode b_L_workOn 91 = .ok (.isub, 1) := by decide +kernel
theorem d_L_workOn_92 : decode b_L_workOn 92 = .ok (.iload_n 1, 1) := by decide +kernel
theorem d_L_workOn_93 : decode b_L_workOn 93 = .ok (.iconst 1, 1) := by decide +kernel
theorem d_L_workOn_94 : decode b_L_workOn 94 = .ok (.iadd, 1) := by decide +kernel
theorem d_L_workOn_95 : decode b_L_workOn 95 = .ok (.invokevirtual 122, 3) := by decide +kernel
theorem d_L_workOn_98 : decode b_L_workOn 98 = .ok (.istore 5, 2) := by decide +kernel
theorem d_L_workOn_100 : decode b_L_workOn 100 = .ok (.iload 5, 2) := by decide +kernel
theorem d_L_workOn_102 : decode b_L_workOn 102 = .ok (.ifCond .ne 19, 3) := by decide +kernel
theorem d_L_workOn_105 : decode b_L_workOn 105 = .ok (.aload_n 0, 1) := by decide +kernel
theorem d_L_workOn_106 : decode b_L_workOn 106 = .ok (.aload 4, 2) := by decide +kernel
theorem d_L_workOn_108 : decode b_L_workOn 108 = .ok (.aload_n 0, 1) := by decide +kernel
theorem d_L_workOn_109 : decode b_L_workOn 109 = .ok (.getfield 53, 3) := by decide +kernel
theorem d_L_workOn_112 : decode b_L_workOn 112 = .ok (.invokevirtual 181, 3) := by decide +kernel
theorem d_L_workOn_115 : decode b_L_workOn 115 = .ok (.invokevirtual 184, 3) := by decide +kernel
theorem d_L_workOn_118 : decode b_L_workOn 118 = .ok (.goto 5, 3) := by decide +kernel
theorem d_L_workOn_121 : decode b_L_workOn 121 = .ok (.iload 5, 2) := by decide +kernel
theorem d_L_workOn_123 : decode b_L_workOn 123 = .ok (.ireturn, 1) := by decide +kernel
theorem d_L_act_0 : decode b_L_act 0 = .ok (.aload_n 1, 1) := by decide +kernel
theorem d_L_act_1 : decode b_L_act 1 = .ok (.getfield 187, 3) := by decide +kernel
theorem d_L_act_4 : decode b_L_act 4 = .ok (.tableswitch 114 0 6 #[44, 54, 64, 74, 84, 94, 104], 44) := by decide +kernel
theorem d_L_act_48 : decode b_L_act 48 = .ok (.aload_n 0, 1) := by decide +kernel
theorem d_L_act_49 : decode b_L_act 49 = .ok (.aload_n 1, 1) := by decide +kernel
theorem d_L_act_50 : decode b_L_act 50 = .ok (.iload_n 2, 1) := by decide +kernel
theorem d_L_act_51 : decode b_L_act 51 = .ok (.iload_n 3, 1) := by decide +kernel
theorem d_L_act_52 : decode b_L_act 52 = .ok (.iload 4, 2) := by decide +kernel
theorem d_L_act_54 : decode b_L_act 54 = .ok (.invokevirtual 190, 3) := by decide +kernel
theorem d_L_act_57 : decode b_L_act 57 = .ok (.ireturn, 1) := by decide +kernel
theorem d_L_act_58 : decode b_L_act 58 = .ok (.aload_n 0, 1) := by decide +kernel
theorem d_L_act_59 : decode b_L_act 59 = .ok (.aload_n 1, 1) := by decide +kernel
theorem d_L_act_60 : decode b_L_act 60 = .ok (.iload_n 2, 1) := by decide +kernel
theorem d_L_act_61 : decode b_L_act 61 = .ok (.iload_n 3, 1) := by decide +kernel
theorem d_L_act_62 : decode b_L_act 62 = .ok (.iload 4, 2) := by decide +kernel
theorem d_L_act_64 : decode b_L_act 64 = .ok (.invokevirtual 193, 3) := by decide +kernel
theorem d_L_act_67 : decode b_L_act 67 = .ok (.ireturn, 1) := by decide +kernel
theorem d_L_act_68 : decode b_L_act 68 = .ok (.aload_n 0, 1) := by decide +kernel
theorem d_L_act_69 : decode b_L_act 69 = .ok (.aload_n 1, 1) := by decide +kernel
theorem d_L_act_70 : decode b_L_act 70 = .ok (.iload_n 2, 1) := by decide +kernel
theorem d_L_act_71 : decode b_L_act 71 = .ok (.iload_n 3, 1) := by decide +kernel
theorem d_L_act_72 : decode b_L_act 72 = .ok (.iload 4, 2) := by decide +kernel
theorem d_L_act_74 : decode b_L_act 74 = .ok (.invokevirtual 196, 3) := by decide +kernel
theorem d_L_act_77 : decode b_L_act 77 = .ok (.ireturn, 1) := by decide +kernel
theorem d_L_act_78 : decode b_L_act 78 = .ok (.aload_n 0, 1) := by decide +kernel
theorem d_L_act_79 : decode b_L_act 79 = .ok (.aload_n 1, 1) := by decide +kernel
theorem d_L_act_80 : decode b_L_act 80 = .ok (.iload_n 2, 1) := by decide +kernel
theorem d_L_act_81 : decode b_L_act 81 = .ok (.iload_n 3, 1) := by decide +kernel
theorem d_L_act_82 : decode b_L_act 82 = .ok (.iload 4, 2) := by decide +kernel
theorem d_L_act_84 : decode b_L_act 84 = .ok (.invokevirtual 199, 3) := by decide +kernel
theorem d_L_act_87 : decode b_L_act 87 = .ok (.ireturn, 1) := by decide +kernel
theorem d_L_act_88 : decode b_L_act 88 = .ok (.aload_n 0, 1) := by decide +kernel
theorem d_L_act_89 : decode b_L_act 89 = .ok (.aload_n 1, 1) := by decide +kernel
theorem d_L_act_90 : decode b_L_act 90 = .ok (.iload_n 2, 1) := by decide +kernel
theorem d_L_act_91 : decode b_L_act 91 = .ok (.iload_n 3, 1) := by decide +kernel
theorem d_L_act_92 : decode b_L_act 92 = .ok (.iload 4, 2) := by decide +kernel
theorem d_L_act_94 : decode b_L_act 94 = .ok (.invokevirtual 202, 3) := by decide +kernel
theorem d_L_act_97 : decode b_L_act 97 = .ok (.ireturn, 1) := by decide +kernel
theorem d_L_act_98 : decode b_L_act 98 = .ok (.aload_n 0, 1) := by decide +kernel
theorem d_L_act_99 : decode b_L_act 99 = .ok (.aload_n 1, 1) := by decide +kernel
theorem d_L_act_100 : decode b_L_act 100 = .ok (.iload_n 2, 1) := by decide +kernel
theorem d_L_act_101 : decode b_L_act 101 = .ok (.iload_n 3, 1) := by decide +kernel
theorem d_L_act_102 : decode b_L_act 102 = .ok (.iload 4, 2) := by decide +kernel
theorem d_L_act_104 : decode b_L_act 104 = .ok (.invokevirtual 205, 3) := by decide +kernel
theorem d_L_act_107 : decode b_L_act 107 = .ok (.ireturn, 1) := by decide +kernel
theorem d_L_act_108 : decode b_L_act 108 = .ok (.aload_n 0, 1) := by decide +kernel
theorem d_L_act_109 : decode b_L_act 109 = .ok (.aload_n 1, 1) := by decide +kernel
theorem d_L_act_110 : decode b_L_act 110 = .ok (.iload_n 2, 1) := by decide +kernel
theorem d_L_act_111 : decode b_L_act 111 = .ok (.iload_n 3, 1) := by decide +kernel
theorem d_L_act_112 : decode b_L_act 112 = .ok (.iload 4, 2) := by decide +kernel
theorem d_L_act_114 : decode b_L_act 114 = .ok (.invokevirtual 208, 3) := by decide +kernel
theorem d_L_act_117 : decode b_L_act 117 = .ok (.ireturn, 1) := by decide +kernel
theorem d_L_act_118 : decode b_L_act 118 = .ok (.aload_n 0, 1) := by decide +kernel
theorem d_L_act_119 : decode b_L_act 119 = .ok (.aload_n 1, 1) := by decide +kernel
theorem d_L_act_120 : decode b_L_act 120 = .ok (.iload_n 2, 1) := by decide +kernel
theorem d_L_act_121 : decode b_L_act 121 = .ok (.iload_n 3, 1) := by decide +kernel
theorem d_L_act_122 : decode b_L_act 122 = .ok (.iload 4, 2) := by decide +kernel
theorem d_L_act_124 : decode b_L_act 124 = .ok (.invokevirtual 211, 3) := by decide +kernel
theorem d_L_act_127 : decode b_L_act 127 = .ok (.ireturn, 1) := by decide +kernel
theorem d_L_actBefore_0 : decode b_L_actBefore 0 = .ok (.aload_n 0, 1) := by decide +kernel
theorem d_L_actBefore_1 : decode b_L_actBefore 1 = .ok (.getfield 25, 3) := by decide +kernel
theorem d_L_actBefore_4 : decode b_L_actBefore 4 = .ok (.aload_n 1, 1) := by decide +kernel
theorem d_L_actBefore_5 : decode b_L_actBefore 5 = .ok (.getfield 214, 3) := by decide +kernel
theorem d_L_actBefore_8 : decode b_L_actBefore 8 = .ok (.iload 4, 2) := by decide +kernel
theorem d_L_actBefore_10 : decode b_L_actBefore 10 = .ok (.invokevirtual 171, 3) := by decide +kernel
theorem d_L_actBefore_13 : decode b_L_actBefore 13 = .ok (.ifCond .ne 8, 3) := by decide +kernel
theorem d_L_actBefore_16 : decode b_L_actBefore 16 = .ok (.aload_n 0, 1) := by decide +kernel
theorem d_L_actBefore_17 : decode b_L_actBefore 17 = .ok (.invokevirtual 175, 3) := by decide +kernel
theorem d_L_actBefore_20 : decode b_L_actBefore 20 = .ok (.ireturn, 1) := by decide +kernel
theorem d_L_actBefore_21 : decode b_L_actBefore 21 = .ok (.iload 4, 2) := by decide +kernel
theorem d_L_actBefore_23 : decode b_L_actBefore 23 = .ok (.aload_n 1, 1) := by decide +kernel
theorem d_L_actBefore_24 : decode b_L_actBefore 24 = .ok (.getfield 217, 3) := by decide +kernel
theorem d_L_actBefore_27 : decode b_L_actBefore 27 = .ok (.if_icmp .ne 14, 3) := by decide +kernel
theorem d_L_actBefore_30 : decode b_L_actBefore 30 = .ok (.aload_n 0, 1) := by decide +kernel
theorem d_L_actBefore_31 : decode b_L_actBefore 31 = .ok (.aload_n 1, 1) := by decide +kernel
theorem d_L_actBefore_32 : decode b_L_actBefore 32 = .ok (.getfield 220, 3) := by decide +kernel
theorem d_L_actBefore_35 : decode b_L_actBefore 35 = .ok (.invokevirtual 145, 3) := by decide +kernel
theorem d_L_actBefore_38 : decode b_L_actBefore 38 = .ok (.goto 11, 3) := by decide +kernel
theorem d_L_actBefore_41 : decode b_L_actBefore 41 = .ok (.aload_n 0, 1) := by decide +kernel
theorem d_L_actBefore_42 : decode b_L_actBefore 42 = .ok (.iload_n 2, 1) := by decide +kernel
theorem d_L_actBefore_43 : decode b_L_actBefore 43 = .ok (.iload_n 3, 1) := by decide +kernel
theorem d_L_actBefore_44 : decode b_L_actBefore 44 = .ok (.iload 4, 2) := by decide +kernel
theorem d_L_actBefore_46 : decode b_L_actBefore 46 = .ok (.invokevirtual 152, 3) := by decide +kernel
theorem d_L_actBefore_49 : decode b_L_actBefore 49 = .ok (.ireturn, 1) := by decide +kernel
theorem d_L_actChange_0 : decode b_L_actChange 0 = .ok (.aload_n 0, 1) := by decide +kernel
theorem d_L_actChange_1 : decode b_L_actChange 1 = .ok (.getfield 25, 3) := by decide +kernel
theorem d_L_actChange_4 : decode b_L_actChange 4 = .ok (.aload_n 1, 1) := by decide +kernel
theorem d_L_actChange_5 : decode b_L_actChange 5 = .ok (.getfield 214, 3) := by decide +kernel
theorem d_L_actChange_8 : decode b_L_actChange 8 = .ok (.iload 4, 2) := by decide +kernel
theorem d_L_actChange_10 : decode b_L_actChange 10 = .ok (.invokevirtual 171, 3) := by decide +kernel
theorem d_L_actChange_13 : decode b_L_actChange 13 = .ok (.ifCond .ne 8, 3) := by decide +kernel
theorem d_L_actChange_16 : decode b_L_actChange 16 = .ok (.aload_n 0, 1) := by decide +kernel
theorem d_L_actChange_17 : decode b_L_actChange 17 = .ok (.invokevirtual 175, 3) := by decide +kernel
theorem d_L_actChange_20 : decode b_L_actChange 20 = .ok (.ireturn, 1) := by decide +kernel
theorem d_L_actChange_21 : decode b_L_actChange 21 = .ok (.aload_n 0, 1) := by decide +kernel
theorem d_L_actChange_22 : decode b_L_actChange 22 = .ok (.iload_n 2, 1) := by decide +kernel
theorem d_L_actChange_23 : decode b_L_actChange 23 = .ok (.iload_n 3, 1) := by decide +kernel
theorem d_L_actChange_24 : decode b_L_actChange 24 = .ok (.iload 4, 2) := by decide +kernel
theorem d_L_actChange_26 : decode b_L_actChange 26 = .ok (.aload_n 1, 1) := by decide +kernel
theorem d_L_actChange_27 : decode b_L_actChange 27 = .ok (.getfield 217, 3) := by decide +kernel
theorem d_L_actChange_30 : decode b_L_actChange 30 = .ok (.iadd, 1) := by decide +kernel
theorem d_L_actChange_31 : decode b_L_actChange 31 = .ok (.invokevirtual 152, 3) := by decide +kernel
theorem d_L_actChange_34 : decode b_L_actChange 34 = .ok (.istore 5, 2) := by decide +kernel
theorem d_L_actChange_36 : decode b_L_actChange 36 = .ok (.iload 5, 2) := by decide +kernel
theorem d_L_actChange_38 : decode b_L_actChange 38 = .ok (.ifCond .ne 19, 3) := by decide +kernel
theorem d_L_actChange_41 : decode b_L_actChange 41 = .ok (.aload_n 0, 1) := by decide +kernel
theorem d_L_actChange_42 : decode b_L_actChange 42 = .ok (.aload_n 0, 1) := by decide +kernel
theorem d_L_actChange_43 : decode b_L_actChange 43 = .ok (.getfield 53, 3) := by decide +kernel
theorem d_L_actChange_46 : decode b_L_actChange 46 = .ok (.aload_n 1, 1) := by decide +kernel
theorem d_L_actChange_47 : decode b_L_actChange 47 = .ok (.getfield 220, 3) := by decide +kernel
theorem d_L_actChange_50 : decode b_L_actChange 50 = .ok (.iadd, 1) := by decide +kernel
theorem d_L_actChange_51 : decode b_L_actChange 51 = .ok (.invokevirtual 184, 3) := by decide +kernel
theorem d_L_actChange_54 : decode b_L_actChange 54 = .ok (.goto 5, 3) := by decide +kernel
theorem d_L_actChange_57 : decode b_L_actChange 57 = .ok (.iload 5, 2) := by decide +kernel
theorem d_L_actChange_59 : decode b_L_actChange 59 = .ok (.ireturn, 1) := by decide +kernel
theorem d_L_actSkip_0 : decode b_L_actSkip 0 = .ok (.aload_n 0, 1) := by decide +kernel
theorem d_L_actSkip_1 : decode b_L_actSkip 1 = .ok (.getfield 25, 3) := by decide +kernel
theorem d_L_actSkip_4 : decode b_L_actSkip 4 = .ok (.aload_n 1, 1) := by decide +kernel
theorem d_L_actSkip_5 : decode b_L_actSkip 5 = .ok (.getfield 214, 3) := by decide +kernel
theorem d_L_actSkip_8 : decode b_L_actSkip 8 = .ok (.iload 4, 2) := by decide +kernel
theorem d_L_actSkip_10 : decode b_L_actSkip 10 = .ok (.invokevirtual 171, 3) := by decide +kernel
theorem d_L_actSkip_13 : decode b_L_actSkip 13 = .ok (.ifCond .ne 8, 3) := by decide +kernel
theorem d_L_actSkip_16 : decode b_L_actSkip 16 = .ok (.aload_n 0, 1) := by decide +kernel
theorem d_L_actSkip_17 : decode b_L_actSkip 17 = .ok (.invokevirtual 175, 3) := by decide +kernel
theorem d_L_actSkip_20 : decode b_L_actSkip 20 = .ok (.ireturn, 1) := by decide +kernel
theorem d_L_actSkip_21 : decode b_L_actSkip 21 = .ok (.iload 4, 2) := by decide +kernel
theorem d_L_actSkip_23 : decode b_L_actSkip 23 = .ok (.aload_n 1, 1) := by decide +kernel
theorem d_L_actSkip_24 : decode b_L_actSkip 24 = .ok (.getfield 217, 3) := by decide +kernel
theorem d_L_actSkip_27 : decode b_L_actSkip 27 = .ok (.if_icmp .ge 14, 3) := by decide +kernel
theorem d_L_actSkip_30 : decode b_L_actSkip 30 = .ok (.aload_n 0, 1) := by decide +kernel
theorem d_L_actSkip_31 : decode b_L_actSkip 31 = .ok (.aload_n 1, 1) := by decide +kernel
theorem d_L_actSkip_32 : decode b_L_actSkip 32 = .ok (.getfield 220, 3) := by decide +kernel
theorem d_L_actSkip_35 : decode b_L_actSkip 35 = .ok (.invokevirtual 184, 3) := by decide +kernel
theorem d_L_actSkip_38 : decode b_L_actSkip 38 = .ok (.goto 11, 3) := by decide +kernel
theorem d_L_actSkip_41 : decode b_L_actSkip 41 = .ok (.aload_n 0, 1) := by decide +kernel
theorem d_L_actSkip_42 : decode b_L_actSkip 42 = .ok (.iload_n 2, 1) := by decide +kernel
theorem d_L_actSkip_43 : decode b_L_actSkip 43 = .ok (.iload_n 3, 1) := by decide +kernel
theorem d_L_actSkip_44 : decode b_L_actSkip 44 = .ok (.iload 4, 2) := by decide +kernel
theorem d_L_actSkip_46 : decode b_L_actSkip 46 = .ok (.invokevirtual 152, 3) := by decide +kernel
theorem d_L_actSkip_49 : decode b_L_actSkip 49 = .ok (.ireturn, 1) := by decide +kernel
theorem d_L_actTwice_0 : decode b_L_actTwice 0 = .ok (.aload_n 0, 1) := by decide +kernel
theorem d_L_actTwice_1 : decode b_L_actTwice 1 = .ok (.getfield 25, 3) := by decide +kernel
theorem d_L_actTwice_4 : decode b_L_actTwice 4 = .ok (.aload_n 1, 1) := by decide +kernel
theorem d_L_actTwice_5 : decode b_L_actTwice 5 = .ok (.getfield 214, 3) := by decide +kernel
theorem d_L_actTwice_8 : decode b_L_actTwice 8 = .ok (.iload 4, 2) := by decide +kernel
theorem d_L_actTwice_10 : decode b_L_actTwice 10 = .ok (.invokevirtual 171, 3) := by decide +kernel
theorem d_L_actTwice_13 : decode b_L_actTwice 13 = .ok (.ifCond .ne 8, 3) := by decide +kernel
theorem d_L_actTwice_16 : decode b_L_actTwice 16 = .ok (.aload_n 0, 1) := by decide +kernel
theorem d_L_actTwice_17 : decode b_L_actTwice 17 = .ok (.invokevirtual 175, 3) := by decide +kernel
theorem d_L_actTwice_20 : decode b_L_actTwice 20 = .ok (.ireturn, 1) := by decide +kernel
theorem d_L_actTwice_21 : decode b_L_actTwice 21 = .ok (.aload_n 0, 1) := by decide +kernel
theorem d_L_actTwice_22 : decode b_L_actTwice 22 = .ok (.iload_n 2, 1) := by decide +kernel
theorem d_L_actTwice_23 : decode b_L_actTwice 23 = .ok (.iload_n 3, 1) := by decide +kernel
theorem d_L_actTwice_24 : decode b_L_actTwice 24 = .ok (.iload 4, 2) := by decide +kernel
theorem d_L_actTwice_26 : decode b_L_actTwice 26 = .ok (.invokevirtual 152, 3) := by decide +kernel
theorem d_L_actTwice_29 : decode b_L_actTwice 29 = .ok (.istore 5, 2) := by decide +kernel
theorem d_L_actTwice_31 : decode b_L_actTwice 31 = .ok (.iload 5, 2) := by decide +kernel
theorem d_L_actTwice_33 : decode b_L_actTwice 33 = .ok (.ifCond .eq 6, 3) := by decide +kernel
theorem d_L_actTwice_36 : decode b_L_actTwice 36 = .ok (.iload 5, 2) := by decide +kernel
theorem d_L_actTwice_38 : decode b_L_actTwice 38 = .ok (.ireturn, 1) := by decide +kernel
theorem d_L_actTwice_39 : decode b_L_actTwice 39 = .ok (.aload_n 0, 1) := by decide +kernel
theorem d_L_actTwice_40 : decode b_L_actTwice 40 = .ok (.getfield 53, 3) := by decide +kernel
theorem d_L_actTwice_43 : decode b_L_actTwice 43 = .ok (.istore 6, 2) := by decide +kernel
theorem d_L_actTwice_45 : decode b_L_actTwice 45 = .ok (.aload_n 0, 1) := by decide +kernel
theorem d_L_actTwice_46 : decode b_L_actTwice 46 = .ok (.iload_n 2, 1) := by decide +kernel
theorem d_L_actTwice_47 : decode b_L_actTwice 47 = .ok (.iload_n 3, 1) := by decide +kernel
theorem d_L_actTwice_48 : decode b_L_actTwice 48 = .ok (.iload 4, 2) := by decide +kernel
theorem d_L_actTwice_50 : decode b_L_actTwice 50 = .ok (.aload_n 1, 1) := by decide +kernel
theorem d_L_actTwice_51 : decode b_L_actTwice 51 = .ok (.getfield 217, 3) := by decide +kernel
theorem d_L_actTwice_54 : decode b_L_actTwice 54 = .ok (.iadd, 1) := by decide +kernel
theorem d_L_actTwice_55 : decode b_L_actTwice 55 = .ok (.invokevirtual 152, 3) := by decide +kernel
theorem d_L_actTwice_58 : decode b_L_actTwice 58 = .ok (.istore 7, 2) := by decide +kernel
theorem d_L_actTwice_60 : decode b_L_actTwice 60 = .ok (.iload 7, 2) := by decide +kernel
theorem d_L_actTwice_62 : decode b_L_actTwice 62 = .ok (.ifCond .ne 22, 3) := by decide +kernel
theorem d_L_actTwice_65 : decode b_L_actTwice 65 = .ok (.aload_n 0, 1) := by decide +kernel
theorem d_L_actTwice_66 : decode b_L_actTwice 66 = .ok (.iload 6, 2) := by decide +kernel
theorem d_L_actTwice_68 : decode b_L_actTwice 68 = .ok (.aload_n 0, 1) := by decide +kernel
theorem d_L_actTwice_69 : decode b_L_actTwice 69 = .ok (.getfield 53, 3) := by decide +kernel
theorem d_L_actTwice_72 : decode b_L_actTwice 72 = .ok (.iadd, 1) := by decide +kernel
theorem d_L_actTwice_73 : decode b_L_actTwice 73 = .ok (.aload_n 1, 1) := by decide +kernel
theorem d_L_actTwice_74 : decode b_L_actTwice 74 = .ok (.getfield 220, 3) := by decide +kernel
theorem d_L_actTwice_77 : decode b_L_actTwice 77 = .ok (.iadd, 1) := by decide +kernel
theorem d_L_actTwice_78 : decode b_L_actTwice 78 = .ok (.invokevirtual 184, 3) := by decide +kernel
theorem d_L_actTwice_81 : decode b_L_actTwice 81 = .ok (.goto 5, 3) := by decide +kernel
theorem d_L_actTwice_84 : decode b_L_actTwice 84 = .ok (.iload 7, 2) := by decide +kernel
theorem d_L_actTwice_86 : decode b_L_actTwice 86 = .ok (.ireturn, 1) := by decide +kernel
theorem d_L_actReturning_0 : decode b_L_actReturning 0 = .ok (.aload_n 0, 1) := by decide +kernel
theorem d_L_actReturning_1 : decode b_L_actReturning 1 = .ok (.iload_n 2, 1) := by decide +kernel
theorem d_L_actReturning_2 : decode b_L_actReturning 2 = .ok (.iload_n 3, 1) := by decide +kernel
theorem d_L_actReturning_3 : decode b_L_actReturning 3 = .ok (.iload 4, 2) := by decide +kernel
theorem d_L_actReturning_5 : decode b_L_actReturning 5 = .ok (.invokevirtual 152, 3) := by decide +kernel
theorem d_L_actReturning_8 : decode b_L_actReturning 8 = .ok (.istore 5, 2) := by decide +kernel
theorem d_L_actReturning_10 : decode b_L_actReturning 10 = .ok (.iload 5, 2) := by decide +kernel
theorem d_L_actReturning_12 : decode b_L_actReturning 12 = .ok (.ifCond .eq 6, 3) := by decide +kernel
theorem d_L_actReturning_15 : decode b_L_actReturning 15 = .ok (.iload 5, 2) := by decide +kernel
theorem d_L_actReturning_17 : decode b_L_actReturning 17 = .ok (.ireturn, 1) := by decide +kernel
theorem d_L_actReturning_18 : decode b_L_actReturning 18 = .ok (.aload_n 0, 1) := by decide +kernel
theorem d_L_actReturning_19 : decode b_L_actReturning 19 = .ok (.getfield 25, 3) := by decide +kernel
theorem d_L_actReturning_22 : decode b_L_actReturning 22 = .ok (.aload_n 1, 1) := by decide +kernel
theorem d_L_actReturning_23 : decode b_L_actReturning 23 = .ok (.getfield 214, 3) := by decide +kernel
theorem d_L_actReturning_26 : decode b_L_actReturning 26 = .ok (.aload_n 0, 1) := by decide +kernel
theorem d_L_actReturning_27 : decode b_L_actReturning 27 = .ok (.getfield 53, 3) := by decide +kernel
theorem d_L_actReturning_30 : decode b_L_actReturning 30 = .ok (.invokevirtual 171, 3) := by decide +kernel
theorem d_L_actReturning_33 : decode b_L_actReturning 33 = .ok (.ifCond .ne 8, 3) := by decide +kernel
theorem d_L_actReturning_36 : decode b_L_actReturning 36 = .ok (.aload_n 0, 1) := by decide +kernel
theorem d_L_actReturning_37 : decode b_L_actReturning 37 = .ok (.invokevirtual 175, 3) := by decide +kernel
theorem d_L_actReturning_40 : decode b_L_actReturning 40 = .ok (.ireturn, 1) := by decide +kernel
theorem d_L_actReturning_41 : decode b_L_actReturning 41 = .ok (.aload_n 0, 1) := by decide +kernel
theorem d_L_actReturning_42 : decode b_L_actReturning 42 = .ok (.getfield 53, 3) := by decide +kernel
theorem d_L_actReturning_45 : decode b_L_actReturning 45 = .ok (.aload_n 1, 1) := by decide +kernel
theorem d_L_actReturning_46 : decode b_L_actReturning 46 = .ok (.getfield 217, 3) := by decide +kernel
theorem d_L_actReturning_49 : decode b_L_actReturning 49 = .ok (.if_icmp .ne 14, 3) := by decide +kernel
theorem d_L_actReturning_52 : decode b_L_actReturning 52 = .ok (.aload_n 0, 1) := by decide +kernel
theorem d_L_actReturning_53 : decode b_L_actReturning 53 = .ok (.aload_n 1, 1) := by decide +kernel
theorem d_L_actReturning_54 : decode b_L_actReturning 54 = .ok (.getfield 220, 3) := by decide +kernel
theorem d_L_actReturning_57 : decode b_L_actReturning 57 = .ok (.invokevirtual 145, 3) := by decide +kernel
theorem d_L_actReturning_60 : decode b_L_actReturning 60 = .ok (.goto 4, 3) := by decide +kernel
theorem d_L_actReturning_63 : decode b_L_actReturning 63 = .ok (.iconst 0, 1) := by decide +kernel
theorem d_L_actReturning_64 : decode b_L_actReturning 64 = .ok (.ireturn, 1) := by decide +kernel
theorem d_L_actThrowing_0 : decode b_L_actThrowing 0 = .ok (.aload_n 0, 1) := by decide +kernel
theorem d_L_actThrowing_1 : decode b_L_actThrowing 1 = .ok (.iload_n 2, 1) := by decide +kernel
theorem d_L_actThrowing_2 : decode b_L_actThrowing 2 = .ok (.iload_n 3, 1) := by decide +kernel
theorem d_L_actThrowing_3 : decode b_L_actThrowing 3 = .ok (.iload 4, 2) := by decide +kernel
theorem d_L_actThrowing_5 : decode b_L_actThrowing 5 = .ok (.invokevirtual 152, 3) := by decide +kernel
theorem d_L_actThrowing_8 : decode b_L_actThrowing 8 = .ok (.istore 5, 2) := by decide +kernel
theorem d_L_actThrowing_10 : decode b_L_actThrowing 10 = .ok (.iload 5, 2) := by decide +kernel
theorem d_L_actThrowing_12 : decode b_L_actThrowing 12 = .ok (.iconst 1, 1) := by decide +kernel
theorem d_L_actThrowing_13 : decode b_L_actThrowing 13 = .ok (.if_icmp .ne 17, 3) := by decide +kernel
theorem d_L_actThrowing_16 : decode b_L_actThrowing 16 = .ok (.aload_n 0, 1) := by decide +kernel
theorem d_L_actThrowing_17 : decode b_L_actThrowing 17 = .ok (.getfield 53, 3) := by decide +kernel
theorem d_L_actThrowing_20 : decode b_L_actThrowing 20 = .ok (.aload_n 1, 1) := by decide +kernel
theorem d_L_actThrowing_21 : decode b_L_actThrowing 21 = .ok (.getfield 217, 3) := by decide +kernel
theorem d_L_actThrowing_24 : decode b_L_actThrowing 24 = .ok (.invokestatic 223, 3) := by decide +kernel
theorem d_L_actThrowing_27 : decode b_L_actThrowing 27 = .ok (.ifCond .ne 6, 3) := by decide +kernel
theorem d_L_actThrowing_30 : decode b_L_actThrowing 30 = .ok (.iload 5, 2) := by decide +kernel
theorem d_L_actThrowing_32 : decode b_L_actThrowing 32 = .ok (.ireturn, 1) := by decide +kernel
theorem d_L_actThrowing_33 : decode b_L_actThrowing 33 = .ok (.aload_n 0, 1) := by decide +kernel
theorem d_L_actThrowing_34 : decode b_L_actThrowing 34 = .ok (.getfield 25, 3) := by decide +kernel
theorem d_L_actThrowing_37 : decode b_L_actThrowing 37 = .ok (.aload_n 1, 1) := by decide +kernel
theorem d_L_actThrowing_38 : decode b_L_actThrowing 38 = .ok (.getfield 214, 3) := by decide +kernel
theorem d_L_actThrowing_41 : decode b_L_actThrowing 41 = .ok (.aload_n 0, 1) := by decide +kernel
theorem d_L_actThrowing_42 : decode b_L_actThrowing 42 = .ok (.getfield 53, 3) := by decide +kernel
theorem d_L_actThrowing_45 : decode b_L_actThrowing 45 = .ok (.invokevirtual 171, 3) := by decide +kernel
theorem d_L_actThrowing_48 : decode b_L_actThrowing 48 = .ok (.ifCond .ne 8, 3) := by decide +kernel
theorem d_L_actThrowing_51 : decode b_L_actThrowing 51 = .ok (.aload_n 0, 1) := by decide +kernel
theorem d_L_actThrowing_52 : decode b_L_actThrowing 52 = .ok (.invokevirtual 175, 3) := by decide +kernel
theorem d_L_actThrowing_55 : decode b_L_actThrowing 55 = .ok (.ireturn, 1) := by decide +kernel
theorem d_L_actThrowing_56 : decode b_L_actThrowing 56 = .ok (.aload_n 1, 1) := by decide +kernel
theorem d_L_actThrowing_57 : decode b_L_actThrowing 57 = .ok (.getfield 220, 3) := by decide +kernel
theorem d_L_actThrowing_60 : decode b_L_actThrowing 60 = .ok (.ifCond .ne 7, 3) := by decide +kernel
theorem d_L_actThrowing_63 : decode b_L_actThrowing 63 = .ok (.iconst 1, 1) := by decide +kernel
theorem d_L_actThrowing_64 : decode b_L_actThrowing 64 = .ok (.goto 11, 3) := by decide +kernel
theorem d_L_actThrowing_67 : decode b_L_actThrowing 67 = .ok (.aload_n 0, 1) := by decide +kernel
theorem d_L_actThrowing_68 : decode b_L_actThrowing 68 = .ok (.aload_n 1, 1) := by decide +kernel
theorem d_L_actThrowing_69 : decode b_L_actThrowing 69 = .ok (.getfield 220, 3) := by decide +kernel
theorem d_L_actThrowing_72 : decode b_L_actThrowing 72 = .ok (.invokevirtual 145, 3) := by decide +kernel
theorem d_L_actThrowing_75 : decode b_L_actThrowing 75 = .ok (.ireturn, 1) := by decide +kernel
theorem d_L_actFinally_0 : decode b_L_actFinally 0 = .ok (.aload_n 0, 1) := by decide +kernel
theorem d_L_actFinally_1 : decode b_L_actFinally 1 = .ok (.iload_n 2, 1) := by decide +kernel
theorem d_L_actFinally_2 : decode b_L_actFinally 2 = .ok (.iload_n 3, 1) := by decide +kernel
theorem d_L_actFinally_3 : decode b_L_actFinally 3 = .ok (.iload 4, 2) := by decide +kernel
theorem d_L_actFinally_5 : decode b_L_actFinally 5 = .ok (.invokevirtual 152, 3) := by decide +kernel
theorem d_L_actFinally_8 : decode b_L_actFinally 8 = .ok (.istore 5, 2) := by decide +kernel
theorem d_L_actFinally_10 : decode b_L_actFinally 10 = .ok (.iload 5, 2) := by decide +kernel
theorem d_L_actFinally_12 : decode b_L_actFinally 12 = .ok (.iconst 2, 1) := by decide +kernel
theorem d_L_actFinally_13 : decode b_L_actFinally 13 = .ok (.if_icmp .ne 5, 3) := by decide +kernel
theorem d_L_actFinally_16 : decode b_L_actFinally 16 = .ok (.iconst 2, 1) := by decide +kernel
theorem d_L_actFinally_17 : decode b_L_actFinally 17 = .ok (.ireturn, 1) := by decide +kernel
theorem d_L_actFinally_18 : decode b_L_actFinally 18 = .ok (.aload_n 0, 1) := by decide +kernel
theorem d_L_actFinally_19 : decode b_L_actFinally 19 = .ok (.getfield 25, 3) := by decide +kernel
theorem d_L_actFinally_22 : decode b_L_actFinally 22 = .ok (.aload_n 1, 1) := by decide +kernel
theorem d_L_actFinally_23 : decode b_L_actFinally 23 = .ok (.getfield 214, 3) := by decide +kernel
theorem d_L_actFinally_26 : decode b_L_actFinally 26 = .ok (.iload 4, 2) := by decide +kernel
theorem d_L_actFinally_28 : decode b_L_actFinally 28 = .ok (.invokevirtual 171, 3) := by decide +kernel
theorem d_L_actFinally_31 : decode b_L_actFinally 31 = .ok (.ifCond .ne 8, 3) := by decide +kernel
theorem d_L_actFinally_34 : decode b_L_actFinally 34 = .ok (.aload_n 0, 1) := by decide +kernel
theorem d_L_actFinally_35 : decode b_L_actFinally 35 = .ok (.invokevirtual 175, 3) := by decide +kernel
theorem d_L_actFinally_38 : decode b_L_actFinally 38 = .ok (.ireturn, 1) := by decide +kernel
theorem d_L_actFinally_39 : decode b_L_actFinally 39 = .ok (.iload 4, 2) := by decide +kernel
theorem d_L_actFinally_41 : decode b_L_actFinally 41 = .ok (.aload_n 1, 1) := by decide +kernel
theorem d_L_actFinally_42 : decode b_L_actFinally 42 = .ok (.getfield 217, 3) := by decide +kernel
theorem d_L_actFinally_45 : decode b_L_actFinally 45 = .ok (.if_icmp .ne 14, 3) := by decide +kernel
theorem d_L_actFinally_48 : decode b_L_actFinally 48 = .ok (.aload_n 0, 1) := by decide +kernel
theorem d_L_actFinally_49 : decode b_L_actFinally 49 = .ok (.aload_n 1, 1) := by decide +kernel
theorem d_L_actFinally_50 : decode b_L_actFinally 50 = .ok (.getfield 220, 3) := by decide +kernel
theorem d_L_actFinally_53 : decode b_L_actFinally 53 = .ok (.invokevirtual 145, 3) := by decide +kernel
theorem d_L_actFinally_56 : decode b_L_actFinally 56 = .ok (.goto 5, 3) := by decide +kernel
theorem d_L_actFinally_59 : decode b_L_actFinally 59 = .ok (.iload 5, 2) := by decide +kernel
theorem d_L_actFinally_61 : decode b_L_actFinally 61 = .ok (.ireturn, 1) := by decide +kernel
theorem d_L_actRecover_0 : decode b_L_actRecover 0 = .ok (.aload_n 0, 1) := by decide +kernel
theorem d_L_actRecover_1 : decode b_L_actRecover 1 = .ok (.iload_n 2, 1) := by decide +kernel
theorem d_L_actRecover_2 : decode b_L_actRecover 2 = .ok (.iload_n 3, 1) := by decide +kernel
theorem d_L_actRecover_3 : decode b_L_actRecover 3 = .ok (.iload 4, 2) := by decide +kernel
theorem d_L_actRecover_5 : decode b_L_actRecover 5 = .ok (.invokevirtual 152, 3) := by decide +kernel
theorem d_L_actRecover_8 : decode b_L_actRecover 8 = .ok (.istore 5, 2) := by decide +kernel
theorem d_L_actRecover_10 : decode b_L_actRecover 10 = .ok (.iload 5, 2) := by decide +kernel
theorem d_L_actRecover_12 : decode b_L_actRecover 12 = .ok (.iconst 1, 1) := by decide +kernel
theorem d_L_actRecover_13 : decode b_L_actRecover 13 = .ok (.if_icmp .ne 17, 3) := by decide +kernel
theorem d_L_actRecover_16 : decode b_L_actRecover 16 = .ok (.aload_n 0, 1) := by decide +kernel
theorem d_L_actRecover_17 : decode b_L_actRecover 17 = .ok (.getfield 53, 3) := by decide +kernel
theorem d_L_actRecover_20 : decode b_L_actRecover 20 = .ok (.aload_n 1, 1) := by decide +kernel
theorem d_L_actRecover_21 : decode b_L_actRecover 21 = .ok (.getfield 217, 3) := by decide +kernel
theorem d_L_actRecover_24 : decode b_L_actRecover 24 = .ok (.invokestatic 223, 3) := by decide +kernel
theorem d_L_actRecover_27 : decode b_L_actRecover 27 = .ok (.ifCond .ne 6, 3) := by decide +kernel
theorem d_L_actRecover_30 : decode b_L_actRecover 30 = .ok (.iload 5, 2) := by decide +kernel
theorem d_L_actRecover_32 : decode b_L_actRecover 32 = .ok (.ireturn, 1) := by decide +kernel
theorem d_L_actRecover_33 : decode b_L_actRecover 33 = .ok (.aload_n 0, 1) := by decide +kernel
theorem d_L_actRecover_34 : decode b_L_actRecover 34 = .ok (.getfield 25, 3) := by decide +kernel
theorem d_L_actRecover_37 : decode b_L_actRecover 37 = .ok (.aload_n 1, 1) := by decide +kernel
theorem d_L_actRecover_38 : decode b_L_actRecover 38 = .ok (.getfield 214, 3) := by decide +kernel
theorem d_L_actRecover_41 : decode b_L_actRecover 41 = .ok (.aload_n 0, 1) := by decide +kernel
theorem d_L_actRecover_42 : decode b_L_actRecover 42 = .ok (.getfield 53, 3) := by decide +kernel
theorem d_L_actRecover_45 : decode b_L_actRecover 45 = .ok (.invokevirtual 171, 3) := by decide +kernel
theorem d_L_actRecover_48 : decode b_L_actRecover 48 = .ok (.ifCond .ne 8, 3) := by decide +kernel
theorem d_L_actRecover_51 : decode b_L_actRecover 51 = .ok (.aload_n 0, 1) := by decide +kernel
theorem d_L_actRecover_52 : decode b_L_actRecover 52 = .ok (.invokevirtual 175, 3) := by decide +kernel
theorem d_L_actRecover_55 : decode b_L_actRecover 55 = .ok (.ireturn, 1) := by decide +kernel
theorem d_L_actRecover_56 : decode b_L_actRecover 56 = .ok (.aload_n 0, 1) := by decide +kernel
theorem d_L_actRecover_57 : decode b_L_actRecover 57 = .ok (.aload_n 1, 1) := by decide +kernel
theorem d_L_actRecover_58 : decode b_L_actRecover 58 = .ok (.getfield 220, 3) := by decide +kernel
theorem d_L_actRecover_61 : decode b_L_actRecover 61 = .ok (.invokevirtual 184, 3) := by decide +kernel
theorem d_L_actRecover_64 : decode b_L_actRecover 64 = .ok (.ireturn, 1) := by decide +kernel
